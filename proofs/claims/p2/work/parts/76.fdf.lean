section
/-! what the facts say: the class's Board -/
abbrev fQ : Type := (Nat → Int32) × (Nat → Int32)
noncomputable abbrev fI (x : Int32) : jv := .inl x
noncomputable abbrev fR (a : Nat) : jv := .inr (.inr (some (.inl a)))
/-- how far from the edge, and what a man is worth on a square -/
noncomputable def fMid (s : Nat) : Nat := (if s % 8 < 4 then s % 8 else 7 - s % 8) + (if s / 8 < 4 then s / 8 else 7 - s / 8)
noncomputable def fWo (m s : Nat) : Nat := if m % 8 = 1 then 94 + 6 * (if m < 8 then s / 8 else 7 - s / 8) else if m % 8 = 2 then 320 + 4 * fMid s else if m % 8 = 3 then 330 + 3 * fMid s else if m % 8 = 4 then 500 else if m % 8 = 5 then 900 + fMid s else 0
noncomputable def fWa (j : Nat) : Int32 := nI (fWo (j / 64) (j % 64))
/-- where a knight goes to -/
noncomputable def fHp (s i : Nat) : Int := (((List.range 64).filter (fun t => decide (((t % 8 : Nat) : Int) - ((s % 8 : Nat) : Int) = 1 ∨ ((t % 8 : Nat) : Int) - ((s % 8 : Nat) : Int) = -1) && decide (((t / 8 : Nat) : Int) - ((s / 8 : Nat) : Int) = 2 ∨ ((t / 8 : Nat) : Int) - ((s / 8 : Nat) : Int) = -2) || decide (((t % 8 : Nat) : Int) - ((s % 8 : Nat) : Int) = 2 ∨ ((t % 8 : Nat) : Int) - ((s % 8 : Nat) : Int) = -2) && decide (((t / 8 : Nat) : Int) - ((s / 8 : Nat) : Int) = 1 ∨ ((t / 8 : Nat) : Int) - ((s / 8 : Nat) : Int) = -1))).map Int.ofNat).getD i (-1)
abbrev fP : Type := fQ ⊕ fQ
noncomputable def fq (p : fP) : fQ := match p with
  | .inl q => q
  | .inr q => q
noncomputable def fRc (s i : Int) : Int := if i = 0 then 7 - s / 8 else if i = 1 then s / 8 else if i = 2 then 7 - s % 8 else if i = 3 then s % 8 else if i = 4 then min (7 - s / 8) (7 - s % 8) else if i = 5 then min (7 - s / 8) (s % 8) else if i = 6 then min (s / 8) (7 - s % 8) else min (s / 8) (s % 8)
noncomputable def fSt (i : Int) : Int := if i = 0 then 8 else if i = 1 then -8 else if i = 2 then 1 else if i = 3 then -1 else if i = 4 then 9 else if i = 5 then 7 else if i = 6 then -7 else -9
noncomputable def fSm (s i : Int) : Int := (if 0 < i then fRc s 0 else 0) + (if 1 < i then fRc s 1 else 0) + (if 2 < i then fRc s 2 else 0) + (if 3 < i then fRc s 3 else 0) + (if 4 < i then fRc s 4 else 0) + (if 5 < i then fRc s 5 else 0) + (if 6 < i then fRc s 6 else 0) + (if 7 < i then fRc s 7 else 0)
/-- a move of the class -/
noncomputable def fMf (m : Int32) : Nat := (m >>> (9 &&& 31)).toNatClampNeg
noncomputable def fMt (m : Int32) : Nat := (m >>> (3 &&& 31) &&& 63).toNatClampNeg
noncomputable def fMb (m : Int32) : Nat := (m &&& 7).toNatClampNeg
noncomputable def fOw (men F : Nat → Int32) (s k : Nat) : Prop := (men s).toInt = 8 * (F 2).toInt + k
/-- the square of the pawn that passed -/
noncomputable def fPp (F : Nat → Int32) : Int := if (F 2).toInt = 0 then (F 4).toInt - 8 else (F 4).toInt + 8
noncomputable def fGood (men F : Nat → Int32) : Prop := ((F 4).toInt = -1 ∨ ((0 ≤ (F 4).toInt ∧ (men (F 4).toInt.toNat).toInt = 0 ∧ (men (fPp F).toNat).toInt = 8 * (1 - (F 2).toInt) + 1 ∧ ((F 2).toInt = 0 → 40 ≤ (F 4).toInt ∧ (F 4).toInt ≤ 47) ∧ ((F 2).toInt = 1 → 16 ≤ (F 4).toInt ∧ (F 4).toInt ≤ 23)))) ∧ (∀ s : Nat, s < 2 → ((F 3).toInt / (4 ^ s : Nat) % 2 = 1 → (men (56 * s + 4)).toInt = 8 * s + 6 ∧ (men (56 * s + 7)).toInt = 8 * s + 4) ∧ ((F 3).toInt / (2 * 4 ^ s : Nat) % 2 = 1 → (men (56 * s + 4)).toInt = 8 * s + 6 ∧ (men (56 * s)).toInt = 8 * s + 4) ∧ F (12 + s) = bSn fWa s men 64) ∧ (0 ≤ (F 2).toInt ∧ (F 2).toInt ≤ 1) ∧ (0 ≤ (F 3).toInt ∧ (F 3).toInt ≤ 15) ∧ ∀ i, i < 64 → 0 ≤ (men i).toInt ∧ (men i).toInt ≤ 14 ∧ ¬ (men i).toInt = 7 ∧ ¬ (men i).toInt = 8 ∧ ((¬ (men i).toInt = 1 ∧ ¬ (men i).toInt = 9) ∨ (8 ≤ i ∧ i ≤ 55))
/-- a move that make and unmake can take: f, t, what it becomes -/
noncomputable def fMv (men F : Nat → Int32) (f t b : Nat) : Prop := ∃ k : Nat, (1 ≤ k ∧ k ≤ 6) ∧ fOw men F f k ∧ f < 64 ∧ t < 64 ∧ b < 8 ∧ ¬ f = t ∧ ((¬ b = 0 → k = 1 ∧ 2 ≤ b ∧ b ≤ 5) ∧ (k = 1 → b = 0 → 8 ≤ t ∧ t ≤ 55)) ∧ (k = 6 → t = f + 2 → (f : Int) = 4 + 56 * (F 2).toInt ∧ (men (f + 1)).toInt = 0 ∧ (men (f + 2)).toInt = 0 ∧ (men (f + 3)).toInt = 8 * (F 2).toInt + 4) ∧ (k = 6 → f = t + 2 → (f : Int) = 4 + 56 * (F 2).toInt ∧ (men (f - 1)).toInt = 0 ∧ (men (f - 2)).toInt = 0 ∧ (men (f - 4)).toInt = 8 * (F 2).toInt + 4) ∧ (k = 1 → (t = f + 16 ∨ f = t + 16) → b = 0 ∧ (men ((f + t) / 2)).toInt = 0 ∧ ((F 2).toInt = 0 → 8 ≤ f ∧ f ≤ 15 ∧ t = f + 16) ∧ ((F 2).toInt = 1 → 48 ≤ f ∧ f ≤ 55 ∧ f = t + 16))
noncomputable def fM (men F : Nat → Int32) (m : Int32) : Prop := fMv men F (fMf m) (fMt m) (fMb m)
/-- the Board stands so -/
noncomputable def fAt (K : Nat → Nat) (n : Nat) (σ : Nat → jcell) (a : Nat) (men F : Nat → Int32) : Prop := a < n ∧ K a = 26 ∧ ∃ (fs : List jv) (r : Nat) (g : Nat → Int32), σ a = .inr (10, fs) ∧ fs[0]? = some (.inr (.inr (some (.inl r)))) ∧ r < n ∧ K r = 27 ∧ σ r = .inl (.int, 64, .inl g) ∧ (∀ i, i < 64 → g i = men i) ∧ fs[2]? = some (.inl (F 2)) ∧ fs[3]? = some (.inl (F 3)) ∧ fs[4]? = some (.inl (F 4)) ∧ fs[5]? = some (.inl (F 5)) ∧ ∃ (rw : Nat) (gw : Nat → Int32), fs[8]? = some (fR rw) ∧ rw < n ∧ K rw = 30 ∧ σ rw = .inl (.int, 2, .inl gw) ∧ gw 0 = F 12 ∧ gw 1 = F 13
noncomputable def fRw (k : Nat) : Prop := k = 9 ∨ k = 16 ∨ k = 22 ∨ k = 24
/-- moves of a row between two places -/
noncomputable def fLl (K : Nat → Nat) (n : Nat) (σ : Nat → jcell) (a : Nat) (P : Int → Prop) (Q : Int32 → Prop) : Prop := a < n ∧ fRw (K a) ∧ ∃ (m : Nat) (g : Nat → Int32), σ a = .inl (.int, m, .inl g) ∧ ∀ k : Nat, P k → Q (g k)
/-- a good position of the class -/
noncomputable def fGk (p : fP) : Prop := fGood (fq p).1 (fq p).2 ∧ ∃ q, p = .inl q
/-- a move made -/
noncomputable def fPm (q : fQ) (m : Int32) : Nat → Int32 := bMen q.1 (fMf m) (fMt m) (bWh q.1 q.2 (fMf m) (fMt m)).toNatClampNeg (bQ (q.1 (fMf m)).toNatClampNeg (fMb m)) (q.1 (fMf m)).toNatClampNeg (q.2 2).toNatClampNeg
noncomputable def fFw (F men : Nat → Int32) : Nat → Int32 := va_up (va_up F 12 (bSn fWa 0 men 64)) 13 (bSn fWa 1 men 64)
noncomputable def fPl (q : fQ) (m : Int32) : fQ := (fPm q m, fFw (bF q.2 (fPm q m) (fMf m) (fMt m) (q.1 (fMf m)).toNatClampNeg (q.1 (bWh q.1 q.2 (fMf m) (fMt m)).toNatClampNeg).toNatClampNeg) (fPm q m))
/-! the tree of a game -/
/-- an int row of a game -/
noncomputable def fRo (K : Nat → Nat) (n : Nat) (σ : Nat → jcell) (a f k : Nat) (g : Nat → Int32) : Prop := a < n ∧ K a = 25 ∧ ∃ (fs : List jv) (r : Nat), σ a = .inr (9, fs) ∧ fs[f]? = some (fR r) ∧ r < n ∧ K r = k ∧ σ r = .inl (.int, 301, .inl g)
noncomputable def fRl (K : Nat → Nat) (n : Nat) (σ : Nat → jcell) (a : Nat) (g : Nat → Int64) : Prop := a < n ∧ K a = 25 ∧ ∃ (fs : List jv) (r : Nat), σ a = .inr (9, fs) ∧ fs[7]? = some (fR r) ∧ r < n ∧ K r = 42 ∧ σ r = .inl (.long, 301, .inr (.inl g))
noncomputable def fFi (K : Nat → Nat) (n : Nat) (σ : Nat → jcell) (a f : Nat) (v : jv) : Prop := a < n ∧ K a = 25 ∧ ∃ (fs : List jv), σ a = .inr (9, fs) ∧ fs[f]? = some v
/-- what a tree is made of: parent, move, first, after, undo -/
abbrev fTy : Type := (Nat → Int32) × (Nat → Int32) × (Nat → Int32) × (Nat → Int32) × (Nat → Int64)
noncomputable def fTw (K : Nat → Nat) (n : Nat) (σ : Nat → jcell) (a : Nat) (t : fTy) : Prop := fRo K n σ a 3 38 t.1 ∧ fRo K n σ a 4 39 t.2.1 ∧ fRo K n σ a 5 40 t.2.2.1 ∧ fRo K n σ a 6 41 t.2.2.2.1 ∧ fRl K n σ a t.2.2.2.2
/-- nodes one behind the other -/
noncomputable def fCn (af : Nat → Int32) : Int → List Nat → Prop
  | x, [] => x = 0
  | x, c :: r => x = (c : Int) ∧ fCn af (af c).toInt r
/-- what unmake wants of a move and its number -/
noncomputable def fU (q : fQ) (m : Int32) (u : Int64) : Prop := u = bUd q.2 (q.1 (bWh q.1 q.2 (fMf m) (fMt m)).toNatClampNeg).toNatClampNeg ∧ 0 ≤ (q.2 5).toInt
noncomputable def fTs (N : Nat) (t : fTy) (h : Nat) (pos : Nat → fQ) (S : Nat → Prop) (L : Nat → List Nat) : Prop :=
  (∀ k, k ≤ N → fGood (pos k).1 (pos k).2 ∧ 0 ≤ ((pos k).2 5).toInt ∧ ((pos k).2 5).toInt ≤ 999 + k) ∧
  (∀ k, 1 ≤ k → k ≤ N → ∃ j : Nat, (t.1 k).toInt = j ∧ j < k ∧ fM (pos j).1 (pos j).2 (t.2.1 k) ∧ pos k = fPl (pos j) (t.2.1 k)) ∧
  (h = 0 ∨ S h) ∧
  (∀ k, S k → 1 ≤ k ∧ k ≤ N ∧ ∃ j : Nat, (t.1 k).toInt = j ∧ fU (pos j) (t.2.1 k) (t.2.2.2.2 k) ∧ (j = 0 ∨ S j) ∧ k ≤ h) ∧
  (∀ k, k ≤ N → (L k).Nodup ∧ fCn t.2.2.2.1 (t.2.2.1 k).toInt (L k) ∧ ∀ c ∈ L k, 1 ≤ c ∧ c ≤ N ∧ (t.1 c).toInt = k)
noncomputable def fTk (N : Nat) (t : fTy) (q : fQ) (h : Nat) : Prop := h ≤ N ∧ N ≤ 300 ∧ ∃ (pos : Nat → fQ) (S : Nat → Prop) (L : Nat → List Nat), pos h = q ∧ fTs N t h pos S L
noncomputable def fPa (K : Nat → Nat) (n : Nat) (σ : Nat → jcell) (a : Nat) (N : Int32) (pa pt : Nat → Int32) : Prop := fRo K n σ a 3 38 pa ∧ fRo K n σ a 12 47 pt ∧ fFi K n σ a 1 (fI N)
/-- the Board of the problems -/
noncomputable def fPb (K : Nat → Nat) (n : Nat) (σ : Nat → jcell) (a b : Nat) : Prop := a < n ∧ K a = 19 ∧ ∃ (c : Nat) (fs : List jv), σ a = .inr (c, fs) ∧ fs[7]? = some (fR b)
/-- up from a node -/
noncomputable def fUp (pa : Nat → Int32) : Nat → Nat → Nat
  | 0, x => x
  | k + 1, x => fUp pa k (pa x).toInt.toNat
noncomputable def fWs (N : Nat) (pa : Nat → Int32) (hd h0 h len : Nat) : Prop := h ≤ N ∧ fUp pa len h = h0 ∧ (∀ j, j < len → 1 ≤ fUp pa j h) ∧ 1 ≤ hd ∧ hd ≤ N ∧ (pa hd).toInt = h0
/-- a game that stands -/
noncomputable def fTG (K : Nat → Nat) (n : Nat) (σ : Nat → jcell) (a : Nat) : Prop := ∃ (b : Nat) (h N : Int32) (t : fTy) (q : fQ), fTw K n σ a t ∧ fFi K n σ a 0 (fR b) ∧ fFi K n σ a 1 (fI N) ∧ fFi K n σ a 2 (fI h) ∧ 0 ≤ h.toInt ∧ 0 ≤ N.toInt ∧ fTk N.toInt.toNat t q h.toInt.toNat ∧ fAt K n σ b q.1 q.2
/-- a field of an object -/
noncomputable def fOb (K : Nat → Nat) (n : Nat) (σ : Nat → jcell) (a k f : Nat) (v : jv) : Prop := a < n ∧ K a = k ∧ ∃ (c : Nat) (fs : List jv), σ a = .inr (c, fs) ∧ fs[f]? = some v
/-- the reader's row of nodes to come back to -/
noncomputable def fOu (K : Nat → Nat) (n : Nat) (σ : Nat → jcell) (a : Nat) (g : Nat → Int32) : Prop := ∃ (r : Nat), fOb K n σ a 11 2 (fR r) ∧ r < n ∧ K r = 12 ∧ σ r = .inl (.int, 6, .inl g)
noncomputable def fBf (K : Nat → Nat) (n : Nat) (σ : Nat → jcell) (b : Nat) : Prop := ∃ q : fQ, fAt K n σ b q.1 q.2 ∧ fGood q.1 q.2 ∧ 0 ≤ (q.2 5).toInt ∧ (q.2 5).toInt ≤ 999
/-- how many spaces stand in a row from a place on -/
noncomputable def fSn (g : Nat → Int32) (a : Nat) : Nat → Nat
  | 0 => 0
  | k + 1 => fSn g a k + (if (g (a + k)).toInt = 32 then 1 else 0)
/-- the row of the words -/
noncomputable def fWt (K : Nat → Nat) (n : Nat) (σ : Nat → jcell) (a : Nat) (g : Nat → Int32) : Prop := ∃ (r : Nat), fOb K n σ a 6 3 (fR r) ∧ r < n ∧ K r = 1 ∧ σ r = .inl (.byte, 65537, .inl g)
noncomputable def fSp (K : Nat → Nat) (n : Nat) (σ : Nat → jcell) (a m : Nat) (r : Int32) : Prop := ∃ (g : Nat → Int32) (s p : Int32), fWt K n σ a g ∧ fOb K n σ a 6 4 (fI s) ∧ fOb K n σ a 6 2 (fI p) ∧ 0 ≤ s.toInt ∧ 0 ≤ p.toInt ∧ ((r.toInt = -1 ∧ s.toInt ≤ p.toInt ∧ fSn g s.toInt.toNat (p.toInt.toNat - s.toInt.toNat) < m) ∨ (s.toInt ≤ r.toInt - 1 ∧ r.toInt ≤ p.toInt ∧ (g (r.toInt.toNat - 1)).toInt = 32 ∧ fSn g s.toInt.toNat (r.toInt.toNat - 1 - s.toInt.toNat) + 1 = m))
/-- the men of a Board, as they lie -/
noncomputable def fMe (K : Nat → Nat) (n : Nat) (σ : Nat → jcell) (b : Nat) (g : Nat → Int32) : Prop := ∃ (r : Nat), fOb K n σ b 26 0 (fR r) ∧ r < n ∧ K r = 27 ∧ σ r = .inl (.int, 64, .inl g)
noncomputable def fOm (x : Int32) : Prop := 0 ≤ x.toInt ∧ x.toInt ≤ 14 ∧ ¬ x.toInt = 7 ∧ ¬ x.toInt = 8
noncomputable def fRg (K : Nat → Nat) (n : Nat) (σ : Nat → jcell) (b : Nat) : Prop := ∃ (g : Nat → Int32) (R : Int32), fMe K n σ b g ∧ fOb K n σ b 26 3 (fI R) ∧ (R.toInt / 1 % 2 = 1 → (g 4).toInt = 6 ∧ (g 7).toInt = 4) ∧ (R.toInt / 2 % 2 = 1 → (g 4).toInt = 6 ∧ (g 0).toInt = 4) ∧ (R.toInt / 4 % 2 = 1 → (g 60).toInt = 14 ∧ (g 63).toInt = 12) ∧ (R.toInt / 8 % 2 = 1 → (g 60).toInt = 14 ∧ (g 56).toInt = 12)
noncomputable def fPs (K : Nat → Nat) (n : Nat) (σ : Nat → jcell) (b : Nat) : Prop := ∃ (g : Nat → Int32) (P S : Int32), fMe K n σ b g ∧ fOb K n σ b 26 4 (fI P) ∧ fOb K n σ b 26 2 (fI S) ∧ 0 ≤ P.toInt ∧ (g P.toInt.toNat).toInt = 0 ∧ ((S.toInt = 0 ∧ 40 ≤ P.toInt ∧ P.toInt ≤ 47 ∧ (g (P.toInt - 8).toNat).toInt = 9) ∨ (S.toInt = 1 ∧ 16 ≤ P.toInt ∧ P.toInt ≤ 23 ∧ (g (P.toInt + 8).toNat).toInt = 1))
/-- a line of moves -/
noncomputable def fLn (g : Nat → Int32) : fQ → Nat → Nat → Prop
  | _, _, 0 => True
  | q, i, k + 1 => fM q.1 q.2 (g i) ∧ fLn g (fPl q (g i)) (i + 1) k
noncomputable def fPc (K : Nat → Nat) (n : Nat) (σ : Nat → jcell) (a : Nat) (g : Nat → Int32) : Prop := ∃ (r : Nat), fOb K n σ a 19 4 (fR r) ∧ r < n ∧ K r = 20 ∧ σ r = .inl (.int, 4, .inl g)
noncomputable def fPu (K : Nat → Nat) (n : Nat) (σ : Nat → jcell) (a : Nat) (g : Nat → Int64) : Prop := ∃ (r : Nat), fOb K n σ a 19 5 (fR r) ∧ r < n ∧ K r = 21 ∧ σ r = .inl (.long, 4, .inr (.inl g))
/-- the first position, man by man -/
noncomputable def fPut : List (Nat × Int) := [(0, 4), (8, 1), (48, 9), (56, 12), (1, 2), (9, 1), (49, 9), (57, 10), (2, 3), (10, 1), (50, 9), (58, 11), (3, 5), (11, 1), (51, 9), (59, 13), (4, 6), (12, 1), (52, 9), (60, 14), (5, 3), (13, 1), (53, 9), (61, 11), (6, 2), (14, 1), (54, 9), (62, 10), (7, 4), (15, 1), (55, 9), (63, 12)]
noncomputable def fFst (k j : Nat) : Int := match (fPut.take k).find? (fun q => q.1 == j) with
  | some q => q.2
  | none => 0
/-- the worth that stands in the Board is that of its men -/
noncomputable def fWx (K : Nat → Nat) (n : Nat) (σ : Nat → jcell) (b : Nat) (g : Nat → Int32) : Prop := (∀ j : Nat, j < 64 → 0 ≤ (g j).toInt ∧ (g j).toInt ≤ 14) ∧ ∃ (r : Nat) (w : Nat → Int32), fOb K n σ b 26 8 (fR r) ∧ r < n ∧ K r = 30 ∧ σ r = .inl (.int, 2, .inl w) ∧ w 0 = bSn fWa 0 g 64 ∧ w 1 = bSn fWa 1 g 64
noncomputable def fNp (x : Int32) : Prop := ¬ x.toInt = 1 ∧ ¬ x.toInt = 9
/-- facts that are free of the ghost -/
noncomputable def fC0 (K : Nat → Nat) (n : Nat) (k : Nat) (vs : List jv) (σ : Nat → jcell) : Prop := match k with
  | 100 => ∃ (a b : Nat) (h N : Int32) (t : fTy) (q : fQ), vs = [fR a] ∧ fTw K n σ a t ∧ fFi K n σ a 0 (fR b) ∧ fFi K n σ a 1 (fI N) ∧ fFi K n σ a 2 (fI h) ∧ 0 ≤ h.toInt ∧ 0 ≤ N.toInt ∧ fTk N.toInt.toNat t q h.toInt.toNat ∧ fAt K n σ b q.1 q.2
  | 101 => ∃ (a b : Nat) (h N : Int32) (t : fTy) (q : fQ), vs = [fR a, fR b, fI h] ∧ fTw K n σ a t ∧ fFi K n σ a 1 (fI N) ∧ 0 ≤ h.toInt ∧ 0 ≤ N.toInt ∧ fTk N.toInt.toNat t q h.toInt.toNat ∧ fAt K n σ b q.1 q.2
  | 102 => ∃ (a : Nat) (l x N : Int32) (pa pt : Nat → Int32), vs = [fR a, fI l, fI x] ∧ fPa K n σ a N pa pt ∧ (∀ j : Nat, j < l.toInt.toNat → 1 ≤ (pt j).toInt ∧ (pt j).toInt ≤ N.toInt) ∧ (∀ j : Nat, j + 1 < l.toInt.toNat → pa (pt j).toInt.toNat = pt (j + 1)) ∧ (1 ≤ l.toInt → pa (pt (l.toInt.toNat - 1)).toInt.toNat = x) ∧ x.toInt ≤ N.toInt
  | 103 => ∃ (a : Nat) (i x N : Int32) (pa pt : Nat → Int32), vs = [fR a, fI i, fI x] ∧ fPa K n σ a N pa pt ∧ (∀ j : Nat, (j : Int) ≤ i.toInt → 1 ≤ (pt j).toInt ∧ (pt j).toInt ≤ N.toInt) ∧ (∀ j : Nat, (j : Int) + 1 ≤ i.toInt → pa (pt j).toInt.toNat = pt (j + 1)) ∧ (0 ≤ i.toInt → pa (pt i.toInt.toNat).toInt.toNat = x)
  | 108 => ∃ (a : Nat) (l N : Int32) (pa pt : Nat → Int32), vs = [fR a, fI l] ∧ fPa K n σ a N pa pt ∧ (∀ j : Nat, (j : Int) ≤ l.toInt → 1 ≤ (pt j).toInt ∧ (pt j).toInt ≤ N.toInt) ∧ (∀ j : Nat, (j : Int) + 1 ≤ l.toInt → pa (pt j).toInt.toNat = pt (j + 1))
  | 104 => ∃ (a : Nat) (c h N : Int32) (pa : Nat → Int32), vs = [fR a, fI c, fI h] ∧ fRo K n σ a 3 38 pa ∧ fFi K n σ a 1 (fI N) ∧ 1 ≤ c.toInt ∧ c.toInt ≤ N.toInt ∧ pa c.toInt.toNat = h
  | 105 => ∃ (a : Nat) (c h m N : Int32) (pa mv : Nat → Int32), vs = [fR a, fI c, fI h, fI m] ∧ fRo K n σ a 3 38 pa ∧ fFi K n σ a 1 (fI N) ∧ fRo K n σ a 4 39 mv ∧ 1 ≤ c.toInt ∧ c.toInt ≤ N.toInt ∧ pa c.toInt.toNat = h ∧ mv c.toInt.toNat = m
  | 109 => ∃ (a : Nat) (c h m : Int32), vs = [fR a, fI c, fI h, fI m] ∧ (c.toInt ≤ 0 ∨ ∃ (N : Int32) (pa mv : Nat → Int32), fRo K n σ a 3 38 pa ∧ fFi K n σ a 1 (fI N) ∧ fRo K n σ a 4 39 mv ∧ 1 ≤ c.toInt ∧ c.toInt ≤ N.toInt ∧ pa c.toInt.toNat = h ∧ mv c.toInt.toNat = m)
  | 106 => ∃ (a : Nat) (h c i N : Int32) (pa fi af : Nat → Int32) (L : List Nat), vs = [fR a, fI h, fI c, fI i] ∧ fRo K n σ a 3 38 pa ∧ fRo K n σ a 5 40 fi ∧ fRo K n σ a 6 41 af ∧ fFi K n σ a 1 (fI N) ∧ 0 ≤ N.toInt ∧ N.toInt ≤ 300 ∧ L.Nodup ∧ fCn af (fi h.toInt.toNat).toInt L ∧ (∀ c ∈ L, 1 ≤ c ∧ (c : Int) ≤ N.toInt ∧ pa c = h) ∧ 0 ≤ i.toInt ∧ fCn af c.toInt (L.drop i.toInt.toNat)
  | 107 => ∃ (a : Nat) (c h m : Int32) (t : fTy), vs = [fR a, fI c, fI h, fI m] ∧ fTw K n σ a t ∧ t.1 c.toInt.toNat = h ∧ t.2.1 c.toInt.toNat = m ∧ (t.2.2.1 c.toInt.toNat).toInt = 0 ∧ (t.2.2.2.1 c.toInt.toNat).toInt = 0
  | 111 => ∃ (z : Int32), vs = [fI z]
  | 112 => ∃ (z : Int32), vs = [fI z]
  | 113 => ∃ (a : Nat) (c v : Int32) (af : Nat → Int32), vs = [fR a, fI c, fI v] ∧ fRo K n σ a 6 41 af ∧ af c.toInt.toNat = v
  | 114 => ∃ (a b : Nat), vs = [fR a, fR b] ∧ fPb K n σ a b
  | 115 => ∃ (x : Int32) (a b : Nat), vs = [fI x, fR a, fR b] ∧ (x.toInt ≤ 0 ∨ fPb K n σ a b)
  | 116 => ∃ (a b : Nat) (c N : Int32) (t : fTy) (q : fQ), vs = [fR a, fR b, fI c] ∧ fTw K n σ a t ∧ fFi K n σ a 1 (fI N) ∧ 1 ≤ c.toInt ∧ c.toInt ≤ N.toInt ∧ 0 ≤ (t.1 c.toInt.toNat).toInt ∧ fTk N.toInt.toNat t q (t.1 c.toInt.toNat).toInt.toNat ∧ fAt K n σ b q.1 q.2
  | 117 => ∃ (a : Nat) (o nd N : Int32) (pa fi af : Nat → Int32) (M : List Nat), vs = [fR a, fI o, fI nd] ∧ fRo K n σ a 3 38 pa ∧ fRo K n σ a 5 40 fi ∧ fRo K n σ a 6 41 af ∧ fFi K n σ a 1 (fI N) ∧ fCn af o.toInt M ∧ ∀ c ∈ M, 1 ≤ c ∧ (c : Int) ≤ N.toInt ∧ pa c = pa nd.toInt.toNat
  | 118 => ∃ (a : Nat) (nd x : Int32) (pa fi : Nat → Int32), vs = [fR a, fI nd, fI x] ∧ fRo K n σ a 3 38 pa ∧ fRo K n σ a 5 40 fi ∧ fi (pa nd.toInt.toNat).toInt.toNat = x
  | 119 => ∃ (a : Nat) (hd nd ls len N : Int32) (pa : Nat → Int32) (h h0 : Nat), vs = [fR a, fI hd, fI nd, fI ls, fI len] ∧ fRo K n σ a 3 38 pa ∧ fFi K n σ a 1 (fI N) ∧ 1 ≤ nd.toInt ∧ nd.toInt ≤ N.toInt ∧ (pa nd.toInt.toNat).toInt = h ∧ fWs N.toInt.toNat pa hd.toInt.toNat h0 h len.toInt.toNat ∧ (1 ≤ len.toInt → ls.toInt = h) ∧ 0 ≤ len.toInt
  | 120 => ∃ (a : Nat) (nd x : Int32), vs = [fR a, fI nd, fI x] ∧ (x.toInt ≤ 0 ∨ ∃ (pa fi : Nat → Int32), fRo K n σ a 3 38 pa ∧ fRo K n σ a 5 40 fi ∧ fi (pa nd.toInt.toNat).toInt.toNat = nd)
  | 121 => ∃ (g a : Nat), vs = [fR g, fR a] ∧ ((∃ x : Int32, fOb K n σ g 11 9 (fI x) ∧ ¬ x.toInt = 0) ∨ (fTG K n σ a ∧ (∃ s h : Int32, fOb K n σ g 11 10 (fI s) ∧ fFi K n σ a 2 (fI h) ∧ (2 ≤ s.toInt → s.toInt ≤ 4 → 1 ≤ h.toInt)) ∧ ∃ (o N : Int32) (gg : Nat → Int32), fOb K n σ g 11 11 (fI o) ∧ fFi K n σ a 1 (fI N) ∧ fOu K n σ g gg ∧ ∀ j : Nat, (j : Int) < o.toInt → 1 ≤ (gg j).toInt ∧ (gg j).toInt ≤ N.toInt))
  | 122 => ∃ (g : Nat) (m k : Int32) (gg : Nat → Int32), vs = [fR g, fI m, fI k] ∧ fOu K n σ g gg ∧ ∀ j : Nat, (j : Int) < m.toInt → 1 ≤ (gg j).toInt ∧ (gg j).toInt ≤ k.toInt
  | 123 => ∃ (a : Nat) (s h : Int32), vs = [fR a, fI s] ∧ fFi K n σ a 2 (fI h) ∧ (2 ≤ s.toInt → s.toInt ≤ 4 → 1 ≤ h.toInt)
  | 124 => ∃ (a : Nat) (fi : Nat → Int32), vs = [fR a] ∧ fRo K n σ a 5 40 fi ∧ (fi 0).toInt = 0
  | 125 => ∃ (x : Int32) (a : Nat), vs = [fI x, fR a] ∧ (¬ x.toInt = 0 ∨ fTG K n σ a)
  | 126 => ∃ (c g a : Nat), vs = [fR c, fR g, fR a] ∧ ((fOb K n σ c 0 10 (fR g) ∧ fOb K n σ c 0 11 (fR a)) ∨ (fOb K n σ c 0 10 (fR a) ∧ fOb K n σ c 0 11 (fR g) ∧ fTG K n σ a))
  | 127 => ∃ (b : Nat), vs = [fR b] ∧ fBf K n σ b
  | 128 => ∃ (x : Int32) (b : Nat), vs = [fI x, fR b] ∧ (¬ x.toInt = 0 ∨ fBf K n σ b)
  | 129 => ∃ (g : Nat) (m k : Int32) (gg : Nat → Int32), vs = [fR g, fI m, fI k] ∧ fOu K n σ g gg ∧ ∀ j : Nat, (j : Int) ≤ m.toInt → 1 ≤ (gg j).toInt ∧ (gg j).toInt ≤ k.toInt
  | 131 => ∃ (a : Nat) (i c s : Int32) (g : Nat → Int32), vs = [fR a, fI i, fI c] ∧ fWt K n σ a g ∧ fOb K n σ a 6 4 (fI s) ∧ 0 ≤ s.toInt ∧ s.toInt ≤ i.toInt ∧ c.toInt = fSn g s.toInt.toNat (i.toInt.toNat - s.toInt.toNat)
  | 132 => ∃ (a : Nat) (r : Int32), vs = [fR a, fI r] ∧ fSp K n σ a 1 r
  | 133 => ∃ (a : Nat) (r : Int32), vs = [fR a, fI r] ∧ fSp K n σ a 2 r
  | 134 => ∃ (a : Nat) (i c : Int32) (g : Nat → Int32), vs = [fR a, fI i, fI c] ∧ fWt K n σ a g ∧ g i.toInt.toNat = c
  | 135 => ∃ (r : Nat) (i : Int32) (g : Nat → Int32), vs = [fR r, fI i] ∧ r < n ∧ K r = 27 ∧ σ r = .inl (.int, 64, .inl g) ∧ ∀ j : Nat, (j : Int) < i.toInt → (g j).toInt = 0
  | 136 => ∃ (r : Nat) (i : Int32) (g : Nat → Int32), vs = [fR r, fI i] ∧ r < n ∧ K r = 27 ∧ σ r = .inl (.int, 64, .inl g) ∧ ∀ j : Nat, (j : Int) ≤ i.toInt → (g j).toInt = 0
  | 145 => ∃ (r : Nat) (g : Nat → Int32), vs = [fR r] ∧ r < n ∧ K r = 27 ∧ σ r = .inl (.int, 64, .inl g) ∧ ∀ j : Nat, j < 64 → (g j).toInt = 0
  | 137 => ∃ (b : Nat) (g : Nat → Int32), vs = [fR b] ∧ fMe K n σ b g ∧ ∀ j : Nat, j < 64 → fOm (g j)
  | 146 => ∃ (b : Nat) (s v : Int32) (g : Nat → Int32), vs = [fR b, fI s, fI v] ∧ fMe K n σ b g ∧ g s.toInt.toNat = v
  | 147 => ∃ (b : Nat) (s v : Int32) (g : Nat → Int32), vs = [fR b, fI s, fI v] ∧ fMe K n σ b g ∧ g s.toInt.toNat = v
  | 142 => ∃ (b : Nat), vs = [fR b] ∧ fRg K n σ b
  | 148 => ∃ (b : Nat) (x : Int32), vs = [fR b, fI x] ∧ (x.toInt ≤ 0 ∨ fRg K n σ b)
  | 143 => ∃ (b : Nat), vs = [fR b] ∧ fPs K n σ b
  | 149 => ∃ (b : Nat) (x : Int32), vs = [fR b, fI x] ∧ (x.toInt ≤ 0 ∨ fPs K n σ b)
  | 138 => ∃ (b : Nat) (g : Nat → Int32) (R : Int32), vs = [fR b] ∧ fMe K n σ b g ∧ fOb K n σ b 26 3 (fI R) ∧ (R.toInt / 1 % 2 = 1 → (g 4).toInt = 6 ∧ (g 7).toInt = 4)
  | 139 => ∃ (b : Nat) (g : Nat → Int32) (R : Int32), vs = [fR b] ∧ fMe K n σ b g ∧ fOb K n σ b 26 3 (fI R) ∧ (R.toInt / 2 % 2 = 1 → (g 4).toInt = 6 ∧ (g 0).toInt = 4)
  | 140 => ∃ (b : Nat) (g : Nat → Int32) (R : Int32), vs = [fR b] ∧ fMe K n σ b g ∧ fOb K n σ b 26 3 (fI R) ∧ (R.toInt / 4 % 2 = 1 → (g 60).toInt = 14 ∧ (g 63).toInt = 12)
  | 141 => ∃ (b : Nat) (g : Nat → Int32) (R : Int32), vs = [fR b] ∧ fMe K n σ b g ∧ fOb K n σ b 26 3 (fI R) ∧ (R.toInt / 8 % 2 = 1 → (g 60).toInt = 14 ∧ (g 56).toInt = 12)
  | 150 => ∃ (b : Nat) (x R : Int32), vs = [fR b, fI x] ∧ fOb K n σ b 26 3 (fI R) ∧ x.toInt = R.toInt / 1 % 2
  | 151 => ∃ (b : Nat) (x R : Int32), vs = [fR b, fI x] ∧ fOb K n σ b 26 3 (fI R) ∧ x.toInt = R.toInt / 2 % 2
  | 152 => ∃ (b : Nat) (x R : Int32), vs = [fR b, fI x] ∧ fOb K n σ b 26 3 (fI R) ∧ x.toInt = R.toInt / 4 % 2
  | 153 => ∃ (b : Nat) (x R : Int32), vs = [fR b, fI x] ∧ fOb K n σ b 26 3 (fI R) ∧ x.toInt = R.toInt / 8 % 2
  | 154 => ∃ (b : Nat) (g : Nat → Int32), vs = [fR b] ∧ fMe K n σ b g ∧ fWx K n σ b g
  | 155 => ∃ (b : Nat) (s : Int32) (g : Nat → Int32), vs = [fR b, fI s] ∧ fMe K n σ b g ∧ ∀ j : Nat, j < 64 → (j / 8 < s.toInt.toNat / 8 ∨ (j / 8 = s.toInt.toNat / 8 ∧ s.toInt.toNat % 8 ≤ j % 8)) → (g j).toInt = 0
  | 144 => ∃ (b : Nat) (s : Int32) (g : Nat → Int32), vs = [fR b, fI s] ∧ fMe K n σ b g ∧ ∀ j : Nat, j < 64 → (j / 8 < s.toInt.toNat / 8 ∨ (j / 8 = s.toInt.toNat / 8 ∧ s.toInt.toNat % 8 < j % 8)) → (g j).toInt = 0
  | 156 => ∃ (b : Nat) (r f : Int32) (g : Nat → Int32), vs = [fR b, fI r, fI f] ∧ fMe K n σ b g ∧ ∀ j : Nat, j < 64 → (((j / 8 : Nat) : Int) < r.toInt ∨ (((j / 8 : Nat) : Int) = r.toInt ∧ f.toInt ≤ ((j % 8 : Nat) : Int))) → (g j).toInt = 0
  | 157 => ∃ (b : Nat) (i : Int32) (g : Nat → Int32), vs = [fR b, fI i] ∧ fMe K n σ b g ∧ ∀ j : Nat, (j : Int) < i.toInt → fNp (g j) ∧ fNp (g (56 + j))
  | 130 => ∃ (b : Nat) (i : Int32) (g : Nat → Int32), fMe K n σ b g ∧ ((vs = [fR b, fI i] ∧ (∀ j : Nat, (j : Int) < i.toInt → fNp (g j) ∧ fNp (g (56 + j))) ∧ fNp (g i.toInt.toNat)) ∨ (∃ x : Int32, vs = [fR b, fI i, fI x] ∧ ∀ j : Nat, (j : Int) < i.toInt + 1 → fNp (g j) ∧ fNp (g (56 + j))) ∨ (∃ v w : Int32, vs = [fR b, fI i, fI v, fI w] ∧ g (56 + i.toInt.toNat) = v))
  | 158 => ∃ (r : Nat) (g : Nat → Int32), vs = [fR r] ∧ r < n ∧ K r = 30 ∧ σ r = .inl (.int, 2, .inl g) ∧ g 0 = 0
  | 159 => ∃ (r : Nat) (g : Nat → Int32), vs = [fR r] ∧ r < n ∧ K r = 30 ∧ σ r = .inl (.int, 2, .inl g) ∧ g 0 = 0 ∧ g 1 = 0
  | 110 => ∃ (a : Nat) (c m : Int32) (mv : Nat → Int32), vs = [fR a, fI c, fI m] ∧ fRo K n σ a 4 39 mv ∧ mv c.toInt.toNat = m
  | _ => False
/-! what is attacked and where men go, over men and fields -/
noncomputable def fEm (M : Nat → Int32) (s i k : Int) : Prop := ∀ q : Int, 1 ≤ q → q < k → (M (s + q * fSt i).toNat).toInt = 0
noncomputable def fHit (m b i k : Int) : Prop := m / 8 = b ∧ (m % 8 = 5 ∨ (i < 4 ∧ m % 8 = 4) ∨ (4 ≤ i ∧ m % 8 = 3) ∨ (k = 1 ∧ (m % 8 = 6 ∨ (m % 8 = 1 ∧ 4 ≤ i ∧ ((b = 0 ∧ fSt i < 0) ∨ (b = 1 ∧ 0 < fSt i))))))
noncomputable def fRy (M : Nat → Int32) (s b i : Int) : Prop := ∃ k : Int, 1 ≤ k ∧ k ≤ fRc s i ∧ fEm M s i k ∧ ¬ (M (s + k * fSt i).toNat).toInt = 0 ∧ fHit (M (s + k * fSt i).toNat).toInt b i k
noncomputable def fHo (M : Nat → Int32) (s b : Int) : Prop := ∃ j : Nat, j < 8 ∧ 0 ≤ fHp s.toNat j ∧ (M (fHp s.toNat j).toNat).toInt = 8 * b + 2
noncomputable def fAk (M : Nat → Int32) (s b : Int) : Prop := fHo M s b ∨ ∃ i : Int, 0 ≤ i ∧ i < 8 ∧ fRy M s b i
noncomputable def fEn (M F : Nat → Int32) (t : Int) : Prop := (M t.toNat).toInt = 0 ∨ ¬ (M t.toNat).toInt / 8 = (F 2).toInt
noncomputable def fOn (M F : Nat → Int32) (t : Int) : Prop := ¬ (M t.toNat).toInt = 0 ∧ (M t.toNat).toInt / 8 = (F 2).toInt
noncomputable def fSl (M F : Nat → Int32) (f kd i k : Int) : Prop := 0 ≤ i ∧ i < 8 ∧ (kd = 3 → 4 ≤ i) ∧ (kd = 4 → i < 4) ∧ 1 ≤ k ∧ k ≤ fRc f i ∧ fEm M f i k ∧ fEn M F (f + k * fSt i)
noncomputable def fSx (M F : Nat → Int32) (f kd : Int) (P : Int → Int → Prop) (x : Int32) : Prop := ∃ i k : Int, fSl M F f kd i k ∧ P i k ∧ x.toInt = 512 * f + 8 * (f + k * fSt i)
noncomputable def fHx (M F : Nat → Int32) (f : Int) (P : Int → Prop) (x : Int32) : Prop := ∃ j : Nat, j < 8 ∧ 0 ≤ fHp f.toNat j ∧ fEn M F (fHp f.toNat j) ∧ P (8 * f + j) ∧ x.toInt = 512 * f + 8 * fHp f.toNat j
noncomputable def fCs (M F : Nat → Int32) (f ck : Int) : Prop := ck = 0 ∧ f = 4 + 56 * (F 2).toInt ∧ (F 3).toInt / ((4 ^ (F 2).toInt.toNat : Nat) : Int) % 2 = 1 ∧ (M (f + 1).toNat).toInt = 0 ∧ (M (f + 2).toNat).toInt = 0
noncomputable def fCl (M F : Nat → Int32) (f ck : Int) : Prop := ck = 0 ∧ f = 4 + 56 * (F 2).toInt ∧ (F 3).toInt / ((2 * 4 ^ (F 2).toInt.toNat : Nat) : Int) % 2 = 1 ∧ (M (f - 1).toNat).toInt = 0 ∧ (M (f - 2).toNat).toInt = 0 ∧ (M (f - 3).toNat).toInt = 0
noncomputable def fKx (M F : Nat → Int32) (f ck : Int) (P : Int → Prop) (c1 c2 : Prop) (x : Int32) : Prop := (∃ i : Int, 0 ≤ i ∧ i < 8 ∧ 0 < fRc f i ∧ fEn M F (f + fSt i) ∧ P i ∧ x.toInt = 512 * f + 8 * (f + fSt i)) ∨ (c1 ∧ fCs M F f ck ∧ x.toInt = 512 * f + 8 * (f + 2)) ∨ (c2 ∧ fCl M F f ck ∧ x.toInt = 512 * f + 8 * (f - 2))
noncomputable def fOne (F : Nat → Int32) (f : Int) : Int := f + 8 - 16 * (F 2).toInt
noncomputable def fLa (F : Nat → Int32) (f : Int) : Prop := fOne F f < 8 ∨ 55 < fOne F f
noncomputable def fPg (M F : Nat → Int32) (f t : Int) : Prop := (t = fOne F f → (M t.toNat).toInt = 0) ∧ (¬ t = fOne F f → 0 ≤ t ∧ t < 64 ∧ t / 8 = fOne F f / 8 ∧ ((M t.toNat).toInt = 0 → t = (F 4).toInt) ∧ (¬ (M t.toNat).toInt = 0 → ¬ (M t.toNat).toInt / 8 = (F 2).toInt))
noncomputable def fPx (M F : Nat → Int32) (f : Int) (P : Int → Int → Prop) (c : Prop) (x : Int32) : Prop := (0 ≤ fOne F f ∧ fOne F f ≤ 63) ∧ ((∃ t b : Int, fOne F f - 1 ≤ t ∧ t ≤ fOne F f + 1 ∧ fPg M F f t ∧ (fLa F f → 2 ≤ b ∧ b ≤ 5) ∧ (¬ fLa F f → b = 0) ∧ P t b ∧ x.toInt = 512 * f + 8 * t + b) ∨ (c ∧ f / 8 = 1 + 5 * (F 2).toInt ∧ (M (fOne F f).toNat).toInt = 0 ∧ (M (fOne F f + 8 - 16 * (F 2).toInt).toNat).toInt = 0 ∧ x.toInt = 512 * f + 8 * (fOne F f + 8 - 16 * (F 2).toInt)))
/-- the moves of a man -/
noncomputable def fGn (M F : Nat → Int32) (ck f : Int) (x : Int32) : Prop := ((M f.toNat).toInt % 8 = 1 ∧ fPx M F f (fun _ _ => True) True x) ∨ ((M f.toNat).toInt % 8 = 2 ∧ fHx M F f (fun _ => True) x) ∨ ((M f.toNat).toInt % 8 = 6 ∧ fKx M F f ck (fun _ => True) True True x) ∨ (3 ≤ (M f.toNat).toInt % 8 ∧ (M f.toNat).toInt % 8 ≤ 5 ∧ fSx M F f ((M f.toNat).toInt % 8) (fun _ _ => True) x)
noncomputable def fFr (h f ck : Int) : Prop := ck = 0 ∧ ¬ f % 8 = h % 8 ∧ ¬ f / 8 = h / 8 ∧ ¬ f % 8 - h % 8 = f / 8 - h / 8 ∧ ¬ f % 8 - h % 8 = - (f / 8 - h / 8)
noncomputable def fOv (M : Nat → Int32) (f w t m : Int32) : Nat → Int32 := upd (upd (upd M f.toNatClampNeg 0) w.toNatClampNeg 0) t.toNatClampNeg m
/-- a move that leaves its king safe, as legal looks at it -/
noncomputable def fSf (M F : Nat → Int32) (h ck f : Int) (x : Int32) : Prop := (fFr h f ck ∧ bWh M F f.toNat (fMt x) = nI (fMt x)) ∨ (¬ fAk (fOv M (nI f.toNat) (bWh M F f.toNat (fMt x)) (nI (fMt x)) (M f.toNat)) (if (M f.toNat).toInt % 8 = 6 then (fMt x : Int) else h) (1 - (F 2).toInt) ∧ ((M f.toNat).toInt % 8 = 6 → ((fMt x : Int) - f = 2 ∨ f - (fMt x : Int) = 2) → ¬ fAk (fOv M (nI f.toNat) (bWh M F f.toNat (fMt x)) (nI (fMt x)) (M f.toNat)) ((f + (fMt x : Int)) / 2) (1 - (F 2).toInt)))
/-- there is a legal move -/
noncomputable def fHL (M F : Nat → Int32) (h : Int) : Prop := ∃ ck : Int, (ck = 0 ∨ ck = 1) ∧ (ck = 1 ↔ fAk M h (1 - (F 2).toInt)) ∧ ∃ (f : Int) (x : Int32), 0 ≤ f ∧ f < 64 ∧ fOn M F f ∧ fGn M F ck f x ∧ fSf M F h ck f x
noncomputable def fNo (M F : Nat → Int32) (h ck f : Int) : Prop := ∀ f' : Int, 0 ≤ f' → f' < f → fOn M F f' → ∀ x, fGn M F ck f' x → ¬ fSf M F h ck f' x
noncomputable def fCk (M F : Nat → Int32) (h ck : Int) : Prop := (ck = 0 ∨ ck = 1) ∧ (ck = 1 ↔ fAk M h (1 - (F 2).toInt))
/-- facts of the ghost alone -/
noncomputable def fEp (p : fP) (k : Nat) (vs : List jv) : Prop := match k with
  | 8 => ∃ a z f h c : Int32, vs = [fI a, fI z, fI f, fI h, fI c] ∧ fCk (fq p).1 (fq p).2 h.toInt c.toInt ∧ (a.toInt < z.toInt → fHL (fq p).1 (fq p).2 h.toInt) ∧ (a.toInt = z.toInt → fNo (fq p).1 (fq p).2 h.toInt c.toInt f.toInt)
  | 17 => (∃ r : Int32, vs = [fI r] ∧ r = bPP (fq p).2) ∨ ∃ f t w : Int32, vs = [fI f, fI t, fI w] ∧ w = bWh (fq p).1 (fq p).2 f.toInt.toNat t.toInt.toNat
  | 29 => ∃ h c f m r : Int32, vs = [fI h, fI c, fI f, fI m, fI r] ∧ ((r.toInt = 1 ∧ fSf (fq p).1 (fq p).2 h.toInt c.toInt f.toInt m) ∨ (r.toInt = 0 ∧ ¬ fSf (fq p).1 (fq p).2 h.toInt c.toInt f.toInt m))
  | 48 => ∃ t : Int32, vs = [fI t] ∧ fEn (fq p).1 (fq p).2 t.toInt
  | 49 => ∃ t : Int32, vs = [fI t] ∧ fOn (fq p).1 (fq p).2 t.toInt
  | 50 => ∃ f i t : Int32, vs = [fI f, fI i, fI t] ∧ t.toInt = f.toInt + fSt i.toInt ∧ 0 < fRc f.toInt i.toInt
  | 51 => ∃ f : Int32, vs = [fI f] ∧ ((fq p).2 3).toInt / ((4 ^ ((fq p).2 2).toInt.toNat : Nat) : Int) % 2 = 1
  | 52 => ∃ f : Int32, vs = [fI f] ∧ ¬ ((fq p).2 3).toInt / ((4 ^ ((fq p).2 2).toInt.toNat : Nat) : Int) % 2 = 1
  | 53 => ∃ f : Int32, vs = [fI f] ∧ ((fq p).2 3).toInt / ((2 * 4 ^ ((fq p).2 2).toInt.toNat : Nat) : Int) % 2 = 1
  | 54 => ∃ f : Int32, vs = [fI f] ∧ ¬ ((fq p).2 3).toInt / ((2 * 4 ^ ((fq p).2 2).toInt.toNat : Nat) : Int) % 2 = 1
  | 55 => ∃ f v : Int32, vs = [fI f, fI v] ∧ (fq p).1 (f.toInt - 3).toNat = v
  | 56 => (∃ f t : Int32, vs = [fI f, fI t] ∧ fPg (fq p).1 (fq p).2 f.toInt t.toInt) ∨ ∃ f w t m x r : Int32, vs = [fI f, fI w, fI t, fI m, fI x, fI r] ∧ ((r.toInt = 1 ∧ fAk (fOv (fq p).1 f w t m) x.toInt (1 - ((fq p).2 2).toInt)) ∨ (r.toInt = 0 ∧ ¬ fAk (fOv (fq p).1 f w t m) x.toInt (1 - ((fq p).2 2).toInt)))
  | 57 => (∃ f t : Int32, vs = [fI f, fI t] ∧ ¬ fPg (fq p).1 (fq p).2 f.toInt t.toInt) ∨ ∃ f w t m x r : Int32, vs = [fI f, fI w, fI t, fI m, fI x, fI r] ∧ ((r.toInt = 1 ∧ fAk (fOv (fq p).1 f w t m) x.toInt (1 - ((fq p).2 2).toInt)) ∨ (r.toInt = 0 ∧ ¬ fAk (fOv (fq p).1 f w t m) x.toInt (1 - ((fq p).2 2).toInt)))
  | 58 => (∃ f r : Int32, vs = [fI f, fI r] ∧ ((r.toInt = 1 ∧ fLa (fq p).2 f.toInt) ∨ (r.toInt = 0 ∧ ¬ fLa (fq p).2 f.toInt))) ∨ ∃ f : Int32, vs = [fI f] ∧ ¬ f.toInt / 8 = 1 + 5 * ((fq p).2 2).toInt
  | 59 => (∃ f o : Int32, vs = [fI f, fI o] ∧ o.toInt = fOne (fq p).2 f.toInt) ∨ ∃ f v : Int32, vs = [fI f, fI f, fI v] ∧ (fq p).1 (fOne (fq p).2 f.toInt + 8 - 16 * ((fq p).2 2).toInt).toNat = v
  | _ => False
/-- a piece of a list: what each of its moves is, and which moves are there -/
noncomputable def fCv (K : Nat → Nat) (n : Nat) (σ : Nat → jcell) (a : Nat) (lo hi : Int) (S C : Int32 → Prop) : Prop := a < n ∧ fRw (K a) ∧ ∃ (m : Nat) (g : Nat → Int32), σ a = .inl (.int, m, .inl g) ∧ (∀ k : Nat, lo ≤ k → k < hi → S (g k)) ∧ ∀ x, C x → ∃ k : Nat, lo ≤ k ∧ k < hi ∧ g k = x
noncomputable def fEt (M F : Nat → Int32) (k : Nat) (rest : List jv) (lo hi : Int32) (S C : Int32 → Prop) : Prop := match k with
  | 77 => ∃ f kd i : Int32, rest = [fI f, fI kd, fI i] ∧ S = fSx M F f.toInt kd.toInt (fun _ _ => True) ∧ C = fSx M F f.toInt kd.toInt (fun j _ => j < i.toInt) ∧ (kd.toInt = 3 → 4 ≤ i.toInt)
  | 78 => ∃ f kd i k : Int32, rest = [fI f, fI kd, fI i, fI k] ∧ S = fSx M F f.toInt kd.toInt (fun _ _ => True) ∧ C = fSx M F f.toInt kd.toInt (fun j q => j < i.toInt ∨ (j = i.toInt ∧ q < k.toInt)) ∧ fEm M f.toInt i.toInt k.toInt ∧ (kd.toInt = 3 → 4 ≤ i.toInt) ∧ (kd.toInt = 4 → i.toInt < 4)
  | 79 => ∃ f kd i k : Int32, rest = [fI f, fI kd, fI i, fI k] ∧ S = fSx M F f.toInt kd.toInt (fun _ _ => True) ∧ C = fSx M F f.toInt kd.toInt (fun j q => j < i.toInt ∨ (j = i.toInt ∧ q < k.toInt + 1)) ∧ fEm M f.toInt i.toInt k.toInt ∧ (kd.toInt = 3 → 4 ≤ i.toInt) ∧ (kd.toInt = 4 → i.toInt < 4)
  | 80 => ∃ f kd i k : Int32, rest = [fI f, fI kd, fI i, fI k] ∧ S = fSx M F f.toInt kd.toInt (fun _ _ => True) ∧ C = fSx M F f.toInt kd.toInt (fun j q => j < i.toInt ∨ (j = i.toInt ∧ q < k.toInt + 1)) ∧ fEm M f.toInt i.toInt k.toInt ∧ (kd.toInt = 3 → 4 ≤ i.toInt) ∧ (kd.toInt = 4 → i.toInt < 4)
  | 81 => (∃ f : Int32, rest = [fI f] ∧ S = fGn M F 0 f.toInt ∧ C = fGn M F 0 f.toInt) ∨ ∃ a z f h c : Int32, rest = [fI a, fI z, fI f, fI h, fI c] ∧ S = fGn M F c.toInt f.toInt ∧ C = (fun x => a.toInt = z.toInt ∧ fGn M F c.toInt f.toInt x ∧ fSf M F h.toInt c.toInt f.toInt x) ∧ fCk M F h.toInt c.toInt ∧ fOn M F f.toInt ∧ (a.toInt < z.toInt → fHL M F h.toInt) ∧ (a.toInt = z.toInt → fNo M F h.toInt c.toInt f.toInt)
  | 82 => (∃ f c : Int32, rest = [fI f, fI c] ∧ S = fGn M F c.toInt f.toInt ∧ C = fGn M F c.toInt f.toInt) ∨ ∃ a z f h c : Int32, rest = [fI a, fI z, fI f, fI h, fI c] ∧ S = fGn M F c.toInt f.toInt ∧ C = (fun _ => False) ∧ fCk M F h.toInt c.toInt ∧ fOn M F f.toInt ∧ fHL M F h.toInt
  | 83 => ∃ f i : Int32, rest = [fI f, fI i] ∧ S = fHx M F f.toInt (fun _ => True) ∧ C = fHx M F f.toInt (fun j => j < i.toInt)
  | 84 => (∃ f i : Int32, rest = [fI f, fI i] ∧ S = fHx M F f.toInt (fun _ => True) ∧ C = fHx M F f.toInt (fun j => j < i.toInt + 1)) ∨ ∃ h c r : Int32, rest = [fI h, fI c, fI r] ∧ S = (fun x => (r.toInt = 1 ∧ fSf M F h.toInt c.toInt lo.toInt x) ∨ (r.toInt = 0 ∧ ¬ fSf M F h.toInt c.toInt lo.toInt x)) ∧ C = (fun _ => False)
  | 85 => ∃ f i : Int32, rest = [fI f, fI i] ∧ S = fHx M F f.toInt (fun _ => True) ∧ C = fHx M F f.toInt (fun j => j < i.toInt + 1)
  | 86 => ∃ f c i : Int32, rest = [fI f, fI c, fI i] ∧ S = fKx M F f.toInt c.toInt (fun _ => True) True True ∧ C = fKx M F f.toInt c.toInt (fun j => j < i.toInt) False False
  | 87 => ∃ f c i : Int32, rest = [fI f, fI c, fI i] ∧ S = fKx M F f.toInt c.toInt (fun _ => True) True True ∧ C = fKx M F f.toInt c.toInt (fun j => j < i.toInt + 1) False False
  | 88 => ∃ f c i : Int32, rest = [fI f, fI c, fI i] ∧ S = fKx M F f.toInt c.toInt (fun _ => True) True True ∧ C = fKx M F f.toInt c.toInt (fun j => j < i.toInt + 1) False False
  | 89 => ∃ f c : Int32, rest = [fI f, fI c] ∧ S = fKx M F f.toInt c.toInt (fun _ => True) True True ∧ C = fKx M F f.toInt c.toInt (fun _ => True) False False
  | 90 => ∃ f c : Int32, rest = [fI f, fI c] ∧ S = fKx M F f.toInt c.toInt (fun _ => True) True True ∧ C = fKx M F f.toInt c.toInt (fun _ => True) True False
  | 91 => ∃ f c : Int32, rest = [fI f, fI c] ∧ S = fKx M F f.toInt c.toInt (fun _ => True) True True ∧ C = fKx M F f.toInt c.toInt (fun _ => True) True False
  | 92 => ∃ f c : Int32, rest = [fI f, fI c] ∧ S = fKx M F f.toInt c.toInt (fun _ => True) True True ∧ C = fKx M F f.toInt c.toInt (fun _ => True) True True
  | 93 => ∃ f t : Int32, rest = [fI f, fI t] ∧ S = fPx M F f.toInt (fun _ _ => True) True ∧ C = fPx M F f.toInt (fun u _ => u < t.toInt) False ∧ (0 ≤ fOne F f.toInt ∧ fOne F f.toInt ≤ 63) ∧ fOne F f.toInt - 1 ≤ t.toInt
  | 94 => ∃ f t b : Int32, rest = [fI f, fI t, fI b] ∧ S = fPx M F f.toInt (fun _ _ => True) True ∧ C = fPx M F f.toInt (fun u d => u < t.toInt ∨ (u = t.toInt ∧ d < b.toInt)) False ∧ fPg M F f.toInt t.toInt ∧ (0 ≤ fOne F f.toInt ∧ fOne F f.toInt ≤ 63) ∧ fOne F f.toInt - 1 ≤ t.toInt ∧ t.toInt ≤ fOne F f.toInt + 1
  | 95 => ∃ f t b : Int32, rest = [fI f, fI t, fI b] ∧ S = fPx M F f.toInt (fun _ _ => True) True ∧ C = fPx M F f.toInt (fun u d => u < t.toInt ∨ (u = t.toInt ∧ d < b.toInt + 1)) False ∧ fPg M F f.toInt t.toInt ∧ (0 ≤ fOne F f.toInt ∧ fOne F f.toInt ≤ 63) ∧ fOne F f.toInt - 1 ≤ t.toInt ∧ t.toInt ≤ fOne F f.toInt + 1
  | 97 => ∃ f : Int32, rest = [fI f] ∧ S = fPx M F f.toInt (fun _ _ => True) True ∧ C = fPx M F f.toInt (fun _ _ => True) False ∧ (0 ≤ fOne F f.toInt ∧ fOne F f.toInt ≤ 63)
  | 98 => ∃ f : Int32, rest = [fI f] ∧ S = fPx M F f.toInt (fun _ _ => True) True ∧ C = fPx M F f.toInt (fun _ _ => True) True
  | _ => False
noncomputable def fEc (k : Nat) : Int := if k = 79 ∨ k = 84 ∨ k = 87 ∨ k = 90 ∨ k = 92 ∨ k = 95 ∨ k = 98 then 1 else 0
noncomputable def fEb (k : Nat) (rest : List jv) (lo hi : Int32) : Int := if k = 84 ∧ rest.length = 3 then hi.toInt else if k = 82 ∧ rest.length = 5 then lo.toInt + 1 else lo.toInt
/-- the king's place, as the Board tells it -/
noncomputable def fKg (K : Nat → Nat) (n : Nat) (σ : Nat → jcell) (a : Nat) (h : Int32) : Prop := ∃ (r : Nat) (g : Nat → Int32) (s : Int32), fOb K n σ a 26 1 (fR r) ∧ r < n ∧ K r = 28 ∧ σ r = .inl (.int, 2, .inl g) ∧ fOb K n σ a 26 2 (fI s) ∧ g s.toInt.toNat = h
noncomputable def fEl (K : Nat → Nat) (n : Nat) (p : fP) (k : Nat) (vs : List jv) (σ : Nat → jcell) : Prop := if k = 60 then (∃ (a : Nat) (h : Int32), fKg K n σ a h ∧ ((vs = [fR a] ∧ fHL (fq p).1 (fq p).2 h.toInt) ∨ (∃ z r : Int32, vs = [fR a, fI z, fI r] ∧ (z.toInt < r.toInt → fHL (fq p).1 (fq p).2 h.toInt) ∧ (z.toInt = r.toInt → ¬ fHL (fq p).1 (fq p).2 h.toInt)) ∨ vs = [fR a, fI h, fI h, fI h])) ∨ (∃ (a : Nat) (r : Int32), vs = [fR a, fI r] ∧ (¬ r.toInt = 0 ∨ ∃ h, fKg K n σ a h ∧ fHL (fq p).1 (fq p).2 h.toInt)) else ∃ (a : Nat) (lo hi : Int32) (rest : List jv) (S C : Int32 → Prop), vs = fR a :: fI lo :: fI hi :: rest ∧ fEt (fq p).1 (fq p).2 k rest lo hi S C ∧ fCv K n σ a (fEb k rest lo hi) (hi.toInt + fEc k) S C
/-- facts of the men as they lie -/
noncomputable def fHm (k : Nat) (g : Nat → Int32) (rest : List jv) : Prop := match k with
  | 200 => ∃ s b i : Int32, rest = [fI s, fI b, fI i] ∧ 8 * s.toInt ≤ i.toInt ∧ i.toInt ≤ 8 * s.toInt + 8 ∧ ∀ j : Nat, 8 * s.toInt + j < i.toInt → 0 ≤ fHp s.toInt.toNat j ∧ ¬ (g (fHp s.toInt.toNat j).toNat).toInt = 8 * b.toInt + 2
  | 201 => ∃ s b i : Int32, rest = [fI s, fI b, fI i] ∧ ¬ fHo g s.toInt b.toInt ∧ ∀ j : Int, 0 ≤ j → j < i.toInt → ¬ fRy g s.toInt b.toInt j
  | 202 => ∃ s b i k : Int32, rest = [fI s, fI b, fI i, fI k] ∧ ¬ fHo g s.toInt b.toInt ∧ (∀ j : Int, 0 ≤ j → j < i.toInt → ¬ fRy g s.toInt b.toInt j) ∧ fEm g s.toInt i.toInt k.toInt
  | 203 => ∃ s b r : Int32, rest = [fI s, fI b, fI r] ∧ ((r.toInt = 1 ∧ fAk g s.toInt b.toInt) ∨ (r.toInt = 0 ∧ ¬ fAk g s.toInt b.toInt))
  | 205 => ∃ s b i : Int32, rest = [fI s, fI b, fI i] ∧ 8 * s.toInt ≤ i.toInt ∧ i.toInt < 8 * s.toInt + 8 ∧ ∀ j : Nat, 8 * s.toInt + j < i.toInt + 1 → 0 ≤ fHp s.toInt.toNat j ∧ ¬ (g (fHp s.toInt.toNat j).toNat).toInt = 8 * b.toInt + 2
  | 206 => ∃ s b : Int32, rest = [fI s, fI b] ∧ fHo g s.toInt b.toInt
  | 207 => ∃ s b i : Int32, rest = [fI s, fI b, fI i] ∧ ¬ fHo g s.toInt b.toInt ∧ ∀ j : Int, 0 ≤ j → j < i.toInt + 1 → ¬ fRy g s.toInt b.toInt j
  | _ => False
/-- facts of numbers alone -/
noncomputable def fHq (k : Nat) (vs : List jv) : Prop := match k with
  | 204 => ∃ s i h : Int32, vs = [fI s, fI i, fI h] ∧ 8 * s.toInt ≤ i.toInt ∧ i.toInt < 8 * s.toInt + 8 ∧ h.toInt = fHp s.toInt.toNat (i.toInt - 8 * s.toInt).toNat
  | 208 => ∃ h f c r : Int32, vs = [fI h, fI f, fI c, fI r] ∧ ((r.toInt = 1 ∧ fFr h.toInt f.toInt c.toInt) ∨ (r.toInt = 0 ∧ ¬ fFr h.toInt f.toInt c.toInt))
  | 209 => ∃ x : Int32, vs = [fI x] ∧ ¬ x.toInt = 0
  | 210 => ∃ x y : Int32, vs = [fI x, fI y] ∧ ¬ x.toInt = y.toInt
  | 211 => ∃ f t r : Int32, vs = [fI f, fI t, fI r] ∧ ((r.toInt = 1 ∧ (t.toInt - f.toInt = 2 ∨ f.toInt - t.toInt = 2)) ∨ (r.toInt = 0 ∧ ¬ (t.toInt - f.toInt = 2 ∨ f.toInt - t.toInt = 2)))
  | 212 => (∃ t o a b : Int32, vs = [fI t, fI o, fI a, fI b]) ∨ ∃ t o : Int32, vs = [fI t, fI o] ∧ t.toInt / 8 = o.toInt / 8
  | 213 => ∃ x y : Int32, vs = [fI x, fI y] ∧ ¬ x.toInt = - y.toInt
  | 214 => ∃ m t : Int32, vs = [fI m, fI t] ∧ t.toInt = fMt m
  | 217 => ∃ h f a u : Int32, vs = [fI h, fI f, fI a, fI u] ∧ a.toInt = f.toInt % 8 - h.toInt % 8 ∧ u.toInt = f.toInt / 8 - h.toInt / 8
  | 215 => ∃ h f c t w : Int32, vs = [fI h, fI f, fI c, fI t, fI w] ∧ ¬ (fFr h.toInt f.toInt c.toInt ∧ w.toInt = t.toInt)
  | _ => False
/-! the moves that were made in a search -/
noncomputable def fSw (K : Nat → Nat) (n : Nat) (σ : Nat → jcell) (a : Nat) (g : Nat → Int32) : Prop := ∃ (r : Nat), fOb K n σ a 15 2 (fR r) ∧ r < n ∧ K r = 17 ∧ σ r = .inl (.int, 8, .inl g)
noncomputable def fSu (K : Nat → Nat) (n : Nat) (σ : Nat → jcell) (a : Nat) (g : Nat → Int64) : Prop := ∃ (r : Nat), fOb K n σ a 15 3 (fR r) ∧ r < n ∧ K r = 18 ∧ σ r = .inl (.long, 8, .inr (.inl g))
noncomputable def fLe (q : fQ) (g : Nat → Int32) : Nat → fQ
  | 0 => q
  | d + 1 => fPl (fLe q g d) (g d)
noncomputable def fGx (K : Nat → Nat) (n : Nat) (p : fP) (k : Nat) (vs : List jv) (σ : Nat → jcell) : Prop := match k with
  | 400 => ∃ (a : Nat) (m : Int32) (g : Nat → Int64), vs = [fR a, fI m] ∧ fSu K n σ a g ∧ fU (fq p) m (g 0) ∧ fGk p
  | 401 => ∃ (a : Nat) (m : Int32) (g : Nat → Int64), vs = [fR a, fI m] ∧ fSu K n σ a g ∧ fU (fq p) m (g 1) ∧ fGk p
  | 402 => ∃ (a : Nat) (m : Int32) (g : Nat → Int64), vs = [fR a, fI m] ∧ fSu K n σ a g ∧ fU (fq p) m (g 2) ∧ fGk p
  | 403 => ∃ (a b : Nat) (rest : List jv) (g : Nat → Int32) (u : Nat → Int64), vs = fR a :: fR b :: rest ∧ fSw K n σ a g ∧ fSu K n σ a u ∧ (∃ q, p = .inl q) ∧ (∀ j, j < rest.length → fM (fLe (fq p) g j).1 (fLe (fq p) g j).2 (g j) ∧ fU (fLe (fq p) g j) (g j) (u j)) ∧ (∀ j, j ≤ rest.length → fGood (fLe (fq p) g j).1 (fLe (fq p) g j).2) ∧ fAt K n σ b (fLe (fq p) g rest.length).1 (fLe (fq p) g rest.length).2
  | 409 => ∃ (a b : Nat) (m : Int32) (rest : List jv) (g : Nat → Int32) (u : Nat → Int64), vs = fR a :: fR b :: fI m :: rest ∧ fSw K n σ a g ∧ fSu K n σ a u ∧ (∃ q, p = .inl q) ∧ (∀ j, j < rest.length → fM (fLe (fq p) g j).1 (fLe (fq p) g j).2 (g j) ∧ fU (fLe (fq p) g j) (g j) (u j)) ∧ (∀ j, j ≤ rest.length → fGood (fLe (fq p) g j).1 (fLe (fq p) g j).2) ∧ fAt K n σ b (fLe (fq p) g rest.length).1 (fLe (fq p) g rest.length).2 ∧ fM (fLe (fq p) g rest.length).1 (fLe (fq p) g rest.length).2 m
  | 404 => ∃ (a : Nat) (hi : Int32), vs = [fR a, fI hi] ∧ fLl K n σ a (fun k => k < hi.toInt) (fun m => fM (fq p).1 (fq p).2 (m ^^^ 29120))
  | 405 => ∃ (a : Nat) (hi : Int32), vs = [fR a, fI hi] ∧ fLl K n σ a (fun k => k < hi.toInt + 1) (fun m => fM (fq p).1 (fq p).2 (m ^^^ 29120))
  | 406 => ∃ (a : Nat) (lo hi : Int32), vs = [fR a, fI lo, fI hi] ∧ fLl K n σ a (fun k => lo.toInt < k ∧ k < hi.toInt) (fM (fq p).1 (fq p).2)
  | 407 => ∃ (m : Int32), vs = [fI m] ∧ fM (fq p).1 (fq p).2 (m ^^^ 29120)
  | 408 => ∃ (v : Int32), vs = [fI v] ∧ (fq p).2 3 = v ∧ fGk p
  | _ => False
/-- a move that was made, where it is kept -/
noncomputable def fHs (K : Nat → Nat) (n : Nat) (k : Nat) (vs : List jv) (σ : Nat → jcell) : Prop := k ≤ 242 ∧ ∃ (a : Nat) (m : Int32) (g : Nat → Int32), vs = [fR a, fI m] ∧ fSw K n σ a g ∧ g (k - 240) = m
noncomputable def fH (K : Nat → Nat) (n : Nat) (k : Nat) (vs : List jv) (σ : Nat → jcell) : Prop := if 240 ≤ k then fHs K n k vs σ else if k = 204 ∨ 208 ≤ k then fHq k vs else ∃ (b : Nat) (g : Nat → Int32) (rest : List jv), vs = fR b :: rest ∧ fMe K n σ b g ∧ fHm k g rest
noncomputable def fC (K : Nat → Nat) (n : Nat) (k : Nat) (vs : List jv) (σ : Nat → jcell) : Prop := if 200 ≤ k then fH K n k vs σ else if 160 ≤ k then (k ≤ 192 ∧ ∃ (b : Nat) (g : Nat → Int32), vs = [fR b] ∧ fMe K n σ b g ∧ ∀ j : Nat, j < 64 → (g j).toInt = fFst (k - 160) j) else fC0 K n k vs σ
noncomputable def fD (K : Nat → Nat) (n : Nat) (p : fP) (k : Nat) (vs : List jv) (σ : Nat → jcell) : Prop := if k < 60 then fEp p k vs else if k < 99 then fEl K n p k vs σ else if 400 ≤ k then fGx K n p k vs σ else fC K n k vs σ
noncomputable def fB (K : Nat → Nat) (n : Nat) (p : fP) (k : Nat) (vs : List jv) (σ : Nat → jcell) : Prop := match k with
  | 1 => ∃ (a : Nat), vs = [fR a] ∧ fAt K n σ a (fq p).1 (fq p).2 ∧ fGk p
  | 2 => ∃ (a : Nat) (lo hi : Int32), vs = [fR a, fI lo, fI hi] ∧ fLl K n σ a (fun k => lo.toInt ≤ k ∧ k < hi.toInt) (fM (fq p).1 (fq p).2)
  | 3 => ∃ (m : Int32), vs = [fI m] ∧ fM (fq p).1 (fq p).2 m
  | 4 => ∃ (m : Int32) (u : Int64), vs = [fI m, .inr (.inl u)] ∧ u = bUd (fq p).2 ((fq p).1 (bWh (fq p).1 (fq p).2 (fMf m) (fMt m)).toNatClampNeg).toNatClampNeg ∧ 0 ≤ ((fq p).2 5).toInt ∧ fGk p
  | 5 => ∃ (v : Int32), vs = [fI v] ∧ (fq p).2 5 = v
  | 6 => ∃ (a : Nat) (x1 y1 x2 y2 x3 y3 : Int32), vs = [fR a, fI x1, fI y1, fI x2, fI y2, fI x3, fI y3] ∧ fAt K n σ a (upd (upd (upd (fq p).1 x1.toNatClampNeg y1) x2.toNatClampNeg y2) x3.toNatClampNeg y3) (fq p).2 ∧ fGk p
  | 7 => ∃ s i k t : Int32, vs = [fI s, fI i, fI k, fI t] ∧ 1 ≤ k.toInt ∧ k.toInt ≤ fRc s.toInt i.toInt + 1 ∧ t.toInt = s.toInt + (k.toInt - 1) * fSt i.toInt
  | 18 => ∃ s i k t : Int32, vs = [fI s, fI i, fI k, fI t] ∧ 1 ≤ k.toInt ∧ k.toInt ≤ fRc s.toInt i.toInt ∧ t.toInt = s.toInt + k.toInt * fSt i.toInt
  | 19 => ∃ s i v : Int32, vs = [fI s, fI i, fI v] ∧ v.toInt = fRc s.toInt i.toInt
  | 22 => ∃ i v : Int32, vs = [fI i, fI v] ∧ v.toInt = fSt i.toInt
  | 23 => ∃ s i a m : Int32, vs = [fI s, fI i, fI a, fI m] ∧ m.toInt - a.toInt ≤ fSm s.toInt i.toInt
  | 24 => ∃ s i k a m : Int32, vs = [fI s, fI i, fI k, fI a, fI m] ∧ m.toInt - a.toInt ≤ fSm s.toInt i.toInt + (k.toInt - 1)
  | 25 => ∃ (s k : Int32), vs = [fI s, fI k] ∧ fOw (fq p).1 (fq p).2 s.toNatClampNeg k.toNatClampNeg
  | 26 => ∃ (a : Nat) (lo hi s : Int32), vs = [fR a, fI lo, fI hi, fI s] ∧ fLl K n σ a (fun k => lo.toInt ≤ k ∧ k < hi.toInt) (fun m => fM (fq p).1 (fq p).2 m ∧ fMf m = s.toNatClampNeg)
  | 27 => ∃ (a : Nat) (lo hi s : Int32), vs = [fR a, fI lo, fI hi, fI s] ∧ fLl K n σ a (fun k => lo.toInt ≤ k ∧ k < hi.toInt + 1) (fun m => fM (fq p).1 (fq p).2 m ∧ fMf m = s.toNatClampNeg)
  | 28 => ∃ (a : Nat) (s : Int32), vs = [fR a, fI s] ∧ (∃ v : Int32, fAt K n σ a (upd (fq p).1 s.toNatClampNeg v) (fq p).2) ∧ fGk p
  | 30 => ∃ (m s : Int32), vs = [fI m, fI s] ∧ fM (fq p).1 (fq p).2 m ∧ fMf m = s.toNatClampNeg
  | 31 => ∃ k : Int32, vs = [fI k] ∧ 3 ≤ k.toInt ∧ k.toInt ≤ 5
  | 32 => ∃ (a : Nat) (lo hi : Int32), vs = [fR a, fI lo, fI hi] ∧ fLl K n σ a (fun k => lo.toInt ≤ k ∧ k < hi.toInt + 1) (fM (fq p).1 (fq p).2)
  | 33 => ∃ (a : Nat) (lo hi s : Int32), vs = [fR a, fI lo, fI hi, fI s] ∧ fLl K n σ a (fun k => lo.toInt < k ∧ k < hi.toInt) (fun m => fM (fq p).1 (fq p).2 m ∧ fMf m = s.toNatClampNeg)
  | 34 => ∃ (s : Int32), vs = [fI s] ∧ fOw (fq p).1 (fq p).2 s.toNatClampNeg 1
  | 35 => ∃ (s : Int32), vs = [fI s] ∧ fOw (fq p).1 (fq p).2 s.toNatClampNeg 2
  | 36 => ∃ (s : Int32), vs = [fI s] ∧ fOw (fq p).1 (fq p).2 s.toNatClampNeg 6
  | 37 => ∃ s i t : Int32, vs = [fI s, fI i, fI t] ∧ ¬ t.toInt = s.toInt ∧ ¬ t.toInt = s.toInt + 2 ∧ ¬ t.toInt = s.toInt - 2
  | 38 => ∃ (s : Int32), vs = [fI s] ∧ ((fq p).1 s.toNatClampNeg).toInt = 0
  | 39 => ∃ (s v : Int32), vs = [fI s, fI v] ∧ (fq p).1 s.toNatClampNeg = v
  | 40 => ∃ (s v : Int32), vs = [fI s, fI v] ∧ (fq p).1 (s.toInt + 1).toNat = v
  | 41 => ∃ (s v : Int32), vs = [fI s, fI v] ∧ (fq p).1 (s.toInt + 2).toNat = v
  | 42 => ∃ (s v : Int32), vs = [fI s, fI v] ∧ (fq p).1 (s.toInt - 1).toNat = v
  | 43 => ∃ (s v : Int32), vs = [fI s, fI v] ∧ (fq p).1 (s.toInt - 2).toNat = v
  | 44 => ∃ (s : Int32), vs = [fI s] ∧ ((fq p).1 (s.toInt + 3).toNat).toInt = 8 * ((fq p).2 2).toInt + 4
  | 45 => ∃ (s : Int32), vs = [fI s] ∧ ((fq p).1 (s.toInt - 4).toNat).toInt = 8 * ((fq p).2 2).toInt + 4
  | 46 => ∃ (v : Int32), vs = [fI v] ∧ (v.toInt < 0 ∨ fM (fq p).1 (fq p).2 v)
  | 47 => ∃ (a : Nat) (hi : Int32), vs = [fR a, fI hi] ∧ fLl K n σ a (fun k => k < hi.toInt) (fM (fq p).1 (fq p).2)
  | 61 => ∃ (a : Nat) (h N : Int32) (t : fTy), vs = [fR a, fI h, fI N] ∧ fTw K n σ a t ∧ 0 ≤ h.toInt ∧ 0 ≤ N.toInt ∧ (∃ q, p = .inl q) ∧ fTk N.toInt.toNat t (fq p) h.toInt.toNat
  | 62 => ∃ (a : Nat) (h N : Int32) (t : fTy), vs = [fR a, fI h, fI N] ∧ fTw K n σ a t ∧ 1 ≤ h.toInt ∧ h.toInt ≤ N.toInt ∧ (∃ q, p = .inl q) ∧ (t.1 h.toInt.toNat).toInt < h.toInt ∧ 0 ≤ (t.1 h.toInt.toNat).toInt ∧ fTk N.toInt.toNat t (fq p) (t.1 h.toInt.toNat).toInt.toNat
  | 63 => ∃ (a : Nat) (h N ab nd : Int32) (t : fTy), vs = [fR a, fI h, fI N, fI ab, fI nd] ∧ fTw K n σ a t ∧ 0 ≤ h.toInt ∧ 0 ≤ N.toInt ∧ (∃ q, p = .inl q) ∧ fTk N.toInt.toNat (t.1, t.2.1, upd t.2.2.1 ab.toNatClampNeg nd, t.2.2.2) (fq p) h.toInt.toNat
  | 64 => ∃ (a : Nat) (h N ab nd : Int32) (t : fTy), vs = [fR a, fI h, fI N, fI ab, fI nd] ∧ fTw K n σ a t ∧ 0 ≤ h.toInt ∧ 0 ≤ N.toInt ∧ (∃ q, p = .inl q) ∧ fTk N.toInt.toNat (t.1, t.2.1, upd t.2.2.1 ab.toNatClampNeg nd, upd t.2.2.2.1 nd.toNatClampNeg (t.2.2.1 ab.toNatClampNeg), t.2.2.2.2) (fq p) h.toInt.toNat
  | 67 => ∃ (a : Nat) (hd nd ls len N : Int32) (t : fTy) (h h0 : Nat), vs = [fR a, fI hd, fI nd, fI ls, fI len] ∧ fTw K n σ a t ∧ fFi K n σ a 1 (fI N) ∧ 0 ≤ N.toInt ∧ (∃ q, p = .inl q) ∧ fTk N.toInt.toNat t (fq p) h ∧ (nd.toInt = 0 ∨ (1 ≤ nd.toInt ∧ nd.toInt ≤ N.toInt ∧ (t.1 nd.toInt.toNat).toInt = h)) ∧ fWs N.toInt.toNat t.1 hd.toInt.toNat h0 h len.toInt.toNat ∧ (1 ≤ len.toInt → ls.toInt = h) ∧ 0 ≤ len.toInt
  | 68 => ∃ (a : Nat) (hd nd len N : Int32) (t : fTy) (h0 : Nat), vs = [fR a, fI hd, fI nd, fI len] ∧ fTw K n σ a t ∧ fFi K n σ a 1 (fI N) ∧ 0 ≤ N.toInt ∧ (∃ q, p = .inl q) ∧ fTk N.toInt.toNat t (fq p) nd.toInt.toNat ∧ 1 ≤ nd.toInt ∧ fWs N.toInt.toNat t.1 hd.toInt.toNat h0 nd.toInt.toNat (len.toInt.toNat + 1) ∧ 0 ≤ len.toInt
  | 69 => ∃ (a : Nat) (hd ls len N : Int32) (t : fTy) (h h0 : Nat), vs = [fR a, fI hd, fI ls, fI len] ∧ fTw K n σ a t ∧ fFi K n σ a 1 (fI N) ∧ 0 ≤ N.toInt ∧ (∃ q, p = .inl q) ∧ fTk N.toInt.toNat t (fq p) h ∧ fWs N.toInt.toNat t.1 hd.toInt.toNat h0 h len.toInt.toNat ∧ (1 ≤ len.toInt → ls.toInt = h) ∧ 0 ≤ len.toInt
  | 70 => ∃ (a : Nat) (hd ls len N : Int32) (t : fTy) (h0 : Nat), vs = [fR a, fI hd, fI ls, fI len] ∧ fTw K n σ a t ∧ fFi K n σ a 1 (fI N) ∧ 0 ≤ N.toInt ∧ (∃ q, p = .inl q) ∧ 1 ≤ len.toInt ∧ 0 ≤ (t.1 ls.toInt.toNat).toInt ∧ fTk N.toInt.toNat t (fq p) (t.1 ls.toInt.toNat).toInt.toNat ∧ fWs N.toInt.toNat t.1 hd.toInt.toNat h0 (t.1 ls.toInt.toNat).toInt.toNat (len.toInt.toNat - 1)
  | 71 => ∃ (a : Nat) (lf A fd : Int32) (g : Nat → Int32), vs = [fR a, fI lf] ∧ fPc K n σ a g ∧ fOb K n σ a 19 9 (fI A) ∧ fOb K n σ a 19 3 (fI fd) ∧ (fd.toInt = 0 ∨ ((∃ q, p = .inl q) ∧ fLn g (fq p) (2 * A.toInt - lf.toInt).toNat lf.toInt.toNat))
  | 72 => ∃ (a : Nat) (i A : Int32) (g : Nat → Int32), vs = [fR a, fI i] ∧ fPc K n σ a g ∧ fOb K n σ a 19 9 (fI A) ∧ (∃ q, p = .inl q) ∧ fLn g (fq p) i.toInt.toNat (2 * A.toInt - i.toInt).toNat
  | 73 => ∃ (a : Nat) (m : Int32) (g : Nat → Int64), vs = [fR a, fI m] ∧ fPu K n σ a g ∧ fU (fq p) m (g 0) ∧ fGk p
  | 74 => ∃ (a : Nat) (m : Int32) (g : Nat → Int64), vs = [fR a, fI m] ∧ fPu K n σ a g ∧ fU (fq p) m (g 1) ∧ fGk p
  | 75 => ∃ (a : Nat) (m : Int32) (g : Nat → Int64), vs = [fR a, fI m] ∧ fPu K n σ a g ∧ fU (fq p) m (g 2) ∧ fGk p
  | 76 => ∃ (a : Nat) (m : Int32) (g : Nat → Int64), vs = [fR a, fI m] ∧ fPu K n σ a g ∧ fU (fq p) m (g 3) ∧ fGk p
  | 65 => ∃ (a : Nat) (hi : Int32), vs = [fR a, fI hi] ∧ K a = 24 ∧ fLl K n σ a (fun k => k < hi.toInt + 1) (fM (fq p).1 (fq p).2)
  | 66 => ∃ (a : Nat) (hi : Int32), vs = [fR a, fI hi] ∧ K a = 24 ∧ fLl K n σ a (fun k => k < hi.toInt) (fM (fq p).1 (fq p).2)
  | k => fD K n p k vs σ
theorem fB_def {K : Nat → Nat} {n : Nat} {p : fP} {k : Nat} {vs : List jv} {σ : Nat → jcell} (h : k = 8 ∨ k = 17 ∨ k = 29 ∨ (48 ≤ k ∧ k ≤ 60) ∨ 77 ≤ k) : fB K n p k vs σ = fD K n p k vs σ := by
  unfold fB
  split <;> first | rfl | omega
noncomputable def fP1 (p : fP) (v : jv) : fP := match p, v with
  | .inl q, .inl m => .inl (fPl q m)
  | .inl q, .inr (.inr (some _)) => .inl (q.1, va_up q.2 3 0)
  | p, _ => p
noncomputable def fSh (p : fP) : List jv → fP
  | [] => p
  | v :: r => fP1 (fSh p r) v
theorem fSh_app (p : fP) : ∀ (a b : List jv), fSh p (a ++ b) = fSh (fSh p b) a
  | [], _ => rfl
  | v :: a, b => by
    show fP1 (fSh p (a ++ b)) v = fP1 (fSh (fSh p b) a) v
    rw [fSh_app p a b]
noncomputable def fF0 (K : Nat → Nat) (n : Nat) : aFt fP := fun p r vs σ => fB K n (fSh p (vs.drop (r % 16))) (r / 16) (vs.take (r % 16)) σ
noncomputable def fF (K : Nat → Nat) (n : Nat) : aFt fP := fun p r vs σ => if r < 65536 then fF0 K n p r vs σ else if r < 131072 then (if 3 ≤ r % 16 then (match vs with
  | .inr (.inr (some (.inl a))) :: .inl x :: .inl y :: l => fF0 K n p (r - 65539) l (jup σ a (jsto (σ a) x.toNatClampNeg y))
  | .inr (.inr (some (.inl a))) :: .inl x :: .inr (.inl y) :: l => fF0 K n p (r - 65539) l (jup σ a (jstl (σ a) x.toNatClampNeg y))
  | _ => False) else False) else (if 2 ≤ r % 16 then (match vs with
  | .inr (.inr (some (.inl a))) :: y :: l => fF0 K n p (r % 131072 - 2) l (jup σ a (jstf (σ a) (r / 131072 - 1) y))
  | _ => False) else False)
theorem fF0_sh (K : Nat → Nat) (n : Nat) (p : fP) (r : Nat) (vs ms : List jv) (σ : Nat → jcell) (h : r % 16 ≤ vs.length) : fF0 K n p r (vs ++ ms) σ ↔ fF0 K n (fSh p ms) r vs σ := by
  unfold fF0
  rw [List.drop_append_of_le_length h, List.take_append_of_le_length h, fSh_app]
theorem fB_fre (K : Nat → Nat) (n : Nat) (p p' : fP) (k : Nat) (vs : List jv) (σ : Nat → jcell) (hk : 99 ≤ k) (hk2 : k < 400) (h : fB K n p k vs σ) : fB K n p' k vs σ := by
  have e : ∀ p, fB K n p k vs σ = fC K n k vs σ := fun p => by
    rw [fB_def (by omega)]
    unfold fD
    rw [if_neg (by omega), if_neg (by omega), if_neg (by omega)]
  rw [e] at h ⊢
  exact h
theorem fB_hi {K : Nat → Nat} {n : Nat} {p : fP} {k : Nat} {vs : List jv} {σ : Nat → jcell} (hk : 1000 ≤ k) (h : fB K n p k vs σ) : False := by
  rw [fB_def (by omega)] at h
  unfold fD at h
  rw [if_neg (by omega), if_neg (by omega), if_pos (by omega)] at h
  unfold fGx at h
  split at h <;> first | omega | exact h
theorem fF_fre (K : Nat → Nat) (n : Nat) (p p' : fP) (r : Nat) (vs : List jv) (σ : Nat → jcell) (hr : aFre r = true) (h : fF K n p r vs σ) : fF K n p' r vs σ := by
  have hr : 1600 ≤ r % 65536 ∧ r % 65536 ≤ 6399 := by
    unfold aFre at hr
    rw [Bool.and_eq_true] at hr
    exact ⟨Nat.le_of_ble_eq_true hr.1, Nat.le_of_ble_eq_true hr.2⟩
  unfold fF at h ⊢
  by_cases c : r < 65536
  · rw [if_pos c] at h ⊢
    exact fB_fre K n _ _ _ _ _ (by omega) (by omega) h
  · rw [if_neg c] at h ⊢
    by_cases c2 : r < 131072
    · rw [if_pos c2] at h ⊢
      by_cases c3 : 3 ≤ r % 16
      · rw [if_pos c3] at h ⊢
        split at h
        next => exact fB_fre K n _ _ _ _ _ (by omega) (by omega) h
        next => exact fB_fre K n _ _ _ _ _ (by omega) (by omega) h
        next => exact h.elim
      · rw [if_neg c3] at h
        exact h.elim
    · rw [if_neg c2] at h ⊢
      by_cases c3 : 2 ≤ r % 16
      · rw [if_pos c3] at h ⊢
        split at h
        next =>
          by_cases c4 : r % 131072 < 65536
          · exact fB_fre K n _ _ _ _ _ (by omega) (by omega) h
          · exact (fB_hi (show 1000 ≤ (r % 131072 - 2) / 16 by omega) h).elim
        next => exact h.elim
      · rw [if_neg c3] at h
        exact h.elim
theorem fF_sh (K : Nat → Nat) (n : Nat) : aShf (fF K n) fSh := by
  refine ⟨fun p r vs ms σ h0 h => ?_, fF_fre K n⟩
  unfold fF
  split
  · exact fF0_sh K n p r vs ms σ h
  · split
    · split
      next h3 =>
        match vs, h with
        | [], h => simp at h; omega
        | [_], h => simp at h; omega
        | [_, _], h => simp at h; omega
        | v0 :: v1 :: v2 :: l, h =>
          rcases v0 with x | x | _ | a | j
          · exact Iff.rfl
          · exact Iff.rfl
          · exact Iff.rfl
          · rcases v1 with x | x
            · rcases v2 with y | y | y
              · exact fF0_sh K n p (r - 65539) l ms _ (by simp at h; omega)
              · exact fF0_sh K n p (r - 65539) l ms _ (by simp at h; omega)
              · exact Iff.rfl
            · exact Iff.rfl
          · exact Iff.rfl
      next => exact Iff.rfl
    · split
      next h3 =>
        match vs, h with
        | [], h => simp at h; omega
        | [_], h => simp at h; omega
        | v0 :: v1 :: l, h =>
          rcases v0 with x | x | _ | a | j
          · exact Iff.rfl
          · exact Iff.rfl
          · exact Iff.rfl
          · exact fF0_sh K n p (r % 131072 - 2) l ms _ (by simp at h; omega)
          · exact Iff.rfl
      next => exact Iff.rfl
theorem fF_pd1 (K : Nat → Nat) (n : Nat) (p : fP) (r' r a : Nat) (x y : Int32) (vs : List jv) (σ : Nat → jcell) (e : r' = r + 65539) (hr : r < 65533) (h : fF K n p r' (.inr (.inr (some (.inl a))) :: .inl x :: .inl y :: vs) σ) : fF K n p r vs (jup σ a (jsto (σ a) x.toNatClampNeg y)) := by
  unfold fF at h ⊢
  rw [if_neg (by omega), if_pos (by omega)] at h
  rw [if_pos (by omega)]
  split at h
  next =>
    dsimp only at h
    rw [show r' - 65539 = r by omega] at h
    exact h
  next => exact h.elim
theorem fF_pd2 (K : Nat → Nat) (n : Nat) (p : fP) (r' r a f : Nat) (y : jv) (vs : List jv) (σ : Nat → jcell) (e : r' = r + 131072 * (f + 1) + 2) (hr : r < 65534) (h : fF K n p r' (.inr (.inr (some (.inl a))) :: y :: vs) σ) : fF K n p r vs (jup σ a (jstf (σ a) f y)) := by
  unfold fF at h ⊢
  rw [if_neg (by omega), if_neg (by omega)] at h
  rw [if_pos (by omega)]
  split at h
  next =>
    dsimp only at h
    rw [show r' % 131072 - 2 = r by omega, show r' / 131072 - 1 = f by omega] at h
    exact h
  next => exact h.elim
theorem fF_pd3 (K : Nat → Nat) (n : Nat) (p : fP) (r' r a : Nat) (x : Int32) (y : Int64) (vs : List jv) (σ : Nat → jcell) (e : r' = r + 65539) (hr : r < 65533) (h : fF K n p r' (.inr (.inr (some (.inl a))) :: .inl x :: .inr (.inl y) :: vs) σ) : fF K n p r vs (jup σ a (jstl (σ a) x.toNatClampNeg y)) := by
  unfold fF at h ⊢
  rw [if_neg (by omega), if_pos (by omega)] at h
  rw [if_pos (by omega)]
  split at h
  next =>
    dsimp only at h
    rw [show r' - 65539 = r by omega] at h
    exact h
  next => exact h.elim
theorem fF_pd (K : Nat → Nat) (n : Nat) : aPd (fF K n) := ⟨fun p r a x y vs σ _ hr => fF_pd1 K n p _ r a x y vs σ rfl hr, fun p r a f y vs σ _ hr => fF_pd2 K n p _ r a f y vs σ rfl hr, fun p r a x y vs σ _ hr => fF_pd3 K n p _ r a x y vs σ rfl hr⟩
theorem fF_b {K : Nat → Nat} {n : Nat} {p : fP} {r : Nat} {vs : List jv} {σ : Nat → jcell} (h : r < 65536) (hl : vs.length = r % 16) : fF K n p r vs σ ↔ fB K n p (r / 16) vs σ := by
  unfold fF fF0
  rw [if_pos h, ← hl, List.drop_length, List.take_length]
  exact Iff.rfl
theorem fF_p {K : Nat → Nat} {n : Nat} {p : fP} {r a : Nat} {x y : Int32} {vs : List jv} {σ : Nat → jcell} (h : r < 65533) (h2 : r % 16 ≤ 12) (hl : vs.length = r % 16) (hb : fB K n p (r / 16) vs (jup σ a (jsto (σ a) x.toNatClampNeg y))) : fF K n p (r + 65539) (fR a :: fI x :: fI y :: vs) σ := by
  unfold fF
  rw [if_neg (by omega), if_pos (by omega), if_pos (by omega)]
  dsimp only
  rw [show r + 65539 - 65539 = r by omega]
  unfold fF0
  rw [← hl, List.drop_length, List.take_length]
  exact hb
theorem fF_pl {K : Nat → Nat} {n : Nat} {p : fP} {r a : Nat} {x : Int32} {y : Int64} {vs : List jv} {σ : Nat → jcell} (h : r < 65533) (h2 : r % 16 ≤ 12) (hl : r % 16 ≤ vs.length) (hb : fB K n (fSh p (vs.drop (r % 16))) (r / 16) (vs.take (r % 16)) (jup σ a (jstl (σ a) x.toNatClampNeg y))) : fF K n p (r + 65539) (fR a :: fI x :: .inr (.inl y) :: vs) σ := by
  unfold fF
  rw [if_neg (by omega), if_pos (by omega), if_pos (by omega)]
  dsimp only
  rw [show r + 65539 - 65539 = r by omega]
  exact hb
theorem fF_g {K : Nat → Nat} {n : Nat} {p : fP} {r : Nat} {vs : List jv} {σ : Nat → jcell} (h : r < 65536) : fF K n p r vs σ ↔ fB K n (fSh p (vs.drop (r % 16))) (r / 16) (vs.take (r % 16)) σ := by
  unfold fF fF0
  rw [if_pos h]
noncomputable def fLay (K : Nat → Nat) (n : Nat) (σ : Nat → jcell) (a n0 : Nat) : Prop := a < n0 ∧ n0 + 11 ≤ n ∧ (∀ j, j < 11 → K (n0 + j) = 27 + j) ∧ ∃ fs : List jv, σ a = .inr (10, fs) ∧ fs[0]? = some (fR (n0 + 0)) ∧ fs[1]? = some (fR (n0 + 1)) ∧ fs[7]? = some (fR (n0 + 2)) ∧ fs[8]? = some (fR (n0 + 3)) ∧ fs[9]? = some (fR (n0 + 4)) ∧ fs[10]? = some (fR (n0 + 5)) ∧ fs[11]? = some (fR (n0 + 6)) ∧ fs[12]? = some (fR (n0 + 7)) ∧ fs[13]? = some (fR (n0 + 8)) ∧ fs[14]? = some (fR (n0 + 9)) ∧ fs[15]? = some (fR (n0 + 10))
/-- what stands fast of the picture: tables and layouts -/
noncomputable def fJX (K : Nat → Nat) (n : Nat) (σ : Nat → jcell) : Prop := (∀ a, a < n → K a = 34 → ∃ g : Nat → Int32, σ a = .inl (.int, 512, .inl g) ∧ ∀ s i : Nat, s < 64 → i < 8 → (g (8 * s + i)).toInt = fRc s i) ∧ (∀ a, a < n → K a = 35 → ∃ g : Nat → Int32, σ a = .inl (.int, 512, .inl g) ∧ ∀ s i : Nat, s < 64 → i < 8 → (g (8 * s + i)).toInt = fHp s i) ∧ (∀ a, a < n → K a = 26 → ∃ n0, fLay K n σ a n0) ∧ (∀ a, a < n → K a = 33 → ∃ g : Nat → Int32, σ a = .inl (.int, 1024, .inl g) ∧ ∀ j : Nat, 64 ≤ j → j < 960 → g j = fWa j)
theorem fHop0 : ∀ (s : Fin 64) (i : Fin 8), fHp s.val i.val = -1 ∨ (¬ fHp s.val i.val = s.val ∧ ¬ fHp s.val i.val = (s.val : Int) + 2 ∧ ¬ fHp s.val i.val = (s.val : Int) - 2) := by decide +kernel
theorem fTab0 : ∀ (s : Fin 64) (i : Fin 8), 0 ≤ fRc (s.val : Int) (i.val : Int) ∧ fRc (s.val : Int) (i.val : Int) ≤ 7 ∧ 0 ≤ fSm (s.val : Int) (i.val : Int) ∧ fSm (s.val : Int) ((i.val : Int) + 1) = fSm (s.val : Int) (i.val : Int) + fRc (s.val : Int) (i.val : Int) ∧ fSm (s.val : Int) ((i.val : Int) + 1) ≤ 27 := by decide +kernel
theorem fTab {s i : Int} (h1 : 0 ≤ s) (h2 : s ≤ 63) (h3 : 0 ≤ i) (h4 : i ≤ 7) : 0 ≤ fRc s i ∧ fRc s i ≤ 7 ∧ 0 ≤ fSm s i ∧ fSm s (i + 1) = fSm s i + fRc s i ∧ fSm s (i + 1) ≤ 27 := by
  have h := fTab0 ⟨s.toNat, by omega⟩ ⟨i.toNat, by omega⟩
  dsimp only at h
  rw [show ((s.toNat : Nat) : Int) = s by omega, show ((i.toNat : Nat) : Int) = i by omega] at h
  exact h
theorem fRay0 : ∀ (s : Fin 64) (i : Fin 8) (k : Fin 8), 1 ≤ k.val → (k.val : Int) ≤ fRc (s.val : Int) (i.val : Int) → 0 ≤ (s.val : Int) + k.val * fSt (i.val : Int) ∧ (s.val : Int) + k.val * fSt (i.val : Int) ≤ 63 ∧ ¬ (s.val : Int) + k.val * fSt (i.val : Int) = s.val := by decide +kernel
theorem fRay {s i k : Int} (h1 : 0 ≤ s) (h2 : s ≤ 63) (h3 : 0 ≤ i) (h4 : i ≤ 7) (h5 : 1 ≤ k) (h6 : k ≤ fRc s i) : 0 ≤ s + k * fSt i ∧ s + k * fSt i ≤ 63 ∧ ¬ s + k * fSt i = s := by
  have h7 := (fTab h1 h2 h3 h4).2.1
  have h := fRay0 ⟨s.toNat, by omega⟩ ⟨i.toNat, by omega⟩ ⟨k.toNat, by omega⟩
  dsimp only at h
  rw [show ((s.toNat : Nat) : Int) = s by omega, show ((i.toNat : Nat) : Int) = i by omega, show ((k.toNat : Nat) : Int) = k by omega] at h
  exact h (by omega) h6
theorem fSt0 : ∀ (i : Fin 8), ¬ fSt (i.val : Int) = 0 ∧ ¬ fSt (i.val : Int) = 2 ∧ ¬ fSt (i.val : Int) = -2 := by decide
theorem fStn {i : Int} (h3 : 0 ≤ i) (h4 : i ≤ 7) : ¬ fSt i = 0 ∧ ¬ fSt i = 2 ∧ ¬ fSt i = -2 := by
  have h := fSt0 ⟨i.toNat, by omega⟩
  dsimp only at h
  rw [show ((i.toNat : Nat) : Int) = i by omega] at h
  exact h
theorem fMk {m : Int32} {f t b : Int} (h : m.toInt = 512 * f + 8 * t + b) (hf : 0 ≤ f ∧ f < 64) (ht : 0 ≤ t ∧ t < 64) (hb : 0 ≤ b ∧ b < 8) : (fMf m : Int) = f ∧ (fMt m : Int) = t ∧ (fMb m : Int) = b := by
  obtain ⟨c, e1, e2⟩ := aShr_l m 9
  obtain rfl := e2 9 (by decide) (by decide)
  obtain ⟨c, e3, e4⟩ := aShr_l m 3
  obtain rfl := e4 3 (by decide) (by decide)
  rw [show (2 : Int) ^ 9 = 512 by decide] at e1
  rw [show (2 : Int) ^ 3 = 8 by decide] at e3
  have k63 : (63 : Int32).toInt = 63 := by decide
  have k7 : (7 : Int32).toInt = 7 := by decide
  have e5 : (m >>> (3 &&& 31) &&& 63).toInt = (m >>> (3 &&& 31)).toInt % (63 + 1) := by
    have := aAnd_m (x := m >>> (3 &&& 31)) (y := 63) (by omega) (by decide) (by decide)
    rw [k63] at this
    exact this
  have e6 : (m &&& 7).toInt = m.toInt % (7 + 1) := by
    have := aAnd_m (x := m) (y := 7) (by omega) (by decide) (by decide)
    rw [k7] at this
    exact this
  have c1 : fMf m = (m >>> (9 &&& 31)).toInt.toNat := rfl
  have c2 : fMt m = (m >>> (3 &&& 31) &&& 63).toInt.toNat := rfl
  have c3 : fMb m = (m &&& 7).toInt.toNat := rfl
  omega
theorem fRow {T : List aKd} {K : Nat → Nat} {n : Nat} {σ : Nat → jcell} (h : aH T K n σ) {a k : Nat} (ha : a < n) (hk : K a = k) {q : FieldType × Nat × (Int × Int) × List (Nat × Nat × Int × Int × Int)} (hT : T[k]? = some (.inl q)) (hq : ¬ q.1 = .long) : ∃ g, σ a = .inl (q.1, q.2.1, .inl g) := by
  have h1 := h a ha _ (by rw [hk]; exact hT)
  obtain ⟨g, e, -⟩ := aCe_arr h1 hq
  exact ⟨g, e⟩
theorem fNc (x : Int32) : x.toNatClampNeg = x.toInt.toNat := rfl
/-- a store into a list of moves -/
theorem fLl_st {K : Nat → Nat} {n : Nat} {σ : Nat → jcell} {a : Nat} {P P' : Int → Prop} {Q : Int32 → Prop} {i : Nat} {x : Int32} (h : fLl K n σ a P Q) (hx : P' i → Q x) (hp : ∀ k : Nat, ¬ k = i → P' k → P k) : fLl K n (jup σ a (jsto (σ a) i x)) a P' Q := by
  obtain ⟨h1, h2, m, g, h3, h4⟩ := h
  refine ⟨h1, h2, m, upd g i x, by rw [jup_s, h3]; rfl, fun k hk => ?_⟩
  unfold upd
  split
  next e => subst e; exact hx hk
  next e => exact h4 k (hp k e hk)
theorem fAt_cg {K : Nat → Nat} {n : Nat} {σ : Nat → jcell} {a : Nat} {men men' F : Nat → Int32} (h : fAt K n σ a men F) (he : ∀ i, i < 64 → men i = men' i) : fAt K n σ a men' F := by
  obtain ⟨h1, h2, fs, r, g, h3, h4, h5, h6, h7, h8, h9⟩ := h
  exact ⟨h1, h2, fs, r, g, h3, h4, h5, h6, h7, fun i hi => (h8 i hi).trans (he i hi), h9⟩
/-- the Board's fields and its row, as they were read -/
theorem fAt_of {K : Nat → Nat} {n : Nat} {σ : Nat → jcell} {a c : Nat} {men F : Nat → Int32} {fs : List jv} (h : fAt K n σ a men F) (hs : σ a = .inr (c, fs)) : (∀ r : Nat, fs[0]? = some (fR r) → ∃ g : Nat → Int32, σ r = .inl (.int, 64, .inl g) ∧ (∀ i, i < 64 → g i = men i)) ∧ (∀ x : Int32, fs[2]? = some (fI x) → x = F 2) ∧ (∀ x : Int32, fs[3]? = some (fI x) → x = F 3) ∧ (∀ x : Int32, fs[4]? = some (fI x) → x = F 4) ∧ (∀ x : Int32, fs[5]? = some (fI x) → x = F 5) := by
  obtain ⟨h1, h2, fs', r, g, h3, h4, h5, h6, h7, h8, k2, k3, k4, k5, -⟩ := h
  rw [hs] at h3
  cases h3
  refine ⟨fun r' hr => ?_, fun x hx => ?_, fun x hx => ?_, fun x hx => ?_, fun x hx => ?_⟩
  · rw [h4] at hr
    cases hr
    exact ⟨g, h7, h8⟩
  · rw [k2] at hx; cases hx; rfl
  · rw [k3] at hx; cases hx; rfl
  · rw [k4] at hx; cases hx; rfl
  · rw [k5] at hx; cases hx; rfl
theorem fAt_w {K : Nat → Nat} {n : Nat} {σ : Nat → jcell} {a c : Nat} {men F : Nat → Int32} {fs : List jv} (h : fAt K n σ a men F) (hs : σ a = .inr (c, fs)) {r : Nat} (hr : fs[8]? = some (fR r)) : ∃ g : Nat → Int32, σ r = .inl (.int, 2, .inl g) ∧ g 0 = F 12 ∧ g 1 = F 13 := by
  obtain ⟨h1, h2, fs', r', g, h3, h4, h5, h6, h7, h8, k2, k3, k4, k5, rw, gw, w1, w2, w3, w4, w5⟩ := h
  rw [hs] at h3
  cases h3
  rw [w1] at hr
  cases hr
  exact ⟨gw, w4, w5⟩
theorem fAt_st {K : Nat → Nat} {n : Nat} {σ : Nat → jcell} {a c r i : Nat} {men F : Nat → Int32} {fs : List jv} {x : Int32} (h : fAt K n σ a men F) (hs : σ a = .inr (c, fs)) (hr : fs[0]? = some (fR r)) : fAt K n (jup σ r (jsto (σ r) i x)) a (upd men i x) F := by
  obtain ⟨h1, h2, fs', r', g, h3, h4, h5, h6, h7, h8, k⟩ := h
  rw [hs] at h3
  cases h3
  rw [h4] at hr
  cases hr
  have hne : a ≠ r := by
    intro e
    rw [e, h7] at hs
    cases hs
  obtain ⟨k2, k3, k4, k5, rw, gw, w1, w2, w3, w4, w5⟩ := k
  have hnw : rw ≠ r := by
    intro e
    rw [e, h7] at w4
    cases w4
  refine ⟨h1, h2, fs, r, upd g i x, by rw [jup_n hne]; exact hs, h4, h5, h6, by rw [jup_s, h7]; rfl, fun j hj => ?_, k2, k3, k4, k5, rw, gw, w1, w2, w3, by rw [jup_n hnw]; exact w4, w5⟩
  unfold upd
  split
  · rfl
  · exact h8 j hj
theorem fG_any {K : Nat → Nat} {n : Nat} {v : jv} (h : aG K n (.inr (some (.inl (false, 99999)))) v) : ∃ a, v = fR a ∧ a < n := by
  rcases aG_ref h with h | ⟨a, e, h1, -⟩
  · cases h.1
  · exact ⟨a, e, h1⟩
theorem fG_ref {K : Nat → Nat} {n k : Nat} (h9 : ¬ k = 99999) {v : jv} (h : aG K n (.inr (some (.inl (false, k)))) v) : ∃ a, v = fR a ∧ a < n ∧ K a = k := by
  exact aG_obj h9 h
end
section
/-! the tree of a game: what holds of it, apart from the heap -/
theorem fTk_le {N : Nat} {t : fTy} {q : fQ} {h : Nat} (H : fTk N t q h) : h ≤ N := H.1
theorem fTk_good {N : Nat} {t : fTy} {q : fQ} {h : Nat} (H : fTk N t q h) : fGood q.1 q.2 ∧ 0 ≤ (q.2 5).toInt ∧ (q.2 5).toInt ≤ 999 + h := by
  obtain ⟨h1, h2, pos, S, L, rfl, g1, -⟩ := H
  exact g1 h h1
theorem fTk_pa {N : Nat} {t : fTy} {q : fQ} {h : Nat} (H : fTk N t q h) {k : Nat} (h1 : 1 ≤ k) (h2 : k ≤ N) : 0 ≤ (t.1 k).toInt ∧ (t.1 k).toInt < k := by
  obtain ⟨-, -, pos, S, L, -, -, g2, -⟩ := H
  obtain ⟨j, e, l, -⟩ := g2 k h1 h2
  omega
theorem fTk_up {N : Nat} {t : fTy} {q : fQ} {h : Nat} (H : fTk N t q h) (hh : 1 ≤ h) : ∃ (j : Nat) (q' : fQ), (t.1 h).toInt = j ∧ j < h ∧ fTk N t q' j ∧ fM q'.1 q'.2 (t.2.1 h) ∧ q = fPl q' (t.2.1 h) ∧ fU q' (t.2.1 h) (t.2.2.2.2 h) := by
  obtain ⟨h1, h2, pos, S, L, rfl, g1, g2, g3, g4, g5⟩ := H
  obtain ⟨j, e1, e2, e3, e4⟩ := g2 h hh h1
  have hs : S h := g3.resolve_left (by omega)
  obtain ⟨-, -, j', f1, f2, f3, -⟩ := g4 h hs
  have ej : j' = j := by omega
  subst ej
  refine ⟨j', pos j', e1, e2, ⟨by omega, h2, pos, fun k => S k ∧ k ≤ j', L, rfl, g1, g2, f3.imp id (fun z => ⟨z, Nat.le_refl _⟩), fun k hk => ?_, g5⟩, e3, e4, f2⟩
  obtain ⟨a1, a2, i, a3, a4, a5, -⟩ := g4 k hk.1
  obtain ⟨i', b1, b2, -⟩ := g2 k a1 a2
  have ei : i' = i := by omega
  subst ei
  exact ⟨a1, a2, i', a3, a4, a5.imp id (fun z => ⟨z, by have := hk.2; omega⟩), hk.2⟩
theorem fTk_mv {N : Nat} {t : fTy} {q : fQ} {h : Nat} (H : fTk N t q h) {c : Nat} (h1 : 1 ≤ c) (h2 : c ≤ N) (hp : (t.1 c).toInt = h) : fM q.1 q.2 (t.2.1 c) := by
  obtain ⟨-, -, pos, S, L, rfl, -, g2, -⟩ := H
  obtain ⟨j, e1, e2, e3, e4⟩ := g2 c h1 h2
  have ej : j = h := by omega
  subst ej
  exact e3
theorem fTk_dn {N : Nat} {t : fTy} {q : fQ} {h : Nat} (H : fTk N t q h) {c : Nat} (h1 : 1 ≤ c) (h2 : c ≤ N) (hp : (t.1 c).toInt = h) {u : Int64} (hu : fU q (t.2.1 c) u) : fTk N (t.1, t.2.1, t.2.2.1, t.2.2.2.1, vp_updL t.2.2.2.2 c u) (fPl q (t.2.1 c)) c := by
  obtain ⟨k1, k2, pos, S, L, rfl, g1, g2, g3, g4, g5⟩ := H
  obtain ⟨j, e1, e2, e3, e4⟩ := g2 c h1 h2
  have ej : j = h := by omega
  subst ej
  refine ⟨h2, k2, pos, fun k => S k ∨ k = c, L, e4, g1, g2, Or.inr (Or.inr rfl), fun k hk => ?_, g5⟩
  rcases hk with hk | rfl
  · obtain ⟨a1, a2, i, a3, a4, a5, a6⟩ := g4 k hk
    refine ⟨a1, a2, i, a3, ?_, a5.imp id Or.inl, by omega⟩
    show fU (pos i) (t.2.1 k) (vp_updL t.2.2.2.2 c u k)
    unfold vp_updL
    rw [if_neg (by omega)]
    exact a4
  · refine ⟨h1, h2, j, hp, ?_, g3.imp id Or.inl, Nat.le_refl _⟩
    show fU (pos j) (t.2.1 k) (vp_updL t.2.2.2.2 k u k)
    unfold vp_updL
    rw [if_pos rfl]
    exact hu
/-! chains -/
theorem fCn_uq {af : Nat → Int32} : ∀ {L L' : List Nat} {x : Int}, fCn af x L → fCn af x L' → (∀ c ∈ L, 1 ≤ c) → (∀ c ∈ L', 1 ≤ c) → L = L'
  | [], [], _, _, _, _, _ => rfl
  | [], c :: r, x, h1, h2, _, h4 => by
    have := h4 c List.mem_cons_self
    have e1 : x = 0 := h1
    have e2 : x = (c : Int) := h2.1
    omega
  | c :: r, [], x, h1, h2, h3, _ => by
    have := h3 c List.mem_cons_self
    have e1 : x = (c : Int) := h1.1
    have e2 : x = 0 := h2
    omega
  | c :: r, c' :: r', x, h1, h2, h3, h4 => by
    have e : c = c' := by have e1 : x = (c : Int) := h1.1; have e2 : x = (c' : Int) := h2.1; omega
    subst e
    rw [fCn_uq h1.2 h2.2 (fun d hd => h3 d (List.mem_cons_of_mem _ hd)) (fun d hd => h4 d (List.mem_cons_of_mem _ hd))]
theorem fCn_cg {af af' : Nat → Int32} : ∀ {L : List Nat} {x : Int}, (∀ c ∈ L, af' c = af c) → fCn af x L → fCn af' x L
  | [], _, _, h => h
  | c :: r, _, he, h => ⟨h.1, by rw [he c List.mem_cons_self]; exact fCn_cg (fun d hd => he d (List.mem_cons_of_mem _ hd)) h.2⟩
theorem fCn_drop {af : Nat → Int32} {L : List Nat} {i : Nat} {x y : Int} (h : fCn af x (L.drop i)) (h1 : ∀ c ∈ L, 1 ≤ c) (hx : 1 ≤ x) (hy : y = (af x.toNat).toInt) : fCn af y (L.drop (i + 1)) ∧ ∃ c ∈ L, x = (c : Int) := by
  cases e : L.drop i with
  | nil =>
    rw [e] at h
    have : x = 0 := h
    omega
  | cons c r =>
    rw [e] at h
    have hc : x = (c : Int) := h.1
    have hr : L.drop (i + 1) = r := by
      rw [← List.drop_drop, e]
      rfl
    refine ⟨?_, c, ?_, hc⟩
    · rw [hr, hy, hc]
      exact h.2
    · have : c ∈ L.drop i := by rw [e]; exact List.mem_cons_self
      exact List.mem_of_mem_drop this
theorem fNd_len : ∀ (N : Nat) (L : List Nat), L.Nodup → (∀ c ∈ L, 1 ≤ c ∧ c ≤ N) → L.length ≤ N := by
  intro N
  induction N with
  | zero =>
    intro L _ h
    cases L with
    | nil => exact Nat.le_refl _
    | cons c r => have := h c List.mem_cons_self; omega
  | succ N ih =>
    intro L hn h
    by_cases hm : (N + 1) ∈ L
    · have h1 : (L.erase (N + 1)).length = L.length - 1 := List.length_erase_of_mem hm
      have h2 : (L.erase (N + 1)).length ≤ N := by
        refine ih _ (hn.erase _) (fun c hc => ?_)
        have h3 := (List.Nodup.mem_erase_iff hn).mp hc
        have h4 := h c h3.2
        have h5 := h3.1
        omega
      have h6 : 1 ≤ L.length := List.length_pos_of_mem hm
      omega
    · have := ih L hn (fun c hc => by
        have h4 := h c hc
        have h5 : ¬ c = N + 1 := fun e => hm (e ▸ hc)
        omega)
      omega
theorem fCn_end {af : Nat → Int32} {L : List Nat} {N i : Nat} {x : Int} (h : fCn af x (L.drop i)) (hn : L.Nodup) (h1 : ∀ c ∈ L, 1 ≤ c ∧ c ≤ N) (hi : N ≤ i) : x = 0 := by
  have h2 := fNd_len N L hn h1
  have e : L.drop i = [] := List.drop_eq_nil_of_le (by omega)
  rw [e] at h
  exact h
theorem fTk_ch {N : Nat} {t : fTy} {q : fQ} {h : Nat} (H : fTk N t q h) {k : Nat} (hk : k ≤ N) : ∃ L : List Nat, L.Nodup ∧ fCn t.2.2.2.1 (t.2.2.1 k).toInt L ∧ ∀ c ∈ L, 1 ≤ c ∧ c ≤ N ∧ (t.1 c).toInt = k := by
  obtain ⟨-, -, pos, S, L, -, -, -, -, -, g5⟩ := H
  exact ⟨L k, g5 k hk⟩
theorem fPl_ck (q : fQ) (m : Int32) (h0 : 0 ≤ (q.2 5).toInt) (h1 : (q.2 5).toInt ≤ 2000) : 0 ≤ ((fPl q m).2 5).toInt ∧ ((fPl q m).2 5).toInt ≤ (q.2 5).toInt + 1 := by
  unfold fPl fFw bF
  dsimp only
  simp only [va_up]
  simp only [show ¬ (5 : Nat) = 2 from by decide, show ¬ (5 : Nat) = 6 from by decide, show ¬ (5 : Nat) = 12 from by decide, show ¬ (5 : Nat) = 13 from by decide, if_true, if_false]
  have e0 : (0 : Int32).toInt = 0 := rfl
  have e1 : (q.2 5 + 1).toInt = (q.2 5).toInt + 1 := by
    rw [Int32.toInt_add, show (1 : Int32).toInt = 1 from rfl]
    exact Int.bmod_eq_of_le (by omega) (by omega)
  split
  · rw [e0]; omega
  · rw [e1]; omega
/-- a node more: behind the others with its parent -/
theorem fTk_add {N : Nat} {t t' : fTy} {q : fQ} {h : Nat} (H : fTk N t q h) (hN : N ≤ 299) {m : Int32} (hm : fM q.1 q.2 m) (hg : fGood (fPl q m).1 (fPl q m).2)
    (e1 : ∀ k, k ≤ N → t'.1 k = t.1 k) (e2 : ∀ k, k ≤ N → t'.2.1 k = t.2.1 k) (eu : t'.2.2.2.2 = t.2.2.2.2)
    (p1 : (t'.1 (N + 1)).toInt = h) (p2 : t'.2.1 (N + 1) = m) (p3 : (t'.2.2.1 (N + 1)).toInt = 0)
    (hf : ∀ k, k ≤ N → ¬ k = h → t'.2.2.1 k = t.2.2.1 k) (ha : ∀ k, k ≤ N → ¬ (t.1 k).toInt = h → t'.2.2.2.1 k = t.2.2.2.1 k)
    (hL : ∀ L : List Nat, L.Nodup → fCn t.2.2.2.1 (t.2.2.1 h).toInt L → (∀ c ∈ L, 1 ≤ c ∧ c ≤ N) → fCn t'.2.2.2.1 (t'.2.2.1 h).toInt (L ++ [N + 1])) : fTk (N + 1) t' q h := by
  obtain ⟨k1, k2, pos, S, L, rfl, g1, g2, g3, g4, g5⟩ := H
  have hlow : ∀ k, k ≤ N → (if k = N + 1 then fPl (pos h) m else pos k) = pos k := fun k hk => if_neg (by omega)
  refine ⟨by omega, by omega, fun k => if k = N + 1 then fPl (pos h) m else pos k, S, fun k => if k = h then L h ++ [N + 1] else if k = N + 1 then [] else L k, hlow h k1, fun k hk => ?_, fun k h1 h2 => ?_, g3, fun k hk => ?_, fun k hk => ?_⟩
  · by_cases e : k = N + 1
    · subst e
      dsimp only
      rw [if_pos rfl]
      have h3 := g1 h k1
      have h4 := fPl_ck (pos h) m h3.2.1 (by omega)
      exact ⟨hg, h4.1, by omega⟩
    · have : k ≤ N := by omega
      dsimp only
      rw [hlow k this]
      exact g1 k this
  · by_cases e : k = N + 1
    · subst e
      refine ⟨h, p1, by omega, ?_, ?_⟩
      · dsimp only
        rw [hlow h k1, p2]
        exact hm
      · dsimp only
        rw [hlow h k1, p2, if_pos rfl]
    · have hk : k ≤ N := by omega
      obtain ⟨j, a1, a2, a3, a4⟩ := g2 k h1 hk
      refine ⟨j, by rw [e1 k hk]; exact a1, a2, ?_, ?_⟩
      · dsimp only
        rw [hlow j (by omega), e2 k hk]
        exact a3
      · dsimp only
        rw [hlow j (by omega), e2 k hk, hlow k hk]
        exact a4
  · obtain ⟨a1, a2, j, a3, a4, a5, a6⟩ := g4 k hk
    obtain ⟨j', b1, b2, -⟩ := g2 k a1 a2
    refine ⟨a1, by omega, j, by rw [e1 k a2]; exact a3, ?_, a5, a6⟩
    dsimp only
    rw [hlow j (by omega), e2 k a2, eu]
    exact a4
  · by_cases e : k = h
    · subst e
      obtain ⟨b1, b2, b3⟩ := g5 k k1
      dsimp only
      rw [if_pos rfl]
      refine ⟨?_, hL (L k) b1 b2 (fun c hc => ⟨(b3 c hc).1, (b3 c hc).2.1⟩), fun c hc => ?_⟩
      · refine List.nodup_append.mpr ⟨b1, by simp, fun a ha b hb => ?_⟩
        rw [List.mem_singleton] at hb
        have := (b3 a ha).2.1
        omega
      · rcases List.mem_append.mp hc with hc | hc
        · obtain ⟨c1, c2, c3⟩ := b3 c hc
          exact ⟨c1, by omega, by rw [e1 c c2]; exact c3⟩
        · rw [List.mem_singleton] at hc
          subst hc
          exact ⟨by omega, Nat.le_refl _, p1⟩
    · dsimp only
      rw [if_neg e]
      by_cases e9 : k = N + 1
      · subst e9
        rw [if_pos rfl]
        exact ⟨List.nodup_nil, p3, fun c hc => by cases hc⟩
      · have hk2 : k ≤ N := by omega
        rw [if_neg e9, hf k hk2 e]
        obtain ⟨b1, b2, b3⟩ := g5 k hk2
        refine ⟨b1, fCn_cg (fun c hc => ?_) b2, fun c hc => ?_⟩
        · obtain ⟨c1, c2, c3⟩ := b3 c hc
          exact ha c c2 (by omega)
        · obtain ⟨c1, c2, c3⟩ := b3 c hc
          exact ⟨c1, by omega, by rw [e1 c c2]; exact c3⟩
theorem fCn_app {af af' : Nat → Int32} {N : Nat} : ∀ {L : List Nat} {x y : Int}, fCn af x L → L.Nodup → (∀ c ∈ L, c ≤ N ∧ 1 ≤ c) → (∀ c ∈ L, ¬ (af c).toInt = 0 → af' c = af c) → (∀ c ∈ L, (af c).toInt = 0 → (af' c).toInt = (N + 1 : Int)) → (af' (N + 1)).toInt = 0 → (x = 0 → y = (N + 1 : Int)) → (¬ x = 0 → y = x) → fCn af' y (L ++ [N + 1])
  | [], x, y, h, _, _, _, _, h3, h4, _ => by
    have e : x = 0 := h
    exact ⟨by rw [h4 e]; simp, by rw [h3]; rfl⟩
  | c :: r, x, y, h, hn, hb, h1, h2, h3, h4, h5 => by
    have e : x = (c : Int) := h.1
    have hc := hb c List.mem_cons_self
    have hn2 := (List.nodup_cons.mp hn).2
    refine ⟨by rw [h5 (by omega)]; exact e, ?_⟩
    refine fCn_app (x := (af c).toInt) h.2 hn2 (fun d hd => hb d (List.mem_cons_of_mem _ hd)) (fun d hd => h1 d (List.mem_cons_of_mem _ hd)) (fun d hd => h2 d (List.mem_cons_of_mem _ hd)) h3 (fun e0 => h2 c List.mem_cons_self e0) (fun e0 => ?_)
    rw [h1 c List.mem_cons_self e0]
theorem fCn_rem {af af' : Nat → Int32} {b n : Nat} {B : List Nat} : ∀ {A : List Nat} {x : Int}, fCn af x (A ++ b :: n :: B) → (∀ c ∈ A, af' c = af c) → (af' b = af n) → (∀ c ∈ B, af' c = af c) → fCn af' x (A ++ b :: B)
  | [], x, h, _, h2, h3 => ⟨h.1, by rw [h2]; exact fCn_cg h3 h.2.2⟩
  | c :: A, x, h, h1, h2, h3 => ⟨h.1, by rw [h1 c List.mem_cons_self]; exact fCn_rem h.2 (fun d hd => h1 d (List.mem_cons_of_mem _ hd)) h2 h3⟩
theorem fTk_lead {N : Nat} {t : fTy} {q : fQ} {h : Nat} (H : fTk N t q h) {ab bf nd i : Nat} {ndI : Int32} {L0 : List Nat} (n0 : L0.Nodup) (c0 : fCn t.2.2.2.1 (t.2.2.1 ab).toInt L0) (l0 : ∀ c ∈ L0, 1 ≤ c ∧ c ≤ N ∧ (t.1 c).toInt = ab) (hd : fCn t.2.2.2.1 (bf : Int) (L0.drop i)) (hb : 1 ≤ bf) (hn : (t.2.2.2.1 bf).toInt = nd) (hn1 : 1 ≤ nd) (hI : ndI.toInt = nd) (hab : ab ≤ N) : fTk N (t.1, t.2.1, upd t.2.2.1 ab ndI, upd (upd t.2.2.2.1 bf (t.2.2.2.1 nd)) nd (t.2.2.1 ab), t.2.2.2.2) q h := by
  obtain ⟨k1, k2, pos, S, L, hq, g1, g2, g3, g4, g5⟩ := H
  obtain ⟨B, eB⟩ : ∃ B, L0.drop i = bf :: nd :: B := by
    cases e : L0.drop i with
    | nil => rw [e] at hd; have : (bf : Int) = 0 := hd; omega
    | cons c r =>
      rw [e] at hd
      have e1 : c = bf := by have : (bf : Int) = c := hd.1; omega
      subst e1
      cases r with
      | nil => have e2 : (t.2.2.2.1 c).toInt = 0 := hd.2; omega
      | cons d r =>
        have e2 : (t.2.2.2.1 c).toInt = (d : Int) := hd.2.1
        have e3 : d = nd := by omega
        subst e3
        exact ⟨r, rfl⟩
  have eL : L0 = L0.take i ++ bf :: nd :: B := by rw [← eB, List.take_append_drop]
  generalize L0.take i = A at eL
  subst eL
  have hbm := l0 bf (by simp)
  have hnm := l0 nd (by simp)
  have hnd := List.nodup_append.mp n0
  have hn2 := List.nodup_cons.mp hnd.2.1
  have hn3 := List.nodup_cons.mp hn2.2
  have hA : ∀ c ∈ A, ¬ c = bf ∧ ¬ c = nd := fun c hc => ⟨hnd.2.2 c hc bf (by simp), hnd.2.2 c hc nd (by simp)⟩
  have hB : ∀ c ∈ B, ¬ c = bf ∧ ¬ c = nd := fun c hc => ⟨fun e => hn2.1 (by rw [← e]; simp [hc]), fun e => hn3.1 (e ▸ hc)⟩
  have hbn : ¬ bf = nd := fun e => hn2.1 (by rw [e]; simp)
  have key : ∀ c, ¬ c = bf → ¬ c = nd → upd (upd t.2.2.2.1 bf (t.2.2.2.1 nd)) nd (t.2.2.1 ab) c = t.2.2.2.1 c := fun c h1 h2 => by
    unfold upd
    rw [if_neg h2, if_neg h1]
  refine ⟨k1, k2, pos, S, fun k => if k = ab then nd :: (A ++ bf :: B) else L k, hq, g1, g2, g3, g4, fun k hk => ?_⟩
  by_cases e : k = ab
  · subst e
    dsimp only
    rw [if_pos rfl]
    refine ⟨?_, ⟨?_, ?_⟩, fun c hc => ?_⟩
    · refine List.nodup_cons.mpr ⟨fun hm => ?_, ?_⟩
      · rcases List.mem_append.mp hm with hm | hm
        · exact (hA nd hm).2 rfl
        · rcases List.mem_cons.mp hm with hm | hm
          · exact hbn hm.symm
          · exact (hB nd hm).2 rfl
      · refine List.nodup_append.mpr ⟨hnd.1, List.nodup_cons.mpr ⟨fun hm => (hB bf hm).1 rfl, hn3.2⟩, fun a ha b hb => ?_⟩
        rcases List.mem_cons.mp hb with rfl | hb
        · exact (hA a ha).1
        · exact hnd.2.2 a ha b (by simp [hb])
    · show (upd t.2.2.1 k ndI k).toInt = nd
      unfold upd
      rw [if_pos rfl]
      exact hI
    · show fCn _ (upd (upd t.2.2.2.1 bf (t.2.2.2.1 nd)) nd (t.2.2.1 k) nd).toInt _
      have e1 : upd (upd t.2.2.2.1 bf (t.2.2.2.1 nd)) nd (t.2.2.1 k) nd = t.2.2.1 k := by
        unfold upd
        rw [if_pos rfl]
      rw [e1]
      refine fCn_rem c0 (fun c hc => key c (hA c hc).1 (hA c hc).2) ?_ (fun c hc => key c (hB c hc).1 (hB c hc).2)
      unfold upd
      rw [if_neg hbn, if_pos rfl]
    · have : c ∈ A ++ bf :: nd :: B := by
        rcases List.mem_cons.mp hc with rfl | hc
        · simp
        · rcases List.mem_append.mp hc with hc | hc
          · simp [hc]
          · rcases List.mem_cons.mp hc with rfl | hc
            · simp
            · simp [hc]
      exact l0 c this
  · obtain ⟨b1, b2, b3⟩ := g5 k hk
    dsimp only
    rw [if_neg e]
    refine ⟨b1, ?_, b3⟩
    have ef : upd t.2.2.1 ab ndI k = t.2.2.1 k := by unfold upd; rw [if_neg e]
    rw [ef]
    refine fCn_cg (fun c hc => key c ?_ ?_) b2
    · intro e9; subst e9
      have := (b3 c hc).2.2
      omega
    · intro e9; subst e9
      have := (b3 c hc).2.2
      omega
theorem fCn_last {af : Nat → Int32} : ∀ {L : List Nat} {x : Int}, fCn af x L → L.Nodup → (∀ c ∈ L, 1 ≤ c) → ∀ {d e : Nat}, d ∈ L → e ∈ L → (af d).toInt = 0 → (af e).toInt = 0 → d = e
  | [], _, _, _, _, _, _, hd, _, _, _ => by cases hd
  | c :: r, x, h, hn, h1, d, e, hd, he, zd, ze => by
    by_cases hz : (af c).toInt = 0
    · have hr : r = [] := by
        cases r with
        | nil => rfl
        | cons b r =>
          have h2 : (af c).toInt = (b : Int) := h.2.1
          have h3 := h1 b (List.mem_cons_of_mem _ List.mem_cons_self)
          omega
      subst hr
      rw [List.mem_singleton] at hd he
      rw [hd, he]
    · have hd2 : d ∈ r := (List.mem_cons.mp hd).resolve_left (fun e => hz (e ▸ zd))
      have he2 : e ∈ r := (List.mem_cons.mp he).resolve_left (fun e9 => hz (e9 ▸ ze))
      exact fCn_last h.2 (List.nodup_cons.mp hn).2 (fun b hb => h1 b (List.mem_cons_of_mem _ hb)) hd2 he2 zd ze
theorem fCn_le {N : Nat} {t : fTy} {q : fQ} {h : Nat} (H : fTk N t q h) {L : List Nat} {ab : Nat} (n1 : L.Nodup) (c1 : fCn t.2.2.2.1 (t.2.2.1 ab).toInt L) (l1 : ∀ c ∈ L, 1 ≤ c) (hab : ab ≤ N) {c : Nat} (hc : c ∈ L) : c ≤ N := by
  obtain ⟨L', h1, h2, h3⟩ := fTk_ch H hab
  have e := fCn_uq c1 h2 l1 (fun d hd => (h3 d hd).1)
  subst e
  exact (h3 c hc).2.1
theorem fUp_s (pa : Nat → Int32) (k x : Nat) : fUp pa (k + 1) x = fUp pa k (pa x).toInt.toNat := rfl
theorem fUp_z (pa : Nat → Int32) (x : Nat) : fUp pa 0 x = x := rfl
/-! rows and fields of a game -/
theorem fRo_r {K : Nat → Nat} {n : Nat} {σ : Nat → jcell} {a f k c r : Nat} {fs : List jv} {g : Nat → Int32} (h : fRo K n σ a f k g) (hs : σ a = .inr (c, fs)) (ht : fs[f]? = some (fR r)) : r < n ∧ K r = k ∧ σ r = .inl (.int, 301, .inl g) := by
  obtain ⟨-, -, fs', r', e1, e2, h1, h2, h3⟩ := h
  rw [hs] at e1
  cases e1
  rw [ht] at e2
  cases e2
  exact ⟨h1, h2, h3⟩
theorem fRl_r {K : Nat → Nat} {n : Nat} {σ : Nat → jcell} {a c r : Nat} {fs : List jv} {g : Nat → Int64} (h : fRl K n σ a g) (hs : σ a = .inr (c, fs)) (ht : fs[7]? = some (fR r)) : r < n ∧ K r = 42 ∧ σ r = .inl (.long, 301, .inr (.inl g)) := by
  obtain ⟨-, -, fs', r', e1, e2, h1, h2, h3⟩ := h
  rw [hs] at e1
  cases e1
  rw [ht] at e2
  cases e2
  exact ⟨h1, h2, h3⟩
theorem fRo_u {K : Nat → Nat} {n : Nat} {σ : Nat → jcell} {a f k : Nat} {g g' : Nat → Int32} (h : fRo K n σ a f k g) (h' : fRo K n σ a f k g') : g = g' := by
  obtain ⟨-, -, fs, r, e1, e2, -, -, h3⟩ := h
  have h4 := (fRo_r h' e1 e2).2.2
  rw [h3] at h4
  cases h4
  rfl
theorem fRl_u {K : Nat → Nat} {n : Nat} {σ : Nat → jcell} {a : Nat} {g g' : Nat → Int64} (h : fRl K n σ a g) (h' : fRl K n σ a g') : g = g' := by
  obtain ⟨-, -, fs, r, e1, e2, -, -, h3⟩ := h
  have h4 := (fRl_r h' e1 e2).2.2
  rw [h3] at h4
  cases h4
  rfl
theorem fTw_u {K : Nat → Nat} {n : Nat} {σ : Nat → jcell} {a : Nat} {t t' : fTy} (h : fTw K n σ a t) (h' : fTw K n σ a t') : t = t' := by
  obtain ⟨t1, t2, t3, t4, t5⟩ := t
  obtain ⟨u1, u2, u3, u4, u5⟩ := t'
  obtain ⟨a1, a2, a3, a4, a5⟩ := h
  obtain ⟨b1, b2, b3, b4, b5⟩ := h'
  have e1 := fRo_u a1 b1
  have e2 := fRo_u a2 b2
  have e3 := fRo_u a3 b3
  have e4 := fRo_u a4 b4
  have e5 := fRl_u a5 b5
  dsimp only at e1 e2 e3 e4 e5
  rw [e1, e2, e3, e4, e5]
theorem fFi_u {K : Nat → Nat} {n : Nat} {σ : Nat → jcell} {a f c : Nat} {fs : List jv} {v w : jv} (h : fFi K n σ a f v) (hs : σ a = .inr (c, fs)) (ht : fs[f]? = some w) : v = w := by
  obtain ⟨-, -, fs', e1, e2⟩ := h
  rw [hs] at e1
  cases e1
  rw [ht] at e2
  exact (Option.some.inj e2).symm
theorem fFi_i {K : Nat → Nat} {n : Nat} {σ : Nat → jcell} {a f c : Nat} {fs : List jv} {v w : Int32} (h : fFi K n σ a f (fI v)) (hs : σ a = .inr (c, fs)) (ht : fs[f]? = some (fI w)) : w = v := (Sum.inl.inj (fFi_u h hs ht)).symm
theorem fFi_r {K : Nat → Nat} {n : Nat} {σ : Nat → jcell} {a f c : Nat} {fs : List jv} {v w : Nat} (h : fFi K n σ a f (fR v)) (hs : σ a = .inr (c, fs)) (ht : fs[f]? = some (fR w)) : w = v := (Sum.inl.inj (Option.some.inj (Sum.inr.inj (Sum.inr.inj (fFi_u h hs ht))))).symm
theorem fRo_c {K : Nat → Nat} {n : Nat} {σ : Nat → jcell} {a f k c r m : Nat} {ty : FieldType} {fs : List jv} {g gc : Nat → Int32} (h : fRo K n σ a f k g) (hs : σ a = .inr (c, fs)) (ht : fs[f]? = some (fR r)) (hc : σ r = .inl (ty, m, .inl gc)) : gc = g := by
  have h3 := (fRo_r h hs ht).2.2
  rw [hc] at h3
  cases h3
  rfl
theorem fRl_c {K : Nat → Nat} {n : Nat} {σ : Nat → jcell} {a c r m : Nat} {ty : FieldType} {fs : List jv} {g gc : Nat → Int64} (h : fRl K n σ a g) (hs : σ a = .inr (c, fs)) (ht : fs[7]? = some (fR r)) (hc : σ r = .inl (ty, m, .inr (.inl gc))) : gc = g := by
  have h3 := (fRl_r h hs ht).2.2
  rw [hc] at h3
  cases h3
  rfl
theorem fRo_ne {K : Nat → Nat} {n : Nat} {σ : Nat → jcell} {a f k b : Nat} {c : jcell} {g : Nat → Int32} (h : fRo K n σ a f k g) (h1 : ¬ K b = 25) (h2 : ¬ K b = k) : fRo K n (jup σ b c) a f k g := by
  obtain ⟨ha, hk, fs, r, e1, e2, l1, l2, l3⟩ := h
  have n1 : a ≠ b := fun e => h1 (e ▸ hk)
  have n2 : r ≠ b := fun e => h2 (e ▸ l2)
  exact ⟨ha, hk, fs, r, by rw [jup_n n1]; exact e1, e2, l1, l2, by rw [jup_n n2]; exact l3⟩
theorem fRl_ne {K : Nat → Nat} {n : Nat} {σ : Nat → jcell} {a b : Nat} {c : jcell} {g : Nat → Int64} (h : fRl K n σ a g) (h1 : ¬ K b = 25) (h2 : ¬ K b = 42) : fRl K n (jup σ b c) a g := by
  obtain ⟨ha, hk, fs, r, e1, e2, l1, l2, l3⟩ := h
  have n1 : a ≠ b := fun e => h1 (e ▸ hk)
  have n2 : r ≠ b := fun e => h2 (e ▸ l2)
  exact ⟨ha, hk, fs, r, by rw [jup_n n1]; exact e1, e2, l1, l2, by rw [jup_n n2]; exact l3⟩
theorem fFi_ne {K : Nat → Nat} {n : Nat} {σ : Nat → jcell} {a f b : Nat} {c : jcell} {v : jv} (h : fFi K n σ a f v) (h1 : ¬ K b = 25) : fFi K n (jup σ b c) a f v := by
  obtain ⟨ha, hk, fs, e1, e2⟩ := h
  have n1 : a ≠ b := fun e => h1 (e ▸ hk)
  exact ⟨ha, hk, fs, by rw [jup_n n1]; exact e1, e2⟩
theorem fRo_st {K : Nat → Nat} {n : Nat} {σ : Nat → jcell} {a f k c r i : Nat} {x : Int32} {fs : List jv} {g : Nat → Int32} (h : fRo K n σ a f k g) (hs : σ a = .inr (c, fs)) (ht : fs[f]? = some (fR r)) (hk : ¬ k = 25) : fRo K n (jup σ r (jsto (σ r) i x)) a f k (upd g i x) := by
  obtain ⟨l1, l2, l3⟩ := fRo_r h hs ht
  obtain ⟨ha, hka, fs', r', e1, e2, -, -, -⟩ := h
  have n1 : a ≠ r := fun e => hk (by rw [← l2, ← e]; exact hka)
  rw [hs] at e1
  cases e1
  exact ⟨ha, hka, fs, r, by rw [jup_n n1]; exact hs, ht, l1, l2, by rw [jup_s, l3]; rfl⟩
theorem fRl_st {K : Nat → Nat} {n : Nat} {σ : Nat → jcell} {a c r i : Nat} {x : Int64} {fs : List jv} {g : Nat → Int64} (h : fRl K n σ a g) (hs : σ a = .inr (c, fs)) (ht : fs[7]? = some (fR r)) : fRl K n (jup σ r (jstl (σ r) i x)) a (vp_updL g i x) := by
  obtain ⟨l1, l2, l3⟩ := fRl_r h hs ht
  obtain ⟨ha, hka, fs', r', e1, e2, -, -, -⟩ := h
  have n1 : a ≠ r := fun e => (by decide : ¬ (42 : Nat) = 25) (by rw [← l2, ← e]; exact hka)
  rw [hs] at e1
  cases e1
  exact ⟨ha, hka, fs, r, by rw [jup_n n1]; exact hs, ht, l1, l2, by rw [jup_s, l3]; rfl⟩
theorem fGa_c {K : Nat → Nat} {n : Nat} {σ : Nat → jcell} (hH : aH fa_T K n σ) {a c : Nat} {fs : List jv} (ha : a < n) (hk : K a = 25) (hs : σ a = .inr (c, fs)) : c = 9 := by
  obtain ⟨fs', e, -⟩ := aCe_obj (hH a ha _ (by rw [hk]; rfl))
  rw [hs] at e
  cases e
  rfl
theorem fFi_mk {K : Nat → Nat} {n : Nat} {σ : Nat → jcell} (hH : aH fa_T K n σ) {a c f : Nat} {fs : List jv} {v : jv} (ha : a < n) (hk : K a = 25) (hs : σ a = .inr (c, fs)) (ht : fs[f]? = some v) : fFi K n σ a f v := by
  have := fGa_c hH ha hk hs
  subst this
  exact ⟨ha, hk, fs, hs, ht⟩
theorem fRo_mk {K : Nat → Nat} {n : Nat} {σ : Nat → jcell} (hH : aH fa_T K n σ) {a c f r k : Nat} {fs : List jv} (ha : a < n) (hk : K a = 25) (hs : σ a = .inr (c, fs)) (ht : fs[f]? = some (fR r)) (hr : r < n) (hkr : K r = k) {q : (Int × Int) × List (Nat × Nat × Int × Int × Int)} (hq : fa_T[k]? = some (.inl (.int, 301, q))) : ∃ g, fRo K n σ a f k g ∧ σ r = .inl (.int, 301, .inl g) := by
  have := fGa_c hH ha hk hs
  subst this
  obtain ⟨g, e⟩ := fRow hH hr hkr hq (by intro h; cases h)
  exact ⟨g, ⟨ha, hk, fs, r, hs, ht, hr, hkr, e⟩, e⟩
theorem fRl_mk {K : Nat → Nat} {n : Nat} {σ : Nat → jcell} (hH : aH fa_T K n σ) {a c r : Nat} {fs : List jv} (ha : a < n) (hk : K a = 25) (hs : σ a = .inr (c, fs)) (ht : fs[7]? = some (fR r)) (hr : r < n) (hkr : K r = 42) : ∃ g, fRl K n σ a g := by
  have := fGa_c hH ha hk hs
  subst this
  obtain ⟨g, e⟩ := aCe_larr (q := (.long, 301, _)) (hH r hr _ (by rw [hkr]; rfl)) rfl
  exact ⟨g, ha, hk, fs, r, hs, ht, hr, hkr, e⟩
theorem fOb_u {K : Nat → Nat} {n : Nat} {σ : Nat → jcell} {a k f c : Nat} {fs : List jv} {v w : jv} (h : fOb K n σ a k f v) (hs : σ a = .inr (c, fs)) (ht : fs[f]? = some w) : v = w := by
  obtain ⟨-, -, c', fs', e1, e2⟩ := h
  rw [hs] at e1
  cases e1
  rw [ht] at e2
  exact (Option.some.inj e2).symm
theorem fOb_i {K : Nat → Nat} {n : Nat} {σ : Nat → jcell} {a k f c : Nat} {fs : List jv} {v w : Int32} (h : fOb K n σ a k f (fI v)) (hs : σ a = .inr (c, fs)) (ht : fs[f]? = some (fI w)) : w = v := (Sum.inl.inj (fOb_u h hs ht)).symm
theorem fOu_c {K : Nat → Nat} {n : Nat} {σ : Nat → jcell} {a c r m : Nat} {ty : FieldType} {fs : List jv} {g gc : Nat → Int32} (h : fOu K n σ a g) (hs : σ a = .inr (c, fs)) (ht : fs[2]? = some (fR r)) (hc : σ r = .inl (ty, m, .inl gc)) : gc = g := by
  obtain ⟨r', o', -, -, h4⟩ := h
  have e := fOb_u o' hs ht
  cases e
  rw [hc] at h4
  cases h4
  rfl
theorem fOu_st {K : Nat → Nat} {n : Nat} {σ : Nat → jcell} {a c r i : Nat} {x : Int32} {fs : List jv} {g : Nat → Int32} (h : fOu K n σ a g) (hs : σ a = .inr (c, fs)) (ht : fs[2]? = some (fR r)) : fOu K n (jup σ r (jsto (σ r) i x)) a (upd g i x) := by
  obtain ⟨r', o', l1, l2, h4⟩ := h
  have e := fOb_u o' hs ht
  cases e
  have n1 : a ≠ r := fun e => (by decide : ¬ (11 : Nat) = 12) (by rw [← o'.2.1, e]; exact l2)
  exact ⟨r, ⟨o'.1, o'.2.1, c, fs, by rw [jup_n n1]; exact hs, ht⟩, l1, l2, by rw [jup_s, h4]; rfl⟩
theorem fTG_of {K : Nat → Nat} {n : Nat} {p : fP} {σ : Nat → jcell} {a : Nat} (h : fB K n p 100 [fR a] σ) : fTG K n σ a := by
  obtain ⟨a', b, h, N, t, q, e, g⟩ := h
  cases e
  exact ⟨b, h, N, t, q, g⟩
theorem fTG_to {K : Nat → Nat} {n : Nat} {p : fP} {σ : Nat → jcell} {a : Nat} (h : fTG K n σ a) : fB K n p 100 [fR a] σ := by
  obtain ⟨b, h, N, t, q, g⟩ := h
  exact ⟨a, b, h, N, t, q, rfl, g⟩
theorem fTk_new {t : fTy} {q : fQ} (hg : fGood q.1 q.2) (h0 : 0 ≤ (q.2 5).toInt) (h1 : (q.2 5).toInt ≤ 999) (hf : (t.2.2.1 0).toInt = 0) : fTk 0 t q 0 := by
  refine ⟨Nat.le_refl _, by omega, fun _ => q, fun _ => False, fun _ => [], rfl, fun k hk => ⟨hg, h0, by dsimp only; omega⟩, fun k a b => by omega, Or.inl rfl, fun k hk => hk.elim, fun k hk => ?_⟩
  obtain rfl : k = 0 := by omega
  exact ⟨List.nodup_nil, hf, fun c hc => by cases hc⟩
theorem fTk_f0 {t : fTy} {q : fQ} {h N : Nat} (H : fTk N t q h) (hN : N = 0) : (t.2.2.1 0).toInt = 0 := by
  obtain ⟨L, h1, h2, h3⟩ := fTk_ch H (k := 0) (Nat.zero_le _)
  cases L with
  | nil => exact h2
  | cons c r =>
    have h4 := h3 c List.mem_cons_self
    omega
theorem fWt_u {K : Nat → Nat} {n : Nat} {σ : Nat → jcell} {a : Nat} {g g' : Nat → Int32} (h : fWt K n σ a g) (h' : fWt K n σ a g') : g = g' := by
  obtain ⟨r, ⟨-, -, c, fs, e1, e2⟩, -, -, h3⟩ := h
  obtain ⟨r', o', -, -, h4⟩ := h'
  have e := fOb_u o' e1 e2
  cases e
  rw [h3] at h4
  cases h4
  rfl
theorem fWt_mk {K : Nat → Nat} {n : Nat} {σ : Nat → jcell} (hH : aH fa_T K n σ) {a c r : Nat} {fs : List jv} (ha : a < n) (hk : K a = 6) (hs : σ a = .inr (c, fs)) (ht : fs[3]? = some (fR r)) (hr : r < n) (hkr : K r = 1) : ∃ g, fWt K n σ a g ∧ σ r = .inl (.byte, 65537, .inl g) := by
  obtain ⟨g, e⟩ := fRow hH hr hkr (q := (.byte, 65537, (-128, 127), [])) rfl (by intro h; cases h)
  exact ⟨g, ⟨r, ⟨ha, hk, c, fs, hs, ht⟩, hr, hkr, e⟩, e⟩
theorem fOb_v {K : Nat → Nat} {n : Nat} {σ : Nat → jcell} {a k f : Nat} {v w : Int32} (h : fOb K n σ a k f (fI v)) (h' : fOb K n σ a k f (fI w)) : w = v := by
  obtain ⟨-, -, c, fs, e1, e2⟩ := h'
  exact fOb_i h e1 e2
theorem fSn_s (g : Nat → Int32) (a k : Nat) : fSn g a (k + 1) = fSn g a k + (if (g (a + k)).toInt = 32 then 1 else 0) := rfl
theorem fSn_mo (g : Nat → Int32) (a : Nat) : ∀ {k l : Nat}, k ≤ l → fSn g a k ≤ fSn g a l := by
  intro k l h
  induction l with
  | zero => rw [show k = 0 by omega]; exact Nat.le_refl _
  | succ l ih =>
    by_cases e : k = l + 1
    · rw [e]; exact Nat.le_refl _
    · have := ih (by omega)
      rw [fSn_s]
      omega
theorem fMe_u {K : Nat → Nat} {n : Nat} {σ : Nat → jcell} {a : Nat} {g g' : Nat → Int32} (h : fMe K n σ a g) (h' : fMe K n σ a g') : g = g' := by
  obtain ⟨r, ⟨-, -, c, fs, e1, e2⟩, -, -, h3⟩ := h
  obtain ⟨r', o', -, -, h4⟩ := h'
  have e := fOb_u o' e1 e2
  cases e
  rw [h3] at h4
  cases h4
  rfl
theorem fMe_mk {K : Nat → Nat} {n : Nat} {σ : Nat → jcell} (hH : aH fa_T K n σ) {a c r : Nat} {fs : List jv} (ha : a < n) (hk : K a = 26) (hs : σ a = .inr (c, fs)) (ht : fs[0]? = some (fR r)) (hr : r < n) (hkr : K r = 27) : ∃ g, fMe K n σ a g ∧ σ r = .inl (.int, 64, .inl g) := by
  obtain ⟨g, e⟩ := fRow hH hr hkr (q := (.int, 64, (0, 15), [])) rfl (by intro h; cases h)
  exact ⟨g, ⟨r, ⟨ha, hk, c, fs, hs, ht⟩, hr, hkr, e⟩, e⟩
theorem fMe_ex {K : Nat → Nat} {n : Nat} {σ : Nat → jcell} (hH : aH fa_T K n σ) {a : Nat} (ha : a < n) (hk : K a = 26) : ∃ g, fMe K n σ a g := by
  obtain ⟨fs, e, hl, hf⟩ := aCe_obj (hH a ha _ (by rw [hk]; rfl))
  have h0 : 0 < fs.length := by rw [hl]; decide
  have hv : fs[0]? = some fs[0] := List.getElem?_eq_getElem h0
  have hg := hf 0 (.inr (some (.inl (false, 27)))) _ rfl hv
  obtain ⟨r, er, hr, hkr⟩ := fG_ref (by decide) hg
  rw [er] at hv
  obtain ⟨g, w, -⟩ := fMe_mk hH ha hk e hv hr hkr
  exact ⟨g, w⟩
theorem fBo_c {K : Nat → Nat} {n : Nat} {σ : Nat → jcell} (hH : aH fa_T K n σ) {a c : Nat} {fs : List jv} (ha : a < n) (hk : K a = 26) (hs : σ a = .inr (c, fs)) : c = 10 := by
  obtain ⟨fs', e, -⟩ := aCe_obj (hH a ha _ (by rw [hk]; rfl))
  rw [hs] at e
  cases e
  rfl
theorem fPc_c {K : Nat → Nat} {n : Nat} {σ : Nat → jcell} {a c r m : Nat} {ty : FieldType} {fs : List jv} {g gc : Nat → Int32} (h : fPc K n σ a g) (hs : σ a = .inr (c, fs)) (ht : fs[4]? = some (fR r)) (hc : σ r = .inl (ty, m, .inl gc)) : gc = g := by
  obtain ⟨r', o', -, -, h4⟩ := h
  have e := fOb_u o' hs ht
  cases e
  rw [hc] at h4
  cases h4
  rfl
theorem fPu_c {K : Nat → Nat} {n : Nat} {σ : Nat → jcell} {a c r m : Nat} {ty : FieldType} {fs : List jv} {g gc : Nat → Int64} (h : fPu K n σ a g) (hs : σ a = .inr (c, fs)) (ht : fs[5]? = some (fR r)) (hc : σ r = .inl (ty, m, .inr (.inl gc))) : gc = g := by
  obtain ⟨r', o', -, -, h4⟩ := h
  have e := fOb_u o' hs ht
  cases e
  rw [hc] at h4
  cases h4
  rfl
theorem fPc_mk {K : Nat → Nat} {n : Nat} {σ : Nat → jcell} (hH : aH fa_T K n σ) {a c r : Nat} {fs : List jv} (ha : a < n) (hk : K a = 19) (hs : σ a = .inr (c, fs)) (ht : fs[4]? = some (fR r)) (hr : r < n) (hkr : K r = 20) : ∃ g, fPc K n σ a g := by
  obtain ⟨g, e⟩ := fRow hH hr hkr (q := (.int, 4, (0, 32767), [])) rfl (by intro h; cases h)
  exact ⟨g, r, ⟨ha, hk, c, fs, hs, ht⟩, hr, hkr, e⟩
theorem fPu_mk {K : Nat → Nat} {n : Nat} {σ : Nat → jcell} (hH : aH fa_T K n σ) {a c r : Nat} {fs : List jv} (ha : a < n) (hk : K a = 19) (hs : σ a = .inr (c, fs)) (ht : fs[5]? = some (fR r)) (hr : r < n) (hkr : K r = 21) : ∃ g, fPu K n σ a g := by
  obtain ⟨g, e⟩ := aCe_larr (q := (.long, 4, _)) (hH r hr _ (by rw [hkr]; rfl)) rfl
  exact ⟨g, r, ⟨ha, hk, c, fs, hs, ht⟩, hr, hkr, e⟩
theorem fPu_st {K : Nat → Nat} {n : Nat} {σ : Nat → jcell} {a c r i : Nat} {x : Int64} {fs : List jv} {g : Nat → Int64} (h : fPu K n σ a g) (hs : σ a = .inr (c, fs)) (ht : fs[5]? = some (fR r)) : fPu K n (jup σ r (jstl (σ r) i x)) a (vp_updL g i x) := by
  obtain ⟨r', o', l1, l2, h4⟩ := h
  have e := fOb_u o' hs ht
  cases e
  have n1 : a ≠ r := fun e => (by decide : ¬ (19 : Nat) = 21) (by rw [← o'.2.1, e]; exact l2)
  exact ⟨r, ⟨o'.1, o'.2.1, c, fs, by rw [jup_n n1]; exact hs, ht⟩, l1, l2, by rw [jup_s, h4]; rfl⟩
theorem fLn_s (g : Nat → Int32) (q : fQ) (i k : Nat) : fLn g q i (k + 1) = (fM q.1 q.2 (g i) ∧ fLn g (fPl q (g i)) (i + 1) k) := rfl
theorem fSh_1 {p : fP} {m : Int32} {q : fQ} (h : fSh p [.inl m] = .inl q) : ∃ q', p = .inl q' ∧ q = fPl q' m := by
  rcases p with p | p
  · exact ⟨p, rfl, (Sum.inl.inj h).symm⟩
  · cases h
theorem fI0 {x y : Int32} (h : x.toInt = y.toInt) : x = y := Int32.toInt_inj.mp h
end
