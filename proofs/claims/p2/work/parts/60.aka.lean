/-! THE A KIT: intervals of ints, and what the machine's operations make of them -/
def a32 : Int × Int := (-2147483648, 2147483647)
def aIn (q : Int × Int) (x : Int32) : Prop := q.1 ≤ x.toInt ∧ x.toInt ≤ q.2
def aFit (q : Int × Int) : Int × Int := if -2147483648 ≤ q.1 ∧ q.2 ≤ 2147483647 then q else a32
theorem aIn_32 (x : Int32) : aIn a32 x := ⟨Int32.le_toInt x, by have := Int32.toInt_lt x; show x.toInt ≤ 2147483647; omega⟩
theorem aFit_ok {q : Int × Int} {x : Int32} {v : Int} (hx : x.toInt = v.bmod (2 ^ 32)) (h1 : q.1 ≤ v) (h2 : v ≤ q.2) : aIn (aFit q) x := by
  unfold aFit
  split
  next h =>
    have h3 : v.bmod (2 ^ 32) = v := Int.bmod_eq_of_le (by omega) (by omega)
    rw [h3] at hx
    exact ⟨by omega, by omega⟩
  next => exact aIn_32 x
def aAdd (A B : Int × Int) : Int × Int := aFit (A.1 + B.1, A.2 + B.2)
theorem aAdd_ok {A B : Int × Int} {x y : Int32} (h1 : aIn A x) (h2 : aIn B y) : aIn (aAdd A B) (x + y) :=
  aFit_ok (Int32.toInt_add x y) (by have := h1.1; have := h2.1; dsimp only; omega) (by have := h1.2; have := h2.2; dsimp only; omega)
def aSub (A B : Int × Int) : Int × Int := aFit (A.1 - B.2, A.2 - B.1)
theorem aSub_ok {A B : Int × Int} {x y : Int32} (h1 : aIn A x) (h2 : aIn B y) : aIn (aSub A B) (x - y) :=
  aFit_ok (Int32.toInt_sub x y) (by have := h1.1; have := h2.2; dsimp only; omega) (by have := h1.2; have := h2.1; dsimp only; omega)
def aNeg (A : Int × Int) : Int × Int := aFit (-A.2, -A.1)
theorem aNeg_ok {A : Int × Int} {x : Int32} (h1 : aIn A x) : aIn (aNeg A) (-x) :=
  aFit_ok (Int32.toInt_neg x) (by have := h1.2; dsimp only; omega) (by have := h1.1; dsimp only; omega)
def aMul (A B : Int × Int) : Int × Int := aFit (min (min (A.1 * B.1) (A.1 * B.2)) (min (A.2 * B.1) (A.2 * B.2)), max (max (A.1 * B.1) (A.1 * B.2)) (max (A.2 * B.1) (A.2 * B.2)))
theorem aMul_l {a b x y : Int} (h1 : a ≤ x) (h2 : x ≤ b) : min (a * y) (b * y) ≤ x * y ∧ x * y ≤ max (a * y) (b * y) := by
  rcases Int.le_total 0 y with hy | hy
  · have h3 := Int.mul_le_mul_of_nonneg_right h1 hy
    have h4 := Int.mul_le_mul_of_nonneg_right h2 hy
    omega
  · have h3 := Int.mul_le_mul_of_nonpos_right h1 hy
    have h4 := Int.mul_le_mul_of_nonpos_right h2 hy
    omega
theorem aMul_ok {A B : Int × Int} {x y : Int32} (h1 : aIn A x) (h2 : aIn B y) : aIn (aMul A B) (x * y) := by
  have e1 := aMul_l (y := y.toInt) h1.1 h1.2
  have e2 := aMul_l (y := A.1) h2.1 h2.2
  have e3 := aMul_l (y := A.2) h2.1 h2.2
  rw [Int.mul_comm B.1, Int.mul_comm B.2, Int.mul_comm y.toInt] at e2 e3
  exact aFit_ok (Int32.toInt_mul x y) (by dsimp only; omega) (by dsimp only; omega)
/-- an int that is not below zero, as its bits -/
theorem aNat {x : Int32} (h : 0 ≤ x.toInt) : x.toInt = (x.toBitVec.toNat : Int) ∧ x.toBitVec.toNat < 2147483648 := by
  have h1 : x.toInt = x.toBitVec.toInt := rfl
  rw [h1] at h ⊢
  rw [BitVec.toInt_eq_toNat_cond] at h ⊢
  have h2 := x.toBitVec.isLt
  split at h
  next h3 => rw [if_pos h3]; exact ⟨rfl, by omega⟩
  next h3 => exfalso; omega
theorem aNat' {x : Int32} {k : Nat} (h : x.toBitVec.toNat = k) (hk : k < 2147483648) : x.toInt = (k : Int) := by
  have h1 : x.toInt = x.toBitVec.toInt := rfl
  rw [h1, BitVec.toInt_eq_toNat_cond, h, if_pos (by omega)]
def aAnd (A B : Int × Int) : Int × Int := if 0 ≤ A.1 then (0, if 0 ≤ B.1 ∧ B.2 ≤ A.2 then B.2 else A.2) else if 0 ≤ B.1 then (0, B.2) else a32
theorem aAnd_l {x y : Int32} (h : 0 ≤ x.toInt) : 0 ≤ (x &&& y).toInt ∧ (x &&& y).toInt ≤ x.toInt := by
  obtain ⟨h1, h2⟩ := aNat h
  have h3 : (x &&& y).toBitVec.toNat = x.toBitVec.toNat &&& y.toBitVec.toNat := by rw [Int32.toBitVec_and, BitVec.toNat_and]
  have h4 : x.toBitVec.toNat &&& y.toBitVec.toNat ≤ x.toBitVec.toNat := Nat.and_le_left
  have h5 := aNat' h3 (by omega)
  omega
theorem aAnd_r {x y : Int32} (h : 0 ≤ y.toInt) : 0 ≤ (x &&& y).toInt ∧ (x &&& y).toInt ≤ y.toInt := by
  rw [Int32.and_comm]
  exact aAnd_l h
theorem aAnd_ok {A B : Int × Int} {x y : Int32} (h1 : aIn A x) (h2 : aIn B y) : aIn (aAnd A B) (x &&& y) := by
  unfold aAnd
  obtain ⟨h3, h4⟩ := h1
  obtain ⟨h5, h6⟩ := h2
  split
  next h =>
    have e1 := aAnd_l (x := x) (y := y) (by omega)
    refine ⟨e1.1, ?_⟩
    dsimp only
    split
    next h7 => have e2 := aAnd_r (x := x) (y := y) (by omega); omega
    next => omega
  next =>
    split
    next h => have e2 := aAnd_r (x := x) (y := y) (by omega); exact ⟨e2.1, by dsimp only; omega⟩
    next => exact aIn_32 _
def aTop (A B : Int × Int) : Int := ((2 ^ (Nat.log2 (max A.2.toNat B.2.toNat) + 1) : Nat) : Int) - 1
def aOr (A B : Int × Int) : Int × Int := if 0 ≤ A.1 ∧ 0 ≤ B.1 then aFit (0, aTop A B) else a32
theorem aOr_l {A B : Int × Int} {x y z : Int32} (h1 : aIn A x) (h2 : aIn B y) (hA : 0 ≤ A.1) (hB : 0 ≤ B.1) (hz : ∀ m, x.toBitVec.toNat < 2 ^ m → y.toBitVec.toNat < 2 ^ m → z.toBitVec.toNat < 2 ^ m) : aIn (aFit (0, aTop A B)) z := by
  obtain ⟨h3, h4⟩ := h1
  obtain ⟨h5, h6⟩ := h2
  have e1 := aNat (x := x) (by omega)
  have e2 := aNat (x := y) (by omega)
  have l1 : max A.2.toNat B.2.toNat < 2 ^ (Nat.log2 (max A.2.toNat B.2.toNat) + 1) := Nat.lt_log2_self
  have l2 := hz (Nat.log2 (max A.2.toNat B.2.toNat) + 1) (by omega) (by omega)
  have l3 := hz 31 (by omega) (by omega)
  have l4 := aNat' (x := z) rfl (by omega)
  unfold aFit
  split
  next => exact ⟨by dsimp only; omega, by unfold aTop; dsimp only; omega⟩
  next => exact aIn_32 _
theorem aOr_ok {A B : Int × Int} {x y : Int32} (h1 : aIn A x) (h2 : aIn B y) : aIn (aOr A B) (x ||| y) := by
  unfold aOr
  split
  next h => exact aOr_l h1 h2 h.1 h.2 (fun m hx hy => by rw [Int32.toBitVec_or, BitVec.toNat_or]; exact Nat.or_lt_two_pow hx hy)
  next => exact aIn_32 _
theorem aXor_ok {A B : Int × Int} {x y : Int32} (h1 : aIn A x) (h2 : aIn B y) : aIn (aOr A B) (x ^^^ y) := by
  unfold aOr
  split
  next h => exact aOr_l h1 h2 h.1 h.2 (fun m hx hy => by rw [Int32.toBitVec_xor, BitVec.toNat_xor]; exact Nat.xor_lt_two_pow hx hy)
  next => exact aIn_32 _
