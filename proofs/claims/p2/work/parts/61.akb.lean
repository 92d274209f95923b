/-! shifts, quotients, rests -/
theorem aSc (c : Nat) (hc : c < 32) : ((Int32.ofInt (c : Int) &&& 31).toBitVec.smod 32).toNat = c := by
  have h : ∀ k : Fin 32, ((Int32.ofInt (k.val : Int) &&& 31).toBitVec.smod 32).toNat = k.val := by decide +kernel
  exact h ⟨c, hc⟩
theorem aYc {y : Int32} {c : Nat} (h : y.toInt = (c : Int)) : y = Int32.ofInt (c : Int) := by rw [← h, Int32.ofInt_toInt]
theorem aShl_l {x y : Int32} {c : Nat} (hy : y.toInt = (c : Int)) (hc : c < 32) : (x <<< (y &&& 31)).toBitVec.toNat = (x.toBitVec.toNat * 2 ^ c) % 2 ^ 32 := by
  rw [Int32.toBitVec_shiftLeft, BitVec.shiftLeft_eq', BitVec.toNat_shiftLeft, aYc hy, aSc c hc, Nat.shiftLeft_eq]
def aK1 (B : Int × Int) : Bool := decide (B.1 = B.2) && decide (0 ≤ B.1) && decide (B.1 < 32)
theorem aK1_ok {B : Int × Int} {y : Int32} (h : aK1 B = true) (hy : aIn B y) : y.toInt = (B.1.toNat : Int) ∧ B.1.toNat < 32 := by
  simp only [aK1, Bool.and_eq_true, decide_eq_true_eq] at h
  obtain ⟨h1, h2⟩ := hy
  omega
def aShl (A B : Int × Int) : Int × Int := if aK1 B = true ∧ 0 ≤ A.1 then (if A.2 * 2 ^ B.1.toNat ≤ 2147483647 then (A.1 * 2 ^ B.1.toNat, A.2 * 2 ^ B.1.toNat) else a32) else a32
theorem aShl_ok {A B : Int × Int} {x y : Int32} (h1 : aIn A x) (h2 : aIn B y) : aIn (aShl A B) (x <<< (y &&& 31)) := by
  unfold aShl
  split
  next h =>
    split
    next hb =>
      obtain ⟨k1, k2⟩ := aK1_ok h.1 h2
      obtain ⟨h3, h4⟩ := h1
      obtain ⟨e1, e2⟩ := aNat (x := x) (by omega)
      have h5 := aShl_l (x := x) k1 k2
      have hp : (0 : Int) ≤ 2 ^ B.1.toNat := Int.pow_nonneg (by decide)
      have m1 := Int.mul_le_mul_of_nonneg_right h3 hp
      have m2 := Int.mul_le_mul_of_nonneg_right h4 hp
      have c1 : ((x.toBitVec.toNat * 2 ^ B.1.toNat : Nat) : Int) = x.toInt * 2 ^ B.1.toNat := by rw [e1]; push_cast; rfl
      have h6 : x.toBitVec.toNat * 2 ^ B.1.toNat < 2147483648 := by omega
      rw [Nat.mod_eq_of_lt (by omega)] at h5
      have h7 := aNat' h5 h6
      exact ⟨by rw [h7, c1]; exact m1, by rw [h7, c1]; exact m2⟩
    next => exact aIn_32 _
  next => exact aIn_32 _
theorem aShr_l (x y : Int32) : ∃ c : Nat, (x >>> (y &&& 31)).toInt = x.toInt / 2 ^ c ∧ ∀ k : Nat, k < 32 → y.toInt = (k : Int) → c = k := by
  refine ⟨((y &&& 31).toBitVec.smod 32).toNat, ?_, fun k hk hy => by rw [aYc hy, aSc k hk]⟩
  show (x >>> (y &&& 31)).toBitVec.toInt = x.toBitVec.toInt / _
  rw [Int32.toBitVec_shiftRight, BitVec.sshiftRight_eq', BitVec.toInt_sshiftRight, Int.shiftRight_eq_div_pow]
  push_cast
  rfl
def aShr (A B : Int × Int) : Int × Int := if aK1 B = true then (A.1 / 2 ^ B.1.toNat, A.2 / 2 ^ B.1.toNat) else if 0 ≤ A.1 then (0, A.2) else a32
theorem aShr_ok {A B : Int × Int} {x y : Int32} (h1 : aIn A x) (h2 : aIn B y) : aIn (aShr A B) (x >>> (y &&& 31)) := by
  obtain ⟨c, e1, e2⟩ := aShr_l x y
  have hp : (0 : Int) < 2 ^ c := Int.pow_pos (by decide)
  unfold aShr
  split
  next h =>
    obtain ⟨k1, k2⟩ := aK1_ok h h2
    obtain rfl := e2 _ k2 k1
    exact ⟨by rw [e1]; exact Int.ediv_le_ediv hp h1.1, by rw [e1]; exact Int.ediv_le_ediv hp h1.2⟩
  next =>
    split
    next h =>
      have h3 := h1.1
      have h4 := h1.2
      refine ⟨by rw [e1]; exact Int.ediv_nonneg (by omega) (by omega), ?_⟩
      rw [e1]
      exact Int.le_trans (Int.ediv_le_self _ (by omega)) h4
    next => exact aIn_32 _
theorem aUsh_l (x y : Int32) : ∃ c : Nat, ((x.toUInt32 >>> (y.toUInt32 &&& Int32.toUInt32 31)).toInt32).toBitVec.toNat = x.toBitVec.toNat / 2 ^ c ∧ ∀ k : Nat, k < 32 → y.toInt = (k : Int) → c = k := by
  refine ⟨(y.toUInt32 &&& Int32.toUInt32 31).toNat % 32, ?_, fun k hk hy => ?_⟩
  · show (x.toUInt32 >>> (y.toUInt32 &&& Int32.toUInt32 31)).toNat = _
    rw [UInt32.toNat_shiftRight, Nat.shiftRight_eq_div_pow]
    rfl
  · rw [aYc hy]
    have h : ∀ k : Fin 32, ((Int32.ofInt (k.val : Int)).toUInt32 &&& Int32.toUInt32 31).toNat % 32 = k.val := by decide +kernel
    exact h ⟨k, hk⟩
def aUsh (A B : Int × Int) : Int × Int := if 0 ≤ A.1 then (if aK1 B = true then (0, A.2 / 2 ^ B.1.toNat) else (0, A.2)) else if aK1 B = true ∧ 1 ≤ B.1 then (0, 4294967295 / 2 ^ B.1.toNat) else a32
theorem aUsh_ok {A B : Int × Int} {x y : Int32} (h1 : aIn A x) (h2 : aIn B y) : aIn (aUsh A B) (x.toUInt32 >>> (y.toUInt32 &&& Int32.toUInt32 31)).toInt32 := by
  obtain ⟨c, e1, e2⟩ := aUsh_l x y
  have hp : (0 : Int) < 2 ^ c := Int.pow_pos (by decide)
  have hx := x.toBitVec.isLt
  have hd : x.toBitVec.toNat / 2 ^ c ≤ x.toBitVec.toNat := Nat.div_le_self _ _
  unfold aUsh
  split
  next h =>
    obtain ⟨h3, h4⟩ := h1
    obtain ⟨n1, n2⟩ := aNat (x := x) (by omega)
    have n3 := aNat' e1 (by omega)
    split
    next h5 =>
      obtain ⟨k1, k2⟩ := aK1_ok h5 h2
      obtain rfl := e2 _ k2 k1
      refine ⟨by rw [n3]; exact Int.natCast_nonneg _, ?_⟩
      rw [n3]
      push_cast
      rw [← n1]
      exact Int.ediv_le_ediv hp h4
    next => exact ⟨by rw [n3]; exact Int.natCast_nonneg _, by rw [n3]; dsimp only; omega⟩
  next =>
    split
    next h5 =>
      obtain ⟨k1, k2⟩ := aK1_ok h5.1 h2
      obtain rfl := e2 _ k2 k1
      have h6 : x.toBitVec.toNat / 2 ^ B.1.toNat ≤ 4294967295 / 2 ^ B.1.toNat := Nat.div_le_div_right (by omega)
      have h7 : 2 ^ 1 ≤ 2 ^ B.1.toNat := Nat.pow_le_pow_right (by decide) (by omega)
      have h8 : x.toBitVec.toNat / 2 ^ B.1.toNat ≤ x.toBitVec.toNat / 2 := Nat.div_le_div_left (by omega) (by decide)
      have n3 := aNat' e1 (by omega)
      refine ⟨by rw [n3]; exact Int.natCast_nonneg _, ?_⟩
      rw [n3]
      have h9 : ((4294967295 / 2 ^ B.1.toNat : Nat) : Int) = 4294967295 / 2 ^ B.1.toNat := by rw [Int.natCast_ediv, Int.natCast_pow]; rfl
      dsimp only
      omega
    next => exact aIn_32 _
def aDiv (A B : Int × Int) : Int × Int := if 1 ≤ B.1 ∧ 0 ≤ A.1 then (0, A.2 / B.1) else a32
theorem aDiv_l {x y : Int32} (h1 : 0 ≤ x.toInt) (h2 : 1 ≤ y.toInt) : (x / y).toInt = x.toInt / y.toInt := by
  have h3 := Int32.toInt_lt x
  have h4 : x.toInt / y.toInt ≤ x.toInt := Int.ediv_le_self _ h1
  have h5 : 0 ≤ x.toInt / y.toInt := Int.ediv_nonneg h1 (by omega)
  rw [Int32.toInt_div, Int.tdiv_eq_ediv_of_nonneg h1]
  exact Int.bmod_eq_of_le (by omega) (by omega)
theorem aDiv_ok {A B : Int × Int} {x y : Int32} (h1 : aIn A x) (h2 : aIn B y) : aIn (aDiv A B) (x / y) := by
  unfold aDiv
  split
  next h =>
    obtain ⟨h3, h4⟩ := h1
    obtain ⟨h5, h6⟩ := h2
    have e9 := aDiv_l (x := x) (y := y) (by omega) (by omega)
    have h7 : x.toInt / y.toInt ≤ x.toInt / B.1 := by
      rw [Int.le_ediv_iff_mul_le (by omega)]
      have q1 := Int.mul_le_mul_of_nonneg_left h5 (Int.ediv_nonneg (a := x.toInt) (b := y.toInt) (by omega) (by omega))
      have q2 := Int.ediv_mul_le x.toInt (b := y.toInt) (by omega)
      omega
    have h8 : x.toInt / B.1 ≤ A.2 / B.1 := Int.ediv_le_ediv (by omega) h4
    exact ⟨by rw [e9]; exact Int.ediv_nonneg (by omega) (by omega), by rw [e9]; dsimp only; omega⟩
  next => exact aIn_32 _
def aRem (A B : Int × Int) : Int × Int := if 1 ≤ B.1 ∧ 0 ≤ A.1 then (0, if A.2 ≤ B.2 - 1 then A.2 else B.2 - 1) else a32
theorem aRem_l {x y : Int32} (h1 : 0 ≤ x.toInt) (h2 : 1 ≤ y.toInt) : (x - x / y * y).toInt = x.toInt % y.toInt := by
  have h3 := Int32.toInt_lt x
  have h4 := aDiv_l h1 h2
  have h5 : x.toInt / y.toInt * y.toInt + x.toInt % y.toInt = x.toInt := Int.ediv_mul_add_emod _ _
  have h6 : 0 ≤ x.toInt % y.toInt := Int.emod_nonneg _ (by omega)
  have h7 : 0 ≤ x.toInt / y.toInt * y.toInt := Int.mul_nonneg (Int.ediv_nonneg h1 (by omega)) (by omega)
  have h8 : (x / y * y).toInt = x.toInt / y.toInt * y.toInt := by
    rw [Int32.toInt_mul, h4]
    exact Int.bmod_eq_of_le (by omega) (by omega)
  rw [Int32.toInt_sub, h8, show x.toInt - x.toInt / y.toInt * y.toInt = x.toInt % y.toInt by omega]
  exact Int.bmod_eq_of_le (by omega) (by omega)
theorem aRem_ok {A B : Int × Int} {x y : Int32} (h1 : aIn A x) (h2 : aIn B y) : aIn (aRem A B) (x - x / y * y) := by
  unfold aRem
  split
  next h =>
    obtain ⟨h3, h4⟩ := h1
    obtain ⟨h5, h6⟩ := h2
    have e9 := aRem_l (x := x) (y := y) (by omega) (by omega)
    have h7 : 0 ≤ x.toInt % y.toInt := Int.emod_nonneg _ (by omega)
    have h8 : x.toInt % y.toInt < y.toInt := Int.emod_lt_of_pos _ (by omega)
    have q1 : x.toInt / y.toInt * y.toInt + x.toInt % y.toInt = x.toInt := Int.ediv_mul_add_emod _ _
    have q2 : 0 ≤ x.toInt / y.toInt * y.toInt := Int.mul_nonneg (Int.ediv_nonneg (by omega) (by omega)) (by omega)
    refine ⟨by rw [e9]; exact h7, ?_⟩
    rw [e9]
    dsimp only
    split <;> omega
  next => exact aIn_32 _
theorem aB_ok (x : Int32) : aIn (-128, 127) x.toInt8.toInt32 := by
  have h := Int8.le_toInt x.toInt8
  have h2 := Int8.toInt_lt x.toInt8
  have h3 : x.toInt8.toInt32.toInt = x.toInt8.toInt := Int8.toInt_toInt32 _
  exact ⟨by rw [h3]; dsimp only; omega, by rw [h3]; dsimp only; omega⟩
theorem aC_ok (x : Int32) : aIn (0, 65535) (x.toUInt32 % 65536).toInt32 := by
  have h : (x.toUInt32 % 65536).toInt32.toBitVec.toNat = x.toUInt32.toNat % 65536 := by
    show (x.toUInt32 % 65536).toNat = _
    rw [UInt32.toNat_mod]; rfl
  have h3 := aNat' h (by omega)
  exact ⟨by rw [h3]; dsimp only; omega, by rw [h3]; dsimp only; omega⟩
theorem aCmp_ok (x y : Int64) : aIn (-1, 1) (lg_cmp x y) := by
  unfold lg_cmp
  split
  · exact ⟨by decide, by decide⟩
  · split <;> exact ⟨by decide, by decide⟩
