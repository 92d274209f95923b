/-! one step of the check against one step of the machine -/
section ASW
variable {K : Nat → Nat} {n : Nat} {P : Type} {F : aFt P} {J : jN} {C : aCf} {tb : jTb} {JX : (Nat → jcell) → Prop} {ρ0 : List jv} {σ0 : Nat → jcell}
def aBt (py : jP) : FieldType := if py.1 = 0 then .byte else .boolean
def aI2b (A : Int × Int) : Int × Int := if aSb A (-128, 127) = true then A else (-128, 127)
theorem aI2b_ok {A : Int × Int} {x : Int32} (h : aIn A x) : aIn (aI2b A) x.toInt8.toInt32 := by
  unfold aI2b
  split
  next hs => rw [show x.toInt8.toInt32 = x from aRg_ok (ty := .byte) (aSb_ok hs h)]; exact h
  next => exact aB_ok x
def aI2c (A : Int × Int) : Int × Int := if aSb A (0, 65535) = true then A else (if aSb A (-65536, -1) = true then (A.1 + 65536, A.2 + 65536) else (0, 65535))
theorem aI2c_e {A : Int × Int} {x : Int32} (h : aIn A x) (hs : aSb A (0, 65535) = true) : (x.toUInt32 % 65536).toInt32 = x := by
  obtain ⟨h1, h2⟩ := aSb_ok hs h
  dsimp only at h1 h2
  obtain ⟨e1, e2⟩ := aNat (x := x) h1
  rw [← Int32.toBitVec_inj]
  apply BitVec.eq_of_toNat_eq
  show (x.toUInt32 % 65536).toNat = x.toBitVec.toNat
  rw [UInt32.toNat_mod]
  show x.toBitVec.toNat % 65536 = _
  omega
theorem aI2c_ok {A : Int × Int} {x : Int32} (h : aIn A x) : aIn (aI2c A) (x.toUInt32 % 65536).toInt32 := by
  unfold aI2c
  split
  next hs => rw [aI2c_e h hs]; exact h
  next =>
    split
    next hs =>
      obtain ⟨h1, h2⟩ := aSb_ok hs h
      dsimp only at h1 h2
      obtain ⟨g1, g2⟩ := h
      have k1 : (x.toBitVec.toNat : Int) = x.toInt + 4294967296 := by
        have e9 : x.toInt = x.toBitVec.toInt := rfl
        have e8 := x.toBitVec.isLt
        rw [e9, BitVec.toInt_eq_toNat_cond] at h1 h2 ⊢
        split at h1
        · omega
        · rename_i hh
          rw [if_neg hh]
          omega
      have k3 : ((x.toUInt32 % 65536).toInt32).toBitVec.toNat = x.toBitVec.toNat % 65536 := by
        show (x.toUInt32 % 65536).toNat = _
        rw [UInt32.toNat_mod]
        rfl
      have k5 := aNat' k3 (by omega)
      exact ⟨by dsimp only; omega, by dsimp only; omega⟩
    next => exact aC_ok x
def aAnd2 (A B : Int × Int) : Int × Int := if A.1 = A.2 ∧ B.1 = B.2 ∧ 0 ≤ A.1 ∧ 0 ≤ B.1 then (((A.1.toNat &&& B.1.toNat : Nat) : Int), ((A.1.toNat &&& B.1.toNat : Nat) : Int)) else aAnd A B
theorem aAnd2_ok {A B : Int × Int} {x y : Int32} (h1 : aIn A x) (h2 : aIn B y) : aIn (aAnd2 A B) (x &&& y) := by
  unfold aAnd2
  split
  next h =>
    obtain ⟨a1, a2⟩ := h1
    obtain ⟨b1, b2⟩ := h2
    obtain ⟨e1, e2⟩ := aNat (x := x) (by omega)
    obtain ⟨e3, e4⟩ := aNat (x := y) (by omega)
    have k1 : x.toBitVec.toNat = A.1.toNat := by omega
    have k2 : y.toBitVec.toNat = B.1.toNat := by omega
    have k3 : (x &&& y).toBitVec.toNat = A.1.toNat &&& B.1.toNat := by rw [Int32.toBitVec_and, BitVec.toNat_and, k1, k2]
    have k4 : A.1.toNat &&& B.1.toNat ≤ A.1.toNat := Nat.and_le_left
    have k5 := aNat' k3 (by omega)
    exact ⟨by dsimp only; omega, by dsimp only; omega⟩
  next => exact aAnd_ok h1 h2
def aOr2 (A B : Int × Int) : Int × Int := if A.1 = A.2 ∧ B.1 = B.2 ∧ 0 ≤ A.1 ∧ 0 ≤ B.1 ∧ A.1 < 2147483648 ∧ B.1 < 2147483648 then (((A.1.toNat ||| B.1.toNat : Nat) : Int), ((A.1.toNat ||| B.1.toNat : Nat) : Int)) else aOr A B
theorem aOr2_ok {A B : Int × Int} {x y : Int32} (h1 : aIn A x) (h2 : aIn B y) : aIn (aOr2 A B) (x ||| y) := by
  unfold aOr2
  split
  next h =>
    obtain ⟨a1, a2⟩ := h1
    obtain ⟨b1, b2⟩ := h2
    obtain ⟨e1, e2⟩ := aNat (x := x) (by omega)
    obtain ⟨e3, e4⟩ := aNat (x := y) (by omega)
    have k1 : x.toBitVec.toNat = A.1.toNat := by omega
    have k2 : y.toBitVec.toNat = B.1.toNat := by omega
    have k3 : (x ||| y).toBitVec.toNat = A.1.toNat ||| B.1.toNat := by rw [Int32.toBitVec_or, BitVec.toNat_or, k1, k2]
    have k4 : A.1.toNat ||| B.1.toNat < 2 ^ 31 := Nat.or_lt_two_pow (by omega) (by omega)
    have k5 := aNat' k3 (by omega)
    exact ⟨by dsimp only; omega, by dsimp only; omega⟩
  next => exact aOr_ok h1 h2
def aXor2 (A B : Int × Int) : Int × Int := if A.1 = A.2 ∧ B.1 = B.2 ∧ 0 ≤ A.1 ∧ 0 ≤ B.1 ∧ A.1 < 2147483648 ∧ B.1 < 2147483648 then (((A.1.toNat ^^^ B.1.toNat : Nat) : Int), ((A.1.toNat ^^^ B.1.toNat : Nat) : Int)) else aOr A B
theorem aXor2_ok {A B : Int × Int} {x y : Int32} (h1 : aIn A x) (h2 : aIn B y) : aIn (aXor2 A B) (x ^^^ y) := by
  unfold aXor2
  split
  next h =>
    obtain ⟨a1, a2⟩ := h1
    obtain ⟨b1, b2⟩ := h2
    obtain ⟨e1, e2⟩ := aNat (x := x) (by omega)
    obtain ⟨e3, e4⟩ := aNat (x := y) (by omega)
    have k1 : x.toBitVec.toNat = A.1.toNat := by omega
    have k2 : y.toBitVec.toNat = B.1.toNat := by omega
    have k3 : (x ^^^ y).toBitVec.toNat = A.1.toNat ^^^ B.1.toNat := by rw [Int32.toBitVec_xor, BitVec.toNat_xor, k1, k2]
    have k4 : A.1.toNat ^^^ B.1.toNat < 2 ^ 31 := Nat.xor_lt_two_pow (by omega) (by omega)
    have k5 := aNat' k3 (by omega)
    exact ⟨by dsimp only; omega, by dsimp only; omega⟩
  next => exact aXor_ok h1 h2
/-- a quotient gets a name -/
def aQn (S : aS) (x : Nat) (A : Int × Int) (c : Int) : aS × Nat := match aQf S x A c with
  | some j => (S, j)
  | none => ((S.1, S.2.1, S.2.2.1 ++ [(.inl (A.1 / c, A.2 / c), none)], (S.2.2.2.1, S.2.2.2.2.1, aQcs S.2.2.1 x c ++ S.2.2.2.2.2.1, S.2.2.2.2.2.2)), S.2.2.1.length)
theorem aQn_ok {Hp : (Nat → jcell) → Prop} {S : aS} {x : Nat} {A : Int × Int} {c : Int} {ρ : List jv} {lv : List (Option jv)} {st : List jv} {σ : Nat → jcell} (hc : aCx F Hp K n S ρ lv st σ) {x0 : Int32} (hx : ρ[x]? = some (.inl x0)) (hA : aIn A x0) (hp : 0 < c) {q : Int32} (hq : q.toInt = x0.toInt / c) : ∃ (ρ' : List jv) (z : Int32), aX ρ ρ' ∧ aCx F Hp K n (aQn S x A c).1 ρ' lv st σ ∧ ρ'[(aQn S x A c).2]? = some (.inl z) ∧ z.toInt = x0.toInt / c := by
  unfold aQn
  split
  next j hj =>
    obtain ⟨z1, k1, k2⟩ := aQf_ok hj hp hc hx
    exact ⟨ρ, z1, aX_rf, hc, k1, k2⟩
  next =>
    have hq2 : aIn (A.1 / c, A.2 / c) q := ⟨by rw [hq]; exact Int.ediv_le_ediv hp hA.1, by rw [hq]; exact Int.ediv_le_ediv hp hA.2⟩
    have hcs := aQcs_ok hc.1 hx hp hq
    obtain ⟨c1, c2, c3, ⟨p9, c4⟩, c5⟩ := hc
    have c6 := c4.mo (aX_app (v := (.inl q : jv)))
    exact ⟨ρ ++ [.inl q], q, aX_app, ⟨aR_push (t := .inl (A.1 / c, A.2 / c)) (v := (.inl q : jv)) (r := none) c1 hq2 trivial, c2.mo aX_app, c3.mo aX_app, ⟨p9, c6.1, c6.2.1, fun f hf => (List.mem_append.mp hf).elim (hcs f) (c6.2.2.1 f), c6.2.2.2⟩, c5⟩, aR_new c1, hq⟩
theorem aXor_d : ∀ a, a < 8 → ∀ b, b < 8 → ∀ c, c < 8 → ∀ d, d < 64 → (4096 * a + 512 * b + 64 * c + d) ^^^ 29120 = 4096 * (7 - a) + 512 * b + 64 * (7 - c) + d := by decide +kernel
theorem aXor_n (m : Nat) (h : m < 32768) : ((m ^^^ 29120 : Nat) : Int) = (m : Int) + 29120 - 128 * ((m : Int) / 64) + 1024 * ((m : Int) / 512) - 8192 * ((m : Int) / 4096) := by
  have h1 := aXor_d (m / 4096) (by omega) (m / 512 % 8) (by omega) (m / 64 % 8) (by omega) (m % 64) (by omega)
  rw [show 4096 * (m / 4096) + 512 * (m / 512 % 8) + 64 * (m / 64 % 8) + m % 64 = m by omega] at h1
  rw [h1]
  omega
theorem aDvQ {x : Int32} (h1 : 0 ≤ x.toInt) (h2 : x.toInt ≤ 32767) (c : Nat) (hc : 0 < c) : ∃ q : Int32, q.toInt = x.toInt / (c : Int) := by
  have h3 : x.toInt / (c : Int) ≤ x.toInt := Int.ediv_le_self _ h1
  have h4 : 0 ≤ x.toInt / (c : Int) := Int.ediv_nonneg h1 (by omega)
  exact ⟨nI (x.toInt / (c : Int)).toNat, by rw [nI_toInt (by omega)]; omega⟩
theorem aXor_e : ∀ a, a < 8 → ∀ d, d < 8 → (8 * a + d) ^^^ 56 = 8 * (7 - a) + d := by decide +kernel
theorem aXor_m (m : Nat) (h : m < 64) : ((m ^^^ 56 : Nat) : Int) = (m : Int) + 56 - 16 * ((m : Int) / 8) := by
  have h1 := aXor_e (m / 8) (by omega) (m % 8) (by omega)
  rw [show 8 * (m / 8) + m % 8 = m by omega] at h1
  rw [h1]
  omega
/-- exclusive or: nothing, a square turned, both ranks of a move turned -/
def aXr (S : aS) (p : Nat) : Option (List (Nat × aS)) := match S.2.1 with
  | y :: x :: r => match aIv S.2.2.1 x, aIv S.2.2.1 y with
    | some A, some B => if B.1 = 0 ∧ B.2 = 0 then some [(p, (S.1, x :: r, S.2.2.1, S.2.2.2))] else (if B.1 = 56 ∧ B.2 = 56 ∧ 0 ≤ A.1 ∧ A.2 ≤ 63 then some [(p, aPu (aQn S x A 8).1 r (.inl (0, 63)) (some (aFp (aLi (aQn S x A 8).1.2.2.1 x) ([((aQn S x A 8).2, -16)], 56))))] else (if B.1 = 29120 ∧ B.2 = 29120 ∧ 0 ≤ A.1 ∧ A.2 ≤ 32767 then some [(p, aPu (aQn (aQn (aQn S x A 64).1 x A 512).1 x A 4096).1 r (.inl (0, 32767)) (some (aFp (aLi (aQn (aQn (aQn S x A 64).1 x A 512).1 x A 4096).1.2.2.1 x) (aFp ([((aQn S x A 64).2, -128)], 29120) (aFp ([((aQn (aQn S x A 64).1 x A 512).2, 1024)], 0) ([((aQn (aQn (aQn S x A 64).1 x A 512).1 x A 4096).2, -8192)], 0))))))] else none))
    | _, _ => none
  | _ => none
theorem aXr_ok {Hp : (Nat → jcell) → Prop} {S : aS} {p : Nat} {L : List (Nat × aS)} (hb : aXr S p = some L) {ρ : List jv} {lv : List (Option jv)} {st : List jv} {σ : Nat → jcell} (hc : aCx F Hp K n S ρ lv st σ) (h : aNx F Hp K n J ρ L) : j2 st fun x y r => J p lv (.inl (x ^^^ y) :: r) σ := by
  unfold aXr at hb
  split at hb
  next y x r hs =>
    split at hb
    next A B hA hB =>
      obtain ⟨w, v, s, rfl, h1, h2, h3⟩ := aSk_2 (hs ▸ hc.2.2.1)
      obtain ⟨x0, rfl, hx⟩ := aIv_ok hc.1 hA h2
      obtain ⟨y0, rfl, hy⟩ := aIv_ok hc.1 hB h1
      have a1 := hx.1
      have a2 := hx.2
      have y1 := hy.1
      have y2 := hy.2
      split at hb
      next hz =>
        cases hb
        have ey : y0 = 0 := Int32.toInt_inj.mp (by rw [show (0 : Int32).toInt = 0 by decide]; omega)
        show J p lv (.inl (x0 ^^^ y0) :: s) σ
        rw [ey, Int32.xor_zero]
        exact aNx_in h List.mem_cons_self aX_rf ⟨hc.1, hc.2.1, ⟨h2, h3⟩, hc.2.2.2⟩
      next =>
        split at hb
        next hz =>
          obtain ⟨z1, z2, z3, z4⟩ := hz
          have ey : y0.toInt = 56 := by omega
          obtain ⟨q1, e1⟩ := aDvQ (x := x0) (by omega) (by omega) 8 (by decide)
          obtain ⟨ρ1, u1, x1, c1, k1, l1⟩ := aQn_ok hc h2 hx (c := 8) (by decide) e1
          cases hb
          have rx := aLi_ok c1.1 (x1 _ _ h2)
          have rj : aVa ρ1 ([((aQn S x A 8).2, -16)], 56) (-16 * u1.toInt + 56) := ⟨-16 * u1.toInt, by rw [aEv_i (q := ((aQn S x A 8).2, -16)) k1 rfl]; congr 1; exact Int.add_zero _, rfl⟩
          obtain ⟨n1, n2⟩ := aNat (x := x0) (by omega)
          obtain ⟨n3, n4⟩ := aNat (x := y0) (by omega)
          have n5 : (x0 ^^^ y0).toBitVec.toNat = x0.toInt.toNat ^^^ 56 := by
            rw [Int32.toBitVec_xor, BitVec.toNat_xor, show x0.toBitVec.toNat = x0.toInt.toNat by omega, show y0.toBitVec.toNat = 56 by omega]
          have n6 : x0.toInt.toNat ^^^ 56 < 2 ^ 6 := Nat.xor_lt_two_pow (by omega) (by decide)
          have n7 := aNat' n5 (by omega)
          have n8 := aXor_m x0.toInt.toNat (by omega)
          rw [show ((x0.toInt.toNat : Nat) : Int) = x0.toInt by omega] at n8
          refine aPu_ok (t := .inl (0, 63)) (v := .inl (x0 ^^^ y0)) c1 (h3.mo x1) ⟨by dsimp only; omega, by dsimp only; omega⟩ ?_ (fun q9 hq9 ρ' lv' st' σ' hx9 hc9 => h q9 hq9 ρ' lv' st' σ' (x1.tr hx9) hc9)
          show aVa ρ1 _ (x0 ^^^ y0).toInt
          have hv := aVa_p rx rj
          rw [show (x0 ^^^ y0).toInt = x0.toInt + (-16 * u1.toInt + 56) by omega]
          exact hv
        next =>
          split at hb
          next hz =>
            obtain ⟨z1, z2, z3, z4⟩ := hz
            have ey : y0.toInt = 29120 := by omega
            obtain ⟨q1, e1⟩ := aDvQ (x := x0) (by omega) (by omega) 64 (by decide)
            obtain ⟨q2, e2⟩ := aDvQ (x := x0) (by omega) (by omega) 512 (by decide)
            obtain ⟨q3, e3⟩ := aDvQ (x := x0) (by omega) (by omega) 4096 (by decide)
            obtain ⟨ρ1, u1, x1, c1, k1, l1⟩ := aQn_ok hc h2 hx (c := 64) (by decide) e1
            obtain ⟨ρ2, u2, x2, c2, k2, l2⟩ := aQn_ok c1 (x1 _ _ h2) hx (c := 512) (by decide) e2
            obtain ⟨ρ3, u3, x3, c3, k3, l3⟩ := aQn_ok c2 (x2 _ _ (x1 _ _ h2)) hx (c := 4096) (by decide) e3
            cases hb
            have X := x1.tr (x2.tr x3)
            have rx := aLi_ok c3.1 (X _ _ h2)
            have rj : ∀ (j : Nat) (k : Int) (c : Int) (z : Int32), ρ3[j]? = some (.inl z) → aVa ρ3 ([(j, k)], c) (k * z.toInt + c) := fun j k c z hz => ⟨k * z.toInt, by rw [aEv_i (q := (j, k)) hz rfl]; congr 1; exact Int.add_zero _, rfl⟩
            obtain ⟨n1, n2⟩ := aNat (x := x0) (by omega)
            obtain ⟨n3, n4⟩ := aNat (x := y0) (by omega)
            have n5 : (x0 ^^^ y0).toBitVec.toNat = x0.toInt.toNat ^^^ 29120 := by
              rw [Int32.toBitVec_xor, BitVec.toNat_xor, show x0.toBitVec.toNat = x0.toInt.toNat by omega, show y0.toBitVec.toNat = 29120 by omega]
            have n6 : x0.toInt.toNat ^^^ 29120 < 2 ^ 15 := Nat.xor_lt_two_pow (by omega) (by decide)
            have n7 := aNat' n5 (by omega)
            have n8 := aXor_n x0.toInt.toNat (by omega)
            rw [show ((x0.toInt.toNat : Nat) : Int) = x0.toInt by omega] at n8
            refine aPu_ok (t := .inl (0, 32767)) (v := .inl (x0 ^^^ y0)) c3 (h3.mo X) ⟨by dsimp only; omega, by dsimp only; omega⟩ ?_ (fun q9 hq9 ρ' lv' st' σ' hx9 hc9 => h q9 hq9 ρ' lv' st' σ' (X.tr hx9) hc9)
            show aVa ρ3 _ (x0 ^^^ y0).toInt
            have hv := aVa_p rx (aVa_p (rj _ (-128) 29120 u1 ((x2.tr x3) _ _ k1)) (aVa_p (rj _ 1024 0 u2 (x3 _ _ k2)) (rj _ (-8192) 0 u3 k3)))
            rw [show (x0 ^^^ y0).toInt = x0.toInt + (-128 * u1.toInt + 29120 + (1024 * u2.toInt + 0 + (-8192 * u3.toInt + 0))) by omega]
            exact hv
          next => cases hb
    next => cases hb
  next => cases hb
def aStp (C : aCf) (I : Instr) (ln : Nat) (py : jP) (pc : Nat) (S : aS) : Option (List (Nat × aS)) := match I with
  | .iconst _ => some [(pc + ln, aPu S S.2.1 (.inl (py.2.2.2.1.toInt, py.2.2.2.1.toInt)) (some ([], py.2.2.2.1.toInt)))]
  | .bipush _ => some [(pc + ln, aPu S S.2.1 (.inl (py.2.2.2.1.toInt, py.2.2.2.1.toInt)) (some ([], py.2.2.2.1.toInt)))]
  | .sipush _ => some [(pc + ln, aPu S S.2.1 (.inl (py.2.2.2.1.toInt, py.2.2.2.1.toInt)) (some ([], py.2.2.2.1.toInt)))]
  | .ldc _ => some [(pc + ln, aPu S S.2.1 (.inl (py.2.2.2.1.toInt, py.2.2.2.1.toInt)) (some ([], py.2.2.2.1.toInt)))]
  | .lconst _ => some [(pc + ln, aPu S S.2.1 (.inr none) (some ([], py.2.2.2.2.toInt)))]
  | .ldc2_w _ => some [(pc + ln, aPu S S.2.1 (.inr none) (some ([], py.2.2.2.2.toInt)))]
  | .iload_n _ => aLd S py.1 0 (pc + ln)
  | .iload k => aLd S k 0 (pc + ln)
  | .lload_n _ => aLd S py.1 1 (pc + ln)
  | .lload k => aLd S k 1 (pc + ln)
  | .aload_n _ => aLd S py.1 2 (pc + ln)
  | .aload k => aLd S k 2 (pc + ln)
  | .istore_n _ => aSo S py.1 0 (pc + ln)
  | .istore k => aSo S k 0 (pc + ln)
  | .lstore_n _ => aSo S py.1 1 (pc + ln)
  | .lstore k => aSo S k 1 (pc + ln)
  | .astore_n _ => aSo S py.1 2 (pc + ln)
  | .astore k => aSo S k 2 (pc + ln)
  | .iinc k _ => aInc S k py.2.2.2.1 (pc + ln)
  | .iadd => aBin aAdd 1 S (pc + ln)
  | .isub => aBin aSub 2 S (pc + ln)
  | .imul => aBin aMul 3 S (pc + ln)
  | .iand => (match aAd S (pc + ln) with
    | some L => some L
    | none => (match aAi S (pc + ln) with
      | some L => some L
      | none => aBin aAnd2 0 S (pc + ln)))
  | .ior => aBin aOr2 5 S (pc + ln)
  | .ixor => (match aXr S (pc + ln) with
    | some L => some L
    | none => aBin aXor2 6 S (pc + ln))
  | .idiv => (match aDv S (pc + ln) with
    | some L => some L
    | none => if aNz S = true then aBin aDiv 0 S (pc + ln) else none)
  | .irem => (match aRm S (pc + ln) with
    | some L => some L
    | none => if aNz S = true then aBin aRem 0 S (pc + ln) else none)
  | .ishl => aBin aShl 4 S (pc + ln)
  | .ishr => aSr S (pc + ln)
  | .iushr => aBin aUsh 0 S (pc + ln)
  | .ineg => aUn (fun A => .inl (aNeg A)) (fun A => if aFit3 (-A.2) (-A.1) = true then some (-1) else none) S (pc + ln)
  | .ladd => aBl 1 S (pc + ln)
  | .lsub => aBl 2 S (pc + ln)
  | .lmul => aBl 3 S (pc + ln)
  | .land => aBl 0 S (pc + ln)
  | .lor => aBl 0 S (pc + ln)
  | .lxor => aBl 0 S (pc + ln)
  | .ldiv => if aNzl S = true then aBl 4 S (pc + ln) else none
  | .lrem => if aNzl S = true then aBl 0 S (pc + ln) else none
  | .lneg => aLneg S (pc + ln)
  | .lshl => aBi S (pc + ln)
  | .lshr => aBi S (pc + ln)
  | .lushr => aBi S (pc + ln)
  | .lcmp => aLcm S (pc + ln)
  | .i2l => aUn (fun _ => .inr none) (fun _ => some 1) S (pc + ln)
  | .l2i => aL2i S (pc + ln)
  | .i2b => aUn (fun A => .inl (aI2b A)) (fun A => if aSb A (-128, 127) = true then some 1 else none) S (pc + ln)
  | .i2c => aUn (fun A => .inl (aI2c A)) (fun A => if aSb A (0, 65535) = true then some 1 else none) S (pc + ln)
  | .dup => aDup S 0 (pc + ln)
  | .pop => aDup S 1 (pc + ln)
  | .dup_x1 => aDup S 2 (pc + ln)
  | .dup_x2 => aDup S 3 (pc + ln)
  | .dup2 => aDup S 4 (pc + ln)
  | .ifCond c _ => aIf1 S c py.1 (pc + ln)
  | .if_icmp c _ => aIf2 S c py.1 (pc + ln)
  | .ifnull _ => aIfn S py.1 (pc + ln)
  | .ifnonnull _ => aIfn S (pc + ln) py.1
  | .goto _ => some [(py.1, S)]
  | .iaload => aAl C .int S (pc + ln)
  | .caload => aAl C .char S (pc + ln)
  | .baload => aAl C (aBt py) S (pc + ln)
  | .laload => aLl C S (pc + ln)
  | .iastore => aAs C .int S (pc + ln)
  | .castore => aAs C .char S (pc + ln)
  | .bastore => aAs C (aBt py) S (pc + ln)
  | .lastore => aLs C S (pc + ln)
  | .arraylength => aLen C S (pc + ln)
  | .getfield _ => aGet C py.1 py.2.1 S (pc + ln)
  | .putfield _ => aPut C py.1 py.2.1 py.2.2.2.1.toNatClampNeg S (pc + ln)
  | .aconst_null => some [(pc + ln, aPu S S.2.1 (.inr (some (.inl (true, C.1.length - 1)))) none)]
  | .getstatic _ => if py.1 < 1000000 then some [(pc + ln, aPu S S.2.1 (.inr (some (.inr py.1))) none)] else none
  | _ => none
theorem aG_st {K : Nat → Nat} {n j : Nat} (hj : j < 1000000) : aG K n (.inr (some (.inr j))) (.inr (.inr (some (.inr j)))) := by
  show (aRj j).1 ≤ j ∧ j ≤ (aRj j).2
  unfold aRj
  rw [if_pos hj]
  exact ⟨Nat.le_refl _, Nat.le_refl _⟩
theorem aCo0 {f : Int32 → Int32 → Int32} : aCop 0 f := ⟨fun h => (by cases h), fun h => (by cases h), fun h => (by cases h), fun h => (by cases h), fun h => (by cases h), fun h => (by cases h)⟩
theorem aCl0 {f : Int64 → Int64 → Int64} : aCol 0 f := ⟨fun h => (by cases h), fun h => (by cases h), fun h => (by cases h), fun h => (by cases h)⟩
theorem aStp_ok (hT : aTB C.2.1 tb) (hJ : aJx K n C.2.2.1 JX) (hD : aDp F K n C.2.2.2.2.2.1) (hE : C.2.2.2.2.2.2 = ρ0.length) {I : Instr} {ln : Nat} {py : jP} {pc : Nat} {S : aS} {L : List (Nat × aS)} (hb : aStp C I ln py pc S = some L) {ρ : List jv} (hx0 : aX ρ0 ρ) {lv : List (Option jv)} {st : List jv} {σ : Nat → jcell} (hc : aCx F (aHp C K n JX ρ0 σ0) K n S ρ lv st σ) (h : aNx F (aHp C K n JX ρ0 σ0) K n J ρ L) : jstep tb n I ln py pc lv st σ J J := by
  have hco : ∀ c : Int32, aNx F (aHp C K n JX ρ0 σ0) K n J ρ [(pc + ln, aPu S S.2.1 (.inl (c.toInt, c.toInt)) (some ([], c.toInt)))] → J (pc + ln) lv (.inl c :: st) σ := fun c h9 => aPu_ok (t := .inl (c.toInt, c.toInt)) (r := some ([], c.toInt)) (v := .inl c) hc hc.2.2.1 ⟨Int.le_refl _, Int.le_refl _⟩ (aVa_k _) h9
  have hlo : ∀ c : Int64, aNx F (aHp C K n JX ρ0 σ0) K n J ρ [(pc + ln, aPu S S.2.1 (.inr none) (some ([], c.toInt)))] → J (pc + ln) lv (.inr (.inl c) :: st) σ := fun c h9 => aPu_ok (t := .inr none) (r := some ([], c.toInt)) (v := .inr (.inl c)) hc hc.2.2.1 trivial (aVa_k _) h9
  cases I
  case iconst => cases hb; exact hco _ h
  case bipush => cases hb; exact hco _ h
  case sipush => cases hb; exact hco _ h
  case ldc => cases hb; exact hco _ h
  case lconst => cases hb; exact hlo _ h
  case ldc2_w => cases hb; exact hlo _ h
  case iload_n => exact aLdi_ok hb hc h
  case iload => exact aLdi_ok hb hc h
  case lload_n => exact aLdl_ok hb hc h
  case lload => exact aLdl_ok hb hc h
  case aload_n => exact aLda_ok hb hc h
  case aload => exact aLda_ok hb hc h
  case istore_n => exact aSoi_ok hb hc h
  case istore => exact aSoi_ok hb hc h
  case lstore_n => exact aSol_ok hb hc h
  case lstore => exact aSol_ok hb hc h
  case astore_n => exact aSoa_ok hb hc h
  case astore => exact aSoa_ok hb hc h
  case iinc => exact aInc_ok hb hc h
  case iadd => exact aBin_ok (f := fun x y => x + y) ⟨fun h => (by cases h), fun h => (by cases h), fun _ _ _ => rfl, fun h => (by cases h), fun h => (by cases h), fun h => (by cases h)⟩ aAdd_ok hb hc h
  case isub => exact aBin_ok (f := fun x y => x - y) ⟨fun h => (by cases h), fun h => (by cases h), fun h => (by cases h), fun _ _ _ => rfl, fun h => (by cases h), fun h => (by cases h)⟩ aSub_ok hb hc h
  case imul => exact aBin_ok (f := fun x y => x * y) ⟨fun h => (by cases h), fun h => (by cases h), fun h => (by cases h), fun h => (by cases h), fun _ _ _ => rfl, fun h => (by cases h)⟩ aMul_ok hb hc h
  case iand =>
    simp only [aStp] at hb
    split at hb
    next L9 hL9 => cases hb; exact aAd_ok hL9 hc h
    next =>
      split at hb
      next L8 hL8 => cases hb; exact aAi_ok hL8 hc h
      next => exact aBin_ok (f := fun x y => x &&& y) aCo0 aAnd2_ok hb hc h
  case ior => exact aBin_ok (f := fun x y => x ||| y) ⟨fun _ _ _ => rfl, fun h => (by cases h), fun h => (by cases h), fun h => (by cases h), fun h => (by cases h), fun h => (by cases h)⟩ aOr2_ok hb hc h
  case ixor =>
    simp only [aStp] at hb
    split at hb
    next L9 hL9 => cases hb; exact aXr_ok hL9 hc h
    next => exact aBin_ok (f := fun x y => x ^^^ y) ⟨fun h => (by cases h), fun _ _ _ => rfl, fun h => (by cases h), fun h => (by cases h), fun h => (by cases h), fun h => (by cases h)⟩ aXor2_ok hb hc h
  case idiv =>
    simp only [aStp] at hb
    split at hb
    next L9 hL9 => cases hb; exact aDv_ok hL9 hc h
    next =>
      split at hb
      next hz => exact aNz_ok hz hc (aBin_ok (f := fun x y => x / y) aCo0 aDiv_ok hb hc h)
      next => cases hb
  case irem =>
    simp only [aStp] at hb
    split at hb
    next L9 hL9 => cases hb; exact aRm_ok hL9 hc h
    next =>
      split at hb
      next hz => exact aNz_ok hz hc (aBin_ok (f := fun x y => x - x / y * y) aCo0 aRem_ok hb hc h)
      next => cases hb
  case ishl => exact aBin_ok (f := fun x y => x <<< (y &&& 31)) ⟨fun h => (by cases h), fun h => (by cases h), fun h => (by cases h), fun h => (by cases h), fun h => (by cases h), fun _ _ _ => rfl⟩ aShl_ok hb hc h
  case ishr => exact aSr_ok hb hc h
  case iushr => exact aBin_ok (f := fun x y => (x.toUInt32 >>> (y.toUInt32 &&& Int32.toUInt32 31)).toInt32) aCo0 aUsh_ok hb hc h
  case ineg =>
    refine aUn_ok (tf := fun A => .inl (aNeg A)) (rf := fun A => if aFit3 (-A.2) (-A.1) = true then some (-1) else none) (g := fun x => .inl (-x)) (fun q => aNeg_ok q) (fun {A x c} q hr => ?_) hb hc h
    split at hr
    next hf =>
      cases hr
      simp only [aFit3, Bool.and_eq_true, decide_eq_true_eq] at hf
      obtain ⟨q1, q2⟩ := q
      show (-x).toInt = -1 * x.toInt
      rw [Int32.toInt_neg, show -1 * x.toInt = -x.toInt by omega]
      exact Int.bmod_eq_of_le (by omega) (by omega)
    next => cases hr
  case ladd => exact aBl_ok (f := fun x y => x + y) ⟨fun _ _ _ => rfl, fun h => (by cases h), fun h => (by cases h), fun h => (by cases h)⟩ hb hc h
  case lsub => exact aBl_ok (f := fun x y => x - y) ⟨fun h => (by cases h), fun _ _ _ => rfl, fun h => (by cases h), fun h => (by cases h)⟩ hb hc h
  case lmul => exact aBl_ok (f := fun x y => x * y) ⟨fun h => (by cases h), fun h => (by cases h), fun _ _ _ => rfl, fun h => (by cases h)⟩ hb hc h
  case land => exact aBl_ok (f := fun x y => x &&& y) aCl0 hb hc h
  case lor => exact aBl_ok (f := fun x y => x ||| y) aCl0 hb hc h
  case lxor => exact aBl_ok (f := fun x y => x ^^^ y) aCl0 hb hc h
  case ldiv =>
    simp only [aStp] at hb
    split at hb
    next hz => exact aNzl_ok hz hc (aBl_ok (f := fun x y => x / y) ⟨fun h => (by cases h), fun h => (by cases h), fun h => (by cases h), fun _ _ _ => rfl⟩ hb hc h)
    next => cases hb
  case lrem =>
    simp only [aStp] at hb
    split at hb
    next hz => exact aNzl_ok hz hc (aBl_ok (f := fun x y => x - x / y * y) aCl0 hb hc h)
    next => cases hb
  case lneg => exact aLneg_ok hb hc h
  case lshl => exact aBi_ok (g := fun x y => x <<< (y.toInt64 &&& 63)) hb hc h
  case lshr => exact aBi_ok (g := fun x y => x >>> (y.toInt64 &&& 63)) hb hc h
  case lushr => exact aBi_ok (g := fun x y => (x.toUInt64 >>> (y.toInt64.toUInt64 &&& Int64.toUInt64 63)).toInt64) hb hc h
  case lcmp => exact aLcm_ok hb hc h
  case i2l =>
    refine aUn_ok (tf := fun _ => .inr none) (rf := fun _ => some 1) (g := fun x => .inr (.inl x.toInt64)) (fun _ => trivial) (fun {A x c} q hr => ?_) hb hc h
    cases hr
    show x.toInt64.toInt = 1 * x.toInt
    rw [Int32.toInt_toInt64]
    omega
  case l2i => exact aL2i_ok hb hc h
  case i2b =>
    refine aUn_ok (tf := fun A => .inl (aI2b A)) (rf := fun A => if aSb A (-128, 127) = true then some 1 else none) (g := fun x => .inl x.toInt8.toInt32) (fun q => aI2b_ok q) (fun {A x c} q hr => ?_) hb hc h
    split at hr
    next hf =>
      cases hr
      show x.toInt8.toInt32.toInt = 1 * x.toInt
      rw [show x.toInt8.toInt32 = x from aRg_ok (ty := .byte) (aSb_ok hf q)]
      omega
    next => cases hr
  case i2c =>
    refine aUn_ok (tf := fun A => .inl (aI2c A)) (rf := fun A => if aSb A (0, 65535) = true then some 1 else none) (g := fun x => .inl (x.toUInt32 % 65536).toInt32) (fun q => aI2c_ok q) (fun {A x c} q hr => ?_) hb hc h
    split at hr
    next hf =>
      cases hr
      show (x.toUInt32 % 65536).toInt32.toInt = 1 * x.toInt
      rw [aI2c_e q hf]
      omega
    next => cases hr
  case dup => exact aDup0_ok hb hc h
  case pop => exact aDup1_ok hb hc h
  case dup_x1 => exact aDup2_ok hb hc h
  case dup_x2 => exact aDup3_ok hb hc h
  case dup2 => exact aDup4_ok hb hc h
  case ifCond => exact aIf1_ok hb hc h
  case if_icmp => exact aIf2_ok hb hc h
  case ifnull => exact aIfn_ok hb hc h
  case ifnonnull =>
    have h9 := aIfn_ok hb hc h
    simp only [jstep]
    unfold ja1 at h9 ⊢
    split at h9
    · exact ⟨h9.2, h9.1⟩
    · exact h9.elim
  case goto => cases hb; exact aNx_in h List.mem_cons_self aX_rf hc
  case iaload => exact aAl_ok hT hb hc h
  case caload => exact aAl_ok hT hb hc h
  case baload => exact aAl_ok hT hb hc h
  case laload => exact aLl_ok hb hc h
  case iastore => exact aAs_ok hJ hD hE hb hx0 hc h
  case castore => exact aAs_ok hJ hD hE hb hx0 hc h
  case bastore => exact aAs_ok hJ hD hE hb hx0 hc h
  case lastore => exact aLs_ok hJ hD hE hb hx0 hc h
  case arraylength => exact aLen_ok hT hb hc h
  case getfield => exact aGet_ok hb hc h
  case putfield => exact aPut_ok hJ hD hb hc h
  case aconst_null =>
    cases hb
    exact aPu_ok (t := .inr (some (.inl (true, C.1.length - 1)))) (v := .inr (.inr none)) (r := none) hc hc.2.2.1 rfl trivial h
  case getstatic =>
    simp only [aStp] at hb
    split at hb
    next hlt =>
      cases hb
      exact aPu_ok (t := .inr (some (.inr py.1))) (v := .inr (.inr (some (.inr py.1)))) (r := none) hc hc.2.2.1 (aG_st hlt) trivial h
    next => cases hb
  all_goals cases hb
end ASW
