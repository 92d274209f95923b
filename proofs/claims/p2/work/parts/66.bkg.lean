/-! one step of the check against one step of the machine -/
section ASW
variable {K : Nat → Nat} {n : Nat} {P : Type} {F : aFt P} {J : jN} {C : aCf} {tb : jTb} {JX : (Nat → jcell) → Prop} {ρ0 : List jv} {σ0 : Nat → jcell}
def aBt (py : jP) : FieldType := if py.1 = 0 then .byte else .boolean
def aI2b (A : Int × Int) : Int × Int := if aSb A (-128, 127) = true then A else (-128, 127)
theorem aI2b_ok {A : Int × Int} {x : Int32} (h : aIn A x) : aIn (aI2b A) x.toInt8.toInt32 := by
  unfold aI2b
  split
  next hs => rw [show x.toInt8.toInt32 = x from aRg_ok (ty := .byte) (aSb_ok hs h)]; exact h
  next => exact aB_ok x
def aI2c (A : Int × Int) : Int × Int := if aSb A (0, 65535) = true then A else (if aSb A (-65536, -1) = true then (A.1 + 65536, A.2 + 65536) else (0, 65535))
theorem aI2c_e {A : Int × Int} {x : Int32} (h : aIn A x) (hs : aSb A (0, 65535) = true) : (x.toUInt32 % 65536).toInt32 = x := by
  obtain ⟨h1, h2⟩ := aSb_ok hs h
  dsimp only at h1 h2
  obtain ⟨e1, e2⟩ := aNat (x := x) h1
  rw [← Int32.toBitVec_inj]
  apply BitVec.eq_of_toNat_eq
  show (x.toUInt32 % 65536).toNat = x.toBitVec.toNat
  rw [UInt32.toNat_mod]
  show x.toBitVec.toNat % 65536 = _
  omega
theorem aI2c_ok {A : Int × Int} {x : Int32} (h : aIn A x) : aIn (aI2c A) (x.toUInt32 % 65536).toInt32 := by
  unfold aI2c
  split
  next hs => rw [aI2c_e h hs]; exact h
  next =>
    split
    next hs =>
      obtain ⟨h1, h2⟩ := aSb_ok hs h
      dsimp only at h1 h2
      obtain ⟨g1, g2⟩ := h
      have k1 : (x.toBitVec.toNat : Int) = x.toInt + 4294967296 := by
        have e9 : x.toInt = x.toBitVec.toInt := rfl
        have e8 := x.toBitVec.isLt
        rw [e9, BitVec.toInt_eq_toNat_cond] at h1 h2 ⊢
        split at h1
        · omega
        · rename_i hh
          rw [if_neg hh]
          omega
      have k3 : ((x.toUInt32 % 65536).toInt32).toBitVec.toNat = x.toBitVec.toNat % 65536 := by
        show (x.toUInt32 % 65536).toNat = _
        rw [UInt32.toNat_mod]
        rfl
      have k5 := aNat' k3 (by omega)
      exact ⟨by dsimp only; omega, by dsimp only; omega⟩
    next => exact aC_ok x
def aAnd2 (A B : Int × Int) : Int × Int := if A.1 = A.2 ∧ B.1 = B.2 ∧ 0 ≤ A.1 ∧ 0 ≤ B.1 then (((A.1.toNat &&& B.1.toNat : Nat) : Int), ((A.1.toNat &&& B.1.toNat : Nat) : Int)) else aAnd A B
theorem aAnd2_ok {A B : Int × Int} {x y : Int32} (h1 : aIn A x) (h2 : aIn B y) : aIn (aAnd2 A B) (x &&& y) := by
  unfold aAnd2
  split
  next h =>
    obtain ⟨a1, a2⟩ := h1
    obtain ⟨b1, b2⟩ := h2
    obtain ⟨e1, e2⟩ := aNat (x := x) (by omega)
    obtain ⟨e3, e4⟩ := aNat (x := y) (by omega)
    have k1 : x.toBitVec.toNat = A.1.toNat := by omega
    have k2 : y.toBitVec.toNat = B.1.toNat := by omega
    have k3 : (x &&& y).toBitVec.toNat = A.1.toNat &&& B.1.toNat := by rw [Int32.toBitVec_and, BitVec.toNat_and, k1, k2]
    have k4 : A.1.toNat &&& B.1.toNat ≤ A.1.toNat := Nat.and_le_left
    have k5 := aNat' k3 (by omega)
    exact ⟨by dsimp only; omega, by dsimp only; omega⟩
  next => exact aAnd_ok h1 h2
def aOr2 (A B : Int × Int) : Int × Int := if A.1 = A.2 ∧ B.1 = B.2 ∧ 0 ≤ A.1 ∧ 0 ≤ B.1 ∧ A.1 < 2147483648 ∧ B.1 < 2147483648 then (((A.1.toNat ||| B.1.toNat : Nat) : Int), ((A.1.toNat ||| B.1.toNat : Nat) : Int)) else aOr A B
theorem aOr2_ok {A B : Int × Int} {x y : Int32} (h1 : aIn A x) (h2 : aIn B y) : aIn (aOr2 A B) (x ||| y) := by
  unfold aOr2
  split
  next h =>
    obtain ⟨a1, a2⟩ := h1
    obtain ⟨b1, b2⟩ := h2
    obtain ⟨e1, e2⟩ := aNat (x := x) (by omega)
    obtain ⟨e3, e4⟩ := aNat (x := y) (by omega)
    have k1 : x.toBitVec.toNat = A.1.toNat := by omega
    have k2 : y.toBitVec.toNat = B.1.toNat := by omega
    have k3 : (x ||| y).toBitVec.toNat = A.1.toNat ||| B.1.toNat := by rw [Int32.toBitVec_or, BitVec.toNat_or, k1, k2]
    have k4 : A.1.toNat ||| B.1.toNat < 2 ^ 31 := Nat.or_lt_two_pow (by omega) (by omega)
    have k5 := aNat' k3 (by omega)
    exact ⟨by dsimp only; omega, by dsimp only; omega⟩
  next => exact aOr_ok h1 h2
def aXor2 (A B : Int × Int) : Int × Int := if A.1 = A.2 ∧ B.1 = B.2 ∧ 0 ≤ A.1 ∧ 0 ≤ B.1 ∧ A.1 < 2147483648 ∧ B.1 < 2147483648 then (((A.1.toNat ^^^ B.1.toNat : Nat) : Int), ((A.1.toNat ^^^ B.1.toNat : Nat) : Int)) else aOr A B
theorem aXor2_ok {A B : Int × Int} {x y : Int32} (h1 : aIn A x) (h2 : aIn B y) : aIn (aXor2 A B) (x ^^^ y) := by
  unfold aXor2
  split
  next h =>
    obtain ⟨a1, a2⟩ := h1
    obtain ⟨b1, b2⟩ := h2
    obtain ⟨e1, e2⟩ := aNat (x := x) (by omega)
    obtain ⟨e3, e4⟩ := aNat (x := y) (by omega)
    have k1 : x.toBitVec.toNat = A.1.toNat := by omega
    have k2 : y.toBitVec.toNat = B.1.toNat := by omega
    have k3 : (x ^^^ y).toBitVec.toNat = A.1.toNat ^^^ B.1.toNat := by rw [Int32.toBitVec_xor, BitVec.toNat_xor, k1, k2]
    have k4 : A.1.toNat ^^^ B.1.toNat < 2 ^ 31 := Nat.xor_lt_two_pow (by omega) (by omega)
    have k5 := aNat' k3 (by omega)
    exact ⟨by dsimp only; omega, by dsimp only; omega⟩
  next => exact aXor_ok h1 h2
def aStp (C : aCf) (I : Instr) (ln : Nat) (py : jP) (pc : Nat) (S : aS) : Option (List (Nat × aS)) := match I with
  | .iconst _ => some [(pc + ln, aPu S S.2.1 (.inl (py.2.2.2.1.toInt, py.2.2.2.1.toInt)) (some ([], py.2.2.2.1.toInt)))]
  | .bipush _ => some [(pc + ln, aPu S S.2.1 (.inl (py.2.2.2.1.toInt, py.2.2.2.1.toInt)) (some ([], py.2.2.2.1.toInt)))]
  | .sipush _ => some [(pc + ln, aPu S S.2.1 (.inl (py.2.2.2.1.toInt, py.2.2.2.1.toInt)) (some ([], py.2.2.2.1.toInt)))]
  | .ldc _ => some [(pc + ln, aPu S S.2.1 (.inl (py.2.2.2.1.toInt, py.2.2.2.1.toInt)) (some ([], py.2.2.2.1.toInt)))]
  | .lconst _ => some [(pc + ln, aPu S S.2.1 (.inr none) (some ([], py.2.2.2.2.toInt)))]
  | .ldc2_w _ => some [(pc + ln, aPu S S.2.1 (.inr none) (some ([], py.2.2.2.2.toInt)))]
  | .iload_n _ => aLd S py.1 0 (pc + ln)
  | .iload k => aLd S k 0 (pc + ln)
  | .lload_n _ => aLd S py.1 1 (pc + ln)
  | .lload k => aLd S k 1 (pc + ln)
  | .aload_n _ => aLd S py.1 2 (pc + ln)
  | .aload k => aLd S k 2 (pc + ln)
  | .istore_n _ => aSo S py.1 0 (pc + ln)
  | .istore k => aSo S k 0 (pc + ln)
  | .lstore_n _ => aSo S py.1 1 (pc + ln)
  | .lstore k => aSo S k 1 (pc + ln)
  | .astore_n _ => aSo S py.1 2 (pc + ln)
  | .astore k => aSo S k 2 (pc + ln)
  | .iinc k _ => aInc S k py.2.2.2.1 (pc + ln)
  | .iadd => aBin aAdd 1 S (pc + ln)
  | .isub => aBin aSub 2 S (pc + ln)
  | .imul => aBin aMul 3 S (pc + ln)
  | .iand => (match aAd S (pc + ln) with
    | some L => some L
    | none => (match aAi S (pc + ln) with
      | some L => some L
      | none => aBin aAnd2 0 S (pc + ln)))
  | .ior => aBin aOr2 5 S (pc + ln)
  | .ixor => aBin aXor2 6 S (pc + ln)
  | .idiv => (match aDv S (pc + ln) with
    | some L => some L
    | none => if aNz S = true then aBin aDiv 0 S (pc + ln) else none)
  | .irem => (match aRm S (pc + ln) with
    | some L => some L
    | none => if aNz S = true then aBin aRem 0 S (pc + ln) else none)
  | .ishl => aBin aShl 4 S (pc + ln)
  | .ishr => aSr S (pc + ln)
  | .iushr => aBin aUsh 0 S (pc + ln)
  | .ineg => aUn (fun A => .inl (aNeg A)) (fun A => if aFit3 (-A.2) (-A.1) = true then some (-1) else none) S (pc + ln)
  | .ladd => aBl 1 S (pc + ln)
  | .lsub => aBl 2 S (pc + ln)
  | .lmul => aBl 3 S (pc + ln)
  | .land => aBl 0 S (pc + ln)
  | .lor => aBl 0 S (pc + ln)
  | .lxor => aBl 0 S (pc + ln)
  | .ldiv => if aNzl S = true then aBl 4 S (pc + ln) else none
  | .lrem => if aNzl S = true then aBl 0 S (pc + ln) else none
  | .lneg => aLneg S (pc + ln)
  | .lshl => aBi S (pc + ln)
  | .lshr => aBi S (pc + ln)
  | .lushr => aBi S (pc + ln)
  | .lcmp => aLcm S (pc + ln)
  | .i2l => aUn (fun _ => .inr none) (fun _ => some 1) S (pc + ln)
  | .l2i => aL2i S (pc + ln)
  | .i2b => aUn (fun A => .inl (aI2b A)) (fun A => if aSb A (-128, 127) = true then some 1 else none) S (pc + ln)
  | .i2c => aUn (fun A => .inl (aI2c A)) (fun A => if aSb A (0, 65535) = true then some 1 else none) S (pc + ln)
  | .dup => aDup S 0 (pc + ln)
  | .pop => aDup S 1 (pc + ln)
  | .dup_x1 => aDup S 2 (pc + ln)
  | .dup_x2 => aDup S 3 (pc + ln)
  | .dup2 => aDup S 4 (pc + ln)
  | .ifCond c _ => aIf1 S c py.1 (pc + ln)
  | .if_icmp c _ => aIf2 S c py.1 (pc + ln)
  | .ifnull _ => aIfn S py.1 (pc + ln)
  | .ifnonnull _ => aIfn S (pc + ln) py.1
  | .goto _ => some [(py.1, S)]
  | .iaload => aAl C .int S (pc + ln)
  | .caload => aAl C .char S (pc + ln)
  | .baload => aAl C (aBt py) S (pc + ln)
  | .laload => aLl C S (pc + ln)
  | .iastore => aAs C .int S (pc + ln)
  | .castore => aAs C .char S (pc + ln)
  | .bastore => aAs C (aBt py) S (pc + ln)
  | .lastore => aLs C S (pc + ln)
  | .arraylength => aLen C S (pc + ln)
  | .getfield _ => aGet C py.1 py.2.1 S (pc + ln)
  | .putfield _ => aPut C py.1 py.2.1 py.2.2.2.1.toNatClampNeg S (pc + ln)
  | .aconst_null => some [(pc + ln, aPu S S.2.1 (.inr (some (.inl (true, C.1.length - 1)))) none)]
  | .getstatic _ => if py.1 < 1000000 then some [(pc + ln, aPu S S.2.1 (.inr (some (.inr py.1))) none)] else none
  | _ => none
theorem aG_st {K : Nat → Nat} {n j : Nat} (hj : j < 1000000) : aG K n (.inr (some (.inr j))) (.inr (.inr (some (.inr j)))) := by
  show (aRj j).1 ≤ j ∧ j ≤ (aRj j).2
  unfold aRj
  rw [if_pos hj]
  exact ⟨Nat.le_refl _, Nat.le_refl _⟩
theorem aCo0 {f : Int32 → Int32 → Int32} : aCop 0 f := ⟨fun h => (by cases h), fun h => (by cases h), fun h => (by cases h), fun h => (by cases h), fun h => (by cases h), fun h => (by cases h)⟩
theorem aCl0 {f : Int64 → Int64 → Int64} : aCol 0 f := ⟨fun h => (by cases h), fun h => (by cases h), fun h => (by cases h), fun h => (by cases h)⟩
theorem aStp_ok (hT : aTB C.2.1 tb) (hJ : aJx K n C.2.2.1 JX) (hD : aDp F K n C.2.2.2.2.2.1) (hE : C.2.2.2.2.2.2 = ρ0.length) {I : Instr} {ln : Nat} {py : jP} {pc : Nat} {S : aS} {L : List (Nat × aS)} (hb : aStp C I ln py pc S = some L) {ρ : List jv} (hx0 : aX ρ0 ρ) {lv : List (Option jv)} {st : List jv} {σ : Nat → jcell} (hc : aCx F (aHp C K n JX ρ0 σ0) K n S ρ lv st σ) (h : aNx F (aHp C K n JX ρ0 σ0) K n J ρ L) : jstep tb n I ln py pc lv st σ J J := by
  have hco : ∀ c : Int32, aNx F (aHp C K n JX ρ0 σ0) K n J ρ [(pc + ln, aPu S S.2.1 (.inl (c.toInt, c.toInt)) (some ([], c.toInt)))] → J (pc + ln) lv (.inl c :: st) σ := fun c h9 => aPu_ok (t := .inl (c.toInt, c.toInt)) (r := some ([], c.toInt)) (v := .inl c) hc hc.2.2.1 ⟨Int.le_refl _, Int.le_refl _⟩ (aVa_k _) h9
  have hlo : ∀ c : Int64, aNx F (aHp C K n JX ρ0 σ0) K n J ρ [(pc + ln, aPu S S.2.1 (.inr none) (some ([], c.toInt)))] → J (pc + ln) lv (.inr (.inl c) :: st) σ := fun c h9 => aPu_ok (t := .inr none) (r := some ([], c.toInt)) (v := .inr (.inl c)) hc hc.2.2.1 trivial (aVa_k _) h9
  cases I
  case iconst => cases hb; exact hco _ h
  case bipush => cases hb; exact hco _ h
  case sipush => cases hb; exact hco _ h
  case ldc => cases hb; exact hco _ h
  case lconst => cases hb; exact hlo _ h
  case ldc2_w => cases hb; exact hlo _ h
  case iload_n => exact aLdi_ok hb hc h
  case iload => exact aLdi_ok hb hc h
  case lload_n => exact aLdl_ok hb hc h
  case lload => exact aLdl_ok hb hc h
  case aload_n => exact aLda_ok hb hc h
  case aload => exact aLda_ok hb hc h
  case istore_n => exact aSoi_ok hb hc h
  case istore => exact aSoi_ok hb hc h
  case lstore_n => exact aSol_ok hb hc h
  case lstore => exact aSol_ok hb hc h
  case astore_n => exact aSoa_ok hb hc h
  case astore => exact aSoa_ok hb hc h
  case iinc => exact aInc_ok hb hc h
  case iadd => exact aBin_ok (f := fun x y => x + y) ⟨fun h => (by cases h), fun h => (by cases h), fun _ _ _ => rfl, fun h => (by cases h), fun h => (by cases h), fun h => (by cases h)⟩ aAdd_ok hb hc h
  case isub => exact aBin_ok (f := fun x y => x - y) ⟨fun h => (by cases h), fun h => (by cases h), fun h => (by cases h), fun _ _ _ => rfl, fun h => (by cases h), fun h => (by cases h)⟩ aSub_ok hb hc h
  case imul => exact aBin_ok (f := fun x y => x * y) ⟨fun h => (by cases h), fun h => (by cases h), fun h => (by cases h), fun h => (by cases h), fun _ _ _ => rfl, fun h => (by cases h)⟩ aMul_ok hb hc h
  case iand =>
    simp only [aStp] at hb
    split at hb
    next L9 hL9 => cases hb; exact aAd_ok hL9 hc h
    next =>
      split at hb
      next L8 hL8 => cases hb; exact aAi_ok hL8 hc h
      next => exact aBin_ok (f := fun x y => x &&& y) aCo0 aAnd2_ok hb hc h
  case ior => exact aBin_ok (f := fun x y => x ||| y) ⟨fun _ _ _ => rfl, fun h => (by cases h), fun h => (by cases h), fun h => (by cases h), fun h => (by cases h), fun h => (by cases h)⟩ aOr2_ok hb hc h
  case ixor => exact aBin_ok (f := fun x y => x ^^^ y) ⟨fun h => (by cases h), fun _ _ _ => rfl, fun h => (by cases h), fun h => (by cases h), fun h => (by cases h), fun h => (by cases h)⟩ aXor2_ok hb hc h
  case idiv =>
    simp only [aStp] at hb
    split at hb
    next L9 hL9 => cases hb; exact aDv_ok hL9 hc h
    next =>
      split at hb
      next hz => exact aNz_ok hz hc (aBin_ok (f := fun x y => x / y) aCo0 aDiv_ok hb hc h)
      next => cases hb
  case irem =>
    simp only [aStp] at hb
    split at hb
    next L9 hL9 => cases hb; exact aRm_ok hL9 hc h
    next =>
      split at hb
      next hz => exact aNz_ok hz hc (aBin_ok (f := fun x y => x - x / y * y) aCo0 aRem_ok hb hc h)
      next => cases hb
  case ishl => exact aBin_ok (f := fun x y => x <<< (y &&& 31)) ⟨fun h => (by cases h), fun h => (by cases h), fun h => (by cases h), fun h => (by cases h), fun h => (by cases h), fun _ _ _ => rfl⟩ aShl_ok hb hc h
  case ishr => exact aSr_ok hb hc h
  case iushr => exact aBin_ok (f := fun x y => (x.toUInt32 >>> (y.toUInt32 &&& Int32.toUInt32 31)).toInt32) aCo0 aUsh_ok hb hc h
  case ineg =>
    refine aUn_ok (tf := fun A => .inl (aNeg A)) (rf := fun A => if aFit3 (-A.2) (-A.1) = true then some (-1) else none) (g := fun x => .inl (-x)) (fun q => aNeg_ok q) (fun {A x c} q hr => ?_) hb hc h
    split at hr
    next hf =>
      cases hr
      simp only [aFit3, Bool.and_eq_true, decide_eq_true_eq] at hf
      obtain ⟨q1, q2⟩ := q
      show (-x).toInt = -1 * x.toInt
      rw [Int32.toInt_neg, show -1 * x.toInt = -x.toInt by omega]
      exact Int.bmod_eq_of_le (by omega) (by omega)
    next => cases hr
  case ladd => exact aBl_ok (f := fun x y => x + y) ⟨fun _ _ _ => rfl, fun h => (by cases h), fun h => (by cases h), fun h => (by cases h)⟩ hb hc h
  case lsub => exact aBl_ok (f := fun x y => x - y) ⟨fun h => (by cases h), fun _ _ _ => rfl, fun h => (by cases h), fun h => (by cases h)⟩ hb hc h
  case lmul => exact aBl_ok (f := fun x y => x * y) ⟨fun h => (by cases h), fun h => (by cases h), fun _ _ _ => rfl, fun h => (by cases h)⟩ hb hc h
  case land => exact aBl_ok (f := fun x y => x &&& y) aCl0 hb hc h
  case lor => exact aBl_ok (f := fun x y => x ||| y) aCl0 hb hc h
  case lxor => exact aBl_ok (f := fun x y => x ^^^ y) aCl0 hb hc h
  case ldiv =>
    simp only [aStp] at hb
    split at hb
    next hz => exact aNzl_ok hz hc (aBl_ok (f := fun x y => x / y) ⟨fun h => (by cases h), fun h => (by cases h), fun h => (by cases h), fun _ _ _ => rfl⟩ hb hc h)
    next => cases hb
  case lrem =>
    simp only [aStp] at hb
    split at hb
    next hz => exact aNzl_ok hz hc (aBl_ok (f := fun x y => x - x / y * y) aCl0 hb hc h)
    next => cases hb
  case lneg => exact aLneg_ok hb hc h
  case lshl => exact aBi_ok (g := fun x y => x <<< (y.toInt64 &&& 63)) hb hc h
  case lshr => exact aBi_ok (g := fun x y => x >>> (y.toInt64 &&& 63)) hb hc h
  case lushr => exact aBi_ok (g := fun x y => (x.toUInt64 >>> (y.toInt64.toUInt64 &&& Int64.toUInt64 63)).toInt64) hb hc h
  case lcmp => exact aLcm_ok hb hc h
  case i2l =>
    refine aUn_ok (tf := fun _ => .inr none) (rf := fun _ => some 1) (g := fun x => .inr (.inl x.toInt64)) (fun _ => trivial) (fun {A x c} q hr => ?_) hb hc h
    cases hr
    show x.toInt64.toInt = 1 * x.toInt
    rw [Int32.toInt_toInt64]
    omega
  case l2i => exact aL2i_ok hb hc h
  case i2b =>
    refine aUn_ok (tf := fun A => .inl (aI2b A)) (rf := fun A => if aSb A (-128, 127) = true then some 1 else none) (g := fun x => .inl x.toInt8.toInt32) (fun q => aI2b_ok q) (fun {A x c} q hr => ?_) hb hc h
    split at hr
    next hf =>
      cases hr
      show x.toInt8.toInt32.toInt = 1 * x.toInt
      rw [show x.toInt8.toInt32 = x from aRg_ok (ty := .byte) (aSb_ok hf q)]
      omega
    next => cases hr
  case i2c =>
    refine aUn_ok (tf := fun A => .inl (aI2c A)) (rf := fun A => if aSb A (0, 65535) = true then some 1 else none) (g := fun x => .inl (x.toUInt32 % 65536).toInt32) (fun q => aI2c_ok q) (fun {A x c} q hr => ?_) hb hc h
    split at hr
    next hf =>
      cases hr
      show (x.toUInt32 % 65536).toInt32.toInt = 1 * x.toInt
      rw [aI2c_e q hf]
      omega
    next => cases hr
  case dup => exact aDup0_ok hb hc h
  case pop => exact aDup1_ok hb hc h
  case dup_x1 => exact aDup2_ok hb hc h
  case dup_x2 => exact aDup3_ok hb hc h
  case dup2 => exact aDup4_ok hb hc h
  case ifCond => exact aIf1_ok hb hc h
  case if_icmp => exact aIf2_ok hb hc h
  case ifnull => exact aIfn_ok hb hc h
  case ifnonnull =>
    have h9 := aIfn_ok hb hc h
    simp only [jstep]
    unfold ja1 at h9 ⊢
    split at h9
    · exact ⟨h9.2, h9.1⟩
    · exact h9.elim
  case goto => cases hb; exact aNx_in h List.mem_cons_self aX_rf hc
  case iaload => exact aAl_ok hT hb hc h
  case caload => exact aAl_ok hT hb hc h
  case baload => exact aAl_ok hT hb hc h
  case laload => exact aLl_ok hb hc h
  case iastore => exact aAs_ok hJ hD hE hb hx0 hc h
  case castore => exact aAs_ok hJ hD hE hb hx0 hc h
  case bastore => exact aAs_ok hJ hD hE hb hx0 hc h
  case lastore => exact aLs_ok hJ hD hE hb hx0 hc h
  case arraylength => exact aLen_ok hT hb hc h
  case getfield => exact aGet_ok hb hc h
  case putfield => exact aPut_ok hJ hD hb hc h
  case aconst_null =>
    cases hb
    exact aPu_ok (t := .inr (some (.inl (true, C.1.length - 1)))) (v := .inr (.inr none)) (r := none) hc hc.2.2.1 rfl trivial h
  case getstatic =>
    simp only [aStp] at hb
    split at hb
    next hlt =>
      cases hb
      exact aPu_ok (t := .inr (some (.inr py.1))) (v := .inr (.inr (some (.inr py.1)))) (r := none) hc hc.2.2.1 (aG_st hlt) trivial h
    next => cases hb
  all_goals cases hb
end ASW
