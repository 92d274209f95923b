section
/-! THE Z KIT: whole numbers in place of words of 32 bits; one table of shapes for all places -/
noncomputable def lI (x : Int) : Int32 := Int32.ofInt x
noncomputable def lRg (x : Int) : Prop := -2147483648 ≤ x ∧ x ≤ 2147483647
theorem lI_t {x : Int} (h : lRg x) : (lI x).toInt = x := by
  unfold lRg at h
  unfold lI
  exact Int32.toInt_ofInt_of_le (by omega) (by omega)
theorem lI_e {x : Int32} {y : Int} (h : x.toInt = y) : x = lI y := by
  subst h
  unfold lI
  exact (Int32.ofInt_toInt x).symm
theorem lI_r (x : Int32) : lRg x.toInt := by
  have h1 := x.le_toInt
  have h2 := x.toInt_lt
  unfold lRg
  omega
theorem lI_a {x y : Int} (hx : lRg x) (hy : lRg y) (h : lRg (x + y)) : lI x + lI y = lI (x + y) := by
  apply lI_e
  have h2 := h
  unfold lRg at h2
  rw [l_add (by rw [lI_t hx, lI_t hy]; exact h2), lI_t hx, lI_t hy]
theorem lI_s {x y : Int} (hx : lRg x) (hy : lRg y) (h : lRg (x - y)) : lI x - lI y = lI (x - y) := by
  apply lI_e
  have h2 := h
  unfold lRg at h2
  rw [l_sub (by rw [lI_t hx, lI_t hy]; exact h2), lI_t hx, lI_t hy]
theorem lI_m {x y : Int} (hx : lRg x) (hy : lRg y) (h : lRg (x * y)) : lI x * lI y = lI (x * y) := by
  apply lI_e
  have h2 := h
  unfold lRg at h2
  rw [l_mul (by rw [lI_t hx, lI_t hy]; exact h2), lI_t hx, lI_t hy]
theorem lI_n {x : Int} (hx : lRg x) (h : lRg (-x)) : -lI x = lI (-x) := by
  apply lI_e
  unfold lRg at h
  rw [l_neg (by rw [lI_t hx]; omega), lI_t hx]
theorem lI_lt {x y : Int} (hx : lRg x) (hy : lRg y) : lI x < lI y ↔ x < y := by rw [l_lt, lI_t hx, lI_t hy]
theorem lI_le {x y : Int} (hx : lRg x) (hy : lRg y) : lI x ≤ lI y ↔ x ≤ y := by rw [l_le, lI_t hx, lI_t hy]
theorem lI_eq {x y : Int} (hx : lRg x) (hy : lRg y) : lI x = lI y ↔ x = y := by rw [l_eq, lI_t hx, lI_t hy]
theorem lI_cl {x : Int} (hx : lRg x) : (lI x).toNatClampNeg = x.toNat := by
  show (lI x).toInt.toNat = x.toNat
  rw [lI_t hx]
abbrev zv : Type := Int ⊕ (Int64 ⊕ Option (Nat ⊕ Nat))
noncomputable def zj (v : zv) : jv := match v with
  | .inl x => .inl (lI x)
  | .inr y => .inr y
noncomputable def zok (v : zv) : Prop := match v with
  | .inl x => lRg x
  | .inr _ => True
/-- numbers of objects, rows, longs, references that change, what else there is -/
abbrev zW : Type := (Nat → Nat → Int) × (Nat → Int → Int) × (Nat → Nat → Int64) × (Nat → Nat → Option (Nat ⊕ Nat)) × (Nat → jcell)
/-- the shape of a place: a row (type, length), an object (its file, its fields: 0 a number, 1 a reference that changes, 2 a long, k + 3 a reference to k) -/
abbrev zS : Type := Option ((FieldType × Nat) ⊕ (Nat × List Nat))
noncomputable def zg (W : zW) (a i : Nat) (k : Nat) : zv := match k with
  | 0 => .inl (W.1 a i)
  | 1 => .inr (.inr (W.2.2.2.1 a i))
  | 2 => .inr (.inl (W.2.2.1 a i))
  | k + 3 => .inr (.inr (some (.inl k)))
noncomputable def zfs (W : zW) (a : Nat) : Nat → List Nat → List jv
  | _, [] => []
  | i, k :: r => zj (zg W a i k) :: zfs W a (i + 1) r
noncomputable def zc (s : zS) (W : zW) (a : Nat) : jcell := match s with
  | none => W.2.2.2.2 a
  | some (.inl (.long, len)) => .inl (.long, len, .inr (.inl (W.2.2.1 a)))
  | some (.inl (ty, len)) => .inl (ty, len, .inl (fun j => lI (W.2.1 a j)))
  | some (.inr (c, ks)) => .inr (c, zfs W a 0 ks)
noncomputable def zlW (sh : Nat → zS) (W : zW) : Nat → jcell := fun a => zc (sh a) W a
/-- rows whose entries stay within bounds of their own: the reference's marks, remarks' sizes, tags' counts, names' and values' sizes, results -/
noncomputable def zLm (a : Nat) : Option (Int × Int) := bif Nat.beq a 99 then some (0, 255) else bif Nat.beq a 100 then some (0, 200) else bif Nat.beq a 104 then some (0, 8) else bif Nat.beq a 105 then some (0, 12) else bif Nat.beq a 107 then some (0, 96) else bif Nat.beq a 109 then some (0, 3) else bif Nat.beq a 101 then some (0, 65535) else bif Nat.beq a 106 then some (0, 65535) else bif Nat.beq a 108 then some (0, 65535) else bif Nat.beq a 115 then some (0, 65535) else none
noncomputable def zRx (a : Nat) (v : Int) : Prop := match zLm a with
  | none => True
  | some (lo, hi) => lo ≤ v ∧ v ≤ hi
theorem zLm_n {a : Nat} (h : 116 ≤ a) : zLm a = none := by
  have e : ∀ b : Nat, b < 116 → Nat.beq a b = false := fun b hb => by
    cases h2 : Nat.beq a b
    · rfl
    · have := Nat.eq_of_beq_eq_true h2
      omega
  unfold zLm
  rw [e 99 (by decide), e 100 (by decide), e 104 (by decide), e 105 (by decide), e 107 (by decide), e 109 (by decide), e 101 (by decide), e 106 (by decide), e 108 (by decide), e 115 (by decide)]
  rfl
theorem zLm_b {a : Nat} {lo hi : Int} (h : zLm a = some (lo, hi)) : 0 ≤ lo ∧ hi ≤ 65535 := by
  unfold zLm at h
  simp only [cond_eq_ite] at h
  repeat' split at h
  all_goals first | (cases h; done) | (simp only [Option.some.injEq, Prod.mk.injEq] at h; omega)
theorem zRx_n {a : Nat} {v : Int} (h : zLm a = none) : zRx a v := by
  unfold zRx
  rw [h]
  trivial
noncomputable def zWok (W : zW) : Prop := (∀ a i, lRg (W.1 a i)) ∧ (∀ a i, lRg (W.2.1 a i) ∧ zRx a (W.2.1 a i))
noncomputable def zl (lv : List (Option zv)) : List (Option jv) := lv.map (Option.map zj)
noncomputable def zs (st : List zv) : List jv := st.map zj
noncomputable def zOs (st : List zv) : Prop := ∀ v ∈ st, zok v
noncomputable def zOl (lv : List (Option zv)) : Prop := ∀ (i : Nat) (v : zv), lv[i]? = some (some v) → zok v
abbrev zN : Type := Nat → List (Option zv) → List zv → zW → Prop
noncomputable def zkill (lv : List (Option zv)) (i : Nat) : List (Option zv) := match i with
  | 0 => lv
  | j + 1 => match lv[j]? with
    | some (some (.inr (.inl _))) => lv.set j none
    | _ => lv
noncomputable def zset1 (lv : List (Option zv)) (i : Nat) (v : zv) : List (Option zv) := (zkill lv i).set i (some v)
noncomputable def z1 (st : List zv) (f : Int → List zv → Prop) : Prop := match st with
  | .inl x :: r => f x r
  | _ => False
noncomputable def z2 (st : List zv) (f : Int → Int → List zv → Prop) : Prop := match st with
  | .inl y :: .inl x :: r => f x y r
  | _ => False
noncomputable def za1 (st : List zv) (f : Option (Nat ⊕ Nat) → List zv → Prop) : Prop := match st with
  | .inr (.inr a) :: r => f a r
  | _ => False
noncomputable def zldi (lv : List (Option zv)) (i : Nat) (f : Int → Prop) : Prop := match lv[i]? with
  | some (some (.inl x)) => f x
  | _ => False
noncomputable def zlda (lv : List (Option zv)) (i : Nat) (f : Option (Nat ⊕ Nat) → Prop) : Prop := match lv[i]? with
  | some (some (.inr (.inr a))) => f a
  | _ => False
noncomputable def zdup (st : List zv) (f : zv → List zv → Prop) : Prop := match st with
  | .inl x :: r => f (.inl x) r
  | .inr (.inr x) :: r => f (.inr (.inr x)) r
  | _ => False
noncomputable def zdupx2 (st : List zv) (f : zv → zv → zv → List zv → Prop) : Prop := match st with
  | .inl x :: .inl y :: .inr (.inr z) :: r => f (.inl x) (.inl y) (.inr (.inr z)) r
  | _ => False
/-! longs, as words of 64 bits -/
noncomputable def zl1 (st : List zv) (f : Int64 → List zv → Prop) : Prop := match st with
  | .inr (.inl x) :: r => f x r
  | _ => False
noncomputable def zl2 (st : List zv) (f : Int64 → Int64 → List zv → Prop) : Prop := match st with
  | .inr (.inl y) :: .inr (.inl x) :: r => f x y r
  | _ => False
noncomputable def zli (st : List zv) (f : Int64 → Int → List zv → Prop) : Prop := match st with
  | .inl y :: .inr (.inl x) :: r => f x y r
  | _ => False
noncomputable def zldl (lv : List (Option zv)) (i : Nat) (f : Int64 → Prop) : Prop := match lv[i]? with
  | some (some (.inr (.inl x))) => f x
  | _ => False
noncomputable def zset2 (lv : List (Option zv)) (i : Nat) (v : zv) : List (Option zv) := ((zkill lv i).set i (some v)).set (i + 1) none
noncomputable def zuL (W : zW) (a i : Nat) (v : Int64) : zW := (W.1, W.2.1, va_up W.2.2.1 a (vp_updL (W.2.2.1 a) i v), W.2.2.2)
noncomputable def zlrd (sh : Nat → zS) (W : zW) (n : Nat) (st : List zv) (f : Int64 → List zv → Prop) : Prop := match st with
  | .inl i :: .inr (.inr (some (.inl a))) :: r => a < n ∧ (match sh a with
    | some (.inl (.long, len)) => (0 ≤ i ∧ i < len) ∧ f (W.2.2.1 a i.toNat) r
    | _ => False)
  | _ => False
noncomputable def zlst (sh : Nat → zS) (W : zW) (n : Nat) (st : List zv) (f : zW → List zv → Prop) : Prop := match st with
  | .inr (.inl x) :: .inl i :: .inr (.inr (some (.inl a))) :: r => a < n ∧ (match sh a with
    | some (.inl (.long, len)) => (0 ≤ i ∧ i < len) ∧ f (zuL W a i.toNat x) r
    | _ => False)
  | _ => False
noncomputable def zdup2 (st : List zv) (f : List zv → Prop) : Prop := match st with
  | .inr (.inl x) :: r => f (.inr (.inl x) :: .inr (.inl x) :: r)
  | .inl x :: .inr (.inr y) :: r => f (.inl x :: .inr (.inr y) :: .inl x :: .inr (.inr y) :: r)
  | _ => False
noncomputable def zdupx (st : List zv) (f : zv → zv → List zv → Prop) : Prop := match st with
  | .inl x :: .inr (.inr y) :: r => f (.inl x) (.inr (.inr y)) r
  | _ => False
noncomputable def zbr (c : Jvm.ClassFile.Cond) (x y : Int) (A B : Prop) : Prop := match c with
  | .eq => (x = y → A) ∧ (¬ x = y → B)
  | .ne => (¬ x = y → A) ∧ (x = y → B)
  | .lt => (x < y → A) ∧ (¬ x < y → B)
  | .ge => (y ≤ x → A) ∧ (¬ y ≤ x → B)
  | .gt => (y < x → A) ∧ (¬ y < x → B)
  | .le => (x ≤ y → A) ∧ (¬ x ≤ y → B)
noncomputable def zrd (tb : jTb) (sh : Nat → zS) (W : zW) (n : Nat) (ty : FieldType) (st : List zv) (f : Int → List zv → Prop) : Prop := match st with
  | .inl i :: .inr (.inr (some (.inl a))) :: r => a < n ∧ (match sh a with
    | some (.inl (t, len)) => t = ty ∧ (0 ≤ i ∧ i < len) ∧ f (W.2.1 a i) r
    | _ => False)
  | .inl i :: .inr (.inr (some (.inr j))) :: r => (match tb j with
    | some (_, _, _, t, len, g) => t = ty ∧ (0 ≤ i ∧ i < len) ∧ f (g i.toNat).toInt r
    | none => False)
  | _ => False
noncomputable def zfit (ty : FieldType) (v : Int) : Prop := match ty with
  | .int => True
  | .byte => -128 ≤ v ∧ v ≤ 127
  | .char => 0 ≤ v ∧ v ≤ 65535
  | .boolean => v = 0 ∨ v = 1
  | _ => False
/-- a number of an object, a number of a row is another one -/
noncomputable def zuF (W : zW) (a i : Nat) (v : Int) : zW := (va_up W.1 a (va_up (W.1 a) i v), W.2)
noncomputable def zuI (f : Int → Int) (i v : Int) : Int → Int := fun j => if j = i then v else f j
noncomputable def zuR (W : zW) (a : Nat) (i v : Int) : zW := (W.1, va_up W.2.1 a (zuI (W.2.1 a) i v), W.2.2)
noncomputable def zuQ (W : zW) (a i : Nat) (v : Option (Nat ⊕ Nat)) : zW := (W.1, W.2.1, W.2.2.1, va_up W.2.2.2.1 a (va_up (W.2.2.2.1 a) i v), W.2.2.2.2)
noncomputable def zgd (a : Nat) (ty : FieldType) (x : Int) : Prop := match zLm a with
  | none => zfit ty x
  | some (lo, hi) => (match ty with
    | .int => lo ≤ x ∧ x ≤ hi
    | .char => lo ≤ x ∧ x ≤ hi
    | _ => False)
noncomputable def zst (sh : Nat → zS) (W : zW) (n : Nat) (ty : FieldType) (st : List zv) (f : zW → List zv → Prop) : Prop := match st with
  | .inl x :: .inl i :: .inr (.inr (some (.inl a))) :: r => a < n ∧ (match sh a with
    | some (.inl (t, len)) => t = ty ∧ (0 ≤ i ∧ i < len) ∧ zgd a ty x ∧ f (zuR W a i x) r
    | _ => False)
  | _ => False
noncomputable def zln (tb : jTb) (sh : Nat → zS) (n : Nat) (st : List zv) (f : Int → List zv → Prop) : Prop := match st with
  | .inr (.inr (some (.inl a))) :: r => a < n ∧ (match sh a with
    | some (.inl (t, len)) => t ∈ jtys ∧ len ≤ 2147483647 ∧ f len r
    | _ => False)
  | .inr (.inr (some (.inr j))) :: r => (match tb j with
    | some (_, _, _, _, len, _) => len ≤ 2147483647 ∧ f len r
    | none => False)
  | _ => False
noncomputable def zget (sh : Nat → zS) (W : zW) (n ci k : Nat) (st : List zv) (f : zv → List zv → Prop) : Prop := match st with
  | .inr (.inr (some (.inl a))) :: r => a < n ∧ (match sh a with
    | some (.inr (c, ks)) => c = ci ∧ (match ks[k]? with
      | some q => f (zg W a k q) r
      | none => False)
    | _ => False)
  | _ => False
noncomputable def zput (sh : Nat → zS) (W : zW) (n ci k kd : Nat) (st : List zv) (f : zW → List zv → Prop) : Prop := match st with
  | .inl x :: .inr (.inr (some (.inl a))) :: r => a < n ∧ (match sh a with
    | some (.inr (c, ks)) => c = ci ∧ ks[k]? = some 0 ∧ (kd = 0 ∨ (kd = 1 ∧ (x = 0 ∨ x = 1))) ∧ f (zuF W a k x) r
    | _ => False)
  | .inr (.inr x) :: .inr (.inr (some (.inl a))) :: r => a < n ∧ (match sh a with
    | some (.inr (c, ks)) => c = ci ∧ ks[k]? = some 1 ∧ kd = 3 ∧ f (zuQ W a k x) r
    | _ => False)
  | .inr (.inl x) :: .inr (.inr (some (.inl a))) :: r => a < n ∧ (match sh a with
    | some (.inr (c, ks)) => c = ci ∧ ks[k]? = some 2 ∧ kd = 2 ∧ f (zuL W a k x) r
    | _ => False)
  | _ => False
noncomputable def zstep (tb : jTb) (sh : Nat → zS) (n : Nat) (I : Instr) (ln : Nat) (py : jP) (pc : Nat) (lv : List (Option zv)) (st : List zv) (W : zW) (nx lf : zN) : Prop := match I with
  | .iconst _ => nx (pc + ln) lv (.inl py.2.2.2.1.toInt :: st) W
  | .bipush _ => nx (pc + ln) lv (.inl py.2.2.2.1.toInt :: st) W
  | .sipush _ => nx (pc + ln) lv (.inl py.2.2.2.1.toInt :: st) W
  | .ldc _ => nx (pc + ln) lv (.inl py.2.2.2.1.toInt :: st) W
  | .aconst_null => nx (pc + ln) lv (.inr (.inr none) :: st) W
  | .getstatic _ => nx (pc + ln) lv (.inr (.inr (some (.inr py.1))) :: st) W
  | .iload_n _ => zldi lv py.1 fun x => nx (pc + ln) lv (.inl x :: st) W
  | .iload k => zldi lv k fun x => nx (pc + ln) lv (.inl x :: st) W
  | .aload_n _ => zlda lv py.1 fun x => nx (pc + ln) lv (.inr (.inr x) :: st) W
  | .aload k => zlda lv k fun x => nx (pc + ln) lv (.inr (.inr x) :: st) W
  | .istore_n _ => z1 st fun x r => nx (pc + ln) (zset1 lv py.1 (.inl x)) r W
  | .istore k => z1 st fun x r => nx (pc + ln) (zset1 lv k (.inl x)) r W
  | .astore_n _ => za1 st fun x r => nx (pc + ln) (zset1 lv py.1 (.inr (.inr x))) r W
  | .astore k => za1 st fun x r => nx (pc + ln) (zset1 lv k (.inr (.inr x))) r W
  | .iinc k _ => zldi lv k fun x => lRg (x + py.2.2.2.1.toInt) ∧ nx (pc + ln) (zset1 lv k (.inl (x + py.2.2.2.1.toInt))) st W
  | .iadd => z2 st fun x y r => (match Nat.beq py.2.1 1 with
    | false => lRg (x + y) ∧ nx (pc + ln) lv (.inl (x + y) :: r) W
    | true => nx (pc + ln) lv (.inl (lI x + lI y).toInt :: r) W)
  | .isub => z2 st fun x y r => (match Nat.beq py.2.1 1 with
    | false => lRg (x - y) ∧ nx (pc + ln) lv (.inl (x - y) :: r) W
    | true => nx (pc + ln) lv (.inl (lI x - lI y).toInt :: r) W)
  | .imul => z2 st fun x y r => (match Nat.beq py.2.1 1 with
    | false => lRg (x * y) ∧ nx (pc + ln) lv (.inl (x * y) :: r) W
    | true => nx (pc + ln) lv (.inl (lI x * lI y).toInt :: r) W)
  | .lconst _ => nx (pc + ln) lv (.inr (.inl py.2.2.2.2) :: st) W
  | .ldc2_w _ => nx (pc + ln) lv (.inr (.inl py.2.2.2.2) :: st) W
  | .lload_n _ => zldl lv py.1 fun x => nx (pc + ln) lv (.inr (.inl x) :: st) W
  | .lload k => zldl lv k fun x => nx (pc + ln) lv (.inr (.inl x) :: st) W
  | .lstore_n _ => zl1 st fun x r => nx (pc + ln) (zset2 lv py.1 (.inr (.inl x))) r W
  | .lstore k => zl1 st fun x r => nx (pc + ln) (zset2 lv k (.inr (.inl x))) r W
  | .ladd => zl2 st fun x y r => nx (pc + ln) lv (.inr (.inl (x + y)) :: r) W
  | .lsub => zl2 st fun x y r => nx (pc + ln) lv (.inr (.inl (x - y)) :: r) W
  | .lmul => zl2 st fun x y r => nx (pc + ln) lv (.inr (.inl (x * y)) :: r) W
  | .land => zl2 st fun x y r => nx (pc + ln) lv (.inr (.inl (x &&& y)) :: r) W
  | .lor => zl2 st fun x y r => nx (pc + ln) lv (.inr (.inl (x ||| y)) :: r) W
  | .lxor => zl2 st fun x y r => nx (pc + ln) lv (.inr (.inl (x ^^^ y)) :: r) W
  | .ldiv => zl2 st fun x y r => ¬ y = 0 ∧ nx (pc + ln) lv (.inr (.inl (x / y)) :: r) W
  | .lrem => zl2 st fun x y r => ¬ y = 0 ∧ nx (pc + ln) lv (.inr (.inl (x - x / y * y)) :: r) W
  | .lneg => zl1 st fun x r => nx (pc + ln) lv (.inr (.inl (-x)) :: r) W
  | .lshl => zli st fun x y r => nx (pc + ln) lv (.inr (.inl (x <<< ((lI y).toInt64 &&& 63))) :: r) W
  | .lshr => zli st fun x y r => nx (pc + ln) lv (.inr (.inl (x >>> ((lI y).toInt64 &&& 63))) :: r) W
  | .lushr => zli st fun x y r => nx (pc + ln) lv (.inr (.inl ((x.toUInt64 >>> ((lI y).toInt64.toUInt64 &&& Int64.toUInt64 63)).toInt64)) :: r) W
  | .lcmp => zl2 st fun x y r => nx (pc + ln) lv (.inl (lg_cmp x y).toInt :: r) W
  | .i2l => z1 st fun x r => nx (pc + ln) lv (.inr (.inl (lI x).toInt64) :: r) W
  | .l2i => zl1 st fun x r => nx (pc + ln) lv (.inl x.toInt32.toInt :: r) W
  | .laload => zlrd sh W n st fun x r => nx (pc + ln) lv (.inr (.inl x) :: r) W
  | .lastore => zlst sh W n st fun W2 r => nx (pc + ln) lv r W2
  | .iushr => z2 st fun x y r => nx (pc + ln) lv (.inl ((lI x).toUInt32 >>> ((lI y).toUInt32 &&& Int32.toUInt32 31)).toInt32.toInt :: r) W
  | .dup_x2 => zdupx2 st fun v w z r => nx (pc + ln) lv (v :: w :: z :: v :: r) W
  | .iand => z2 st fun x y r => nx (pc + ln) lv (.inl (lI x &&& lI y).toInt :: r) W
  | .ior => z2 st fun x y r => nx (pc + ln) lv (.inl (lI x ||| lI y).toInt :: r) W
  | .ixor => z2 st fun x y r => nx (pc + ln) lv (.inl (lI x ^^^ lI y).toInt :: r) W
  | .ishl => z2 st fun x y r => nx (pc + ln) lv (.inl (lI x <<< (lI y &&& 31)).toInt :: r) W
  | .ishr => z2 st fun x y r => nx (pc + ln) lv (.inl (lI x >>> (lI y &&& 31)).toInt :: r) W
  | .ineg => z1 st fun x r => (match Nat.beq py.2.1 1 with
    | false => lRg (-x) ∧ nx (pc + ln) lv (.inl (-x) :: r) W
    | true => nx (pc + ln) lv (.inl (-(lI x)).toInt :: r) W)
  | .i2b => z1 st fun x r => nx (pc + ln) lv (.inl (lI x).toInt8.toInt32.toInt :: r) W
  | .i2c => z1 st fun x r => nx (pc + ln) lv (.inl ((lI x).toUInt32 % 65536).toInt32.toInt :: r) W
  | .dup => zdup st fun v r => nx (pc + ln) lv (v :: v :: r) W
  | .dup2 => zdup2 st fun r => nx (pc + ln) lv r W
  | .dup_x1 => zdupx st fun v w r => nx (pc + ln) lv (v :: w :: v :: r) W
  | .idiv => z2 st fun x y r => ¬ y = 0 ∧ nx (pc + ln) lv (.inl (lI x / lI y).toInt :: r) W
  | .irem => z2 st fun x y r => ¬ y = 0 ∧ nx (pc + ln) lv (.inl (lI x - lI x / lI y * lI y).toInt :: r) W
  | .pop => zdup st fun _ r => nx (pc + ln) lv r W
  | .ifCond c _ => z1 st fun x r => zbr c x 0 (lf py.1 lv r W) (nx (pc + ln) lv r W)
  | .if_icmp c _ => z2 st fun x y r => zbr c x y (lf py.1 lv r W) (nx (pc + ln) lv r W)
  | .ifnull _ => za1 st fun a r => (a = none → lf py.1 lv r W) ∧ (¬ a = none → nx (pc + ln) lv r W)
  | .ifnonnull _ => za1 st fun a r => (¬ a = none → lf py.1 lv r W) ∧ (a = none → nx (pc + ln) lv r W)
  | .goto _ => lf py.1 lv st W
  | .iaload => zrd tb sh W n .int st fun x r => nx (pc + ln) lv (.inl x :: r) W
  | .caload => zrd tb sh W n .char st fun x r => nx (pc + ln) lv (.inl x :: r) W
  | .baload => zrd tb sh W n (if py.1 = 0 then .byte else .boolean) st fun x r => nx (pc + ln) lv (.inl x :: r) W
  | .iastore => zst sh W n .int st fun W2 r => nx (pc + ln) lv r W2
  | .castore => zst sh W n .char st fun W2 r => nx (pc + ln) lv r W2
  | .bastore => zst sh W n (if py.1 = 0 then .byte else .boolean) st fun W2 r => nx (pc + ln) lv r W2
  | .arraylength => zln tb sh n st fun x r => nx (pc + ln) lv (.inl x :: r) W
  | .getfield _ => zget sh W n py.1 py.2.1 st fun v r => nx (pc + ln) lv (v :: r) W
  | .putfield _ => zput sh W n py.1 py.2.1 py.2.2.2.1.toNatClampNeg st fun W2 r => nx (pc + ln) lv r W2
  | _ => False
theorem zOs_c {v : zv} {r : List zv} (h : zOs (v :: r)) : zok v ∧ zOs r := ⟨h v (List.mem_cons_self ..), fun w hw => h w (List.mem_cons_of_mem _ hw)⟩
theorem zs_i (z : Int32) (r : List zv) : zs (.inl z.toInt :: r) = .inl z :: zs r := by
  show Sum.inl (lI z.toInt) :: zs r = Sum.inl z :: zs r
  rw [← lI_e rfl]
theorem zOs_m {v : zv} {r : List zv} (h1 : zok v) (h2 : zOs r) : zOs (v :: r) := by
  intro w hw
  rcases List.mem_cons.mp hw with rfl | hw
  · exact h1
  · exact h2 w hw
theorem zl_kill {lv : List (Option zv)} {i : Nat} : zl (zkill lv i) = jkill (zl lv) i := by
  unfold zkill jkill
  cases i with
  | zero => rfl
  | succ j =>
    dsimp only
    have e : (zl lv)[j]? = (lv[j]?).map (Option.map zj) := by unfold zl; exact List.getElem?_map
    rw [e]
    rcases lv[j]? with _ | (_ | (x | (x | x))) <;> first | rfl | (unfold zl; rw [List.map_set]; rfl)
theorem zl_set {lv : List (Option zv)} {i : Nat} {v : zv} : zl (zset1 lv i v) = jset1 (zl lv) i (zj v) := by
  unfold zset1 jset1
  rw [← zl_kill]
  unfold zl
  rw [List.map_set]
  rfl
theorem zOl_kill {lv : List (Option zv)} {i : Nat} (h : zOl lv) : zOl (zkill lv i) := by
  unfold zkill
  split
  · exact h
  · split
    · intro k v hk
      rw [List.getElem?_set] at hk
      split at hk
      · split at hk <;> cases hk
      · exact h k v hk
    · exact h
theorem zOl_set {lv : List (Option zv)} {i : Nat} {v : zv} (h : zOl lv) (hv : zok v) : zOl (zset1 lv i v) := by
  intro k w hk
  unfold zset1 at hk
  rw [List.getElem?_set] at hk
  split at hk
  · split at hk
    · obtain rfl : v = w := Option.some.inj (Option.some.inj hk)
      exact hv
    · cases hk
  · exact zOl_kill h k w hk
theorem z1_ok {st : List zv} {f : Int → List zv → Prop} {g : Int32 → List jv → Prop} (hO : zOs st) (h : z1 st f) (hg : ∀ x r, lRg x → zOs r → f x r → g (lI x) (zs r)) : j1 (zs st) g := by
  unfold z1 at h
  split at h
  · exact hg _ _ (zOs_c hO).1 (zOs_c hO).2 h
  · exact h.elim
theorem z2_ok {st : List zv} {f : Int → Int → List zv → Prop} {g : Int32 → Int32 → List jv → Prop} (hO : zOs st) (h : z2 st f) (hg : ∀ x y r, lRg x → lRg y → zOs r → f x y r → g (lI x) (lI y) (zs r)) : j2 (zs st) g := by
  unfold z2 at h
  split at h
  · exact hg _ _ _ (zOs_c (zOs_c hO).2).1 (zOs_c hO).1 (zOs_c (zOs_c hO).2).2 h
  · exact h.elim
theorem za1_ok {st : List zv} {f : Option (Nat ⊕ Nat) → List zv → Prop} {g : Option (Nat ⊕ Nat) → List jv → Prop} (hO : zOs st) (h : za1 st f) (hg : ∀ x r, zOs r → f x r → g x (zs r)) : ja1 (zs st) g := by
  unfold za1 at h
  split at h
  · exact hg _ _ (zOs_c hO).2 h
  · exact h.elim
theorem zldi_ok {lv : List (Option zv)} {i : Nat} {f : Int → Prop} {g : Int32 → Prop} (hO : zOl lv) (h : zldi lv i f) (hg : ∀ x, lRg x → f x → g (lI x)) : jldi (zl lv) i g := by
  unfold zldi at h
  split at h
  next x e =>
    unfold jldi zl
    rw [List.getElem?_map, e]
    exact hg x (hO i _ e) h
  next => exact h.elim
theorem zlda_ok {lv : List (Option zv)} {i : Nat} {f g : Option (Nat ⊕ Nat) → Prop} (h : zlda lv i f) (hg : ∀ x, f x → g x) : jlda (zl lv) i g := by
  unfold zlda at h
  split at h
  next x e =>
    unfold jlda zl
    rw [List.getElem?_map, e]
    exact hg x h
  next => exact h.elim
theorem zdup_ok {st : List zv} {f : zv → List zv → Prop} {g : jv → List jv → Prop} (hO : zOs st) (h : zdup st f) (hg : ∀ v r, zok v → zOs r → f v r → g (zj v) (zs r)) : jdup (zs st) g := by
  unfold zdup at h
  split at h
  · exact ⟨rfl, hg _ _ (zOs_c hO).1 (zOs_c hO).2 h⟩
  · exact ⟨rfl, hg _ _ (zOs_c hO).1 (zOs_c hO).2 h⟩
  · exact h.elim
theorem zdup2_ok {st : List zv} {f : List zv → Prop} {g : List jv → Prop} (hO : zOs st) (h : zdup2 st f) (hg : ∀ r, zOs r → f r → g (zs r)) : jdup2 (zs st) g := by
  unfold zdup2 at h
  split at h
  next x r => exact hg _ (zOs_m (zOs_c hO).1 (zOs_m (zOs_c hO).1 (zOs_c hO).2)) h
  next x y r =>
    have h1 := (zOs_c hO).1
    have h2 := (zOs_c (zOs_c hO).2).1
    have h3 := (zOs_c (zOs_c hO).2).2
    exact ⟨rfl, rfl, hg _ (zOs_m h1 (zOs_m h2 (zOs_m h1 (zOs_m h2 h3)))) h⟩
  next => exact h.elim
theorem zdupx_ok {st : List zv} {f : zv → zv → List zv → Prop} {g : jv → jv → List jv → Prop} (hO : zOs st) (h : zdupx st f) (hg : ∀ v w r, zok v → zok w → zOs r → f v w r → g (zj v) (zj w) (zs r)) : jdupx (zs st) g := by
  unfold zdupx at h
  split at h
  next x y r => exact ⟨rfl, rfl, hg _ _ _ (zOs_c hO).1 (zOs_c (zOs_c hO).2).1 (zOs_c (zOs_c hO).2).2 h⟩
  next => exact h.elim
theorem zdupx2_ok {st : List zv} {f : zv → zv → zv → List zv → Prop} {g : jv → jv → jv → List jv → Prop} (hO : zOs st) (h : zdupx2 st f) (hg : ∀ v w z r, zok v → zok w → zok z → zOs r → f v w z r → g (zj v) (zj w) (zj z) (zs r)) : jdupx2 (zs st) g := by
  unfold zdupx2 at h
  split at h
  next x y z r => exact ⟨rfl, rfl, rfl, hg _ _ _ _ (zOs_c hO).1 (zOs_c (zOs_c hO).2).1 (zOs_c (zOs_c (zOs_c hO).2).2).1 (zOs_c (zOs_c (zOs_c hO).2).2).2 h⟩
  next => exact h.elim
theorem zl1_ok {st : List zv} {f : Int64 → List zv → Prop} {g : Int64 → List jv → Prop} (hO : zOs st) (h : zl1 st f) (hg : ∀ x r, zOs r → f x r → g x (zs r)) : jl1 (zs st) g := by
  unfold zl1 at h
  split at h
  · exact hg _ _ (zOs_c hO).2 h
  · exact h.elim
theorem zl2_ok {st : List zv} {f : Int64 → Int64 → List zv → Prop} {g : Int64 → Int64 → List jv → Prop} (hO : zOs st) (h : zl2 st f) (hg : ∀ x y r, zOs r → f x y r → g x y (zs r)) : jl2 (zs st) g := by
  unfold zl2 at h
  split at h
  · exact hg _ _ _ (zOs_c (zOs_c hO).2).2 h
  · exact h.elim
theorem zli_ok {st : List zv} {f : Int64 → Int → List zv → Prop} {g : Int64 → Int32 → List jv → Prop} (hO : zOs st) (h : zli st f) (hg : ∀ x y r, zOs r → f x y r → g x (lI y) (zs r)) : jli (zs st) g := by
  unfold zli at h
  split at h
  · exact hg _ _ _ (zOs_c (zOs_c hO).2).2 h
  · exact h.elim
theorem zldl_ok {lv : List (Option zv)} {i : Nat} {f g : Int64 → Prop} (h : zldl lv i f) (hg : ∀ x, f x → g x) : jldl (zl lv) i g := by
  unfold zldl at h
  split at h
  next x e =>
    unfold jldl zl
    rw [List.getElem?_map, e]
    exact hg x h
  next => exact h.elim
theorem zl_set2 {lv : List (Option zv)} {i : Nat} {v : zv} : zl (zset2 lv i v) = jset2 (zl lv) i (zj v) := by
  unfold zset2 jset2
  rw [← zl_kill]
  unfold zl
  rw [List.map_set, List.map_set]
  rfl
theorem zOl_set2 {lv : List (Option zv)} {i : Nat} {v : zv} (h : zOl lv) (hv : zok v) : zOl (zset2 lv i v) := by
  intro k w hk
  unfold zset2 at hk
  rw [List.getElem?_set] at hk
  split at hk
  · split at hk <;> cases hk
  · exact zOl_set h hv k w hk
theorem zbr_ok {c : Jvm.ClassFile.Cond} {x y : Int} {A B A' B' : Prop} (hx : lRg x) (hy : lRg y) (h : zbr c x y A B) (h1 : A → A') (h2 : B → B') : jbr c (lI x) (lI y) A' B' := by
  cases c
  · exact ⟨fun q => h1 (h.1 ((lI_eq hx hy).mp q)), fun q => h2 (h.2 (fun z => q ((lI_eq hx hy).mpr z)))⟩
  · exact ⟨fun q => h1 (h.1 (fun z => q ((lI_eq hx hy).mpr z))), fun q => h2 (h.2 ((lI_eq hx hy).mp q))⟩
  · exact ⟨fun q => h1 (h.1 ((lI_lt hx hy).mp q)), fun q => h2 (h.2 (fun z => q ((lI_lt hx hy).mpr z)))⟩
  · exact ⟨fun q => h1 (h.1 ((lI_le hy hx).mp q)), fun q => h2 (h.2 (fun z => q ((lI_le hy hx).mpr z)))⟩
  · exact ⟨fun q => h1 (h.1 ((lI_lt hy hx).mp q)), fun q => h2 (h.2 (fun z => q ((lI_lt hy hx).mpr z)))⟩
  · exact ⟨fun q => h1 (h.1 ((lI_le hx hy).mp q)), fun q => h2 (h.2 (fun z => q ((lI_le hx hy).mpr z)))⟩
theorem zc_row {sh : Nat → zS} {W : zW} {a len : Nat} {ty : FieldType} (h : sh a = some (.inl (ty, len))) (hy : ty = .int ∨ ty = .char ∨ ty = .byte ∨ ty = .boolean) : zlW sh W a = .inl (ty, len, .inl (fun j => lI (W.2.1 a j))) := by
  unfold zlW zc
  rw [h]
  rcases hy with rfl | rfl | rfl | rfl <;> rfl
theorem zc_obj {sh : Nat → zS} {W : zW} {a c : Nat} {ks : List Nat} (h : sh a = some (.inr (c, ks))) : zlW sh W a = .inr (c, zfs W a 0 ks) := by
  unfold zlW zc
  rw [h]
theorem zrd_ok {tb : jTb} {sh : Nat → zS} {W : zW} {n : Nat} {ty : FieldType} {st : List zv} {f : Int → List zv → Prop} {g : Int32 → List jv → Prop} (hy : ty = .int ∨ ty = .char ∨ ty = .byte ∨ ty = .boolean) (hO : zOs st) (hW : zWok W) (h : zrd tb sh W n ty st f) (hg : ∀ x r, lRg x → zOs r → f x r → g (lI x) (zs r)) : jald tb (zlW sh W) n ty (zs st) g := by
  unfold zrd at h
  split at h
  next i a r =>
    have hi := (zOs_c hO).1
    obtain ⟨h1, h2⟩ := h
    split at h2
    next t len e =>
      obtain ⟨ht, h3, h4⟩ := h2
      rw [ht] at e
      show a < n ∧ (match zlW sh W a with
        | .inl (t, len, .inl g') => t = ty ∧ vp_in (lI i) len ∧ g (g' (lI i).toNatClampNeg) (zs r)
        | _ => False)
      rw [zc_row e hy]
      refine ⟨h1, rfl, l_vp (by rw [lI_t hi]; exact h3.1) (by rw [lI_t hi]; exact h3.2), ?_⟩
      have h5 := hg _ _ (hW.2 a i).1 (zOs_c (zOs_c hO).2).2 h4
      show g (lI (W.2.1 a ((lI i).toNatClampNeg : Int))) (zs r)
      rw [lI_cl hi, show ((i.toNat : Nat) : Int) = i by omega]
      exact h5
    next => exact h2.elim
  next i j r =>
    have hi := (zOs_c hO).1
    show (match tb j with
        | some (_, _, _, t, len, g') => t = ty ∧ vp_in (lI i) len ∧ g (g' (lI i).toNatClampNeg) (zs r)
        | none => False)
    split at h
    next a1 a2 a3 t len g' e =>
      obtain ⟨ht, h3, h4⟩ := h
      refine ⟨ht, l_vp (by rw [lI_t hi]; exact h3.1) (by rw [lI_t hi]; exact h3.2), ?_⟩
      have h5 := hg _ _ (lI_r _) (zOs_c (zOs_c hO).2).2 h4
      rw [lI_cl hi]
      rw [← lI_e rfl] at h5
      exact h5
    next => exact h.elim
  next => exact h.elim
theorem zfit_n {ty : FieldType} {v : Int} (hv : lRg v) (h : zfit ty v) : vp_nar ty (lI v) = lI v := by
  unfold zfit at h
  split at h
  · rfl
  · apply l_eq.mpr
    show (lI v).toInt8.toInt32.toInt = _
    rw [Int8.toInt_toInt32, Int32.toInt_toInt8, lI_t hv]
    exact Int.bmod_eq_of_le (by omega) (by omega)
  · have e : v = ((v.toNat : Nat) : Int) := by omega
    have hl : v.toNat < 65536 := by omega
    generalize v.toNat = k at e hl
    subst e
    show ((lI k).toUInt32 % 65536).toInt32 = lI k
    have e1 : (lI (k : Int)).toUInt32 = UInt32.ofNat k := by
      apply UInt32.toNat_inj.mp
      rw [UInt32.toNat_ofNat_of_lt' (by show k < 4294967296; omega)]
      show (lI (k : Int)).toBitVec.toNat = k
      show (BitVec.ofInt 32 (k : Int)).toNat = k
      rw [BitVec.ofInt_natCast, BitVec.toNat_ofNat]
      exact Nat.mod_eq_of_lt (by omega)
    rw [e1]
    have e2 : UInt32.ofNat k % 65536 = UInt32.ofNat k := by
      apply UInt32.toNat_inj.mp
      rw [UInt32.toNat_mod, UInt32.toNat_ofNat_of_lt' (by show k < 4294967296; omega)]
      exact Nat.mod_eq_of_lt hl
    rw [e2, ← e1]
    rfl
  · rcases h with rfl | rfl <;> decide
  · exact h.elim
theorem zln_ok {tb : jTb} {sh : Nat → zS} {W : zW} {n : Nat} {st : List zv} {f : Int → List zv → Prop} {g : Int32 → List jv → Prop} (hO : zOs st) (h : zln tb sh n st f) (hg : ∀ x r, lRg x → zOs r → f x r → g (lI x) (zs r)) : jalen tb (zlW sh W) n (zs st) g := by
  have hc : ∀ len : Nat, len ≤ 2147483647 → Int32.ofNat len = lI len ∧ lRg len := by
    intro len hl
    refine ⟨?_, by unfold lRg; omega⟩
    rfl
  unfold zln at h
  split at h
  next a r =>
    obtain ⟨h1, h2⟩ := h
    split at h2
    next t len e =>
      obtain ⟨h3, h4, h5⟩ := h2
      have h6 := hg _ _ (hc len h4).2 (zOs_c hO).2 h5
      rw [← (hc len h4).1] at h6
      show a < n ∧ (match zlW sh W a with
        | .inl (t, len, _) => t ∈ jtys ∧ g (Int32.ofNat len) (zs r)
        | _ => False)
      unfold zlW zc
      rw [e]
      cases t <;> exact ⟨h1, h3, h6⟩
    next => exact h2.elim
  next j r =>
    show (match tb j with
      | some (_, _, _, _, len, _) => g (Int32.ofNat len) (zs r)
      | none => False)
    split at h
    next a1 a2 a3 a4 len g' e =>
      obtain ⟨h4, h5⟩ := h
      have h6 := hg _ _ (hc len h4).2 (zOs_c hO).2 h5
      rw [← (hc len h4).1] at h6
      exact h6
    next => exact h.elim
  next => exact h.elim
theorem zfs_at {W : zW} {a : Nat} : ∀ (ks : List Nat) (i k : Nat), (zfs W a i ks)[k]? = (ks[k]?).map (fun q => zj (zg W a (i + k) q))
  | [], i, k => rfl
  | q :: r, i, 0 => rfl
  | q :: r, i, k + 1 => by
    show (zfs W a (i + 1) r)[k]? = (r[k]?).map _
    rw [zfs_at r (i + 1) k, show i + 1 + k = i + (k + 1) by omega]
theorem zg_ok {W : zW} {a i k : Nat} (hW : zWok W) : zok (zg W a i k) := by
  unfold zg
  split
  · exact hW.1 a i
  all_goals trivial
theorem zget_ok {sh : Nat → zS} {W : zW} {n ci k : Nat} {st : List zv} {f : zv → List zv → Prop} {g : jv → List jv → Prop} (hO : zOs st) (hW : zWok W) (h : zget sh W n ci k st f) (hg : ∀ v r, zok v → zOs r → f v r → g (zj v) (zs r)) : jget (zlW sh W) n ci k (zs st) g := by
  unfold zget at h
  split at h
  next a r =>
    obtain ⟨h1, h2⟩ := h
    split at h2
    next c ks e =>
      obtain ⟨hc, h3⟩ := h2
      split at h3
      next q e2 =>
        show a < n ∧ (match zlW sh W a with
          | .inr (c', fs) => c' = ci ∧ (match fs[k]? with
            | some v => g v (zs r)
            | none => False)
          | _ => False)
        rw [zc_obj e]
        refine ⟨h1, hc, ?_⟩
        rw [zfs_at, e2, Nat.zero_add]
        exact hg _ _ (zg_ok hW) (zOs_c hO).2 h3
      next => exact h3.elim
    next => exact h2.elim
  next => exact h.elim
theorem zfs_ext {W W2 : zW} {a : Nat} : ∀ (ks : List Nat) (i : Nat), (∀ (k q : Nat), ks[k]? = some q → zg W a (i + k) q = zg W2 a (i + k) q) → zfs W a i ks = zfs W2 a i ks
  | [], _, _ => rfl
  | q :: r, i, h => by
    show zj (zg W a i q) :: zfs W a (i + 1) r = zj (zg W2 a i q) :: zfs W2 a (i + 1) r
    rw [zfs_ext (W := W) (W2 := W2) r (i + 1) (fun k q' hk => by rw [show i + 1 + k = i + (k + 1) by omega]; exact h (k + 1) q' hk)]
    have := h 0 q rfl
    rw [Nat.add_zero] at this
    rw [this]
theorem zfs_set {W W2 : zW} {a : Nat} {v : jv} : ∀ (ks : List Nat) (i k : Nat), (∀ q, ks[k]? = some q → v = zj (zg W2 a (i + k) q)) → (∀ (k' q : Nat), ¬ k' = k → ks[k']? = some q → zg W a (i + k') q = zg W2 a (i + k') q) → (zfs W a i ks).set k v = zfs W2 a i ks
  | [], _, _, _, _ => rfl
  | q :: r, i, 0, h1, h2 => by
    show v :: zfs W a (i + 1) r = zj (zg W2 a i q) :: zfs W2 a (i + 1) r
    rw [h1 q rfl, zfs_ext (W := W) (W2 := W2) r (i + 1) (fun k q' hk => by rw [show i + 1 + k = i + (k + 1) by omega]; exact h2 (k + 1) q' (by omega) hk)]
    rfl
  | q :: r, i, k + 1, h1, h2 => by
    show zj (zg W a i q) :: (zfs W a (i + 1) r).set k v = zj (zg W2 a i q) :: zfs W2 a (i + 1) r
    rw [zfs_set (W := W) (W2 := W2) r (i + 1) k (fun q' hq => by rw [show i + 1 + k = i + (k + 1) by omega]; exact h1 q' hq) (fun k' q' hk hq => by rw [show i + 1 + k' = i + (k' + 1) by omega]; exact h2 (k' + 1) q' (by omega) hq)]
    have := h2 0 q (by omega) rfl
    rw [Nat.add_zero] at this
    rw [this]
theorem zlW_up {sh : Nat → zS} {W W2 : zW} {a c k : Nat} {ks : List Nat} {v : jv} (e : sh a = some (.inr (c, ks))) (h1 : ∀ q, ks[k]? = some q → v = zj (zg W2 a k q)) (h2 : ∀ (k' q : Nat), ¬ k' = k → ks[k']? = some q → zg W a k' q = zg W2 a k' q) (h3 : ∀ b, ¬ b = a → ∀ s, zc s W b = zc s W2 b) : jup (zlW sh W) a (.inr (c, (zfs W a 0 ks).set k v)) = zlW sh W2 := by
  funext b
  by_cases hb : b = a
  · subst hb
    rw [jup_s, zc_obj e, zfs_set ks 0 k (fun q hq => by rw [Nat.zero_add]; exact h1 q hq) (fun k' q hk hq => by rw [Nat.zero_add]; exact h2 k' q hk hq)]
  · rw [jup_n hb]
    exact h3 b hb _
theorem zc_F {s : zS} {W : zW} {a b i : Nat} {x : Int} (hb : ¬ b = a) : zc s W b = zc s (zuF W a i x) b := by
  rcases s with _ | (⟨t, len⟩ | ⟨c, ks⟩)
  · rfl
  · cases t <;> rfl
  · show Sum.inr (c, zfs W b 0 ks) = Sum.inr (c, zfs (zuF W a i x) b 0 ks)
    rw [zfs_ext (W2 := zuF W a i x) ks 0 (fun k q hk => ?_)]
    unfold zg
    split
    · show Sum.inl (W.1 b (0 + k)) = Sum.inl (va_up W.1 a (va_up (W.1 a) i x) b (0 + k))
      rw [va_up_ne _ _ hb]
    all_goals rfl
theorem zc_Q {s : zS} {W : zW} {a b i : Nat} {x : Option (Nat ⊕ Nat)} (hb : ¬ b = a) : zc s W b = zc s (zuQ W a i x) b := by
  rcases s with _ | (⟨t, len⟩ | ⟨c, ks⟩)
  · rfl
  · cases t <;> rfl
  · show Sum.inr (c, zfs W b 0 ks) = Sum.inr (c, zfs (zuQ W a i x) b 0 ks)
    rw [zfs_ext (W2 := zuQ W a i x) ks 0 (fun k q hk => ?_)]
    unfold zg
    split
    · rfl
    · show Sum.inr (Sum.inr (W.2.2.2.1 b (0 + k))) = Sum.inr (Sum.inr (va_up W.2.2.2.1 a (va_up (W.2.2.2.1 a) i x) b (0 + k)))
      rw [va_up_ne _ _ hb]
    all_goals rfl
theorem zc_L {s : zS} {W : zW} {a b i : Nat} {x : Int64} (hb : ¬ b = a) : zc s W b = zc s (zuL W a i x) b := by
  have e : W.2.2.1 b = (zuL W a i x).2.2.1 b := by
    show _ = va_up W.2.2.1 a (vp_updL (W.2.2.1 a) i x) b
    rw [va_up_ne _ _ hb]
  rcases s with _ | (⟨t, len⟩ | ⟨c, ks⟩)
  · rfl
  · cases t <;> first | rfl | (show Sum.inl (FieldType.long, len, Sum.inr (Sum.inl (W.2.2.1 b))) = Sum.inl (FieldType.long, len, Sum.inr (Sum.inl ((zuL W a i x).2.2.1 b))); rw [e])
  · show Sum.inr (c, zfs W b 0 ks) = Sum.inr (c, zfs (zuL W a i x) b 0 ks)
    rw [zfs_ext (W2 := zuL W a i x) ks 0 (fun k q hk => ?_)]
    unfold zg
    split
    · rfl
    · rfl
    · show Sum.inr (Sum.inl (W.2.2.1 b (0 + k))) = Sum.inr (Sum.inl ((zuL W a i x).2.2.1 b (0 + k)))
      rw [e]
    · rfl
theorem zgd_f {a : Nat} {ty : FieldType} {x : Int} (h : zgd a ty x) : zfit ty x ∧ zRx a x := by
  unfold zgd at h
  unfold zRx
  split at h
  next e => exact ⟨h, trivial⟩
  next lo hi e =>
    have hb := zLm_b e
    split at h
    next => exact ⟨trivial, h⟩
    next => exact ⟨(show 0 ≤ x ∧ x ≤ 65535 by omega), h⟩
    next => exact h.elim
theorem zst_ok {sh : Nat → zS} {W : zW} {n : Nat} {ty : FieldType} {st : List zv} {f : zW → List zv → Prop} {g : (Nat → jcell) → List jv → Prop} (hy : ty = .int ∨ ty = .char ∨ ty = .byte ∨ ty = .boolean) (hO : zOs st) (hW : zWok W) (h : zst sh W n ty st f) (hg : ∀ W2 r, zWok W2 → zOs r → f W2 r → g (zlW sh W2) (zs r)) : jast (zlW sh W) n ty (zs st) g := by
  unfold zst at h
  split at h
  next x i a r =>
    have hx := (zOs_c hO).1
    have hi := (zOs_c (zOs_c hO).2).1
    obtain ⟨h1, h2⟩ := h
    split at h2
    next t len e =>
      obtain ⟨ht, h3, hgd, h5⟩ := h2
      obtain ⟨h4, hrx⟩ := zgd_f hgd
      rw [ht] at e
      clear ht
      show a < n ∧ (match zlW sh W a with
        | .inl (t, len, .inl g') => t = ty ∧ vp_in (lI i) len ∧ g (jup (zlW sh W) a (.inl (t, len, .inl (upd g' (lI i).toNatClampNeg (vp_nar ty (lI x)))))) (zs r)
        | _ => False)
      have eR := zc_row (W := W) e hy
      rw [eR]
      refine ⟨h1, rfl, l_vp (by rw [lI_t hi]; exact h3.1) (by rw [lI_t hi]; exact h3.2), ?_⟩
      have h6 := hg (zuR W a i x) r ⟨hW.1, fun b j => ?_⟩ (zOs_c (zOs_c (zOs_c hO).2).2).2 h5
      · have e7 : zlW sh (zuR W a i x) = jup (zlW sh W) a (.inl (ty, len, .inl (upd (fun j => lI (W.2.1 a j)) (lI i).toNatClampNeg (vp_nar ty (lI x))))) := by
          funext b
          by_cases c : b = a
          · subst c
            rw [jup_s, zc_row (W := zuR W b i x) e hy]
            congr 4
            funext j
            show lI (va_up W.2.1 b (zuI (W.2.1 b) i x) b j) = upd (fun j => lI (W.2.1 b j)) (lI i).toNatClampNeg (vp_nar ty (lI x)) j
            rw [va_up_self, zfit_n hx h4, lI_cl hi]
            unfold zuI
            by_cases c2 : j = i.toNat
            · rw [c2, upd_s, if_pos (by omega)]
            · rw [upd_o c2, if_neg (by omega)]
          · rw [jup_n c]
            unfold zlW zc
            rcases hs : sh b with _ | (⟨t', len'⟩ | ⟨c', ks⟩)
            · rfl
            · cases t' <;> first | rfl | (show Sum.inl _ = Sum.inl _; congr 4; funext j; show lI (va_up W.2.1 a (zuI (W.2.1 a) i x) b j) = lI (W.2.1 b j); rw [va_up_ne _ _ c])
            · show Sum.inr (c', zfs (zuR W a i x) b 0 ks) = Sum.inr (c', zfs W b 0 ks)
              rw [zfs_ext (W2 := W) ks 0 (fun k q hk => ?_)]
              unfold zg
              split <;> rfl
        rw [← e7]
        exact h6
      · show lRg (va_up W.2.1 a (zuI (W.2.1 a) i x) b j) ∧ zRx b (va_up W.2.1 a (zuI (W.2.1 a) i x) b j)
        by_cases c : b = a
        · rw [c, va_up_self]
          unfold zuI
          split
          · exact ⟨hx, hrx⟩
          · exact hW.2 a j
        · rw [va_up_ne _ _ c]
          exact hW.2 b j
    next => exact h2.elim
  next => exact h.elim
theorem zput_ok {sh : Nat → zS} {W : zW} {n ci k kd : Nat} {st : List zv} {f : zW → List zv → Prop} {g : (Nat → jcell) → List jv → Prop} (hO : zOs st) (hW : zWok W) (h : zput sh W n ci k kd st f) (hg : ∀ W2 r, zWok W2 → zOs r → f W2 r → g (zlW sh W2) (zs r)) : jput (zlW sh W) n ci k kd (zs st) g := by
  unfold zput at h
  have len : ∀ (a : Nat) (ks : List Nat) (i : Nat), (zfs W a i ks).length = ks.length := by
    intro a ks
    induction ks with
    | nil => intro i; rfl
    | cons q r ih => intro i; show (zfs W a (i + 1) r).length + 1 = r.length + 1; rw [ih]
  split at h
  next x a r =>
    have hx := (zOs_c hO).1
    obtain ⟨h1, h2⟩ := h
    split at h2
    next c ks e =>
      obtain ⟨hc, h3, h4, h5⟩ := h2
      show a < n ∧ (match zlW sh W a with
          | .inr (c', fs) => c' = ci ∧ k < fs.length ∧ jfit kd (.inl (lI x)) ∧ g (jup (zlW sh W) a (.inr (c', fs.set k (.inl (lI x))))) (zs r)
          | _ => False)
      rw [zc_obj e]
      refine ⟨h1, hc, by rw [len]; exact (List.getElem?_eq_some_iff.mp h3).1, ?_, ?_⟩
      · rcases h4 with rfl | ⟨rfl, rfl | rfl⟩
        · trivial
        · exact Or.inl rfl
        · exact Or.inr rfl
      · have h6 := hg (zuF W a k x) r ⟨fun b j => ?_, hW.2⟩ (zOs_c (zOs_c hO).2).2 h5
        · rw [← zlW_up (W2 := zuF W a k x) (v := .inl (lI x)) e (fun q hq => ?_) (fun k' q hk hq => ?_) (fun b hb s => zc_F hb)] at h6
          · exact h6
          · rw [h3] at hq
            obtain rfl := Option.some.inj hq
            show _ = Sum.inl (lI (va_up W.1 a (va_up (W.1 a) k x) a k))
            rw [va_up_self, va_up_self]
          · unfold zg
            split
            · show Sum.inl (W.1 a k') = Sum.inl (va_up W.1 a (va_up (W.1 a) k x) a k')
              rw [va_up_self, va_up_ne _ _ hk]
            all_goals rfl
        · show lRg (va_up W.1 a (va_up (W.1 a) k x) b j)
          by_cases hb : b = a
          · rw [hb, va_up_self]
            by_cases hj : j = k
            · rw [hj, va_up_self]; exact hx
            · rw [va_up_ne _ _ hj]; exact hW.1 a j
          · rw [va_up_ne _ _ hb]; exact hW.1 b j
    next => exact h2.elim
  next x a r =>
    obtain ⟨h1, h2⟩ := h
    split at h2
    next c ks e =>
      obtain ⟨hc, h3, rfl, h5⟩ := h2
      show a < n ∧ (match zlW sh W a with
          | .inr (c', fs) => c' = ci ∧ k < fs.length ∧ jfit 3 (.inr (.inr x)) ∧ g (jup (zlW sh W) a (.inr (c', fs.set k (.inr (.inr x))))) (zs r)
          | _ => False)
      rw [zc_obj e]
      refine ⟨h1, hc, by rw [len]; exact (List.getElem?_eq_some_iff.mp h3).1, trivial, ?_⟩
      have h6 := hg (zuQ W a k x) r hW (zOs_c (zOs_c hO).2).2 h5
      rw [← zlW_up (W2 := zuQ W a k x) (v := .inr (.inr x)) e (fun q hq => ?_) (fun k' q hk hq => ?_) (fun b hb s => zc_Q hb)] at h6
      · exact h6
      · rw [h3] at hq
        obtain rfl := Option.some.inj hq
        show _ = Sum.inr (Sum.inr (va_up W.2.2.2.1 a (va_up (W.2.2.2.1 a) k x) a k))
        rw [va_up_self, va_up_self]
      · unfold zg
        split
        · rfl
        · show Sum.inr (Sum.inr (W.2.2.2.1 a k')) = Sum.inr (Sum.inr (va_up W.2.2.2.1 a (va_up (W.2.2.2.1 a) k x) a k'))
          rw [va_up_self, va_up_ne _ _ hk]
        all_goals rfl
    next => exact h2.elim
  next x a r =>
    obtain ⟨h1, h2⟩ := h
    split at h2
    next c ks e =>
      obtain ⟨hc, h3, rfl, h5⟩ := h2
      show a < n ∧ (match zlW sh W a with
          | .inr (c', fs) => c' = ci ∧ k < fs.length ∧ jfit 2 (.inr (.inl x)) ∧ g (jup (zlW sh W) a (.inr (c', fs.set k (.inr (.inl x))))) (zs r)
          | _ => False)
      rw [zc_obj e]
      refine ⟨h1, hc, by rw [len]; exact (List.getElem?_eq_some_iff.mp h3).1, trivial, ?_⟩
      have h6 := hg (zuL W a k x) r hW (zOs_c (zOs_c hO).2).2 h5
      rw [← zlW_up (W2 := zuL W a k x) (v := .inr (.inl x)) e (fun q hq => ?_) (fun k' q hk hq => ?_) (fun b hb s => zc_L hb)] at h6
      · exact h6
      · rw [h3] at hq
        obtain rfl := Option.some.inj hq
        show _ = Sum.inr (Sum.inl (va_up W.2.2.1 a (vp_updL (W.2.2.1 a) k x) a k))
        rw [va_up_self]
        show _ = Sum.inr (Sum.inl (if k = k then x else _))
        rw [if_pos rfl]
      · unfold zg
        split
        · rfl
        · rfl
        · show Sum.inr (Sum.inl (W.2.2.1 a k')) = Sum.inr (Sum.inl (va_up W.2.2.1 a (vp_updL (W.2.2.1 a) k x) a k'))
          rw [va_up_self]
          show _ = Sum.inr (Sum.inl (if k' = k then x else _))
          rw [if_neg hk]
        · rfl
    next => exact h2.elim
  next => exact h.elim
theorem zlrd_ok {sh : Nat → zS} {W : zW} {n : Nat} {st : List zv} {f : Int64 → List zv → Prop} {g : Int64 → List jv → Prop} (hO : zOs st) (h : zlrd sh W n st f) (hg : ∀ x r, zOs r → f x r → g x (zs r)) : jlald (zlW sh W) n (zs st) g := by
  unfold zlrd at h
  split at h
  next i a r =>
    have hi := (zOs_c hO).1
    obtain ⟨h1, h2⟩ := h
    split at h2
    next len e =>
      show a < n ∧ (match zlW sh W a with
        | .inl (t, len, .inr (.inl g')) => t = .long ∧ vp_in (lI i) len ∧ g (g' (lI i).toNatClampNeg) (zs r)
        | _ => False)
      have eR : zlW sh W a = .inl (.long, len, .inr (.inl (W.2.2.1 a))) := by unfold zlW; rw [e]; rfl
      rw [eR]
      refine ⟨h1, rfl, l_vp (by rw [lI_t hi]; exact h2.1.1) (by rw [lI_t hi]; exact h2.1.2), ?_⟩
      rw [lI_cl hi]
      exact hg _ _ (zOs_c (zOs_c hO).2).2 h2.2
    next => exact h2.elim
  next => exact h.elim
theorem zlst_ok {sh : Nat → zS} {W : zW} {n : Nat} {st : List zv} {f : zW → List zv → Prop} {g : (Nat → jcell) → List jv → Prop} (hO : zOs st) (hW : zWok W) (h : zlst sh W n st f) (hg : ∀ W2 r, zWok W2 → zOs r → f W2 r → g (zlW sh W2) (zs r)) : jlast (zlW sh W) n (zs st) g := by
  unfold zlst at h
  split at h
  next x i a r =>
    have hi := (zOs_c (zOs_c hO).2).1
    obtain ⟨h1, h2⟩ := h
    split at h2
    next len e =>
      show a < n ∧ (match zlW sh W a with
        | .inl (t, len, .inr (.inl g')) => t = .long ∧ vp_in (lI i) len ∧ g (jup (zlW sh W) a (.inl (t, len, .inr (.inl (vp_updL g' (lI i).toNatClampNeg x))))) (zs r)
        | _ => False)
      have eR : ∀ W : zW, zlW sh W a = .inl (.long, len, .inr (.inl (W.2.2.1 a))) := by intro W; unfold zlW; rw [e]; rfl
      rw [eR]
      refine ⟨h1, rfl, l_vp (by rw [lI_t hi]; exact h2.1.1) (by rw [lI_t hi]; exact h2.1.2), ?_⟩
      rw [lI_cl hi]
      have h6 := hg (zuL W a i.toNat x) r hW (zOs_c (zOs_c (zOs_c hO).2).2).2 h2.2
      have e7 : zlW sh (zuL W a i.toNat x) = jup (zlW sh W) a (.inl (.long, len, .inr (.inl (vp_updL (W.2.2.1 a) i.toNat x)))) := by
        funext b
        by_cases c : b = a
        · subst c
          rw [jup_s, eR]
          show Sum.inl (FieldType.long, len, Sum.inr (Sum.inl (va_up W.2.2.1 b (vp_updL (W.2.2.1 b) i.toNat x) b))) = _
          rw [va_up_self]
        · rw [jup_n c]
          exact (zc_L c).symm
      rw [← e7]
      exact h6
    next => exact h2.elim
  next => exact h.elim
theorem zstep_ok {tb : jTb} {sh : Nat → zS} {n : Nat} {I : Instr} {ln : Nat} {py : jP} {pc : Nat} {lv : List (Option zv)} {st : List zv} {W : zW} {nx lf : zN} {nx' lf' : jN} (hL : zOl lv) (hO : zOs st) (hW : zWok W) (h : zstep tb sh n I ln py pc lv st W nx lf) (h1 : ∀ pc lv st W, zOl lv → zOs st → zWok W → nx pc lv st W → nx' pc (zl lv) (zs st) (zlW sh W)) (h2 : ∀ pc lv st W, zOl lv → zOs st → zWok W → lf pc lv st W → lf' pc (zl lv) (zs st) (zlW sh W)) : jstep tb n I ln py pc (zl lv) (zs st) (zlW sh W) nx' lf' := by
  unfold zstep at h
  split at h
  next =>
      have h9 := h1 _ _ (.inl py.2.2.2.1.toInt :: st) _ hL (zOs_m (lI_r _) hO) hW h
      rw [zs_i] at h9
      exact h9
  next =>
      have h9 := h1 _ _ (.inl py.2.2.2.1.toInt :: st) _ hL (zOs_m (lI_r _) hO) hW h
      rw [zs_i] at h9
      exact h9
  next =>
      have h9 := h1 _ _ (.inl py.2.2.2.1.toInt :: st) _ hL (zOs_m (lI_r _) hO) hW h
      rw [zs_i] at h9
      exact h9
  next =>
      have h9 := h1 _ _ (.inl py.2.2.2.1.toInt :: st) _ hL (zOs_m (lI_r _) hO) hW h
      rw [zs_i] at h9
      exact h9
  next =>
      exact h1 _ _ (.inr (.inr _) :: st) _ hL (zOs_m trivial hO) hW h
  next =>
      exact h1 _ _ (.inr (.inr _) :: st) _ hL (zOs_m trivial hO) hW h
  next =>
      refine zldi_ok hL h ?_
      intro x hx hh
      exact h1 _ _ (.inl x :: st) _ hL (zOs_m hx hO) hW hh
  next =>
      refine zldi_ok hL h ?_
      intro x hx hh
      exact h1 _ _ (.inl x :: st) _ hL (zOs_m hx hO) hW hh
  next =>
      refine zlda_ok h ?_
      intro x hh
      exact h1 _ _ (.inr (.inr x) :: st) _ hL (zOs_m trivial hO) hW hh
  next =>
      refine zlda_ok h ?_
      intro x hh
      exact h1 _ _ (.inr (.inr x) :: st) _ hL (zOs_m trivial hO) hW hh
  next =>
      refine z1_ok hO h ?_
      intro x r hx hr hh
      have h9 := h1 _ _ _ _ (zOl_set (v := .inl x) hL hx) hr hW hh
      rw [zl_set] at h9
      exact h9
  next =>
      refine z1_ok hO h ?_
      intro x r hx hr hh
      have h9 := h1 _ _ _ _ (zOl_set (v := .inl x) hL hx) hr hW hh
      rw [zl_set] at h9
      exact h9
  next =>
      refine za1_ok hO h ?_
      intro x r hr hh
      have h9 := h1 _ _ _ _ (zOl_set (v := .inr (.inr x)) hL trivial) hr hW hh
      rw [zl_set] at h9
      exact h9
  next =>
      refine za1_ok hO h ?_
      intro x r hr hh
      have h9 := h1 _ _ _ _ (zOl_set (v := .inr (.inr x)) hL trivial) hr hW hh
      rw [zl_set] at h9
      exact h9
  next =>
      refine zldi_ok hL h ?_
      intro x hx hh
      have h9 := h1 _ _ _ _ (zOl_set (v := .inl _) hL hh.1) hO hW hh.2
      rw [zl_set] at h9
      have e : lI x + py.2.2.2.1 = lI (x + py.2.2.2.1.toInt) := by rw [← lI_a hx (lI_r _) hh.1, ← lI_e rfl]
      rw [e]
      exact h9
  next =>
      refine z2_ok hO h ?_
      intro x y r hx hy hr hh
      split at hh
      · rw [lI_a hx hy hh.1]
        exact h1 _ _ (.inl _ :: r) _ hL (zOs_m hh.1 hr) hW hh.2
      · have h9 := h1 _ _ (.inl _ :: r) _ hL (zOs_m (lI_r _) hr) hW hh
        rw [zs_i] at h9
        exact h9
  next =>
      refine z2_ok hO h ?_
      intro x y r hx hy hr hh
      split at hh
      · rw [lI_s hx hy hh.1]
        exact h1 _ _ (.inl _ :: r) _ hL (zOs_m hh.1 hr) hW hh.2
      · have h9 := h1 _ _ (.inl _ :: r) _ hL (zOs_m (lI_r _) hr) hW hh
        rw [zs_i] at h9
        exact h9
  next =>
      refine z2_ok hO h ?_
      intro x y r hx hy hr hh
      split at hh
      · rw [lI_m hx hy hh.1]
        exact h1 _ _ (.inl _ :: r) _ hL (zOs_m hh.1 hr) hW hh.2
      · have h9 := h1 _ _ (.inl _ :: r) _ hL (zOs_m (lI_r _) hr) hW hh
        rw [zs_i] at h9
        exact h9
  next =>
      exact h1 _ _ (.inr (.inl _) :: st) _ hL (zOs_m trivial hO) hW h
  next =>
      exact h1 _ _ (.inr (.inl _) :: st) _ hL (zOs_m trivial hO) hW h
  next =>
      refine zldl_ok h ?_
      intro x hh
      exact h1 _ _ (.inr (.inl x) :: st) _ hL (zOs_m trivial hO) hW hh
  next =>
      refine zldl_ok h ?_
      intro x hh
      exact h1 _ _ (.inr (.inl x) :: st) _ hL (zOs_m trivial hO) hW hh
  next =>
      refine zl1_ok hO h ?_
      intro x r hr hh
      have h9 := h1 _ _ _ _ (zOl_set2 (v := .inr (.inl x)) hL trivial) hr hW hh
      rw [zl_set2] at h9
      exact h9
  next =>
      refine zl1_ok hO h ?_
      intro x r hr hh
      have h9 := h1 _ _ _ _ (zOl_set2 (v := .inr (.inl x)) hL trivial) hr hW hh
      rw [zl_set2] at h9
      exact h9
  next =>
      refine zl2_ok hO h ?_
      intro x y r hr hh
      exact h1 _ _ (.inr (.inl _) :: r) _ hL (zOs_m trivial hr) hW hh
  next =>
      refine zl2_ok hO h ?_
      intro x y r hr hh
      exact h1 _ _ (.inr (.inl _) :: r) _ hL (zOs_m trivial hr) hW hh
  next =>
      refine zl2_ok hO h ?_
      intro x y r hr hh
      exact h1 _ _ (.inr (.inl _) :: r) _ hL (zOs_m trivial hr) hW hh
  next =>
      refine zl2_ok hO h ?_
      intro x y r hr hh
      exact h1 _ _ (.inr (.inl _) :: r) _ hL (zOs_m trivial hr) hW hh
  next =>
      refine zl2_ok hO h ?_
      intro x y r hr hh
      exact h1 _ _ (.inr (.inl _) :: r) _ hL (zOs_m trivial hr) hW hh
  next =>
      refine zl2_ok hO h ?_
      intro x y r hr hh
      exact h1 _ _ (.inr (.inl _) :: r) _ hL (zOs_m trivial hr) hW hh
  next =>
      refine zl2_ok hO h ?_
      intro x y r hr hh
      exact ⟨hh.1, h1 _ _ (.inr (.inl _) :: r) _ hL (zOs_m trivial hr) hW hh.2⟩
  next =>
      refine zl2_ok hO h ?_
      intro x y r hr hh
      exact ⟨hh.1, h1 _ _ (.inr (.inl _) :: r) _ hL (zOs_m trivial hr) hW hh.2⟩
  next =>
      refine zl1_ok hO h ?_
      intro x r hr hh
      exact h1 _ _ (.inr (.inl _) :: r) _ hL (zOs_m trivial hr) hW hh
  next =>
      refine zli_ok hO h ?_
      intro x y r hr hh
      exact h1 _ _ (.inr (.inl _) :: r) _ hL (zOs_m trivial hr) hW hh
  next =>
      refine zli_ok hO h ?_
      intro x y r hr hh
      exact h1 _ _ (.inr (.inl _) :: r) _ hL (zOs_m trivial hr) hW hh
  next =>
      refine zli_ok hO h ?_
      intro x y r hr hh
      exact h1 _ _ (.inr (.inl _) :: r) _ hL (zOs_m trivial hr) hW hh
  next =>
      refine zl2_ok hO h ?_
      intro x y r hr hh
      have h9 := h1 _ _ (.inl _ :: r) _ hL (zOs_m (lI_r _) hr) hW hh
      rw [zs_i] at h9
      exact h9
  next =>
      refine z1_ok hO h ?_
      intro x r hx hr hh
      exact h1 _ _ (.inr (.inl _) :: r) _ hL (zOs_m trivial hr) hW hh
  next =>
      refine zl1_ok hO h ?_
      intro x r hr hh
      have h9 := h1 _ _ (.inl _ :: r) _ hL (zOs_m (lI_r _) hr) hW hh
      rw [zs_i] at h9
      exact h9
  next =>
      show jlald (zlW sh W) n (zs st) (fun x r => nx' (pc + ln) (zl lv) (.inr (.inl x) :: r) (zlW sh W))
      refine zlrd_ok hO h ?_
      intro x r hr hh
      exact h1 _ _ (.inr (.inl x) :: r) _ hL (zOs_m trivial hr) hW hh
  next =>
      show jlast (zlW sh W) n (zs st) (fun σ' r => nx' (pc + ln) (zl lv) r σ')
      refine zlst_ok hO hW h ?_
      intro W2 r hw hr hh
      exact h1 _ _ _ _ hL hr hw hh
  next =>
      refine z2_ok hO h ?_
      intro x y r hx hy hr hh
      have h9 := h1 _ _ (.inl _ :: r) _ hL (zOs_m (lI_r _) hr) hW hh
      rw [zs_i] at h9
      exact h9
  next =>
      refine zdupx2_ok hO h ?_
      intro v w z r hv hw hz hr hh
      exact h1 _ _ (v :: w :: z :: v :: r) _ hL (zOs_m hv (zOs_m hw (zOs_m hz (zOs_m hv hr)))) hW hh
  next =>
      refine z2_ok hO h ?_
      intro x y r hx hy hr hh
      have h9 := h1 _ _ (.inl _ :: r) _ hL (zOs_m (lI_r _) hr) hW hh
      rw [zs_i] at h9
      exact h9
  next =>
      refine z2_ok hO h ?_
      intro x y r hx hy hr hh
      have h9 := h1 _ _ (.inl _ :: r) _ hL (zOs_m (lI_r _) hr) hW hh
      rw [zs_i] at h9
      exact h9
  next =>
      refine z2_ok hO h ?_
      intro x y r hx hy hr hh
      have h9 := h1 _ _ (.inl _ :: r) _ hL (zOs_m (lI_r _) hr) hW hh
      rw [zs_i] at h9
      exact h9
  next =>
      refine z2_ok hO h ?_
      intro x y r hx hy hr hh
      have h9 := h1 _ _ (.inl _ :: r) _ hL (zOs_m (lI_r _) hr) hW hh
      rw [zs_i] at h9
      exact h9
  next =>
      refine z2_ok hO h ?_
      intro x y r hx hy hr hh
      have h9 := h1 _ _ (.inl _ :: r) _ hL (zOs_m (lI_r _) hr) hW hh
      rw [zs_i] at h9
      exact h9
  next =>
      refine z1_ok hO h ?_
      intro x r hx hr hh
      split at hh
      · rw [lI_n hx hh.1]
        exact h1 _ _ (.inl _ :: r) _ hL (zOs_m hh.1 hr) hW hh.2
      · have h9 := h1 _ _ (.inl _ :: r) _ hL (zOs_m (lI_r _) hr) hW hh
        rw [zs_i] at h9
        exact h9
  next =>
      refine z1_ok hO h ?_
      intro x r hx hr hh
      have h9 := h1 _ _ (.inl _ :: r) _ hL (zOs_m (lI_r _) hr) hW hh
      rw [zs_i] at h9
      exact h9
  next =>
      refine z1_ok hO h ?_
      intro x r hx hr hh
      have h9 := h1 _ _ (.inl _ :: r) _ hL (zOs_m (lI_r _) hr) hW hh
      rw [zs_i] at h9
      exact h9
  next =>
      refine zdup_ok hO h ?_
      intro v r hv hr hh
      exact h1 _ _ (v :: v :: r) _ hL (zOs_m hv (zOs_m hv hr)) hW hh
  next =>
      show jdup2 (zs st) (fun r => nx' (pc + ln) (zl lv) r (zlW sh W))
      refine zdup2_ok hO h ?_
      intro r hr hh
      exact h1 _ _ r _ hL hr hW hh
  next =>
      refine zdupx_ok hO h ?_
      intro v w r hv hw hr hh
      exact h1 _ _ (v :: w :: v :: r) _ hL (zOs_m hv (zOs_m hw (zOs_m hv hr))) hW hh
  next =>
      refine z2_ok hO h ?_
      intro x y r hx hy hr hh
      refine ⟨fun q => hh.1 ((lI_eq hy (show lRg 0 by unfold lRg; omega)).mp q), ?_⟩
      have h9 := h1 _ _ (.inl _ :: r) _ hL (zOs_m (lI_r _) hr) hW hh.2
      rw [zs_i] at h9
      exact h9
  next =>
      refine z2_ok hO h ?_
      intro x y r hx hy hr hh
      refine ⟨fun q => hh.1 ((lI_eq hy (show lRg 0 by unfold lRg; omega)).mp q), ?_⟩
      have h9 := h1 _ _ (.inl _ :: r) _ hL (zOs_m (lI_r _) hr) hW hh.2
      rw [zs_i] at h9
      exact h9
  next =>
      refine zdup_ok hO h ?_
      intro v r hv hr hh
      exact h1 _ _ r _ hL hr hW hh
  next =>
      refine z1_ok hO h ?_
      intro x r hx hr hh
      exact zbr_ok (y := 0) hx (by unfold lRg; omega) hh (fun q => h2 _ _ _ _ hL hr hW q) (fun q => h1 _ _ _ _ hL hr hW q)
  next =>
      refine z2_ok hO h ?_
      intro x y r hx hy hr hh
      exact zbr_ok hx hy hh (fun q => h2 _ _ _ _ hL hr hW q) (fun q => h1 _ _ _ _ hL hr hW q)
  next =>
      refine za1_ok hO h ?_
      intro x r hr hh
      exact ⟨fun q => h2 _ _ _ _ hL hr hW (hh.1 q), fun q => h1 _ _ _ _ hL hr hW (hh.2 q)⟩
  next =>
      refine za1_ok hO h ?_
      intro x r hr hh
      exact ⟨fun q => h2 _ _ _ _ hL hr hW (hh.1 q), fun q => h1 _ _ _ _ hL hr hW (hh.2 q)⟩
  next =>
      exact h2 _ _ _ _ hL hO hW h
  next =>
      show jald tb (zlW sh W) n .int (zs st) (fun x r => nx' (pc + ln) (zl lv) (.inl x :: r) (zlW sh W))
      refine zrd_ok (by decide) hO hW h ?_
      intro x r hx hr hh
      exact h1 _ _ (.inl x :: r) _ hL (zOs_m hx hr) hW hh
  next =>
      show jald tb (zlW sh W) n .char (zs st) (fun x r => nx' (pc + ln) (zl lv) (.inl x :: r) (zlW sh W))
      refine zrd_ok (by decide) hO hW h ?_
      intro x r hx hr hh
      exact h1 _ _ (.inl x :: r) _ hL (zOs_m hx hr) hW hh
  next =>
      show jald tb (zlW sh W) n (if py.1 = 0 then .byte else .boolean) (zs st) (fun x r => nx' (pc + ln) (zl lv) (.inl x :: r) (zlW sh W))
      refine zrd_ok (by split <;> decide) hO hW h ?_
      intro x r hx hr hh
      exact h1 _ _ (.inl x :: r) _ hL (zOs_m hx hr) hW hh
  next =>
      show jast (zlW sh W) n .int (zs st) (fun σ' r => nx' (pc + ln) (zl lv) r σ')
      refine zst_ok (by decide) hO hW h ?_
      intro W2 r hw hr hh
      exact h1 _ _ _ _ hL hr hw hh
  next =>
      show jast (zlW sh W) n .char (zs st) (fun σ' r => nx' (pc + ln) (zl lv) r σ')
      refine zst_ok (by decide) hO hW h ?_
      intro W2 r hw hr hh
      exact h1 _ _ _ _ hL hr hw hh
  next =>
      show jast (zlW sh W) n (if py.1 = 0 then .byte else .boolean) (zs st) (fun σ' r => nx' (pc + ln) (zl lv) r σ')
      refine zst_ok (by split <;> decide) hO hW h ?_
      intro W2 r hw hr hh
      exact h1 _ _ _ _ hL hr hw hh
  next =>
      show jalen tb (zlW sh W) n (zs st) (fun x r => nx' (pc + ln) (zl lv) (.inl x :: r) (zlW sh W))
      refine zln_ok hO h ?_
      intro x r hx hr hh
      exact h1 _ _ (.inl x :: r) _ hL (zOs_m hx hr) hW hh
  next =>
      show jget (zlW sh W) n py.1 py.2.1 (zs st) (fun v r => nx' (pc + ln) (zl lv) (v :: r) (zlW sh W))
      refine zget_ok hO hW h ?_
      intro v r hv hr hh
      exact h1 _ _ (v :: r) _ hL (zOs_m hv hr) hW hh
  next =>
      show jput (zlW sh W) n py.1 py.2.1 py.2.2.2.1.toNatClampNeg (zs st) (fun σ' r => nx' (pc + ln) (zl lv) r σ')
      refine zput_ok hO hW h ?_
      intro W2 r hw hr hh
      exact h1 _ _ _ _ hL hr hw hh
  next => exact h.elim
end
section
/-! a whole method over whole numbers -/
abbrev zPo : Type := Option zv → zW → Prop
abbrev zC : Type := jY × Bool × Nat × Nat × Room × (List zv → zW → zPo → Prop)
abbrev zM : Type := Option FieldType × Room × (List (Nat × Nat × Nat) × List aSz) × List zC × List jI
noncomputable def zSw (v : jSv) : zv := match v with
  | .inl x => .inl x.toInt
  | .inr j => .inr (.inr (some (.inr j)))
theorem zSw_j {v : jSv} : zj (zSw v) = jSw v := by
  cases v with
  | inl x =>
    show Sum.inl (lI x.toInt) = Sum.inl x
    rw [← lI_e rfl]
  | inr j => rfl
theorem zSw_ok {v : jSv} : zok (zSw v) := by
  cases v with
  | inl x => exact lI_r x
  | inr j => trivial
noncomputable def zNa (ret : Option FieldType) (v : Int) : Prop := match ret with
  | some ty => zfit ty v
  | none => False
noncomputable def zcat (v : zv) : Nat := jcat (zj v)
/-- System.arraycopy -/
noncomputable def zcL (W : zW) (b0 b1 s d c : Nat) : zW := (W.1, W.2.1, va_up W.2.2.1 b1 (va_cpy (W.2.2.1 b0) (W.2.2.1 b1) s d c), W.2.2.2)
noncomputable def zcB (W : zW) (b0 b1 : Nat) (s d c : Int) : zW := (W.1, va_up W.2.1 b1 (fun i => if d ≤ i ∧ i < d + c then W.2.1 b0 (s + (i - d)) else W.2.1 b1 i), W.2.2)
noncomputable def zcT (W : zW) (u : Nat → Int32) (b1 : Nat) (s d c : Int) : zW := (W.1, va_up W.2.1 b1 (fun i => if d ≤ i ∧ i < d + c then (u (s + (i - d)).toNat).toInt else W.2.1 b1 i), W.2.2)
noncomputable def zAc (tb : jTb) (sh : Nat → zS) (n : Nat) (st : List zv) (W : zW) (f : List zv → zW → Prop) : Prop := match st with
  | .inl c :: .inl dp :: .inr (.inr (some (.inl b1))) :: .inl sp :: .inr (.inr (some (.inl b0))) :: s => b0 < n ∧ b1 < n ∧ Nat.ble (s.map zcat).sum 8 = true ∧ (match sh b0 with
    | some (.inl (.long, n0)) => (match sh b1 with
      | some (.inl (.long, n1)) => (0 ≤ sp ∧ 0 ≤ dp ∧ 0 ≤ c ∧ sp + c ≤ n0 ∧ dp + c ≤ n1) ∧ f s (zcL W b0 b1 sp.toNat dp.toNat c.toNat)
      | _ => False)
    | some (.inl (.byte, n0)) => (match zLm b1 with
     | some _ => False
     | none => match sh b1 with
      | some (.inl (.byte, n1)) => (0 ≤ sp ∧ 0 ≤ dp ∧ 0 ≤ c ∧ sp + c ≤ n0 ∧ dp + c ≤ n1) ∧ (∀ j : Int, 0 ≤ j → j < c → -128 ≤ W.2.1 b0 (sp + j) ∧ W.2.1 b0 (sp + j) ≤ 127) ∧ f s (zcB W b0 b1 sp dp c)
      | _ => False)
    | _ => False)
  | .inl c :: .inl dp :: .inr (.inr (some (.inl b1))) :: .inl sp :: .inr (.inr (some (.inr j0))) :: s => b1 < n ∧ Nat.ble (s.map zcat).sum 8 = true ∧ (match tb j0 with
    | some (_, _, _, .byte, n0, u) => (match zLm b1 with
     | some _ => False
     | none => match sh b1 with
      | some (.inl (.byte, n1)) => (0 ≤ sp ∧ 0 ≤ dp ∧ 0 ≤ c ∧ sp + c ≤ n0 ∧ dp + c ≤ n1) ∧ (∀ j : Nat, j < c.toNat → -128 ≤ (u (sp.toNat + j)).toInt ∧ (u (sp.toNat + j)).toInt ≤ 127) ∧ f s (zcT W u b1 sp dp c)
      | _ => False)
    | _ => False)
  | _ => False
theorem zcL_ok {sh : Nat → zS} {W : zW} {b0 b1 len s d c : Nat} (e : sh b1 = some (.inl (.long, len))) : zlW sh (zcL W b0 b1 s d c) = jup (zlW sh W) b1 (.inl (.long, len, .inr (.inl (va_cpy (W.2.2.1 b0) (W.2.2.1 b1) s d c)))) := by
  funext b
  by_cases h : b = b1
  · subst h
    rw [jup_s]
    unfold zlW
    rw [e]
    show Sum.inl (FieldType.long, len, Sum.inr (Sum.inl (va_up W.2.2.1 b (va_cpy (W.2.2.1 b0) (W.2.2.1 b) s d c) b))) = _
    rw [va_up_self]
  · rw [jup_n h]
    have e9 : (zcL W b0 b1 s d c).2.2.1 b = W.2.2.1 b := va_up_ne _ _ h
    show zc (sh b) (zcL W b0 b1 s d c) b = zc (sh b) W b
    rcases sh b with _ | (⟨t, len⟩ | ⟨c', ks⟩)
    · rfl
    · cases t <;> first | rfl | (show Sum.inl (FieldType.long, len, Sum.inr (Sum.inl ((zcL W b0 b1 s d c).2.2.1 b))) = Sum.inl (FieldType.long, len, Sum.inr (Sum.inl (W.2.2.1 b))); rw [e9])
    · show Sum.inr (c', zfs (zcL W b0 b1 s d c) b 0 ks) = Sum.inr (c', zfs W b 0 ks)
      rw [zfs_ext (W := zcL W b0 b1 s d c) (W2 := W) ks 0 (fun k q hk => ?_)]
      unfold zg
      split
      · rfl
      · rfl
      · show Sum.inr (Sum.inl ((zcL W b0 b1 s d c).2.2.1 b (0 + k))) = Sum.inr (Sum.inl (W.2.2.1 b (0 + k)))
        rw [e9]
      · rfl
theorem zcB_ok {sh : Nat → zS} {W : zW} {b0 b1 len : Nat} {s d c : Int} (h0 : 0 ≤ s ∧ 0 ≤ d ∧ 0 ≤ c) (e : sh b1 = some (.inl (.byte, len))) : zlW sh (zcB W b0 b1 s d c) = jup (zlW sh W) b1 (.inl (.byte, len, .inl (va_cpy (fun j => lI (W.2.1 b0 j)) (fun j => lI (W.2.1 b1 j)) s.toNat d.toNat c.toNat))) := by
  funext b
  by_cases h : b = b1
  · subst h
    rw [jup_s]
    unfold zlW
    rw [e]
    show Sum.inl (FieldType.byte, len, Sum.inl (fun j : Nat => lI (va_up W.2.1 b (fun i => if d ≤ i ∧ i < d + c then W.2.1 b0 (s + (i - d)) else W.2.1 b i) b j))) = _
    rw [va_up_self]
    have e9 : (fun j : Nat => lI (if d ≤ (j : Int) ∧ (j : Int) < d + c then W.2.1 b0 (s + ((j : Int) - d)) else W.2.1 b j)) = va_cpy (fun j : Nat => lI (W.2.1 b0 j)) (fun j : Nat => lI (W.2.1 b j)) s.toNat d.toNat c.toNat := by
      funext j
      unfold va_cpy
      by_cases q : d ≤ (j : Int) ∧ (j : Int) < d + c
      · rw [if_pos q, if_pos (by omega), show s + ((j : Int) - d) = ((s.toNat + (j - d.toNat) : Nat) : Int) by omega]
      · rw [if_neg q, if_neg (by omega)]
    rw [e9]
  · rw [jup_n h]
    have e9 : (zcB W b0 b1 s d c).2.1 b = W.2.1 b := va_up_ne _ _ h
    show zc (sh b) (zcB W b0 b1 s d c) b = zc (sh b) W b
    rcases sh b with _ | (⟨t, len⟩ | ⟨c', ks⟩)
    · rfl
    · cases t <;> first | rfl | (show Sum.inl (_, len, Sum.inl (fun j : Nat => lI ((zcB W b0 b1 s d c).2.1 b j))) = Sum.inl (_, len, Sum.inl (fun j : Nat => lI (W.2.1 b j))); rw [e9])
    · show Sum.inr (c', zfs (zcB W b0 b1 s d c) b 0 ks) = Sum.inr (c', zfs W b 0 ks)
      rw [zfs_ext (W := zcB W b0 b1 s d c) (W2 := W) ks 0 (fun k q hk => ?_)]
      unfold zg
      split <;> rfl
theorem zcT_ok {sh : Nat → zS} {W : zW} {u : Nat → Int32} {b1 len : Nat} {s d c : Int} (h0 : 0 ≤ s ∧ 0 ≤ d ∧ 0 ≤ c) (e : sh b1 = some (.inl (.byte, len))) : zlW sh (zcT W u b1 s d c) = jup (zlW sh W) b1 (.inl (.byte, len, .inl (va_cpy u (fun j => lI (W.2.1 b1 j)) s.toNat d.toNat c.toNat))) := by
  funext b
  by_cases h : b = b1
  · subst h
    rw [jup_s]
    unfold zlW
    rw [e]
    show Sum.inl (FieldType.byte, len, Sum.inl (fun j : Nat => lI (va_up W.2.1 b (fun i => if d ≤ i ∧ i < d + c then (u (s + (i - d)).toNat).toInt else W.2.1 b i) b j))) = _
    rw [va_up_self]
    have e9 : (fun j : Nat => lI (if d ≤ (j : Int) ∧ (j : Int) < d + c then (u (s + ((j : Int) - d)).toNat).toInt else W.2.1 b j)) = va_cpy u (fun j : Nat => lI (W.2.1 b j)) s.toNat d.toNat c.toNat := by
      funext j
      unfold va_cpy
      by_cases q : d ≤ (j : Int) ∧ (j : Int) < d + c
      · rw [if_pos q, if_pos (by omega), show (s + ((j : Int) - d)).toNat = s.toNat + (j - d.toNat) by omega]
        exact (lI_e rfl).symm
      · rw [if_neg q, if_neg (by omega)]
    rw [e9]
  · rw [jup_n h]
    have e9 : (zcT W u b1 s d c).2.1 b = W.2.1 b := va_up_ne _ _ h
    show zc (sh b) (zcT W u b1 s d c) b = zc (sh b) W b
    rcases sh b with _ | (⟨t, len⟩ | ⟨c', ks⟩)
    · rfl
    · cases t <;> first | rfl | (show Sum.inl (_, len, Sum.inl (fun j : Nat => lI ((zcT W u b1 s d c).2.1 b j))) = Sum.inl (_, len, Sum.inl (fun j : Nat => lI (W.2.1 b j))); rw [e9])
    · show Sum.inr (c', zfs (zcT W u b1 s d c) b 0 ks) = Sum.inr (c', zfs W b 0 ks)
      rw [zfs_ext (W := zcT W u b1 s d c) (W2 := W) ks 0 (fun k q hk => ?_)]
      unfold zg
      split <;> rfl
noncomputable def zwp (tb : jTb) (sh : Nat → zS) (n : Nat) (m : zM) (post : zPo) : Nat → List jI → Nat → List (Option zv) → List zv → zW → Prop
  | 0, _, _, _, _, _ => False
  | _ + 1, [], _, _, _, _ => False
  | k + 1, x :: r, pc, lv, st, W => match Nat.beq x.2.2.1 999 with
    | false => (match x.1 with
      | .return_ => x.2.1 = 1 ∧ m.1 = none ∧ (match st with
        | [] => post none W
        | _ => False)
      | .ireturn => x.2.1 = 1 ∧ (match st with
        | [.inl v] => zNa m.1 v ∧ post (some (.inl v)) W
        | _ => False)
      | .lreturn => x.2.1 = 1 ∧ m.1 = some .long ∧ (match st with
        | [.inr (.inl v)] => post (some (.inr (.inl v))) W
        | _ => False)
      | .areturn => x.2.1 = 1 ∧ lOb m.1 ∧ (match st with
        | [.inr (.inr v)] => post (some (.inr (.inr v))) W
        | _ => False)
      | .tableswitch dflt lo hi offs => (match st with
        | .inl v :: s => hi - lo + 1 = (offs.toList.length : Int) ∧ offs.toList.all (fun o => decide (0 ≤ (pc : Int) + o)) = true ∧ 0 ≤ (pc : Int) + dflt ∧ lSw (fun t => zwp tb sh n m post k (lGo m.2.2.2.2 t) t lv s W) v pc ((pc : Int) + dflt).toNat (lTs lo offs.toList)
        | _ => False)
      | .lookupswitch dflt ps => (match st with
        | .inl v :: s => (ps.toList.zip (ps.toList.drop 1)).all (fun (a, next) => a.1 < next.1) = true ∧ ps.toList.all (fun o => decide (0 ≤ (pc : Int) + o.2)) = true ∧ 0 ≤ (pc : Int) + dflt ∧ ((∀ q ∈ ps.toList, ¬ v = q.1) → zwp tb sh n m post k (lGo m.2.2.2.2 ((pc : Int) + dflt).toNat) ((pc : Int) + dflt).toNat lv s W) ∧ lLk (fun t => zwp tb sh n m post k (lGo m.2.2.2.2 t) t lv s W) v pc ps.toList
        | _ => False)
      | .invokestatic i => x.2.1 = 3 ∧ (match m.2.2.2.1[x.2.2.1]? with
        | some G => G.2.1 = true ∧ jin3 i x.2.2.2.2.1 x.2.2.1 m.2.2.1.1 = true ∧ lRm m.2.1 G.2.2.2.2.1 G.1.2.2.1 = true ∧ Nat.ble G.2.2.1 st.length = true ∧ Nat.ble ((st.drop G.2.2.1).map zcat).sum 8 = true ∧ G.2.2.2.2.2 (st.take G.2.2.1).reverse W (fun v W' => zwp tb sh n m post k r (pc + 3) lv (v.toList ++ st.drop G.2.2.1) W')
        | none => False)
      | .invokevirtual i => x.2.1 = 3 ∧ (match m.2.2.2.1[x.2.2.1]? with
        | some G => G.2.1 = false ∧ jin3 i x.2.2.2.2.1 x.2.2.1 m.2.2.1.1 = true ∧ lRm m.2.1 G.2.2.2.2.1 G.1.2.2.1 = true ∧ Nat.ble G.2.2.1 st.length = true ∧ Nat.ble ((st.drop G.2.2.1).map zcat).sum 8 = true ∧ (match (st.take G.2.2.1).reverse with
          | .inr (.inr (some (.inl a))) :: vals => a < n ∧ (match sh a with
            | some (.inr (c, _)) => c = G.2.2.2.1
            | _ => False) ∧ Nat.ble 1000 G.2.2.2.1 = false ∧ G.2.2.2.2.2 (.inr (.inr (some (.inl a))) :: vals) W (fun v W' => zwp tb sh n m post k r (pc + 3) lv (v.toList ++ st.drop G.2.2.1) W')
          | .inr (.inr (some (.inr j))) :: vals => (∃ o, o ∈ js0.1 ∧ o.1 = j ∧ o.2.1 = G.1.1.cls) ∧ G.2.2.2.2.2 (.inr (.inr (some (.inr j))) :: vals) W (fun v W' => zwp tb sh n m post k r (pc + 3) lv (v.toList ++ st.drop G.2.2.1) W')
          | _ => False)
        | none => False)
      | _ => zstep tb sh n x.1 x.2.1 x.2.2 pc lv st W (fun a b c d => zwp tb sh n m post k r a b c d) (fun a b c d => zwp tb sh n m post k (lGo m.2.2.2.2 a) a b c d))
    | true => (match x.1 with
      | .ldc i => x.2.1 = 2 ∧ (match aSpf 1 i 0 m.2.2.1.2 with
        | some v => zwp tb sh n m post k r (pc + 2) lv (zSw v :: st) W
        | none => False)
      | .ldc_w i => x.2.1 = 3 ∧ (match aSpf 2 i 0 m.2.2.1.2 with
        | some v => zwp tb sh n m post k r (pc + 3) lv (zSw v :: st) W
        | none => (match aSpf 3 i 0 m.2.2.1.2 with
          | some v => zwp tb sh n m post k r (pc + 3) lv (zSw v :: st) W
          | none => False))
      | .aaload => x.2.1 = 1 ∧ (match st with
        | .inl i :: .inr (.inr (some (.inr j))) :: s => (match aSrf j with
          | some q => (0 ≤ i ∧ i < q.2.2.1) ∧ zwp tb sh n m post k r (pc + 1) lv (.inr (.inr (some (.inr (q.2.2.2 i.toNat)))) :: s) W
          | none => False)
        | _ => False)
      | .getstatic i => x.2.1 = 3 ∧ (match aSpf 4 i 0 m.2.2.1.2 with
        | some v => zwp tb sh n m post k r (pc + 3) lv (zSw v :: st) W
        | none => (match aSpf 7 i 0 m.2.2.1.2 with
          | some v => zwp tb sh n m post k r (pc + 3) lv (zSw v :: st) W
          | none => False))
      | .getfield i => x.2.1 = 3 ∧ (match st with
        | .inr (.inr (some (.inr o))) :: s => (match aSpf 5 i o m.2.2.1.2 with
          | some v => zwp tb sh n m post k r (pc + 3) lv (zSw v :: s) W
          | none => False)
        | _ => False)
      | .arraylength => x.2.1 = 1 ∧ (match st with
        | .inr (.inr (some (.inr j))) :: s => (match aSro j with
          | some q => q.2.2.1 ≤ 2147483647 ∧ zwp tb sh n m post k r (pc + 1) lv (.inl q.2.2.1 :: s) W
          | none => (match aSrf j with
            | some q => q.2.2.1 ≤ 2147483647 ∧ zwp tb sh n m post k r (pc + 1) lv (.inl q.2.2.1 :: s) W
            | none => False))
        | _ => False)
      | .baload => x.2.1 = 1 ∧ (match st with
        | .inl i :: .inr (.inr (some (.inr j))) :: s => (match aSro j with
          | some q => (0 ≤ i ∧ i < q.2.2.1) ∧ zwp tb sh n m post k r (pc + 1) lv (.inl (q.2.2.2 i.toNat).toInt :: s) W
          | none => False)
        | _ => False)
      | .invokevirtual i => x.2.1 = 3 ∧ (match m.2.2.2.1[x.2.2.2.1]? with
        | some G => G.2.1 = false ∧ jin3 i x.2.2.2.2.1 x.2.2.2.1 m.2.2.1.1 = true ∧ lRm m.2.1 G.2.2.2.2.1 G.1.2.2.1 = true ∧ Nat.ble G.2.2.1 st.length = true ∧ Nat.ble ((st.drop G.2.2.1).map zcat).sum 8 = true ∧ (match (st.take G.2.2.1).reverse with
          | .inr (.inr (some (.inl a))) :: vals => a < n ∧ (match sh a with
            | some (.inr (c, _)) => c = G.2.2.2.1
            | _ => False) ∧ Nat.ble 1000 G.2.2.2.1 = false ∧ G.2.2.2.2.2 (.inr (.inr (some (.inl a))) :: vals) W (fun v W' => zwp tb sh n m post k r (pc + 3) lv (v.toList ++ st.drop G.2.2.1) W')
          | .inr (.inr (some (.inr j))) :: vals => (∃ o, o ∈ js0.1 ∧ o.1 = j ∧ o.2.1 = G.1.1.cls) ∧ G.2.2.2.2.2 (.inr (.inr (some (.inr j))) :: vals) W (fun v W' => zwp tb sh n m post k r (pc + 3) lv (v.toList ++ st.drop G.2.2.1) W')
          | _ => False)
        | none => False)
      | .invokestatic i => x.2.1 = 3 ∧ (match aSpf 6 i 0 m.2.2.1.2 with
        | some _ => (Nat.ble 1 m.2.1.frames = true ∧ Nat.ble (8 + (nativeFrameWords "java/lang/System" "arraycopy" 5 + 11)) m.2.1.locals = true) ∧ zAc tb sh n st W (fun s W' => zwp tb sh n m post k r (pc + 3) lv s W')
        | none => (match st with
          | .inl y :: .inl x :: s => (match aSpf 8 i 0 m.2.2.1.2 with
            | some _ => (Nat.ble 1 m.2.1.frames = true ∧ Nat.ble 21 m.2.1.locals = true ∧ Nat.ble (s.map zcat).sum 8 = true) ∧ zwp tb sh n m post k r (pc + 3) lv (.inl (if x < y then y else x) :: s) W
            | none => (match aSpf 9 i 0 m.2.2.1.2 with
              | some _ => (Nat.ble 1 m.2.1.frames = true ∧ Nat.ble 21 m.2.1.locals = true ∧ Nat.ble (s.map zcat).sum 8 = true) ∧ zwp tb sh n m post k r (pc + 3) lv (.inl (if y < x then y else x) :: s) W
              | none => False))
          | _ => False))
      | _ => False)
noncomputable def zOv (v : Option zv) : Prop := ∀ x, v = some x → zok x
noncomputable def zpo (sh : Nat → zS) (n : Nat) (po : zPo) : jPo := fun v σ n' => n' = n ∧ ∃ v' W', v = Option.map zj v' ∧ zOv v' ∧ zWok W' ∧ σ = zlW sh W' ∧ po v' W'
noncomputable def zlC (sh : Nat → zS) (n : Nat) (G : zC) : lC := (G.1, G.2.1, G.2.2.1, G.2.2.2.1, G.2.2.2.2.1, fun vals σ post => ∃ vz W po, vals = zs vz ∧ zOs vz ∧ σ = zlW sh W ∧ zWok W ∧ G.2.2.2.2.2 vz W po ∧ ∀ v W', zOv v → zWok W' → po v W' → post (Option.map zj v) (zlW sh W') n)
noncomputable def zlM (sh : Nat → zS) (n : Nat) (m : zM) : lM := (m.1, m.2.1, m.2.2.1, m.2.2.2.1.map (zlC sh n), m.2.2.2.2)
theorem zNa_ok {ret : Option FieldType} {v : Int} (hv : lRg v) (h : zNa ret v) : lNa ret (lI v) := by
  unfold zNa at h
  split at h
  next ty =>
    have h2 := zfit_n hv h
    show narrow ty (.int (lI v)) = .int (lI v)
    unfold vp_nar at h2
    unfold zfit at h
    split at h
    · rfl
    · split at h2
      next y e => rw [e, h2]
      next hne => exact absurd rfl (hne _)
    · split at h2
      next y e => rw [e, h2]
      next hne => exact absurd rfl (hne _)
    · split at h2
      next y e => rw [e, h2]
      next hne => exact absurd rfl (hne _)
    · exact h.elim
  next => exact h.elim
theorem zs_take {st : List zv} {k : Nat} : ((zs st).take k).reverse = zs (st.take k).reverse := by
  unfold zs
  rw [← List.map_take, List.map_reverse]
theorem zs_drop {st : List zv} {k : Nat} : (zs st).drop k = zs (st.drop k) := by
  unfold zs
  rw [← List.map_drop]
theorem zs_len {st : List zv} : (zs st).length = st.length := List.length_map ..
theorem zs_cat {st : List zv} : (zs st).map jcat = st.map zcat := by
  unfold zs
  rw [List.map_map]
  rfl
theorem zs_app {v : Option zv} {st : List zv} : (Option.map zj v).toList ++ zs st = zs (v.toList ++ st) := by
  cases v <;> rfl
theorem zOs_app {v : Option zv} {st : List zv} (h1 : zOv v) (h2 : zOs st) : zOs (v.toList ++ st) := by
  cases v with
  | none => exact h2
  | some x => exact zOs_m (h1 x rfl) h2
theorem zOs_take {st : List zv} {k : Nat} (h : zOs st) : zOs (st.take k).reverse := fun v hv => h v (List.mem_of_mem_take (List.mem_reverse.mp hv))
theorem zOs_drop {st : List zv} {k : Nat} (h : zOs st) : zOs (st.drop k) := fun v hv => h v (List.mem_of_mem_drop hv)
theorem zwp_lwp {tb : jTb} {sh : Nat → zS} {n : Nat} {m : zM} {post : zPo} {post' : jPo} (hpo : ∀ v W, zOv v → zWok W → post v W → post' (Option.map zj v) (zlW sh W) n) : ∀ (k : Nat) (js : List jI) (pc : Nat) (lv : List (Option zv)) (st : List zv) (W : zW), zOl lv → zOs st → zWok W → zwp tb sh n m post k js pc lv st W → lwp tb n (zlM sh n m) post' k js pc (zl lv) (zs st) (zlW sh W)
  | 0, _, _, _, _, _, _, _, _, h => by unfold zwp at h; exact h.elim
  | _ + 1, [], _, _, _, _, _, _, _, h => by unfold zwp at h; exact h.elim
  | k + 1, (I, ln, py) :: r, pc, lv, st, W, hL, hO, hW, h => by
    have IH := zwp_lwp (tb := tb) (m := m) hpo k
    unfold zwp at h
    dsimp only at h
    unfold lwp
    dsimp only
    split at h
    next hq9 =>
     rw [hq9]
     dsimp only
     split at h
     next =>
       obtain ⟨rfl, h1, h2⟩ := h
       split at h2
       next => exact ⟨rfl, h1, hpo none W (fun x hx => by cases hx) hW h2⟩
       next => exact h2.elim
     next =>
       obtain ⟨rfl, h2⟩ := h
       split at h2
       next v => exact ⟨rfl, zNa_ok (zOs_c hO).1 h2.1, hpo (some (.inl v)) W (fun x hx => by obtain rfl := Option.some.inj hx; exact (zOs_c hO).1) hW h2.2⟩
       next => exact h2.elim
     next =>
       obtain ⟨rfl, h1, h2⟩ := h
       split at h2
       next v => exact ⟨rfl, h1, hpo (some (.inr (.inl v))) W (fun x hx => by obtain rfl := Option.some.inj hx; trivial) hW h2⟩
       next => exact h2.elim
     next =>
       obtain ⟨rfl, h1, h2⟩ := h
       split at h2
       next v => exact ⟨rfl, h1, hpo (some (.inr (.inr v))) W (fun x hx => by obtain rfl := Option.some.inj hx; trivial) hW h2⟩
       next => exact h2.elim
     next dflt lo hi offs =>
       split at h
       next v s =>
         obtain ⟨z1, z2, z3, z4⟩ := h
         refine ⟨z1, z2, z3, ?_⟩
         rw [lI_t (show lRg v from (zOs_c hO).1)]
         exact lSw_m (fun t ht => IH _ t lv s W hL (zOs_c hO).2 hW ht) _ z4
       next => exact h.elim
     next dflt ps =>
       split at h
       next v s =>
         obtain ⟨z1, z2, z3, z4, z5⟩ := h
         refine ⟨z1, z2, z3, ?_⟩
         rw [lI_t (show lRg v from (zOs_c hO).1)]
         exact ⟨fun q => IH _ _ lv s W hL (zOs_c hO).2 hW (z4 q), lLk_m (fun t ht => IH _ t lv s W hL (zOs_c hO).2 hW ht) _ z5⟩
       next => exact h.elim
     next i =>
       obtain ⟨rfl, h2⟩ := h
       refine ⟨rfl, ?_⟩
       split at h2
       next G hg =>
         obtain ⟨z1, z2, z3, z4, z5, z6⟩ := h2
         have e : (zlM sh n m).2.2.2.1[py.1]? = some (zlC sh n G) := by
           show (m.2.2.2.1.map (zlC sh n))[py.1]? = _
           rw [List.getElem?_map, hg]
           rfl
         rw [e]
         refine ⟨z1, z2, z3, by rw [zs_len]; exact z4, by rw [zs_drop, zs_cat]; exact z5, _, W, _, zs_take, zOs_take hO, rfl, hW, z6, fun v W' hv hW' hp => ⟨rfl, ?_⟩⟩
         have h9 := IH r (pc + 3) lv _ W' hL (zOs_app hv (zOs_drop hO)) hW' hp
         rw [← zs_app, ← zs_drop] at h9
         exact h9
       next => exact h2.elim
     next i =>
       obtain ⟨rfl, h2⟩ := h
       refine ⟨rfl, ?_⟩
       split at h2
       next G hg =>
         obtain ⟨z1, z2, z3, z4, z5, z6⟩ := h2
         have e : (zlM sh n m).2.2.2.1[py.1]? = some (zlC sh n G) := by
           show (m.2.2.2.1.map (zlC sh n))[py.1]? = _
           rw [List.getElem?_map, hg]
           rfl
         rw [e]
         refine ⟨z1, z2, z3, by rw [zs_len]; exact z4, by rw [zs_drop, zs_cat]; exact z5, ?_⟩
         have et : ((zs st).take (zlC sh n G).2.2.1).reverse = zs (st.take G.2.2.1).reverse := zs_take
         rw [et]
         have ho := zOs_take (k := G.2.2.1) hO
         split at z6
         next a vals he =>
           obtain ⟨y1, y2, y0, y3⟩ := z6
           rw [he] at ho ⊢
           split at y2
           next c fs hs =>
             refine ⟨y1, ?_, y0, _, W, _, rfl, ho, rfl, hW, y3, fun v W' hv hW' hp => ⟨rfl, ?_⟩⟩
             · show (match zlW sh W a with
                 | .inr (c, _) => c = G.2.2.2.1
                 | _ => False)
               rw [zc_obj hs]
               exact y2
             · have h9 := IH r (pc + 3) lv _ W' hL (zOs_app hv (zOs_drop hO)) hW' hp
               rw [← zs_app, ← zs_drop] at h9
               exact h9
           next => exact y2.elim
         next j vals he =>
           obtain ⟨y1, y3⟩ := z6
           rw [he] at ho ⊢
           refine ⟨y1, _, W, _, rfl, ho, rfl, hW, y3, fun v W' hv hW' hp => ⟨rfl, ?_⟩⟩
           have h9 := IH r (pc + 3) lv _ W' hL (zOs_app hv (zOs_drop hO)) hW' hp
           rw [← zs_app, ← zs_drop] at h9
           exact h9
         next => exact z6.elim
       next => exact h2.elim
     next n1 n2 n5 n6 n7 n8 n3 n4 =>
       have h2 := h
       have h3 : jstep tb n I ln py pc (zl lv) (zs st) (zlW sh W) (fun a b c d => lwp tb n (zlM sh n m) post' k r a b c d) (fun a b c d => lwp tb n (zlM sh n m) post' k (lGo (zlM sh n m).2.2.2.2 a) a b c d) := zstep_ok hL hO hW h2 (fun pc lv st W a b c d => IH r pc lv st W a b c d) (fun pc lv st W a b c d => IH _ pc lv st W a b c d)
       split
       · exact absurd rfl n1
       · exact absurd rfl n2
       · exact absurd rfl n5
       · exact absurd rfl n6
       · exact absurd rfl (n7 _ _ _ _)
       · exact absurd rfl (n8 _ _)
       · exact absurd rfl (n3 _)
       · exact absurd rfl (n4 _)
       · exact h3
    next hq9 =>
     rw [hq9]
     dsimp only
     split at h
     next i =>
       obtain ⟨rfl, h2⟩ := h
       refine ⟨rfl, ?_⟩
       split at h2
       next v hv =>
         have h9 := IH r (pc + 2) lv _ W hL (zOs_m zSw_ok hO) hW h2
         rw [show (zlM sh n m).2.2.1.2 = m.2.2.1.2 from rfl, hv]
         show lwp tb n (zlM sh n m) post' k r (pc + 2) (zl lv) (jSw v :: zs st) (zlW sh W)
         rw [← zSw_j]
         exact h9
       next => exact h2.elim
     next i =>
       obtain ⟨rfl, h2⟩ := h
       refine ⟨rfl, ?_⟩
       split at h2
       next v hv =>
         have h9 := IH r (pc + 3) lv (zSw v :: st) W hL (zOs_m zSw_ok hO) hW h2
         rw [show (zlM sh n m).2.2.1.2 = m.2.2.1.2 from rfl, hv]
         show lwp tb n (zlM sh n m) post' k r (pc + 3) (zl lv) (jSw v :: zs st) (zlW sh W)
         rw [← zSw_j]
         exact h9
       next hv =>
         split at h2
         next v hv2 =>
           have h9 := IH r (pc + 3) lv (zSw v :: st) W hL (zOs_m zSw_ok hO) hW h2
           rw [show (zlM sh n m).2.2.1.2 = m.2.2.1.2 from rfl, hv, hv2]
           show lwp tb n (zlM sh n m) post' k r (pc + 3) (zl lv) (jSw v :: zs st) (zlW sh W)
           rw [← zSw_j]
           exact h9
         next => exact h2.elim
     next =>
       obtain ⟨rfl, h2⟩ := h
       refine ⟨rfl, ?_⟩
       split at h2
       next i j s =>
         have hi := (zOs_c hO).1
         show (match aSrf j with
           | some q => vp_in (lI i) q.2.2.1 ∧ lwp tb n (zlM sh n m) post' k r (pc + 1) (zl lv) (.inr (.inr (some (.inr (q.2.2.2 (lI i).toNatClampNeg)))) :: zs s) (zlW sh W)
           | none => False)
         split at h2
         next q hq =>
           have h9 := IH r (pc + 1) lv _ W hL (zOs_m (v := .inr (.inr _)) trivial (zOs_c (zOs_c hO).2).2) hW h2.2
           refine ⟨l_vp (by rw [lI_t hi]; exact h2.1.1) (by rw [lI_t hi]; exact h2.1.2), ?_⟩
           rw [lI_cl hi]
           exact h9
         next => exact h2.elim
       next => exact h2.elim
     next i =>
       obtain ⟨rfl, h2⟩ := h
       refine ⟨rfl, ?_⟩
       split at h2
       next v hv =>
         have h9 := IH r (pc + 3) lv _ W hL (zOs_m zSw_ok hO) hW h2
         rw [show (zlM sh n m).2.2.1.2 = m.2.2.1.2 from rfl, hv]
         show lwp tb n (zlM sh n m) post' k r (pc + 3) (zl lv) (jSw v :: zs st) (zlW sh W)
         rw [← zSw_j]
         exact h9
       next hv =>
         split at h2
         next v hv2 =>
           have h9 := IH r (pc + 3) lv _ W hL (zOs_m zSw_ok hO) hW h2
           rw [show (zlM sh n m).2.2.1.2 = m.2.2.1.2 from rfl, hv, hv2]
           show lwp tb n (zlM sh n m) post' k r (pc + 3) (zl lv) (jSw v :: zs st) (zlW sh W)
           rw [← zSw_j]
           exact h9
         next => exact h2.elim
     next i =>
       obtain ⟨rfl, h2⟩ := h
       refine ⟨rfl, ?_⟩
       split at h2
       next o s =>
         show (match aSpf 5 i o (zlM sh n m).2.2.1.2 with
           | some v => lwp tb n (zlM sh n m) post' k r (pc + 3) (zl lv) (jSw v :: zs s) (zlW sh W)
           | none => False)
         split at h2
         next v hv =>
           have h9 := IH r (pc + 3) lv _ W hL (zOs_m zSw_ok (zOs_c hO).2) hW h2
           rw [show (zlM sh n m).2.2.1.2 = m.2.2.1.2 from rfl, hv]
           show lwp tb n (zlM sh n m) post' k r (pc + 3) (zl lv) (jSw v :: zs s) (zlW sh W)
           rw [← zSw_j]
           exact h9
         next => exact h2.elim
       next => exact h2.elim
     next =>
       obtain ⟨rfl, h2⟩ := h
       refine ⟨rfl, ?_⟩
       split at h2
       next j s =>
         show (match aSro j with
           | some q => lwp tb n (zlM sh n m) post' k r (pc + 1) (zl lv) (.inl (Int32.ofNat q.2.2.1) :: zs s) (zlW sh W)
           | none => (match aSrf j with
             | some q => lwp tb n (zlM sh n m) post' k r (pc + 1) (zl lv) (.inl (Int32.ofNat q.2.2.1) :: zs s) (zlW sh W)
             | none => False))
         split at h2
         next q hq =>
           have h9 := IH r (pc + 1) lv _ W hL (zOs_m (v := .inl q.2.2.1) (show lRg q.2.2.1 by unfold lRg; omega) (zOs_c hO).2) hW h2.2
           exact h9
         next hq =>
           split at h2
           next q hq2 =>
             have h9 := IH r (pc + 1) lv _ W hL (zOs_m (v := .inl q.2.2.1) (show lRg q.2.2.1 by unfold lRg; omega) (zOs_c hO).2) hW h2.2
             exact h9
           next => exact h2.elim
       next => exact h2.elim
     next =>
       obtain ⟨rfl, h2⟩ := h
       refine ⟨rfl, ?_⟩
       split at h2
       next i j s =>
         have hi := (zOs_c hO).1
         show (match aSro j with
           | some q => vp_in (lI i) q.2.2.1 ∧ lwp tb n (zlM sh n m) post' k r (pc + 1) (zl lv) (.inl (q.2.2.2 (lI i).toNatClampNeg) :: zs s) (zlW sh W)
           | none => False)
         split at h2
         next q hq =>
           have h9 := IH r (pc + 1) lv _ W hL (zOs_m (v := .inl (q.2.2.2 i.toNat).toInt) (lI_r _) (zOs_c (zOs_c hO).2).2) hW h2.2
           rw [zs_i] at h9
           refine ⟨l_vp (by rw [lI_t hi]; exact h2.1.1) (by rw [lI_t hi]; exact h2.1.2), ?_⟩
           rw [lI_cl hi]
           exact h9
         next => exact h2.elim
       next => exact h2.elim
     next i =>
       obtain ⟨rfl, h2⟩ := h
       refine ⟨rfl, ?_⟩
       split at h2
       next G hg =>
         obtain ⟨z1, z2, z3, z4, z5, z6⟩ := h2
         have e : (zlM sh n m).2.2.2.1[py.2.1]? = some (zlC sh n G) := by
           show (m.2.2.2.1.map (zlC sh n))[py.2.1]? = _
           rw [List.getElem?_map, hg]
           rfl
         rw [e]
         refine ⟨z1, z2, z3, by rw [zs_len]; exact z4, by rw [zs_drop, zs_cat]; exact z5, ?_⟩
         have et : ((zs st).take (zlC sh n G).2.2.1).reverse = zs (st.take G.2.2.1).reverse := zs_take
         rw [et]
         have ho := zOs_take (k := G.2.2.1) hO
         split at z6
         next a vals he =>
           obtain ⟨y1, y2, y0, y3⟩ := z6
           rw [he] at ho ⊢
           split at y2
           next c fs hs =>
             refine ⟨y1, ?_, y0, _, W, _, rfl, ho, rfl, hW, y3, fun v W' hv hW' hp => ⟨rfl, ?_⟩⟩
             · show (match zlW sh W a with
                 | .inr (c, _) => c = G.2.2.2.1
                 | _ => False)
               rw [zc_obj hs]
               exact y2
             · have h9 := IH r (pc + 3) lv _ W' hL (zOs_app hv (zOs_drop hO)) hW' hp
               rw [← zs_app, ← zs_drop] at h9
               exact h9
           next => exact y2.elim
         next j vals he =>
           obtain ⟨y1, y3⟩ := z6
           rw [he] at ho ⊢
           refine ⟨y1, _, W, _, rfl, ho, rfl, hW, y3, fun v W' hv hW' hp => ⟨rfl, ?_⟩⟩
           have h9 := IH r (pc + 3) lv _ W' hL (zOs_app hv (zOs_drop hO)) hW' hp
           rw [← zs_app, ← zs_drop] at h9
           exact h9
         next => exact z6.elim
       next => exact h2.elim
     next i =>
       obtain ⟨rfl, h2⟩ := h
       refine ⟨rfl, ?_⟩
       split at h2
       next v hv =>
         rw [show (zlM sh n m).2.2.1.2 = m.2.2.1.2 from rfl, hv]
         obtain ⟨hr, h3⟩ := h2
         refine ⟨hr, ?_⟩
         unfold zAc at h3
         split at h3
         next c dp b1 sp b0 s =>
           have hc := (zOs_c hO).1
           have hdp := (zOs_c (zOs_c hO).2).1
           have hsp := (zOs_c (zOs_c (zOs_c (zOs_c hO).2).2).2).1
           have hs := (zOs_c (zOs_c (zOs_c (zOs_c (zOs_c hO).2).2).2).2).2
           obtain ⟨y1, y2, y3, y7⟩ := h3
           have hneg : ∀ {z : Int}, lRg z → 0 ≤ z → ¬ lI z < 0 := fun {z} q q0 q1 => by
             have := Int32.lt_iff_toInt_lt.mp q1
             rw [lI_t q] at this
             have e0 : (0 : Int32).toInt = 0 := by decide
             omega
           show b0 < n ∧ b1 < n ∧ Nat.ble ((zs s).map jcat).sum 8 = true ∧ (¬ lI sp < 0 ∧ ¬ lI dp < 0 ∧ ¬ lI c < 0) ∧ _
           split at y7
           next n0 e0 =>
             split at y7
             next n1 e1 =>
               obtain ⟨⟨w1, w2, w3, w4, w5⟩, w6⟩ := y7
               refine ⟨y1, y2, by rw [zs_cat]; exact y3, ⟨hneg hsp w1, hneg hdp w2, hneg hc w3⟩, ?_⟩
               have eR : zlW sh W b0 = .inl (.long, n0, .inr (.inl (W.2.2.1 b0))) := by unfold zlW; rw [e0]; rfl
               have eR1 : zlW sh W b1 = .inl (.long, n1, .inr (.inl (W.2.2.1 b1))) := by unfold zlW; rw [e1]; rfl
               rw [eR, eR1]
               refine ⟨by rw [lI_cl hsp, lI_cl hc]; omega, by rw [lI_cl hdp, lI_cl hc]; omega, ?_⟩
               have h9 := IH r (pc + 3) lv _ _ hL hs (show zWok (zcL W b0 b1 sp.toNat dp.toNat c.toNat) from hW) w6
               rw [lI_cl hsp, lI_cl hdp, lI_cl hc, ← zcL_ok e1]
               exact h9
             next => exact y7.elim
           next n0 e0 =>
            split at y7
            next => exact y7.elim
            next hz1 =>
             split at y7
             next n1 e1 =>
               obtain ⟨⟨w1, w2, w3, w4, w5⟩, w7, w6⟩ := y7
               refine ⟨y1, y2, by rw [zs_cat]; exact y3, ⟨hneg hsp w1, hneg hdp w2, hneg hc w3⟩, ?_⟩
               have eR : zlW sh W b0 = .inl (.byte, n0, .inl (fun j => lI (W.2.1 b0 j))) := by unfold zlW; rw [e0]; rfl
               have eR1 : zlW sh W b1 = .inl (.byte, n1, .inl (fun j => lI (W.2.1 b1 j))) := by unfold zlW; rw [e1]; rfl
               rw [eR, eR1]
               refine ⟨by rw [lI_cl hsp, lI_cl hc]; omega, by rw [lI_cl hdp, lI_cl hc]; omega, ?_, ?_⟩
               · intro j hj
                 rw [lI_cl hc] at hj
                 rw [lI_cl hsp]
                 have := w7 j (by omega) (by omega)
                 rw [show sp + (j : Int) = ((sp.toNat + j : Nat) : Int) by omega] at this
                 rw [lI_t (hW.2 b0 _).1]
                 exact this
               · have h9 := IH r (pc + 3) lv _ _ hL hs (show zWok (zcB W b0 b1 sp dp c) from ⟨hW.1, fun a i => by
                   show lRg (va_up W.2.1 b1 _ a i) ∧ zRx a (va_up W.2.1 b1 _ a i)
                   by_cases q : a = b1
                   · subst q
                     rw [va_up_self]
                     split
                     · exact ⟨(hW.2 _ _).1, zRx_n hz1⟩
                     · exact ⟨(hW.2 _ _).1, zRx_n hz1⟩
                   · rw [va_up_ne _ _ q]; exact hW.2 _ _⟩) w6
                 rw [lI_cl hsp, lI_cl hdp, lI_cl hc, ← zcB_ok ⟨w1, w2, w3⟩ e1]
                 exact h9
             next => exact y7.elim
           next => exact y7.elim
         next c dp b1 sp j0 s =>
           have hc := (zOs_c hO).1
           have hdp := (zOs_c (zOs_c hO).2).1
           have hsp := (zOs_c (zOs_c (zOs_c (zOs_c hO).2).2).2).1
           have hs := (zOs_c (zOs_c (zOs_c (zOs_c (zOs_c hO).2).2).2).2).2
           obtain ⟨y2, y3, y7⟩ := h3
           have hneg : ∀ {z : Int}, lRg z → 0 ≤ z → ¬ lI z < 0 := fun {z} q q0 q1 => by
             have := Int32.lt_iff_toInt_lt.mp q1
             rw [lI_t q] at this
             have e0 : (0 : Int32).toInt = 0 := by decide
             omega
           show b1 < n ∧ Nat.ble ((zs s).map jcat).sum 8 = true ∧ (¬ lI sp < 0 ∧ ¬ lI dp < 0 ∧ ¬ lI c < 0) ∧ _
           split at y7
           next n0 u e0 =>
            split at y7
            next => exact y7.elim
            next hz1 =>
             split at y7
             next n1 e1 =>
               obtain ⟨⟨w1, w2, w3, w4, w5⟩, w7, w6⟩ := y7
               refine ⟨y2, by rw [zs_cat]; exact y3, ⟨hneg hsp w1, hneg hdp w2, hneg hc w3⟩, ?_⟩
               have eR1 : zlW sh W b1 = .inl (.byte, n1, .inl (fun j => lI (W.2.1 b1 j))) := by unfold zlW; rw [e1]; rfl
               rw [e0, eR1]
               refine ⟨by rw [lI_cl hsp, lI_cl hc]; omega, by rw [lI_cl hdp, lI_cl hc]; omega, ?_, ?_⟩
               · intro j hj
                 rw [lI_cl hc] at hj
                 rw [lI_cl hsp]
                 exact w7 j hj
               · have h9 := IH r (pc + 3) lv _ _ hL hs (show zWok (zcT W u b1 sp dp c) from ⟨hW.1, fun a i => by
                   show lRg (va_up W.2.1 b1 _ a i) ∧ zRx a (va_up W.2.1 b1 _ a i)
                   by_cases q : a = b1
                   · subst q
                     rw [va_up_self]
                     split
                     · exact ⟨lI_r _, zRx_n hz1⟩
                     · exact ⟨(hW.2 _ _).1, zRx_n hz1⟩
                   · rw [va_up_ne _ _ q]; exact hW.2 _ _⟩) w6
                 rw [lI_cl hsp, lI_cl hdp, lI_cl hc, ← zcT_ok ⟨w1, w2, w3⟩ e1]
                 exact h9
             next => exact y7.elim
           next => exact y7.elim
         next => exact h3.elim
       next hv6 =>
         split at h2
         next y x s =>
           have hy := (zOs_c hO).1
           have hx := (zOs_c (zOs_c hO).2).1
           have hs := (zOs_c (zOs_c hO).2).2
           split at h2
           next v hv =>
             obtain ⟨⟨r1, r2, r3⟩, h3⟩ := h2
             have h9 := IH r (pc + 3) lv _ W hL (zOs_m (v := .inl _) (by show lRg _; split; exact hy; exact hx) hs) hW h3
             rw [show (zlM sh n m).2.2.1.2 = m.2.2.1.2 from rfl, hv6]
             show (match aSpf 8 i 0 m.2.2.1.2 with
               | some _ => (Nat.ble 1 m.2.1.frames = true ∧ Nat.ble 21 m.2.1.locals = true ∧ Nat.ble ((zs s).map jcat).sum 8 = true) ∧ lwp tb n (zlM sh n m) post' k r (pc + 3) (zl lv) (.inl (if lI x < lI y then lI y else lI x) :: zs s) (zlW sh W)
               | none => (match aSpf 9 i 0 m.2.2.1.2 with
                 | some _ => (Nat.ble 1 m.2.1.frames = true ∧ Nat.ble 21 m.2.1.locals = true ∧ Nat.ble ((zs s).map jcat).sum 8 = true) ∧ lwp tb n (zlM sh n m) post' k r (pc + 3) (zl lv) (.inl (if lI y < lI x then lI y else lI x) :: zs s) (zlW sh W)
                 | none => False))
             rw [hv]
             refine ⟨⟨r1, r2, by rw [zs_cat]; exact r3⟩, ?_⟩
             have e9 : (if lI x < lI y then lI y else lI x) = lI (if x < y then y else x) := by
               by_cases c : x < y
               · rw [if_pos c, if_pos (Int32.lt_iff_toInt_lt.mpr (by rw [lI_t hx, lI_t hy]; exact c))]
               · rw [if_neg c, if_neg (fun z => c (by have := Int32.lt_iff_toInt_lt.mp z; rw [lI_t hx, lI_t hy] at this; exact this))]
             rw [e9]
             exact h9
           next hv8 =>
             split at h2
             next v hv =>
               obtain ⟨⟨r1, r2, r3⟩, h3⟩ := h2
               have h9 := IH r (pc + 3) lv _ W hL (zOs_m (v := .inl _) (by show lRg _; split; exact hy; exact hx) hs) hW h3
               rw [show (zlM sh n m).2.2.1.2 = m.2.2.1.2 from rfl, hv6]
               show (match aSpf 8 i 0 m.2.2.1.2 with
                 | some _ => (Nat.ble 1 m.2.1.frames = true ∧ Nat.ble 21 m.2.1.locals = true ∧ Nat.ble ((zs s).map jcat).sum 8 = true) ∧ lwp tb n (zlM sh n m) post' k r (pc + 3) (zl lv) (.inl (if lI x < lI y then lI y else lI x) :: zs s) (zlW sh W)
                 | none => (match aSpf 9 i 0 m.2.2.1.2 with
                   | some _ => (Nat.ble 1 m.2.1.frames = true ∧ Nat.ble 21 m.2.1.locals = true ∧ Nat.ble ((zs s).map jcat).sum 8 = true) ∧ lwp tb n (zlM sh n m) post' k r (pc + 3) (zl lv) (.inl (if lI y < lI x then lI y else lI x) :: zs s) (zlW sh W)
                   | none => False))
               rw [hv8, hv]
               refine ⟨⟨r1, r2, by rw [zs_cat]; exact r3⟩, ?_⟩
               have e9 : (if lI y < lI x then lI y else lI x) = lI (if y < x then y else x) := by
                 by_cases c : y < x
                 · rw [if_pos c, if_pos (Int32.lt_iff_toInt_lt.mpr (by rw [lI_t hx, lI_t hy]; exact c))]
                 · rw [if_neg c, if_neg (fun z => c (by have := Int32.lt_iff_toInt_lt.mp z; rw [lI_t hx, lI_t hy] at this; exact this))]
               rw [e9]
               exact h9
             next => exact h2.elim
         next => exact h2.elim
     next => exact h.elim
noncomputable def zar : List zv → List (Option zv)
  | [] => []
  | v :: r => if zcat v = 2 then some v :: none :: zar r else some v :: zar r
noncomputable def zent (vals : List zv) (nL : Nat) : List (Option zv) := zar vals ++ List.replicate (nL - (zar vals).length) none
theorem zl_ar : ∀ vals : List zv, zl (zar vals) = jar (zs vals)
  | [] => rfl
  | v :: r => by
    have ih := zl_ar r
    show zl (if zcat v = 2 then some v :: none :: zar r else some v :: zar r) = (if jcat (zj v) = 2 then some (zj v) :: none :: jar (zs r) else some (zj v) :: jar (zs r))
    by_cases c : zcat v = 2
    · rw [if_pos c, if_pos (show jcat (zj v) = 2 from c), ← ih]
      rfl
    · rw [if_neg c, if_neg (show ¬ jcat (zj v) = 2 from c), ← ih]
      rfl
theorem zl_ent {vals : List zv} {nL : Nat} : zl (zent vals nL) = jent (zs vals) nL := by
  unfold zent jent
  have e : zl (zar vals ++ List.replicate (nL - (zar vals).length) none) = zl (zar vals) ++ zl (List.replicate (nL - (zar vals).length) none) := by unfold zl; exact List.map_append
  rw [e, ← zl_ar]
  have e2 : zl (List.replicate (nL - (zar vals).length) none) = List.replicate (nL - (zl (zar vals)).length) none := by
    have : (zl (zar vals)).length = (zar vals).length := List.length_map ..
    rw [this]
    unfold zl
    rw [List.map_replicate]
    rfl
  rw [e2]
theorem zOl_ent {vals : List zv} {nL : Nat} (h : zOs vals) : zOl (zent vals nL) := by
  have har : ∀ vals : List zv, zOs vals → ∀ v, some v ∈ zar vals → zok v := by
    intro vals
    induction vals with
    | nil => intro _ v hv; cases hv
    | cons w r ih =>
      intro h v hv
      unfold zar at hv
      split at hv
      · rcases List.mem_cons.mp hv with e | hv
        · obtain rfl := Option.some.inj e
          exact (zOs_c h).1
        · rcases List.mem_cons.mp hv with e | hv
          · cases e
          · exact ih (zOs_c h).2 v hv
      · rcases List.mem_cons.mp hv with e | hv
        · obtain rfl := Option.some.inj e
          exact (zOs_c h).1
        · exact ih (zOs_c h).2 v hv
  intro i v hv
  have hm := List.mem_of_getElem? hv
  unfold zent at hm
  rcases List.mem_append.mp hm with hm | hm
  · exact har vals h v hm
  · have := List.eq_of_mem_replicate hm
    cases this
section ZMT
variable {l : Launch} {E : jE} {own : String} {Ts : List Jvm.Cond} {cl : List vw_C} {tb : jTb} {nL : Nat} {cc : ByteArray} {n : Nat} {sh : Nat → zS}
/-- a method that keeps what its table says of it -/
noncomputable def zHas (l : Launch) (E : jE) (cl : List vw_C) (tb : jTb) (Ts : List Jvm.Cond) (sh : Nat → zS) (n : Nat) (G : zC) : Prop := lGd Ts cl (zlC sh n G) ∧ ∀ (vz : List zv) (W : zW) (po : zPo), zOs vz → zWok W → G.2.2.2.2.2 vz W po → jMet l E cl tb Ts G.1 G.2.2.2.2.1 (zs vz) (zlW sh W) n (zpo sh n po)
theorem zmet7 {m : zM} {post : zPo} {Y : jY} {nm ds : String} {g : Nat → Option Jvm.Cond} {L : jLk} {vz : List zv} {W : zW} (hY : Y = (⟨own, nm, ds⟩, cc, nL, m.1)) (hy : plainName own = true) (hgg : ∀ i w, g i = some w → Ts[i]? = some w) (hL : jLkOk own Ts cl tb L) (hok : jokLG g L own cl tb nL cc 0 m.2.2.2.2 = true) (hC : jCl Ts cl) (hsp : ∀ q ∈ m.2.2.1.2, aSpQ own Ts q) (hlk : ∀ q ∈ m.2.2.1.1, ∀ G, m.2.2.2.1[q.2.2]? = some G → jlm Ts q.2.1 own q.1 G.1.1 = true) (hG : ∀ G ∈ m.2.2.2.1, zHas l E cl tb Ts sh n G) (hlen : (lg_sl ((zs vz).map (jc E))).length ≤ nL) (hO : zOs vz) (hW : zWok W) (k : Nat) (h : zwp tb sh n m post k m.2.2.2.2 0 (zent vz nL) [] W) : jMet l E cl tb Ts Y m.2.1 (zs vz) (zlW sh W) n (zpo sh n post) := by
  refine lwp_met (m := zlM sh n m) hY hy hgg hL hok hC hsp (fun q hq G hg => ?_) (fun G hg => ?_) hlen k ?_
  · have e : (zlM sh n m).2.2.2.1[q.2.2]? = (m.2.2.2.1[q.2.2]?).map (zlC sh n) := List.getElem?_map
    rw [e] at hg
    cases e2 : m.2.2.2.1[q.2.2]? with
    | none => rw [e2] at hg; cases hg
    | some G' =>
      rw [e2] at hg
      obtain rfl := Option.some.inj hg
      exact hlk q hq G' e2
  · obtain ⟨G', h1, rfl⟩ := List.mem_map.mp hg
    refine ⟨(hG G' h1).1, ?_⟩
    rintro vals σ po ⟨vz, W, po', rfl, h2, rfl, h3, h4, h5⟩
    refine jMet_post ((hG G' h1).2 vz W po' h2 h3 h4) ?_
    rintro r σ' n' ⟨rfl, v', W', rfl, h6, h7, rfl, h8⟩
    exact h5 v' W' h6 h7 h8
  · have h2 := zwp_lwp (post' := zpo sh n post) (fun v W hv hW hp => ⟨rfl, v, W, rfl, hv, hW, rfl, hp⟩) k _ 0 (zent vz nL) [] W (zOl_ent hO) (fun v hv => by cases hv) hW h
    rw [zl_ent] at h2
    exact h2
theorem zmet {m : zM} {post : zPo} {Y : jY} {nm ds : String} {g : Nat → Option Jvm.Cond} {L : jLk} {vz : List zv} {W : zW} (hY : Y = (⟨own, nm, ds⟩, cc, nL, m.1)) (hy : plainName own = true) (hgg : ∀ i w, g i = some w → Ts[i]? = some w) (hL : jLkOk own Ts cl tb L) (hok : jokLG g L own cl tb nL cc 0 m.2.2.2.2 = true) (hC : jCl Ts cl) (hsp : ∀ q ∈ m.2.2.1.2, aSpP own Ts q) (hlk : ∀ q ∈ m.2.2.1.1, ∀ G, m.2.2.2.1[q.2.2]? = some G → jlm Ts q.2.1 own q.1 G.1.1 = true) (hG : ∀ G ∈ m.2.2.2.1, zHas l E cl tb Ts sh n G) (hlen : (lg_sl ((zs vz).map (jc E))).length ≤ nL) (hO : zOs vz) (hW : zWok W) (k : Nat) (h : zwp tb sh n m post k m.2.2.2.2 0 (zent vz nL) [] W) (h7 : m.2.2.1.2.all (fun q => Nat.ble q.1 6) = true := by rfl) : jMet l E cl tb Ts Y m.2.1 (zs vz) (zlW sh W) n (zpo sh n post) :=
  zmet7 hY hy hgg hL hok hC (fun q hq => ⟨hsp q hq, fun e => absurd (List.all_eq_true.mp h7 q hq) (by rw [e]; decide), fun e => absurd (List.all_eq_true.mp h7 q hq) (by rw [e]; decide), fun e => absurd (List.all_eq_true.mp h7 q hq) (by rw [e]; decide)⟩) hlk hG hlen hO hW k h
end ZMT
end
section
/-! the shapes of all places -/
noncomputable def zsh (a : Nat) : zS := if a < 141 then (if a < 70 then (if a < 35 then (if a < 17 then (if a < 8 then (if a < 4 then (if a < 2 then (if a < 1 then (some (.inr (0, [4, 5, 7, 9, 12, 18, 24, 28, 32, 35, 1, 1, 0, 0, 0]))) else (some (.inl (.byte, 65537)))) else (if a < 3 then (some (.inr (1, [6, 0]))) else (some (.inl (.byte, 65536))))) else (if a < 6 then (if a < 5 then (some (.inr (2, [8, 0, 0, 1, 0]))) else (some (.inl (.int, 8)))) else (if a < 7 then (some (.inr (3, [10, 11, 0, 0, 0, 0, 0, 0, 0, 0, 0]))) else (some (.inl (.int, 3456)))))) else (if a < 12 then (if a < 10 then (if a < 9 then (some (.inl (.int, 7))) else (some (.inr (4, [0, 13, 16, 17, 1, 1, 0, 0, 0, 0, 0, 0])))) else (if a < 11 then (some (.inr (3, [14, 15, 0, 0, 0, 0, 0, 0, 0, 0, 0]))) else (some (.inl (.int, 3456))))) else (if a < 14 then (if a < 13 then (some (.inl (.int, 7))) else (some (.inl (.int, 6)))) else (if a < 15 then (some (.inl (.byte, 96))) else (if a < 16 then (some (.inr (5, [19, 21, 1]))) else (some (.inr (1, [20, 0])))))))) else (if a < 26 then (if a < 21 then (if a < 19 then (if a < 18 then (some (.inl (.byte, 131072))) else (some (.inr (3, [22, 23, 0, 0, 0, 0, 0, 0, 0, 0, 0])))) else (if a < 20 then (some (.inl (.int, 3456))) else (some (.inl (.int, 7))))) else (if a < 23 then (if a < 22 then (some (.inr (6, [0, 25, 26, 27, 0, 1, 0]))) else (some (.inl (.int, 20736)))) else (if a < 24 then (some (.inl (.int, 8))) else (if a < 25 then (some (.inl (.long, 8))) else (some (.inr (7, [0, 0, 0, 0, 29, 30, 31, 1, 0, 0]))))))) else (if a < 30 then (if a < 28 then (if a < 27 then (some (.inl (.int, 4))) else (some (.inl (.long, 4)))) else (if a < 29 then (some (.inl (.int, 13824))) else (some (.inr (8, [0, 0, 33, 1, 1, 1, 1, 1, 0, 0]))))) else (if a < 32 then (if a < 31 then (some (.inl (.int, 1728))) else (some (.inl (.int, 0)))) else (if a < 33 then (some (.inl (.int, 1728))) else (if a < 34 then (some (.inr (9, [37, 0, 0, 49, 50, 51, 52, 53, 54, 55, 56, 57, 58, 0, 59, 60, 61, 62, 0]))) else (some (.inr (10, [38, 39, 0, 0, 0, 0, 0, 40, 41, 42, 43, 44, 45, 46, 47, 48, 0]))))))))) else (if a < 52 then (if a < 43 then (if a < 39 then (if a < 37 then (if a < 36 then (some (.inl (.int, 64))) else (some (.inl (.int, 2)))) else (if a < 38 then (some (.inl (.long, 4))) else (some (.inl (.int, 2))))) else (if a < 41 then (if a < 40 then (some (.inl (.int, 16))) else (some (.inl (.int, 2)))) else (if a < 42 then (some (.inl (.int, 1024))) else (some (.inl (.int, 512)))))) else (if a < 47 then (if a < 45 then (if a < 44 then (some (.inl (.int, 512))) else (some (.inl (.long, 1280)))) else (if a < 46 then (some (.inl (.int, 320))) else (some (.inl (.int, 301))))) else (if a < 49 then (if a < 48 then (some (.inl (.int, 301))) else (some (.inl (.int, 301)))) else (if a < 50 then (some (.inl (.int, 301))) else (if a < 51 then (some (.inl (.long, 301))) else (some (.inl (.int, 1204)))))))) else (if a < 61 then (if a < 56 then (if a < 54 then (if a < 53 then (some (.inl (.int, 301))) else (some (.inl (.byte, 60200)))) else (if a < 55 then (some (.inl (.int, 301))) else (some (.inl (.int, 301))))) else (if a < 58 then (if a < 57 then (some (.inl (.byte, 96))) else (some (.inl (.int, 8)))) else (if a < 59 then (some (.inl (.byte, 768))) else (if a < 60 then (some (.inl (.int, 8))) else (some (.inr (9, [64, 0, 0, 76, 77, 78, 79, 80, 81, 82, 83, 84, 85, 0, 86, 87, 88, 89, 0]))))))) else (if a < 65 then (if a < 63 then (if a < 62 then (some (.inr (10, [65, 66, 0, 0, 0, 0, 0, 67, 68, 69, 70, 71, 72, 73, 74, 75, 0]))) else (some (.inl (.int, 64)))) else (if a < 64 then (some (.inl (.int, 2))) else (some (.inl (.long, 4))))) else (if a < 67 then (if a < 66 then (some (.inl (.int, 2))) else (some (.inl (.int, 16)))) else (if a < 68 then (some (.inl (.int, 2))) else (if a < 69 then (some (.inl (.int, 1024))) else (some (.inl (.int, 512)))))))))) else (if a < 105 then (if a < 87 then (if a < 78 then (if a < 74 then (if a < 72 then (if a < 71 then (some (.inl (.int, 512))) else (some (.inl (.long, 1280)))) else (if a < 73 then (some (.inl (.int, 320))) else (some (.inl (.int, 301))))) else (if a < 76 then (if a < 75 then (some (.inl (.int, 301))) else (some (.inl (.int, 301)))) else (if a < 77 then (some (.inl (.int, 301))) else (some (.inl (.long, 301)))))) else (if a < 82 then (if a < 80 then (if a < 79 then (some (.inl (.int, 1204))) else (some (.inl (.int, 301)))) else (if a < 81 then (some (.inl (.byte, 60200))) else (some (.inl (.int, 301))))) else (if a < 84 then (if a < 83 then (some (.inl (.int, 301))) else (some (.inl (.byte, 96)))) else (if a < 85 then (some (.inl (.int, 8))) else (if a < 86 then (some (.inl (.byte, 768))) else (some (.inl (.int, 8)))))))) else (if a < 96 then (if a < 91 then (if a < 89 then (if a < 88 then (some (.inr (11, [0, 0, 91, 0, 92, 93, 119, 1, 0, 0, 0, 0, 0, 0, 140, 141, 0, 142, 143]))) else (some (.inl (.byte, 65536)))) else (if a < 90 then (some (.inl (.byte, 65536))) else (some (.inr (12, [0, 0, 94, 0, 95, 0, 0, 96, 97, 98, 99, 100, 101, 102, 103, 104, 105, 106, 107, 108, 109, 110, 111, 112, 113, 0, 0, 0, 0, 0, 114, 115, 116, 0, 117, 118, 0, 0, 0, 0]))))) else (if a < 93 then (if a < 92 then (some (.inl (.char, 65536))) else (some (.inl (.char, 80000)))) else (if a < 94 then (some (.inl (.int, 2))) else (if a < 95 then (some (.inl (.int, 602))) else (some (.inl (.int, 602))))))) else (if a < 100 then (if a < 98 then (if a < 97 then (some (.inl (.int, 602))) else (some (.inl (.int, 602)))) else (if a < 99 then (some (.inl (.int, 602))) else (some (.inl (.int, 2408))))) else (if a < 102 then (if a < 101 then (some (.inl (.int, 602))) else (some (.inl (.char, 120400)))) else (if a < 103 then (some (.inl (.int, 128))) else (if a < 104 then (some (.inl (.int, 10))) else (some (.inl (.int, 2))))))))) else (if a < 123 then (if a < 114 then (if a < 109 then (if a < 107 then (if a < 106 then (some (.inl (.int, 16))) else (some (.inl (.char, 192)))) else (if a < 108 then (some (.inl (.int, 16))) else (some (.inl (.char, 1536))))) else (if a < 111 then (if a < 110 then (some (.inl (.int, 2))) else (some (.inl (.int, 64)))) else (if a < 112 then (some (.inl (.int, 64))) else (if a < 113 then (some (.inl (.int, 5))) else (some (.inl (.int, 2048))))))) else (if a < 118 then (if a < 116 then (if a < 115 then (some (.inl (.int, 301))) else (some (.inl (.char, 16)))) else (if a < 117 then (some (.inr (13, [0, 120, 121, 0, 0, 0, 0, 0, 0, 122, 123, 124, 125, 126, 127, 128, 129, 130, 131, 132, 133, 134, 135, 0, 0, 0, 0, 0, 136, 0, 137, 0, 0, 138, 139, 1, 0]))) else (some (.inl (.char, 65536))))) else (if a < 120 then (if a < 119 then (some (.inl (.int, 64))) else (some (.inl (.int, 19520)))) else (if a < 121 then (some (.inl (.int, 305))) else (if a < 122 then (some (.inl (.int, 305))) else (some (.inl (.int, 305)))))))) else (if a < 132 then (if a < 127 then (if a < 125 then (if a < 124 then (some (.inl (.int, 305))) else (some (.inl (.int, 305)))) else (if a < 126 then (some (.inl (.int, 11))) else (some (.inl (.int, 11))))) else (if a < 129 then (if a < 128 then (some (.inl (.int, 11))) else (some (.inl (.int, 11)))) else (if a < 130 then (some (.inl (.int, 11))) else (if a < 131 then (some (.inl (.int, 11))) else (some (.inl (.int, 20480))))))) else (if a < 136 then (if a < 134 then (if a < 133 then (some (.inl (.int, 10))) else (some (.inl (.int, 4)))) else (if a < 135 then (some (.inl (.int, 2048))) else (some (.inl (.int, 4))))) else (if a < 138 then (if a < 137 then (some (.inl (.int, 4))) else (some (.inl (.int, 32768)))) else (if a < 139 then (some (.inl (.int, 32768))) else (if a < 140 then (some (.inl (.int, 301))) else (some (.inl (.char, 100))))))))))) else none
/-- the words' text is the tape -/
noncomputable def zT (W : zW) : zW := zuQ W 4 3 (some (.inl 1))
noncomputable def zm_WOwordStop : zM := (some .int, { frames := 0, cells := 0, slots := 0, locals := 0 }, ([], []), [], ak_WOwordStop)
theorem zp_WOwordStop_0 {n K : Nat} {W : zW} {post : zPo} {a : Int} (hK : 2 ≤ K) (hn : 142 ≤ n) (h : zwp jtb zsh n zm_WOwordStop post (K - 2) (lGo ak_WOwordStop 2) 2 [some (.inr (.inr (some (.inl 4)))), some (.inl (a)), some (.inl (a))] [] (zT W)) : zwp jtb zsh n zm_WOwordStop post K (lGo ak_WOwordStop 0) 0 [some (.inr (.inr (some (.inl 4)))), some (.inl (a)), none] [] (zT W) := by
  obtain ⟨k, rfl⟩ : ∃ k, K = k + 2 := ⟨K - 2, by omega⟩
  exact (show zwp jtb zsh n zm_WOwordStop post (k + 0) (lGo ak_WOwordStop 2) 2 [some (.inr (.inr (some (.inl 4)))), some (.inl (a)), some (.inl (a))] [] (zT W) from h)
theorem zp_WOwordStop_2 {n K : Nat} {W : zW} {post : zPo} {a i : Int} (hK : 12 ≤ K) (hn : 142 ≤ n) (h : ((W.1 4 2) ≤ i → post (some (.inl (i))) (zT W)) ∧ (¬ (W.1 4 2) ≤ i → (0 ≤ i ∧ i < 65537) ∧ ((W.2.1 1 i) = 32 → post (some (.inl (i))) (zT W)) ∧ (¬ (W.2.1 1 i) = 32 → (-2147483648 ≤ i + 1 ∧ i + 1 ≤ 2147483647) ∧ zwp jtb zsh n zm_WOwordStop post (K - 12) (lGo ak_WOwordStop 2) 2 [some (.inr (.inr (some (.inl 4)))), some (.inl (a)), some (.inl (i + 1))] [] (zT W)))) : zwp jtb zsh n zm_WOwordStop post K (lGo ak_WOwordStop 2) 2 [some (.inr (.inr (some (.inl 4)))), some (.inl (a)), some (.inl (i))] [] (zT W) := by
  obtain ⟨k, rfl⟩ : ∃ k, K = k + 12 := ⟨K - 12, by omega⟩
  exact (show 4 < n ∧ 2 = 2 ∧ ((W.1 4 2) ≤ i → 1 = 1 ∧ True ∧ post (some (.inl (i))) (zT W)) ∧ (¬ (W.1 4 2) ≤ i → 4 < n ∧ 2 = 2 ∧ 1 < n ∧ FieldType.byte = FieldType.byte ∧ (0 ≤ i ∧ i < 65537) ∧ ((W.2.1 1 i) = 32 → 1 = 1 ∧ True ∧ post (some (.inl (i))) (zT W)) ∧ (¬ (W.2.1 1 i) = 32 → (-2147483648 ≤ i + 1 ∧ i + 1 ≤ 2147483647) ∧ zwp jtb zsh n zm_WOwordStop post (k + 0) (lGo ak_WOwordStop 2) 2 [some (.inr (.inr (some (.inl 4)))), some (.inl (a)), some (.inl (i + 1))] [] (zT W))) from ⟨(Nat.lt_of_lt_of_le (by decide) hn), rfl, ⟨fun hc3 => ⟨rfl, trivial, ((h).1 hc3)⟩, fun hc3 => ⟨(Nat.lt_of_lt_of_le (by decide) hn), rfl, ⟨(Nat.lt_of_lt_of_le (by decide) hn), rfl, (((h).2 hc3)).1, ⟨fun hc9 => (have h := (((((h).2 hc3)).2).1 hc9); ⟨rfl, trivial, h⟩), fun hc9 => (have h := (((((h).2 hc3)).2).2 hc9); ⟨(h).1, (h).2⟩)⟩⟩⟩⟩⟩)
noncomputable def zm_WOsplit : zM := (some .boolean, { frames := 0, cells := 0, slots := 0, locals := 0 }, ([], []), [], ak_WOsplit)
theorem zp_WOsplit_0 {n K : Nat} {W : zW} {post : zPo}  (hK : 10 ≤ K) (hn : 142 ≤ n) (h : zwp jtb zsh n zm_WOsplit post (K - 10) (lGo ak_WOsplit 14) 14 [some (.inr (.inr (some (.inl 4)))), some (.inl (1)), some (.inl (1)), some (.inl (W.1 4 4))] [] (zT (zuF W 4 1 0))) : zwp jtb zsh n zm_WOsplit post K (lGo ak_WOsplit 0) 0 [some (.inr (.inr (some (.inl 4)))), none, none, none] [] (zT W) := by
  obtain ⟨k, rfl⟩ : ∃ k, K = k + 10 := ⟨K - 10, by omega⟩
  exact (show 4 < n ∧ 2 = 2 ∧ (some 0 : Option Nat) = some 0 ∧ ((0 : Nat) = 0 ∨ ((0 : Nat) = 1 ∧ (0 = 0 ∨ 0 = 1))) ∧ 4 < n ∧ 2 = 2 ∧ zwp jtb zsh n zm_WOsplit post (k + 0) (lGo ak_WOsplit 14) 14 [some (.inr (.inr (some (.inl 4)))), some (.inl (1)), some (.inl (1)), some (.inl (W.1 4 4))] [] (zT (zuF W 4 1 0)) from ⟨(Nat.lt_of_lt_of_le (by decide) hn), rfl, rfl, (Or.inl rfl), ⟨(Nat.lt_of_lt_of_le (by decide) hn), rfl, h⟩⟩)
theorem zp_WOsplit_14 {n K : Nat} {W : zW} {post : zPo} {s f i : Int} (hK : 20 ≤ K) (hn : 142 ≤ n) (h : ((W.1 4 2) < i → (s = 0 ∨ s = 1) ∧ post (some (.inl (s))) (zT W)) ∧ (¬ (W.1 4 2) < i → (f = 0 → zwp jtb zsh n zm_WOsplit post (K - 6) (lGo ak_WOsplit 87) 87 [some (.inr (.inr (some (.inl 4)))), some (.inl (s)), some (.inl (f)), some (.inl (i))] [] (zT W)) ∧ (¬ f = 0 → (s = 0 → zwp jtb zsh n zm_WOsplit post (K - 9) (lGo ak_WOsplit 54) 54 [some (.inr (.inr (some (.inl 4)))), some (.inl (s)), some (.inl (f)), some (.inl (i))] [.inl (0)] (zT W)) ∧ (¬ s = 0 → ((W.1 4 2) ≤ i → zwp jtb zsh n zm_WOsplit post (K - 13) (lGo ak_WOsplit 54) 54 [some (.inr (.inr (some (.inl 4)))), some (.inl (s)), some (.inl (f)), some (.inl (i))] [.inl (0)] (zT W)) ∧ (¬ (W.1 4 2) ≤ i → (0 ≤ i ∧ i < 65537) ∧ ((W.2.1 1 i) = 32 → zwp jtb zsh n zm_WOsplit post (K - 19) (lGo ak_WOsplit 54) 54 [some (.inr (.inr (some (.inl 4)))), some (.inl (s)), some (.inl (f)), some (.inl (i))] [.inl (0)] (zT W)) ∧ (¬ (W.2.1 1 i) = 32 → zwp jtb zsh n zm_WOsplit post (K - 20) (lGo ak_WOsplit 54) 54 [some (.inr (.inr (some (.inl 4)))), some (.inl (s)), some (.inl (f)), some (.inl (i))] [.inl (1)] (zT W))))))) : zwp jtb zsh n zm_WOsplit post K (lGo ak_WOsplit 14) 14 [some (.inr (.inr (some (.inl 4)))), some (.inl (s)), some (.inl (f)), some (.inl (i))] [] (zT W) := by
  obtain ⟨k, rfl⟩ : ∃ k, K = k + 20 := ⟨K - 20, by omega⟩
  exact (show 4 < n ∧ 2 = 2 ∧ ((W.1 4 2) < i → 1 = 1 ∧ (s = 0 ∨ s = 1) ∧ post (some (.inl (s))) (zT W)) ∧ (¬ (W.1 4 2) < i → (f = 0 → zwp jtb zsh n zm_WOsplit post (k + 14) (lGo ak_WOsplit 87) 87 [some (.inr (.inr (some (.inl 4)))), some (.inl (s)), some (.inl (f)), some (.inl (i))] [] (zT W)) ∧ (¬ f = 0 → (s = 0 → zwp jtb zsh n zm_WOsplit post (k + 11) (lGo ak_WOsplit 54) 54 [some (.inr (.inr (some (.inl 4)))), some (.inl (s)), some (.inl (f)), some (.inl (i))] [.inl (0)] (zT W)) ∧ (¬ s = 0 → 4 < n ∧ 2 = 2 ∧ ((W.1 4 2) ≤ i → zwp jtb zsh n zm_WOsplit post (k + 7) (lGo ak_WOsplit 54) 54 [some (.inr (.inr (some (.inl 4)))), some (.inl (s)), some (.inl (f)), some (.inl (i))] [.inl (0)] (zT W)) ∧ (¬ (W.1 4 2) ≤ i → 4 < n ∧ 2 = 2 ∧ 1 < n ∧ FieldType.byte = FieldType.byte ∧ (0 ≤ i ∧ i < 65537) ∧ ((W.2.1 1 i) = 32 → zwp jtb zsh n zm_WOsplit post (k + 1) (lGo ak_WOsplit 54) 54 [some (.inr (.inr (some (.inl 4)))), some (.inl (s)), some (.inl (f)), some (.inl (i))] [.inl (0)] (zT W)) ∧ (¬ (W.2.1 1 i) = 32 → zwp jtb zsh n zm_WOsplit post (k + 0) (lGo ak_WOsplit 54) 54 [some (.inr (.inr (some (.inl 4)))), some (.inl (s)), some (.inl (f)), some (.inl (i))] [.inl (1)] (zT W)))))) from ⟨(Nat.lt_of_lt_of_le (by decide) hn), rfl, ⟨fun hc3 => ⟨rfl, ((h).1 hc3)⟩, fun hc3 => ⟨fun hc5 => ((((h).2 hc3)).1 hc5), fun hc5 => ⟨fun hc7 => ((((((h).2 hc3)).2 hc5)).1 hc7), fun hc7 => (have h := ((((((h).2 hc3)).2 hc5)).2 hc7); ⟨(Nat.lt_of_lt_of_le (by decide) hn), rfl, ⟨fun hc11 => ((h).1 hc11), fun hc11 => ⟨(Nat.lt_of_lt_of_le (by decide) hn), rfl, ⟨(Nat.lt_of_lt_of_le (by decide) hn), rfl, (((h).2 hc11)).1, ⟨fun hc17 => (((((h).2 hc11)).2).1 hc17), fun hc17 => (((((h).2 hc11)).2).2 hc17)⟩⟩⟩⟩⟩)⟩⟩⟩⟩)
theorem zp_WOsplit_54 {n K : Nat} {W : zW} {post : zPo} {s f i : Int} {x : Int} (hK : 13 ≤ K) (hn : 142 ≤ n) (h : (8 ≤ (W.1 4 1) → zwp jtb zsh n zm_WOsplit post (K - 7) (lGo ak_WOsplit 77) 77 [some (.inr (.inr (some (.inl 4)))), some (.inl (x)), some (.inl (f)), some (.inl (i))] [] (zT W)) ∧ (¬ 8 ≤ (W.1 4 1) → (0 ≤ (W.1 4 1) ∧ (W.1 4 1) < 8) ∧ zwp jtb zsh n zm_WOsplit post (K - 13) (lGo ak_WOsplit 77) 77 [some (.inr (.inr (some (.inl 4)))), some (.inl (x)), some (.inl (f)), some (.inl (i))] [] (zT (zuR W 5 (W.1 4 1) i)))) : zwp jtb zsh n zm_WOsplit post K (lGo ak_WOsplit 54) 54 [some (.inr (.inr (some (.inl 4)))), some (.inl (s)), some (.inl (f)), some (.inl (i))] [.inl (x)] (zT W) := by
  obtain ⟨k, rfl⟩ : ∃ k, K = k + 13 := ⟨K - 13, by omega⟩
  exact (show 4 < n ∧ 2 = 2 ∧ 4 < n ∧ 2 = 2 ∧ 5 < n ∧ FieldType.int ∈ jtys ∧ 8 ≤ 2147483647 ∧ (8 ≤ (W.1 4 1) → zwp jtb zsh n zm_WOsplit post (k + 6) (lGo ak_WOsplit 77) 77 [some (.inr (.inr (some (.inl 4)))), some (.inl (x)), some (.inl (f)), some (.inl (i))] [] (zT W)) ∧ (¬ 8 ≤ (W.1 4 1) → 4 < n ∧ 2 = 2 ∧ 4 < n ∧ 2 = 2 ∧ 5 < n ∧ FieldType.int = FieldType.int ∧ (0 ≤ (W.1 4 1) ∧ (W.1 4 1) < 8) ∧ True ∧ zwp jtb zsh n zm_WOsplit post (k + 0) (lGo ak_WOsplit 77) 77 [some (.inr (.inr (some (.inl 4)))), some (.inl (x)), some (.inl (f)), some (.inl (i))] [] (zT (zuR W 5 (W.1 4 1) i))) from ⟨(Nat.lt_of_lt_of_le (by decide) hn), rfl, ⟨(Nat.lt_of_lt_of_le (by decide) hn), rfl, ⟨(Nat.lt_of_lt_of_le (by decide) hn), (by decide), (by decide), ⟨fun hc6 => ((h).1 hc6), fun hc6 => ⟨(Nat.lt_of_lt_of_le (by decide) hn), rfl, ⟨(Nat.lt_of_lt_of_le (by decide) hn), rfl, ⟨(Nat.lt_of_lt_of_le (by decide) hn), rfl, (((h).2 hc6)).1, trivial, (((h).2 hc6)).2⟩⟩⟩⟩⟩⟩⟩)
theorem zp_WOsplit_77 {n K : Nat} {W : zW} {post : zPo} {s f i : Int} (hK : 6 ≤ K) (hn : 142 ≤ n) (h : (-2147483648 ≤ (W.1 4 1) + 1 ∧ (W.1 4 1) + 1 ≤ 2147483647) ∧ zwp jtb zsh n zm_WOsplit post (K - 6) (lGo ak_WOsplit 87) 87 [some (.inr (.inr (some (.inl 4)))), some (.inl (s)), some (.inl (f)), some (.inl (i))] [] (zT (zuF W 4 1 ((W.1 4 1) + 1)))) : zwp jtb zsh n zm_WOsplit post K (lGo ak_WOsplit 77) 77 [some (.inr (.inr (some (.inl 4)))), some (.inl (s)), some (.inl (f)), some (.inl (i))] [] (zT W) := by
  obtain ⟨k, rfl⟩ : ∃ k, K = k + 6 := ⟨K - 6, by omega⟩
  exact (show 4 < n ∧ 2 = 2 ∧ (-2147483648 ≤ (W.1 4 1) + 1 ∧ (W.1 4 1) + 1 ≤ 2147483647) ∧ 4 < n ∧ 2 = 2 ∧ (some 0 : Option Nat) = some 0 ∧ ((0 : Nat) = 0 ∨ ((0 : Nat) = 1 ∧ (((W.1 4 1) + 1) = 0 ∨ ((W.1 4 1) + 1) = 1))) ∧ zwp jtb zsh n zm_WOsplit post (k + 0) (lGo ak_WOsplit 87) 87 [some (.inr (.inr (some (.inl 4)))), some (.inl (s)), some (.inl (f)), some (.inl (i))] [] (zT (zuF W 4 1 ((W.1 4 1) + 1))) from ⟨(Nat.lt_of_lt_of_le (by decide) hn), rfl, ⟨(h).1, ⟨(Nat.lt_of_lt_of_le (by decide) hn), rfl, rfl, (Or.inl rfl), (h).2⟩⟩⟩)
theorem zp_WOsplit_87 {n K : Nat} {W : zW} {post : zPo} {s f i : Int} (hK : 12 ≤ K) (hn : 142 ≤ n) (h : ((W.1 4 2) ≤ i → zwp jtb zsh n zm_WOsplit post (K - 5) (lGo ak_WOsplit 111) 111 [some (.inr (.inr (some (.inl 4)))), some (.inl (s)), some (.inl (f)), some (.inl (i))] [.inl (0)] (zT W)) ∧ (¬ (W.1 4 2) ≤ i → (0 ≤ i ∧ i < 65537) ∧ (¬ (W.2.1 1 i) = 32 → zwp jtb zsh n zm_WOsplit post (K - 11) (lGo ak_WOsplit 111) 111 [some (.inr (.inr (some (.inl 4)))), some (.inl (s)), some (.inl (f)), some (.inl (i))] [.inl (0)] (zT W)) ∧ ((W.2.1 1 i) = 32 → zwp jtb zsh n zm_WOsplit post (K - 12) (lGo ak_WOsplit 111) 111 [some (.inr (.inr (some (.inl 4)))), some (.inl (s)), some (.inl (f)), some (.inl (i))] [.inl (1)] (zT W)))) : zwp jtb zsh n zm_WOsplit post K (lGo ak_WOsplit 87) 87 [some (.inr (.inr (some (.inl 4)))), some (.inl (s)), some (.inl (f)), some (.inl (i))] [] (zT W) := by
  obtain ⟨k, rfl⟩ : ∃ k, K = k + 12 := ⟨K - 12, by omega⟩
  exact (show 4 < n ∧ 2 = 2 ∧ ((W.1 4 2) ≤ i → zwp jtb zsh n zm_WOsplit post (k + 7) (lGo ak_WOsplit 111) 111 [some (.inr (.inr (some (.inl 4)))), some (.inl (s)), some (.inl (f)), some (.inl (i))] [.inl (0)] (zT W)) ∧ (¬ (W.1 4 2) ≤ i → 4 < n ∧ 2 = 2 ∧ 1 < n ∧ FieldType.byte = FieldType.byte ∧ (0 ≤ i ∧ i < 65537) ∧ (¬ (W.2.1 1 i) = 32 → zwp jtb zsh n zm_WOsplit post (k + 1) (lGo ak_WOsplit 111) 111 [some (.inr (.inr (some (.inl 4)))), some (.inl (s)), some (.inl (f)), some (.inl (i))] [.inl (0)] (zT W)) ∧ ((W.2.1 1 i) = 32 → zwp jtb zsh n zm_WOsplit post (k + 0) (lGo ak_WOsplit 111) 111 [some (.inr (.inr (some (.inl 4)))), some (.inl (s)), some (.inl (f)), some (.inl (i))] [.inl (1)] (zT W))) from ⟨(Nat.lt_of_lt_of_le (by decide) hn), rfl, ⟨fun hc3 => ((h).1 hc3), fun hc3 => ⟨(Nat.lt_of_lt_of_le (by decide) hn), rfl, ⟨(Nat.lt_of_lt_of_le (by decide) hn), rfl, (((h).2 hc3)).1, ⟨fun hc9 => (((((h).2 hc3)).2).1 hc9), fun hc9 => (((((h).2 hc3)).2).2 hc9)⟩⟩⟩⟩⟩)
theorem zp_WOsplit_111 {n K : Nat} {W : zW} {post : zPo} {s f i : Int} {x : Int} (hK : 3 ≤ K) (hn : 142 ≤ n) (h : (-2147483648 ≤ i + 1 ∧ i + 1 ≤ 2147483647) ∧ zwp jtb zsh n zm_WOsplit post (K - 3) (lGo ak_WOsplit 14) 14 [some (.inr (.inr (some (.inl 4)))), some (.inl (s)), some (.inl (x)), some (.inl (i + 1))] [] (zT W)) : zwp jtb zsh n zm_WOsplit post K (lGo ak_WOsplit 111) 111 [some (.inr (.inr (some (.inl 4)))), some (.inl (s)), some (.inl (f)), some (.inl (i))] [.inl (x)] (zT W) := by
  obtain ⟨k, rfl⟩ : ∃ k, K = k + 3 := ⟨K - 3, by omega⟩
  exact (show (-2147483648 ≤ i + 1 ∧ i + 1 ≤ 2147483647) ∧ zwp jtb zsh n zm_WOsplit post (k + 0) (lGo ak_WOsplit 14) 14 [some (.inr (.inr (some (.inl 4)))), some (.inl (s)), some (.inl (x)), some (.inl (i + 1))] [] (zT W) from ⟨(h).1, (h).2⟩)
noncomputable def zc_WOwordStop (vals : List zv) (W : zW) (post : zPo) : Prop := ∃ (V : zW) (a : Int), vals = [.inr (.inr (some (.inl 4))), .inl a] ∧ W = zT V ∧ 0 ≤ a ∧ a ≤ 65536 ∧ V.1 4 2 ≤ 65536 ∧ post (some (.inl (xwS (V.2.1 1) (V.1 4 2) a))) W
noncomputable def zm_WOnumber : zM := (some .int, { frames := 1, cells := 0, slots := 0, locals := 22 }, ([(59, 985, 0)], []), [(y_WO_wordStop, false, 2, 2, { frames := 0, cells := 0, slots := 0, locals := 0 }, zc_WOwordStop)], ak_WOnumber)
theorem zp_WOnumber_0 {n K : Nat} {W : zW} {post : zPo} {w lo hi : Int} (hK : 17 ≤ K) (hn : 142 ≤ n) (h : ((W.1 4 1) ≤ w → post (some (.inl (-1000000000))) (zT W)) ∧ (¬ (W.1 4 1) ≤ w → (w < 8 → (0 ≤ w ∧ w < 8) ∧ zc_WOwordStop [.inr (.inr (some (.inl 4))), .inl (W.2.1 5 w)] (zT W) (fun v W' => zwp jtb zsh n zm_WOnumber post (K - 17) (lGo ak_WOnumber 34) 34 [some (.inr (.inr (some (.inl 4)))), some (.inl (w)), some (.inl (lo)), some (.inl (hi)), some (.inl (W.2.1 5 w)), none, none, none, none, none, none] (v.toList ++ []) W')) ∧ (¬ w < 8 → post (some (.inl (-1000000000))) (zT W)))) : zwp jtb zsh n zm_WOnumber post K (lGo ak_WOnumber 0) 0 [some (.inr (.inr (some (.inl 4)))), some (.inl (w)), some (.inl (lo)), some (.inl (hi)), none, none, none, none, none, none, none] [] (zT W) := by
  obtain ⟨k, rfl⟩ : ∃ k, K = k + 17 := ⟨K - 17, by omega⟩
  exact (show 4 < n ∧ 2 = 2 ∧ ((W.1 4 1) ≤ w → 1 = 1 ∧ True ∧ post (some (.inl (-1000000000))) (zT W)) ∧ (¬ (W.1 4 1) ≤ w → 4 < n ∧ 2 = 2 ∧ 5 < n ∧ FieldType.int ∈ jtys ∧ 8 ≤ 2147483647 ∧ (w < 8 → 4 < n ∧ 2 = 2 ∧ 5 < n ∧ FieldType.int = FieldType.int ∧ (0 ≤ w ∧ w < 8) ∧ 3 = 3 ∧ false = false ∧ jin3 59 985 0 zm_WOnumber.2.2.1.1 = true ∧ lRm zm_WOnumber.2.1 { frames := 0, cells := 0, slots := 0, locals := 0 } 3 = true ∧ Nat.ble 2 2 = true ∧ Nat.ble 0 8 = true ∧ 4 < n ∧ 2 = 2 ∧ Nat.ble 1000 2 = false ∧ zc_WOwordStop [.inr (.inr (some (.inl 4))), .inl (W.2.1 5 w)] (zT W) (fun v W' => zwp jtb zsh n zm_WOnumber post (k + 0) (lGo ak_WOnumber 34) 34 [some (.inr (.inr (some (.inl 4)))), some (.inl (w)), some (.inl (lo)), some (.inl (hi)), some (.inl (W.2.1 5 w)), none, none, none, none, none, none] (v.toList ++ []) W')) ∧ (¬ w < 8 → 1 = 1 ∧ True ∧ post (some (.inl (-1000000000))) (zT W))) from ⟨(Nat.lt_of_lt_of_le (by decide) hn), rfl, ⟨fun hc3 => ⟨rfl, trivial, ((h).1 hc3)⟩, fun hc3 => ⟨(Nat.lt_of_lt_of_le (by decide) hn), rfl, ⟨(Nat.lt_of_lt_of_le (by decide) hn), (by decide), (by decide), ⟨fun hc8 => ⟨(Nat.lt_of_lt_of_le (by decide) hn), rfl, ⟨(Nat.lt_of_lt_of_le (by decide) hn), rfl, (((((h).2 hc3)).1 hc8)).1, (have h := (((((h).2 hc3)).1 hc8)).2; ⟨rfl, rfl, rfl, rfl, rfl, rfl, (Nat.lt_of_lt_of_le (by decide) hn), rfl, rfl, h⟩)⟩⟩, fun hc8 => ⟨rfl, trivial, ((((h).2 hc3)).2 hc8)⟩⟩⟩⟩⟩⟩)
theorem zp_WOnumber_34 {n K : Nat} {W : zW} {post : zPo} {w lo hi a e : Int} (hK : 13 ≤ K) (hn : 142 ≤ n) (h : (e ≤ a → zwp jtb zsh n zm_WOnumber post (K - 6) (lGo ak_WOnumber 62) 62 [some (.inr (.inr (some (.inl 4)))), some (.inl (w)), some (.inl (lo)), some (.inl (hi)), some (.inl (a)), some (.inl (e)), some (.inl (0)), none, none, none, none] [] (zT W)) ∧ (¬ e ≤ a → (0 ≤ a ∧ a < 65537) ∧ (¬ (W.2.1 1 a) = 45 → zwp jtb zsh n zm_WOnumber post (K - 12) (lGo ak_WOnumber 62) 62 [some (.inr (.inr (some (.inl 4)))), some (.inl (w)), some (.inl (lo)), some (.inl (hi)), some (.inl (a)), some (.inl (e)), some (.inl (0)), none, none, none, none] [] (zT W)) ∧ ((W.2.1 1 a) = 45 → zwp jtb zsh n zm_WOnumber post (K - 13) (lGo ak_WOnumber 62) 62 [some (.inr (.inr (some (.inl 4)))), some (.inl (w)), some (.inl (lo)), some (.inl (hi)), some (.inl (a)), some (.inl (e)), some (.inl (1)), none, none, none, none] [] (zT W)))) : zwp jtb zsh n zm_WOnumber post K (lGo ak_WOnumber 34) 34 [some (.inr (.inr (some (.inl 4)))), some (.inl (w)), some (.inl (lo)), some (.inl (hi)), some (.inl (a)), none, none, none, none, none, none] [.inl (e)] (zT W) := by
  obtain ⟨k, rfl⟩ : ∃ k, K = k + 13 := ⟨K - 13, by omega⟩
  exact (show (e ≤ a → zwp jtb zsh n zm_WOnumber post (k + 7) (lGo ak_WOnumber 62) 62 [some (.inr (.inr (some (.inl 4)))), some (.inl (w)), some (.inl (lo)), some (.inl (hi)), some (.inl (a)), some (.inl (e)), some (.inl (0)), none, none, none, none] [] (zT W)) ∧ (¬ e ≤ a → 4 < n ∧ 2 = 2 ∧ 1 < n ∧ FieldType.byte = FieldType.byte ∧ (0 ≤ a ∧ a < 65537) ∧ (¬ (W.2.1 1 a) = 45 → zwp jtb zsh n zm_WOnumber post (k + 1) (lGo ak_WOnumber 62) 62 [some (.inr (.inr (some (.inl 4)))), some (.inl (w)), some (.inl (lo)), some (.inl (hi)), some (.inl (a)), some (.inl (e)), some (.inl (0)), none, none, none, none] [] (zT W)) ∧ ((W.2.1 1 a) = 45 → zwp jtb zsh n zm_WOnumber post (k + 0) (lGo ak_WOnumber 62) 62 [some (.inr (.inr (some (.inl 4)))), some (.inl (w)), some (.inl (lo)), some (.inl (hi)), some (.inl (a)), some (.inl (e)), some (.inl (1)), none, none, none, none] [] (zT W))) from ⟨fun hc3 => ((h).1 hc3), fun hc3 => ⟨(Nat.lt_of_lt_of_le (by decide) hn), rfl, ⟨(Nat.lt_of_lt_of_le (by decide) hn), rfl, (((h).2 hc3)).1, ⟨fun hc9 => (((((h).2 hc3)).2).1 hc9), fun hc9 => (((((h).2 hc3)).2).2 hc9)⟩⟩⟩⟩)
theorem zp_WOnumber_62 {n K : Nat} {W : zW} {post : zPo} {w lo hi a e ls : Int} (hK : 30 ≤ K) (hn : 142 ≤ n) (h : (ls = 0 → (-2147483648 ≤ e - a ∧ e - a ≤ 2147483647) ∧ ((e - a) < 1 → post (some (.inl (-1000000000))) (zT W)) ∧ (¬ (e - a) < 1 → (9 < (e - a) → post (some (.inl (-1000000000))) (zT W)) ∧ (¬ 9 < (e - a) → (0 ≤ a ∧ a < 65537) ∧ (¬ (W.2.1 1 a) = 48 → zwp jtb zsh n zm_WOnumber post (K - 20) (lGo ak_WOnumber 124) 124 [some (.inr (.inr (some (.inl 4)))), some (.inl (w)), some (.inl (lo)), some (.inl (hi)), some (.inl (a)), some (.inl (e)), some (.inl (ls)), some (.inl (a)), some (.inl (e - a)), none, none] [] (zT W)) ∧ ((W.2.1 1 a) = 48 → (1 < (e - a) → post (some (.inl (-1000000000))) (zT W)) ∧ (¬ 1 < (e - a) → (ls = 0 → zwp jtb zsh n zm_WOnumber post (K - 25) (lGo ak_WOnumber 124) 124 [some (.inr (.inr (some (.inl 4)))), some (.inl (w)), some (.inl (lo)), some (.inl (hi)), some (.inl (a)), some (.inl (e)), some (.inl (ls)), some (.inl (a)), some (.inl (e - a)), none, none] [] (zT W)) ∧ (¬ ls = 0 → post (some (.inl (-1000000000))) (zT W))))))) ∧ (¬ ls = 0 → (-2147483648 ≤ a + 1 ∧ a + 1 ≤ 2147483647) ∧ (-2147483648 ≤ e - (a + 1) ∧ e - (a + 1) ≤ 2147483647) ∧ ((e - (a + 1)) < 1 → post (some (.inl (-1000000000))) (zT W)) ∧ (¬ (e - (a + 1)) < 1 → (9 < (e - (a + 1)) → post (some (.inl (-1000000000))) (zT W)) ∧ (¬ 9 < (e - (a + 1)) → (0 ≤ (a + 1) ∧ (a + 1) < 65537) ∧ (¬ (W.2.1 1 (a + 1)) = 48 → zwp jtb zsh n zm_WOnumber post (K - 23) (lGo ak_WOnumber 124) 124 [some (.inr (.inr (some (.inl 4)))), some (.inl (w)), some (.inl (lo)), some (.inl (hi)), some (.inl (a)), some (.inl (e)), some (.inl (ls)), some (.inl (a + 1)), some (.inl (e - (a + 1))), none, none] [] (zT W)) ∧ ((W.2.1 1 (a + 1)) = 48 → (1 < (e - (a + 1)) → post (some (.inl (-1000000000))) (zT W)) ∧ (¬ 1 < (e - (a + 1)) → (ls = 0 → zwp jtb zsh n zm_WOnumber post (K - 28) (lGo ak_WOnumber 124) 124 [some (.inr (.inr (some (.inl 4)))), some (.inl (w)), some (.inl (lo)), some (.inl (hi)), some (.inl (a)), some (.inl (e)), some (.inl (ls)), some (.inl (a + 1)), some (.inl (e - (a + 1))), none, none] [] (zT W)) ∧ (¬ ls = 0 → post (some (.inl (-1000000000))) (zT W)))))))) : zwp jtb zsh n zm_WOnumber post K (lGo ak_WOnumber 62) 62 [some (.inr (.inr (some (.inl 4)))), some (.inl (w)), some (.inl (lo)), some (.inl (hi)), some (.inl (a)), some (.inl (e)), some (.inl (ls)), none, none, none, none] [] (zT W) := by
  obtain ⟨k, rfl⟩ : ∃ k, K = k + 30 := ⟨K - 30, by omega⟩
  exact (show (ls = 0 → (-2147483648 ≤ e - a ∧ e - a ≤ 2147483647) ∧ ((e - a) < 1 → 1 = 1 ∧ True ∧ post (some (.inl (-1000000000))) (zT W)) ∧ (¬ (e - a) < 1 → (9 < (e - a) → 1 = 1 ∧ True ∧ post (some (.inl (-1000000000))) (zT W)) ∧ (¬ 9 < (e - a) → 4 < n ∧ 2 = 2 ∧ 1 < n ∧ FieldType.byte = FieldType.byte ∧ (0 ≤ a ∧ a < 65537) ∧ (¬ (W.2.1 1 a) = 48 → zwp jtb zsh n zm_WOnumber post (k + 10) (lGo ak_WOnumber 124) 124 [some (.inr (.inr (some (.inl 4)))), some (.inl (w)), some (.inl (lo)), some (.inl (hi)), some (.inl (a)), some (.inl (e)), some (.inl (ls)), some (.inl (a)), some (.inl (e - a)), none, none] [] (zT W)) ∧ ((W.2.1 1 a) = 48 → (1 < (e - a) → 1 = 1 ∧ True ∧ post (some (.inl (-1000000000))) (zT W)) ∧ (¬ 1 < (e - a) → (ls = 0 → zwp jtb zsh n zm_WOnumber post (k + 5) (lGo ak_WOnumber 124) 124 [some (.inr (.inr (some (.inl 4)))), some (.inl (w)), some (.inl (lo)), some (.inl (hi)), some (.inl (a)), some (.inl (e)), some (.inl (ls)), some (.inl (a)), some (.inl (e - a)), none, none] [] (zT W)) ∧ (¬ ls = 0 → 1 = 1 ∧ True ∧ post (some (.inl (-1000000000))) (zT W))))))) ∧ (¬ ls = 0 → (-2147483648 ≤ a + 1 ∧ a + 1 ≤ 2147483647) ∧ (-2147483648 ≤ e - (a + 1) ∧ e - (a + 1) ≤ 2147483647) ∧ ((e - (a + 1)) < 1 → 1 = 1 ∧ True ∧ post (some (.inl (-1000000000))) (zT W)) ∧ (¬ (e - (a + 1)) < 1 → (9 < (e - (a + 1)) → 1 = 1 ∧ True ∧ post (some (.inl (-1000000000))) (zT W)) ∧ (¬ 9 < (e - (a + 1)) → 4 < n ∧ 2 = 2 ∧ 1 < n ∧ FieldType.byte = FieldType.byte ∧ (0 ≤ (a + 1) ∧ (a + 1) < 65537) ∧ (¬ (W.2.1 1 (a + 1)) = 48 → zwp jtb zsh n zm_WOnumber post (k + 7) (lGo ak_WOnumber 124) 124 [some (.inr (.inr (some (.inl 4)))), some (.inl (w)), some (.inl (lo)), some (.inl (hi)), some (.inl (a)), some (.inl (e)), some (.inl (ls)), some (.inl (a + 1)), some (.inl (e - (a + 1))), none, none] [] (zT W)) ∧ ((W.2.1 1 (a + 1)) = 48 → (1 < (e - (a + 1)) → 1 = 1 ∧ True ∧ post (some (.inl (-1000000000))) (zT W)) ∧ (¬ 1 < (e - (a + 1)) → (ls = 0 → zwp jtb zsh n zm_WOnumber post (k + 2) (lGo ak_WOnumber 124) 124 [some (.inr (.inr (some (.inl 4)))), some (.inl (w)), some (.inl (lo)), some (.inl (hi)), some (.inl (a)), some (.inl (e)), some (.inl (ls)), some (.inl (a + 1)), some (.inl (e - (a + 1))), none, none] [] (zT W)) ∧ (¬ ls = 0 → 1 = 1 ∧ True ∧ post (some (.inl (-1000000000))) (zT W))))))) from ⟨fun hc1 => ⟨(((h).1 hc1)).1, ⟨fun hc10 => (have h := (((((h).1 hc1)).2).1 hc10); ⟨rfl, trivial, h⟩), fun hc10 => (have h := (((((h).1 hc1)).2).2 hc10); ⟨fun hc13 => ⟨rfl, trivial, ((h).1 hc13)⟩, fun hc13 => ⟨(Nat.lt_of_lt_of_le (by decide) hn), rfl, ⟨(Nat.lt_of_lt_of_le (by decide) hn), rfl, (((h).2 hc13)).1, ⟨fun hc19 => (((((h).2 hc13)).2).1 hc19), fun hc19 => (have h := (((((h).2 hc13)).2).2 hc19); ⟨fun hc22 => ⟨rfl, trivial, ((h).1 hc22)⟩, fun hc22 => ⟨fun hc24 => ((((h).2 hc22)).1 hc24), fun hc24 => ⟨rfl, trivial, ((((h).2 hc22)).2 hc24)⟩⟩⟩)⟩⟩⟩⟩)⟩⟩, fun hc1 => ⟨(((h).2 hc1)).1, ⟨((((h).2 hc1)).2).1, ⟨fun hc13 => (have h := ((((((h).2 hc1)).2).2).1 hc13); ⟨rfl, trivial, h⟩), fun hc13 => (have h := ((((((h).2 hc1)).2).2).2 hc13); ⟨fun hc16 => ⟨rfl, trivial, ((h).1 hc16)⟩, fun hc16 => ⟨(Nat.lt_of_lt_of_le (by decide) hn), rfl, ⟨(Nat.lt_of_lt_of_le (by decide) hn), rfl, (((h).2 hc16)).1, ⟨fun hc22 => (((((h).2 hc16)).2).1 hc22), fun hc22 => (have h := (((((h).2 hc16)).2).2 hc22); ⟨fun hc25 => ⟨rfl, trivial, ((h).1 hc25)⟩, fun hc25 => ⟨fun hc27 => ((((h).2 hc25)).1 hc27), fun hc27 => ⟨rfl, trivial, ((((h).2 hc25)).2 hc27)⟩⟩⟩)⟩⟩⟩⟩)⟩⟩⟩⟩)
theorem zp_WOnumber_124 {n K : Nat} {W : zW} {post : zPo} {w lo hi a e ls f d : Int} (hK : 4 ≤ K) (hn : 142 ≤ n) (h : zwp jtb zsh n zm_WOnumber post (K - 4) (lGo ak_WOnumber 131) 131 [some (.inr (.inr (some (.inl 4)))), some (.inl (w)), some (.inl (lo)), some (.inl (hi)), some (.inl (a)), some (.inl (e)), some (.inl (ls)), some (.inl (f)), some (.inl (d)), some (.inl (0)), some (.inl (f))] [] (zT W)) : zwp jtb zsh n zm_WOnumber post K (lGo ak_WOnumber 124) 124 [some (.inr (.inr (some (.inl 4)))), some (.inl (w)), some (.inl (lo)), some (.inl (hi)), some (.inl (a)), some (.inl (e)), some (.inl (ls)), some (.inl (f)), some (.inl (d)), none, none] [] (zT W) := by
  obtain ⟨k, rfl⟩ : ∃ k, K = k + 4 := ⟨K - 4, by omega⟩
  exact (show zwp jtb zsh n zm_WOnumber post (k + 0) (lGo ak_WOnumber 131) 131 [some (.inr (.inr (some (.inl 4)))), some (.inl (w)), some (.inl (lo)), some (.inl (hi)), some (.inl (a)), some (.inl (e)), some (.inl (ls)), some (.inl (f)), some (.inl (d)), some (.inl (0)), some (.inl (f))] [] (zT W) from h)
theorem zp_WOnumber_131 {n K : Nat} {W : zW} {post : zPo} {w lo hi a e ls f d v i : Int} (hK : 28 ≤ K) (hn : 142 ≤ n) (h : (e ≤ i → zwp jtb zsh n zm_WOnumber post (K - 3) (lGo ak_WOnumber 189) 189 [some (.inr (.inr (some (.inl 4)))), some (.inl (w)), some (.inl (lo)), some (.inl (hi)), some (.inl (a)), some (.inl (e)), some (.inl (ls)), some (.inl (f)), some (.inl (d)), some (.inl (v)), some (.inl (i))] [] (zT W)) ∧ (¬ e ≤ i → (0 ≤ i ∧ i < 65537) ∧ ((W.2.1 1 i) < 48 → post (some (.inl (-1000000000))) (zT W)) ∧ (¬ (W.2.1 1 i) < 48 → (0 ≤ i ∧ i < 65537) ∧ ((W.2.1 1 i) ≤ 57 → (-2147483648 ≤ v * 10 ∧ v * 10 ≤ 2147483647) ∧ (0 ≤ i ∧ i < 65537) ∧ (-2147483648 ≤ (v * 10) + (W.2.1 1 i) ∧ (v * 10) + (W.2.1 1 i) ≤ 2147483647) ∧ (-2147483648 ≤ ((v * 10) + (W.2.1 1 i)) - 48 ∧ ((v * 10) + (W.2.1 1 i)) - 48 ≤ 2147483647) ∧ (-2147483648 ≤ i + 1 ∧ i + 1 ≤ 2147483647) ∧ zwp jtb zsh n zm_WOnumber post (K - 28) (lGo ak_WOnumber 131) 131 [some (.inr (.inr (some (.inl 4)))), some (.inl (w)), some (.inl (lo)), some (.inl (hi)), some (.inl (a)), some (.inl (e)), some (.inl (ls)), some (.inl (f)), some (.inl (d)), some (.inl (((v * 10) + (W.2.1 1 i)) - 48)), some (.inl (i + 1))] [] (zT W)) ∧ (¬ (W.2.1 1 i) ≤ 57 → post (some (.inl (-1000000000))) (zT W))))) : zwp jtb zsh n zm_WOnumber post K (lGo ak_WOnumber 131) 131 [some (.inr (.inr (some (.inl 4)))), some (.inl (w)), some (.inl (lo)), some (.inl (hi)), some (.inl (a)), some (.inl (e)), some (.inl (ls)), some (.inl (f)), some (.inl (d)), some (.inl (v)), some (.inl (i))] [] (zT W) := by
  obtain ⟨k, rfl⟩ : ∃ k, K = k + 28 := ⟨K - 28, by omega⟩
  exact (show (e ≤ i → zwp jtb zsh n zm_WOnumber post (k + 25) (lGo ak_WOnumber 189) 189 [some (.inr (.inr (some (.inl 4)))), some (.inl (w)), some (.inl (lo)), some (.inl (hi)), some (.inl (a)), some (.inl (e)), some (.inl (ls)), some (.inl (f)), some (.inl (d)), some (.inl (v)), some (.inl (i))] [] (zT W)) ∧ (¬ e ≤ i → 4 < n ∧ 2 = 2 ∧ 1 < n ∧ FieldType.byte = FieldType.byte ∧ (0 ≤ i ∧ i < 65537) ∧ ((W.2.1 1 i) < 48 → 1 = 1 ∧ True ∧ post (some (.inl (-1000000000))) (zT W)) ∧ (¬ (W.2.1 1 i) < 48 → 4 < n ∧ 2 = 2 ∧ 1 < n ∧ FieldType.byte = FieldType.byte ∧ (0 ≤ i ∧ i < 65537) ∧ ((W.2.1 1 i) ≤ 57 → (-2147483648 ≤ v * 10 ∧ v * 10 ≤ 2147483647) ∧ 4 < n ∧ 2 = 2 ∧ 1 < n ∧ FieldType.byte = FieldType.byte ∧ (0 ≤ i ∧ i < 65537) ∧ (-2147483648 ≤ (v * 10) + (W.2.1 1 i) ∧ (v * 10) + (W.2.1 1 i) ≤ 2147483647) ∧ (-2147483648 ≤ ((v * 10) + (W.2.1 1 i)) - 48 ∧ ((v * 10) + (W.2.1 1 i)) - 48 ≤ 2147483647) ∧ (-2147483648 ≤ i + 1 ∧ i + 1 ≤ 2147483647) ∧ zwp jtb zsh n zm_WOnumber post (k + 0) (lGo ak_WOnumber 131) 131 [some (.inr (.inr (some (.inl 4)))), some (.inl (w)), some (.inl (lo)), some (.inl (hi)), some (.inl (a)), some (.inl (e)), some (.inl (ls)), some (.inl (f)), some (.inl (d)), some (.inl (((v * 10) + (W.2.1 1 i)) - 48)), some (.inl (i + 1))] [] (zT W)) ∧ (¬ (W.2.1 1 i) ≤ 57 → 1 = 1 ∧ True ∧ post (some (.inl (-1000000000))) (zT W)))) from ⟨fun hc2 => ((h).1 hc2), fun hc2 => ⟨(Nat.lt_of_lt_of_le (by decide) hn), rfl, ⟨(Nat.lt_of_lt_of_le (by decide) hn), rfl, (((h).2 hc2)).1, ⟨fun hc8 => (have h := (((((h).2 hc2)).2).1 hc8); ⟨rfl, trivial, h⟩), fun hc8 => (have h := (((((h).2 hc2)).2).2 hc8); ⟨(Nat.lt_of_lt_of_le (by decide) hn), rfl, ⟨(Nat.lt_of_lt_of_le (by decide) hn), rfl, (h).1, ⟨fun hc14 => ⟨((((h).2).1 hc14)).1, ⟨(Nat.lt_of_lt_of_le (by decide) hn), rfl, ⟨(Nat.lt_of_lt_of_le (by decide) hn), rfl, (((((h).2).1 hc14)).2).1, ⟨((((((h).2).1 hc14)).2).2).1, (have h := ((((((h).2).1 hc14)).2).2).2; ⟨(h).1, ⟨((h).2).1, ((h).2).2⟩⟩)⟩⟩⟩⟩, fun hc14 => ⟨rfl, trivial, (((h).2).2 hc14)⟩⟩⟩⟩)⟩⟩⟩⟩)
theorem zp_WOnumber_189 {n K : Nat} {W : zW} {post : zPo} {w lo hi a e ls f d v i : Int} (hK : 15 ≤ K) (hn : 142 ≤ n) (h : (ls = 0 → (v < lo → post (some (.inl (-1000000000))) (zT W)) ∧ (¬ v < lo → (hi < v → post (some (.inl (-1000000000))) (zT W)) ∧ (¬ hi < v → post (some (.inl (v))) (zT W)))) ∧ (¬ ls = 0 → (-2147483648 ≤ -v ∧ -v ≤ 2147483647) ∧ ((-v) < lo → post (some (.inl (-1000000000))) (zT W)) ∧ (¬ (-v) < lo → (hi < (-v) → post (some (.inl (-1000000000))) (zT W)) ∧ (¬ hi < (-v) → post (some (.inl (-v))) (zT W))))) : zwp jtb zsh n zm_WOnumber post K (lGo ak_WOnumber 189) 189 [some (.inr (.inr (some (.inl 4)))), some (.inl (w)), some (.inl (lo)), some (.inl (hi)), some (.inl (a)), some (.inl (e)), some (.inl (ls)), some (.inl (f)), some (.inl (d)), some (.inl (v)), some (.inl (i))] [] (zT W) := by
  obtain ⟨k, rfl⟩ : ∃ k, K = k + 15 := ⟨K - 15, by omega⟩
  exact (show (ls = 0 → (v < lo → 1 = 1 ∧ True ∧ post (some (.inl (-1000000000))) (zT W)) ∧ (¬ v < lo → (hi < v → 1 = 1 ∧ True ∧ post (some (.inl (-1000000000))) (zT W)) ∧ (¬ hi < v → 1 = 1 ∧ True ∧ post (some (.inl (v))) (zT W)))) ∧ (¬ ls = 0 → (-2147483648 ≤ -v ∧ -v ≤ 2147483647) ∧ ((-v) < lo → 1 = 1 ∧ True ∧ post (some (.inl (-1000000000))) (zT W)) ∧ (¬ (-v) < lo → (hi < (-v) → 1 = 1 ∧ True ∧ post (some (.inl (-1000000000))) (zT W)) ∧ (¬ hi < (-v) → 1 = 1 ∧ True ∧ post (some (.inl (-v))) (zT W)))) from ⟨fun hc1 => ⟨fun hc6 => ⟨rfl, trivial, ((((h).1 hc1)).1 hc6)⟩, fun hc6 => ⟨fun hc9 => (have h := ((((((h).1 hc1)).2 hc6)).1 hc9); ⟨rfl, trivial, h⟩), fun hc9 => (have h := ((((((h).1 hc1)).2 hc6)).2 hc9); ⟨rfl, trivial, h⟩)⟩⟩, fun hc1 => ⟨(((h).2 hc1)).1, ⟨fun hc8 => (have h := (((((h).2 hc1)).2).1 hc8); ⟨rfl, trivial, h⟩), fun hc8 => (have h := (((((h).2 hc1)).2).2 hc8); ⟨fun hc11 => ⟨rfl, trivial, ((h).1 hc11)⟩, fun hc11 => ⟨rfl, trivial, ((h).2 hc11)⟩⟩)⟩⟩⟩)
end
section
/-! words and numbers of a line: the class -/
theorem zg_wordStop {n : Nat} {W : zW} {post : zPo} {a : Int} (hn : 142 ≤ n) (hp1 : W.1 4 2 ≤ 65536) (hpost : post (some (.inl (xwS (W.2.1 1) (W.1 4 2) a))) (zT W)) : ∀ (m K : Nat) (i : Int), 12 * m + 12 ≤ K → W.1 4 2 - i ≤ m → 0 ≤ i → i ≤ 65536 → xwS (W.2.1 1) (W.1 4 2) i = xwS (W.2.1 1) (W.1 4 2) a → zwp jtb zsh n zm_WOwordStop post K (lGo ak_WOwordStop 2) 2 [some (.inr (.inr (some (.inl 4)))), some (.inl a), some (.inl i)] [] (zT W) := by
  intro m
  induction m with
  | zero =>
    intro K i hF hm h0 h1 hx
    refine zp_WOwordStop_2 (by omega) hn ⟨fun h => ?_, fun h => absurd (by omega) h⟩
    rw [← hx, xwS_0 (Or.inl (by omega))] at hpost
    exact hpost
  | succ m ih =>
    intro K i hF hm h0 h1 hx
    refine zp_WOwordStop_2 (by omega) hn ⟨fun h => ?_, fun h => ⟨by omega, fun h2 => ?_, fun h2 => ⟨by omega, ?_⟩⟩⟩
    · rw [← hx, xwS_0 (Or.inl (by omega))] at hpost
      exact hpost
    · rw [← hx, xwS_0 (Or.inr h2)] at hpost
      exact hpost
    · refine ih _ (i + 1) (by omega) (by omega) (by omega) (by omega) ?_
      rw [xwS_1 (by omega) h2]
      exact hx
section
variable {l : Launch} {E : jE} {n : Nat}
theorem zk_wordStop (hn : 142 ≤ n) : zHas l E jcl jtb lw_tbl zsh n (y_WO_wordStop, false, 2, 2, { frames := 0, cells := 0, slots := 0, locals := 0 }, zc_WOwordStop) := by
  refine ⟨⟨rfl, rfl, ?_⟩, ?_⟩
  · exact ⟨show 1 ≤ 2 by decide, m_WO_wordStop, i_WO_wordStop, e_WO_wordStop, fun _ => ⟨_, rfl, rfl⟩⟩
  · rintro vz W po hO hW ⟨V, a, rfl, rfl, h0, h1, h2, hp⟩
    refine zmet (m := zm_WOwordStop) rfl (by decide) (fun _ _ => jtF_ok) lo_WO ao_WOwordStop jC (fun q h => by cases h) (fun q h => by cases h) (fun G h => by cases h) (Nat.le_of_ble_eq_true rfl) hO hW (12 * 65536 + 12 + 2) ?_
    exact zp_WOwordStop_0 (by omega) hn (zg_wordStop hn h2 hp 65536 _ a (by omega) (by omega) h0 h1 rfl)
end
theorem zg_number189 {n K : Nat} {W : zW} {post : zPo} {w lo hi a e ls f d v i : Int} (hK : 15 ≤ K) (hn : 142 ≤ n) (hpost : ∀ r : Int, xR (W.2.1 1) a e lo hi r → post (some (.inl r)) (zT W)) (hls : (ls = 1 ∧ a < e ∧ W.2.1 1 a = 45) ∨ (ls = 0 ∧ ¬ (a < e ∧ W.2.1 1 a = 45))) (h2 : 1 ≤ e - a - ls) (h3 : e - a - ls ≤ 9) (h4 : ¬ (W.2.1 1 (a + ls) = 48 ∧ (1 < e - a - ls ∨ ls = 1))) (h5 : xdg (W.2.1 1) (a + ls) e) (hv : v = xdec (W.2.1 1) (a + ls) (e - (a + ls)).toNat) : zwp jtb zsh n zm_WOnumber post K (lGo ak_WOnumber 189) 189 [some (.inr (.inr (some (.inl 4)))), some (.inl w), some (.inl lo), some (.inl hi), some (.inl a), some (.inl e), some (.inl ls), some (.inl f), some (.inl d), some (.inl v), some (.inl i)] [] (zT W) := by
  have hb := xdec_9 (g := W.2.1 1) (a := a + ls) (i := e) (by omega) (by omega) h5
  rw [← hv] at hb
  have fin : ∀ (r x : Int), x = (1 - 2 * ls) * v → ((r = x ∧ lo ≤ x ∧ x ≤ hi) ∨ (r = -1000000000 ∧ ¬ (lo ≤ x ∧ x ≤ hi))) → post (some (.inl r)) (zT W) := fun r x hx hr => hpost r (xR_v hls h2 h3 h4 h5 hv hx hr)
  refine zp_WOnumber_189 hK hn ⟨fun hc => ?_, fun hc => ?_⟩
  · have hx : v = (1 - 2 * ls) * v := by rw [hc]; omega
    refine ⟨fun q => fin _ v hx (Or.inr ⟨rfl, by omega⟩), fun q => ⟨fun q2 => fin _ v hx (Or.inr ⟨rfl, by omega⟩), fun q2 => fin _ v hx (Or.inl ⟨rfl, by omega, by omega⟩)⟩⟩
  · have e1 : ls = 1 := by
      rcases hls with h | h
      · exact h.1
      · exact absurd h.1 hc
    have hx : -v = (1 - 2 * ls) * v := by rw [e1]; omega
    refine ⟨by omega, fun q => fin _ (-v) hx (Or.inr ⟨rfl, by omega⟩), fun q => ⟨fun q2 => fin _ (-v) hx (Or.inr ⟨rfl, by omega⟩), fun q2 => fin _ (-v) hx (Or.inl ⟨rfl, by omega, by omega⟩)⟩⟩
theorem zg_number131 {n : Nat} {W : zW} {post : zPo} {w lo hi a e ls f d : Int} (hn : 142 ≤ n) (hpost : ∀ r : Int, xR (W.2.1 1) a e lo hi r → post (some (.inl r)) (zT W)) (hls : (ls = 1 ∧ a < e ∧ W.2.1 1 a = 45) ∨ (ls = 0 ∧ ¬ (a < e ∧ W.2.1 1 a = 45))) (h2 : 1 ≤ e - a - ls) (h3 : e - a - ls ≤ 9) (h4 : ¬ (W.2.1 1 (a + ls) = 48 ∧ (1 < e - a - ls ∨ ls = 1))) (h0 : 0 ≤ a) (he : e ≤ 65536) : ∀ (m K : Nat) (v i : Int), 28 * m + 28 ≤ K → e - i ≤ m → a + ls ≤ i → i ≤ e → xdg (W.2.1 1) (a + ls) i → v = xdec (W.2.1 1) (a + ls) (i - (a + ls)).toNat → zwp jtb zsh n zm_WOnumber post K (lGo ak_WOnumber 131) 131 [some (.inr (.inr (some (.inl 4)))), some (.inl w), some (.inl lo), some (.inl hi), some (.inl a), some (.inl e), some (.inl ls), some (.inl f), some (.inl d), some (.inl v), some (.inl i)] [] (zT W) := by
  have hl01 : ls = 0 ∨ ls = 1 := by
    rcases hls with h | h
    · exact Or.inr h.1
    · exact Or.inl h.1
  intro m
  induction m with
  | zero =>
    intro K v i hK hm i0 i1 hd hv
    obtain rfl : i = e := by omega
    exact zp_WOnumber_131 (by omega) hn ⟨fun hc => zg_number189 (by omega) hn hpost hls h2 h3 h4 hd hv, fun hc => absurd (Int.le_refl _) hc⟩
  | succ m ih =>
    intro K v i hK hm i0 i1 hd hv
    have hbad : i < e → ¬ (48 ≤ W.2.1 1 i ∧ W.2.1 1 i ≤ 57) → post (some (.inl (-1000000000))) (zT W) := fun hlt hb => hpost _ (xR_n rfl hls (fun h => hb (h.2.2.2 i i0 hlt)))
    refine zp_WOnumber_131 (by omega) hn ⟨fun hc => ?_, fun hc => ⟨by omega, fun q => hbad (by omega) (by omega), fun q => ⟨by omega, fun q2 => ?_, fun q2 => hbad (by omega) (by omega)⟩⟩⟩
    · obtain rfl : i = e := by omega
      exact zg_number189 (by omega) hn hpost hls h2 h3 h4 hd hv
    · have hb := xdec_8 (g := W.2.1 1) (a := a + ls) (i := i) i0 (by omega) hd
      rw [← hv] at hb
      refine ⟨by omega, by omega, by omega, by omega, by omega, ih _ _ (i + 1) (by omega) (by omega) (by omega) (by omega) (fun j j0 j1 => ?_) ?_⟩
      · by_cases c : j = i
        · rw [c]; omega
        · exact hd j j0 (by omega)
      · rw [xdec_s i0, ← hv]
        omega
theorem zg_number62 {n K : Nat} {W : zW} {post : zPo} {w lo hi a e ls : Int} (hK : 400 ≤ K) (hn : 142 ≤ n) (hpost : ∀ r : Int, xR (W.2.1 1) a e lo hi r → post (some (.inl r)) (zT W)) (hls : (ls = 1 ∧ a < e ∧ W.2.1 1 a = 45) ∨ (ls = 0 ∧ ¬ (a < e ∧ W.2.1 1 a = 45))) (h0 : 0 ≤ a) (h1 : a ≤ e) (he : e ≤ 65536) : zwp jtb zsh n zm_WOnumber post K (lGo ak_WOnumber 62) 62 [some (.inr (.inr (some (.inl 4)))), some (.inl w), some (.inl lo), some (.inl hi), some (.inl a), some (.inl e), some (.inl ls), none, none, none, none] [] (zT W) := by
  have hno : ¬ (1 ≤ e - a - ls ∧ e - a - ls ≤ 9 ∧ ¬ (W.2.1 1 (a + ls) = 48 ∧ (1 < e - a - ls ∨ ls = 1))) → post (some (.inl (-1000000000))) (zT W) := fun hz => hpost _ (xR_n rfl hls (fun h => hz ⟨h.1, h.2.1, h.2.2.1⟩))
  have go : ∀ (K' : Nat) (f d : Int), 300 ≤ K' → f = a + ls → 1 ≤ e - a - ls → e - a - ls ≤ 9 → ¬ (W.2.1 1 (a + ls) = 48 ∧ (1 < e - a - ls ∨ ls = 1)) → zwp jtb zsh n zm_WOnumber post K' (lGo ak_WOnumber 124) 124 [some (.inr (.inr (some (.inl 4)))), some (.inl w), some (.inl lo), some (.inl hi), some (.inl a), some (.inl e), some (.inl ls), some (.inl f), some (.inl d), none, none] [] (zT W) := by
    intro K' f d hK' hf h2 h3 h4
    refine zp_WOnumber_124 (by omega) hn (zg_number131 hn hpost hls h2 h3 h4 h0 he 9 _ 0 f (by omega) (by omega) (by omega) (by omega) (fun x x0 x1 => by omega) ?_)
    rw [hf, show (a + ls - (a + ls)).toNat = 0 by omega]
    rfl
  have hl01 : ls = 0 ∨ ls = 1 := by
    rcases hls with h | h
    · exact Or.inr h.1
    · exact Or.inl h.1
  refine zp_WOnumber_62 (by omega) hn ⟨fun hc => ?_, fun hc => ?_⟩
  · subst hc
    rw [Int.add_zero] at hno
    refine ⟨by omega, fun q => hno (by omega), fun q => ⟨fun q2 => hno (by omega), fun q2 => ⟨by omega, fun q3 => go _ _ _ (by omega) (by omega) (by omega) (by omega) (by rw [Int.add_zero]; omega), fun q3 => ⟨fun q4 => hno (by omega), fun q4 => ⟨fun _ => go _ _ _ (by omega) (by omega) (by omega) (by omega) (by omega), fun q5 => absurd rfl q5⟩⟩⟩⟩⟩
  · obtain rfl : ls = 1 := by omega
    refine ⟨by omega, by omega, fun q => hno (by omega), fun q => ⟨fun q2 => hno (by omega), fun q2 => ⟨by omega, fun q3 => go _ _ _ (by omega) (by omega) (by omega) (by omega) (by omega), fun q3 => ⟨fun q4 => hno (by omega), fun q4 => ⟨fun q5 => absurd q5 (by decide), fun _ => hno (by omega)⟩⟩⟩⟩⟩
/-- a number that is asked for, where the word is there -/
noncomputable def zc_WOnumber (vals : List zv) (W : zW) (post : zPo) : Prop := ∃ (V : zW) (w lo hi : Int), vals = [.inr (.inr (some (.inl 4))), .inl w, .inl lo, .inl hi] ∧ W = zT V ∧ V.1 4 2 ≤ 65536 ∧ 0 ≤ w ∧ w ≤ 7 ∧ w < V.1 4 1 ∧ 0 ≤ V.2.1 5 w ∧ V.2.1 5 w ≤ V.1 4 2 ∧ ∀ r : Int, xR (V.2.1 1) (V.2.1 5 w) (xwS (V.2.1 1) (V.1 4 2) (V.2.1 5 w)) lo hi r → post (some (.inl r)) W
theorem zg_number {n : Nat} {W : zW} {post : zPo} {w lo hi : Int} (hn : 142 ≤ n) (hp1 : W.1 4 2 ≤ 65536) (w0 : 0 ≤ w) (w1 : w ≤ 7) (hc : w < W.1 4 1) (a0 : 0 ≤ W.2.1 5 w) (a1 : W.2.1 5 w ≤ W.1 4 2) (hpost : ∀ r : Int, xR (W.2.1 1) (W.2.1 5 w) (xwS (W.2.1 1) (W.1 4 2) (W.2.1 5 w)) lo hi r → post (some (.inl r)) (zT W)) : zwp jtb zsh n zm_WOnumber post 500 (lGo ak_WOnumber 0) 0 [some (.inr (.inr (some (.inl 4)))), some (.inl w), some (.inl lo), some (.inl hi), none, none, none, none, none, none, none] [] (zT W) := by
  have hb := xwS_b (g := W.2.1 1) (p := W.1 4 2) (a := W.2.1 5 w) a1
  refine zp_WOnumber_0 (by omega) hn ⟨fun h => absurd h (by omega), fun h => ⟨fun h2 => ⟨by omega, W, _, rfl, rfl, a0, by omega, hp1, ?_⟩, fun h2 => absurd (by omega) h2⟩⟩
  refine zp_WOnumber_34 (by omega) hn ⟨fun q => ?_, fun q => ⟨by omega, fun q2 => ?_, fun q2 => ?_⟩⟩
  · exact zg_number62 (by omega) hn hpost (Or.inr ⟨rfl, by omega⟩) a0 hb.1 (by omega)
  · exact zg_number62 (by omega) hn hpost (Or.inr ⟨rfl, fun z => q2 z.2⟩) a0 hb.1 (by omega)
  · exact zg_number62 (by omega) hn hpost (Or.inl ⟨rfl, by omega, q2⟩) a0 hb.1 (by omega)
section
variable {l : Launch} {E : jE} {n : Nat}
theorem zk_number (hn : 142 ≤ n) : zHas l E jcl jtb lw_tbl zsh n (y_WO_number, false, 4, 2, { frames := 1, cells := 0, slots := 0, locals := 22 }, zc_WOnumber) := by
  refine ⟨⟨rfl, rfl, ?_⟩, ?_⟩
  · exact ⟨show 1 ≤ 4 by decide, m_WO_number, i_WO_number, e_WO_number, fun _ => ⟨_, rfl, rfl⟩⟩
  · rintro vz W po hO hW ⟨V, w, lo, hi, rfl, rfl, h1, h2, h3, h4, h5, h6, hp⟩
    refine zmet (m := zm_WOnumber) rfl (by decide) (fun _ _ => jtF_ok) lo_WO ao_WOnumber jC (fun q h => by cases h) (aAllc (fun G h => by obtain rfl := Option.some.inj h; exact ql_WO_59) (fun q h => by cases h)) (aAllc (zk_wordStop hn) (fun q h => by cases h)) (Nat.le_of_ble_eq_true rfl) hO hW 500 ?_
    exact zg_number hn h1 h2 h3 h4 h5 h6 hp
end
end
section
/-! where the words of a line begin -/
noncomputable def xb (g : Int → Int) (p s : Int) : Nat → Int
  | 0 => s
  | k + 1 => xwS g p (xb g p s k) + 1
/-- a line has c + 1 words -/
noncomputable def xWs (g : Int → Int) (p s : Int) (c : Nat) : Prop := (∀ k, k < c → xwS g p (xb g p s k) < p) ∧ xwS g p (xb g p s c) = p
/-- the first j words are not empty -/
noncomputable def xSd (g : Int → Int) (p s : Int) (j : Nat) : Prop := ∀ k, k < j → xb g p s k < xwS g p (xb g p s k)
theorem xSd_s {g : Int → Int} {p s : Int} {j : Nat} : xSd g p s (j + 1) ↔ xSd g p s j ∧ xb g p s j < xwS g p (xb g p s j) := by
  constructor
  · intro h
    exact ⟨fun k hk => h k (by omega), h j (by omega)⟩
  · rintro ⟨h1, h2⟩ k hk
    rcases Nat.lt_or_ge k j with c | c
    · exact h1 k c
    · obtain rfl : k = j := by omega
      exact h2
theorem xwS_lt {g : Int → Int} {p a : Int} (h : a ≤ p) : a < xwS g p a ↔ a < p ∧ ¬ g a = 32 := by
  constructor
  · intro h1
    refine ⟨?_, fun q => ?_⟩
    · have := xwS_b (g := g) h; omega
    · rw [xwS_0 (Or.inr q)] at h1; omega
  · rintro ⟨h1, h2⟩
    rw [← xwS_1 h1 h2]
    have := xwS_b (g := g) (p := p) (a := a + 1) (by omega)
    omega
theorem xb_le {g : Int → Int} {p s : Int} (h : s ≤ p) : ∀ j, (∀ k, k < j → xwS g p (xb g p s k) < p) → xb g p s j ≤ p
  | 0, _ => h
  | j + 1, hk => by
    have h1 := hk j (by omega)
    show xwS g p (xb g p s j) + 1 ≤ p
    omega
noncomputable def xBl (x : Int) (P : Prop) : Prop := (x = 1 ∧ P) ∨ (x = 0 ∧ ¬ P)
theorem xBl_01 {x : Int} {P : Prop} (h : xBl x P) : x = 0 ∨ x = 1 := by
  rcases h with h | h
  · exact Or.inr h.1
  · exact Or.inl h.1
theorem xBl_1 {x : Int} {P : Prop} (h : xBl x P) (c : ¬ x = 0) : P := by
  rcases h with h | h
  · exact h.2
  · exact absurd h.1 c
theorem xBl_0 {x : Int} {P : Prop} (h : xBl x P) (c : x = 0) : ¬ P := by
  rcases h with h | h
  · omega
  · exact h.2
/-- a world that differs in count and begin of the words alone -/
noncomputable def zSf (V W : zW) : Prop := (∀ a, ¬ a = 4 → W.1 a = V.1 a) ∧ (∀ i, ¬ i = 1 → W.1 4 i = V.1 4 i) ∧ (∀ a, ¬ a = 5 → W.2.1 a = V.2.1 a) ∧ W.2.2 = V.2.2
theorem zSf_f {V W : zW} {v : Int} (h : zSf V W) : zSf V (zuF W 4 1 v) := by
  refine ⟨fun a ha => ?_, fun i hi => ?_, h.2.2⟩
  · show va_up W.1 4 (va_up (W.1 4) 1 v) a = V.1 a
    rw [va_up_ne _ _ ha]; exact h.1 a ha
  · show va_up W.1 4 (va_up (W.1 4) 1 v) 4 i = V.1 4 i
    rw [va_up_self, va_up_ne _ _ hi]; exact h.2.1 i hi
theorem zSf_r {V W : zW} {i v : Int} (h : zSf V W) : zSf V (zuR W 5 i v) := by
  refine ⟨h.1, h.2.1, fun a ha => ?_, h.2.2.2⟩
  show va_up W.2.1 5 (zuI (W.2.1 5) i v) a = V.2.1 a
  rw [va_up_ne _ _ ha]
  exact h.2.2.1 a ha
/-- the words found so far: j of them -/
noncomputable def zSi (g : Int → Int) (p s : Int) (W : zW) (j : Nat) (so : Int) : Prop := W.1 4 1 = j ∧ xBl so (xSd g p s j) ∧ ∀ k : Nat, k < j → k < 8 → W.2.1 5 k = xb g p s k
/-- a word that begins is noted -/
theorem zSi_s {g : Int → Int} {p s : Int} {W W' : zW} {j : Nat} {so x i : Int} (h : zSi g p s W j so) (hi : i = xb g p s j) (hip : i ≤ p) (hx : xBl x (xSd g p s j ∧ i < p ∧ ¬ g i = 32)) (hW : W' = W ∧ 8 ≤ j ∨ W' = zuR W 5 (W.1 4 1) i ∧ j < 8) : zSi g p s (zuF W' 4 1 (W'.1 4 1 + 1)) (j + 1) x := by
  obtain ⟨h1, h2, h3⟩ := h
  have e1 : W'.1 = W.1 := by rcases hW with ⟨rfl, -⟩ | ⟨rfl, -⟩ <;> rfl
  refine ⟨?_, ?_, fun k hk k8 => ?_⟩
  · show va_up W'.1 4 (va_up (W'.1 4) 1 (W'.1 4 1 + 1)) 4 1 = _
    rw [va_up_self, va_up_self, e1, h1]
    omega
  · have e : (xSd g p s j ∧ i < p ∧ ¬ g i = 32) ↔ xSd g p s (j + 1) := by
      rw [xSd_s, ← hi, xwS_lt hip]
    unfold xBl at hx ⊢
    rwa [e] at hx
  · show W'.2.1 5 k = _
    rcases hW with ⟨rfl, c⟩ | ⟨rfl, c⟩
    · exact h3 k (by omega) k8
    · show va_up W.2.1 5 (zuI (W.2.1 5) (W.1 4 1) i) 5 k = _
      rw [va_up_self, h1]
      unfold zuI
      by_cases ek : k = j
      · rw [ek, if_pos rfl, hi]
      · rw [if_neg (by omega)]
        exact h3 k (by omega) k8
/-- where the line is read: fresh or within a word -/
noncomputable def zSl (g : Int → Int) (p s : Int) (j : Nat) (f i : Int) : Prop := (f = 1 ∧ i = xb g p s j ∧ ∀ k, k < j → xwS g p (xb g p s k) < p) ∨ (f = 0 ∧ 1 ≤ j ∧ (∀ k, k < j - 1 → xwS g p (xb g p s k) < p) ∧ ((i ≤ p ∧ xwS g p i = xwS g p (xb g p s (j - 1))) ∨ (i = p + 1 ∧ xwS g p (xb g p s (j - 1)) = p)))
theorem zg_split {n : Nat} {V : zW} {post : zPo} {p s : Int} {g : Int → Int} (hn : 142 ≤ n) (hg : V.2.1 1 = g) (hp : V.1 4 2 = p) (hp1 : p ≤ 65536) (hs0 : 0 ≤ s) (hsp : s ≤ p) (hpost : ∀ (W : zW) (c : Nat) (r : Int), zSf V W → xWs g p s c → zSi g p s W (c + 1) r → post (some (.inl r)) (zT W)) : ∀ (m K : Nat) (W : zW) (so f i : Int) (j : Nat), 120 * m + 60 ≤ K → p + 1 - i ≤ m → zSf V W → zSi g p s W j so → s ≤ i → i ≤ p + 1 → (j : Int) ≤ i → zSl g p s j f i → zwp jtb zsh n zm_WOsplit post K (lGo ak_WOsplit 14) 14 [some (.inr (.inr (some (.inl 4)))), some (.inl so), some (.inl f), some (.inl i)] [] (zT W) := by
  have hend : ∀ (K : Nat) (W : zW) (so f i : Int) (j : Nat), 20 ≤ K → zSf V W → zSi g p s W j so → i = p + 1 → zSl g p s j f i → zwp jtb zsh n zm_WOsplit post K (lGo ak_WOsplit 14) 14 [some (.inr (.inr (some (.inl 4)))), some (.inl so), some (.inl f), some (.inl i)] [] (zT W) := by
    intro K W so f i j hK hS hI hi hc
    have eF : W.1 4 2 = p := by rw [hS.2.1 2 (by decide)]; exact hp
    refine zp_WOsplit_14 hK hn ⟨fun _ => ⟨xBl_01 hI.2.1, ?_⟩, fun h => absurd (by omega) h⟩
    rcases hc with ⟨-, h1, h2⟩ | ⟨-, h1, h2, h3⟩
    · have := xb_le hsp j h2
      omega
    · rcases h3 with h3 | h3
      · omega
      · obtain ⟨c, rfl⟩ : ∃ c, j = c + 1 := ⟨j - 1, by omega⟩
        exact hpost W c so hS ⟨h2, h3.2⟩ hI
  intro m
  induction m with
  | zero =>
    intro K W so f i j hK hm hS hI hi0 hi1 hj hc
    exact hend K W so f i j (by omega) hS hI (by omega) hc
  | succ m ih =>
    intro K W so f i j hK hm hS hI hi0 hi1 hj hc
    by_cases hx : i = p + 1
    · exact hend K W so f i j (by omega) hS hI hx hc
    have hip : i ≤ p := by omega
    -- behind the word's begin
    have go : ∀ (k1 : Nat) (W : zW) (so f : Int) (j : Nat), 120 * m + 75 ≤ k1 → zSf V W → zSi g p s W j so → 1 ≤ j → (j : Int) ≤ i + 1 → (∀ k, k < j - 1 → xwS g p (xb g p s k) < p) → xwS g p i = xwS g p (xb g p s (j - 1)) → zwp jtb zsh n zm_WOsplit post k1 (lGo ak_WOsplit 87) 87 [some (.inr (.inr (some (.inl 4)))), some (.inl so), some (.inl f), some (.inl i)] [] (zT W) := by
      intro k1 W so f j hk1 hS hI h1 hj2 h2 h3
      have eF : W.1 4 2 = p := by rw [hS.2.1 2 (by decide)]; exact hp
      have eR : W.2.1 1 = g := by rw [hS.2.2.1 1 (by decide)]; exact hg
      refine zp_WOsplit_87 (by omega) hn ⟨fun h => ?_, fun h => ⟨by omega, fun h4 => ?_, fun h4 => ?_⟩⟩
      · obtain rfl : i = p := by omega
        refine zp_WOsplit_111 (by omega) hn ⟨by omega, ih _ W so 0 (i + 1) j (by omega) (by omega) hS hI (by omega) (by omega) (by omega) (Or.inr ⟨rfl, h1, h2, Or.inr ⟨rfl, ?_⟩⟩)⟩
        rw [← h3, xwS_0 (Or.inl (by omega))]
      · rw [eR] at h4
        refine zp_WOsplit_111 (by omega) hn ⟨by omega, ih _ W so 0 (i + 1) j (by omega) (by omega) hS hI (by omega) (by omega) (by omega) (Or.inr ⟨rfl, h1, h2, Or.inl ⟨by omega, ?_⟩⟩)⟩
        rw [← h3]
        exact xwS_1 (by omega) h4
      · rw [eR] at h4
        have h6 : xwS g p (xb g p s (j - 1)) = i := by rw [← h3, xwS_0 (Or.inr h4)]
        refine zp_WOsplit_111 (by omega) hn ⟨by omega, ih _ W so 1 (i + 1) j (by omega) (by omega) hS hI (by omega) (by omega) (by omega) (Or.inl ⟨rfl, ?_, fun k hk => ?_⟩)⟩
        · obtain ⟨c, rfl⟩ : ∃ c, j = c + 1 := ⟨j - 1, by omega⟩
          show _ = xwS g p (xb g p s c) + 1
          rw [show c + 1 - 1 = c by omega] at h6
          omega
        · by_cases e : k = j - 1
          · rw [e, h6]; omega
          · exact h2 k (by omega)
    have eF : W.1 4 2 = p := by rw [hS.2.1 2 (by decide)]; exact hp
    have eR : W.2.1 1 = g := by rw [hS.2.2.1 1 (by decide)]; exact hg
    refine zp_WOsplit_14 (by omega) hn ⟨fun h => absurd h (by omega), fun _ => ⟨fun hf => ?_, fun hf => ?_⟩⟩
    · rcases hc with h | ⟨-, h1, h2, h3⟩
      · omega
      · rcases h3 with h3 | h3
        · exact go _ W so f j (by omega) hS hI h1 (by omega) h2 h3.2
        · omega
    · rcases hc with ⟨rfl, h1, h2⟩ | h
      · -- a word begins
        have st : ∀ (k1 : Nat) (x : Int), 120 * m + 94 ≤ k1 → xBl x (xSd g p s j ∧ i < p ∧ ¬ g i = 32) → zwp jtb zsh n zm_WOsplit post k1 (lGo ak_WOsplit 54) 54 [some (.inr (.inr (some (.inl 4)))), some (.inl so), some (.inl 1), some (.inl i)] [.inl x] (zT W) := by
          intro k1 x hk1 hx
          have h87 : ∀ (k2 : Nat) (W' : zW), 120 * m + 81 ≤ k2 → zSf V W' → (W' = W ∧ 8 ≤ j ∨ W' = zuR W 5 (W.1 4 1) i ∧ j < 8) → zwp jtb zsh n zm_WOsplit post k2 (lGo ak_WOsplit 77) 77 [some (.inr (.inr (some (.inl 4)))), some (.inl x), some (.inl 1), some (.inl i)] [] (zT W') := by
            intro k2 W' hk2 hS2 hR
            have e2 : W'.1 4 1 = j := by
              rcases hR with ⟨rfl, -⟩ | ⟨rfl, -⟩ <;> exact hI.1
            refine zp_WOsplit_77 (by omega) hn ⟨by omega, go _ _ x 1 (j + 1) (by omega) (zSf_f hS2) (zSi_s hI h1 hip hx hR) (by omega) (by omega) (fun k hk => h2 k (by omega)) ?_⟩
            rw [h1]
            rfl
          have e1 := hI.1
          exact zp_WOsplit_54 (by omega) hn ⟨fun h8 => h87 _ W (by omega) hS (Or.inl ⟨rfl, by omega⟩), fun h8 => ⟨by omega, h87 _ _ (by omega) (zSf_r hS) (Or.inr ⟨rfl, by omega⟩)⟩⟩
        refine ⟨fun hs => st _ 0 (by omega) (Or.inr ⟨rfl, fun q => xBl_0 hI.2.1 hs q.1⟩), fun hs => ⟨fun h3 => st _ 0 (by omega) (Or.inr ⟨rfl, fun q => by omega⟩), fun h3 => ⟨by omega, fun h4 => ?_, fun h4 => ?_⟩⟩⟩
        · rw [eR] at h4
          exact st _ 0 (by omega) (Or.inr ⟨rfl, fun q => q.2.2 h4⟩)
        · rw [eR] at h4
          exact st _ 1 (by omega) (Or.inl ⟨rfl, xBl_1 hI.2.1 hs, by omega, h4⟩)
      · exact absurd h.1 hf
noncomputable def zc_WOsplit (vals : List zv) (W : zW) (post : zPo) : Prop := ∃ V : zW, vals = [.inr (.inr (some (.inl 4)))] ∧ W = zT V ∧ 0 ≤ V.1 4 4 ∧ V.1 4 4 ≤ V.1 4 2 ∧ V.1 4 2 ≤ 65536 ∧ ∀ (U : zW) (c : Nat) (r : Int), zSf V U → xWs (V.2.1 1) (V.1 4 2) (V.1 4 4) c → zSi (V.2.1 1) (V.1 4 2) (V.1 4 4) U (c + 1) r → post (some (.inl r)) (zT U)
section
variable {l : Launch} {E : jE} {n : Nat}
theorem zk_split (hn : 142 ≤ n) : zHas l E jcl jtb lw_tbl zsh n (y_WO_split, false, 1, 2, { frames := 0, cells := 0, slots := 0, locals := 0 }, zc_WOsplit) := by
  refine ⟨⟨rfl, rfl, ?_⟩, ?_⟩
  · exact ⟨show 1 ≤ 1 by decide, m_WO_split, i_WO_split, e_WO_split, fun _ => ⟨_, rfl, rfl⟩⟩
  · rintro vz W po hO hW ⟨V, rfl, rfl, h0, h1, h2, hp⟩
    refine zmet (m := zm_WOsplit) rfl (by decide) (fun _ _ => jtF_ok) lo_WO ao_WOsplit jC (fun q h => by cases h) (fun q h => by cases h) (fun G h => by cases h) (Nat.le_of_ble_eq_true rfl) hO hW (120 * 65537 + 70) ?_
    refine zp_WOsplit_0 (by omega) hn (zg_split (V := V) hn rfl rfl h2 h0 h1 hp 65537 _ _ 1 1 (V.1 4 4) 0 (by omega) (by omega) (zSf_f ⟨fun _ _ => rfl, fun _ _ => rfl, fun _ _ => rfl, rfl⟩) ⟨?_, Or.inl ⟨rfl, fun k hk => absurd hk (Nat.not_lt_zero k)⟩, fun k hk => absurd hk (Nat.not_lt_zero k)⟩ (by omega) (by omega) h0 (Or.inl ⟨rfl, rfl, fun k hk => absurd hk (Nat.not_lt_zero k)⟩))
    show va_up V.1 4 (va_up (V.1 4) 1 0) 4 1 = _
    rw [va_up_self, va_up_self]
    rfl
end
end
section
noncomputable def zm_MMisText : zM := (some .boolean, { frames := 0, cells := 0, slots := 0, locals := 0 }, ([], []), [], ak_MMisText)
theorem zp_MMisText_0 {n K : Nat} {W : zW} {post : zPo} {b : Int} (hK : 9 ≤ K) (hn : 142 ≤ n) (h : (b < 32 → post (some (.inl (0))) W) ∧ (¬ b < 32 → (126 < b → post (some (.inl (0))) W) ∧ (¬ 126 < b → post (some (.inl (1))) W))) : zwp jtb zsh n zm_MMisText post K (lGo ak_MMisText 0) 0 [some (.inl (b))] [] W := by
  obtain ⟨k, rfl⟩ : ∃ k, K = k + 9 := ⟨K - 9, by omega⟩
  exact (show (b < 32 → 1 = 1 ∧ ((0 : Int) = 0 ∨ (0 : Int) = 1) ∧ post (some (.inl (0))) W) ∧ (¬ b < 32 → (126 < b → 1 = 1 ∧ ((0 : Int) = 0 ∨ (0 : Int) = 1) ∧ post (some (.inl (0))) W) ∧ (¬ 126 < b → 1 = 1 ∧ ((1 : Int) = 0 ∨ (1 : Int) = 1) ∧ post (some (.inl (1))) W)) from ⟨fun hc2 => ⟨rfl, Or.inl rfl, ((h).1 hc2)⟩, fun hc2 => ⟨fun hc5 => ⟨rfl, Or.inl rfl, ((((h).2 hc2)).1 hc5)⟩, fun hc5 => ⟨rfl, Or.inr rfl, ((((h).2 hc2)).2 hc5)⟩⟩⟩)
noncomputable def zc_MMisText (vals : List zv) (W : zW) (post : zPo) : Prop := ∃ b : Int, vals = [.inl b] ∧ ∀ r : Int, xBl r (32 ≤ b ∧ b ≤ 126) → post (some (.inl r)) W
noncomputable def zm_MMisOfText : zM := (some .boolean, { frames := 1, cells := 0, slots := 0, locals := 20 }, ([(104, 2388, 0)], []), [(y_MM_isText, true, 1, 0, { frames := 0, cells := 0, slots := 0, locals := 0 }, zc_MMisText)], ak_MMisOfText)
theorem zp_MMisOfText_0 {n K : Nat} {W : zW} {post : zPo}  (hK : 5 ≤ K) (hn : 142 ≤ n) (h : zwp jtb zsh n zm_MMisOfText post (K - 5) (lGo ak_MMisOfText 7) 7 [some (.inr (.inr (some (.inl 87)))), some (.inl (1)), some (.inl (W.1 87 8))] [] W) : zwp jtb zsh n zm_MMisOfText post K (lGo ak_MMisOfText 0) 0 [some (.inr (.inr (some (.inl 87)))), none, none] [] W := by
  obtain ⟨k, rfl⟩ : ∃ k, K = k + 5 := ⟨K - 5, by omega⟩
  exact (show 87 < n ∧ 11 = 11 ∧ zwp jtb zsh n zm_MMisOfText post (k + 0) (lGo ak_MMisOfText 7) 7 [some (.inr (.inr (some (.inl 87)))), some (.inl (1)), some (.inl (W.1 87 8))] [] W from ⟨(Nat.lt_of_lt_of_le (by decide) hn), rfl, h⟩)
theorem zp_MMisOfText_7 {n K : Nat} {W : zW} {post : zPo} {s i : Int} (hK : 11 ≤ K) (hn : 142 ≤ n) (h : ((W.1 87 9) ≤ i → (s = 0 ∨ s = 1) ∧ post (some (.inl (s))) W) ∧ (¬ (W.1 87 9) ≤ i → (s = 0 → zwp jtb zsh n zm_MMisOfText post (K - 6) (lGo ak_MMisOfText 35) 35 [some (.inr (.inr (some (.inl 87)))), some (.inl (s)), some (.inl (i))] [] W) ∧ (¬ s = 0 → (0 ≤ i ∧ i < 65536) ∧ zc_MMisText [.inl (W.2.1 88 i)] W (fun v W' => zwp jtb zsh n zm_MMisOfText post (K - 11) (lGo ak_MMisOfText 28) 28 [some (.inr (.inr (some (.inl 87)))), some (.inl (s)), some (.inl (i))] (v.toList ++ []) W')))) : zwp jtb zsh n zm_MMisOfText post K (lGo ak_MMisOfText 7) 7 [some (.inr (.inr (some (.inl 87)))), some (.inl (s)), some (.inl (i))] [] W := by
  obtain ⟨k, rfl⟩ : ∃ k, K = k + 11 := ⟨K - 11, by omega⟩
  exact (show 87 < n ∧ 11 = 11 ∧ ((W.1 87 9) ≤ i → 1 = 1 ∧ (s = 0 ∨ s = 1) ∧ post (some (.inl (s))) W) ∧ (¬ (W.1 87 9) ≤ i → (s = 0 → zwp jtb zsh n zm_MMisOfText post (k + 5) (lGo ak_MMisOfText 35) 35 [some (.inr (.inr (some (.inl 87)))), some (.inl (s)), some (.inl (i))] [] W) ∧ (¬ s = 0 → 87 < n ∧ 11 = 11 ∧ 88 < n ∧ FieldType.byte = FieldType.byte ∧ (0 ≤ i ∧ i < 65536) ∧ 3 = 3 ∧ true = true ∧ jin3 104 2388 0 zm_MMisOfText.2.2.1.1 = true ∧ lRm zm_MMisOfText.2.1 { frames := 0, cells := 0, slots := 0, locals := 0 } 1 = true ∧ Nat.ble 1 1 = true ∧ Nat.ble 0 8 = true ∧ zc_MMisText [.inl (W.2.1 88 i)] W (fun v W' => zwp jtb zsh n zm_MMisOfText post (k + 0) (lGo ak_MMisOfText 28) 28 [some (.inr (.inr (some (.inl 87)))), some (.inl (s)), some (.inl (i))] (v.toList ++ []) W'))) from ⟨(Nat.lt_of_lt_of_le (by decide) hn), rfl, ⟨fun hc3 => ⟨rfl, ((h).1 hc3)⟩, fun hc3 => ⟨fun hc5 => ((((h).2 hc3)).1 hc5), fun hc5 => ⟨(Nat.lt_of_lt_of_le (by decide) hn), rfl, ⟨(Nat.lt_of_lt_of_le (by decide) hn), rfl, (((((h).2 hc3)).2 hc5)).1, (have h := (((((h).2 hc3)).2 hc5)).2; ⟨rfl, rfl, rfl, rfl, rfl, rfl, h⟩)⟩⟩⟩⟩⟩)
theorem zp_MMisOfText_28 {n K : Nat} {W : zW} {post : zPo} {s i x : Int} (hK : 3 ≤ K) (hn : 142 ≤ n) (h : (x = 0 → zwp jtb zsh n zm_MMisOfText post (K - 1) (lGo ak_MMisOfText 35) 35 [some (.inr (.inr (some (.inl 87)))), some (.inl (s)), some (.inl (i))] [] W) ∧ (¬ x = 0 → zwp jtb zsh n zm_MMisOfText post (K - 3) (lGo ak_MMisOfText 36) 36 [some (.inr (.inr (some (.inl 87)))), some (.inl (s)), some (.inl (i))] [.inl (1)] W)) : zwp jtb zsh n zm_MMisOfText post K (lGo ak_MMisOfText 28) 28 [some (.inr (.inr (some (.inl 87)))), some (.inl (s)), some (.inl (i))] [.inl (x)] W := by
  obtain ⟨k, rfl⟩ : ∃ k, K = k + 3 := ⟨K - 3, by omega⟩
  exact (show (x = 0 → zwp jtb zsh n zm_MMisOfText post (k + 2) (lGo ak_MMisOfText 35) 35 [some (.inr (.inr (some (.inl 87)))), some (.inl (s)), some (.inl (i))] [] W) ∧ (¬ x = 0 → zwp jtb zsh n zm_MMisOfText post (k + 0) (lGo ak_MMisOfText 36) 36 [some (.inr (.inr (some (.inl 87)))), some (.inl (s)), some (.inl (i))] [.inl (1)] W) from ⟨fun hc0 => ((h).1 hc0), fun hc0 => ((h).2 hc0)⟩)
theorem zp_MMisOfText_35 {n K : Nat} {W : zW} {post : zPo} {s i : Int} (hK : 1 ≤ K) (hn : 142 ≤ n) (h : zwp jtb zsh n zm_MMisOfText post (K - 1) (lGo ak_MMisOfText 36) 36 [some (.inr (.inr (some (.inl 87)))), some (.inl (s)), some (.inl (i))] [.inl (0)] W) : zwp jtb zsh n zm_MMisOfText post K (lGo ak_MMisOfText 35) 35 [some (.inr (.inr (some (.inl 87)))), some (.inl (s)), some (.inl (i))] [] W := by
  obtain ⟨k, rfl⟩ : ∃ k, K = k + 1 := ⟨K - 1, by omega⟩
  exact (show zwp jtb zsh n zm_MMisOfText post (k + 0) (lGo ak_MMisOfText 36) 36 [some (.inr (.inr (some (.inl 87)))), some (.inl (s)), some (.inl (i))] [.inl (0)] W from h)
theorem zp_MMisOfText_36 {n K : Nat} {W : zW} {post : zPo} {s i x : Int} (hK : 3 ≤ K) (hn : 142 ≤ n) (h : (-2147483648 ≤ i + 1 ∧ i + 1 ≤ 2147483647) ∧ zwp jtb zsh n zm_MMisOfText post (K - 3) (lGo ak_MMisOfText 7) 7 [some (.inr (.inr (some (.inl 87)))), some (.inl (x)), some (.inl (i + 1))] [] W) : zwp jtb zsh n zm_MMisOfText post K (lGo ak_MMisOfText 36) 36 [some (.inr (.inr (some (.inl 87)))), some (.inl (s)), some (.inl (i))] [.inl (x)] W := by
  obtain ⟨k, rfl⟩ : ∃ k, K = k + 3 := ⟨K - 3, by omega⟩
  exact (show (-2147483648 ≤ i + 1 ∧ i + 1 ≤ 2147483647) ∧ zwp jtb zsh n zm_MMisOfText post (k + 0) (lGo ak_MMisOfText 7) 7 [some (.inr (.inr (some (.inl 87)))), some (.inl (x)), some (.inl (i + 1))] [] W from ⟨(h).1, (h).2⟩)
noncomputable def zm_MMsplit : zM := (none, { frames := 0, cells := 0, slots := 0, locals := 0 }, ([], []), [], ak_MMsplitX)
theorem zp_MMsplit_0 {n K : Nat} {W : zW} {post : zPo}  (hK : 9 ≤ K) (hn : 142 ≤ n) (h : zwp jtb zsh n zm_MMsplit post (K - 9) (lGo ak_MMsplitX 15) 15 [some (.inr (.inr (some (.inl 87)))), some (.inl (W.1 87 8)), some (.inl (W.1 87 8))] [] (zuF W 87 13 0)) : zwp jtb zsh n zm_MMsplit post K (lGo ak_MMsplitX 0) 0 [some (.inr (.inr (some (.inl 87)))), none, none] [] W := by
  obtain ⟨k, rfl⟩ : ∃ k, K = k + 9 := ⟨K - 9, by omega⟩
  exact (show 87 < n ∧ 11 = 11 ∧ (some 0 : Option Nat) = some 0 ∧ ((0 : Nat) = 0 ∨ ((0 : Nat) = 1 ∧ (0 = 0 ∨ 0 = 1))) ∧ 87 < n ∧ 11 = 11 ∧ 87 < n ∧ 11 = 11 ∧ zwp jtb zsh n zm_MMsplit post (k + 0) (lGo ak_MMsplitX 15) 15 [some (.inr (.inr (some (.inl 87)))), some (.inl (W.1 87 8)), some (.inl (W.1 87 8))] [] (zuF W 87 13 0) from ⟨(Nat.lt_of_lt_of_le (by decide) hn), rfl, rfl, (Or.inl rfl), ⟨(Nat.lt_of_lt_of_le (by decide) hn), rfl, ⟨(Nat.lt_of_lt_of_le (by decide) hn), rfl, h⟩⟩⟩)
theorem zp_MMsplit_15 {n K : Nat} {W : zW} {post : zPo} {b i : Int} (hK : 14 ≤ K) (hn : 142 ≤ n) (h : ((W.1 87 9) < i → post none W) ∧ (¬ (W.1 87 9) < i → (i = (W.1 87 9) → zwp jtb zsh n zm_MMsplit post (K - 8) (lGo ak_MMsplitX 42) 42 [some (.inr (.inr (some (.inl 87)))), some (.inl (b)), some (.inl (i))] [] W) ∧ (¬ i = (W.1 87 9) → (0 ≤ i ∧ i < 65536) ∧ (¬ (W.2.1 88 i) = 32 → zwp jtb zsh n zm_MMsplit post (K - 14) (lGo ak_MMsplitX 87) 87 [some (.inr (.inr (some (.inl 87)))), some (.inl (b)), some (.inl (i))] [] W) ∧ ((W.2.1 88 i) = 32 → zwp jtb zsh n zm_MMsplit post (K - 14) (lGo ak_MMsplitX 42) 42 [some (.inr (.inr (some (.inl 87)))), some (.inl (b)), some (.inl (i))] [] W)))) : zwp jtb zsh n zm_MMsplit post K (lGo ak_MMsplitX 15) 15 [some (.inr (.inr (some (.inl 87)))), some (.inl (b)), some (.inl (i))] [] W := by
  obtain ⟨k, rfl⟩ : ∃ k, K = k + 14 := ⟨K - 14, by omega⟩
  exact (show 87 < n ∧ 11 = 11 ∧ ((W.1 87 9) < i → 1 = 1 ∧ (none : Option FieldType) = none ∧ post none W) ∧ (¬ (W.1 87 9) < i → 87 < n ∧ 11 = 11 ∧ (i = (W.1 87 9) → zwp jtb zsh n zm_MMsplit post (k + 6) (lGo ak_MMsplitX 42) 42 [some (.inr (.inr (some (.inl 87)))), some (.inl (b)), some (.inl (i))] [] W) ∧ (¬ i = (W.1 87 9) → 87 < n ∧ 11 = 11 ∧ 88 < n ∧ FieldType.byte = FieldType.byte ∧ (0 ≤ i ∧ i < 65536) ∧ (¬ (W.2.1 88 i) = 32 → zwp jtb zsh n zm_MMsplit post (k + 0) (lGo ak_MMsplitX 87) 87 [some (.inr (.inr (some (.inl 87)))), some (.inl (b)), some (.inl (i))] [] W) ∧ ((W.2.1 88 i) = 32 → zwp jtb zsh n zm_MMsplit post (k + 0) (lGo ak_MMsplitX 42) 42 [some (.inr (.inr (some (.inl 87)))), some (.inl (b)), some (.inl (i))] [] W))) from ⟨(Nat.lt_of_lt_of_le (by decide) hn), rfl, ⟨fun hc3 => ⟨rfl, rfl, ((h).1 hc3)⟩, fun hc3 => ⟨(Nat.lt_of_lt_of_le (by decide) hn), rfl, ⟨fun hc7 => ((((h).2 hc3)).1 hc7), fun hc7 => ⟨(Nat.lt_of_lt_of_le (by decide) hn), rfl, ⟨(Nat.lt_of_lt_of_le (by decide) hn), rfl, (((((h).2 hc3)).2 hc7)).1, (have h := (((((h).2 hc3)).2 hc7)).2; ⟨fun hc13 => ((h).1 hc13), fun hc13 => ((h).2 hc13)⟩)⟩⟩⟩⟩⟩⟩)
theorem zp_MMsplit_42 {n K : Nat} {W : zW} {post : zPo} {b i : Int} (hK : 7 ≤ K) (hn : 142 ≤ n) (h : (¬ i = b → zwp jtb zsh n zm_MMsplit post (K - 3) (lGo ak_MMsplitX 53) 53 [some (.inr (.inr (some (.inl 87)))), some (.inl (b)), some (.inl (i))] [] W) ∧ (i = b → post none (zuF W 87 13 0))) : zwp jtb zsh n zm_MMsplit post K (lGo ak_MMsplitX 42) 42 [some (.inr (.inr (some (.inl 87)))), some (.inl (b)), some (.inl (i))] [] W := by
  obtain ⟨k, rfl⟩ : ∃ k, K = k + 7 := ⟨K - 7, by omega⟩
  exact (show (¬ i = b → zwp jtb zsh n zm_MMsplit post (k + 4) (lGo ak_MMsplitX 53) 53 [some (.inr (.inr (some (.inl 87)))), some (.inl (b)), some (.inl (i))] [] W) ∧ (i = b → 87 < n ∧ 11 = 11 ∧ (some 0 : Option Nat) = some 0 ∧ ((0 : Nat) = 0 ∨ ((0 : Nat) = 1 ∧ (0 = 0 ∨ 0 = 1))) ∧ 1 = 1 ∧ (none : Option FieldType) = none ∧ post none (zuF W 87 13 0)) from ⟨fun hc2 => ((h).1 hc2), fun hc2 => ⟨(Nat.lt_of_lt_of_le (by decide) hn), rfl, rfl, (Or.inl rfl), ⟨rfl, rfl, ((h).2 hc2)⟩⟩⟩)
theorem zp_MMsplit_53 {n K : Nat} {W : zW} {post : zPo} {b i : Int} (hK : 22 ≤ K) (hn : 142 ≤ n) (h : (0 ≤ (W.1 87 13) ∧ (W.1 87 13) < 32768) ∧ (0 ≤ (W.1 87 13) ∧ (W.1 87 13) < 32768) ∧ (-2147483648 ≤ (W.1 87 13) + 1 ∧ (W.1 87 13) + 1 ≤ 2147483647) ∧ (-2147483648 ≤ i + 1 ∧ i + 1 ≤ 2147483647) ∧ zwp jtb zsh n zm_MMsplit post (K - 22) (lGo ak_MMsplitX 87) 87 [some (.inr (.inr (some (.inl 87)))), some (.inl (i + 1)), some (.inl (i))] [] (zuF (zuR (zuR W 137 (W.1 87 13) b) 138 (W.1 87 13) i) 87 13 ((W.1 87 13) + 1))) : zwp jtb zsh n zm_MMsplit post K (lGo ak_MMsplitX 53) 53 [some (.inr (.inr (some (.inl 87)))), some (.inl (b)), some (.inl (i))] [] W := by
  obtain ⟨k, rfl⟩ : ∃ k, K = k + 22 := ⟨K - 22, by omega⟩
  exact (show 87 < n ∧ 11 = 11 ∧ 87 < n ∧ 11 = 11 ∧ 137 < n ∧ FieldType.int = FieldType.int ∧ (0 ≤ (W.1 87 13) ∧ (W.1 87 13) < 32768) ∧ True ∧ 87 < n ∧ 11 = 11 ∧ 87 < n ∧ 11 = 11 ∧ 138 < n ∧ FieldType.int = FieldType.int ∧ (0 ≤ (W.1 87 13) ∧ (W.1 87 13) < 32768) ∧ True ∧ 87 < n ∧ 11 = 11 ∧ (-2147483648 ≤ (W.1 87 13) + 1 ∧ (W.1 87 13) + 1 ≤ 2147483647) ∧ 87 < n ∧ 11 = 11 ∧ (some 0 : Option Nat) = some 0 ∧ ((0 : Nat) = 0 ∨ ((0 : Nat) = 1 ∧ (((W.1 87 13) + 1) = 0 ∨ ((W.1 87 13) + 1) = 1))) ∧ (-2147483648 ≤ i + 1 ∧ i + 1 ≤ 2147483647) ∧ zwp jtb zsh n zm_MMsplit post (k + 0) (lGo ak_MMsplitX 87) 87 [some (.inr (.inr (some (.inl 87)))), some (.inl (i + 1)), some (.inl (i))] [] (zuF (zuR (zuR W 137 (W.1 87 13) b) 138 (W.1 87 13) i) 87 13 ((W.1 87 13) + 1)) from ⟨(Nat.lt_of_lt_of_le (by decide) hn), rfl, ⟨(Nat.lt_of_lt_of_le (by decide) hn), rfl, ⟨(Nat.lt_of_lt_of_le (by decide) hn), rfl, (h).1, trivial, ⟨(Nat.lt_of_lt_of_le (by decide) hn), rfl, ⟨(Nat.lt_of_lt_of_le (by decide) hn), rfl, ⟨(Nat.lt_of_lt_of_le (by decide) hn), rfl, ((h).2).1, trivial, ⟨(Nat.lt_of_lt_of_le (by decide) hn), rfl, ⟨(((h).2).2).1, ⟨(Nat.lt_of_lt_of_le (by decide) hn), rfl, rfl, (Or.inl rfl), ⟨((((h).2).2).2).1, ((((h).2).2).2).2⟩⟩⟩⟩⟩⟩⟩⟩⟩⟩)
theorem zp_MMsplit_87 {n K : Nat} {W : zW} {post : zPo} {b i : Int} (hK : 2 ≤ K) (hn : 142 ≤ n) (h : (-2147483648 ≤ i + 1 ∧ i + 1 ≤ 2147483647) ∧ zwp jtb zsh n zm_MMsplit post (K - 2) (lGo ak_MMsplitX 15) 15 [some (.inr (.inr (some (.inl 87)))), some (.inl (b)), some (.inl (i + 1))] [] W) : zwp jtb zsh n zm_MMsplit post K (lGo ak_MMsplitX 87) 87 [some (.inr (.inr (some (.inl 87)))), some (.inl (b)), some (.inl (i))] [] W := by
  obtain ⟨k, rfl⟩ : ∃ k, K = k + 2 := ⟨K - 2, by omega⟩
  exact (show (-2147483648 ≤ i + 1 ∧ i + 1 ≤ 2147483647) ∧ zwp jtb zsh n zm_MMsplit post (k + 0) (lGo ak_MMsplitX 15) 15 [some (.inr (.inr (some (.inl 87)))), some (.inl (b)), some (.inl (i + 1))] [] W from ⟨(h).1, (h).2⟩)
noncomputable def zm_MMnumber : zM := (some .int, { frames := 0, cells := 0, slots := 0, locals := 0 }, ([], []), [], ak_MMnumberX)
theorem zp_MMnumber_0 {n K : Nat} {W : zW} {post : zPo} {w lo hi : Int} (hK : 13 ≤ K) (hn : 142 ≤ n) (h : (0 ≤ w ∧ w < 32768) ∧ (0 ≤ (W.2.1 137 w) ∧ (W.2.1 137 w) < 65536) ∧ (¬ (W.2.1 88 (W.2.1 137 w)) = 45 → zwp jtb zsh n zm_MMnumber post (K - 12) (lGo ak_MMnumberX 25) 25 [some (.inr (.inr (some (.inl 87)))), some (.inl (w)), some (.inl (lo)), some (.inl (hi)), some (.inl (W.2.1 137 w)), none, none, none, none, none] [.inl (0)] W) ∧ ((W.2.1 88 (W.2.1 137 w)) = 45 → zwp jtb zsh n zm_MMnumber post (K - 13) (lGo ak_MMnumberX 25) 25 [some (.inr (.inr (some (.inl 87)))), some (.inl (w)), some (.inl (lo)), some (.inl (hi)), some (.inl (W.2.1 137 w)), none, none, none, none, none] [.inl (1)] W)) : zwp jtb zsh n zm_MMnumber post K (lGo ak_MMnumberX 0) 0 [some (.inr (.inr (some (.inl 87)))), some (.inl (w)), some (.inl (lo)), some (.inl (hi)), none, none, none, none, none, none] [] W := by
  obtain ⟨k, rfl⟩ : ∃ k, K = k + 13 := ⟨K - 13, by omega⟩
  exact (show 87 < n ∧ 11 = 11 ∧ 137 < n ∧ FieldType.int = FieldType.int ∧ (0 ≤ w ∧ w < 32768) ∧ 87 < n ∧ 11 = 11 ∧ 88 < n ∧ FieldType.byte = FieldType.byte ∧ (0 ≤ (W.2.1 137 w) ∧ (W.2.1 137 w) < 65536) ∧ (¬ (W.2.1 88 (W.2.1 137 w)) = 45 → zwp jtb zsh n zm_MMnumber post (k + 1) (lGo ak_MMnumberX 25) 25 [some (.inr (.inr (some (.inl 87)))), some (.inl (w)), some (.inl (lo)), some (.inl (hi)), some (.inl (W.2.1 137 w)), none, none, none, none, none] [.inl (0)] W) ∧ ((W.2.1 88 (W.2.1 137 w)) = 45 → zwp jtb zsh n zm_MMnumber post (k + 0) (lGo ak_MMnumberX 25) 25 [some (.inr (.inr (some (.inl 87)))), some (.inl (w)), some (.inl (lo)), some (.inl (hi)), some (.inl (W.2.1 137 w)), none, none, none, none, none] [.inl (1)] W) from ⟨(Nat.lt_of_lt_of_le (by decide) hn), rfl, ⟨(Nat.lt_of_lt_of_le (by decide) hn), rfl, (h).1, ⟨(Nat.lt_of_lt_of_le (by decide) hn), rfl, ⟨(Nat.lt_of_lt_of_le (by decide) hn), rfl, ((h).2).1, ⟨fun hc10 => ((((h).2).2).1 hc10), fun hc10 => ((((h).2).2).2 hc10)⟩⟩⟩⟩⟩)
theorem zp_MMnumber_25 {n K : Nat} {W : zW} {post : zPo} {w lo hi b x : Int} (hK : 7 ≤ K) (hn : 142 ≤ n) (h : (x = 0 → zwp jtb zsh n zm_MMnumber post (K - 4) (lGo ak_MMnumberX 41) 41 [some (.inr (.inr (some (.inl 87)))), some (.inl (w)), some (.inl (lo)), some (.inl (hi)), some (.inl (b)), some (.inl (x)), none, none, none, none] [.inl (b)] W) ∧ (¬ x = 0 → (-2147483648 ≤ b + 1 ∧ b + 1 ≤ 2147483647) ∧ zwp jtb zsh n zm_MMnumber post (K - 7) (lGo ak_MMnumberX 41) 41 [some (.inr (.inr (some (.inl 87)))), some (.inl (w)), some (.inl (lo)), some (.inl (hi)), some (.inl (b)), some (.inl (x)), none, none, none, none] [.inl (b + 1)] W)) : zwp jtb zsh n zm_MMnumber post K (lGo ak_MMnumberX 25) 25 [some (.inr (.inr (some (.inl 87)))), some (.inl (w)), some (.inl (lo)), some (.inl (hi)), some (.inl (b)), none, none, none, none, none] [.inl (x)] W := by
  obtain ⟨k, rfl⟩ : ∃ k, K = k + 7 := ⟨K - 7, by omega⟩
  exact (show (x = 0 → zwp jtb zsh n zm_MMnumber post (k + 3) (lGo ak_MMnumberX 41) 41 [some (.inr (.inr (some (.inl 87)))), some (.inl (w)), some (.inl (lo)), some (.inl (hi)), some (.inl (b)), some (.inl (x)), none, none, none, none] [.inl (b)] W) ∧ (¬ x = 0 → (-2147483648 ≤ b + 1 ∧ b + 1 ≤ 2147483647) ∧ zwp jtb zsh n zm_MMnumber post (k + 0) (lGo ak_MMnumberX 41) 41 [some (.inr (.inr (some (.inl 87)))), some (.inl (w)), some (.inl (lo)), some (.inl (hi)), some (.inl (b)), some (.inl (x)), none, none, none, none] [.inl (b + 1)] W) from ⟨fun hc2 => ((h).1 hc2), fun hc2 => ⟨(((h).2 hc2)).1, (((h).2 hc2)).2⟩⟩)
theorem zp_MMnumber_41 {n K : Nat} {W : zW} {post : zPo} {w lo hi b ls x : Int} (hK : 27 ≤ K) (hn : 142 ≤ n) (h : (0 ≤ w ∧ w < 32768) ∧ (-2147483648 ≤ (W.2.1 138 w) - x ∧ (W.2.1 138 w) - x ≤ 2147483647) ∧ (((W.2.1 138 w) - x) < 1 → zwp jtb zsh n zm_MMnumber post (K - 11) (lGo ak_MMnumberX 94) 94 [some (.inr (.inr (some (.inl 87)))), some (.inl (w)), some (.inl (lo)), some (.inl (hi)), some (.inl (x)), some (.inl (ls)), some (.inl ((W.2.1 138 w) - x)), none, none, none] [] W) ∧ (¬ ((W.2.1 138 w) - x) < 1 → (9 < ((W.2.1 138 w) - x) → zwp jtb zsh n zm_MMnumber post (K - 14) (lGo ak_MMnumberX 94) 94 [some (.inr (.inr (some (.inl 87)))), some (.inl (w)), some (.inl (lo)), some (.inl (hi)), some (.inl (x)), some (.inl (ls)), some (.inl ((W.2.1 138 w) - x)), none, none, none] [] W) ∧ (¬ 9 < ((W.2.1 138 w) - x) → (0 ≤ x ∧ x < 65536) ∧ (¬ (W.2.1 88 x) = 48 → zwp jtb zsh n zm_MMnumber post (K - 22) (lGo ak_MMnumberX 95) 95 [some (.inr (.inr (some (.inl 87)))), some (.inl (w)), some (.inl (lo)), some (.inl (hi)), some (.inl (x)), some (.inl (ls)), some (.inl ((W.2.1 138 w) - x)), none, none, none] [.inl (1)] W) ∧ ((W.2.1 88 x) = 48 → (¬ ((W.2.1 138 w) - x) = 1 → zwp jtb zsh n zm_MMnumber post (K - 23) (lGo ak_MMnumberX 94) 94 [some (.inr (.inr (some (.inl 87)))), some (.inl (w)), some (.inl (lo)), some (.inl (hi)), some (.inl (x)), some (.inl (ls)), some (.inl ((W.2.1 138 w) - x)), none, none, none] [] W) ∧ (((W.2.1 138 w) - x) = 1 → (¬ ls = 0 → zwp jtb zsh n zm_MMnumber post (K - 25) (lGo ak_MMnumberX 94) 94 [some (.inr (.inr (some (.inl 87)))), some (.inl (w)), some (.inl (lo)), some (.inl (hi)), some (.inl (x)), some (.inl (ls)), some (.inl ((W.2.1 138 w) - x)), none, none, none] [] W) ∧ (ls = 0 → zwp jtb zsh n zm_MMnumber post (K - 27) (lGo ak_MMnumberX 95) 95 [some (.inr (.inr (some (.inl 87)))), some (.inl (w)), some (.inl (lo)), some (.inl (hi)), some (.inl (x)), some (.inl (ls)), some (.inl ((W.2.1 138 w) - x)), none, none, none] [.inl (1)] W)))))) : zwp jtb zsh n zm_MMnumber post K (lGo ak_MMnumberX 41) 41 [some (.inr (.inr (some (.inl 87)))), some (.inl (w)), some (.inl (lo)), some (.inl (hi)), some (.inl (b)), some (.inl (ls)), none, none, none, none] [.inl (x)] W := by
  obtain ⟨k, rfl⟩ : ∃ k, K = k + 27 := ⟨K - 27, by omega⟩
  exact (show 87 < n ∧ 11 = 11 ∧ 138 < n ∧ FieldType.int = FieldType.int ∧ (0 ≤ w ∧ w < 32768) ∧ (-2147483648 ≤ (W.2.1 138 w) - x ∧ (W.2.1 138 w) - x ≤ 2147483647) ∧ (((W.2.1 138 w) - x) < 1 → zwp jtb zsh n zm_MMnumber post (k + 16) (lGo ak_MMnumberX 94) 94 [some (.inr (.inr (some (.inl 87)))), some (.inl (w)), some (.inl (lo)), some (.inl (hi)), some (.inl (x)), some (.inl (ls)), some (.inl ((W.2.1 138 w) - x)), none, none, none] [] W) ∧ (¬ ((W.2.1 138 w) - x) < 1 → (9 < ((W.2.1 138 w) - x) → zwp jtb zsh n zm_MMnumber post (k + 13) (lGo ak_MMnumberX 94) 94 [some (.inr (.inr (some (.inl 87)))), some (.inl (w)), some (.inl (lo)), some (.inl (hi)), some (.inl (x)), some (.inl (ls)), some (.inl ((W.2.1 138 w) - x)), none, none, none] [] W) ∧ (¬ 9 < ((W.2.1 138 w) - x) → 87 < n ∧ 11 = 11 ∧ 88 < n ∧ FieldType.byte = FieldType.byte ∧ (0 ≤ x ∧ x < 65536) ∧ (¬ (W.2.1 88 x) = 48 → zwp jtb zsh n zm_MMnumber post (k + 5) (lGo ak_MMnumberX 95) 95 [some (.inr (.inr (some (.inl 87)))), some (.inl (w)), some (.inl (lo)), some (.inl (hi)), some (.inl (x)), some (.inl (ls)), some (.inl ((W.2.1 138 w) - x)), none, none, none] [.inl (1)] W) ∧ ((W.2.1 88 x) = 48 → (¬ ((W.2.1 138 w) - x) = 1 → zwp jtb zsh n zm_MMnumber post (k + 4) (lGo ak_MMnumberX 94) 94 [some (.inr (.inr (some (.inl 87)))), some (.inl (w)), some (.inl (lo)), some (.inl (hi)), some (.inl (x)), some (.inl (ls)), some (.inl ((W.2.1 138 w) - x)), none, none, none] [] W) ∧ (((W.2.1 138 w) - x) = 1 → (¬ ls = 0 → zwp jtb zsh n zm_MMnumber post (k + 2) (lGo ak_MMnumberX 94) 94 [some (.inr (.inr (some (.inl 87)))), some (.inl (w)), some (.inl (lo)), some (.inl (hi)), some (.inl (x)), some (.inl (ls)), some (.inl ((W.2.1 138 w) - x)), none, none, none] [] W) ∧ (ls = 0 → zwp jtb zsh n zm_MMnumber post (k + 0) (lGo ak_MMnumberX 95) 95 [some (.inr (.inr (some (.inl 87)))), some (.inl (w)), some (.inl (lo)), some (.inl (hi)), some (.inl (x)), some (.inl (ls)), some (.inl ((W.2.1 138 w) - x)), none, none, none] [.inl (1)] W))))) from ⟨(Nat.lt_of_lt_of_le (by decide) hn), rfl, ⟨(Nat.lt_of_lt_of_le (by decide) hn), rfl, (h).1, ⟨((h).2).1, ⟨fun hc10 => ((((h).2).2).1 hc10), fun hc10 => ⟨fun hc13 => ((((((h).2).2).2 hc10)).1 hc13), fun hc13 => (have h := ((((((h).2).2).2 hc10)).2 hc13); ⟨(Nat.lt_of_lt_of_le (by decide) hn), rfl, ⟨(Nat.lt_of_lt_of_le (by decide) hn), rfl, (h).1, ⟨fun hc19 => (((h).2).1 hc19), fun hc19 => ⟨fun hc22 => (((((h).2).2 hc19)).1 hc22), fun hc22 => (have h := (((((h).2).2 hc19)).2 hc22); ⟨fun hc24 => ((h).1 hc24), fun hc24 => ((h).2 hc24)⟩)⟩⟩⟩⟩)⟩⟩⟩⟩⟩)
theorem zp_MMnumber_94 {n K : Nat} {W : zW} {post : zPo} {w lo hi b ls d : Int} (hK : 1 ≤ K) (hn : 142 ≤ n) (h : zwp jtb zsh n zm_MMnumber post (K - 1) (lGo ak_MMnumberX 95) 95 [some (.inr (.inr (some (.inl 87)))), some (.inl (w)), some (.inl (lo)), some (.inl (hi)), some (.inl (b)), some (.inl (ls)), some (.inl (d)), none, none, none] [.inl (0)] W) : zwp jtb zsh n zm_MMnumber post K (lGo ak_MMnumberX 94) 94 [some (.inr (.inr (some (.inl 87)))), some (.inl (w)), some (.inl (lo)), some (.inl (hi)), some (.inl (b)), some (.inl (ls)), some (.inl (d)), none, none, none] [] W := by
  obtain ⟨k, rfl⟩ : ∃ k, K = k + 1 := ⟨K - 1, by omega⟩
  exact (show zwp jtb zsh n zm_MMnumber post (k + 0) (lGo ak_MMnumberX 95) 95 [some (.inr (.inr (some (.inl 87)))), some (.inl (w)), some (.inl (lo)), some (.inl (hi)), some (.inl (b)), some (.inl (ls)), some (.inl (d)), none, none, none] [.inl (0)] W from h)
theorem zp_MMnumber_95 {n K : Nat} {W : zW} {post : zPo} {w lo hi b ls d x : Int} (hK : 5 ≤ K) (hn : 142 ≤ n) (h : zwp jtb zsh n zm_MMnumber post (K - 5) (lGo ak_MMnumberX 104) 104 [some (.inr (.inr (some (.inl 87)))), some (.inl (w)), some (.inl (lo)), some (.inl (hi)), some (.inl (b)), some (.inl (ls)), some (.inl (d)), some (.inl (x)), some (.inl (0)), some (.inl (b))] [] W) : zwp jtb zsh n zm_MMnumber post K (lGo ak_MMnumberX 95) 95 [some (.inr (.inr (some (.inl 87)))), some (.inl (w)), some (.inl (lo)), some (.inl (hi)), some (.inl (b)), some (.inl (ls)), some (.inl (d)), none, none, none] [.inl (x)] W := by
  obtain ⟨k, rfl⟩ : ∃ k, K = k + 5 := ⟨K - 5, by omega⟩
  exact (show zwp jtb zsh n zm_MMnumber post (k + 0) (lGo ak_MMnumberX 104) 104 [some (.inr (.inr (some (.inl 87)))), some (.inl (w)), some (.inl (lo)), some (.inl (hi)), some (.inl (b)), some (.inl (ls)), some (.inl (d)), some (.inl (x)), some (.inl (0)), some (.inl (b))] [] W from h)
theorem zp_MMnumber_104 {n K : Nat} {W : zW} {post : zPo} {w lo hi b ls d s v i : Int} (hK : 22 ≤ K) (hn : 142 ≤ n) (h : (0 ≤ w ∧ w < 32768) ∧ ((W.2.1 138 w) ≤ i → zwp jtb zsh n zm_MMnumber post (K - 6) (lGo ak_MMnumberX 175) 175 [some (.inr (.inr (some (.inl 87)))), some (.inl (w)), some (.inl (lo)), some (.inl (hi)), some (.inl (b)), some (.inl (ls)), some (.inl (d)), some (.inl (s)), some (.inl (v)), some (.inl (i))] [] W) ∧ (¬ (W.2.1 138 w) ≤ i → (s = 0 → zwp jtb zsh n zm_MMnumber post (K - 8) (lGo ak_MMnumberX 175) 175 [some (.inr (.inr (some (.inl 87)))), some (.inl (w)), some (.inl (lo)), some (.inl (hi)), some (.inl (b)), some (.inl (ls)), some (.inl (d)), some (.inl (s)), some (.inl (v)), some (.inl (i))] [] W) ∧ (¬ s = 0 → (0 ≤ i ∧ i < 65536) ∧ ((W.2.1 88 i) < 48 → zwp jtb zsh n zm_MMnumber post (K - 14) (lGo ak_MMnumberX 148) 148 [some (.inr (.inr (some (.inl 87)))), some (.inl (w)), some (.inl (lo)), some (.inl (hi)), some (.inl (b)), some (.inl (ls)), some (.inl (d)), some (.inl (s)), some (.inl (v)), some (.inl (i))] [] W) ∧ (¬ (W.2.1 88 i) < 48 → (0 ≤ i ∧ i < 65536) ∧ (57 < (W.2.1 88 i) → zwp jtb zsh n zm_MMnumber post (K - 20) (lGo ak_MMnumberX 148) 148 [some (.inr (.inr (some (.inl 87)))), some (.inl (w)), some (.inl (lo)), some (.inl (hi)), some (.inl (b)), some (.inl (ls)), some (.inl (d)), some (.inl (s)), some (.inl (v)), some (.inl (i))] [] W) ∧ (¬ 57 < (W.2.1 88 i) → zwp jtb zsh n zm_MMnumber post (K - 22) (lGo ak_MMnumberX 149) 149 [some (.inr (.inr (some (.inl 87)))), some (.inl (w)), some (.inl (lo)), some (.inl (hi)), some (.inl (b)), some (.inl (ls)), some (.inl (d)), some (.inl (s)), some (.inl (v)), some (.inl (i))] [.inl (1)] W))))) : zwp jtb zsh n zm_MMnumber post K (lGo ak_MMnumberX 104) 104 [some (.inr (.inr (some (.inl 87)))), some (.inl (w)), some (.inl (lo)), some (.inl (hi)), some (.inl (b)), some (.inl (ls)), some (.inl (d)), some (.inl (s)), some (.inl (v)), some (.inl (i))] [] W := by
  obtain ⟨k, rfl⟩ : ∃ k, K = k + 22 := ⟨K - 22, by omega⟩
  exact (show 87 < n ∧ 11 = 11 ∧ 138 < n ∧ FieldType.int = FieldType.int ∧ (0 ≤ w ∧ w < 32768) ∧ ((W.2.1 138 w) ≤ i → zwp jtb zsh n zm_MMnumber post (k + 16) (lGo ak_MMnumberX 175) 175 [some (.inr (.inr (some (.inl 87)))), some (.inl (w)), some (.inl (lo)), some (.inl (hi)), some (.inl (b)), some (.inl (ls)), some (.inl (d)), some (.inl (s)), some (.inl (v)), some (.inl (i))] [] W) ∧ (¬ (W.2.1 138 w) ≤ i → (s = 0 → zwp jtb zsh n zm_MMnumber post (k + 14) (lGo ak_MMnumberX 175) 175 [some (.inr (.inr (some (.inl 87)))), some (.inl (w)), some (.inl (lo)), some (.inl (hi)), some (.inl (b)), some (.inl (ls)), some (.inl (d)), some (.inl (s)), some (.inl (v)), some (.inl (i))] [] W) ∧ (¬ s = 0 → 87 < n ∧ 11 = 11 ∧ 88 < n ∧ FieldType.byte = FieldType.byte ∧ (0 ≤ i ∧ i < 65536) ∧ ((W.2.1 88 i) < 48 → zwp jtb zsh n zm_MMnumber post (k + 8) (lGo ak_MMnumberX 148) 148 [some (.inr (.inr (some (.inl 87)))), some (.inl (w)), some (.inl (lo)), some (.inl (hi)), some (.inl (b)), some (.inl (ls)), some (.inl (d)), some (.inl (s)), some (.inl (v)), some (.inl (i))] [] W) ∧ (¬ (W.2.1 88 i) < 48 → 87 < n ∧ 11 = 11 ∧ 88 < n ∧ FieldType.byte = FieldType.byte ∧ (0 ≤ i ∧ i < 65536) ∧ (57 < (W.2.1 88 i) → zwp jtb zsh n zm_MMnumber post (k + 2) (lGo ak_MMnumberX 148) 148 [some (.inr (.inr (some (.inl 87)))), some (.inl (w)), some (.inl (lo)), some (.inl (hi)), some (.inl (b)), some (.inl (ls)), some (.inl (d)), some (.inl (s)), some (.inl (v)), some (.inl (i))] [] W) ∧ (¬ 57 < (W.2.1 88 i) → zwp jtb zsh n zm_MMnumber post (k + 0) (lGo ak_MMnumberX 149) 149 [some (.inr (.inr (some (.inl 87)))), some (.inl (w)), some (.inl (lo)), some (.inl (hi)), some (.inl (b)), some (.inl (ls)), some (.inl (d)), some (.inl (s)), some (.inl (v)), some (.inl (i))] [.inl (1)] W)))) from ⟨(Nat.lt_of_lt_of_le (by decide) hn), rfl, ⟨(Nat.lt_of_lt_of_le (by decide) hn), rfl, (h).1, ⟨fun hc5 => (((h).2).1 hc5), fun hc5 => ⟨fun hc7 => (((((h).2).2 hc5)).1 hc7), fun hc7 => (have h := (((((h).2).2 hc5)).2 hc7); ⟨(Nat.lt_of_lt_of_le (by decide) hn), rfl, ⟨(Nat.lt_of_lt_of_le (by decide) hn), rfl, (h).1, ⟨fun hc13 => (((h).2).1 hc13), fun hc13 => ⟨(Nat.lt_of_lt_of_le (by decide) hn), rfl, ⟨(Nat.lt_of_lt_of_le (by decide) hn), rfl, ((((h).2).2 hc13)).1, ⟨fun hc19 => ((((((h).2).2 hc13)).2).1 hc19), fun hc19 => ((((((h).2).2 hc13)).2).2 hc19)⟩⟩⟩⟩⟩⟩)⟩⟩⟩⟩)
theorem zp_MMnumber_148 {n K : Nat} {W : zW} {post : zPo} {w lo hi b ls d s v i : Int} (hK : 1 ≤ K) (hn : 142 ≤ n) (h : zwp jtb zsh n zm_MMnumber post (K - 1) (lGo ak_MMnumberX 149) 149 [some (.inr (.inr (some (.inl 87)))), some (.inl (w)), some (.inl (lo)), some (.inl (hi)), some (.inl (b)), some (.inl (ls)), some (.inl (d)), some (.inl (s)), some (.inl (v)), some (.inl (i))] [.inl (0)] W) : zwp jtb zsh n zm_MMnumber post K (lGo ak_MMnumberX 148) 148 [some (.inr (.inr (some (.inl 87)))), some (.inl (w)), some (.inl (lo)), some (.inl (hi)), some (.inl (b)), some (.inl (ls)), some (.inl (d)), some (.inl (s)), some (.inl (v)), some (.inl (i))] [] W := by
  obtain ⟨k, rfl⟩ : ∃ k, K = k + 1 := ⟨K - 1, by omega⟩
  exact (show zwp jtb zsh n zm_MMnumber post (k + 0) (lGo ak_MMnumberX 149) 149 [some (.inr (.inr (some (.inl 87)))), some (.inl (w)), some (.inl (lo)), some (.inl (hi)), some (.inl (b)), some (.inl (ls)), some (.inl (d)), some (.inl (s)), some (.inl (v)), some (.inl (i))] [.inl (0)] W from h)
theorem zp_MMnumber_175 {n K : Nat} {W : zW} {post : zPo} {w lo hi b ls d s v i : Int} (hK : 5 ≤ K) (hn : 142 ≤ n) (h : (ls = 0 → zwp jtb zsh n zm_MMnumber post (K - 3) (lGo ak_MMnumberX 188) 188 [some (.inr (.inr (some (.inl 87)))), some (.inl (w)), some (.inl (lo)), some (.inl (hi)), some (.inl (b)), some (.inl (ls)), some (.inl (d)), some (.inl (s)), some (.inl (v)), some (.inl (i))] [.inl (v)] W) ∧ (¬ ls = 0 → (-2147483648 ≤ -v ∧ -v ≤ 2147483647) ∧ zwp jtb zsh n zm_MMnumber post (K - 5) (lGo ak_MMnumberX 188) 188 [some (.inr (.inr (some (.inl 87)))), some (.inl (w)), some (.inl (lo)), some (.inl (hi)), some (.inl (b)), some (.inl (ls)), some (.inl (d)), some (.inl (s)), some (.inl (v)), some (.inl (i))] [.inl (-v)] W)) : zwp jtb zsh n zm_MMnumber post K (lGo ak_MMnumberX 175) 175 [some (.inr (.inr (some (.inl 87)))), some (.inl (w)), some (.inl (lo)), some (.inl (hi)), some (.inl (b)), some (.inl (ls)), some (.inl (d)), some (.inl (s)), some (.inl (v)), some (.inl (i))] [] W := by
  obtain ⟨k, rfl⟩ : ∃ k, K = k + 5 := ⟨K - 5, by omega⟩
  exact (show (ls = 0 → zwp jtb zsh n zm_MMnumber post (k + 2) (lGo ak_MMnumberX 188) 188 [some (.inr (.inr (some (.inl 87)))), some (.inl (w)), some (.inl (lo)), some (.inl (hi)), some (.inl (b)), some (.inl (ls)), some (.inl (d)), some (.inl (s)), some (.inl (v)), some (.inl (i))] [.inl (v)] W) ∧ (¬ ls = 0 → (-2147483648 ≤ -v ∧ -v ≤ 2147483647) ∧ zwp jtb zsh n zm_MMnumber post (k + 0) (lGo ak_MMnumberX 188) 188 [some (.inr (.inr (some (.inl 87)))), some (.inl (w)), some (.inl (lo)), some (.inl (hi)), some (.inl (b)), some (.inl (ls)), some (.inl (d)), some (.inl (s)), some (.inl (v)), some (.inl (i))] [.inl (-v)] W) from ⟨fun hc1 => ((h).1 hc1), fun hc1 => ⟨(((h).2 hc1)).1, (((h).2 hc1)).2⟩⟩)
theorem zp_MMnumber_149 {n K : Nat} {W : zW} {post : zPo} {w lo hi b ls d s v i x : Int} (hK : 14 ≤ K) (hn : 142 ≤ n) (h : (-2147483648 ≤ 10 * v ∧ 10 * v ≤ 2147483647) ∧ (0 ≤ i ∧ i < 65536) ∧ (-2147483648 ≤ (10 * v) + (W.2.1 88 i) ∧ (10 * v) + (W.2.1 88 i) ≤ 2147483647) ∧ (-2147483648 ≤ ((10 * v) + (W.2.1 88 i)) - 48 ∧ ((10 * v) + (W.2.1 88 i)) - 48 ≤ 2147483647) ∧ (-2147483648 ≤ i + 1 ∧ i + 1 ≤ 2147483647) ∧ zwp jtb zsh n zm_MMnumber post (K - 14) (lGo ak_MMnumberX 104) 104 [some (.inr (.inr (some (.inl 87)))), some (.inl (w)), some (.inl (lo)), some (.inl (hi)), some (.inl (b)), some (.inl (ls)), some (.inl (d)), some (.inl (x)), some (.inl (((10 * v) + (W.2.1 88 i)) - 48)), some (.inl (i + 1))] [] W) : zwp jtb zsh n zm_MMnumber post K (lGo ak_MMnumberX 149) 149 [some (.inr (.inr (some (.inl 87)))), some (.inl (w)), some (.inl (lo)), some (.inl (hi)), some (.inl (b)), some (.inl (ls)), some (.inl (d)), some (.inl (s)), some (.inl (v)), some (.inl (i))] [.inl (x)] W := by
  obtain ⟨k, rfl⟩ : ∃ k, K = k + 14 := ⟨K - 14, by omega⟩
  exact (show (-2147483648 ≤ 10 * v ∧ 10 * v ≤ 2147483647) ∧ 87 < n ∧ 11 = 11 ∧ 88 < n ∧ FieldType.byte = FieldType.byte ∧ (0 ≤ i ∧ i < 65536) ∧ (-2147483648 ≤ (10 * v) + (W.2.1 88 i) ∧ (10 * v) + (W.2.1 88 i) ≤ 2147483647) ∧ (-2147483648 ≤ ((10 * v) + (W.2.1 88 i)) - 48 ∧ ((10 * v) + (W.2.1 88 i)) - 48 ≤ 2147483647) ∧ (-2147483648 ≤ i + 1 ∧ i + 1 ≤ 2147483647) ∧ zwp jtb zsh n zm_MMnumber post (k + 0) (lGo ak_MMnumberX 104) 104 [some (.inr (.inr (some (.inl 87)))), some (.inl (w)), some (.inl (lo)), some (.inl (hi)), some (.inl (b)), some (.inl (ls)), some (.inl (d)), some (.inl (x)), some (.inl (((10 * v) + (W.2.1 88 i)) - 48)), some (.inl (i + 1))] [] W from ⟨(h).1, ⟨(Nat.lt_of_lt_of_le (by decide) hn), rfl, ⟨(Nat.lt_of_lt_of_le (by decide) hn), rfl, ((h).2).1, ⟨(((h).2).2).1, ⟨((((h).2).2).2).1, ⟨(((((h).2).2).2).2).1, (((((h).2).2).2).2).2⟩⟩⟩⟩⟩⟩)
theorem zp_MMnumber_188 {n K : Nat} {W : zW} {post : zPo} {w lo hi b ls d s v i x : Int} (hK : 15 ≤ K) (hn : 142 ≤ n) (h : ((W.1 87 16) = 0 → zwp jtb zsh n zm_MMnumber post (K - 5) (lGo ak_MMnumberX 219) 219 [some (.inr (.inr (some (.inl 87)))), some (.inl (w)), some (.inl (lo)), some (.inl (hi)), some (.inl (b)), some (.inl (ls)), some (.inl (d)), some (.inl (s)), some (.inl (x)), some (.inl (i))] [.inr (.inr (some (.inl 87)))] W) ∧ (¬ (W.1 87 16) = 0 → (s = 0 → zwp jtb zsh n zm_MMnumber post (K - 7) (lGo ak_MMnumberX 219) 219 [some (.inr (.inr (some (.inl 87)))), some (.inl (w)), some (.inl (lo)), some (.inl (hi)), some (.inl (b)), some (.inl (ls)), some (.inl (d)), some (.inl (s)), some (.inl (x)), some (.inl (i))] [.inr (.inr (some (.inl 87)))] W) ∧ (¬ s = 0 → (x < lo → zwp jtb zsh n zm_MMnumber post (K - 10) (lGo ak_MMnumberX 219) 219 [some (.inr (.inr (some (.inl 87)))), some (.inl (w)), some (.inl (lo)), some (.inl (hi)), some (.inl (b)), some (.inl (ls)), some (.inl (d)), some (.inl (s)), some (.inl (x)), some (.inl (i))] [.inr (.inr (some (.inl 87)))] W) ∧ (¬ x < lo → (hi < x → zwp jtb zsh n zm_MMnumber post (K - 13) (lGo ak_MMnumberX 219) 219 [some (.inr (.inr (some (.inl 87)))), some (.inl (w)), some (.inl (lo)), some (.inl (hi)), some (.inl (b)), some (.inl (ls)), some (.inl (d)), some (.inl (s)), some (.inl (x)), some (.inl (i))] [.inr (.inr (some (.inl 87)))] W) ∧ (¬ hi < x → zwp jtb zsh n zm_MMnumber post (K - 15) (lGo ak_MMnumberX 220) 220 [some (.inr (.inr (some (.inl 87)))), some (.inl (w)), some (.inl (lo)), some (.inl (hi)), some (.inl (b)), some (.inl (ls)), some (.inl (d)), some (.inl (s)), some (.inl (x)), some (.inl (i))] [.inl (1), .inr (.inr (some (.inl 87)))] W))))) : zwp jtb zsh n zm_MMnumber post K (lGo ak_MMnumberX 188) 188 [some (.inr (.inr (some (.inl 87)))), some (.inl (w)), some (.inl (lo)), some (.inl (hi)), some (.inl (b)), some (.inl (ls)), some (.inl (d)), some (.inl (s)), some (.inl (v)), some (.inl (i))] [.inl (x)] W := by
  obtain ⟨k, rfl⟩ : ∃ k, K = k + 15 := ⟨K - 15, by omega⟩
  exact (show 87 < n ∧ 11 = 11 ∧ ((W.1 87 16) = 0 → zwp jtb zsh n zm_MMnumber post (k + 10) (lGo ak_MMnumberX 219) 219 [some (.inr (.inr (some (.inl 87)))), some (.inl (w)), some (.inl (lo)), some (.inl (hi)), some (.inl (b)), some (.inl (ls)), some (.inl (d)), some (.inl (s)), some (.inl (x)), some (.inl (i))] [.inr (.inr (some (.inl 87)))] W) ∧ (¬ (W.1 87 16) = 0 → (s = 0 → zwp jtb zsh n zm_MMnumber post (k + 8) (lGo ak_MMnumberX 219) 219 [some (.inr (.inr (some (.inl 87)))), some (.inl (w)), some (.inl (lo)), some (.inl (hi)), some (.inl (b)), some (.inl (ls)), some (.inl (d)), some (.inl (s)), some (.inl (x)), some (.inl (i))] [.inr (.inr (some (.inl 87)))] W) ∧ (¬ s = 0 → (x < lo → zwp jtb zsh n zm_MMnumber post (k + 5) (lGo ak_MMnumberX 219) 219 [some (.inr (.inr (some (.inl 87)))), some (.inl (w)), some (.inl (lo)), some (.inl (hi)), some (.inl (b)), some (.inl (ls)), some (.inl (d)), some (.inl (s)), some (.inl (x)), some (.inl (i))] [.inr (.inr (some (.inl 87)))] W) ∧ (¬ x < lo → (hi < x → zwp jtb zsh n zm_MMnumber post (k + 2) (lGo ak_MMnumberX 219) 219 [some (.inr (.inr (some (.inl 87)))), some (.inl (w)), some (.inl (lo)), some (.inl (hi)), some (.inl (b)), some (.inl (ls)), some (.inl (d)), some (.inl (s)), some (.inl (x)), some (.inl (i))] [.inr (.inr (some (.inl 87)))] W) ∧ (¬ hi < x → zwp jtb zsh n zm_MMnumber post (k + 0) (lGo ak_MMnumberX 220) 220 [some (.inr (.inr (some (.inl 87)))), some (.inl (w)), some (.inl (lo)), some (.inl (hi)), some (.inl (b)), some (.inl (ls)), some (.inl (d)), some (.inl (s)), some (.inl (x)), some (.inl (i))] [.inl (1), .inr (.inr (some (.inl 87)))] W)))) from ⟨(Nat.lt_of_lt_of_le (by decide) hn), rfl, ⟨fun hc4 => ((h).1 hc4), fun hc4 => ⟨fun hc6 => ((((h).2 hc4)).1 hc6), fun hc6 => ⟨fun hc9 => ((((((h).2 hc4)).2 hc6)).1 hc9), fun hc9 => (have h := ((((((h).2 hc4)).2 hc6)).2 hc9); ⟨fun hc12 => ((h).1 hc12), fun hc12 => ((h).2 hc12)⟩)⟩⟩⟩⟩)
theorem zp_MMnumber_219 {n K : Nat} {W : zW} {post : zPo} {w lo hi b ls d s v i : Int} (hK : 1 ≤ K) (hn : 142 ≤ n) (h : zwp jtb zsh n zm_MMnumber post (K - 1) (lGo ak_MMnumberX 220) 220 [some (.inr (.inr (some (.inl 87)))), some (.inl (w)), some (.inl (lo)), some (.inl (hi)), some (.inl (b)), some (.inl (ls)), some (.inl (d)), some (.inl (s)), some (.inl (v)), some (.inl (i))] [.inl (0), .inr (.inr (some (.inl 87)))] W) : zwp jtb zsh n zm_MMnumber post K (lGo ak_MMnumberX 219) 219 [some (.inr (.inr (some (.inl 87)))), some (.inl (w)), some (.inl (lo)), some (.inl (hi)), some (.inl (b)), some (.inl (ls)), some (.inl (d)), some (.inl (s)), some (.inl (v)), some (.inl (i))] [.inr (.inr (some (.inl 87)))] W := by
  obtain ⟨k, rfl⟩ : ∃ k, K = k + 1 := ⟨K - 1, by omega⟩
  exact (show zwp jtb zsh n zm_MMnumber post (k + 0) (lGo ak_MMnumberX 220) 220 [some (.inr (.inr (some (.inl 87)))), some (.inl (w)), some (.inl (lo)), some (.inl (hi)), some (.inl (b)), some (.inl (ls)), some (.inl (d)), some (.inl (s)), some (.inl (v)), some (.inl (i))] [.inl (0), .inr (.inr (some (.inl 87)))] W from h)
theorem zp_MMnumber_220 {n K : Nat} {W : zW} {post : zPo} {w lo hi b ls d s v i x : Int} (hK : 3 ≤ K) (hn : 142 ≤ n) (h : ((1 : Nat) = 0 ∨ ((1 : Nat) = 1 ∧ (x = 0 ∨ x = 1))) ∧ post (some (.inl (v))) (zuF W 87 16 x)) : zwp jtb zsh n zm_MMnumber post K (lGo ak_MMnumberX 220) 220 [some (.inr (.inr (some (.inl 87)))), some (.inl (w)), some (.inl (lo)), some (.inl (hi)), some (.inl (b)), some (.inl (ls)), some (.inl (d)), some (.inl (s)), some (.inl (v)), some (.inl (i))] [.inl (x), .inr (.inr (some (.inl 87)))] W := by
  obtain ⟨k, rfl⟩ : ∃ k, K = k + 3 := ⟨K - 3, by omega⟩
  exact (show 87 < n ∧ 11 = 11 ∧ (some 0 : Option Nat) = some 0 ∧ ((1 : Nat) = 0 ∨ ((1 : Nat) = 1 ∧ (x = 0 ∨ x = 1))) ∧ 1 = 1 ∧ True ∧ post (some (.inl (v))) (zuF W 87 16 x) from ⟨(Nat.lt_of_lt_of_le (by decide) hn), rfl, rfl, (h).1, ⟨rfl, trivial, (h).2⟩⟩)
end
section
/-! how worlds change -/
theorem zuF_1 {W : zW} {a i b j : Nat} {v : Int} : (zuF W a i v).1 b j = if b = a ∧ j = i then v else W.1 b j := by
  show va_up W.1 a (va_up (W.1 a) i v) b j = _
  by_cases c : b = a
  · rw [c, va_up_self]
    by_cases d : j = i
    · rw [d, va_up_self, if_pos ⟨rfl, rfl⟩]
    · rw [va_up_ne _ _ d, if_neg (fun h => d h.2)]
  · rw [va_up_ne _ _ c, if_neg (fun h => c h.1)]
theorem zuF_2 {W : zW} {a i : Nat} {v : Int} : (zuF W a i v).2 = W.2 := rfl
theorem zuR_2 {W : zW} {a b : Nat} {i j v : Int} : (zuR W a i v).2.1 b j = if b = a ∧ j = i then v else W.2.1 b j := by
  show va_up W.2.1 a (zuI (W.2.1 a) i v) b j = _
  by_cases c : b = a
  · rw [c, va_up_self]
    unfold zuI
    by_cases d : j = i
    · rw [if_pos d, if_pos ⟨rfl, d⟩]
    · rw [if_neg d, if_neg (fun h => d h.2)]
  · rw [va_up_ne _ _ c, if_neg (fun h => c h.1)]
theorem zuR_4 {W : zW} {a b : Nat} {i v : Int} (h : ¬ b = a) : (zuR W a i v).2.1 b = W.2.1 b := va_up_ne _ _ h
/-! a line of the tape: the reference -/
noncomputable def xcS (c : Int) (g : Int → Int) (p a : Int) : Int := xwS (fun i => g i - c + 32) p a
theorem xcS_0 {c : Int} {g : Int → Int} {p a : Int} (h : p ≤ a ∨ g a = c) : xcS c g p a = a := xwS_0 (by rcases h with h | h; exact Or.inl h; exact Or.inr (by show g a - c + 32 = 32; omega))
theorem xcS_1 {c : Int} {g : Int → Int} {p a : Int} (h : a < p) (hc : ¬ g a = c) : xcS c g p (a + 1) = xcS c g p a := xwS_1 h (by show ¬ g a - c + 32 = 32; omega)
section
variable {l : Launch} {E : jE} {n : Nat}
theorem zk_isText (hn : 142 ≤ n) : zHas l E jcl jtb lw_tbl zsh n (y_MM_isText, true, 1, 0, { frames := 0, cells := 0, slots := 0, locals := 0 }, zc_MMisText) := by
  refine ⟨⟨rfl, rfl, ?_⟩, ?_⟩
  · exact ⟨m_MM_isText, s_MM_isText⟩
  · rintro vz V po hO hW ⟨b, rfl, hp⟩
    refine zmet (m := zm_MMisText) rfl (by decide) (fun _ _ => jtF_ok) lo_MM ao_MMisText jC (fun q h => by cases h) (fun q h => by cases h) (fun G h => by cases h) (Nat.le_of_ble_eq_true rfl) hO hW 20 ?_
    exact zp_MMisText_0 (by omega) hn ⟨fun h => hp 0 (Or.inr ⟨rfl, by omega⟩), fun h => ⟨fun h2 => hp 0 (Or.inr ⟨rfl, by omega⟩), fun h2 => hp 1 (Or.inl ⟨rfl, by omega⟩)⟩⟩
end
/-- all bytes of a line are text -/
noncomputable def xTx (g : Int → Int) (s e : Int) : Prop := ∀ j, s ≤ j → j < e → 32 ≤ g j ∧ g j ≤ 126
theorem xTx_s {g : Int → Int} {s e : Int} (h : s ≤ e) : (xTx g s e ∧ 32 ≤ g e ∧ g e ≤ 126) ↔ xTx g s (e + 1) := by
  constructor
  · rintro ⟨h1, h2⟩ j j0 j1
    by_cases c : j = e
    · rw [c]; exact h2
    · exact h1 j j0 (by omega)
  · intro h1
    exact ⟨fun j j0 j1 => h1 j j0 (by omega), h1 e h (by omega)⟩
theorem zg_isOfText {n : Nat} {W : zW} {post : zPo} (hn : 142 ≤ n) (h0 : 0 ≤ W.1 87 8) (h2 : W.1 87 9 ≤ 65536) (hpost : ∀ r : Int, xBl r (xTx (W.2.1 88) (W.1 87 8) (W.1 87 9)) → post (some (.inl r)) W) : ∀ (m K : Nat) (s i : Int), 20 * m + 20 ≤ K → W.1 87 9 - i ≤ m → W.1 87 8 ≤ i → i ≤ W.1 87 9 → xBl s (xTx (W.2.1 88) (W.1 87 8) i) → zwp jtb zsh n zm_MMisOfText post K (lGo ak_MMisOfText 7) 7 [some (.inr (.inr (some (.inl 87)))), some (.inl s), some (.inl i)] [] W := by
  intro m
  induction m with
  | zero =>
    intro K s i hK hm i0 i1 hs
    obtain rfl : i = W.1 87 9 := by omega
    exact zp_MMisOfText_7 (by omega) hn ⟨fun _ => ⟨xBl_01 hs, hpost s hs⟩, fun h => absurd (Int.le_refl _) h⟩
  | succ m ih =>
    intro K s i hK hm i0 i1 hs
    refine zp_MMisOfText_7 (by omega) hn ⟨fun h => ?_, fun h => ⟨fun h1 => ?_, fun h1 => ⟨by omega, _, rfl, fun r hr => ?_⟩⟩⟩
    · obtain rfl : i = W.1 87 9 := by omega
      exact ⟨xBl_01 hs, hpost s hs⟩
    · refine zp_MMisOfText_35 (by omega) hn (zp_MMisOfText_36 (by omega) hn ⟨by omega, ih _ 0 (i + 1) (by omega) (by omega) (by omega) (by omega) (Or.inr ⟨rfl, fun q => xBl_0 hs h1 ((xTx_s i0).mpr q).1⟩)⟩)
    · refine zp_MMisOfText_28 (by omega) hn ⟨fun h3 => zp_MMisOfText_35 (by omega) hn (zp_MMisOfText_36 (by omega) hn ⟨by omega, ih _ 0 (i + 1) (by omega) (by omega) (by omega) (by omega) (Or.inr ⟨rfl, fun q => xBl_0 hr h3 ((xTx_s i0).mpr q).2⟩)⟩), fun h3 => zp_MMisOfText_36 (by omega) hn ⟨by omega, ih _ 1 (i + 1) (by omega) (by omega) (by omega) (by omega) (Or.inl ⟨rfl, (xTx_s i0).mp ⟨xBl_1 hs h1, xBl_1 hr h3⟩⟩)⟩⟩
noncomputable def zc_MMisOfText (vals : List zv) (W : zW) (post : zPo) : Prop := vals = [.inr (.inr (some (.inl 87)))] ∧ 0 ≤ W.1 87 8 ∧ W.1 87 8 ≤ W.1 87 9 ∧ W.1 87 9 ≤ 65536 ∧ ∀ r : Int, xBl r (xTx (W.2.1 88) (W.1 87 8) (W.1 87 9)) → post (some (.inl r)) W
section
variable {l : Launch} {E : jE} {n : Nat}
theorem zk_isOfText (hn : 142 ≤ n) : zHas l E jcl jtb lw_tbl zsh n (y_MM_isOfText, false, 1, 11, { frames := 1, cells := 0, slots := 0, locals := 20 }, zc_MMisOfText) := by
  refine ⟨⟨rfl, rfl, ?_⟩, ?_⟩
  · exact ⟨show 1 ≤ 1 by decide, m_MM_isOfText, i_MM_isOfText, e_MM_isOfText, fun _ => ⟨_, rfl, rfl⟩⟩
  · rintro vz W po hO hW ⟨rfl, h0, h1, h2, hp⟩
    refine zmet (m := zm_MMisOfText) rfl (by decide) (fun _ _ => jtF_ok) lo_MM ao_MMisOfText jC (fun q h => by cases h) (aAllc (fun G h => by obtain rfl := Option.some.inj h; exact ql_MM_104) (fun q h => by cases h)) (aAllc (zk_isText hn) (fun q h => by cases h)) (Nat.le_of_ble_eq_true rfl) hO hW (20 * 65536 + 40) ?_
    exact zp_MMisOfText_0 (by omega) hn (zg_isOfText hn h0 h2 hp 65536 _ 1 _ (by omega) (by omega) (by omega) (by omega) (Or.inl ⟨rfl, fun j j0 j1 => by omega⟩))
end
end
section
/-! the words of a line: the reference -/
noncomputable def zRf (V W : zW) : Prop := (∀ a i, ¬ (a = 87 ∧ i = 13) → W.1 a i = V.1 a i) ∧ (∀ a, ¬ (a = 137 ∨ a = 138) → W.2.1 a = V.2.1 a) ∧ W.2.2 = V.2.2
noncomputable def zRi (g : Int → Int) (p s : Int) (W : zW) (j : Nat) : Prop := W.1 87 13 = j ∧ xSd g p s j ∧ ∀ k : Nat, k < j → W.2.1 137 k = xb g p s k ∧ W.2.1 138 k = xwS g p (xb g p s k)
/-- what split leaves -/
noncomputable def zRe (g : Int → Int) (p s : Int) (W : zW) : Prop := (W.1 87 13 = 0 ∧ ∃ j : Nat, (∀ k, k < j → xwS g p (xb g p s k) < p) ∧ xwS g p (xb g p s j) = xb g p s j) ∨ ∃ c : Nat, xWs g p s c ∧ zRi g p s W (c + 1)
theorem zRf_z {V W : zW} {v : Int} (h : zRf V W) : zRf V (zuF W 87 13 v) := by
  refine ⟨fun a i hi => ?_, h.2⟩
  rw [zuF_1, if_neg hi]
  exact h.1 a i hi
theorem zRf_w {V W : zW} {j b i v : Int} (h : zRf V W) : zRf V (zuF (zuR (zuR W 137 j b) 138 j i) 87 13 v) := by
  refine zRf_z ⟨h.1, fun a ha => ?_, h.2.2⟩
  rw [zuR_4 (fun q => ha (Or.inr q)), zuR_4 (fun q => ha (Or.inl q))]
  exact h.2.1 a ha
theorem zRi_w {g : Int → Int} {p s : Int} {W : zW} {j : Nat} {b i : Int} (h : zRi g p s W j) (hb : b = xb g p s j) (hi : i = xwS g p b) (hbi : b < i) : zRi g p s (zuF (zuR (zuR W 137 (W.1 87 13) b) 138 (W.1 87 13) i) 87 13 (W.1 87 13 + 1)) (j + 1) := by
  obtain ⟨h1, h2, h3⟩ := h
  refine ⟨?_, xSd_s.mpr ⟨h2, ?_⟩, fun k hk => ?_⟩
  · rw [zuF_1, if_pos ⟨rfl, rfl⟩, h1]
    omega
  · rw [← hb, ← hi]; exact hbi
  · rw [zuF_2, zuR_4 (a := 138) (b := 137) (by decide), zuR_2, zuR_2, h1]
    by_cases e : k = j
    · rw [e, if_pos ⟨rfl, rfl⟩, if_pos ⟨rfl, rfl⟩, hi, hb]
      exact ⟨rfl, rfl⟩
    · rw [if_neg (fun q => e (by omega)), if_neg (fun q => e (by omega)), zuR_4 (by decide)]
      exact h3 k (by omega)
theorem zg_rsplit {n : Nat} {V : zW} {post : zPo} {p s : Int} {g : Int → Int} (hn : 142 ≤ n) (hg : V.2.1 88 = g) (hp : V.1 87 9 = p) (hp1 : p ≤ 65536) (hs0 : 0 ≤ s) (hsp : s ≤ p) (hpost : ∀ W : zW, zRf V W → zRe g p s W → post none W) : ∀ (m K : Nat) (W : zW) (b i : Int) (j : Nat), 60 * m + 60 ≤ K → p + 1 - i ≤ m → zRf V W → zRi g p s W j → b = xb g p s j → i ≤ p + 1 → ((s + 2 * j ≤ b ∧ i ≤ p ∧ b ≤ i ∧ xwS g p i = xwS g p b ∧ ∀ k, k < j → xwS g p (xb g p s k) < p) ∨ (i = p + 1 ∧ ∃ c, j = c + 1 ∧ xWs g p s c)) → zwp jtb zsh n zm_MMsplit post K (lGo ak_MMsplitX 15) 15 [some (.inr (.inr (some (.inl 87)))), some (.inl b), some (.inl i)] [] W := by
  have hend : ∀ (K : Nat) (W : zW) (b i : Int) (j : Nat), 60 ≤ K → zRf V W → zRi g p s W j → i = p + 1 → (∃ c, j = c + 1 ∧ xWs g p s c) → zwp jtb zsh n zm_MMsplit post K (lGo ak_MMsplitX 15) 15 [some (.inr (.inr (some (.inl 87)))), some (.inl b), some (.inl i)] [] W := by
    rintro K W b i j hK hS hI hi ⟨c, rfl, hc⟩
    have e9 : W.1 87 9 = p := by rw [hS.1 87 9 (by decide)]; exact hp
    exact zp_MMsplit_15 (by omega) hn ⟨fun _ => hpost W hS (Or.inr ⟨c, hc, hI⟩), fun h => absurd (by omega) h⟩
  intro m
  induction m with
  | zero =>
    intro K W b i j hK hm hS hI hb hi hc
    rcases hc with hc | hc
    · omega
    · exact hend K W b i j (by omega) hS hI hc.1 hc.2
  | succ m ih =>
    intro K W b i j hK hm hS hI hb hi hc
    rcases hc with ⟨c1, c2, c3, c4, c5⟩ | hc
    · have e9 : W.1 87 9 = p := by rw [hS.1 87 9 (by decide)]; exact hp
      have e88 : W.2.1 88 = g := by rw [hS.2.1 88 (by decide)]; exact hg
      have e13 := hI.1
      have go : ∀ K' : Nat, 60 * m + 90 ≤ K' → (i = p ∨ g i = 32) → zwp jtb zsh n zm_MMsplit post K' (lGo ak_MMsplitX 42) 42 [some (.inr (.inr (some (.inl 87)))), some (.inl b), some (.inl i)] [] W := by
        intro K' hK' hx
        have ei : xwS g p b = i := by
          rw [← c4, xwS_0 (by rcases hx with h | h; exact Or.inl (by omega); exact Or.inr h)]
        refine zp_MMsplit_42 (by omega) hn ⟨fun hne => ?_, fun he => ?_⟩
        · have hbi : b < i := by omega
          refine zp_MMsplit_53 (by omega) hn ⟨by omega, by omega, by omega, by omega, zp_MMsplit_87 (by omega) hn ⟨by omega, ih _ _ (i + 1) (i + 1) (j + 1) (by omega) (by omega) (zRf_w hS) (zRi_w hI hb ei.symm hbi) ?_ (by omega) ?_⟩⟩
          · show _ = xwS g p (xb g p s j) + 1
            rw [← hb, ei]
          · by_cases ep : i = p
            · exact Or.inr ⟨by omega, j, rfl, c5, by rw [← hb, ei, ep]⟩
            · refine Or.inl ⟨by omega, by omega, Int.le_refl _, rfl, fun k hk => ?_⟩
              by_cases ek : k = j
              · rw [ek, ← hb, ei]; omega
              · exact c5 k (by omega)
        · refine hpost _ (zRf_z hS) (Or.inl ⟨by rw [zuF_1, if_pos ⟨rfl, rfl⟩], j, c5, ?_⟩)
          rw [← hb, ei, he]
      refine zp_MMsplit_15 (by omega) hn ⟨fun h => absurd h (by omega), fun _ => ⟨fun h => go _ (by omega) (Or.inl (by omega)), fun h => ⟨by omega, fun h2 => ?_, fun h2 => go _ (by omega) (Or.inr (by rw [← e88]; exact h2))⟩⟩⟩
      rw [e88] at h2
      exact zp_MMsplit_87 (by omega) hn ⟨by omega, ih _ W b (i + 1) j (by omega) (by omega) hS hI hb (by omega) (Or.inl ⟨c1, by omega, by omega, by rw [xwS_1 (by omega) h2]; exact c4, c5⟩)⟩
    · exact hend K W b i j (by omega) hS hI hc.1 hc.2
noncomputable def zc_MMsplit (vals : List zv) (V : zW) (post : zPo) : Prop := vals = [.inr (.inr (some (.inl 87)))] ∧ 0 ≤ V.1 87 8 ∧ V.1 87 8 ≤ V.1 87 9 ∧ V.1 87 9 ≤ 65536 ∧ ∀ W : zW, zRf V W → zRe (V.2.1 88) (V.1 87 9) (V.1 87 8) W → post none W
section
variable {l : Launch} {E : jE} {n : Nat}
theorem zk_rsplit (hn : 142 ≤ n) : zHas l E jcl jtb lw_tbl zsh n (y_MM_split, false, 1, 11, { frames := 0, cells := 0, slots := 0, locals := 0 }, zc_MMsplit) := by
  refine ⟨⟨rfl, rfl, ?_⟩, ?_⟩
  · exact ⟨show 1 ≤ 1 by decide, m_MM_split, i_MM_split, e_MM_split, fun _ => ⟨_, rfl, rfl⟩⟩
  · rintro vz V po hO hW ⟨rfl, h0, h1, h2, hp⟩
    refine zmet (m := zm_MMsplit) rfl (by decide) (fun _ _ => jtF_ok) lo_MM ao_MMsplitX jC (fun q h => by cases h) (fun q h => by cases h) (fun G h => by cases h) (Nat.le_of_ble_eq_true rfl) hO hW (60 * 65537 + 100) ?_
    refine zp_MMsplit_0 (by omega) hn (zg_rsplit (V := V) hn rfl rfl h2 h0 h1 hp 65537 _ _ _ _ 0 (by omega) (by omega) (zRf_z ⟨fun _ _ _ => rfl, fun _ _ => rfl, rfl⟩) ⟨by rw [zuF_1, if_pos ⟨rfl, rfl⟩]; rfl, fun k hk => absurd hk (Nat.not_lt_zero k), fun k hk => absurd hk (Nat.not_lt_zero k)⟩ rfl (by omega) (Or.inl ⟨by omega, by omega, by omega, rfl, fun k hk => absurd hk (Nat.not_lt_zero k)⟩))
end
end
section
/-! a number of a line: the reference -/
/-- a word may be a number, as far as its sign, its length and its first digit go -/
noncomputable def xN0 (g : Int → Int) (f d ls : Int) : Prop := 1 ≤ d ∧ d ≤ 9 ∧ ¬ (g f = 48 ∧ (1 < d ∨ ls = 1))
theorem xN_y {g : Int → Int} {a e ls v w : Int} (hls : (ls = 1 ∧ a < e ∧ g a = 45) ∨ (ls = 0 ∧ ¬ (a < e ∧ g a = 45))) (h1 : xN0 g (a + ls) (e - (a + ls)) ls) (h2 : xdg g (a + ls) e) (hv : v = xdec g (a + ls) (e - (a + ls)).toNat) (hw : w = (1 - 2 * ls) * v) : xNv g a e w := by
  obtain ⟨q1, q2, q3⟩ := h1
  refine ⟨ls, hls, by omega, by omega, ?_, h2, by rw [hw, hv]⟩
  rintro ⟨z1, z2⟩
  exact q3 ⟨z1, by omega⟩
theorem xN_n {g : Int → Int} {a e ls v : Int} (hls : (ls = 1 ∧ a < e ∧ g a = 45) ∨ (ls = 0 ∧ ¬ (a < e ∧ g a = 45))) (h : ¬ (xN0 g (a + ls) (e - (a + ls)) ls ∧ xdg g (a + ls) e)) : ¬ xNv g a e v := by
  rintro ⟨ls', q1, q2, q3, q4, q5, -⟩
  obtain rfl : ls = ls' := by
    rcases hls with ⟨e1, z1⟩ | ⟨e1, z1⟩ <;> rcases q1 with ⟨e2, z2⟩ | ⟨e2, z2⟩
    · omega
    · exact absurd z1 z2
    · exact absurd z2 z1
    · omega
  refine h ⟨⟨by omega, by omega, ?_⟩, q5⟩
  rintro ⟨z1, z2⟩
  exact q4 ⟨z1, by omega⟩
theorem xN_u {g : Int → Int} {a e ls v w : Int} (hls : (ls = 1 ∧ a < e ∧ g a = 45) ∨ (ls = 0 ∧ ¬ (a < e ∧ g a = 45))) (hv : v = xdec g (a + ls) (e - (a + ls)).toNat) (h : xNv g a e w) : w = (1 - 2 * ls) * v := by
  obtain ⟨ls', q1, -, -, -, -, q2⟩ := h
  obtain rfl : ls = ls' := by
    rcases hls with ⟨e1, z1⟩ | ⟨e1, z1⟩ <;> rcases q1 with ⟨e2, z2⟩ | ⟨e2, z2⟩
    · omega
    · exact absurd z1 z2
    · exact absurd z2 z1
    · omega
  rw [q2, hv]
/-- the post of number -/
noncomputable def zNp (W : zW) (post : zPo) (g : Int → Int) (a e lo hi : Int) : Prop := ∀ r x : Int, xBl x (W.1 87 16 = 1 ∧ ∃ v, xNv g a e v ∧ lo ≤ v ∧ v ≤ hi) → (x = 1 → xNv g a e r) → post (some (.inl r)) (zuF W 87 16 x)
theorem zg_rnum175 {n K : Nat} {W : zW} {post : zPo} {w lo hi a e ls d s v i : Int} {g : Int → Int} (hK : 60 ≤ K) (hn : 142 ≤ n) (hr : W.1 87 16 = 0 ∨ W.1 87 16 = 1) (hpost : zNp W post g a e lo hi) (hls : (ls = 1 ∧ a < e ∧ g a = 45) ∨ (ls = 0 ∧ ¬ (a < e ∧ g a = 45))) (hc : (s = 1 ∧ xN0 g (a + ls) (e - (a + ls)) ls ∧ xdg g (a + ls) e ∧ v = xdec g (a + ls) (e - (a + ls)).toNat) ∨ (s = 0 ∧ ¬ (xN0 g (a + ls) (e - (a + ls)) ls ∧ xdg g (a + ls) e))) (hv : -2000000000 ≤ v ∧ v ≤ 2000000000) : zwp jtb zsh n zm_MMnumber post K (lGo ak_MMnumberX 175) 175 [some (.inr (.inr (some (.inl 87)))), some (.inl w), some (.inl lo), some (.inl hi), some (.inl (a + ls)), some (.inl ls), some (.inl d), some (.inl s), some (.inl v), some (.inl i)] [] W := by
  have hl01 : ls = 0 ∨ ls = 1 := by
    rcases hls with h | h
    · exact Or.inr h.1
    · exact Or.inl h.1
  have go : ∀ (K' : Nat) (x : Int), 40 ≤ K' → x = (1 - 2 * ls) * v → zwp jtb zsh n zm_MMnumber post K' (lGo ak_MMnumberX 188) 188 [some (.inr (.inr (some (.inl 87)))), some (.inl w), some (.inl lo), some (.inl hi), some (.inl (a + ls)), some (.inl ls), some (.inl d), some (.inl s), some (.inl v), some (.inl i)] [.inl x] W := by
    intro K' x hK' hx
    have no : ∀ K2 : Nat, 20 ≤ K2 → ¬ (W.1 87 16 = 1 ∧ ∃ v, xNv g a e v ∧ lo ≤ v ∧ v ≤ hi) → zwp jtb zsh n zm_MMnumber post K2 (lGo ak_MMnumberX 219) 219 [some (.inr (.inr (some (.inl 87)))), some (.inl w), some (.inl lo), some (.inl hi), some (.inl (a + ls)), some (.inl ls), some (.inl d), some (.inl s), some (.inl x), some (.inl i)] [.inr (.inr (some (.inl 87)))] W := by
      intro K2 hK2 hz
      exact zp_MMnumber_219 (by omega) hn (zp_MMnumber_220 (by omega) hn ⟨Or.inr ⟨rfl, Or.inl rfl⟩, hpost x 0 (Or.inr ⟨rfl, hz⟩) (fun h => absurd h (by decide))⟩)
    have un : s = 1 → ∀ u, xNv g a e u → u = x := by
      intro h1 u hu
      rcases hc with h | h
      · rw [hx]; exact xN_u hls h.2.2.2 hu
      · omega
    refine zp_MMnumber_188 (by omega) hn ⟨fun h => no _ (by omega) (fun q => by omega), fun h => ⟨fun h2 => no _ (by omega) ?_, fun h2 => ?_⟩⟩
    · rintro ⟨-, u, hu, -⟩
      rcases hc with h3 | h3
      · omega
      · exact xN_n hls h3.2 hu
    · have h3 : s = 1 ∧ xN0 g (a + ls) (e - (a + ls)) ls ∧ xdg g (a + ls) e ∧ v = xdec g (a + ls) (e - (a + ls)).toNat := by
        rcases hc with h3 | h3
        · exact h3
        · exact absurd h3.1 h2
      have hN : xNv g a e x := xN_y hls h3.2.1 h3.2.2.1 h3.2.2.2 hx
      refine ⟨fun h4 => no _ (by omega) ?_, fun h4 => ⟨fun h5 => no _ (by omega) ?_, fun h5 => zp_MMnumber_220 (by omega) hn ⟨Or.inr ⟨rfl, Or.inr rfl⟩, hpost x 1 (Or.inl ⟨rfl, by omega, x, hN, by omega, by omega⟩) (fun _ => hN)⟩⟩⟩
      · rintro ⟨-, u, hu, h6, -⟩
        rw [un h3.1 u hu] at h6
        omega
      · rintro ⟨-, u, hu, -, h6⟩
        rw [un h3.1 u hu] at h6
        omega
  refine zp_MMnumber_175 (by omega) hn ⟨fun h => go _ v (by omega) (by rw [h]; omega), fun h => ⟨by omega, go _ (-v) (by omega) ?_⟩⟩
  obtain rfl : ls = 1 := by omega
  omega
theorem zg_rnum104 {n : Nat} {W : zW} {post : zPo} {w lo hi a e ls d : Int} {g : Int → Int} (hn : 142 ≤ n) (hg : W.2.1 88 = g) (hB : ∀ i, -128 ≤ g i ∧ g i ≤ 127) (w0 : 0 ≤ w) (w1 : w < 32768) (he : W.2.1 138 w = e) (a0 : 0 ≤ a) (ae : a < e) (e1 : e ≤ 65536) (hr : W.1 87 16 = 0 ∨ W.1 87 16 = 1) (hpost : zNp W post g a e lo hi) (hls : (ls = 1 ∧ a < e ∧ g a = 45) ∨ (ls = 0 ∧ ¬ (a < e ∧ g a = 45))) : ∀ (m K : Nat) (s v i : Int), 60 * m + 80 ≤ K → e - i ≤ m → a + ls ≤ i → i ≤ e → ((s = 1 ∧ xN0 g (a + ls) (e - (a + ls)) ls ∧ xdg g (a + ls) i ∧ v = xdec g (a + ls) (i - (a + ls)).toNat) ∨ (s = 0 ∧ ¬ (xN0 g (a + ls) (e - (a + ls)) ls ∧ xdg g (a + ls) e) ∧ -2000000000 ≤ v ∧ v ≤ 2000000000)) → zwp jtb zsh n zm_MMnumber post K (lGo ak_MMnumberX 104) 104 [some (.inr (.inr (some (.inl 87)))), some (.inl w), some (.inl lo), some (.inl hi), some (.inl (a + ls)), some (.inl ls), some (.inl d), some (.inl s), some (.inl v), some (.inl i)] [] W := by
  have hl01 : ls = 0 ∨ ls = 1 := by
    rcases hls with h | h
    · exact Or.inr h.1
    · exact Or.inl h.1
  -- where the loop is left
  have fin : ∀ (K : Nat) (s v i : Int), 60 ≤ K → a + ls ≤ i → i ≤ e → (e ≤ i ∨ s = 0) → ((s = 1 ∧ xN0 g (a + ls) (e - (a + ls)) ls ∧ xdg g (a + ls) i ∧ v = xdec g (a + ls) (i - (a + ls)).toNat) ∨ (s = 0 ∧ ¬ (xN0 g (a + ls) (e - (a + ls)) ls ∧ xdg g (a + ls) e) ∧ -2000000000 ≤ v ∧ v ≤ 2000000000)) → zwp jtb zsh n zm_MMnumber post K (lGo ak_MMnumberX 175) 175 [some (.inr (.inr (some (.inl 87)))), some (.inl w), some (.inl lo), some (.inl hi), some (.inl (a + ls)), some (.inl ls), some (.inl d), some (.inl s), some (.inl v), some (.inl i)] [] W := by
    intro K s v i hK i0 i1 hx hc
    rcases hc with ⟨rfl, h1, h2, h3⟩ | ⟨rfl, h1, h2⟩
    · obtain rfl : i = e := by omega
      have hb := xdec_9 (g := g) (a := a + ls) (i := i) i0 (by have := h1.2.1; omega) h2
      rw [← h3] at hb
      exact zg_rnum175 hK hn hr hpost hls (Or.inl ⟨rfl, h1, h2, h3⟩) (by omega)
    · exact zg_rnum175 hK hn hr hpost hls (Or.inr ⟨rfl, h1⟩) h2
  intro m
  induction m with
  | zero =>
    intro K s v i hK hm i0 i1 hc
    exact zp_MMnumber_104 (by omega) hn ⟨⟨w0, w1⟩, fun h => fin _ s v i (by omega) i0 i1 (Or.inl (by omega)) hc, fun h => absurd (by omega) h⟩
  | succ m ih =>
    intro K s v i hK hm i0 i1 hc
    refine zp_MMnumber_104 (by omega) hn ⟨⟨w0, w1⟩, fun h => fin _ s v i (by omega) i0 i1 (Or.inl (by omega)) hc, fun h => ⟨fun h1 => fin _ s v i (by omega) i0 i1 (Or.inr h1) hc, fun h1 => ?_⟩⟩
    have h2 : s = 1 ∧ xN0 g (a + ls) (e - (a + ls)) ls ∧ xdg g (a + ls) i ∧ v = xdec g (a + ls) (i - (a + ls)).toNat := by
      rcases hc with h2 | h2
      · exact h2
      · exact absurd h2.1 h1
    obtain ⟨h3, h4, h5, h6⟩ := h2
    have hb := xdec_8 (g := g) (a := a + ls) (i := i) i0 (by have := h4.2.1; omega) h5
    rw [← h6] at hb
    have hy := hB i
    have go : ∀ (K' : Nat) (x : Int), 60 * m + 110 ≤ K' → ((x = 1 ∧ 48 ≤ g i ∧ g i ≤ 57) ∨ (x = 0 ∧ ¬ (48 ≤ g i ∧ g i ≤ 57))) → zwp jtb zsh n zm_MMnumber post K' (lGo ak_MMnumberX 149) 149 [some (.inr (.inr (some (.inl 87)))), some (.inl w), some (.inl lo), some (.inl hi), some (.inl (a + ls)), some (.inl ls), some (.inl d), some (.inl s), some (.inl v), some (.inl i)] [.inl x] W := by
      intro K' x hK' hx
      rw [← hg] at hy hx
      refine zp_MMnumber_149 (by omega) hn ⟨by omega, by omega, by omega, by omega, by omega, ih _ x _ (i + 1) (by omega) (by omega) (by omega) (by omega) ?_⟩
      rw [hg] at hy hx ⊢
      rcases hx with ⟨rfl, hx⟩ | ⟨rfl, hx⟩
      · refine Or.inl ⟨rfl, h4, fun j j0 j1 => ?_, ?_⟩
        · by_cases c : j = i
          · rw [c]; exact hx
          · exact h5 j j0 (by omega)
        · rw [xdec_s i0, ← h6]
      · exact Or.inr ⟨rfl, fun q => hx (q.2 i i0 (by omega)), by omega⟩
    refine ⟨by omega, fun h7 => zp_MMnumber_148 (by omega) hn (go _ 0 (by omega) (Or.inr ⟨rfl, ?_⟩)), fun h7 => ⟨by omega, fun h8 => zp_MMnumber_148 (by omega) hn (go _ 0 (by omega) (Or.inr ⟨rfl, ?_⟩)), fun h8 => go _ 1 (by omega) (Or.inl ⟨rfl, ?_⟩)⟩⟩
    · rw [hg] at h7; omega
    · rw [hg] at h8; omega
    · rw [hg] at h7 h8; omega
noncomputable def zc_MMnumber (vals : List zv) (W : zW) (post : zPo) : Prop := ∃ w lo hi : Int, vals = [.inr (.inr (some (.inl 87))), .inl w, .inl lo, .inl hi] ∧ (∀ i, -128 ≤ W.2.1 88 i ∧ W.2.1 88 i ≤ 127) ∧ 0 ≤ w ∧ w < 32768 ∧ 0 ≤ W.2.1 137 w ∧ W.2.1 137 w < W.2.1 138 w ∧ W.2.1 138 w ≤ 65536 ∧ (W.1 87 16 = 0 ∨ W.1 87 16 = 1) ∧ zNp W post (W.2.1 88) (W.2.1 137 w) (W.2.1 138 w) lo hi
theorem zg_rnum {n : Nat} {W : zW} {post : zPo} {w lo hi a e : Int} {g : Int → Int} (hn : 142 ≤ n) (hg : W.2.1 88 = g) (hB : ∀ i, -128 ≤ g i ∧ g i ≤ 127) (w0 : 0 ≤ w) (w1 : w < 32768) (ha : W.2.1 137 w = a) (he : W.2.1 138 w = e) (a0 : 0 ≤ a) (ae : a < e) (e1 : e ≤ 65536) (hr : W.1 87 16 = 0 ∨ W.1 87 16 = 1) (hpost : zNp W post g a e lo hi) : zwp jtb zsh n zm_MMnumber post 4000300 (lGo ak_MMnumberX 0) 0 [some (.inr (.inr (some (.inl 87)))), some (.inl w), some (.inl lo), some (.inl hi), none, none, none, none, none, none] [] W := by
  have g95 : ∀ (K : Nat) (ls d x : Int), 4000100 ≤ K → ((ls = 1 ∧ a < e ∧ g a = 45) ∨ (ls = 0 ∧ ¬ (a < e ∧ g a = 45))) → xBl x (xN0 g (a + ls) (e - (a + ls)) ls) → zwp jtb zsh n zm_MMnumber post K (lGo ak_MMnumberX 95) 95 [some (.inr (.inr (some (.inl 87)))), some (.inl w), some (.inl lo), some (.inl hi), some (.inl (a + ls)), some (.inl ls), some (.inl d), none, none, none] [.inl x] W := by
    intro K ls d x hK hls hx
    have hl : a + ls ≤ e := by
      rcases hls with h | h <;> omega
    refine zp_MMnumber_95 (by omega) hn (zg_rnum104 hn hg hB w0 w1 he a0 ae e1 hr hpost hls 65537 _ x 0 (a + ls) (by omega) (by omega) (Int.le_refl _) hl ?_)
    rcases hx with ⟨rfl, hx⟩ | ⟨rfl, hx⟩
    · refine Or.inl ⟨rfl, hx, fun j j0 j1 => by omega, ?_⟩
      rw [show (a + ls - (a + ls)).toNat = 0 by omega]
      rfl
    · exact Or.inr ⟨rfl, fun q => hx q.1, by omega⟩
  have g41 : ∀ (K : Nat) (b ls x : Int), 4000200 ≤ K → x = a + ls → ((ls = 1 ∧ a < e ∧ g a = 45) ∨ (ls = 0 ∧ ¬ (a < e ∧ g a = 45))) → zwp jtb zsh n zm_MMnumber post K (lGo ak_MMnumberX 41) 41 [some (.inr (.inr (some (.inl 87)))), some (.inl w), some (.inl lo), some (.inl hi), some (.inl b), some (.inl ls), none, none, none, none] [.inl x] W := by
    rintro K b ls x hK rfl hls
    have hl01 : ls = 0 ∨ ls = 1 := by
      rcases hls with h | h
      · exact Or.inr h.1
      · exact Or.inl h.1
    have no : ∀ (K' : Nat) (d : Int), 4000150 ≤ K' → ¬ xN0 g (a + ls) (e - (a + ls)) ls → zwp jtb zsh n zm_MMnumber post K' (lGo ak_MMnumberX 94) 94 [some (.inr (.inr (some (.inl 87)))), some (.inl w), some (.inl lo), some (.inl hi), some (.inl (a + ls)), some (.inl ls), some (.inl d), none, none, none] [] W := fun K' d hK' hz => zp_MMnumber_94 (by omega) hn (g95 _ ls d 0 (by omega) hls (Or.inr ⟨rfl, hz⟩))
    refine zp_MMnumber_41 (by omega) hn ⟨⟨w0, w1⟩, by omega, fun h1 => no _ _ (by omega) (fun q => ?_), fun h1 => ⟨fun h2 => no _ _ (by omega) (fun q => ?_), fun h2 => ⟨by omega, fun h3 => g95 _ ls _ 1 (by omega) hls (Or.inl ⟨rfl, by omega, by omega, fun q => ?_⟩), fun h3 => ⟨fun h4 => no _ _ (by omega) (fun q => ?_), fun h4 => ⟨fun h5 => no _ _ (by omega) (fun q => ?_), fun h5 => g95 _ ls _ 1 (by omega) hls (Or.inl ⟨rfl, by omega, by omega, fun q => ?_⟩)⟩⟩⟩⟩⟩
    · have := q.1; omega
    · have := q.2.1; omega
    · rw [hg] at h3; exact h3 q.1
    · rw [hg] at h3; exact q.2.2 ⟨h3, by omega⟩
    · rw [hg] at h3; exact q.2.2 ⟨h3, by omega⟩
    · omega
  refine zp_MMnumber_0 (by omega) hn ⟨⟨w0, w1⟩, by omega, fun h => ?_, fun h => ?_⟩
  · rw [ha, hg] at h
    refine zp_MMnumber_25 (by omega) hn ⟨fun _ => g41 _ _ 0 _ (by omega) (by omega) (Or.inr ⟨rfl, fun q => h q.2⟩), fun q => absurd rfl q⟩
  · rw [ha, hg] at h
    refine zp_MMnumber_25 (by omega) hn ⟨fun q => absurd q (by decide), fun _ => ⟨by omega, g41 _ _ 1 _ (by omega) (by omega) (Or.inl ⟨rfl, ae, h⟩)⟩⟩
section
variable {l : Launch} {E : jE} {n : Nat}
theorem zk_rnumber (hn : 142 ≤ n) : zHas l E jcl jtb lw_tbl zsh n (y_MM_number, false, 4, 11, { frames := 0, cells := 0, slots := 0, locals := 0 }, zc_MMnumber) := by
  refine ⟨⟨rfl, rfl, ?_⟩, ?_⟩
  · exact ⟨show 1 ≤ 4 by decide, m_MM_number, i_MM_number, e_MM_number, fun _ => ⟨_, rfl, rfl⟩⟩
  · rintro vz W po hO hW ⟨w, lo, hi, rfl, hB, h1, h2, h3, h4, h5, h6, hp⟩
    refine zmet (m := zm_MMnumber) rfl (by decide) (fun _ _ => jtF_ok) lo_MM ao_MMnumberX jC (fun q h => by cases h) (fun q h => by cases h) (fun G h => by cases h) (Nat.le_of_ble_eq_true rfl) hO hW 4000300 ?_
    exact zg_rnum hn rfl hB h1 h2 rfl rfl h3 h4 h5 h6 hp
end
end
section
/-! texts by the check -/
/-! links of the texts' classes -/
noncomputable def lk_ST : jLk := ([], [], [])
theorem lo_ST : jLkOk "java/lang/String" lw_tbl jcl jtb lk_ST := ⟨fun q h => (by cases h), fun q h => (by cases h), fun q h => (by cases h)⟩
noncomputable def lk_SL : jLk := ([], [], [])
theorem lo_SL : jLkOk "java/lang/StringLatin1" lw_tbl jcl jtb lk_SL := ⟨fun q h => (by cases h), fun q h => (by cases h), fun q h => (by cases h)⟩
theorem ql_ST_335 : jlm lw_tbl 993 "java/lang/String" 335 ⟨"java/lang/String", "coder", "()B"⟩ = true := jlm_of (Or.inl (jtF_ok rfl))
theorem ql_ST_492 : jlm lw_tbl 1003 "java/lang/String" 492 ⟨"java/lang/String", "isLatin1", "()Z"⟩ = true := jlm_of (Or.inl (jtF_ok rfl))
theorem ql_ST_495 : jlm lw_tbl 1007 "java/lang/String" 495 ⟨"java/lang/StringLatin1", "charAt", "([BI)C"⟩ = true := jlm_of (Or.inl (jtF_ok rfl))
theorem ql_ST_505 : jlm lw_tbl 1102 "java/lang/String" 505 ⟨"java/lang/String", "length", "()I"⟩ = true := jlm_of (Or.inl (jtF_ok rfl))
theorem ql_ST_633 : jlm lw_tbl 1098 "java/lang/String" 633 ⟨"java/lang/String", "indexOf", "(II)I"⟩ = true := jlm_of (Or.inl (jtF_ok rfl))
theorem ql_ST_637 : jlm lw_tbl 1103 "java/lang/String" 637 ⟨"java/lang/StringLatin1", "indexOf", "([BIII)I"⟩ = true := jlm_of (Or.inl (jtF_ok rfl))
theorem ql_ST_1059 : jlm lw_tbl 1015 "java/lang/String" 1059 ⟨"jdk/internal/util/Preconditions", "checkIndex", "(IILjava/util/function/BiFunction;)I"⟩ = true := jlm_of (Or.inl (jtF_ok rfl))
theorem ql_SL_9 : jlm lw_tbl 1010 "java/lang/StringLatin1" 9 ⟨"java/lang/String", "checkIndex", "(II)V"⟩ = true := jlm_of (Or.inl (jtF_ok rfl))
theorem ql_SL_88 : jlm lw_tbl 1106 "java/lang/StringLatin1" 88 ⟨"java/lang/StringLatin1", "canEncode", "(I)Z"⟩ = true := jlm_of (Or.inl (jtF_ok rfl))
theorem ql_SL_95 : jlm lw_tbl 1115 "java/lang/StringLatin1" 95 ⟨"java/lang/StringLatin1", "indexOfChar", "([BIII)I"⟩ = true := jlm_of (Or.inl (jtF_ok rfl))
noncomputable def y_PC_checkIndex : jY := (⟨"jdk/internal/util/Preconditions", "checkIndex", "(IILjava/util/function/BiFunction;)I"⟩, prog_33_method_11_code, 3, (some .int))
theorem m_PC_checkIndex : jmth lw_tbl y_PC_checkIndex 3 := ⟨jTA_in (wi := 1017) (jtF_ok rfl) rfl, jTA_in (wi := 326) (jtF_ok rfl) rfl, by decide, by decide, by decide +kernel⟩
theorem s_PC_checkIndex : Jvm.Cond.static y_PC_checkIndex.1 ∈ jTA lw_tbl := jTA_in (wi := 1016) (jtF_ok rfl) rfl
noncomputable def y_ST_checkIndex : jY := (⟨"java/lang/String", "checkIndex", "(II)V"⟩, prog_26_method_155_code, 2, none)
theorem m_ST_checkIndex : jmth lw_tbl y_ST_checkIndex 2 := ⟨jTA_in (wi := 1012) (jtF_ok rfl) rfl, jTA_in (wi := 324) (jtF_ok rfl) rfl, by decide, by decide, by decide +kernel⟩
theorem s_ST_checkIndex : Jvm.Cond.static y_ST_checkIndex.1 ∈ jTA lw_tbl := jTA_in (wi := 1011) (jtF_ok rfl) rfl
noncomputable def y_ST_coder : jY := (⟨"java/lang/String", "coder", "()B"⟩, prog_26_method_152_code, 1, (some .byte))
theorem m_ST_coder : jmth lw_tbl y_ST_coder 0 := ⟨jTA_in (wi := 996) (jtF_ok rfl) rfl, jTA_in (wi := 324) (jtF_ok rfl) rfl, by decide, by decide, by decide +kernel⟩
theorem i_ST_coder : Jvm.Cond.instanceMethod y_ST_coder.1 ∈ jTA lw_tbl := jTA_in (wi := 994) (jtF_ok rfl) rfl
theorem e_ST_coder : Jvm.Cond.selects y_ST_coder.1.cls y_ST_coder.1 y_ST_coder.1 ∈ jTA lw_tbl := jTA_in (wi := 995) (jtF_ok rfl) rfl
noncomputable def y_ST_isLatin1 : jY := (⟨"java/lang/String", "isLatin1", "()Z"⟩, prog_26_method_154_code, 1, (some .boolean))
theorem m_ST_isLatin1 : jmth lw_tbl y_ST_isLatin1 0 := ⟨jTA_in (wi := 1006) (jtF_ok rfl) rfl, jTA_in (wi := 324) (jtF_ok rfl) rfl, by decide, by decide, by decide +kernel⟩
theorem i_ST_isLatin1 : Jvm.Cond.instanceMethod y_ST_isLatin1.1 ∈ jTA lw_tbl := jTA_in (wi := 1004) (jtF_ok rfl) rfl
theorem e_ST_isLatin1 : Jvm.Cond.selects y_ST_isLatin1.1.cls y_ST_isLatin1.1 y_ST_isLatin1.1 ∈ jTA lw_tbl := jTA_in (wi := 1005) (jtF_ok rfl) rfl
noncomputable def y_ST_length : jY := (⟨"java/lang/String", "length", "()I"⟩, prog_26_method_54_code, 1, (some .int))
theorem m_ST_length : jmth lw_tbl y_ST_length 0 := ⟨jTA_in (wi := 992) (jtF_ok rfl) rfl, jTA_in (wi := 324) (jtF_ok rfl) rfl, by decide, by decide, by decide +kernel⟩
theorem i_ST_length : Jvm.Cond.instanceMethod y_ST_length.1 ∈ jTA lw_tbl := jTA_in (wi := 990) (jtF_ok rfl) rfl
theorem e_ST_length : Jvm.Cond.selects y_ST_length.1.cls y_ST_length.1 y_ST_length.1 ∈ jTA lw_tbl := jTA_in (wi := 991) (jtF_ok rfl) rfl
noncomputable def y_SL_charAt : jY := (⟨"java/lang/StringLatin1", "charAt", "([BI)C"⟩, prog_27_method_2_code, 2, (some .char))
theorem m_SL_charAt : jmth lw_tbl y_SL_charAt 2 := ⟨jTA_in (wi := 1009) (jtF_ok rfl) rfl, jTA_in (wi := 325) (jtF_ok rfl) rfl, by decide, by decide, by decide +kernel⟩
theorem s_SL_charAt : Jvm.Cond.static y_SL_charAt.1 ∈ jTA lw_tbl := jTA_in (wi := 1008) (jtF_ok rfl) rfl
noncomputable def y_ST_charAt : jY := (⟨"java/lang/String", "charAt", "(I)C"⟩, prog_26_method_56_code, 2, (some .char))
theorem m_ST_charAt : jmth lw_tbl y_ST_charAt 1 := ⟨jTA_in (wi := 1002) (jtF_ok rfl) rfl, jTA_in (wi := 324) (jtF_ok rfl) rfl, by decide, by decide, by decide +kernel⟩
theorem i_ST_charAt : Jvm.Cond.instanceMethod y_ST_charAt.1 ∈ jTA lw_tbl := jTA_in (wi := 1000) (jtF_ok rfl) rfl
theorem e_ST_charAt : Jvm.Cond.selects y_ST_charAt.1.cls y_ST_charAt.1 y_ST_charAt.1 ∈ jTA lw_tbl := jTA_in (wi := 1001) (jtF_ok rfl) rfl
noncomputable def k_PCci0 : List jI := [(.iload_n 0, 1, (0, 0, 0, 0, 0)), (.ifCond .lt 8, 3, (9, 0, 0, 0, 0)), (.iload_n 0, 1, (0, 0, 0, 0, 0)), (.iload_n 1, 1, (1, 0, 0, 0, 0)), (.if_icmp .lt 10, 3, (16, 0, 0, 0, 0))]
theorem o_PCci0 : jokL "jdk/internal/util/Preconditions" lw_tbl jcl jtb 3 false prog_33_method_11_code 0 k_PCci0 = true := by decide +kernel
noncomputable def k_PCci16 : List jI := [(.iload_n 0, 1, (0, 0, 0, 0, 0))]
theorem o_PCci16 : jokL "jdk/internal/util/Preconditions" lw_tbl jcl jtb 3 false prog_33_method_11_code 16 k_PCci16 = true := by decide +kernel
noncomputable def k_STci0 : List jI := [(.iload_n 0, 1, (0, 0, 0, 0, 0)), (.iload_n 1, 1, (1, 0, 0, 0, 0))]
theorem o_STci0 : jokL "java/lang/String" lw_tbl jcl jtb 2 false prog_26_method_155_code 0 k_STci0 = true := by decide +kernel
noncomputable def k_STci8 : List jI := [(.pop, 1, (0, 0, 0, 0, 0))]
theorem o_STci8 : jokL "java/lang/String" lw_tbl jcl jtb 2 false prog_26_method_155_code 8 k_STci8 = true := by decide +kernel
theorem d_PCci17 : decode prog_33_method_11_code 17 = .ok (.ireturn, 1) := by decide +kernel
theorem d_STci2 : decode prog_26_method_155_code 2 = .ok (.getstatic 1053, 3) := by decide +kernel
theorem d_STci5 : decode prog_26_method_155_code 5 = .ok (.invokestatic 1059, 3) := by decide +kernel
theorem d_STci9 : decode prog_26_method_155_code 9 = .ok (.return_, 1) := by decide +kernel
set_option maxRecDepth 100000 in
theorem pc_ci (l : Launch) (E : jE) {i m : Int32} {f : jv} {σ : Nat → jcell} {n : Nat} (hf : f = .inr (.inr none) ∨ f = .inr (.inr (some (.inr 5000)))) (h0 : 0 ≤ i.toInt) (h1 : i.toInt < m.toInt) : jMet l E jcl jtb lw_tbl y_PC_checkIndex { frames := 0, cells := 0, slots := 0, locals := 0 } [.inl i, .inl m, f] σ n (fun r σ' n' => r = some (.inl i) ∧ σ' = σ ∧ n' = n) := by
  have b0 : (i < 0) = False := eq_false (fun h => by
    have := Int32.lt_iff_toInt_lt.mp h
    rw [show (0 : Int32).toInt = 0 from rfl] at this
    omega)
  have b1 : (i < m) = True := eq_true (Int32.lt_iff_toInt_lt.mpr h1)
  refine jMet_of (hY := rfl) false (fun h => by cases h) (by decide) (by rcases hf with rfl | rfl <;> exact Nat.le_of_ble_eq_true rfl) [some (.inl i), some (.inl m), some f] (by rcases hf with rfl | rfl <;> rfl) ?_
  intro M hl hR X hr
  refine jrun_ok jC X k_PCci0 0 _ _ _ o_PCci0 ?_
  simp only [k_PCci0, jrun, jstep, jldi, jldl, jlda, j1, j2, jl1, jl2, jli, ja1, jbr, jald, jast, jlald, jlast, jalen, jget, jput, jfit, jdup, jdupx, jdupx2, jdup2, jcat, jset1, jset2, jkill, List.getElem?_cons_zero, List.getElem?_cons_succ, List.set_cons_zero, List.set_cons_succ, List.length_cons, List.length_nil, Nat.reduceAdd, Nat.reduceLT, Int32.reduceToNatClampNeg, true_and, and_true, and_self, reduceCtorEq, not_false_eq_true, false_and, and_false, or_false, false_or, true_or, or_true, b0, b1, false_implies, true_implies, not_true_eq_false]
  refine jrun_ok jC X k_PCci16 16 _ _ _ o_PCci16 ?_
  simp only [k_PCci16, jrun, jstep, jldi, jldl, jlda, j1, j2, jl1, jl2, jli, ja1, jbr, jald, jast, jlald, jlast, jalen, jget, jput, jfit, jdup, jdupx, jdupx2, jdup2, jcat, jset1, jset2, jkill, List.getElem?_cons_zero, List.getElem?_cons_succ, List.set_cons_zero, List.set_cons_succ, List.length_cons, List.length_nil, Nat.reduceAdd, Nat.reduceLT, Int32.reduceToNatClampNeg, true_and, and_true, and_self, reduceCtorEq, not_false_eq_true, false_and, and_false, or_false, false_or, true_or, or_true]
  exact jk_iret X d_PCci17 hr rfl (Nat.le_refl _) (Nat.le_refl _) ⟨rfl, rfl, rfl⟩
set_option maxRecDepth 100000 in
theorem st_ci (l : Launch) (E : jE) {i m : Int32} {σ : Nat → jcell} {n : Nat} (h0 : 0 ≤ i.toInt) (h1 : i.toInt < m.toInt) : jMet l E jcl jtb lw_tbl y_ST_checkIndex { frames := 1, cells := 0, slots := 0, locals := 22 } [.inl i, .inl m] σ n (fun r σ' n' => r = none ∧ σ' = σ ∧ n' = n) := by
  refine jMet_of (hY := rfl) false (fun h => by cases h) (by decide) (Nat.le_of_ble_eq_true rfl) [some (.inl i), some (.inl m)] rfl ?_
  intro M hl hR X hr
  refine jrun_ok jC X k_STci0 0 _ _ _ o_STci0 ?_
  simp only [k_STci0, jrun, jstep, jldi, jldl, jlda, j1, j2, jl1, jl2, jli, ja1, jbr, jald, jast, jlald, jlast, jalen, jget, jput, jfit, jdup, jdupx, jdupx2, jdup2, jcat, jset1, jset2, jkill, List.getElem?_cons_zero, List.getElem?_cons_succ, List.set_cons_zero, List.set_cons_succ, List.length_cons, List.length_nil, Nat.reduceAdd, Nat.reduceLT, Int32.reduceToNatClampNeg, true_and, and_true, and_self, reduceCtorEq, not_false_eq_true, false_and, and_false, or_false, false_or, true_or, or_true]
  refine jk_gsf X d_STci2 (jTA_in (wi := 1013) (jtF_ok rfl) rfl) (fun f hf => ?_)
  refine jk_Sg X hR d_STci5 ql_ST_1059 m_PC_checkIndex s_PC_checkIndex (r := []) (pc_ci M.2.1 E (f := f) hf h0 h1) rfl rfl ⟨Nat.le_of_ble_eq_true rfl, Nat.le_of_ble_eq_true rfl⟩ (c' := 0) rfl (s' := 0) rfl ⟨Nat.le_of_ble_eq_true rfl, Nat.le_of_ble_eq_true rfl⟩ (Nat.le_of_ble_eq_true rfl) (pc' := 8) rfl ?_
  rintro _ σ1 _ ⟨rfl, rfl, rfl⟩
  simp only [Option.toList_some, List.cons_append, List.nil_append]
  refine jrun_ok jC X k_STci8 8 _ _ _ o_STci8 ?_
  simp only [k_STci8, jrun, jstep, jldi, jldl, jlda, j1, j2, jl1, jl2, jli, ja1, jbr, jald, jast, jlald, jlast, jalen, jget, jput, jfit, jdup, jdupx, jdupx2, jdup2, jcat, jset1, jset2, jkill, List.getElem?_cons_zero, List.getElem?_cons_succ, List.set_cons_zero, List.set_cons_succ, List.length_cons, List.length_nil, Nat.reduceAdd, Nat.reduceLT, Int32.reduceToNatClampNeg, true_and, and_true, and_self, reduceCtorEq, not_false_eq_true, false_and, and_false, or_false, false_or, true_or, or_true]
  exact jk_vret X d_STci9 hr (Nat.le_refl _) (Nat.le_refl _) ⟨rfl, rfl, rfl⟩
noncomputable def ak_STcoder_1000 : List jI := [(.getstatic 38, 3, (999, 0, 0, 0, 0)), (.ifCond .eq 10, 3, (13, 0, 0, 0, 0)), (.aload_n 0, 1, (0, 0, 0, 0, 0)), (.getfield 15, 3, (999, 0, 0, 0, 0)), (.goto 4, 3, (14, 0, 0, 0, 0)), (.iconst 1, 1, (0, 0, 0, 1, 0)), (.ireturn, 1, (0, 0, 0, 0, 0))]
theorem ao_STcoder_1000 : jokLG jtF lk_ST "java/lang/String" jcl jtb 1 prog_26_method_152_code 0 ak_STcoder_1000 = true := by decide +kernel
noncomputable def ak_STisLatin1_1000 : List jI := [(.getstatic 38, 3, (999, 0, 0, 0, 0)), (.ifCond .eq 14, 3, (17, 0, 0, 0, 0)), (.aload_n 0, 1, (0, 0, 0, 0, 0)), (.getfield 15, 3, (999, 0, 0, 0, 0)), (.ifCond .ne 7, 3, (17, 0, 0, 0, 0)), (.iconst 1, 1, (0, 0, 0, 1, 0)), (.goto 4, 3, (18, 0, 0, 0, 0)), (.iconst 0, 1, (0, 0, 0, 0, 0)), (.ireturn, 1, (0, 0, 0, 0, 0))]
theorem ao_STisLatin1_1000 : jokLG jtF lk_ST "java/lang/String" jcl jtb 1 prog_26_method_154_code 0 ak_STisLatin1_1000 = true := by decide +kernel
noncomputable def ak_STlength_1000 : List jI := [(.aload_n 0, 1, (0, 0, 0, 0, 0)), (.getfield 9, 3, (999, 0, 0, 0, 0)), (.arraylength, 1, (999, 0, 0, 0, 0)), (.aload_n 0, 1, (0, 0, 0, 0, 0)), (.invokevirtual 335, 3, (999, 0, 993, 1, 0)), (.ishr, 1, (0, 0, 0, 0, 0)), (.ireturn, 1, (0, 0, 0, 0, 0))]
theorem ao_STlength_1000 : jokLG jtF lk_ST "java/lang/String" jcl jtb 1 prog_26_method_54_code 0 ak_STlength_1000 = true := by decide +kernel
noncomputable def ak_SLcharAt_1000 : List jI := [(.iload_n 1, 1, (1, 0, 0, 0, 0)), (.aload_n 0, 1, (0, 0, 0, 0, 0)), (.arraylength, 1, (999, 0, 0, 0, 0)), (.invokestatic 9, 3, (0, 0, 1010, 0, 0)), (.aload_n 0, 1, (0, 0, 0, 0, 0)), (.iload_n 1, 1, (1, 0, 0, 0, 0)), (.baload, 1, (999, 0, 0, 0, 0)), (.sipush 255, 3, (0, 0, 0, 255, 0)), (.iand, 1, (0, 0, 0, 0, 0)), (.i2c, 1, (0, 0, 0, 0, 0)), (.ireturn, 1, (0, 0, 0, 0, 0))]
theorem ao_SLcharAt_1000 : jokLG jtF lk_SL "java/lang/StringLatin1" jcl jtb 2 prog_27_method_2_code 0 ak_SLcharAt_1000 = true := by decide +kernel
noncomputable def ak_STcharAt_1000 : List jI := [(.aload_n 0, 1, (0, 0, 0, 0, 0)), (.invokevirtual 492, 3, (999, 0, 1003, 1, 0)), (.ifCond .eq 12, 3, (16, 0, 0, 0, 0)), (.aload_n 0, 1, (0, 0, 0, 0, 0)), (.getfield 9, 3, (999, 0, 0, 0, 0)), (.iload_n 1, 1, (1, 0, 0, 0, 0)), (.invokestatic 495, 3, (1, 0, 1007, 0, 0)), (.ireturn, 1, (0, 0, 0, 0, 0)), (.aload_n 0, 1, (0, 0, 0, 0, 0)), (.getfield 9, 3, (999, 0, 0, 0, 0)), (.iload_n 1, 1, (1, 0, 0, 0, 0)), (.invokestatic 498, 3, (0, 0, 0, 0, 0)), (.ireturn, 1, (0, 0, 0, 0, 0))]
theorem ao_STcharAt_1000 : jokLG jtF lk_ST "java/lang/String" jcl jtb 2 prog_26_method_56_code 0 ak_STcharAt_1000 = true := by decide +kernel
end
