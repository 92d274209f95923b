/-! THE J KIT: the machine over pictures. A method runs over ONE picture of all cells that the claim has made (places 0 .. n-1 above a base B): no frame rule is wanted. -/
abbrev jv : Type := Int32 ⊕ (Int64 ⊕ Option (Nat ⊕ Nat))
abbrev jcell : Type := (FieldType × vp_A) ⊕ (Nat × List jv)
abbrev jE : Type := va_G × (FieldType → ClassId) × (Nat → Nat) × Nat
abbrev jTb : Type := Nat → Option (String × String × String × FieldType × Nat × (Nat → Int32))
/-- a picture's value as the machine has it -/
def jc (E : jE) (v : jv) : Value := match v with
  | .inl x => .int x
  | .inr (.inl x) => .long x
  | .inr (.inr none) => .null
  | .inr (.inr (some (.inl k))) => .ref (E.2.2.2 + k)
  | .inr (.inr (some (.inr j))) => .ref (E.2.2.1 j)
def je (E : jE) (x : jcell) : va_E := match x with
  | .inl a => .inl (E.2.1 a.1, a.2)
  | .inr o => .inr (o.1, o.2.map (jc E))
/-- the element types of the arrays that pictures hold -/
def jtys : List FieldType := [.int, .byte, .char, .long, .boolean]
/-- what is known of a cell: an array of another type stands for a cell of which nothing is known -/
def jkn (x : jcell) : Prop := match x with
  | .inl a => a.1 ∈ jtys
  | .inr _ => True
def jW (E : jE) (cl : List vw_C) (σ : Nat → jcell) (n : Nat) (H : Heap) : Prop :=
  H.size = E.2.2.2 + n ∧ ∀ k, k < n → jkn (σ k) → va_at E.1 cl (E.2.2.2 + k, je E (σ k)) H
def jA (E : jE) : Nat → Prop := fun q => E.2.2.2 ≤ q
def jup (σ : Nat → jcell) (k : Nat) (x : jcell) : Nat → jcell := fun j => if j = k then x else σ j
theorem jup_s {σ : Nat → jcell} {k : Nat} {x : jcell} : jup σ k x k = x := if_pos rfl
theorem jup_n {σ : Nat → jcell} {k j : Nat} {x : jcell} (h : j ≠ k) : jup σ k x j = σ j := if_neg h
def jtyl (E : jE) : List (ClassId × FieldType) := jtys.map (fun t => (E.2.1 t, t))
/-- constant tables: a static field holds an array that never changes -/
def jSt (E : jE) (tb : jTb) (U : State) : Prop := (∀ (j : Nat) (x : String × String × String × FieldType × Nat × (Nat → Int32)), tb j = some x →
  va_Z x.1 x.2.1 x.2.2.1 (.ref (E.2.2.1 j)) (jA E) U U.heap ∧ va_T x.2.2.2.1 (E.2.2.1 j) x.2.2.2.2.1 (fun i => .int (x.2.2.2.2.2 i)) (jA E) U U.heap) ∧ jSo E.2.2.1 (jA E) js0 U
/-- the words that every reader may carry, and those of nest mates -/
def jgood (w : Jvm.Cond) : Bool := (w.onTables && w.keeps) || (match w with
  | .arrayClass _ => true
  | _ => false)
def jnest (w : Jvm.Cond) : Bool := match w with
  | .fieldLinkNest .. => true
  | .methodLinkNest .. => true
  | _ => false
def jTA (Ts : List Jvm.Cond) : List Jvm.Cond := Ts.filter jgood
def jNW (Ts : List Jvm.Cond) : List Jvm.Cond := Ts.filter jnest
theorem jTA_in {Ts : List Jvm.Cond} {wi : Nat} {w : Jvm.Cond} (h : Ts[wi]? = some w) (hg : jgood w = true) : w ∈ jTA Ts := List.mem_filter.mpr ⟨List.mem_of_getElem? h, hg⟩
def jK (E : jE) (cl : List vw_C) (tb : jTb) (Ts : List Jvm.Cond) (U : State) : Prop := va_K E.1 cl (jtyl E) U ∧ jSt E tb U ∧ E.2.2.2 ≤ U.heap.size ∧ ∀ w ∈ jNW Ts, va_Nw w U
/-! locals -/
def jcat (v : jv) : Nat := match v with
  | .inr (.inl _) => 2
  | _ => 1
def jlv (E : jE) (ls : Array Slot) (nL : Nat) (lv : List (Option jv)) : Prop := ls.size = nL ∧ lv_wf ls ∧ ∀ (i : Nat) (v : jv), lv[i]? = some (some v) → ls[i]? = some (.val (jc E v))
def jpr (E : jE) : Nat → List (Option jv) → List (Nat × Value)
  | _, [] => []
  | i, none :: r => jpr E (i + 1) r
  | i, some v :: r => (i, jc E v) :: jpr E (i + 1) r
def jkill (lv : List (Option jv)) (i : Nat) : List (Option jv) := match i with
  | 0 => lv
  | j + 1 => match lv[j]? with
    | some (some (.inr (.inl _))) => lv.set j none
    | _ => lv
def jset1 (lv : List (Option jv)) (i : Nat) (v : jv) : List (Option jv) := (jkill lv i).set i (some v)
def jset2 (lv : List (Option jv)) (i : Nat) (v : jv) : List (Option jv) := ((jkill lv i).set i (some v)).set (i + 1) none
/-! one instruction over a picture -/
abbrev jN : Type := Nat → List (Option jv) → List jv → (Nat → jcell) → Prop
/-- what an instruction carries besides: two numbers (kind of object and field; the jump's goal), the place of its word, an int, a long -/
abbrev jP : Type := Nat × Nat × Nat × Int32 × Int64
abbrev jI : Type := Instr × Nat × jP
def j1 (st : List jv) (f : Int32 → List jv → Prop) : Prop := match st with
  | .inl x :: r => f x r
  | _ => False
def j2 (st : List jv) (f : Int32 → Int32 → List jv → Prop) : Prop := match st with
  | .inl y :: .inl x :: r => f x y r
  | _ => False
def jl1 (st : List jv) (f : Int64 → List jv → Prop) : Prop := match st with
  | .inr (.inl x) :: r => f x r
  | _ => False
def jl2 (st : List jv) (f : Int64 → Int64 → List jv → Prop) : Prop := match st with
  | .inr (.inl y) :: .inr (.inl x) :: r => f x y r
  | _ => False
def jli (st : List jv) (f : Int64 → Int32 → List jv → Prop) : Prop := match st with
  | .inl y :: .inr (.inl x) :: r => f x y r
  | _ => False
def ja1 (st : List jv) (f : Option (Nat ⊕ Nat) → List jv → Prop) : Prop := match st with
  | .inr (.inr a) :: r => f a r
  | _ => False
def jldi (lv : List (Option jv)) (i : Nat) (f : Int32 → Prop) : Prop := match lv[i]? with
  | some (some (.inl x)) => f x
  | _ => False
def jldl (lv : List (Option jv)) (i : Nat) (f : Int64 → Prop) : Prop := match lv[i]? with
  | some (some (.inr (.inl x))) => f x
  | _ => False
def jlda (lv : List (Option jv)) (i : Nat) (f : Option (Nat ⊕ Nat) → Prop) : Prop := match lv[i]? with
  | some (some (.inr (.inr a))) => f a
  | _ => False
def jbr (c : Jvm.ClassFile.Cond) (x y : Int32) (A B : Prop) : Prop := match c with
  | .eq => (x = y → A) ∧ (¬ x = y → B)
  | .ne => (¬ x = y → A) ∧ (x = y → B)
  | .lt => (x < y → A) ∧ (¬ x < y → B)
  | .ge => (y ≤ x → A) ∧ (¬ y ≤ x → B)
  | .gt => (y < x → A) ∧ (¬ y < x → B)
  | .le => (x ≤ y → A) ∧ (¬ x ≤ y → B)
/-- an array of ints, bytes, chars or booleans is read -/
def jald (tb : jTb) (σ : Nat → jcell) (n : Nat) (ty : FieldType) (st : List jv) (f : Int32 → List jv → Prop) : Prop := match st with
  | .inl i :: .inr (.inr (some (.inl a))) :: r => a < n ∧ (match σ a with
    | .inl (t, len, .inl g) => t = ty ∧ vp_in i len ∧ f (g i.toNatClampNeg) r
    | _ => False)
  | .inl i :: .inr (.inr (some (.inr j))) :: r => (match tb j with
    | some (_, _, _, t, len, g) => t = ty ∧ vp_in i len ∧ f (g i.toNatClampNeg) r
    | none => False)
  | _ => False
def jast (σ : Nat → jcell) (n : Nat) (ty : FieldType) (st : List jv) (f : (Nat → jcell) → List jv → Prop) : Prop := match st with
  | .inl x :: .inl i :: .inr (.inr (some (.inl a))) :: r => a < n ∧ (match σ a with
    | .inl (t, len, .inl g) => t = ty ∧ vp_in i len ∧ f (jup σ a (.inl (t, len, .inl (upd g i.toNatClampNeg (vp_nar ty x))))) r
    | _ => False)
  | _ => False
def jlald (σ : Nat → jcell) (n : Nat) (st : List jv) (f : Int64 → List jv → Prop) : Prop := match st with
  | .inl i :: .inr (.inr (some (.inl a))) :: r => a < n ∧ (match σ a with
    | .inl (t, len, .inr (.inl g)) => t = .long ∧ vp_in i len ∧ f (g i.toNatClampNeg) r
    | _ => False)
  | _ => False
def jlast (σ : Nat → jcell) (n : Nat) (st : List jv) (f : (Nat → jcell) → List jv → Prop) : Prop := match st with
  | .inr (.inl x) :: .inl i :: .inr (.inr (some (.inl a))) :: r => a < n ∧ (match σ a with
    | .inl (t, len, .inr (.inl g)) => t = .long ∧ vp_in i len ∧ f (jup σ a (.inl (t, len, .inr (.inl (vp_updL g i.toNatClampNeg x))))) r
    | _ => False)
  | _ => False
def jalen (tb : jTb) (σ : Nat → jcell) (n : Nat) (st : List jv) (f : Int32 → List jv → Prop) : Prop := match st with
  | .inr (.inr (some (.inl a))) :: r => a < n ∧ (match σ a with
    | .inl (t, len, _) => t ∈ jtys ∧ f (Int32.ofNat len) r
    | _ => False)
  | .inr (.inr (some (.inr j))) :: r => (match tb j with
    | some (_, _, _, _, len, _) => f (Int32.ofNat len) r
    | none => False)
  | _ => False
def jget (σ : Nat → jcell) (n ci k : Nat) (st : List jv) (f : jv → List jv → Prop) : Prop := match st with
  | .inr (.inr (some (.inl a))) :: r => a < n ∧ (match σ a with
    | .inr (c, fs) => c = ci ∧ (match fs[k]? with
      | some v => f v r
      | none => False)
    | _ => False)
  | _ => False
/-- what may be stored in a field: 0 an int, 1 a boolean, 2 a long, 3 a reference -/
def jfit (kd : Nat) (v : jv) : Prop := match kd, v with
  | 0, .inl _ => True
  | 1, .inl x => x = 0 ∨ x = 1
  | 2, .inr (.inl _) => True
  | 3, .inr (.inr _) => True
  | _, _ => False
def jput (σ : Nat → jcell) (n ci k kd : Nat) (st : List jv) (f : (Nat → jcell) → List jv → Prop) : Prop := match st with
  | v :: .inr (.inr (some (.inl a))) :: r => a < n ∧ (match σ a with
    | .inr (c, fs) => c = ci ∧ k < fs.length ∧ jfit kd v ∧ f (jup σ a (.inr (c, fs.set k v))) r
    | _ => False)
  | _ => False
def jdup (st : List jv) (f : jv → List jv → Prop) : Prop := match st with
  | v :: r => jcat v = 1 ∧ f v r
  | _ => False
def jdupx (st : List jv) (f : jv → jv → List jv → Prop) : Prop := match st with
  | v :: w :: r => jcat v = 1 ∧ jcat w = 1 ∧ f v w r
  | _ => False
def jdupx2 (st : List jv) (f : jv → jv → jv → List jv → Prop) : Prop := match st with
  | v :: w :: z :: r => jcat v = 1 ∧ jcat w = 1 ∧ jcat z = 1 ∧ f v w z r
  | _ => False
def jdup2 (st : List jv) (f : List jv → Prop) : Prop := match st with
  | .inr (.inl x) :: r => f (.inr (.inl x) :: .inr (.inl x) :: r)
  | v :: w :: r => jcat v = 1 ∧ jcat w = 1 ∧ f (v :: w :: v :: w :: r)
  | _ => False
def jstep (tb : jTb) (n : Nat) (I : Instr) (ln : Nat) (py : jP) (pc : Nat) (lv : List (Option jv)) (st : List jv) (σ : Nat → jcell) (nx lf : jN) : Prop := match I with
  | .aconst_null => nx (pc + ln) lv (.inr (.inr none) :: st) σ
  | .iconst _ => nx (pc + ln) lv (.inl py.2.2.2.1 :: st) σ
  | .bipush _ => nx (pc + ln) lv (.inl py.2.2.2.1 :: st) σ
  | .sipush _ => nx (pc + ln) lv (.inl py.2.2.2.1 :: st) σ
  | .ldc _ => nx (pc + ln) lv (.inl py.2.2.2.1 :: st) σ
  | .lconst _ => nx (pc + ln) lv (.inr (.inl py.2.2.2.2) :: st) σ
  | .ldc2_w _ => nx (pc + ln) lv (.inr (.inl py.2.2.2.2) :: st) σ
  | .iload_n _ => jldi lv py.1 fun x => nx (pc + ln) lv (.inl x :: st) σ
  | .iload k => jldi lv k fun x => nx (pc + ln) lv (.inl x :: st) σ
  | .lload_n _ => jldl lv py.1 fun x => nx (pc + ln) lv (.inr (.inl x) :: st) σ
  | .lload k => jldl lv k fun x => nx (pc + ln) lv (.inr (.inl x) :: st) σ
  | .aload_n _ => jlda lv py.1 fun x => nx (pc + ln) lv (.inr (.inr x) :: st) σ
  | .aload k => jlda lv k fun x => nx (pc + ln) lv (.inr (.inr x) :: st) σ
  | .istore_n _ => j1 st fun x r => nx (pc + ln) (jset1 lv py.1 (.inl x)) r σ
  | .istore k => j1 st fun x r => nx (pc + ln) (jset1 lv k (.inl x)) r σ
  | .lstore_n _ => jl1 st fun x r => nx (pc + ln) (jset2 lv py.1 (.inr (.inl x))) r σ
  | .lstore k => jl1 st fun x r => nx (pc + ln) (jset2 lv k (.inr (.inl x))) r σ
  | .astore_n _ => ja1 st fun x r => nx (pc + ln) (jset1 lv py.1 (.inr (.inr x))) r σ
  | .astore k => ja1 st fun x r => nx (pc + ln) (jset1 lv k (.inr (.inr x))) r σ
  | .iinc k _ => jldi lv k fun x => nx (pc + ln) (jset1 lv k (.inl (x + py.2.2.2.1))) st σ
  | .iadd => j2 st fun x y r => nx (pc + ln) lv (.inl (x + y) :: r) σ
  | .isub => j2 st fun x y r => nx (pc + ln) lv (.inl (x - y) :: r) σ
  | .imul => j2 st fun x y r => nx (pc + ln) lv (.inl (x * y) :: r) σ
  | .iand => j2 st fun x y r => nx (pc + ln) lv (.inl (x &&& y) :: r) σ
  | .ior => j2 st fun x y r => nx (pc + ln) lv (.inl (x ||| y) :: r) σ
  | .ixor => j2 st fun x y r => nx (pc + ln) lv (.inl (x ^^^ y) :: r) σ
  | .idiv => j2 st fun x y r => ¬ y = 0 ∧ nx (pc + ln) lv (.inl (x / y) :: r) σ
  | .irem => j2 st fun x y r => ¬ y = 0 ∧ nx (pc + ln) lv (.inl (x - x / y * y) :: r) σ
  | .ishl => j2 st fun x y r => nx (pc + ln) lv (.inl (x <<< (y &&& 31)) :: r) σ
  | .ishr => j2 st fun x y r => nx (pc + ln) lv (.inl (x >>> (y &&& 31)) :: r) σ
  | .iushr => j2 st fun x y r => nx (pc + ln) lv (.inl (x.toUInt32 >>> (y.toUInt32 &&& Int32.toUInt32 31)).toInt32 :: r) σ
  | .ineg => j1 st fun x r => nx (pc + ln) lv (.inl (-x) :: r) σ
  | .ladd => jl2 st fun x y r => nx (pc + ln) lv (.inr (.inl (x + y)) :: r) σ
  | .lsub => jl2 st fun x y r => nx (pc + ln) lv (.inr (.inl (x - y)) :: r) σ
  | .lmul => jl2 st fun x y r => nx (pc + ln) lv (.inr (.inl (x * y)) :: r) σ
  | .land => jl2 st fun x y r => nx (pc + ln) lv (.inr (.inl (x &&& y)) :: r) σ
  | .lor => jl2 st fun x y r => nx (pc + ln) lv (.inr (.inl (x ||| y)) :: r) σ
  | .lxor => jl2 st fun x y r => nx (pc + ln) lv (.inr (.inl (x ^^^ y)) :: r) σ
  | .ldiv => jl2 st fun x y r => ¬ y = 0 ∧ nx (pc + ln) lv (.inr (.inl (x / y)) :: r) σ
  | .lrem => jl2 st fun x y r => ¬ y = 0 ∧ nx (pc + ln) lv (.inr (.inl (x - x / y * y)) :: r) σ
  | .lneg => jl1 st fun x r => nx (pc + ln) lv (.inr (.inl (-x)) :: r) σ
  | .lshl => jli st fun x y r => nx (pc + ln) lv (.inr (.inl (x <<< (y.toInt64 &&& 63))) :: r) σ
  | .lshr => jli st fun x y r => nx (pc + ln) lv (.inr (.inl (x >>> (y.toInt64 &&& 63))) :: r) σ
  | .lushr => jli st fun x y r => nx (pc + ln) lv (.inr (.inl (x.toUInt64 >>> (y.toInt64.toUInt64 &&& Int64.toUInt64 63)).toInt64) :: r) σ
  | .lcmp => jl2 st fun x y r => nx (pc + ln) lv (.inl (lg_cmp x y) :: r) σ
  | .i2l => j1 st fun x r => nx (pc + ln) lv (.inr (.inl x.toInt64) :: r) σ
  | .l2i => jl1 st fun x r => nx (pc + ln) lv (.inl x.toInt32 :: r) σ
  | .i2b => j1 st fun x r => nx (pc + ln) lv (.inl x.toInt8.toInt32 :: r) σ
  | .i2c => j1 st fun x r => nx (pc + ln) lv (.inl (x.toUInt32 % 65536).toInt32 :: r) σ
  | .dup => jdup st fun v r => nx (pc + ln) lv (v :: v :: r) σ
  | .pop => jdup st fun _ r => nx (pc + ln) lv r σ
  | .dup_x1 => jdupx st fun v w r => nx (pc + ln) lv (v :: w :: v :: r) σ
  | .dup_x2 => jdupx2 st fun v w z r => nx (pc + ln) lv (v :: w :: z :: v :: r) σ
  | .dup2 => jdup2 st fun r => nx (pc + ln) lv r σ
  | .ifCond c _ => j1 st fun x r => jbr c x 0 (lf py.1 lv r σ) (nx (pc + ln) lv r σ)
  | .if_icmp c _ => j2 st fun x y r => jbr c x y (lf py.1 lv r σ) (nx (pc + ln) lv r σ)
  | .ifnull _ => ja1 st fun a r => (a = none → lf py.1 lv r σ) ∧ (¬ a = none → nx (pc + ln) lv r σ)
  | .ifnonnull _ => ja1 st fun a r => (¬ a = none → lf py.1 lv r σ) ∧ (a = none → nx (pc + ln) lv r σ)
  | .goto _ => lf py.1 lv st σ
  | .iaload => jald tb σ n .int st fun x r => nx (pc + ln) lv (.inl x :: r) σ
  | .caload => jald tb σ n .char st fun x r => nx (pc + ln) lv (.inl x :: r) σ
  | .baload => jald tb σ n (if py.1 = 0 then .byte else .boolean) st fun x r => nx (pc + ln) lv (.inl x :: r) σ
  | .laload => jlald σ n st fun x r => nx (pc + ln) lv (.inr (.inl x) :: r) σ
  | .iastore => jast σ n .int st fun σ' r => nx (pc + ln) lv r σ'
  | .castore => jast σ n .char st fun σ' r => nx (pc + ln) lv r σ'
  | .bastore => jast σ n (if py.1 = 0 then .byte else .boolean) st fun σ' r => nx (pc + ln) lv r σ'
  | .lastore => jlast σ n st fun σ' r => nx (pc + ln) lv r σ'
  | .arraylength => jalen tb σ n st fun x r => nx (pc + ln) lv (.inl x :: r) σ
  | .getfield _ => jget σ n py.1 py.2.1 st fun v r => nx (pc + ln) lv (v :: r) σ
  | .putfield _ => jput σ n py.1 py.2.1 py.2.2.2.1.toNatClampNeg st fun σ' r => nx (pc + ln) lv r σ'
  | .getstatic _ => nx (pc + ln) lv (.inr (.inr (some (.inr py.1))) :: st) σ
  | _ => False
def jrun (tb : jTb) (n : Nat) : List jI → Nat → List (Option jv) → List jv → (Nat → jcell) → jN → Prop
  | [], pc, lv, st, σ, K => K pc lv st σ
  | i :: r, pc, lv, st, σ, K => jstep tb n i.1 i.2.1 i.2.2 pc lv st σ (fun a b c d => jrun tb n r a b c d K) K
