/-! rows of longs, lengths; one step, whole -/
section ASW
variable {K : Nat → Nat} {n : Nat} {J : jN} {T : List aKd} {TB : List (FieldType × Nat × Int × Int)} {tb : jTb} {JX : (Nat → jcell) → Prop} {md : List (Nat × Nat)} {Pk : List Nat} {σ0 : Nat → jcell}
def aLl (T : List aKd) (S : aS) (p : Nat) : Option (List (Nat × aS)) := match S.2.1 with
  | i :: a :: r => (match aTy S.2.2.1 i, aAr T S.2.2.1 a with
    | some (.inl A), some q => if decide (q.2.1 = .long) = true ∧ 0 ≤ A.1 ∧ A.2 < (q.2.2.1 : Int) then some [(p, aPu S r (.inr none) none)] else none
    | _, _ => none)
  | _ => none
theorem aLl_ok {S : aS} {p : Nat} {L : List (Nat × aS)} (hb : aLl T S p = some L) {ρ : List jv} {lv : List (Option jv)} {st : List jv} {σ : Nat → jcell} (hc : aCx (aHp T K n JX md σ0) K n S ρ lv st σ) (h : aNx (aHp T K n JX md σ0) K n J ρ L) : jlald σ n st fun x r => J p lv (.inr (.inl x) :: r) σ := by
  unfold aLl at hb
  split at hb
  next i a r hs =>
    obtain ⟨w, v, s, rfl, h1, h2, h3⟩ := aSk_2 (hs ▸ hc.2.2.1)
    split at hb
    next A q hA hq =>
      obtain ⟨x, rfl, hx⟩ := aG_int (aTy_ok hc.1 hA h1)
      obtain ⟨b, rfl, h4, h5, h6, h7⟩ := aAr_ok hc.1 hc.2.2.2.2.1 hq h2
      split at hb
      next hz =>
        cases hb
        obtain ⟨z1, z3, z4⟩ := hz
        rw [decide_eq_true_eq] at z1
        obtain ⟨g, e1⟩ := aCe_larr h7 z1
        obtain ⟨i1, i2⟩ := aIx_ok hx z3 z4
        simp only [jlald, e1]
        exact ⟨h4, z1, i1, aPu_ok (t := .inr none) (v := .inr (.inl (g x.toNatClampNeg))) (r := none) hc h3 trivial trivial h⟩
      next => cases hb
    next => cases hb
  next => cases hb
def aLs (T : List aKd) (Pk : List Nat) (S : aS) (p : Nat) : Option (List (Nat × aS)) := match S.2.1 with
  | x :: i :: a :: r => (match aTy S.2.2.1 x, aTy S.2.2.1 i, aAr T S.2.2.1 a with
    | some (.inr none), some (.inl A), some q => if decide (q.2.1 = .long) = true ∧ 0 ≤ A.1 ∧ A.2 < (q.2.2.1 : Int) ∧ ¬ q.1 ∈ Pk then some [(p, (S.1, r, S.2.2.1, S.2.2.2))] else none
    | _, _, _ => none)
  | _ => none
theorem aLs_ok (hJ : aJx K n Pk JX) {S : aS} {p : Nat} {L : List (Nat × aS)} (hb : aLs T Pk S p = some L) {ρ : List jv} {lv : List (Option jv)} {st : List jv} {σ : Nat → jcell} (hc : aCx (aHp T K n JX md σ0) K n S ρ lv st σ) (h : aNx (aHp T K n JX md σ0) K n J ρ L) : jlast σ n st fun σ' r => J p lv r σ' := by
  unfold aLs at hb
  split at hb
  next x i a r hs =>
    obtain ⟨u, w, s, rfl, h0, h1, h3⟩ := aSk_2 (hs ▸ hc.2.2.1)
    obtain ⟨v, s8, rfl, h2, h8⟩ := aSk_1 h3
    split at hb
    next A q hB hA hq =>
      obtain ⟨y, rfl⟩ := aG_lng (aTy_ok hc.1 hB h0)
      obtain ⟨x, rfl, hx⟩ := aG_int (aTy_ok hc.1 hA h1)
      obtain ⟨b, rfl, h4, h5, h6, h7⟩ := aAr_ok hc.1 hc.2.2.2.2.1 hq h2
      split at hb
      next hz =>
        cases hb
        obtain ⟨z1, z3, z4, z5⟩ := hz
        rw [decide_eq_true_eq] at z1
        obtain ⟨g, e1⟩ := aCe_larr h7 z1
        obtain ⟨i1, i2⟩ := aIx_ok hx z3 z4
        simp only [jlast, e1]
        refine ⟨h4, z1, i1, ?_⟩
        obtain ⟨p1, p2, p3⟩ := hc.2.2.2.2
        refine aNx_in h List.mem_cons_self aX_rf ⟨hc.1, hc.2.1, h8, aCa_arr hc.2.2.2.1 e1, aH_up p1 (fun d hd => ?_), hJ _ _ _ h4 (by rw [h5]; exact z5) p2, aFr_arr p3 e1⟩
        rw [h6] at hd
        cases hd
        exact ⟨rfl, rfl, z1⟩
      next => cases hb
    next => cases hb
  next => cases hb
def aLen (T : List aKd) (TB : List (FieldType × Nat × Int × Int)) (S : aS) (p : Nat) : Option (List (Nat × aS)) := match S.2.1 with
  | a :: r => (match aAr T S.2.2.1 a with
    | some q => if q.2.1 ∈ jtys ∧ q.2.2.1 ≤ 2147483647 then some [(p, aPu S r (.inl ((q.2.2.1 : Int), (q.2.2.1 : Int))) none)] else none
    | none => (match aTj TB S.2.2.1 a with
      | some q => if q.2.1 ≤ 2147483647 then some [(p, aPu S r (.inl ((q.2.1 : Int), (q.2.1 : Int))) none)] else none
      | none => none))
  | _ => none
theorem aNi {k : Nat} (h : k ≤ 2147483647) : aIn ((k : Int), (k : Int)) (Int32.ofNat k) := by
  have e : (Int32.ofNat k).toInt = (k : Int) := Int32.toInt_ofNat_of_lt (by omega)
  exact ⟨by rw [e]; exact Int.le_refl _, by rw [e]; exact Int.le_refl _⟩
theorem aLen_ok (hT : aTB TB tb) {S : aS} {p : Nat} {L : List (Nat × aS)} (hb : aLen T TB S p = some L) {ρ : List jv} {lv : List (Option jv)} {st : List jv} {σ : Nat → jcell} (hc : aCx (aHp T K n JX md σ0) K n S ρ lv st σ) (h : aNx (aHp T K n JX md σ0) K n J ρ L) : jalen tb σ n st fun x r => J p lv (.inl x :: r) σ := by
  unfold aLen at hb
  split at hb
  next a r hs =>
    obtain ⟨v, s, rfl, h2, h3⟩ := aSk_1 (hs ▸ hc.2.2.1)
    split at hb
    next q hq =>
      obtain ⟨b, rfl, h4, h5, h6, h7⟩ := aAr_ok hc.1 hc.2.2.2.2.1 hq h2
      split at hb
      next hz =>
        cases hb
        have hj := aPu_ok (t := .inl ((q.2.2.1 : Int), (q.2.2.1 : Int))) (v := .inl (Int32.ofNat q.2.2.1)) (r := none) hc h3 (aNi hz.2) trivial h
        by_cases hl : q.2.1 = .long
        · obtain ⟨g, e1⟩ := aCe_larr h7 hl
          simp only [jalen, e1]
          exact ⟨h4, hz.1, hj⟩
        · obtain ⟨g, e1, -⟩ := aCe_arr h7 hl
          simp only [jalen, e1]
          exact ⟨h4, hz.1, hj⟩
      next => cases hb
    next =>
      split at hb
      next q hq =>
        split at hb
        next hz =>
          cases hb
          unfold aTj at hq
          split at hq
          next j hj =>
            obtain rfl := aG_tab (aTy_ok hc.1 hj h2)
            obtain ⟨s1, s2, s3, g, e1, e2⟩ := hT j q hq
            simp only [jalen, e1]
            exact aPu_ok (t := .inl ((q.2.1 : Int), (q.2.1 : Int))) (v := .inl (Int32.ofNat q.2.1)) (r := none) hc h3 (aNi hz) trivial h
          next => cases hq
        next => cases hb
      next => cases hb
  next => cases hb
def aBt (py : jP) : FieldType := if py.1 = 0 then .byte else .boolean
def aI2b (A : Int × Int) : Int × Int := if aSb A (-128, 127) = true then A else (-128, 127)
theorem aI2b_ok {A : Int × Int} {x : Int32} (h : aIn A x) : aIn (aI2b A) x.toInt8.toInt32 := by
  unfold aI2b
  split
  next hs => rw [show x.toInt8.toInt32 = x from aRg_ok (ty := .byte) (aSb_ok hs h)]; exact h
  next => exact aB_ok x
def aStp (T : List aKd) (TB : List (FieldType × Nat × Int × Int)) (Pk : List Nat) (md : List (Nat × Nat)) (I : Instr) (ln : Nat) (py : jP) (pc : Nat) (S : aS) : Option (List (Nat × aS)) := match I with
  | .iconst _ => some [(pc + ln, aPu S S.2.1 (.inl (py.2.2.2.1.toInt, py.2.2.2.1.toInt)) none)]
  | .bipush _ => some [(pc + ln, aPu S S.2.1 (.inl (py.2.2.2.1.toInt, py.2.2.2.1.toInt)) none)]
  | .sipush _ => some [(pc + ln, aPu S S.2.1 (.inl (py.2.2.2.1.toInt, py.2.2.2.1.toInt)) none)]
  | .ldc _ => some [(pc + ln, aPu S S.2.1 (.inl (py.2.2.2.1.toInt, py.2.2.2.1.toInt)) none)]
  | .lconst _ => some [(pc + ln, aPu S S.2.1 (.inr none) none)]
  | .ldc2_w _ => some [(pc + ln, aPu S S.2.1 (.inr none) none)]
  | .iload_n _ => aLd S py.1 0 (pc + ln)
  | .iload k => aLd S k 0 (pc + ln)
  | .lload_n _ => aLd S py.1 1 (pc + ln)
  | .lload k => aLd S k 1 (pc + ln)
  | .aload_n _ => aLd S py.1 2 (pc + ln)
  | .aload k => aLd S k 2 (pc + ln)
  | .istore_n _ => aSo S py.1 0 (pc + ln)
  | .istore k => aSo S k 0 (pc + ln)
  | .lstore_n _ => aSo S py.1 1 (pc + ln)
  | .lstore k => aSo S k 1 (pc + ln)
  | .astore_n _ => aSo S py.1 2 (pc + ln)
  | .astore k => aSo S k 2 (pc + ln)
  | .iinc k _ => aInc S k py.2.2.2.1 (pc + ln)
  | .iadd => aBin aAdd 1 S (pc + ln)
  | .isub => aBin aSub 2 S (pc + ln)
  | .imul => aBin aMul 0 S (pc + ln)
  | .iand => aBin aAnd 0 S (pc + ln)
  | .ior => aBin aOr 0 S (pc + ln)
  | .ixor => aBin aOr 0 S (pc + ln)
  | .idiv => if aNz S = true then aBin aDiv 3 S (pc + ln) else none
  | .irem => if aNz S = true then aBin aRem 0 S (pc + ln) else none
  | .ishl => aBin aShl 0 S (pc + ln)
  | .ishr => aBin aShr 0 S (pc + ln)
  | .iushr => aBin aUsh 0 S (pc + ln)
  | .ineg => aUn (fun A => .inl (aNeg A)) S (pc + ln)
  | .ladd => aBl (.inr none) S (pc + ln)
  | .lsub => aBl (.inr none) S (pc + ln)
  | .lmul => aBl (.inr none) S (pc + ln)
  | .land => aBl (.inr none) S (pc + ln)
  | .lor => aBl (.inr none) S (pc + ln)
  | .lxor => aBl (.inr none) S (pc + ln)
  | .lneg => aUl (.inr none) S (pc + ln)
  | .lshl => aBi S (pc + ln)
  | .lshr => aBi S (pc + ln)
  | .lushr => aBi S (pc + ln)
  | .lcmp => aBl (.inl (-1, 1)) S (pc + ln)
  | .i2l => aUn (fun _ => .inr none) S (pc + ln)
  | .l2i => aUl (.inl a32) S (pc + ln)
  | .i2b => aUn (fun A => .inl (aI2b A)) S (pc + ln)
  | .i2c => aUn (fun _ => .inl (0, 65535)) S (pc + ln)
  | .dup => aDup S 0 (pc + ln)
  | .pop => aDup S 1 (pc + ln)
  | .dup_x1 => aDup S 2 (pc + ln)
  | .dup_x2 => aDup S 3 (pc + ln)
  | .dup2 => aDup S 4 (pc + ln)
  | .ifCond c _ => aIf1 S c py.1 (pc + ln)
  | .if_icmp c _ => aIf2 S c py.1 (pc + ln)
  | .ifnull _ => aIfn S py.1 (pc + ln)
  | .ifnonnull _ => aIfn S (pc + ln) py.1
  | .goto _ => some [(py.1, S)]
  | .iaload => aAl T TB .int S (pc + ln)
  | .caload => aAl T TB .char S (pc + ln)
  | .baload => aAl T TB (aBt py) S (pc + ln)
  | .laload => aLl T S (pc + ln)
  | .iastore => aAs T Pk .int S (pc + ln)
  | .castore => aAs T Pk .char S (pc + ln)
  | .bastore => aAs T Pk (aBt py) S (pc + ln)
  | .lastore => aLs T Pk S (pc + ln)
  | .arraylength => aLen T TB S (pc + ln)
  | .getfield _ => aGet T py.1 py.2.1 S (pc + ln)
  | .putfield _ => aPut T Pk md py.1 py.2.1 py.2.2.2.1.toNatClampNeg S (pc + ln)
  | .getstatic _ => some [(pc + ln, aPu S S.2.1 (.inr (some (.inr py.1))) none)]
  | _ => none
theorem aCo0 {f : Int32 → Int32 → Int32} : aCop 0 f := ⟨fun h => (by cases h), fun h => (by cases h), fun h => (by cases h)⟩
theorem aStp_ok (hT : aTB TB tb) (hJ : aJx K n Pk JX) {I : Instr} {ln : Nat} {py : jP} {pc : Nat} {S : aS} {L : List (Nat × aS)} (hb : aStp T TB Pk md I ln py pc S = some L) {ρ : List jv} {lv : List (Option jv)} {st : List jv} {σ : Nat → jcell} (hc : aCx (aHp T K n JX md σ0) K n S ρ lv st σ) (h : aNx (aHp T K n JX md σ0) K n J ρ L) : jstep tb n I ln py pc lv st σ J J := by
  have hco : ∀ c : Int32, aNx (aHp T K n JX md σ0) K n J ρ [(pc + ln, aPu S S.2.1 (.inl (c.toInt, c.toInt)) none)] → J (pc + ln) lv (.inl c :: st) σ := fun c h9 => aPu_ok (t := .inl (c.toInt, c.toInt)) (v := .inl c) (r := none) hc hc.2.2.1 ⟨Int.le_refl _, Int.le_refl _⟩ trivial h9
  have hlo : ∀ c : Int64, aNx (aHp T K n JX md σ0) K n J ρ [(pc + ln, aPu S S.2.1 (.inr none) none)] → J (pc + ln) lv (.inr (.inl c) :: st) σ := fun c h9 => aPu_ok (t := .inr none) (v := .inr (.inl c)) (r := none) hc hc.2.2.1 trivial trivial h9
  cases I
  case iconst => cases hb; exact hco _ h
  case bipush => cases hb; exact hco _ h
  case sipush => cases hb; exact hco _ h
  case ldc => cases hb; exact hco _ h
  case lconst => cases hb; exact hlo _ h
  case ldc2_w => cases hb; exact hlo _ h
  case iload_n => exact aLdi_ok hb hc h
  case iload => exact aLdi_ok hb hc h
  case lload_n => exact aLdl_ok hb hc h
  case lload => exact aLdl_ok hb hc h
  case aload_n => exact aLda_ok hb hc h
  case aload => exact aLda_ok hb hc h
  case istore_n => exact aSoi_ok hb hc h
  case istore => exact aSoi_ok hb hc h
  case lstore_n => exact aSol_ok hb hc h
  case lstore => exact aSol_ok hb hc h
  case astore_n => exact aSoa_ok hb hc h
  case astore => exact aSoa_ok hb hc h
  case iinc => exact aInc_ok hb hc h
  case iadd => exact aBin_ok (f := fun x y => x + y) ⟨fun _ _ _ => rfl, fun h => (by cases h), fun h => (by cases h)⟩ aAdd_ok hb hc h
  case isub => exact aBin_ok (f := fun x y => x - y) ⟨fun h => (by cases h), fun _ _ _ => rfl, fun h => (by cases h)⟩ aSub_ok hb hc h
  case imul => exact aBin_ok (f := fun x y => x * y) aCo0 aMul_ok hb hc h
  case iand => exact aBin_ok (f := fun x y => x &&& y) aCo0 aAnd_ok hb hc h
  case ior => exact aBin_ok (f := fun x y => x ||| y) aCo0 aOr_ok hb hc h
  case ixor => exact aBin_ok (f := fun x y => x ^^^ y) aCo0 aXor_ok hb hc h
  case idiv =>
    simp only [aStp] at hb
    split at hb
    next hz => exact aNz_ok hz hc (aBin_ok (f := fun x y => x / y) ⟨fun h => (by cases h), fun h => (by cases h), fun _ _ _ => rfl⟩ aDiv_ok hb hc h)
    next => cases hb
  case irem =>
    simp only [aStp] at hb
    split at hb
    next hz => exact aNz_ok hz hc (aBin_ok (f := fun x y => x - x / y * y) aCo0 aRem_ok hb hc h)
    next => cases hb
  case ishl => exact aBin_ok (f := fun x y => x <<< (y &&& 31)) aCo0 aShl_ok hb hc h
  case ishr => exact aBin_ok (f := fun x y => x >>> (y &&& 31)) aCo0 aShr_ok hb hc h
  case iushr => exact aBin_ok (f := fun x y => (x.toUInt32 >>> (y.toUInt32 &&& Int32.toUInt32 31)).toInt32) aCo0 aUsh_ok hb hc h
  case ineg => exact aUn_ok (tf := fun A => .inl (aNeg A)) (g := fun x => .inl (-x)) (fun q => aNeg_ok q) hb hc h
  case ladd => exact aBl_ok (t := .inr none) (g := fun x y => .inr (.inl (x + y))) (fun _ _ => trivial) hb hc h
  case lsub => exact aBl_ok (t := .inr none) (g := fun x y => .inr (.inl (x - y))) (fun _ _ => trivial) hb hc h
  case lmul => exact aBl_ok (t := .inr none) (g := fun x y => .inr (.inl (x * y))) (fun _ _ => trivial) hb hc h
  case land => exact aBl_ok (t := .inr none) (g := fun x y => .inr (.inl (x &&& y))) (fun _ _ => trivial) hb hc h
  case lor => exact aBl_ok (t := .inr none) (g := fun x y => .inr (.inl (x ||| y))) (fun _ _ => trivial) hb hc h
  case lxor => exact aBl_ok (t := .inr none) (g := fun x y => .inr (.inl (x ^^^ y))) (fun _ _ => trivial) hb hc h
  case lneg => exact aUl_ok (t := .inr none) (g := fun x => .inr (.inl (-x))) (fun _ => trivial) hb hc h
  case lshl => exact aBi_ok (g := fun x y => x <<< (y.toInt64 &&& 63)) hb hc h
  case lshr => exact aBi_ok (g := fun x y => x >>> (y.toInt64 &&& 63)) hb hc h
  case lushr => exact aBi_ok (g := fun x y => (x.toUInt64 >>> (y.toInt64.toUInt64 &&& Int64.toUInt64 63)).toInt64) hb hc h
  case lcmp => exact aBl_ok (t := .inl (-1, 1)) (g := fun x y => .inl (lg_cmp x y)) (fun x y => aCmp_ok x y) hb hc h
  case i2l => exact aUn_ok (tf := fun _ => .inr none) (g := fun x => .inr (.inl x.toInt64)) (fun _ => trivial) hb hc h
  case l2i => exact aUl_ok (t := .inl a32) (g := fun x => .inl x.toInt32) (fun x => aIn_32 _) hb hc h
  case i2b => exact aUn_ok (tf := fun A => .inl (aI2b A)) (g := fun x => .inl x.toInt8.toInt32) (fun q => aI2b_ok q) hb hc h
  case i2c => exact aUn_ok (tf := fun _ => .inl (0, 65535)) (g := fun x => .inl (x.toUInt32 % 65536).toInt32) (fun q => aC_ok _) hb hc h
  case dup => exact aDup0_ok hb hc h
  case pop => exact aDup1_ok hb hc h
  case dup_x1 => exact aDup2_ok hb hc h
  case dup_x2 => exact aDup3_ok hb hc h
  case dup2 => exact aDup4_ok hb hc h
  case ifCond => exact aIf1_ok hb hc h
  case if_icmp => exact aIf2_ok hb hc h
  case ifnull => exact aIfn_ok hb hc h
  case ifnonnull =>
    have h9 := aIfn_ok hb hc h
    simp only [jstep]
    unfold ja1 at h9 ⊢
    split at h9
    · exact ⟨h9.2, h9.1⟩
    · exact h9.elim
  case goto => cases hb; exact aNx_in h List.mem_cons_self aX_rf hc
  case iaload => exact aAl_ok hT hb hc h
  case caload => exact aAl_ok hT hb hc h
  case baload => exact aAl_ok hT hb hc h
  case laload => exact aLl_ok hb hc h
  case iastore => exact aAs_ok hJ hb hc h
  case castore => exact aAs_ok hJ hb hc h
  case bastore => exact aAs_ok hJ hb hc h
  case lastore => exact aLs_ok hJ hb hc h
  case arraylength => exact aLen_ok hT hb hc h
  case getfield => exact aGet_ok hb hc h
  case putfield => exact aPut_ok hJ hb hc h
  case getstatic => cases hb; exact aPu_ok (t := .inr (some (.inr py.1))) (v := .inr (.inr (some (.inr py.1)))) (r := none) hc hc.2.2.1 rfl trivial h
  all_goals cases hb
end ASW
