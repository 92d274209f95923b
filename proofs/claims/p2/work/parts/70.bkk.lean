/-! a method, from cut to cut -/
def aFq {P : Type} (F : aFt P) (pe : P) : aFt P := fun p r vs σ => if r = 0 then p = pe else F p r vs σ
theorem aFq_sh {P : Type} {F : aFt P} {sh : P → List jv → P} (h : aShf F sh) (pe : P) : aShf (aFq F pe) sh := by
  refine ⟨fun p r vs ms σ hr hl => ?_, fun p p' r vs σ hr hf => ?_⟩
  · unfold aFq
    rw [if_neg hr, if_neg hr]
    exact h.1 p r vs ms σ hr hl
  · have h0 : ¬ r = 0 := fun e => by subst e; cases hr
    unfold aFq at hf ⊢
    rw [if_neg h0] at hf ⊢
    exact h.2 p p' r vs σ hr hf
theorem aFq_dp {P : Type} {F : aFt P} {K : Nat → Nat} {n : Nat} {dep : List (List aDe)} (h : aDp F K n dep) (pe : P) : aDp (aFq F pe) K n dep := by
  refine ⟨fun p r vs σ σ' hl hk hf => ?_, ⟨fun p r a x y vs σ hr hl hf => ?_, fun p r a f y vs σ hr hl hf => ?_, fun p r a x y vs σ hr hl hf => ?_⟩, fun ho p o x y c σ hv => ?_⟩
  · unfold aFq at hf ⊢
    split
    next e => rw [if_pos e] at hf; exact hf
    next e => rw [if_neg e] at hf; exact h.1 p r vs σ σ' hl hk hf
  · unfold aFq at hf ⊢
    rw [if_neg (by omega)] at hf
    rw [if_neg hr]
    exact h.2.1.1 p r a x y vs σ hr hl hf
  · unfold aFq at hf ⊢
    rw [if_neg (by omega)] at hf
    rw [if_neg hr]
    exact h.2.1.2.1 p r a f y vs σ hr hl hf
  · unfold aFq at hf ⊢
    rw [if_neg (by omega)] at hf
    rw [if_neg hr]
    exact h.2.1.2.2 p r a x y vs σ hr hl hf
  · unfold aFq
    rw [if_neg (by omega)]
    exact h.2.2 ho p o x y c σ hv
theorem aFq_mm {P : Type} {F : aFt P} {pe p : P} {ρ : List jv} {σ : Nat → jcell} {M : aM} (h0 : aNo0 M.2.2.2 = true) : aMm (aFq F pe) p ρ σ M ↔ aMm F p ρ σ M := by
  have key : ∀ q ∈ M.2.2.2, ∀ vs, (aFq F pe p q.1 vs σ ↔ F p q.1 vs σ) := fun q hq vs => by
    have := (aGr_ok (List.all_eq_true.mp h0 q hq)).1
    unfold aFq
    rw [if_neg this]
  constructor
  · rintro ⟨a, b, c, d⟩
    exact ⟨a, b, c, fun q hq => by obtain ⟨vs, v1, v2⟩ := d q hq; exact ⟨vs, v1, (key q hq vs).mp v2⟩⟩
  · rintro ⟨a, b, c, d⟩
    exact ⟨a, b, c, fun q hq => by obtain ⟨vs, v1, v2⟩ := d q hq; exact ⟨vs, v1, (key q hq vs).mpr v2⟩⟩
abbrev aCu : Type := Nat × aS × List aSc2 × List aF
def aSuf : List jI → Nat → Nat → Option (List jI)
  | [], _, _ => none
  | x :: r, p, pc => if p = pc then some (x :: r) else aSuf r (p + x.2.1) pc
/-- a row's words, but for rows that the table of static things speaks of -/
def jokQ (own : String) (Ts : List Jvm.Cond) (cl : List vw_C) (tb : jTb) (nL : Nat) (ini : Bool) (cc : ByteArray) (pc : Nat) (x : jI) : Bool := decide (decode cc pc = .ok (x.1, x.2.1)) && (Nat.beq x.2.2.1 999 || jok1 own Ts cl tb nL ini pc x.1 x.2.1 x.2.2)
def jokLQ (own : String) (Ts : List Jvm.Cond) (cl : List vw_C) (tb : jTb) (nL : Nat) (ini : Bool) (cc : ByteArray) : Nat → List jI → Bool
  | _, [] => true
  | pc, x :: r => jokQ own Ts cl tb nL ini cc pc x && jokLQ own Ts cl tb nL ini cc (pc + x.2.1) r
def jokLG (g : Nat → Option Jvm.Cond) (L : jLk) (own : String) (cl : List vw_C) (tb : jTb) (nL : Nat) (cc : ByteArray) : Nat → List jI → Bool
  | _, [] => true
  | pc, x :: r => (decide (decode cc pc = .ok (x.1, x.2.1)) && (Nat.beq x.2.2.1 999 || jok1F g L own cl tb nL pc x.1 x.2.1 x.2.2)) && jokLG g L own cl tb nL cc (pc + x.2.1) r
theorem jokLG_ok {g : Nat → Option Jvm.Cond} {Ts : List Jvm.Cond} (hg : ∀ i w, g i = some w → Ts[i]? = some w) {L : jLk} {own : String} {cl : List vw_C} {tb : jTb} (hL : jLkOk own Ts cl tb L) {nL : Nat} {cc : ByteArray} : ∀ {is : List jI} {pc : Nat}, jokLG g L own cl tb nL cc pc is = true → jokLQ own Ts cl tb nL false cc pc is = true
  | [], _, _ => rfl
  | x :: r, pc, h => by
    unfold jokLG at h
    rw [Bool.and_eq_true, Bool.and_eq_true, Bool.or_eq_true] at h
    unfold jokLQ jokQ
    rw [Bool.and_eq_true, Bool.and_eq_true, Bool.or_eq_true]
    exact ⟨⟨h.1.1, h.1.2.imp id (jok1F_ok hg hL)⟩, jokLG_ok hg hL h.2⟩
theorem jokQ_n {own : String} {Ts : List Jvm.Cond} {cl : List vw_C} {tb : jTb} {nL : Nat} {ini : Bool} {cc : ByteArray} {pc : Nat} {x : jI} (h : jokQ own Ts cl tb nL ini cc pc x = true) (hn : Nat.beq x.2.2.1 999 = false) : jok own Ts cl tb nL ini cc pc x = true := by
  unfold jokQ at h
  unfold jok
  rw [hn, Bool.false_or] at h
  exact h
theorem aSuf_ok {own : String} {Ts : List Jvm.Cond} {cl : List vw_C} {tb : jTb} {nL : Nat} {ini : Bool} {cc : ByteArray} {pc : Nat} : ∀ {is : List jI} {p : Nat} {js : List jI}, jokLQ own Ts cl tb nL ini cc p is = true → aSuf is p pc = some js → jokLQ own Ts cl tb nL ini cc pc js = true
  | [], _, _, _, h => by cases h
  | x :: r, p, js, hk, h => by
    unfold aSuf at h
    split at h
    next e => cases h; subst e; exact hk
    next =>
      unfold jokLQ at hk
      rw [Bool.and_eq_true] at hk
      exact aSuf_ok hk.2 h
def aFc (C : List aCu) (pc : Nat) : Option aCu := match C with
  | [] => none
  | c :: r => if c.1 = pc then some c else aFc r pc
theorem aFc_ok {pc : Nat} : ∀ {C : List aCu} {c : aCu}, aFc C pc = some c → c ∈ C ∧ c.1 = pc
  | [], _, h => by cases h
  | x :: r, c, h => by
    unfold aFc at h
    split at h
    next e => cases h; exact ⟨List.mem_cons_self, e⟩
    next => exact ⟨List.mem_cons_of_mem _ (aFc_ok h).1, (aFc_ok h).2⟩
abbrev aSz : Type := Nat × Nat × Nat × jSv
/-- what stands fast in a method: own file, tables, files, what it returns, its links, static things; conf; contracts; its own one; its row; its cuts -/
abbrev aMi : Type := (String × List Jvm.Cond × List vw_C × Option FieldType × List (Nat × Nat × Nat) × List aSz × List (Nat × Nat × List Int) × List aCon × List (Nat × Nat × List aSc2 × List Nat)) × aCf × List aCon × aCon × List jI × List aCu
def aRo (k : Nat) (rk : List aF) : Bool := rk.all (fun f => f.1.all (fun q => decide (q.1 < k)))
def aTo (C : aCf) (rk0 : List aF) (c : aCu) (S : aS) : Bool := match aMp C S (List.range C.2.2.2.2.2.2) c.2.2.1 with
  | some z => aInB z.1 c.2.1 z.2 && aRs z.1.2.2.1 z.1.2.2.2.2.2.1 z.2 rk0 c.2.2.2
  | none => false
def aFn (C : aCf) (G : aCon) (S : aS) (m : List Nat) : Bool := match aMpf C S m G.2.2.2.2.1.2.2.1.1 with
  | some z => aAllE z.1.2.2.1 z.1.2.2.2.2.2.1 z.2 (aPe G) && (aNil G.2.2.2.2.1.2.2.1 && (aAllN z.1.2.2.1 z.1.2.2.2.2.2.1 z.2 G.2.2.2.2.1.2.2.1.2.2.1 && (aAllX z.2 z.1.2.2.2.2.2.2 G.2.2.2.2.1.2.2.1.2.2.2 && (aNo0 G.2.2.2.2.1.2.2.1.2.2.2 && ((G.2.2.2.2.1.2.2.1.2.2.2.all (fun q => aFre q.1) || decide ((0, []) ∈ z.1.2.2.2.2.2.2)) && G.2.2.2.2.1.2.2.2.any (fun A => aAllN z.1.2.2.1 z.1.2.2.2.2.2.1 z.2 A))))))
  | none => false
def aObt (ty : FieldType) : Bool := match ty with
  | .object _ => true
  | .array _ => true
  | _ => false
theorem aObt_ok {ty : FieldType} (h : aObt ty = true) : (∃ s, ty = .object s) ∨ ∃ t, ty = .array t := by
  unfold aObt at h
  split at h
  · exact Or.inl ⟨_, rfl⟩
  · exact Or.inr ⟨_, rfl⟩
  · cases h
def aRet (C : aCf) (G : aCon) (rt : Option FieldType) (I : Instr) (S : aS) : Bool := match I with
  | .return_ => (match rt, G.2.2.2.2.1.1, S.2.1 with
    | none, none, [] => aFn C G S (List.range C.2.2.2.2.2.2)
    | _, _, _ => false)
  | .ireturn => (match rt, G.2.2.2.2.1.1, S.2.1 with
    | some ty, some (.inl _), [x] => (match aTy S.2.2.1 x with
      | some (.inl _) => aLx S.2.2.1 S.2.2.2.2.2.1 x (.inl (aRg ty)) && aFn C G S (List.range C.2.2.2.2.2.2 ++ [x])
      | _ => false)
    | _, _, _ => false)
  | .lreturn => (match rt, G.2.2.2.2.1.1, S.2.1 with
    | some .long, some (.inr none), [x] => (match aTy S.2.2.1 x with
      | some (.inr none) => aFn C G S (List.range C.2.2.2.2.2.2 ++ [x])
      | _ => false)
    | _, _, _ => false)
  | .areturn => (match rt, G.2.2.2.2.1.1, S.2.1 with
    | some ty, some (.inr (some _)), [x] => (match aTy S.2.2.1 x with
      | some (.inr (some _)) => aObt ty && aFn C G S (List.range C.2.2.2.2.2.2 ++ [x])
      | _ => false)
    | _, _, _ => false)
  | _ => false
def aRoom (rm rc : Room) (nL : Nat) : Bool := decide (rc.frames + 1 ≤ rm.frames) && decide (8 + (nL + 11) + rc.locals ≤ rm.locals)
def aCs (cl : List vw_C) (T : List aKd) (G : aCon) : Bool := match G.2.2.2.1.1 with
  | (.inr (some (.inl (false, k))), _) :: _ => (match T[k]? with
    | some (.inr q) => (match cl[q.1]? with
      | some w => decide (w.1 = G.1.1.cls) && decide (¬ k = 99999)
      | none => false)
    | _ => false)
  | _ => false
/-- a switch: its goals -/
def aTab (S : aS) (x : Nat) (r : List Nat) : List Nat → Int → List (Nat × aS)
  | [], _ => []
  | t :: ts, k => aBs S r [aFp ([], -k) (aLi S.2.2.1 x), aFp ([], k) (aFm (-1) (aLi S.2.2.1 x))] t ++ aTab S x r ts (k + 1)
def aLok (S : aS) (x : Nat) (r : List Nat) (pc : Nat) : List (Int × Int) → List (Nat × aS)
  | [] => []
  | q :: t => aBs S r [aFp ([], -q.1) (aLi S.2.2.1 x), aFp ([], q.1) (aFm (-1) (aLi S.2.2.1 x))] ((pc : Int) + q.2).toNat ++ aLok S x r pc t
/-- the value is known, and a key -/
def aKe (A : Int × Int) (ps : List (Int × Int)) : Bool := decide (A.1 = A.2) && ps.any (fun q => decide (q.1 = A.1))
theorem aKe_ok {A : Int × Int} {ps : List (Int × Int)} (h : aKe A ps = true) {x : Int32} (hx : aIn A x) : ∃ q ∈ ps, x.toInt = q.1 := by
  unfold aKe at h
  rw [Bool.and_eq_true, decide_eq_true_eq, List.any_eq_true] at h
  obtain ⟨h1, q, h2, h3⟩ := h
  rw [decide_eq_true_eq] at h3
  have a1 := hx.1
  have a2 := hx.2
  exact ⟨q, h2, by omega⟩
/-- an operation with its fact -/
def aOn : Instr → Option Nat
  | .lor => some 0
  | .land => some 1
  | .lshl => some 2
  | .lshr => some 3
  | .lcmp => some 4
  | .lmul => some 5
  | .ldiv => some 6
  | .lrem => some 7
  | .ladd => some 8
  | .lsub => some 9
  | .imul => some 10
  | .iand => some 11
  | .ior => some 12
  | .ishl => some 13
  | .ishr => some 14
  | .irem => some 15
  | .idiv => some 16
  | .ixor => some 17
  | _ => none
def aStq (C : aCf) (I : Instr) (ln : Nat) (py : jP) (pc : Nat) (S : aS) : Option (List (Nat × aS)) := match aOn I with
  | none => aStp C I ln py pc S
  | some o => if py.1 = 0 then aStp C I ln py pc S else (if aOm C.2.2.2.2.2.1 = true then (match aStp C I ln py pc S with
    | some [q] => (match S.2.1, q.2.2.1 with
      | y :: x :: _, c :: _ => some [(q.1, (q.2.1, q.2.2.1, q.2.2.2.1, q.2.2.2.2.1, q.2.2.2.2.2.1, q.2.2.2.2.2.2.1, (16 * (100 + o) + 3, [x, y, c]) :: q.2.2.2.2.2.2.2))]
      | _, _ => none)
    | _ => none) else none)
theorem j2_mo {st : List jv} {f g : Int32 → Int32 → List jv → Prop} (h : ∀ x y r, st = .inl y :: .inl x :: r → f x y r → g x y r) (hf : j2 st f) : j2 st g := by
  rcases st with _ | ⟨y | y, _ | ⟨x | x, r⟩⟩ <;> first | exact hf.elim | exact h _ _ _ rfl hf
theorem jl2_mo {st : List jv} {f g : Int64 → Int64 → List jv → Prop} (h : ∀ x y r, st = .inr (.inl y) :: .inr (.inl x) :: r → f x y r → g x y r) (hf : jl2 st f) : jl2 st g := by
  rcases st with _ | ⟨y | y | y, _ | ⟨x | x | x, r⟩⟩ <;> first | exact hf.elim | exact h _ _ _ rfl hf
theorem jli_mo {st : List jv} {f g : Int64 → Int32 → List jv → Prop} (h : ∀ x y r, st = .inl y :: .inr (.inl x) :: r → f x y r → g x y r) (hf : jli st f) : jli st g := by
  rcases st with _ | ⟨y | y, _ | ⟨x | x | x, r⟩⟩ <;> first | exact hf.elim | exact h _ _ _ rfl hf
theorem aJo {tb : jTb} {n : Nat} {I : Instr} {ln : Nat} {py : jP} {pc : Nat} {lv : List (Option jv)} {st : List jv} {σ : Nat → jcell} {J : jN} {o : Nat} (ho : aOn I = some o) (h : jstep tb n I ln py pc lv st σ (fun p lv' st' σ' => (∃ x y r c, st = y :: x :: r ∧ st' = c :: r ∧ aOv o x y c ∧ σ' = σ) → J p lv' st' σ') (fun p lv' st' σ' => (∃ x y r c, st = y :: x :: r ∧ st' = c :: r ∧ aOv o x y c ∧ σ' = σ) → J p lv' st' σ')) : jstep tb n I ln py pc lv st σ J J := by
  unfold aOn at ho
  split at ho
  · cases ho; exact jl2_mo (fun x y r e hh => hh ⟨_, _, r, _, e, rfl, rfl, rfl⟩) h
  · cases ho; exact jl2_mo (fun x y r e hh => hh ⟨_, _, r, _, e, rfl, rfl, rfl⟩) h
  · cases ho; exact jli_mo (fun x y r e hh => hh ⟨_, _, r, _, e, rfl, rfl, rfl⟩) h
  · cases ho; exact jli_mo (fun x y r e hh => hh ⟨_, _, r, _, e, rfl, rfl, rfl⟩) h
  · cases ho; exact jl2_mo (fun x y r e hh => hh ⟨_, _, r, _, e, rfl, rfl, rfl⟩) h
  · cases ho; exact jl2_mo (fun x y r e hh => hh ⟨_, _, r, _, e, rfl, rfl, rfl⟩) h
  · cases ho; exact jl2_mo (fun x y r e hh => ⟨hh.1, hh.2 ⟨_, _, r, _, e, rfl, ⟨hh.1, rfl⟩, rfl⟩⟩) h
  · cases ho; exact jl2_mo (fun x y r e hh => ⟨hh.1, hh.2 ⟨_, _, r, _, e, rfl, ⟨hh.1, rfl⟩, rfl⟩⟩) h
  · cases ho; exact jl2_mo (fun x y r e hh => hh ⟨_, _, r, _, e, rfl, rfl, rfl⟩) h
  · cases ho; exact jl2_mo (fun x y r e hh => hh ⟨_, _, r, _, e, rfl, rfl, rfl⟩) h
  · cases ho; exact j2_mo (fun x y r e hh => hh ⟨_, _, r, _, e, rfl, rfl, rfl⟩) h
  · cases ho; exact j2_mo (fun x y r e hh => hh ⟨_, _, r, _, e, rfl, rfl, rfl⟩) h
  · cases ho; exact j2_mo (fun x y r e hh => hh ⟨_, _, r, _, e, rfl, rfl, rfl⟩) h
  · cases ho; exact j2_mo (fun x y r e hh => hh ⟨_, _, r, _, e, rfl, rfl, rfl⟩) h
  · cases ho; exact j2_mo (fun x y r e hh => hh ⟨_, _, r, _, e, rfl, rfl, rfl⟩) h
  · cases ho; exact j2_mo (fun x y r e hh => ⟨hh.1, hh.2 ⟨_, _, r, _, e, rfl, ⟨hh.1, rfl⟩, rfl⟩⟩) h
  · cases ho; exact j2_mo (fun x y r e hh => ⟨hh.1, hh.2 ⟨_, _, r, _, e, rfl, ⟨hh.1, rfl⟩, rfl⟩⟩) h
  · cases ho; exact j2_mo (fun x y r e hh => hh ⟨_, _, r, _, e, rfl, rfl, rfl⟩) h
  · cases ho
def aNe (m : aMi) (x : jI) (pc : Nat) (S : aS) : Option (List (Nat × aS)) := match x.1 with
  | .invokestatic i => (match m.2.2.1[x.2.2.1]? with
    | some G => if x.2.1 = 3 ∧ G.2.1 = true ∧ jin3 i x.2.2.2.2.1 x.2.2.1 m.1.2.2.2.2.1 = true ∧ aRoom m.2.2.2.1.2.2.2.2.2.2 G.2.2.2.2.2.2 G.1.2.2.1 = true ∧ (S.2.1.drop G.2.2.1).length ≤ 4 then aCall m.2.1 S G (pc + 3) else none
    | none => none)
  | .invokevirtual i => (match m.2.2.1[x.2.2.1]? with
    | some G => if x.2.1 = 3 ∧ G.2.1 = false ∧ jin3 i x.2.2.2.2.1 x.2.2.1 m.1.2.2.2.2.1 = true ∧ aRoom m.2.2.2.1.2.2.2.2.2.2 G.2.2.2.2.2.2 G.1.2.2.1 = true ∧ (S.2.1.drop G.2.2.1).length ≤ 4 ∧ aCs m.1.2.2.1 m.2.1.1 G = true ∧ 1 ≤ G.2.2.1 then aCall m.2.1 S G (pc + 3) else none
    | none => none)
  | .tableswitch dflt lo hi offs => (match S.2.1 with
    | x :: r => (match aTy S.2.2.1 x with
      | some (.inl _) => if hi - lo + 1 = (offs.size : Int) ∧ offs.toList.all (fun o => decide (0 ≤ (pc : Int) + o)) = true ∧ 0 ≤ (pc : Int) + dflt then some (aBs S r [aFp ([], lo - 1) (aFm (-1) (aLi S.2.2.1 x))] ((pc : Int) + dflt).toNat ++ (aBs S r [aFp ([], -1 - hi) (aLi S.2.2.1 x)] ((pc : Int) + dflt).toNat ++ aTab S x r (offs.toList.map (fun o => ((pc : Int) + o).toNat)) lo)) else none
      | _ => none)
    | _ => none)
  | .lookupswitch dflt ps => (match S.2.1 with
    | x :: r => (match aTy S.2.2.1 x with
      | some (.inl A) => if (ps.toList.zip (ps.toList.drop 1)).all (fun (a, next) => a.1 < next.1) = true ∧ ps.toList.all (fun o => decide (0 ≤ (pc : Int) + o.2)) = true ∧ 0 ≤ (pc : Int) + dflt then some ((if aKe A ps.toList = true then [] else aBs S r [] ((pc : Int) + dflt).toNat) ++ aLok S x r pc ps.toList) else none
      | _ => none)
    | _ => none)
  | _ => aStq m.2.1 x.1 x.2.1 x.2.2 pc S
/-! static things: texts, an enum, statics -/
def aSpf (k i o : Nat) : List aSz → Option jSv
  | [] => none
  | q :: r => if (Nat.beq q.1 k && (Nat.beq q.2.1 i && Nat.beq q.2.2.1 o)) = true then some q.2.2.2 else aSpf k i o r
theorem aSpf_ok {k i o : Nat} {v : jSv} : ∀ {L : List aSz}, aSpf k i o L = some v → (k, i, o, v) ∈ L
  | [], h => by cases h
  | q :: r, h => by
    unfold aSpf at h
    split at h
    next hq =>
      cases h
      obtain ⟨q0, q1, q2, q3⟩ := q
      simp only [Bool.and_eq_true] at hq
      obtain ⟨h0, h1, h2⟩ := hq
      cases Nat.eq_of_beq_eq_true h0
      cases Nat.eq_of_beq_eq_true h1
      cases Nat.eq_of_beq_eq_true h2
      exact List.mem_cons_self
    next => exact List.mem_cons_of_mem _ (aSpf_ok h)
/-- what a row of static things promises -/
def aSpP (own : String) (Ts : List Jvm.Cond) (q : aSz) : Prop := (q.1 = 1 → ∃ tx j, q.2.2.2 = .inr j ∧ (own, q.2.1, tx, j) ∈ js0.2.2.2.2) ∧ (q.1 = 2 → ∃ tx j, q.2.2.2 = .inr j ∧ (own, q.2.1, tx, j) ∈ js0.2.2.2.2) ∧ (q.1 = 3 → ∃ v, q.2.2.2 = .inl v ∧ Jvm.Cond.constant own q.2.1 v ∈ jTA Ts) ∧ (q.1 = 4 → ∃ z ∈ js0.2.1, z.2.2.2 = q.2.2.2 ∧ Jvm.Cond.fieldLink own q.2.1 z.1 z.2.1 z.2.2.1 ∈ jTA Ts) ∧ (q.1 = 5 → ∃ o ∈ js0.1, ∃ f ∈ o.2.2, o.1 = q.2.2.1 ∧ f.2.2.2 = q.2.2.2 ∧ Jvm.Cond.fieldLink own q.2.1 f.1 f.2.1 f.2.2.1 ∈ jTA Ts) ∧ (q.1 = 6 → Jvm.Cond.methodLink own q.2.1 arraycopyName ∈ jTA Ts ∧ Jvm.Cond.native arraycopyName ∈ jTA Ts ∧ Jvm.Cond.static arraycopyName ∈ jTA Ts ∧ Jvm.Cond.initialized "java/lang/System" ∈ jTA Ts)
def aSvp (S : aS) (r : List Nat) (v : jSv) (p : Nat) : Option (List (Nat × aS)) := match v with
  | .inl x => some [(p, aPu S r (.inl (x.toInt, x.toInt)) (some ([], x.toInt)))]
  | .inr j => if j < 1000000 then some [(p, aPu S r (.inr (some (.inr j))) none)] else none
def aSrf (j : Nat) : Option (Nat × String × Nat × (Nat → Nat)) := js0.2.2.2.1.find? (fun q => Nat.beq q.1 j)
theorem aSrf_ok {j : Nat} {q : Nat × String × Nat × (Nat → Nat)} (h : aSrf j = some q) : q ∈ js0.2.2.2.1 ∧ q.1 = j := by
  unfold aSrf at h
  exact ⟨List.mem_of_find?_eq_some h, Nat.eq_of_beq_eq_true (by simpa using List.find?_some h)⟩
def aSro (j : Nat) : Option (Nat × FieldType × Nat × (Nat → Int32)) := js0.2.2.1.find? (fun q => Nat.beq q.1 j)
theorem aSro_ok {j : Nat} {q : Nat × FieldType × Nat × (Nat → Int32)} (h : aSro j = some q) : q ∈ js0.2.2.1 ∧ q.1 = j := by
  unfold aSro at h
  exact ⟨List.mem_of_find?_eq_some h, Nat.eq_of_beq_eq_true (by simpa using List.find?_some h)⟩
theorem js_by : js_ro.all (fun q => decide (q.2.1 = .byte)) = true := by decide +kernel
theorem js_bt : js_ro.all (fun q => (List.range q.2.2.1).all (fun i => decide (0 ≤ (q.2.2.2 i).toInt) && decide ((q.2.2.2 i).toInt ≤ 127))) = true := by decide +kernel
/-- a static thing that a method is called on -/
def aSrc (G : aCon) : Bool := match G.2.2.2.1.1 with
  | (.inr (some (.inr j)), _) :: _ => (decide (1000 ≤ (aRj j).1) && (decide ((aRj j).2 < 1050) && decide (G.1.1.cls = "java/lang/String"))) || (decide (3000 ≤ (aRj j).1) && (decide ((aRj j).2 < 3028) && decide (G.1.1.cls = "ChessHouse$Command")))
  | _ => false
def js_cl (b k : Nat) (c : String) : Bool := (List.range k).all (fun i => js_ob.any (fun o => Nat.beq o.1 (b + i) && decide (o.2.1 = c)))
theorem js_s : js_cl 1000 50 "java/lang/String" = true := by decide +kernel
theorem js_c : js_cl 3000 28 "ChessHouse$Command" = true := by decide +kernel
theorem js_cl_ok {b k : Nat} {c : String} (h : js_cl b k c = true) {j : Nat} (h1 : b ≤ j) (h2 : j < b + k) : ∃ o ∈ js0.1, o.1 = j ∧ o.2.1 = c := by
  have h3 := List.all_eq_true.mp h (j - b) (List.mem_range.mpr (by omega))
  obtain ⟨o, o1, o2⟩ := List.any_eq_true.mp h3
  rw [Bool.and_eq_true] at o2
  refine ⟨o, o1, ?_, of_decide_eq_true o2.2⟩
  have := Nat.eq_of_beq_eq_true o2.1
  omega
def aSpv (m : aMi) (x : jI) (pc : Nat) (S : aS) (i k : Nat) : Option (List (Nat × aS)) := match m.2.2.1[k]? with
    | some G => if x.2.1 = 3 ∧ G.2.1 = false ∧ jin3 i x.2.2.2.2.1 k m.1.2.2.2.2.1 = true ∧ aRoom m.2.2.2.1.2.2.2.2.2.2 G.2.2.2.2.2.2 G.1.2.2.1 = true ∧ (S.2.1.drop G.2.2.1).length ≤ 4 ∧ aSrc G = true ∧ 1 ≤ G.2.2.1 then aCall m.2.1 S G (pc + 3) else none
    | none => none
/-- the first contract that fits -/
def aTry (f : Nat → Option (List (Nat × aS))) : Nat → Nat → Option (List (Nat × aS))
  | 0, _ => none
  | c + 1, k => (match f k with
    | some L => some L
    | none => aTry f c (k + 1))
theorem aTry_ok {f : Nat → Option (List (Nat × aS))} {L : List (Nat × aS)} : ∀ {c k : Nat}, aTry f c k = some L → ∃ k, f k = some L
  | 0, _, h => by cases h
  | c + 1, k, h => by
    unfold aTry at h
    split at h
    next e => cases h; exact ⟨k, e⟩
    next => exact aTry_ok h
/-- longs copied from row to row -/
def aCpy (C : aCf) (rm : Room) (S : aS) (p : Nat) : Option (List (Nat × aS)) := match S.2.1 with
  | k :: dp :: d :: sp :: a :: r => (match aIv S.2.2.1 k, aIv S.2.2.1 dp, aIv S.2.2.1 sp, aAr C.1 S.2.2.1 d, aAr C.1 S.2.2.1 a with
    | some A, some B, some D, some qd, some qa => if decide (qd.2.1 = .long) = true ∧ decide (qa.2.1 = .long) = true ∧ 0 ≤ A.1 ∧ 0 ≤ B.1 ∧ 0 ≤ D.1 ∧ aPr S.2.2.1 S.2.2.2.2.2.1 2 (aFp ([], (qa.2.2.1 : Int)) (aFp (aFm (-1) (aLi S.2.2.1 sp)) (aFm (-1) (aLi S.2.2.1 k)))) = true ∧ aPr S.2.2.1 S.2.2.2.2.2.1 2 (aFp ([], (qd.2.2.1 : Int)) (aFp (aFm (-1) (aLi S.2.2.1 dp)) (aFm (-1) (aLi S.2.2.1 k)))) = true ∧ ¬ qd.1 ∈ C.2.2.1 ∧ aWr C S.2.2.1 S.2.2.2.2.2.1 qd.1 (aLi S.2.2.1 dp) = true ∧ r.length ≤ 4 ∧ 1 ≤ rm.frames ∧ 8 + (nativeFrameWords "java/lang/System" "arraycopy" 5 + 11) ≤ rm.locals then some [(p, (S.1, r, S.2.2.1, (S.2.2.2.1, S.2.2.2.2.1.filter (aCk S.2.2.1 qd.1), S.2.2.2.2.2.1, S.2.2.2.2.2.2.filter (aFkl C.2.2.2.2.2.1 qd.1))))] else none
    | _, _, _, _, _ => none)
  | _ => none
/-- bytes copied from row to row -/
def aCpb (C : aCf) (rm : Room) (S : aS) (p : Nat) : Option (List (Nat × aS)) := match S.2.1 with
  | k :: dp :: d :: sp :: a :: r => (match aIv S.2.2.1 k, aIv S.2.2.1 dp, aIv S.2.2.1 sp, aAr C.1 S.2.2.1 d, aAr C.1 S.2.2.1 a with
    | some A, some B, some D, some qd, some qa => if decide (qd.2.1 = .byte) = true ∧ decide (qa.2.1 = .byte) = true ∧ aSb qa.2.2.2.1 (-128, 127) = true ∧ aSb qa.2.2.2.1 qd.2.2.2.1 = true ∧ qd.2.2.2.2.isEmpty = true ∧ 0 ≤ A.1 ∧ 0 ≤ B.1 ∧ 0 ≤ D.1 ∧ aPr S.2.2.1 S.2.2.2.2.2.1 2 (aFp ([], (qa.2.2.1 : Int)) (aFp (aFm (-1) (aLi S.2.2.1 sp)) (aFm (-1) (aLi S.2.2.1 k)))) = true ∧ aPr S.2.2.1 S.2.2.2.2.2.1 2 (aFp ([], (qd.2.2.1 : Int)) (aFp (aFm (-1) (aLi S.2.2.1 dp)) (aFm (-1) (aLi S.2.2.1 k)))) = true ∧ ¬ qd.1 ∈ C.2.2.1 ∧ aWr C S.2.2.1 S.2.2.2.2.2.1 qd.1 (aLi S.2.2.1 dp) = true ∧ r.length ≤ 4 ∧ 1 ≤ rm.frames ∧ 8 + (nativeFrameWords "java/lang/System" "arraycopy" 5 + 11) ≤ rm.locals then some [(p, (S.1, r, S.2.2.1, (S.2.2.2.1, S.2.2.2.2.1.filter (aCk S.2.2.1 qd.1), S.2.2.2.2.2.1, S.2.2.2.2.2.2.filter (aFkl C.2.2.2.2.2.1 qd.1))))] else none
    | _, _, _, _, _ => none)
  | _ => none
def aSpe (m : aMi) (x : jI) (pc : Nat) (S : aS) : Option (List (Nat × aS)) := match x.1 with
  | .ldc i => (match aSpf 1 i 0 m.1.2.2.2.2.2.1 with
    | some v => if x.2.1 = 2 then aSvp S S.2.1 v (pc + 2) else none
    | none => none)
  | .ldc_w i => if x.2.1 = 3 then (match aSpf 2 i 0 m.1.2.2.2.2.2.1 with
    | some v => aSvp S S.2.1 v (pc + 3)
    | none => (match aSpf 3 i 0 m.1.2.2.2.2.2.1 with
      | some v => aSvp S S.2.1 v (pc + 3)
      | none => none)) else none
  | .getstatic i => (match aSpf 4 i 0 m.1.2.2.2.2.2.1 with
    | some v => if x.2.1 = 3 then aSvp S S.2.1 v (pc + 3) else none
    | none => none)
  | .getfield i => if x.2.1 = 3 then (match S.2.1 with
    | a :: r => (match aTy S.2.2.1 a with
      | some (.inr (some (.inr j))) => if j < 1000000 then (match aSpf 5 i j m.1.2.2.2.2.2.1 with
        | some v => aSvp S r v (pc + 3)
        | none => none) else none
      | _ => none)
    | _ => none) else none
  | .aaload => if x.2.1 = 1 then (match S.2.1 with
    | i :: a :: r => (match aTy S.2.2.1 i, aTy S.2.2.1 a with
      | some (.inl A), some (.inr (some (.inr j))) => if j < 1000000 then (match aSrf j with
        | some q => if 0 ≤ A.1 ∧ A.2 < (q.2.2.1 : Int) then (if A.1 = A.2 then aSvp S r (.inr (q.2.2.2 A.1.toNat)) (pc + 1) else (if (List.range q.2.2.1).all (fun i => decide ((aRj x.2.2.2.1).1 ≤ q.2.2.2 i) && decide (q.2.2.2 i ≤ (aRj x.2.2.2.1).2)) = true then some [(pc + 1, aPu S r (.inr (some (.inr x.2.2.2.1))) none)] else none)) else none
        | none => none) else none
      | _, _ => none)
    | _ => none) else none
  | .arraylength => if x.2.1 = 1 then (match S.2.1 with
    | a :: r => (match aTy S.2.2.1 a with
      | some (.inr (some (.inr j))) => if j < 1000000 then (match aSrf j with
        | some q => aSvp S r (.inl (Int32.ofNat q.2.2.1)) (pc + 1)
        | none => (match aSro j with
          | some q => aSvp S r (.inl (Int32.ofNat q.2.2.1)) (pc + 1)
          | none => none)) else none
      | _ => none)
    | _ => none) else none
  | .baload => if x.2.1 = 1 then (match S.2.1 with
    | i :: a :: r => (match aTy S.2.2.1 i, aTy S.2.2.1 a with
      | some (.inl A), some (.inr (some (.inr j))) => if j < 1000000 then (match aSro j with
        | some q => if aBd S.2.2.1 S.2.2.2.2.2.1 (aLi S.2.2.1 i) q.2.2.1 = true then (if A.1 = A.2 then aSvp S r (.inl (q.2.2.2 A.1.toNat)) (pc + 1) else some [(pc + 1, aPu S r (.inl (0, 127)) none)]) else none
        | none => none) else none
      | _, _ => none)
    | _ => none) else none
  | .invokestatic i => (match aSpf 6 i 0 m.1.2.2.2.2.2.1 with
    | some _ => if x.2.1 = 3 then (match aCpy m.2.1 m.2.2.2.1.2.2.2.2.2.2 S (pc + 3) with
      | some L => some L
      | none => aCpb m.2.1 m.2.2.2.1.2.2.2.2.2.2 S (pc + 3)) else none
    | none => aTry (fun k => aNe m (x.1, x.2.1, (k, 0, x.2.2.2.2.1, 0, 0)) pc S) x.2.2.2.2.2.1.toNatClampNeg x.2.2.2.1)
  | .invokevirtual i => aTry (fun k => match aNe m (x.1, x.2.1, (k, 0, x.2.2.2.2.1, 0, 0)) pc S with
    | some L => some L
    | none => aSpv m x pc S i k) x.2.2.2.2.2.1.toNatClampNeg x.2.2.2.1
  | _ => none
def aNe2 (m : aMi) (x : jI) (pc : Nat) (S : aS) : Option (List (Nat × aS)) := match Nat.beq x.2.2.1 999 with
  | true => aSpe m x pc S
  | false => aNe m x pc S
/-! cases of a name's value at a place -/
def aLow (env : List aE) (x : Nat) (lo : Option Int) : List aF := match lo with
  | none => []
  | some l => [aFp ([], -l) (aLi env x)]
def aPcs (S : aS) (x pc : Nat) : List Int → Option Int → List (Nat × aS)
  | [], lo => aBs S S.2.1 (aLow S.2.2.1 x lo) pc
  | p :: r, lo => aBs S S.2.1 (aFp ([], p - 1) (aFm (-1) (aLi S.2.2.1 x)) :: aLow S.2.2.1 x lo) pc ++ aPcs S x pc r (some p)
def aSid (S : aS) (w : Nat) : Option Nat := if w % 2 = 0 then (match S.1[w / 2]? with
  | some (some k) => some k
  | _ => none) else S.2.1[w / 2]?
def aFsp : List (Nat × Nat × List Int) → Nat → Option (Nat × List Int)
  | [], _ => none
  | q :: r, pc => if Nat.beq q.1 pc = true then some q.2 else aFsp r pc
def aCat (f : aS → Option (List (Nat × aS))) : List (Nat × aS) → Option (List (Nat × aS))
  | [] => some []
  | q :: r => (match f q.2, aCat f r with
    | some a, some b => some (a ++ b)
    | _, _ => none)
def aNe3 (m : aMi) (x : jI) (pc : Nat) (S : aS) : Option (List (Nat × aS)) := match aFsp m.1.2.2.2.2.2.2.1 pc with
  | none => aNe2 m x pc S
  | some w => (match aSid S w.1 with
    | some k => (match aTy S.2.2.1 k with
      | some (.inl _) => aCat (aNe2 m x pc) (aPcs S k pc w.2 none)
      | _ => none)
    | none => none)
/-! ghost steps: what is known of a picture, by rules that are proved apart -/
def aGh1 (C : aCf) (RU : List aCon) (g : Nat × Nat × List aSc2 × List Nat) (pc : Nat) (S : aS) : Option (List (Nat × aS)) := match RU[g.2.1]? with
  | some G => if G.2.2.2.2.1.1.isSome = false ∧ G.2.2.1 = g.2.2.2.length ∧ G.2.2.2.2.2.1.1.isEmpty = true then (match aMp C S (List.range C.2.2.2.2.2.2) g.2.2.1 with
    | some z => if g.2.2.2.all (fun i => decide (i < z.2.length)) = true ∧ z.2.all (fun i => decide (i < z.1.2.2.1.length)) = true then aCall C (z.1.1, (g.2.2.2.map (fun i => z.2.getD i 0)).reverse ++ z.1.2.1, z.1.2.2.1, z.1.2.2.2) G pc else none
    | none => none) else none
  | none => none
/-- another ghost: what is free of it stays, and what the rule says of the new one -/
def aNq (G : aCon) : aCon := (G.1, G.2.1, G.2.2.1, G.2.2.2.1, (none, [], ([], [], [], []), [[]]), (([], []), G.2.2.2.2.2.2))
def aGh4 (C : aCf) (RU : List aCon) (g : Nat × Nat × List aSc2 × List Nat) (pc : Nat) (S : aS) : Option (List (Nat × aS)) := match RU[g.2.1 - 100000]? with
  | some G => if G.2.2.1 = g.2.2.2.length then (match aMp C S (List.range C.2.2.2.2.2.2) g.2.2.1 with
    | some z => if g.2.2.2.all (fun i => decide (i < z.2.length)) = true ∧ z.2.all (fun i => decide (i < z.1.2.2.1.length)) = true ∧ G.2.2.2.2.1.2.2.1.2.2.2.all (fun q => q.2.all (fun i => decide (i < g.2.2.2.length))) = true ∧ aNo0 G.2.2.2.2.1.2.2.1.2.2.2 = true ∧ (aCall C (z.1.1, (g.2.2.2.map (fun i => z.2.getD i 0)).reverse ++ z.1.2.1, z.1.2.2.1, z.1.2.2.2) (aNq G) pc).isSome = true then some [(pc, (z.1.1, z.1.2.1, z.1.2.2.1, (z.1.2.2.2.1, z.1.2.2.2.2.1, z.1.2.2.2.2.2.1, G.2.2.2.2.1.2.2.1.2.2.2.map (fun q => (q.1, q.2.map (fun i => (g.2.2.2.map (fun i => z.2.getD i 0)).getD i 0))) ++ z.1.2.2.2.2.2.2.filter (fun q => aFre q.1))))] else none
    | none => none) else none
  | none => none
/-- rules numbered from 1000 on are left out where they don't fit; from 2000 on the first name's value says which one it is -/
def aGsl (C : aCf) (g : Nat × Nat × List aSc2 × List Nat) (S : aS) : Nat := match aMp C S (List.range C.2.2.2.2.2.2) g.2.2.1 with
  | some z => (match z.2[C.2.2.2.2.2.2]? with
    | some i => (match aIv z.1.2.2.1 i with
      | some A => if A.1 = A.2 then g.2.1 - 2000 + A.1.toNat else 100000
      | none => 100000)
    | none => 100000)
  | none => 100000
/-- whether a rule that may be left out is worth trying: its facts' numbers are there, no number is out of its reach -/
def aGty (env : List aE) : List Nat → List aE → Bool
  | i :: r, e :: es => (match aIv env i, e.1 with
    | some A, .inl T => decide (A.1 ≤ T.2) && decide (T.1 ≤ A.2)
    | _, _ => true) && aGty env r es
  | _, _ => true
def aGg (C : aCf) (RU : List aCon) (g : Nat × Nat × List aSc2 × List Nat) (S : aS) : Bool := match RU[g.2.1]? with
  | some G => G.2.2.2.1.2.2.2.2.all (fun q => S.2.2.2.2.2.2.any (fun z => Nat.beq z.1 q.1)) && (match aMp C S (List.range C.2.2.2.2.2.2) g.2.2.1 with
    | some z => aGty z.1.2.2.1 (g.2.2.2.map (fun i => z.2.getD i 0)) G.2.2.2.1.1
    | none => false)
  | none => false
def aGh2 (C : aCf) (RU : List aCon) (g : Nat × Nat × List aSc2 × List Nat) (pc : Nat) (S : aS) : Option (List (Nat × aS)) := if g.2.1 < 1000 then aGh1 C RU g pc S else (if g.2.1 < 2000 then (match (if aGg C RU (g.1, g.2.1 - 1000, g.2.2) S = true then aGh1 C RU (g.1, g.2.1 - 1000, g.2.2) pc S else none) with
  | some L => some L
  | none => some [(pc, S)]) else (if g.2.1 < 100000 then aGh1 C RU (g.1, aGsl C g S, g.2.2) pc S else aGh4 C RU g pc S))
def aGhs (C : aCf) (RU : List aCon) (pc : Nat) : List (Nat × Nat × List aSc2 × List Nat) → List (Nat × aS) → Option (List (Nat × aS))
  | [], L => some L
  | g :: r, L => if Nat.beq g.1 pc = true then (match aCat (aGh2 C RU g pc) L with
    | some L' => aGhs C RU pc r L'
    | none => none) else aGhs C RU pc r L
theorem aBs_pc {S : aS} {r : List Nat} {cs : List aF} {p : Nat} : ∀ q ∈ aBs S r cs p, q.1 = p := by
  intro q hq
  unfold aBs at hq
  repeat' split at hq
  all_goals first | (rw [List.mem_singleton] at hq; subst hq; rfl) | (cases hq)
theorem aPcs_pc {S : aS} {x pc : Nat} : ∀ {pts : List Int} {lo : Option Int}, ∀ q ∈ aPcs S x pc pts lo, q.1 = pc
  | [], _, q, hq => aBs_pc q hq
  | _ :: _, _, q, hq => (List.mem_append.mp hq).elim (aBs_pc q) (aPcs_pc q)
theorem aCat_ok {f : aS → Option (List (Nat × aS))} : ∀ {L0 L : List (Nat × aS)}, aCat f L0 = some L → ∀ q ∈ L0, ∃ Lq, f q.2 = some Lq ∧ ∀ z ∈ Lq, z ∈ L
  | [], _, _, q, hq => by cases hq
  | q0 :: r, L, h, q, hq => by
    unfold aCat at h
    split at h
    next a b ha hb =>
      cases h
      rcases List.mem_cons.mp hq with rfl | hq
      · exact ⟨a, ha, fun z hz => List.mem_append_left _ hz⟩
      · obtain ⟨Lq, e1, e2⟩ := aCat_ok hb q hq
        exact ⟨Lq, e1, fun z hz => List.mem_append_right _ (e2 z hz)⟩
    next => cases h
/-! a state in its normal form, for the kernel -/
def aNn (x : Nat) (k : Nat → Bool) : Bool := match x with
  | 0 => k 0
  | y + 1 => k (y + 1)
theorem aNn_e (x : Nat) (k : Nat → Bool) : aNn x k = k x := by cases x <;> rfl
def aNi2 (x : Int) (k : Int → Bool) : Bool := match x with
  | .ofNat y => aNn y (fun y => k (.ofNat y))
  | .negSucc y => aNn y (fun y => k (.negSucc y))
theorem aNi2_e (x : Int) (k : Int → Bool) : aNi2 x k = k x := by
  cases x <;> (unfold aNi2; dsimp only; rw [aNn_e])
def aNl {α : Type} (f : α → (α → Bool) → Bool) : List α → (List α → Bool) → Bool
  | [], k => k []
  | x :: r, k => f x (fun x => aNl f r (fun r => k (x :: r)))
theorem aNl_e {α : Type} {f : α → (α → Bool) → Bool} (hf : ∀ x k, f x k = k x) : ∀ (l : List α) (k : List α → Bool), aNl f l k = k l
  | [], _ => rfl
  | x :: r, k => by unfold aNl; rw [hf, aNl_e hf r]
def aNo {α : Type} (f : α → (α → Bool) → Bool) (x : Option α) (k : Option α → Bool) : Bool := match x with
  | none => k none
  | some y => f y (fun y => k (some y))
theorem aNo_e {α : Type} {f : α → (α → Bool) → Bool} (hf : ∀ x k, f x k = k x) (x : Option α) (k : Option α → Bool) : aNo f x k = k x := by
  cases x
  · rfl
  · exact hf _ _
def aNp {α β : Type} (f : α → (α → Bool) → Bool) (g : β → (β → Bool) → Bool) (x : α × β) (k : α × β → Bool) : Bool := match x with
  | (a, b) => f a (fun a => g b (fun b => k (a, b)))
theorem aNp_e {α β : Type} {f : α → (α → Bool) → Bool} {g : β → (β → Bool) → Bool} (hf : ∀ x k, f x k = k x) (hg : ∀ x k, g x k = k x) (x : α × β) (k : α × β → Bool) : aNp f g x k = k x := by
  obtain ⟨a, b⟩ := x
  unfold aNp
  dsimp only
  rw [hf, hg]
def aNf1 : aF → (aF → Bool) → Bool := aNp (aNl (aNp aNn aNi2)) aNi2
theorem aNf1_e (x : aF) (k : aF → Bool) : aNf1 x k = k x := aNp_e (aNl_e (aNp_e aNn_e aNi2_e)) aNi2_e x k
def aNt (x : aT) (k : aT → Bool) : Bool := match x with
  | .inl A => aNp aNi2 aNi2 A (fun A => k (.inl A))
  | .inr none => k (.inr none)
  | .inr (some (.inl (b, n))) => (match b with
    | true => aNn n (fun n => k (.inr (some (.inl (true, n)))))
    | false => aNn n (fun n => k (.inr (some (.inl (false, n))))))
  | .inr (some (.inr n)) => aNn n (fun n => k (.inr (some (.inr n))))
theorem aNt_e (x : aT) (k : aT → Bool) : aNt x k = k x := by
  rcases x with A | _ | ⟨b, n⟩ | n
  · unfold aNt; dsimp only; rw [aNp_e aNi2_e aNi2_e]
  · rfl
  · cases b <;> (unfold aNt; dsimp only; rw [aNn_e])
  · unfold aNt; dsimp only; rw [aNn_e]
def aNS : aS → (aS → Bool) → Bool := aNp (aNl (aNo aNn)) (aNp (aNl aNn) (aNp (aNl (aNp aNt (aNo aNf1))) (aNp (aNl (aNp aNn (aNp aNn aNn))) (aNp (aNl (aNp aNn (aNp aNf1 aNn))) (aNp (aNl aNf1) (aNl (aNp aNn (aNl aNn))))))))
theorem aNS_e (x : aS) (k : aS → Bool) : aNS x k = k x := aNp_e (aNl_e (aNo_e aNn_e)) (aNp_e (aNl_e aNn_e) (aNp_e (aNl_e (aNp_e aNt_e (aNo_e aNf1_e))) (aNp_e (aNl_e (aNp_e aNn_e (aNp_e aNn_e aNn_e))) (aNp_e (aNl_e (aNp_e aNn_e (aNp_e aNf1_e aNn_e))) (aNp_e (aNl_e aNf1_e) (aNl_e (aNp_e aNn_e (aNl_e aNn_e)))))))) x k
/-- normal forms behind branches alone -/
def aNy (L : List (Nat × aS)) (S : aS) (k : aS → Bool) : Bool := match L with
  | [_] => k S
  | _ => aNS S k
theorem aNy_e (L : List (Nat × aS)) (S : aS) (k : aS → Bool) : aNy L S k = k S := by
  unfold aNy
  split
  · rfl
  · exact aNS_e S k
def aGk (m : aMi) (pc : Nat) (S : aS) (k : aS → Bool) : Bool := if m.1.2.2.2.2.2.2.2.2.any (fun g => Nat.beq g.1 pc) = true then (match aGhs m.2.1 m.1.2.2.2.2.2.2.2.1 pc m.1.2.2.2.2.2.2.2.2 [(pc, S)] with
  | some L => L.all (fun q => aNS q.2 k)
  | none => false) else k S
def aRun (m : aMi) (rk0 : List aF) : Nat → List jI → Nat → aS → Bool
  | 0, _, _, _ => false
  | _ + 1, [], _, _ => false
  | f + 1, x :: r, pc, S => aGk m pc S (fun S => (!Nat.beq x.2.2.1 999 && aRet m.2.1 m.2.2.2.1 m.1.2.2.2.1 x.1 S) || (match aNe3 m x pc S with
    | some L => L.all (fun q => aNn q.1 (fun p => aNy L q.2 (fun S => if m.2.2.2.2.2.any (fun c => Nat.beq c.1 p) = true then m.2.2.2.2.2.any (fun c => Nat.beq c.1 p && aTo m.2.1 rk0 c S) else (if p = pc + x.2.1 then aRun m rk0 f r p S else (match aSuf m.2.2.2.2.1 0 p with
        | some is => aRun m rk0 f is p S
        | none => false)))))
    | none => false))
def aIsL (t : aT) : Bool := match t with
  | .inr none => true
  | _ => false
def aEnt : List aT → Nat → List (Option Nat)
  | [], _ => []
  | t :: ts, i => if aIsL t = true then some i :: none :: aEnt ts (i + 1) else some i :: aEnt ts (i + 1)
/-- the state at the entry -/
def aEn (G : aCon) : aS := (aEnt ((G.2.2.2.1.1.take G.2.2.1).map (·.1)) 0 ++ List.replicate (G.1.2.2.1 - (aEnt ((G.2.2.2.1.1.take G.2.2.1).map (·.1)) 0).length) none, [], G.2.2.2.1.1, (G.2.2.2.1.2.1, [], G.2.2.2.1.2.2.2.1, (0, []) :: G.2.2.2.1.2.2.2.2))
/-- the conf is that of the contract -/
def aOkc (C : aCf) (G : aCon) : Bool := decide (C.2.2.2.1 = G.2.2.2.2.2.1.1) && (decide (C.2.2.2.2.1 = G.2.2.2.2.2.1.2) && (decide (C.2.2.2.2.2.2 = G.2.2.2.1.1.length) && (aDT C.2.2.2.2.2.1 C.1 && (aNil G.2.2.2.1.2 && (aNo0 G.2.2.2.1.2.2.2.2 && (decide (G.2.2.1 ≤ G.2.2.2.1.1.length) && decide ((aEnt ((G.2.2.2.1.1.take G.2.2.1).map (·.1)) 0).length ≤ G.1.2.2.1)))))))
def aChk (m : aMi) (f : Nat) : Bool := aOkc m.2.1 m.2.2.2.1 && (m.2.2.2.2.2.all (fun c => aRo c.2.1.2.2.1.length c.2.2.2 && (match aSuf m.2.2.2.2.1 0 c.1 with
  | some is => aRun m c.2.2.2 f is c.1 c.2.1
  | none => false)))
theorem nar_eq (ty : FieldType) (x : Int32) : narrow ty (.int x) = .int (vp_nar ty x) := by cases ty <;> rfl
section ASZ
variable {K : Nat → Nat} {n : Nat} {P : Type} {F : aFt P} {l : Launch} {E : jE} {tb : jTb} {nL : Nat} {ini : Bool} {cc : ByteArray} {M : jM} {JX : (Nat → jcell) → Prop} {ρ0 : List jv} {σ0 : Nat → jcell} {m : aMi} {pe : P}
theorem jk_aret {own : String} {Ts : List Jvm.Cond} {cl : List vw_C} {cells slots : Nat} (X : jX E own Ts cl tb nL ini cc M) {pc mc ms : Nat} (hd : decode cc pc = .ok (.areturn, 1)) {ty : FieldType} (hr : M.2.2.2.2.2.2.2.2.1.sig.returnType = some ty) (hty : (∃ s, ty = .object s) ∨ ∃ t, ty = .array t) {v : Option (Nat ⊕ Nat)} {lv : List (Option jv)} {σ : Nat → jcell} {post : jPo} (hc : cells ≤ mc) (hs : slots ≤ ms) (hp : post (some (.inr (.inr v))) σ n) : jJ E cl nL M (jQ E cl M post mc ms) n cells slots pc lv [.inr (.inr v)] σ := by
  obtain ⟨p, l, e, R, s, m, args, below, meth, c⟩ := M
  obtain ⟨hx, hb, hml, ho, hts, hK, hlk, -⟩ := X
  intro H locs ls hW hS hL
  refine W.widen hc hs (W.aret hx hb hr hty ?_ (fun t ht _ => ⟨⟨some (.inr (.inr v)), σ, n, rfl, hp, by rw [ht]; exact hW⟩, hS.F ht⟩) hS.2.2 hd hlk)
  rcases v with _ | a | j
  · exact Or.inl rfl
  · exact Or.inr ⟨_, rfl⟩
  · exact Or.inr ⟨_, rfl⟩
theorem jk_look {own : String} {Ts : List Jvm.Cond} {cl : List vw_C} {Q : State → Prop} {cells slots : Nat} (X : jX E own Ts cl tb nL ini cc M) {pc len td : Nat} {dflt : Int} {ps : Array (Int × Int)} (hd : decode cc pc = .ok (.lookupswitch dflt ps, len)) (hp : (ps.toList.zip (ps.toList.drop 1)).all (fun (a, next) => a.1 < next.1) = true) (htd : (pc : Int) + dflt = (td : Int)) {lv : List (Option jv)} {r : List jv} {σ : Nat → jcell} {x : Int32} (ko : (∀ q ∈ ps.toList, ¬ x.toInt = q.1) → jJ E cl nL M Q n cells slots td lv r σ) (ki : ∀ q ∈ ps.toList, x.toInt = q.1 → ∃ t : Nat, (pc : Int) + q.2 = (t : Int) ∧ jJ E cl nL M Q n cells slots t lv r σ) : jJ E cl nL M Q n cells slots pc lv (.inl x :: r) σ := by
  obtain ⟨hx, hb, -⟩ := X
  intro H locs ls hW hS hL
  have key : ∀ (L : List (Int × Int)), (Op.lookupswitch.offset L dflt x.toInt = dflt ∧ ∀ q ∈ L, ¬ x.toInt = q.1) ∨ ∃ q ∈ L, x.toInt = q.1 ∧ Op.lookupswitch.offset L dflt x.toInt = q.2 := by
    intro L
    induction L with
    | nil => exact Or.inl ⟨rfl, fun _ h => by cases h⟩
    | cons q t ih =>
      obtain ⟨a, o⟩ := q
      rw [Op.lookupswitch.offset_cons]
      by_cases h : a = x.toInt
      · rw [if_pos h]
        exact Or.inr ⟨(a, o), List.mem_cons_self, h.symm, rfl⟩
      · rw [if_neg h]
        rcases ih with ⟨ih, ih2⟩ | ⟨q, q1, q2⟩
        · refine Or.inl ⟨ih, fun q hq e => ?_⟩
          rcases List.mem_cons.mp hq with rfl | hq
          · exact h e.symm
          · exact ih2 q hq e
        · exact Or.inr ⟨q, List.mem_cons_of_mem _ q1, q2⟩
  rcases key ps.toList with ⟨h, h'⟩ | ⟨q, q1, q2, q3⟩
  · exact lv_lookup hx hb hd hp h htd (ko h' H locs ls hW hS hL)
  · obtain ⟨t, t1, t2⟩ := ki q q1 q2
    exact lv_lookup hx hb hd hp q3 t1 (t2 H locs ls hW hS hL)
def aPo (C : aCf) (K : Nat → Nat) (n : Nat) (JX : (Nat → jcell) → Prop) (F : aFt P) (pe : P) (ρ0 : List jv) (σ0 : Nat → jcell) (G : aCon) : jPo := fun r σ' n' => n' = n ∧ aH C.1 K n σ' ∧ JX σ' ∧ aFr K n C.2.2.2.1 σ0 σ' ∧ aFa K n C.2.2.2.2.1 ρ0 σ0 σ' ∧ r.isSome = G.2.2.2.2.1.1.isSome ∧ ∃ xs, aR K n (aPe G) (ρ0 ++ (r.toList ++ xs)) ∧ aMm F pe (ρ0 ++ (r.toList ++ xs)) σ' G.2.2.2.2.1.2.2.1 ∧ ∃ A ∈ G.2.2.2.2.1.2.2.2, ∀ f ∈ A, aHd (ρ0 ++ (r.toList ++ xs)) f
theorem aFn_ok {C : aCf} (hF : ∀ (p p' : P) (r : Nat) (vs : List jv) (σ : Nat → jcell), aFre r = true → F p r vs σ → F p' r vs σ) (hE : C.2.2.2.2.2.2 = ρ0.length) {G : aCon} {S : aS} {r : List Nat} (h : aFn C G S (List.range C.2.2.2.2.2.2 ++ r) = true) {ρ : List jv} (hx0 : aX ρ0 ρ) {lv : List (Option jv)} {st : List jv} {σ : Nat → jcell} (hc : aCx (aFq F pe) (aHp C K n JX ρ0 σ0) K n S ρ lv st σ) (hw : aWm ρ r) : ∃ xs, aR K n (aPe G) (ρ0 ++ (aVal ρ r ++ xs)) ∧ aMm F pe (ρ0 ++ (aVal ρ r ++ xs)) σ G.2.2.2.2.1.2.2.1 ∧ ∃ A ∈ G.2.2.2.2.1.2.2.2, ∀ f ∈ A, aHd (ρ0 ++ (aVal ρ r ++ xs)) f := by
  unfold aFn at h
  split at h
  next z hz =>
    obtain ⟨⟨ex, hm⟩, ρ1, x1, c1, hst, hf⟩ := aMpf_ok hz hc
    simp only [Bool.and_eq_true] at h
    obtain ⟨h1, h2, h3, h4, h5, h6, h7⟩ := h
    obtain ⟨p9, m1, m2, m3, m4⟩ := c1.2.2.2.1
    obtain ⟨i1, i2⟩ := aAllE_ok c1.1 m3 h1
    have ev : aVal ρ1 z.2 = ρ0 ++ (aVal ρ r ++ aVal ρ1 ex) := by
      rw [hm, hE]
      unfold aVal
      rw [List.map_append, List.map_append, List.append_assoc]
      congr 1
      · exact aVal_rg (hx0.tr x1)
      · congr 1
        exact aVal_mo x1 hw
    refine ⟨aVal ρ1 ex, by rw [← ev]; exact i1, ?_⟩
    rw [← ev]
    obtain ⟨A, hA, hA2⟩ := List.any_eq_true.mp h7
    refine ⟨?_, A, hA, aAllN_ok c1.1 m3 i2 hA2⟩
    have hmm : aMm (aFq F pe) p9 (aVal ρ1 z.2) σ G.2.2.2.2.1.2.2.1 := by
      refine ⟨aMpf_ca hf, fun q hq => ?_, aAllN_ok c1.1 m3 i2 h3, aAllX_ok i2 m4 h4⟩
      unfold aNil at h2
      split at h2
      next e => rw [e] at hq; cases hq
      next => cases h2
    have hmm2 := (aFq_mm h5).mp hmm
    rw [Bool.or_eq_true] at h6
    rcases h6 with h6 | h6
    · refine ⟨hmm2.1, hmm2.2.1, hmm2.2.2.1, fun q hq => ?_⟩
      obtain ⟨vs, v1, v2⟩ := hmm2.2.2.2 q hq
      exact ⟨vs, v1, hF _ _ _ _ _ (List.all_eq_true.mp h6 q hq) v2⟩
    · obtain ⟨vs, -, v2⟩ := m4 _ (of_decide_eq_true h6)
      unfold aFq at v2
      rw [if_pos rfl] at v2
      rw [← v2]
      exact hmm2
  next => cases h
theorem aRetG_ok {post : jPo} {ca sl mc ms : Nat} (hca : ca ≤ mc) (hsl : sl ≤ ms) {C : aCf} (hF : ∀ (p p' : P) (r : Nat) (vs : List jv) (σ : Nat → jcell), aFre r = true → F p r vs σ → F p' r vs σ) {G : aCon} {own : String} {Ts : List Jvm.Cond} {cl : List vw_C} {rt : Option FieldType} (hE : C.2.2.2.2.2.2 = ρ0.length) (X : jX E own Ts cl tb nL ini cc M) (hrt : M.2.2.2.2.2.2.2.2.1.sig.returnType = rt) {pc : Nat} {x : jI} (hk : jok own Ts cl tb nL ini cc pc x = true) {S : aS} (h : aRet C G rt x.1 S = true) {ρ : List jv} (hx0 : aX ρ0 ρ) {lv : List (Option jv)} {st : List jv} {σ : Nat → jcell} (hc : aCx (aFq F pe) (aHp C K n JX ρ0 σ0) K n S ρ lv st σ) (hpo : ∀ (r : Option jv) (σ9 : Nat → jcell), aPo C K n JX F pe ρ0 σ0 G r σ9 n → post r σ9 n) : jJ E cl nL M (jQ E cl M post mc ms) n ca sl pc lv st σ := by
  obtain ⟨I, ln, py⟩ := x
  simp only [jok, Bool.and_eq_true, decide_eq_true_eq] at hk
  obtain ⟨hd, hk⟩ := hk
  obtain ⟨c5, c6, c7, c8⟩ := hc.2.2.2.2
  have one : ∀ {x : Nat} {v : jv}, ρ[x]? = some v → aWm ρ [x] ∧ aVal ρ [x] = [v] := fun {x v} hv => ⟨fun i k hk => by
    cases i with
    | zero => cases hk; exact (List.getElem?_eq_some_iff.mp hv).1
    | succ i => simp at hk, by unfold aVal; simp [List.getD, hv]⟩
  unfold aRet at h
  split at h
  next hI =>
    dsimp only at hI
    subst hI
    simp only [jok1, decide_eq_true_eq] at hk
    subst hk
    split at h
    next e2 e3 =>
      have hs := hc.2.2.1
      rw [e3] at hs
      rw [← List.append_nil (List.range C.2.2.2.2.2.2)] at h
      obtain ⟨xs, x1, x2, x3⟩ := aFn_ok hF hE h hx0 hc (fun i k hk => by simp at hk)
      cases st with
      | nil => exact jk_vret X hd (hrt) hca hsl (hpo _ _ ⟨rfl, c5, c6, c7, c8, by rw [e2]; rfl, xs, x1, x2, x3⟩)
      | cons => exact hs.elim
    next => cases h
  next hI =>
    dsimp only at hI
    subst hI
    simp only [jok1, decide_eq_true_eq] at hk
    subst hk
    split at h
    next ty t z e2 e3 =>
      split at h
      next A hA =>
        rw [Bool.and_eq_true] at h
        obtain ⟨v, s, rfl, h1, h2⟩ := aSk_1 (e3 ▸ hc.2.2.1)
        obtain ⟨x, rfl, -⟩ := aG_int (aTy_ok hc.1 hA h1)
        obtain ⟨p9, m1, m2, m3, m4⟩ := hc.2.2.2.1
        have hx : aIn (aRg ty) x := aLx_ok hc.1 m3 h.1 h1
        obtain ⟨o1, o2⟩ := one h1
        obtain ⟨xs, x1, x2, x3⟩ := aFn_ok hF hE h.2 hx0 hc o1
        rw [o2] at x1 x2 x3
        cases s with
        | nil => exact jk_iret X hd (hrt) (by rw [nar_eq, aRg_ok hx]) hca hsl (hpo _ _ ⟨rfl, c5, c6, c7, c8, by rw [e2]; rfl, xs, x1, x2, x3⟩)
        | cons => exact h2.elim
      next => cases h
    next => cases h
  next hI =>
    dsimp only at hI
    subst hI
    simp only [jok1, decide_eq_true_eq] at hk
    subst hk
    split at h
    next z e2 e3 =>
      obtain ⟨v, s, rfl, h1, h2⟩ := aSk_1 (e3 ▸ hc.2.2.1)
      obtain ⟨o1, o2⟩ := one h1
      split at h
      next hA =>
        obtain ⟨xs, x1, x2, x3⟩ := aFn_ok hF hE h hx0 hc o1
        rw [o2] at x1 x2 x3
        obtain ⟨y, rfl⟩ := aG_lng (aTy_ok hc.1 hA h1)
        cases s with
        | nil => exact jk_lret X hd (hrt) hca hsl (hpo _ _ ⟨rfl, c5, c6, c7, c8, by rw [e2]; rfl, xs, x1, x2, x3⟩)
        | cons => exact h2.elim
      next => cases h
    next => cases h
  next hI =>
    dsimp only at hI
    subst hI
    simp only [jok1, decide_eq_true_eq] at hk
    subst hk
    split at h
    next ty t z e2 e3 =>
      obtain ⟨v, s, rfl, h1, h2⟩ := aSk_1 (e3 ▸ hc.2.2.1)
      obtain ⟨o1, o2⟩ := one h1
      split at h
      next q hA =>
        rw [Bool.and_eq_true] at h
        obtain ⟨xs, x1, x2, x3⟩ := aFn_ok hF hE h.2 hx0 hc o1
        rw [o2] at x1 x2 x3
        have h9 := aTy_ok hc.1 hA h1
        obtain ⟨y, rfl⟩ : ∃ y, v = .inr (.inr y) := by
          rcases v with x | x | x
          · rcases q with q | q <;> exact h9.elim
          · rcases q with q | q <;> exact h9.elim
          · exact ⟨x, rfl⟩
        cases s with
        | nil => exact jk_aret X hd (hrt) (aObt_ok h.1) hca hsl (hpo _ _ ⟨rfl, c5, c6, c7, c8, by rw [e2]; rfl, xs, x1, x2, x3⟩)
        | cons => exact h2.elim
      next => cases h
    next => cases h
  next => cases h
/-! the goals of a switch -/
theorem aRet_ok {C : aCf} (hF : ∀ (p p' : P) (r : Nat) (vs : List jv) (σ : Nat → jcell), aFre r = true → F p r vs σ → F p' r vs σ) {G : aCon} {own : String} {Ts : List Jvm.Cond} {cl : List vw_C} {rt : Option FieldType} (hE : C.2.2.2.2.2.2 = ρ0.length) (X : jX E own Ts cl tb nL ini cc M) (hrt : M.2.2.2.2.2.2.2.2.1.sig.returnType = rt) {pc : Nat} {x : jI} (hk : jok own Ts cl tb nL ini cc pc x = true) {S : aS} (h : aRet C G rt x.1 S = true) {ρ : List jv} (hx0 : aX ρ0 ρ) {lv : List (Option jv)} {st : List jv} {σ : Nat → jcell} (hc : aCx (aFq F pe) (aHp C K n JX ρ0 σ0) K n S ρ lv st σ) : jJ E cl nL M (jQ E cl M (aPo C K n JX F pe ρ0 σ0 G) 0 0) n 0 0 pc lv st σ := aRetG_ok (Nat.le_refl _) (Nat.le_refl _) hF hE X hrt hk h hx0 hc (fun _ _ h9 => h9)
theorem aTab_ok {C : aCf} {J : jN} {S : aS} {x : Nat} {r : List Nat} {ρ : List jv} {lv : List (Option jv)} {st st0 : List jv} {σ : Nat → jcell} (hc : aCx F (aHp C K n JX ρ0 σ0) K n S ρ lv st0 σ) (hs : aSk ρ r st) {y : Int32} (hy : ρ[x]? = some (.inl y)) : ∀ {ts : List Nat} {k : Int}, aNx F (aHp C K n JX ρ0 σ0) K n J ρ (aTab S x r ts k) → ∀ (i t : Nat), ts[i]? = some t → y.toInt = k + i → J t lv st σ
  | [], _, _, i, t, h1, _ => by simp at h1
  | t0 :: ts, k, h, i, t, h1, h2 => by
    have hl := aLi_ok hc.1 hy
    replace hl : aVa ρ (aLi S.2.2.1 x) y.toInt := hl
    unfold aTab at h
    cases i with
    | zero =>
      cases h1
      refine aBs_ok hc hs (fun f hf => ?_) (aNx_l h)
      rcases List.mem_cons.mp hf with rfl | hf
      · exact aHd_va.mpr ⟨_, aVa_p (aVa_k _) hl, by omega⟩
      · rw [List.mem_singleton] at hf
        subst hf
        exact aHd_va.mpr ⟨_, aVa_p (aVa_k _) (aVa_m (-1) hl), by omega⟩
    | succ i => exact aTab_ok hc hs hy (aNx_r h) i t (by simpa using h1) (by omega)
theorem aLok_ok {C : aCf} {J : jN} {S : aS} {x pc : Nat} {r : List Nat} {ρ : List jv} {lv : List (Option jv)} {st st0 : List jv} {σ : Nat → jcell} (hc : aCx F (aHp C K n JX ρ0 σ0) K n S ρ lv st0 σ) (hs : aSk ρ r st) {y : Int32} (hy : ρ[x]? = some (.inl y)) : ∀ {ps : List (Int × Int)}, aNx F (aHp C K n JX ρ0 σ0) K n J ρ (aLok S x r pc ps) → ∀ q ∈ ps, y.toInt = q.1 → J ((pc : Int) + q.2).toNat lv st σ
  | [], _, q, h1, _ => by cases h1
  | q0 :: ps, h, q, h1, h2 => by
    have hl := aLi_ok hc.1 hy
    replace hl : aVa ρ (aLi S.2.2.1 x) y.toInt := hl
    unfold aLok at h
    rcases List.mem_cons.mp h1 with rfl | h1
    · refine aBs_ok hc hs (fun f hf => ?_) (aNx_l h)
      rcases List.mem_cons.mp hf with rfl | hf
      · exact aHd_va.mpr ⟨_, aVa_p (aVa_k _) hl, by omega⟩
      · rw [List.mem_singleton] at hf
        subst hf
        exact aHd_va.mpr ⟨_, aVa_p (aVa_k _) (aVa_m (-1) hl), by omega⟩
    · exact aLok_ok hc hs hy (aNx_r h) q h1 h2
end ASZ
