/-! branches, constants, one and two values off the stack -/
section ASV
variable {K : Nat → Nat} {n : Nat} {Hp : (Nat → jcell) → Prop} {J : jN}
def aTrim (A B : Int × Int) : Int × Int := if B.1 = B.2 then (if A.1 = B.1 then A.1 + 1 else A.1, if A.2 = B.1 then A.2 - 1 else A.2) else A
def aCut (c : Jvm.ClassFile.Cond) (A B : Int × Int) : (Int × Int) × (Int × Int) := match c with
  | .eq => ((max A.1 B.1, min A.2 B.2), (max A.1 B.1, min A.2 B.2))
  | .ne => (aTrim A B, aTrim B A)
  | .lt => ((A.1, min A.2 (B.2 - 1)), (max B.1 (A.1 + 1), B.2))
  | .ge => ((max A.1 B.1, A.2), (B.1, min B.2 A.2))
  | .gt => ((max A.1 (B.1 + 1), A.2), (B.1, min B.2 (A.2 - 1)))
  | .le => ((A.1, min A.2 B.2), (max B.1 A.1, B.2))
def aNot (c : Jvm.ClassFile.Cond) : Jvm.ClassFile.Cond := match c with
  | .eq => .ne
  | .ne => .eq
  | .lt => .ge
  | .ge => .lt
  | .gt => .le
  | .le => .gt
def aHo (c : Jvm.ClassFile.Cond) (x y : Int) : Prop := match c with
  | .eq => x = y
  | .ne => ¬ x = y
  | .lt => x < y
  | .ge => y ≤ x
  | .gt => y < x
  | .le => x ≤ y
theorem aTrim_ok {A B : Int × Int} {x y : Int32} (h1 : aIn A x) (h2 : aIn B y) (h : ¬ x.toInt = y.toInt) : aIn (aTrim A B) x := by
  obtain ⟨a1, a2⟩ := h1
  obtain ⟨b1, b2⟩ := h2
  unfold aTrim
  split
  next hb =>
    refine ⟨?_, ?_⟩
    · dsimp only; split <;> omega
    · dsimp only; split <;> omega
  next => exact ⟨a1, a2⟩
theorem aCut_ok {c : Jvm.ClassFile.Cond} {A B : Int × Int} {x y : Int32} (h1 : aIn A x) (h2 : aIn B y) (h : aHo c x.toInt y.toInt) : aIn (aCut c A B).1 x ∧ aIn (aCut c A B).2 y := by
  have a := h1
  have b := h2
  obtain ⟨a1, a2⟩ := h1
  obtain ⟨b1, b2⟩ := h2
  cases c
  case ne => exact ⟨aTrim_ok a b h, aTrim_ok b a (fun q => h q.symm)⟩
  all_goals
    simp only [aHo] at h
    simp only [aCut, aIn]
    omega
theorem aBr_of {c : Jvm.ClassFile.Cond} {x y : Int32} {P Q : Prop} (h1 : aHo c x.toInt y.toInt → P) (h2 : aHo (aNot c) x.toInt y.toInt → Q) : jbr c x y P Q := by
  have e1 : ∀ a b : Int32, a < b ↔ a.toInt < b.toInt := fun a b => Int32.lt_iff_toInt_lt
  have e2 : ∀ a b : Int32, a ≤ b ↔ a.toInt ≤ b.toInt := fun a b => Int32.le_iff_toInt_le
  have e3 : ∀ a b : Int32, a = b ↔ a.toInt = b.toInt := fun a b => Int32.toInt_inj.symm
  cases c
  all_goals
    simp only [aHo, aNot] at h1 h2
    simp only [jbr, e1, e2, e3]
    exact ⟨fun h => h1 (by omega), fun h => h2 (by omega)⟩
def aNar (env : List aE) (i : Nat) (t : aT) : List aE := match env[i]? with
  | some e => env.set i (t, e.2)
  | none => env
theorem aNar_ok {env : List aE} {ρ : List jv} (h : aR K n env ρ) {i : Nat} {t : aT} {v : jv} (hv : ρ[i]? = some v) (ht : aG K n t v) : aR K n (aNar env i t) ρ := by
  unfold aNar
  split
  next e he =>
    refine ⟨by rw [List.length_set]; exact h.1, fun j e1 w h1 h2 => ?_⟩
    by_cases hji : j = i
    · subst hji
      rw [List.getElem?_set_self (List.getElem?_eq_some_iff.mp he).1] at h1
      cases h1
      rw [hv] at h2
      cases h2
      exact ⟨ht, (h.2 _ _ _ he hv).2⟩
    · rw [List.getElem?_set_ne (fun q => hji q.symm)] at h1
      exact h.2 j e1 w h1 h2
  next => exact h
def aEm (A : Int × Int) : Bool := decide (A.1 ≤ A.2)
def aBs (S : aS) (r : List Nat) (x y : Nat) (q : (Int × Int) × (Int × Int)) (p : Nat) : List (Nat × aS) := if aEm q.1 = true ∧ aEm q.2 = true then [(p, (S.1, r, aNar (aNar S.2.2.1 x (.inl q.1)) y (.inl q.2), S.2.2.2))] else []
theorem aBs_ok {S : aS} {r : List Nat} {x y : Nat} {q : (Int × Int) × (Int × Int)} {p : Nat} {ρ : List jv} {lv : List (Option jv)} {st st0 : List jv} {σ : Nat → jcell} (hc : aCx Hp K n S ρ lv st0 σ) (hs : aSk ρ r st) {x0 y0 : Int32} (h1 : ρ[x]? = some (.inl x0)) (h2 : ρ[y]? = some (.inl y0)) (hq : aIn q.1 x0 ∧ aIn q.2 y0) (h : aNx Hp K n J ρ (aBs S r x y q p)) : J p lv st σ := by
  unfold aBs at h
  rw [if_pos ⟨by have := hq.1.1; have := hq.1.2; exact decide_eq_true (by omega), by have := hq.2.1; have := hq.2.2; exact decide_eq_true (by omega)⟩] at h
  exact aNx_in h List.mem_cons_self aX_rf ⟨aNar_ok (t := .inl q.2) (aNar_ok (t := .inl q.1) hc.1 h1 hq.1) h2 hq.2, hc.2.1, hs, hc.2.2.2.1, hc.2.2.2.2⟩
def aIf2 (S : aS) (c : Jvm.ClassFile.Cond) (p1 p2 : Nat) : Option (List (Nat × aS)) := match S.2.1 with
  | y :: x :: r => (match aTy S.2.2.1 x, aTy S.2.2.1 y with
    | some (.inl A), some (.inl B) => some (aBs S r x y (aCut c A B) p1 ++ aBs S r x y (aCut (aNot c) A B) p2)
    | _, _ => none)
  | _ => none
theorem aNx_l {ρ : List jv} {L M : List (Nat × aS)} (h : aNx Hp K n J ρ (L ++ M)) : aNx Hp K n J ρ L := fun q hq => h q (List.mem_append_left _ hq)
theorem aNx_r {ρ : List jv} {L M : List (Nat × aS)} (h : aNx Hp K n J ρ (L ++ M)) : aNx Hp K n J ρ M := fun q hq => h q (List.mem_append_right _ hq)
theorem aIf2_ok {S : aS} {c : Jvm.ClassFile.Cond} {p1 p2 : Nat} {L : List (Nat × aS)} (hb : aIf2 S c p1 p2 = some L) {ρ : List jv} {lv : List (Option jv)} {st : List jv} {σ : Nat → jcell} (hc : aCx Hp K n S ρ lv st σ) (h : aNx Hp K n J ρ L) : j2 st fun x y r => jbr c x y (J p1 lv r σ) (J p2 lv r σ) := by
  unfold aIf2 at hb
  split at hb
  next y x r hs =>
    split at hb
    next A B hA hB =>
      cases hb
      obtain ⟨w, v, s, rfl, h1, h2, h3⟩ := aSk_2 (hs ▸ hc.2.2.1)
      obtain ⟨x0, rfl, hx⟩ := aG_int (aTy_ok hc.1 hA h2)
      obtain ⟨y0, rfl, hy⟩ := aG_int (aTy_ok hc.1 hB h1)
      exact aBr_of (fun q => aBs_ok hc h3 h2 h1 (aCut_ok hx hy q) (aNx_l h)) (fun q => aBs_ok hc h3 h2 h1 (aCut_ok hx hy q) (aNx_r h))
    next => cases hb
  next => cases hb
def aB1 (S : aS) (r : List Nat) (x : Nat) (q : Int × Int) (p : Nat) : List (Nat × aS) := if aEm q = true then [(p, (S.1, r, aNar S.2.2.1 x (.inl q), S.2.2.2))] else []
theorem aB1_ok {S : aS} {r : List Nat} {x : Nat} {q : Int × Int} {p : Nat} {ρ : List jv} {lv : List (Option jv)} {st st0 : List jv} {σ : Nat → jcell} (hc : aCx Hp K n S ρ lv st0 σ) (hs : aSk ρ r st) {x0 : Int32} (h1 : ρ[x]? = some (.inl x0)) (hq : aIn q x0) (h : aNx Hp K n J ρ (aB1 S r x q p)) : J p lv st σ := by
  unfold aB1 at h
  rw [if_pos (by have := hq.1; have := hq.2; exact decide_eq_true (by omega))] at h
  exact aNx_in h List.mem_cons_self aX_rf ⟨aNar_ok (t := .inl q) hc.1 h1 hq, hc.2.1, hs, hc.2.2.2.1, hc.2.2.2.2⟩
def aIf1 (S : aS) (c : Jvm.ClassFile.Cond) (p1 p2 : Nat) : Option (List (Nat × aS)) := match S.2.1 with
  | x :: r => (match aTy S.2.2.1 x with
    | some (.inl A) => some (aB1 S r x (aCut c A (0, 0)).1 p1 ++ aB1 S r x (aCut (aNot c) A (0, 0)).1 p2)
    | _ => none)
  | _ => none
theorem aIf1_ok {S : aS} {c : Jvm.ClassFile.Cond} {p1 p2 : Nat} {L : List (Nat × aS)} (hb : aIf1 S c p1 p2 = some L) {ρ : List jv} {lv : List (Option jv)} {st : List jv} {σ : Nat → jcell} (hc : aCx Hp K n S ρ lv st σ) (h : aNx Hp K n J ρ L) : j1 st fun x r => jbr c x 0 (J p1 lv r σ) (J p2 lv r σ) := by
  unfold aIf1 at hb
  split at hb
  next x r hs =>
    split at hb
    next A hA =>
      cases hb
      obtain ⟨v, s, rfl, h1, h3⟩ := aSk_1 (hs ▸ hc.2.2.1)
      obtain ⟨x0, rfl, hx⟩ := aG_int (aTy_ok hc.1 hA h1)
      have h0 : aIn (0, 0) (0 : Int32) := ⟨by decide, by decide⟩
      exact aBr_of (fun q => aB1_ok hc h3 h1 (aCut_ok hx h0 q).1 (aNx_l h)) (fun q => aB1_ok hc h3 h1 (aCut_ok hx h0 q).1 (aNx_r h))
    next => cases hb
  next => cases hb
/-- a test for null: w says whether the jump is taken at null -/
def aIfn (S : aS) (p1 p2 : Nat) : Option (List (Nat × aS)) := match S.2.1 with
  | x :: r => (match aTy S.2.2.1 x with
    | some (.inr (some (.inl q))) => some ((if q.1 = true then [(p1, (S.1, r, S.2.2.1, S.2.2.2))] else []) ++ [(p2, (S.1, r, aNar S.2.2.1 x (.inr (some (.inl (false, q.2)))), S.2.2.2))])
    | _ => none)
  | _ => none
theorem aIfn_ok {S : aS} {p1 p2 : Nat} {L : List (Nat × aS)} (hb : aIfn S p1 p2 = some L) {ρ : List jv} {lv : List (Option jv)} {st : List jv} {σ : Nat → jcell} (hc : aCx Hp K n S ρ lv st σ) (h : aNx Hp K n J ρ L) : ja1 st fun a r => (a = none → J p1 lv r σ) ∧ (¬ a = none → J p2 lv r σ) := by
  unfold aIfn at hb
  split at hb
  next x r hs =>
    split at hb
    next q hA =>
      cases hb
      obtain ⟨v, s, rfl, h1, h3⟩ := aSk_1 (hs ▸ hc.2.2.1)
      rcases aG_ref (aTy_ok hc.1 hA h1) with ⟨e, rfl⟩ | ⟨a, rfl, ha⟩
      · rw [if_pos e] at h
        exact ⟨fun _ => aNx_in (aNx_l h) List.mem_cons_self aX_rf ⟨hc.1, hc.2.1, h3, hc.2.2.2.1, hc.2.2.2.2⟩, fun q => absurd rfl q⟩
      · exact ⟨fun e => (by cases e), fun _ => aNx_in (aNx_r h) List.mem_cons_self aX_rf ⟨aNar_ok (t := .inr (some (.inl (false, q.2)))) hc.1 h1 ha, hc.2.1, h3, hc.2.2.2.1, hc.2.2.2.2⟩⟩
    next => cases hb
  next => cases hb
/-! one value off the stack, one on it -/
def aUn (tf : Int × Int → aT) (S : aS) (p : Nat) : Option (List (Nat × aS)) := match S.2.1 with
  | x :: r => (match aTy S.2.2.1 x with
    | some (.inl A) => some [(p, aPu S r (tf A) none)]
    | _ => none)
  | _ => none
theorem aUn_ok {tf : Int × Int → aT} {g : Int32 → jv} (hg : ∀ {A : Int × Int} {x : Int32}, aIn A x → aG K n (tf A) (g x)) {S : aS} {p : Nat} {L : List (Nat × aS)} (hb : aUn tf S p = some L) {ρ : List jv} {lv : List (Option jv)} {st : List jv} {σ : Nat → jcell} (hc : aCx Hp K n S ρ lv st σ) (h : aNx Hp K n J ρ L) : j1 st fun x r => J p lv (g x :: r) σ := by
  unfold aUn at hb
  split at hb
  next x r hs =>
    split at hb
    next A hA =>
      cases hb
      obtain ⟨v, s, rfl, h1, h3⟩ := aSk_1 (hs ▸ hc.2.2.1)
      obtain ⟨x0, rfl, hx⟩ := aG_int (aTy_ok hc.1 hA h1)
      exact aPu_ok (r := none) hc h3 (hg hx) trivial h
    next => cases hb
  next => cases hb
def aUl (t : aT) (S : aS) (p : Nat) : Option (List (Nat × aS)) := match S.2.1 with
  | x :: r => (match aTy S.2.2.1 x with
    | some (.inr none) => some [(p, aPu S r t none)]
    | _ => none)
  | _ => none
theorem aUl_ok {t : aT} {g : Int64 → jv} (hg : ∀ x : Int64, aG K n t (g x)) {S : aS} {p : Nat} {L : List (Nat × aS)} (hb : aUl t S p = some L) {ρ : List jv} {lv : List (Option jv)} {st : List jv} {σ : Nat → jcell} (hc : aCx Hp K n S ρ lv st σ) (h : aNx Hp K n J ρ L) : jl1 st fun x r => J p lv (g x :: r) σ := by
  unfold aUl at hb
  split at hb
  next x r hs =>
    split at hb
    next hA =>
      cases hb
      obtain ⟨v, s, rfl, h1, h3⟩ := aSk_1 (hs ▸ hc.2.2.1)
      obtain ⟨x0, rfl⟩ := aG_lng (aTy_ok hc.1 hA h1)
      exact aPu_ok (r := none) hc h3 (hg x0) trivial h
    next => cases hb
  next => cases hb
def aBl (t : aT) (S : aS) (p : Nat) : Option (List (Nat × aS)) := match S.2.1 with
  | y :: x :: r => (match aTy S.2.2.1 x, aTy S.2.2.1 y with
    | some (.inr none), some (.inr none) => some [(p, aPu S r t none)]
    | _, _ => none)
  | _ => none
theorem aBl_ok {t : aT} {g : Int64 → Int64 → jv} (hg : ∀ x y : Int64, aG K n t (g x y)) {S : aS} {p : Nat} {L : List (Nat × aS)} (hb : aBl t S p = some L) {ρ : List jv} {lv : List (Option jv)} {st : List jv} {σ : Nat → jcell} (hc : aCx Hp K n S ρ lv st σ) (h : aNx Hp K n J ρ L) : jl2 st fun x y r => J p lv (g x y :: r) σ := by
  unfold aBl at hb
  split at hb
  next y x r hs =>
    split at hb
    next hA hB =>
      cases hb
      obtain ⟨w, v, s, rfl, h1, h2, h3⟩ := aSk_2 (hs ▸ hc.2.2.1)
      obtain ⟨x0, rfl⟩ := aG_lng (aTy_ok hc.1 hA h2)
      obtain ⟨y0, rfl⟩ := aG_lng (aTy_ok hc.1 hB h1)
      exact aPu_ok (r := none) hc h3 (hg x0 y0) trivial h
    next => cases hb
  next => cases hb
def aBi (S : aS) (p : Nat) : Option (List (Nat × aS)) := match S.2.1 with
  | y :: x :: r => (match aTy S.2.2.1 x, aTy S.2.2.1 y with
    | some (.inr none), some (.inl _) => some [(p, aPu S r (.inr none) none)]
    | _, _ => none)
  | _ => none
theorem aBi_ok {g : Int64 → Int32 → Int64} {S : aS} {p : Nat} {L : List (Nat × aS)} (hb : aBi S p = some L) {ρ : List jv} {lv : List (Option jv)} {st : List jv} {σ : Nat → jcell} (hc : aCx Hp K n S ρ lv st σ) (h : aNx Hp K n J ρ L) : jli st fun x y r => J p lv (.inr (.inl (g x y)) :: r) σ := by
  unfold aBi at hb
  split at hb
  next y x r hs =>
    split at hb
    next hA hB =>
      cases hb
      obtain ⟨w, v, s, rfl, h1, h2, h3⟩ := aSk_2 (hs ▸ hc.2.2.1)
      obtain ⟨x0, rfl⟩ := aG_lng (aTy_ok hc.1 hA h2)
      obtain ⟨y0, rfl, -⟩ := aG_int (aTy_ok hc.1 hB h1)
      exact aPu_ok (t := .inr none) (r := none) (v := .inr (.inl (g x0 y0))) hc h3 trivial trivial h
    next => cases hb
  next => cases hb
/-- a quotient or a rest: what is divided by is not zero -/
def aNz (S : aS) : Bool := match S.2.1 with
  | y :: _ => (match aTy S.2.2.1 y with
    | some (.inl B) => decide (1 ≤ B.1) || decide (B.2 ≤ -1)
    | _ => false)
  | _ => false
theorem aNz_ok {S : aS} (hz : aNz S = true) {ρ : List jv} {lv : List (Option jv)} {st : List jv} {σ : Nat → jcell} (hc : aCx Hp K n S ρ lv st σ) {P : Int32 → Int32 → List jv → Prop} (h : j2 st P) : j2 st fun x y r => ¬ y = 0 ∧ P x y r := by
  unfold aNz at hz
  split at hz
  next y r hs =>
    split at hz
    next B hB =>
      obtain ⟨w, s, rfl, h1, h3⟩ := aSk_1 (hs ▸ hc.2.2.1)
      obtain ⟨y0, rfl, hy⟩ := aG_int (aTy_ok hc.1 hB h1)
      simp only [Bool.or_eq_true, decide_eq_true_eq] at hz
      have hn : ¬ y0 = 0 := by
        intro q
        subst q
        obtain ⟨h4, h5⟩ := hy
        have h6 : (0 : Int32).toInt = 0 := by decide
        omega
      unfold j2 at h ⊢
      split at h
      next heq =>
        cases heq
        exact ⟨hn, h⟩
      next => exact h.elim
    next => cases hz
  next => cases hz
/-! the stack turned -/
def aC1 (env : List aE) (i : Nat) : Bool := match aTy env i with
  | some (.inl _) => true
  | some (.inr (some _)) => true
  | _ => false
theorem aC1_ok {env : List aE} {ρ : List jv} (h : aR K n env ρ) {i : Nat} (hc : aC1 env i = true) {v : jv} (hv : ρ[i]? = some v) : jcat v = 1 := by
  unfold aC1 at hc
  split at hc
  next q hq => obtain ⟨x, rfl, -⟩ := aG_int (aTy_ok h hq hv); rfl
  next q hq =>
    have h9 := aTy_ok h hq hv
    rcases v with x | x | x
    · rfl
    · rcases q with q | q <;> exact h9.elim
    · rfl
  next => cases hc
def aDup (S : aS) (w p : Nat) : Option (List (Nat × aS)) := match w, S.2.1 with
  | 0, x :: r => if aC1 S.2.2.1 x = true then some [(p, (S.1, x :: x :: r, S.2.2.1, S.2.2.2))] else none
  | 1, x :: r => if aC1 S.2.2.1 x = true then some [(p, (S.1, r, S.2.2.1, S.2.2.2))] else none
  | 2, x :: y :: r => if aC1 S.2.2.1 x = true ∧ aC1 S.2.2.1 y = true then some [(p, (S.1, x :: y :: x :: r, S.2.2.1, S.2.2.2))] else none
  | 3, x :: y :: z :: r => if aC1 S.2.2.1 x = true ∧ aC1 S.2.2.1 y = true ∧ aC1 S.2.2.1 z = true then some [(p, (S.1, x :: y :: z :: x :: r, S.2.2.1, S.2.2.2))] else none
  | 4, x :: y :: r => if aC1 S.2.2.1 x = true ∧ aC1 S.2.2.1 y = true then some [(p, (S.1, x :: y :: x :: y :: r, S.2.2.1, S.2.2.2))] else none
  | _, _ => none
theorem aDup0_ok {S : aS} {p : Nat} {L : List (Nat × aS)} (hb : aDup S 0 p = some L) {ρ : List jv} {lv : List (Option jv)} {st : List jv} {σ : Nat → jcell} (hc : aCx Hp K n S ρ lv st σ) (h : aNx Hp K n J ρ L) : jdup st fun v r => J p lv (v :: v :: r) σ := by
  obtain ⟨al, sk, env, ca⟩ := S
  rcases sk with _ | ⟨x, r⟩
  · cases hb
  · obtain ⟨v, s, rfl, h1, h3⟩ := aSk_1 hc.2.2.1
    simp only [aDup] at hb
    split at hb
    next hq =>
      cases hb
      exact ⟨aC1_ok hc.1 hq h1, aNx_in h List.mem_cons_self aX_rf ⟨hc.1, hc.2.1, ⟨h1, h1, h3⟩, hc.2.2.2.1, hc.2.2.2.2⟩⟩
    next => cases hb
theorem aDup1_ok {S : aS} {p : Nat} {L : List (Nat × aS)} (hb : aDup S 1 p = some L) {ρ : List jv} {lv : List (Option jv)} {st : List jv} {σ : Nat → jcell} (hc : aCx Hp K n S ρ lv st σ) (h : aNx Hp K n J ρ L) : jdup st fun _ r => J p lv r σ := by
  obtain ⟨al, sk, env, ca⟩ := S
  rcases sk with _ | ⟨x, r⟩
  · cases hb
  · obtain ⟨v, s, rfl, h1, h3⟩ := aSk_1 hc.2.2.1
    simp only [aDup] at hb
    split at hb
    next hq =>
      cases hb
      exact ⟨aC1_ok hc.1 hq h1, aNx_in h List.mem_cons_self aX_rf ⟨hc.1, hc.2.1, h3, hc.2.2.2.1, hc.2.2.2.2⟩⟩
    next => cases hb
theorem aDup2_ok {S : aS} {p : Nat} {L : List (Nat × aS)} (hb : aDup S 2 p = some L) {ρ : List jv} {lv : List (Option jv)} {st : List jv} {σ : Nat → jcell} (hc : aCx Hp K n S ρ lv st σ) (h : aNx Hp K n J ρ L) : jdupx st fun v w r => J p lv (v :: w :: v :: r) σ := by
  obtain ⟨al, sk, env, ca⟩ := S
  rcases sk with _ | ⟨x, _ | ⟨y, r⟩⟩
  · cases hb
  · cases hb
  · obtain ⟨v, w, s, rfl, h1, h2, h3⟩ := aSk_2 hc.2.2.1
    simp only [aDup] at hb
    split at hb
    next hq =>
      cases hb
      exact ⟨aC1_ok hc.1 hq.1 h1, aC1_ok hc.1 hq.2 h2, aNx_in h List.mem_cons_self aX_rf ⟨hc.1, hc.2.1, ⟨h1, h2, h1, h3⟩, hc.2.2.2.1, hc.2.2.2.2⟩⟩
    next => cases hb
theorem aDup3_ok {S : aS} {p : Nat} {L : List (Nat × aS)} (hb : aDup S 3 p = some L) {ρ : List jv} {lv : List (Option jv)} {st : List jv} {σ : Nat → jcell} (hc : aCx Hp K n S ρ lv st σ) (h : aNx Hp K n J ρ L) : jdupx2 st fun v w z r => J p lv (v :: w :: z :: v :: r) σ := by
  obtain ⟨al, sk, env, ca⟩ := S
  rcases sk with _ | ⟨x, _ | ⟨y, _ | ⟨z, r⟩⟩⟩
  · cases hb
  · cases hb
  · cases hb
  · obtain ⟨v, w, s, rfl, h1, h2, h3⟩ := aSk_2 hc.2.2.1
    obtain ⟨u, s, rfl, h4, h5⟩ := aSk_1 h3
    simp only [aDup] at hb
    split at hb
    next hq =>
      cases hb
      exact ⟨aC1_ok hc.1 hq.1 h1, aC1_ok hc.1 hq.2.1 h2, aC1_ok hc.1 hq.2.2 h4, aNx_in h List.mem_cons_self aX_rf ⟨hc.1, hc.2.1, ⟨h1, h2, h4, h1, h5⟩, hc.2.2.2.1, hc.2.2.2.2⟩⟩
    next => cases hb
theorem aDup4_ok {S : aS} {p : Nat} {L : List (Nat × aS)} (hb : aDup S 4 p = some L) {ρ : List jv} {lv : List (Option jv)} {st : List jv} {σ : Nat → jcell} (hc : aCx Hp K n S ρ lv st σ) (h : aNx Hp K n J ρ L) : jdup2 st fun r => J p lv r σ := by
  obtain ⟨al, sk, env, ca⟩ := S
  rcases sk with _ | ⟨x, _ | ⟨y, r⟩⟩
  · cases hb
  · cases hb
  · obtain ⟨v, w, s, rfl, h1, h2, h3⟩ := aSk_2 hc.2.2.1
    simp only [aDup] at hb
    split at hb
    next hq =>
      cases hb
      have c1 := aC1_ok hc.1 hq.1 h1
      have hj := aNx_in (st := v :: w :: v :: w :: s) h List.mem_cons_self aX_rf ⟨hc.1, hc.2.1, ⟨h1, h2, h1, h2, h3⟩, hc.2.2.2.1, hc.2.2.2.2⟩
      rcases v with x0 | x0 | x0
      · exact ⟨c1, aC1_ok hc.1 hq.2 h2, hj⟩
      · cases c1
      · exact ⟨c1, aC1_ok hc.1 hq.2 h2, hj⟩
    next => cases hb
end ASV
