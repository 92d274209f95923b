/-! branches, one and two values off the stack -/
section ASV
variable {K : Nat → Nat} {n : Nat} {P : Type} {F : aFt P} {Hp : (Nat → jcell) → Prop} {J : jN}
def aNot (c : Jvm.ClassFile.Cond) : Jvm.ClassFile.Cond := match c with
  | .eq => .ne
  | .ne => .eq
  | .lt => .ge
  | .ge => .lt
  | .gt => .le
  | .le => .gt
def aHo (c : Jvm.ClassFile.Cond) (x y : Int) : Prop := match c with
  | .eq => x = y
  | .ne => ¬ x = y
  | .lt => x < y
  | .ge => y ≤ x
  | .gt => y < x
  | .le => x ≤ y
theorem aBr_of {c : Jvm.ClassFile.Cond} {x y : Int32} {P Q : Prop} (h1 : aHo c x.toInt y.toInt → P) (h2 : aHo (aNot c) x.toInt y.toInt → Q) : jbr c x y P Q := by
  have e1 : ∀ a b : Int32, a < b ↔ a.toInt < b.toInt := fun a b => Int32.lt_iff_toInt_lt
  have e2 : ∀ a b : Int32, a ≤ b ↔ a.toInt ≤ b.toInt := fun a b => Int32.le_iff_toInt_le
  have e3 : ∀ a b : Int32, a = b ↔ a.toInt = b.toInt := fun a b => Int32.toInt_inj.symm
  cases c
  all_goals
    simp only [aHo, aNot] at h1 h2
    simp only [jbr, e1, e2, e3]
    exact ⟨fun h => h1 (by omega), fun h => h2 (by omega)⟩
def aNar (env : List aE) (i : Nat) (t : aT) : List aE := match env[i]? with
  | some e => env.set i (t, e.2)
  | none => env
theorem aNar_ok {env : List aE} {ρ : List jv} (h : aR K n env ρ) {i : Nat} {t : aT} (ht : ∀ v, ρ[i]? = some v → aG K n t v) : aR K n (aNar env i t) ρ := by
  unfold aNar
  split
  next e he =>
    refine ⟨by rw [List.length_set]; exact h.1, fun j e1 w h1 h2 => ?_⟩
    by_cases hji : j = i
    · subst hji
      rw [List.getElem?_set_self (List.getElem?_eq_some_iff.mp he).1] at h1
      cases h1
      exact ⟨ht w h2, (h.2 _ _ _ he h2).2⟩
    · rw [List.getElem?_set_ne (fun q => hji q.symm)] at h1
      exact h.2 j e1 w h1 h2
  next => exact h
/-- c * x + r is not below zero, and r is at most u -/
def aTg1 (c u : Int) (A : Int × Int) : Int × Int := if 0 < c then (max A.1 (-(u / c)), A.2) else if c < 0 then (A.1, min A.2 (u / (-c))) else A
theorem aTg1_ok {c u : Int} {A : Int × Int} {x : Int32} (hx : aIn A x) (h : 0 ≤ c * x.toInt + u) : aIn (aTg1 c u A) x := by
  unfold aTg1
  obtain ⟨h1, h2⟩ := hx
  split
  next hc =>
    refine ⟨?_, h2⟩
    have : -(u / c) ≤ x.toInt := by
      have q1 : -x.toInt ≤ u / c := by
        rw [Int.le_ediv_iff_mul_le hc, Int.neg_mul, Int.mul_comm]
        omega
      omega
    dsimp only
    omega
  next =>
    split
    next hc =>
      refine ⟨h1, ?_⟩
      have : x.toInt ≤ u / (-c) := by
        rw [Int.le_ediv_iff_mul_le (by omega), Int.mul_neg, Int.mul_comm]
        omega
      dsimp only
      omega
    next => exact ⟨h1, h2⟩
def aTg (f : aF) : List (Nat × Int) → List aE → List aE
  | [], env => env
  | q :: r, env => aTg f r (match env[q.1]? with
    | some (.inl A, _) => (match aLb env (aSq (-1) (aFi (q.1, -q.2) f.1)) with
      | some s => aNar env q.1 (.inl (aTg1 q.2 (f.2 - s) A))
      | none => env)
    | _ => env)
theorem aTg_ok {ρ : List jv} {f : aF} (hf : aHd ρ f) : ∀ {L : List (Nat × Int)} {env : List aE}, aR K n env ρ → aR K n (aTg f L env) ρ
  | [], env, h => h
  | q :: r, env, h => by
    unfold aTg
    refine aTg_ok hf ?_
    split
    next A o he =>
      split
      next s hs =>
        refine aNar_ok h (fun v hv => ?_)
        obtain ⟨x, rfl, hx⟩ := aG_int (h.2 _ _ _ he hv).1
        obtain ⟨z, z1, z2⟩ := hf
        have e1 := aLb_ok h hs (aSq_ok (c := -1) (aFi_ok (q := (q.1, -q.2)) hv z1))
        refine aTg1_ok hx ?_
        replace e1 : s ≤ -1 * (-q.2 * x.toInt + z) := e1
        have e2 : -q.2 * x.toInt = -(q.2 * x.toInt) := Int.neg_mul _ _
        rw [e2] at e1
        omega
      next => exact h
    next => exact h
def aNe1 (env : List aE) (i : Nat) : Bool := match env[i]? with
  | some (.inl A, _) => decide (A.1 ≤ A.2)
  | _ => true
def aKeepC (env : List aE) (f : aF) (cs : List aF) : List aF := match f.1 with
  | [] => cs
  | [q] => (match aLo env q.1 with
    | some _ => cs
    | none => f :: cs)
  | _ => f :: cs
def aAsm (env : List aE) (cs : List aF) (f : aF) : Option (List aE × List aF) := if aPr env cs 1 (aFp ([], -1) (aFm (-1) f)) = true then none else (if f.1.all (fun q => aNe1 (aTg f f.1 env) q.1) = true then some (aTg f f.1 env, aKeepC env f cs) else none)
theorem aAsm_ok {env : List aE} {ρ : List jv} (h : aR K n env ρ) {cs : List aF} (hc : ∀ f ∈ cs, aHd ρ f) {f : aF} (hf : aHd ρ f) : ∃ q, aAsm env cs f = some q ∧ aR K n q.1 ρ ∧ ∀ f ∈ q.2, aHd ρ f := by
  obtain ⟨x, x1, x2⟩ := aHd_va.mp hf
  have h9 := aTg_ok hf (L := f.1) h
  unfold aAsm
  rw [if_neg (fun q => by
    have := aPr_ok h hc q (aVa_p (aVa_k (-1)) (aVa_m (-1) x1))
    omega)]
  rw [if_pos (List.all_eq_true.mpr (fun q hq => by
    unfold aNe1
    split
    next A o he =>
      have hl := (List.getElem?_eq_some_iff.mp he).1
      rw [← h9.1] at hl
      obtain ⟨y, -, hy⟩ := aG_int (h9.2 _ _ _ he (List.getElem?_eq_getElem hl)).1
      have := hy.1
      have := hy.2
      exact decide_eq_true (by omega)
    next => rfl))]
  refine ⟨_, rfl, h9, fun g hg => ?_⟩
  unfold aKeepC at hg
  have hx : ∀ g ∈ f :: cs, aHd ρ g := fun g hg => by
    rcases List.mem_cons.mp hg with rfl | hg
    · exact hf
    · exact hc g hg
  dsimp only at hg
  split at hg
  · exact hc g hg
  · split at hg
    · exact hc g hg
    · exact hx g hg
  · exact hx g hg
def aAsL (env : List aE) (cs : List aF) : List aF → Option (List aE × List aF)
  | [] => some (env, cs)
  | f :: r => match aAsm env cs f with
    | some q => aAsL q.1 q.2 r
    | none => none
theorem aAsL_ok {ρ : List jv} : ∀ {fs : List aF} {env : List aE} {cs : List aF}, aR K n env ρ → (∀ f ∈ cs, aHd ρ f) → (∀ f ∈ fs, aHd ρ f) → ∃ q, aAsL env cs fs = some q ∧ aR K n q.1 ρ ∧ ∀ f ∈ q.2, aHd ρ f
  | [], env, cs, h, hc, _ => ⟨(env, cs), rfl, h, hc⟩
  | f :: r, env, cs, h, hc, hf => by
    obtain ⟨q, q1, q2, q3⟩ := aAsm_ok h hc (hf f List.mem_cons_self)
    unfold aAsL
    rw [q1]
    exact aAsL_ok q2 q3 (fun g hg => hf g (List.mem_cons_of_mem _ hg))
def aBs (S : aS) (r : List Nat) (fs : List aF) (p : Nat) : List (Nat × aS) := match aAsL S.2.2.1 S.2.2.2.2.2.1 fs with
  | some q => [(p, (S.1, r, q.1, (S.2.2.2.1, S.2.2.2.2.1, q.2, S.2.2.2.2.2.2)))]
  | none => []
theorem aBs_ok {S : aS} {r : List Nat} {fs : List aF} {p : Nat} {ρ : List jv} {lv : List (Option jv)} {st st0 : List jv} {σ : Nat → jcell} (hc : aCx F Hp K n S ρ lv st0 σ) (hs : aSk ρ r st) (hf : ∀ f ∈ fs, aHd ρ f) (h : aNx F Hp K n J ρ (aBs S r fs p)) : J p lv st σ := by
  obtain ⟨c1, c2, c3, ⟨p9, m1, m2, m3, m4⟩, c5⟩ := hc
  obtain ⟨q, q1, q2, q3⟩ := aAsL_ok c1 m3 hf
  unfold aBs at h
  rw [q1] at h
  exact aNx_in h List.mem_cons_self aX_rf ⟨q2, c2, hs, ⟨p9, m1, m2, q3, m4⟩, c5⟩
def aCd (env : List aE) (cs : List aF) (c : Jvm.ClassFile.Cond) (D : aF) : List aF := match c with
  | .eq => [D, aFm (-1) D]
  | .ne => if aPr env cs 1 D = true then [aFp ([], -1) D] else if aPr env cs 1 (aFm (-1) D) = true then [aFp ([], -1) (aFm (-1) D)] else []
  | .lt => [aFp ([], -1) (aFm (-1) D)]
  | .ge => [D]
  | .gt => [aFp ([], -1) D]
  | .le => [aFm (-1) D]
theorem aCd_ok {env : List aE} {ρ : List jv} (h : aR K n env ρ) {cs : List aF} (hc : ∀ f ∈ cs, aHd ρ f) {c : Jvm.ClassFile.Cond} {D : aF} {x y : Int} (hD : aVa ρ D (x - y)) (ho : aHo c x y) : ∀ f ∈ aCd env cs c D, aHd ρ f := by
  have hN := aVa_m (-1) hD
  have hD1 := aVa_p (aVa_k (-1)) hD
  have hN1 := aVa_p (aVa_k (-1)) hN
  have key : ∀ {g f : aF} {z : Int}, aVa ρ g z → 0 ≤ z → f ∈ [g] → aHd ρ f := fun h1 h2 h3 => by
    rw [List.mem_singleton] at h3
    subst h3
    exact aHd_va.mpr ⟨_, h1, h2⟩
  intro f hf
  cases c
  case eq =>
    simp only [aHo] at ho
    rcases List.mem_cons.mp hf with rfl | hf
    · exact aHd_va.mpr ⟨_, hD, by omega⟩
    · exact key hN (by omega) hf
  case ne =>
    simp only [aHo] at ho
    unfold aCd at hf
    dsimp only at hf
    split at hf
    next hp =>
      have := aPr_ok h hc hp hD
      exact key hD1 (by omega) hf
    next =>
      split at hf
      next hp =>
        have := aPr_ok h hc hp hN
        exact key hN1 (by omega) hf
      next => cases hf
  case lt => simp only [aHo] at ho; exact key hN1 (by omega) hf
  case ge => simp only [aHo] at ho; exact key hD (by omega) hf
  case gt => simp only [aHo] at ho; exact key hD1 (by omega) hf
  case le => simp only [aHo] at ho; exact key hN (by omega) hf
theorem aNx_l {ρ : List jv} {L M : List (Nat × aS)} (h : aNx F Hp K n J ρ (L ++ M)) : aNx F Hp K n J ρ L := fun q hq => h q (List.mem_append_left _ hq)
theorem aNx_r {ρ : List jv} {L M : List (Nat × aS)} (h : aNx F Hp K n J ρ (L ++ M)) : aNx F Hp K n J ρ M := fun q hq => h q (List.mem_append_right _ hq)
def aIf2 (S : aS) (c : Jvm.ClassFile.Cond) (p1 p2 : Nat) : Option (List (Nat × aS)) := match S.2.1 with
  | y :: x :: r => (match aTy S.2.2.1 x, aTy S.2.2.1 y with
    | some (.inl _), some (.inl _) => some (aBs S r (aCd S.2.2.1 S.2.2.2.2.2.1 c (aFp (aLi S.2.2.1 x) (aFm (-1) (aLi S.2.2.1 y)))) p1 ++ aBs S r (aCd S.2.2.1 S.2.2.2.2.2.1 (aNot c) (aFp (aLi S.2.2.1 x) (aFm (-1) (aLi S.2.2.1 y)))) p2)
    | _, _ => none)
  | _ => none
theorem aIf2_ok {S : aS} {c : Jvm.ClassFile.Cond} {p1 p2 : Nat} {L : List (Nat × aS)} (hb : aIf2 S c p1 p2 = some L) {ρ : List jv} {lv : List (Option jv)} {st : List jv} {σ : Nat → jcell} (hc : aCx F Hp K n S ρ lv st σ) (h : aNx F Hp K n J ρ L) : j2 st fun x y r => jbr c x y (J p1 lv r σ) (J p2 lv r σ) := by
  unfold aIf2 at hb
  split at hb
  next y x r hs =>
    split at hb
    next A B hA hB =>
      cases hb
      obtain ⟨w, v, s, rfl, h1, h2, h3⟩ := aSk_2 (hs ▸ hc.2.2.1)
      obtain ⟨x0, rfl, hx⟩ := aG_int (aTy_ok hc.1 hA h2)
      obtain ⟨y0, rfl, hy⟩ := aG_int (aTy_ok hc.1 hB h1)
      have hD : aVa ρ (aFp (aLi S.2.2.1 x) (aFm (-1) (aLi S.2.2.1 y))) (x0.toInt - y0.toInt) := by
        have := aVa_p (aLi_ok hc.1 h2) (aVa_m (-1) (aLi_ok hc.1 h1))
        rwa [show aI (.inl x0) + -1 * aI (.inl y0) = x0.toInt - y0.toInt by simp only [aI]; omega] at this
      obtain ⟨p9, m1, m2, m3, m4⟩ := hc.2.2.2.1
      exact aBr_of (fun q => aBs_ok hc h3 (aCd_ok hc.1 m3 hD q) (aNx_l h)) (fun q => aBs_ok hc h3 (aCd_ok hc.1 m3 hD q) (aNx_r h))
    next => cases hb
  next => cases hb
def aIf1 (S : aS) (c : Jvm.ClassFile.Cond) (p1 p2 : Nat) : Option (List (Nat × aS)) := match S.2.1 with
  | x :: r => (match aTy S.2.2.1 x with
    | some (.inl _) => some (aBs S r (aCd S.2.2.1 S.2.2.2.2.2.1 c (aLi S.2.2.1 x)) p1 ++ aBs S r (aCd S.2.2.1 S.2.2.2.2.2.1 (aNot c) (aLi S.2.2.1 x)) p2)
    | _ => none)
  | _ => none
theorem aIf1_ok {S : aS} {c : Jvm.ClassFile.Cond} {p1 p2 : Nat} {L : List (Nat × aS)} (hb : aIf1 S c p1 p2 = some L) {ρ : List jv} {lv : List (Option jv)} {st : List jv} {σ : Nat → jcell} (hc : aCx F Hp K n S ρ lv st σ) (h : aNx F Hp K n J ρ L) : j1 st fun x r => jbr c x 0 (J p1 lv r σ) (J p2 lv r σ) := by
  unfold aIf1 at hb
  split at hb
  next x r hs =>
    split at hb
    next A hA =>
      cases hb
      obtain ⟨v, s, rfl, h1, h3⟩ := aSk_1 (hs ▸ hc.2.2.1)
      obtain ⟨x0, rfl, hx⟩ := aG_int (aTy_ok hc.1 hA h1)
      have h0 : (0 : Int32).toInt = 0 := by decide
      have e0 : aI (.inl x0) = x0.toInt - (0 : Int32).toInt := by
        show x0.toInt = _
        omega
      have hD := aLi_ok hc.1 h1
      rw [e0] at hD
      obtain ⟨p9, m1, m2, m3, m4⟩ := hc.2.2.2.1
      exact aBr_of (fun q => aBs_ok hc h3 (aCd_ok hc.1 m3 hD q) (aNx_l h)) (fun q => aBs_ok hc h3 (aCd_ok hc.1 m3 hD q) (aNx_r h))
    next => cases hb
  next => cases hb
/-- a test for null: p1 at null -/
def aIfn (S : aS) (p1 p2 : Nat) : Option (List (Nat × aS)) := match S.2.1 with
  | x :: r => (match aTy S.2.2.1 x with
    | some (.inr (some (.inl q))) => some ((if q.1 = true then [(p1, (S.1, r, S.2.2.1, S.2.2.2))] else []) ++ [(p2, (S.1, r, aNar S.2.2.1 x (.inr (some (.inl (false, q.2)))), S.2.2.2))])
    | _ => none)
  | _ => none
theorem aIfn_ok {S : aS} {p1 p2 : Nat} {L : List (Nat × aS)} (hb : aIfn S p1 p2 = some L) {ρ : List jv} {lv : List (Option jv)} {st : List jv} {σ : Nat → jcell} (hc : aCx F Hp K n S ρ lv st σ) (h : aNx F Hp K n J ρ L) : ja1 st fun a r => (a = none → J p1 lv r σ) ∧ (¬ a = none → J p2 lv r σ) := by
  unfold aIfn at hb
  split at hb
  next x r hs =>
    split at hb
    next q hA =>
      cases hb
      obtain ⟨v, s, rfl, h1, h3⟩ := aSk_1 (hs ▸ hc.2.2.1)
      rcases aG_ref (aTy_ok hc.1 hA h1) with ⟨e, rfl⟩ | ⟨a, rfl, ha⟩
      · rw [if_pos e] at h
        exact ⟨fun _ => aNx_in (aNx_l h) List.mem_cons_self aX_rf ⟨hc.1, hc.2.1, h3, hc.2.2.2.1, hc.2.2.2.2⟩, fun q => absurd rfl q⟩
      · refine ⟨fun e => (by cases e), fun _ => aNx_in (aNx_r h) List.mem_cons_self aX_rf ⟨aNar_ok (t := .inr (some (.inl (false, q.2)))) hc.1 (fun v hv => ?_), hc.2.1, h3, hc.2.2.2.1, hc.2.2.2.2⟩⟩
        rw [h1] at hv
        cases hv
        exact ha
    next => cases hb
  next => cases hb
/-! one value off the stack, one on it -/
def aUn (tf : Int × Int → aT) (rf : Int × Int → Option Int) (S : aS) (p : Nat) : Option (List (Nat × aS)) := match S.2.1 with
  | x :: r => (match aIv S.2.2.1 x with
    | some A => some [(p, aPu S r (tf A) (match rf A with
      | some c => some (aFm c (aLi S.2.2.1 x))
      | none => none))]
    | _ => none)
  | _ => none
theorem aUn_ok {tf : Int × Int → aT} {rf : Int × Int → Option Int} {g : Int32 → jv} (hg : ∀ {A : Int × Int} {x : Int32}, aIn A x → aG K n (tf A) (g x)) (hr : ∀ {A : Int × Int} {x : Int32} {c : Int}, aIn A x → rf A = some c → aI (g x) = c * x.toInt) {S : aS} {p : Nat} {L : List (Nat × aS)} (hb : aUn tf rf S p = some L) {ρ : List jv} {lv : List (Option jv)} {st : List jv} {σ : Nat → jcell} (hc : aCx F Hp K n S ρ lv st σ) (h : aNx F Hp K n J ρ L) : j1 st fun x r => J p lv (g x :: r) σ := by
  unfold aUn at hb
  split at hb
  next x r hs =>
    split at hb
    next A hA =>
      cases hb
      obtain ⟨v, s, rfl, h1, h3⟩ := aSk_1 (hs ▸ hc.2.2.1)
      obtain ⟨x0, rfl, hx⟩ := aIv_ok hc.1 hA h1
      refine aPu_ok hc h3 (hg hx) ?_ h
      split
      next c hcc =>
        show aVa ρ _ _
        rw [hr hx hcc]
        exact aVa_m c (aLi_ok hc.1 h1)
      next => trivial
    next => cases hb
  next => cases hb
/-! longs -/
def aF64 (env : List aE) (f : aF) : Option (Int × Int) := match aLb env f.1, aLb env (aSq (-1) f.1) with
  | some s, some t => if -9223372036854775808 ≤ s + f.2 ∧ f.2 - t ≤ 9223372036854775807 then some (s + f.2, f.2 - t) else none
  | _, _ => none
theorem aF64_ok {env : List aE} {ρ : List jv} (h : aR K n env ρ) {f : aF} {A : Int × Int} (hA : aF64 env f = some A) {x : Int} (hx : aVa ρ f x) : A.1 ≤ x ∧ x ≤ A.2 ∧ -9223372036854775808 ≤ A.1 ∧ A.2 ≤ 9223372036854775807 := by
  obtain ⟨z, z1, rfl⟩ := hx
  unfold aF64 at hA
  split at hA
  next s t hs ht =>
    split at hA
    next hq =>
      cases hA
      have e1 := aLb_ok h hs z1
      have e2 := aLb_ok h ht (aSq_ok (c := -1) z1)
      dsimp only
      omega
    next => cases hA
  next => cases hA
def aGl (env : List aE) (f : aF) : Option aF := match aF64 env f with
  | some _ => some f
  | none => none
theorem aGl_ok {env : List aE} {ρ : List jv} (h : aR K n env ρ) {f : aF} {v : Int64} {x : Int} (hx : aVa ρ f x) (hv : v.toInt = x.bmod (2 ^ 64)) : aRl ρ (aGl env f) (.inr (.inl v)) := by
  unfold aGl
  split
  next A hA =>
    obtain ⟨a1, a2, a3, a4⟩ := aF64_ok h hA hx
    show aVa ρ f v.toInt
    rw [hv, Int.bmod_eq_of_le (by omega) (by omega)]
    exact hx
  next => trivial
def aLk (f : aF) : Option Int := match f.1 with
  | [] => some f.2
  | _ => none
theorem aLk_ok {ρ : List jv} {f : aF} {c x : Int} (h : aLk f = some c) (hx : aVa ρ f x) : x = c := by
  obtain ⟨g, k⟩ := f
  unfold aLk at h
  split at h
  next e =>
    cases h
    dsimp only at e
    subst e
    obtain ⟨z, z1, z2⟩ := hx
    cases z1
    omega
  next => cases h
/-- 1 sum, 2 difference, 3 product with a constant, 4 quotient of constants -/
def aLr (k : Nat) (env : List aE) (X Y : aF) : Option aF := match k with
  | 1 => aGl env (aFp X Y)
  | 2 => aGl env (aFp X (aFm (-1) Y))
  | 3 => (match aLk X with
    | some c => aGl env (aFm c Y)
    | none => (match aLk Y with
      | some c => aGl env (aFm c X)
      | none => none))
  | 4 => (match aLk X, aLk Y with
    | some a, some b => if 0 ≤ a ∧ 0 < b ∧ a ≤ 9223372036854775807 then some ([], a / b) else none
    | _, _ => none)
  | _ => none
def aCol (k : Nat) (f : Int64 → Int64 → Int64) : Prop := (k = 1 → ∀ x y, f x y = x + y) ∧ (k = 2 → ∀ x y, f x y = x - y) ∧ (k = 3 → ∀ x y, f x y = x * y) ∧ (k = 4 → ∀ x y, f x y = x / y)
theorem aLr_ok {env : List aE} {ρ : List jv} (h : aR K n env ρ) {k : Nat} {f : Int64 → Int64 → Int64} (hk : aCol k f) {X Y : aF} {x y : Int64} (hx : aVa ρ X x.toInt) (hy : aVa ρ Y y.toInt) : aRl ρ (aLr k env X Y) (.inr (.inl (f x y))) := by
  unfold aLr
  split
  · exact aGl_ok h (aVa_p hx hy) (by rw [hk.1 rfl, Int64.toInt_add])
  · exact aGl_ok h (aVa_p hx (aVa_m (-1) hy)) (by rw [hk.2.1 rfl, Int64.toInt_sub]; congr 1; omega)
  · split
    next c hc =>
      refine aGl_ok h (aVa_m c hy) ?_
      rw [hk.2.2.1 rfl, Int64.toInt_mul, aLk_ok hc hx]
    next =>
      split
      next c hc =>
        refine aGl_ok h (aVa_m c hx) ?_
        rw [hk.2.2.1 rfl, Int64.toInt_mul, aLk_ok hc hy, Int.mul_comm]
      next => trivial
  · split
    next a b ha hb =>
      split
      next hz =>
        show aVa ρ _ (f x y).toInt
        rw [hk.2.2.2 rfl, Int64.toInt_div, aLk_ok ha hx, aLk_ok hb hy, Int.tdiv_eq_ediv_of_nonneg hz.1]
        have h4 : a / b ≤ a := Int.ediv_le_self _ hz.1
        have h5 : 0 ≤ a / b := Int.ediv_nonneg hz.1 (by omega)
        rw [Int.bmod_eq_of_le (by omega) (by omega)]
        exact aVa_k _
      next => trivial
    next => trivial
  · trivial
def aBl (k : Nat) (S : aS) (p : Nat) : Option (List (Nat × aS)) := match S.2.1 with
  | y :: x :: r => (match aTy S.2.2.1 x, aTy S.2.2.1 y with
    | some (.inr none), some (.inr none) => some [(p, aPu S r (.inr none) (aLr k S.2.2.1 (aLi S.2.2.1 x) (aLi S.2.2.1 y)))]
    | _, _ => none)
  | _ => none
theorem aBl_ok {k : Nat} {f : Int64 → Int64 → Int64} (hk : aCol k f) {S : aS} {p : Nat} {L : List (Nat × aS)} (hb : aBl k S p = some L) {ρ : List jv} {lv : List (Option jv)} {st : List jv} {σ : Nat → jcell} (hc : aCx F Hp K n S ρ lv st σ) (h : aNx F Hp K n J ρ L) : jl2 st fun x y r => J p lv (.inr (.inl (f x y)) :: r) σ := by
  unfold aBl at hb
  split at hb
  next y x r hs =>
    split at hb
    next hA hB =>
      cases hb
      obtain ⟨w, v, s, rfl, h1, h2, h3⟩ := aSk_2 (hs ▸ hc.2.2.1)
      obtain ⟨x0, rfl⟩ := aG_lng (aTy_ok hc.1 hA h2)
      obtain ⟨y0, rfl⟩ := aG_lng (aTy_ok hc.1 hB h1)
      exact aPu_ok (t := .inr none) (v := .inr (.inl (f x0 y0))) hc h3 trivial (aLr_ok hc.1 hk (aLi_ok hc.1 h2) (aLi_ok hc.1 h1)) h
    next => cases hb
  next => cases hb
/-- a long that is divided by is not zero -/
def aNzl (S : aS) : Bool := match S.2.1 with
  | y :: _ => (match aTy S.2.2.1 y with
    | some (.inr none) => aPr S.2.2.1 S.2.2.2.2.2.1 1 (aFp ([], -1) (aLi S.2.2.1 y))
    | _ => false)
  | _ => false
theorem aNzl_ok {S : aS} (hz : aNzl S = true) {ρ : List jv} {lv : List (Option jv)} {st : List jv} {σ : Nat → jcell} (hc : aCx F Hp K n S ρ lv st σ) {Q : Int64 → Int64 → List jv → Prop} (h : jl2 st Q) : jl2 st fun x y r => ¬ y = 0 ∧ Q x y r := by
  unfold aNzl at hz
  split at hz
  next y r hs =>
    split at hz
    next hB =>
      obtain ⟨w, s, rfl, h1, h3⟩ := aSk_1 (hs ▸ hc.2.2.1)
      obtain ⟨y0, rfl⟩ := aG_lng (aTy_ok hc.1 hB h1)
      obtain ⟨p9, m1, m2, m3, m4⟩ := hc.2.2.2.1
      have h9 := aPr_ok hc.1 m3 hz (aVa_p (aVa_k (-1)) (aLi_ok hc.1 h1))
      have hn : ¬ y0 = 0 := by
        intro q
        subst q
        replace h9 : 0 ≤ -1 + (0 : Int64).toInt := h9
        have h6 : (0 : Int64).toInt = 0 := by decide
        omega
      unfold jl2 at h ⊢
      split at h
      next heq =>
        cases heq
        exact ⟨hn, h⟩
      next => exact h.elim
    next => cases hz
  next => cases hz
def aLneg (S : aS) (p : Nat) : Option (List (Nat × aS)) := match S.2.1 with
  | x :: r => (match aTy S.2.2.1 x with
    | some (.inr none) => some [(p, aPu S r (.inr none) (aGl S.2.2.1 (aFm (-1) (aLi S.2.2.1 x))))]
    | _ => none)
  | _ => none
theorem aLneg_ok {S : aS} {p : Nat} {L : List (Nat × aS)} (hb : aLneg S p = some L) {ρ : List jv} {lv : List (Option jv)} {st : List jv} {σ : Nat → jcell} (hc : aCx F Hp K n S ρ lv st σ) (h : aNx F Hp K n J ρ L) : jl1 st fun x r => J p lv (.inr (.inl (-x)) :: r) σ := by
  unfold aLneg at hb
  split at hb
  next x r hs =>
    split at hb
    next hA =>
      cases hb
      obtain ⟨v, s, rfl, h1, h3⟩ := aSk_1 (hs ▸ hc.2.2.1)
      obtain ⟨x0, rfl⟩ := aG_lng (aTy_ok hc.1 hA h1)
      exact aPu_ok (t := .inr none) (v := .inr (.inl (-x0))) hc h3 trivial (aGl_ok hc.1 (aVa_m (-1) (aLi_ok hc.1 h1)) (by rw [Int64.toInt_neg]; congr 1; show _ = -1 * x0.toInt; omega)) h
    next => cases hb
  next => cases hb
def aBi (S : aS) (p : Nat) : Option (List (Nat × aS)) := match S.2.1 with
  | y :: x :: r => (match aTy S.2.2.1 x, aTy S.2.2.1 y with
    | some (.inr none), some (.inl _) => some [(p, aPu S r (.inr none) none)]
    | _, _ => none)
  | _ => none
theorem aBi_ok {g : Int64 → Int32 → Int64} {S : aS} {p : Nat} {L : List (Nat × aS)} (hb : aBi S p = some L) {ρ : List jv} {lv : List (Option jv)} {st : List jv} {σ : Nat → jcell} (hc : aCx F Hp K n S ρ lv st σ) (h : aNx F Hp K n J ρ L) : jli st fun x y r => J p lv (.inr (.inl (g x y)) :: r) σ := by
  unfold aBi at hb
  split at hb
  next y x r hs =>
    split at hb
    next hA hB =>
      cases hb
      obtain ⟨w, v, s, rfl, h1, h2, h3⟩ := aSk_2 (hs ▸ hc.2.2.1)
      obtain ⟨x0, rfl⟩ := aG_lng (aTy_ok hc.1 hA h2)
      obtain ⟨y0, rfl, -⟩ := aG_int (aTy_ok hc.1 hB h1)
      exact aPu_ok (t := .inr none) (r := none) (v := .inr (.inl (g x0 y0))) hc h3 trivial trivial h
    next => cases hb
  next => cases hb
def aLc (env : List aE) (D : aF) : Int × Int := (match aLb env D.1 with
    | some s => if 1 ≤ s + D.2 then 1 else if 0 ≤ s + D.2 then 0 else -1
    | none => -1, match aLb env (aSq (-1) D.1) with
    | some s => if D.2 - s ≤ -1 then -1 else if D.2 - s ≤ 0 then 0 else 1
    | none => 1)
theorem aLc_c (x y : Int64) : (x.toInt < y.toInt ∧ (lg_cmp x y).toInt = -1) ∨ (x.toInt = y.toInt ∧ (lg_cmp x y).toInt = 0) ∨ (y.toInt < x.toInt ∧ (lg_cmp x y).toInt = 1) := by
  have e1 : y < x ↔ y.toInt < x.toInt := Int64.lt_iff_toInt_lt
  have e2 : x = y ↔ x.toInt = y.toInt := Int64.toInt_inj.symm
  unfold lg_cmp
  split
  next h => exact Or.inr (Or.inr ⟨e1.mp h, by decide⟩)
  next h =>
    split
    next h2 => exact Or.inr (Or.inl ⟨e2.mp h2, by decide⟩)
    next h2 =>
      refine Or.inl ⟨?_, by decide⟩
      have h3 : ¬ y.toInt < x.toInt := fun q => h (e1.mpr q)
      have h4 : ¬ x.toInt = y.toInt := fun q => h2 (e2.mpr q)
      omega
theorem aLc_ok {env : List aE} {ρ : List jv} (h : aR K n env ρ) {D : aF} {x y : Int64} (hD : aVa ρ D (x.toInt - y.toInt)) : aIn (aLc env D) (lg_cmp x y) := by
  obtain ⟨z, z1, z2⟩ := hD
  have hc := aLc_c x y
  refine ⟨?_, ?_⟩
  · unfold aLc
    dsimp only
    split
    next s hs =>
      have e1 := aLb_ok h hs z1
      split
      · omega
      · split <;> omega
    next => omega
  · unfold aLc
    dsimp only
    split
    next s hs =>
      have e1 := aLb_ok h hs (aSq_ok (c := -1) z1)
      split
      · omega
      · split <;> omega
    next => omega
def aLcm (S : aS) (p : Nat) : Option (List (Nat × aS)) := match S.2.1 with
  | y :: x :: r => (match aTy S.2.2.1 x, aTy S.2.2.1 y with
    | some (.inr none), some (.inr none) => some [(p, aPu S r (.inl (aLc S.2.2.1 (aFp (aLi S.2.2.1 x) (aFm (-1) (aLi S.2.2.1 y))))) none)]
    | _, _ => none)
  | _ => none
theorem aLcm_ok {S : aS} {p : Nat} {L : List (Nat × aS)} (hb : aLcm S p = some L) {ρ : List jv} {lv : List (Option jv)} {st : List jv} {σ : Nat → jcell} (hc : aCx F Hp K n S ρ lv st σ) (h : aNx F Hp K n J ρ L) : jl2 st fun x y r => J p lv (.inl (lg_cmp x y) :: r) σ := by
  unfold aLcm at hb
  split at hb
  next y x r hs =>
    split at hb
    next hA hB =>
      cases hb
      obtain ⟨w, v, s, rfl, h1, h2, h3⟩ := aSk_2 (hs ▸ hc.2.2.1)
      obtain ⟨x0, rfl⟩ := aG_lng (aTy_ok hc.1 hA h2)
      obtain ⟨y0, rfl⟩ := aG_lng (aTy_ok hc.1 hB h1)
      have hD : aVa ρ (aFp (aLi S.2.2.1 x) (aFm (-1) (aLi S.2.2.1 y))) (x0.toInt - y0.toInt) := by
        have := aVa_p (aLi_ok hc.1 h2) (aVa_m (-1) (aLi_ok hc.1 h1))
        rwa [show aI (.inr (.inl x0)) + -1 * aI (.inr (.inl y0)) = x0.toInt - y0.toInt by simp only [aI]; omega] at this
      exact aPu_ok (t := .inl (aLc S.2.2.1 (aFp (aLi S.2.2.1 x) (aFm (-1) (aLi S.2.2.1 y))))) (r := none) (v := .inl (lg_cmp x0 y0)) hc h3 (aLc_ok hc.1 hD) trivial h
    next => cases hb
  next => cases hb
def aL2i (S : aS) (p : Nat) : Option (List (Nat × aS)) := match S.2.1 with
  | x :: r => (match aTy S.2.2.1 x with
    | some (.inr none) => some [(p, match aF64 S.2.2.1 (aLi S.2.2.1 x) with
      | some A => if aFit3 A.1 A.2 = true then aPu S r (.inl A) (some (aLi S.2.2.1 x)) else aPu S r (.inl a32) none
      | none => aPu S r (.inl a32) none)]
    | _ => none)
  | _ => none
theorem aL2i_ok {S : aS} {p : Nat} {L : List (Nat × aS)} (hb : aL2i S p = some L) {ρ : List jv} {lv : List (Option jv)} {st : List jv} {σ : Nat → jcell} (hc : aCx F Hp K n S ρ lv st σ) (h : aNx F Hp K n J ρ L) : jl1 st fun x r => J p lv (.inl x.toInt32 :: r) σ := by
  unfold aL2i at hb
  split at hb
  next x r hs =>
    split at hb
    next hA =>
      cases hb
      obtain ⟨v, s, rfl, h1, h3⟩ := aSk_1 (hs ▸ hc.2.2.1)
      obtain ⟨x0, rfl⟩ := aG_lng (aTy_ok hc.1 hA h1)
      have hv := aLi_ok hc.1 h1
      split at h
      next A hA2 =>
        split at h
        next hf =>
          simp only [aFit3, Bool.and_eq_true, decide_eq_true_eq] at hf
          obtain ⟨a1, a2, -, -⟩ := aF64_ok hc.1 hA2 hv
          have e : x0.toInt32.toInt = x0.toInt := by
            rw [Int64.toInt_toInt32]
            exact Int.bmod_eq_of_le (by show _ ≤ x0.toInt; replace a1 : A.1 ≤ x0.toInt := a1; omega) (by show x0.toInt < _; replace a2 : x0.toInt ≤ A.2 := a2; omega)
          exact aPu_ok (t := .inl A) (v := .inl x0.toInt32) hc h3 ⟨by rw [e]; exact a1, by rw [e]; exact a2⟩ (by show aVa ρ _ x0.toInt32.toInt; rw [e]; exact hv) h
        next => exact aPu_ok (t := .inl a32) (v := .inl x0.toInt32) (r := none) hc h3 (aIn_32 _) trivial h
      next => exact aPu_ok (t := .inl a32) (v := .inl x0.toInt32) (r := none) hc h3 (aIn_32 _) trivial h
    next => cases hb
  next => cases hb
/-- a quotient or a rest: what is divided by is not zero -/
def aNz (S : aS) : Bool := match S.2.1 with
  | y :: _ => (match aIv S.2.2.1 y with
    | some B => decide (1 ≤ B.1) || decide (B.2 ≤ -1)
    | _ => false)
  | _ => false
theorem aNz_ok {S : aS} (hz : aNz S = true) {ρ : List jv} {lv : List (Option jv)} {st : List jv} {σ : Nat → jcell} (hc : aCx F Hp K n S ρ lv st σ) {Q : Int32 → Int32 → List jv → Prop} (h : j2 st Q) : j2 st fun x y r => ¬ y = 0 ∧ Q x y r := by
  unfold aNz at hz
  split at hz
  next y r hs =>
    split at hz
    next B hB =>
      obtain ⟨w, s, rfl, h1, h3⟩ := aSk_1 (hs ▸ hc.2.2.1)
      obtain ⟨y0, rfl, hy⟩ := aIv_ok hc.1 hB h1
      simp only [Bool.or_eq_true, decide_eq_true_eq] at hz
      have hn : ¬ y0 = 0 := by
        intro q
        subst q
        obtain ⟨h4, h5⟩ := hy
        have h6 : (0 : Int32).toInt = 0 := by decide
        omega
      unfold j2 at h ⊢
      split at h
      next heq =>
        cases heq
        exact ⟨hn, h⟩
      next => exact h.elim
    next => cases hz
  next => cases hz
/-! the stack turned -/
def aC1 (env : List aE) (i : Nat) : Bool := match aTy env i with
  | some (.inl _) => true
  | some (.inr (some _)) => true
  | _ => false
theorem aC1_ok {env : List aE} {ρ : List jv} (h : aR K n env ρ) {i : Nat} (hc : aC1 env i = true) {v : jv} (hv : ρ[i]? = some v) : jcat v = 1 := by
  unfold aC1 at hc
  split at hc
  next q hq => obtain ⟨x, rfl, -⟩ := aG_int (aTy_ok h hq hv); rfl
  next q hq =>
    have h9 := aTy_ok h hq hv
    rcases v with x | x | x
    · rfl
    · rcases q with q | q <;> exact h9.elim
    · rfl
  next => cases hc
def aDup (S : aS) (w p : Nat) : Option (List (Nat × aS)) := match w, S.2.1 with
  | 0, x :: r => if aC1 S.2.2.1 x = true then some [(p, (S.1, x :: x :: r, S.2.2.1, S.2.2.2))] else none
  | 1, x :: r => if aC1 S.2.2.1 x = true then some [(p, (S.1, r, S.2.2.1, S.2.2.2))] else none
  | 2, x :: y :: r => if aC1 S.2.2.1 x = true ∧ aC1 S.2.2.1 y = true then some [(p, (S.1, x :: y :: x :: r, S.2.2.1, S.2.2.2))] else none
  | 3, x :: y :: z :: r => if aC1 S.2.2.1 x = true ∧ aC1 S.2.2.1 y = true ∧ aC1 S.2.2.1 z = true then some [(p, (S.1, x :: y :: z :: x :: r, S.2.2.1, S.2.2.2))] else none
  | 4, x :: y :: r => if aC1 S.2.2.1 x = true ∧ aC1 S.2.2.1 y = true then some [(p, (S.1, x :: y :: x :: y :: r, S.2.2.1, S.2.2.2))] else none
  | _, _ => none
theorem aDup0_ok {S : aS} {p : Nat} {L : List (Nat × aS)} (hb : aDup S 0 p = some L) {ρ : List jv} {lv : List (Option jv)} {st : List jv} {σ : Nat → jcell} (hc : aCx F Hp K n S ρ lv st σ) (h : aNx F Hp K n J ρ L) : jdup st fun v r => J p lv (v :: v :: r) σ := by
  obtain ⟨al, sk, env, ca⟩ := S
  rcases sk with _ | ⟨x, r⟩
  · cases hb
  · obtain ⟨v, s, rfl, h1, h3⟩ := aSk_1 hc.2.2.1
    simp only [aDup] at hb
    split at hb
    next hq =>
      cases hb
      exact ⟨aC1_ok hc.1 hq h1, aNx_in h List.mem_cons_self aX_rf ⟨hc.1, hc.2.1, ⟨h1, h1, h3⟩, hc.2.2.2.1, hc.2.2.2.2⟩⟩
    next => cases hb
theorem aDup1_ok {S : aS} {p : Nat} {L : List (Nat × aS)} (hb : aDup S 1 p = some L) {ρ : List jv} {lv : List (Option jv)} {st : List jv} {σ : Nat → jcell} (hc : aCx F Hp K n S ρ lv st σ) (h : aNx F Hp K n J ρ L) : jdup st fun _ r => J p lv r σ := by
  obtain ⟨al, sk, env, ca⟩ := S
  rcases sk with _ | ⟨x, r⟩
  · cases hb
  · obtain ⟨v, s, rfl, h1, h3⟩ := aSk_1 hc.2.2.1
    simp only [aDup] at hb
    split at hb
    next hq =>
      cases hb
      exact ⟨aC1_ok hc.1 hq h1, aNx_in h List.mem_cons_self aX_rf ⟨hc.1, hc.2.1, h3, hc.2.2.2.1, hc.2.2.2.2⟩⟩
    next => cases hb
theorem aDup2_ok {S : aS} {p : Nat} {L : List (Nat × aS)} (hb : aDup S 2 p = some L) {ρ : List jv} {lv : List (Option jv)} {st : List jv} {σ : Nat → jcell} (hc : aCx F Hp K n S ρ lv st σ) (h : aNx F Hp K n J ρ L) : jdupx st fun v w r => J p lv (v :: w :: v :: r) σ := by
  obtain ⟨al, sk, env, ca⟩ := S
  rcases sk with _ | ⟨x, _ | ⟨y, r⟩⟩
  · cases hb
  · cases hb
  · obtain ⟨v, w, s, rfl, h1, h2, h3⟩ := aSk_2 hc.2.2.1
    simp only [aDup] at hb
    split at hb
    next hq =>
      cases hb
      exact ⟨aC1_ok hc.1 hq.1 h1, aC1_ok hc.1 hq.2 h2, aNx_in h List.mem_cons_self aX_rf ⟨hc.1, hc.2.1, ⟨h1, h2, h1, h3⟩, hc.2.2.2.1, hc.2.2.2.2⟩⟩
    next => cases hb
theorem aDup3_ok {S : aS} {p : Nat} {L : List (Nat × aS)} (hb : aDup S 3 p = some L) {ρ : List jv} {lv : List (Option jv)} {st : List jv} {σ : Nat → jcell} (hc : aCx F Hp K n S ρ lv st σ) (h : aNx F Hp K n J ρ L) : jdupx2 st fun v w z r => J p lv (v :: w :: z :: v :: r) σ := by
  obtain ⟨al, sk, env, ca⟩ := S
  rcases sk with _ | ⟨x, _ | ⟨y, _ | ⟨z, r⟩⟩⟩
  · cases hb
  · cases hb
  · cases hb
  · obtain ⟨v, w, s, rfl, h1, h2, h3⟩ := aSk_2 hc.2.2.1
    obtain ⟨u, s, rfl, h4, h5⟩ := aSk_1 h3
    simp only [aDup] at hb
    split at hb
    next hq =>
      cases hb
      exact ⟨aC1_ok hc.1 hq.1 h1, aC1_ok hc.1 hq.2.1 h2, aC1_ok hc.1 hq.2.2 h4, aNx_in h List.mem_cons_self aX_rf ⟨hc.1, hc.2.1, ⟨h1, h2, h4, h1, h5⟩, hc.2.2.2.1, hc.2.2.2.2⟩⟩
    next => cases hb
theorem aDup4_ok {S : aS} {p : Nat} {L : List (Nat × aS)} (hb : aDup S 4 p = some L) {ρ : List jv} {lv : List (Option jv)} {st : List jv} {σ : Nat → jcell} (hc : aCx F Hp K n S ρ lv st σ) (h : aNx F Hp K n J ρ L) : jdup2 st fun r => J p lv r σ := by
  obtain ⟨al, sk, env, ca⟩ := S
  rcases sk with _ | ⟨x, _ | ⟨y, r⟩⟩
  · cases hb
  · cases hb
  · obtain ⟨v, w, s, rfl, h1, h2, h3⟩ := aSk_2 hc.2.2.1
    simp only [aDup] at hb
    split at hb
    next hq =>
      cases hb
      have c1 := aC1_ok hc.1 hq.1 h1
      have hj := aNx_in (st := v :: w :: v :: w :: s) h List.mem_cons_self aX_rf ⟨hc.1, hc.2.1, ⟨h1, h2, h1, h2, h3⟩, hc.2.2.2.1, hc.2.2.2.2⟩
      rcases v with x0 | x0 | x0
      · exact ⟨c1, aC1_ok hc.1 hq.2 h2, hj⟩
      · cases c1
      · exact ⟨c1, aC1_ok hc.1 hq.2 h2, hj⟩
    next => cases hb
end ASV
