/-! THE A KIT: states of the check, and what they say of a picture. A value is a number into a row of (type, relation); beside it a row of values. -/
abbrev aT : Type := (Int × Int) ⊕ Option ((Bool × Nat) ⊕ Nat)
abbrev aKd : Type := (FieldType × Nat × Int × Int) ⊕ (Nat × List aT)
abbrev aE : Type := aT × Option (Nat × Int × Int)
abbrev aS : Type := List (Option Nat) × List Nat × List aE × List (Nat × Nat × Nat)
def aG (K : Nat → Nat) (n : Nat) (t : aT) (v : jv) : Prop := match t, v with
  | .inl q, .inl x => aIn q x
  | .inr none, .inr (.inl _) => True
  | .inr (some (.inl q)), .inr (.inr none) => q.1 = true
  | .inr (some (.inl q)), .inr (.inr (some (.inl a))) => a < n ∧ K a = q.2
  | .inr (some (.inr j)), .inr (.inr (some (.inr i))) => i = j
  | _, _ => False
section AST
variable {K : Nat → Nat} {n : Nat}
theorem aG_int {q : Int × Int} {v : jv} (h : aG K n (.inl q) v) : ∃ x, v = .inl x ∧ aIn q x := by
  rcases v with x | x | _ | a | j
  · exact ⟨x, rfl, h⟩
  all_goals exact h.elim
theorem aG_lng {v : jv} (h : aG K n (.inr none) v) : ∃ x, v = .inr (.inl x) := by
  rcases v with x | x | _ | a | j
  · exact h.elim
  · exact ⟨x, rfl⟩
  all_goals exact h.elim
theorem aG_ref {b : Bool} {k : Nat} {v : jv} (h : aG K n (.inr (some (.inl (b, k)))) v) : (b = true ∧ v = .inr (.inr none)) ∨ ∃ a, v = .inr (.inr (some (.inl a))) ∧ a < n ∧ K a = k := by
  rcases v with x | x | _ | a | j
  · exact h.elim
  · exact h.elim
  · exact Or.inl ⟨h, rfl⟩
  · exact Or.inr ⟨a, rfl, h⟩
  · exact h.elim
theorem aG_obj {k : Nat} {v : jv} (h : aG K n (.inr (some (.inl (false, k)))) v) : ∃ a, v = .inr (.inr (some (.inl a))) ∧ a < n ∧ K a = k := by
  rcases aG_ref h with h | h
  · cases h.1
  · exact h
theorem aG_tab {j : Nat} {v : jv} (h : aG K n (.inr (some (.inr j))) v) : v = .inr (.inr (some (.inr j))) := by
  rcases v with x | x | _ | a | i
  · exact h.elim
  · exact h.elim
  · exact h.elim
  · exact h.elim
  · rw [show i = j from h]
def aRl (ρ : List jv) (r : Option (Nat × Int × Int)) (v : jv) : Prop := match r with
  | none => True
  | some q => ∃ x y : Int32, v = .inl x ∧ ρ[q.1]? = some (.inl y) ∧ y.toInt + q.2.1 ≤ x.toInt ∧ x.toInt ≤ y.toInt + q.2.2
def aX (ρ ρ' : List jv) : Prop := ∀ (i : Nat) (v : jv), ρ[i]? = some v → ρ'[i]? = some v
def aR (K : Nat → Nat) (n : Nat) (env : List aE) (ρ : List jv) : Prop := ρ.length = env.length ∧ ∀ (i : Nat) (e : aE) (v : jv), env[i]? = some e → ρ[i]? = some v → aG K n e.1 v ∧ aRl ρ e.2 v
def aLv (ρ : List jv) (al : List (Option Nat)) (lv : List (Option jv)) : Prop := al.length = lv.length ∧ ∀ (i k : Nat), al[i]? = some (some k) → ∃ v, ρ[k]? = some v ∧ lv[i]? = some (some v)
def aSk (ρ : List jv) : List Nat → List jv → Prop
  | [], [] => True
  | i :: r, v :: s => ρ[i]? = some v ∧ aSk ρ r s
  | _, _ => False
def aCa (ρ : List jv) (σ : Nat → jcell) (cc : List (Nat × Nat × Nat)) : Prop := ∀ q ∈ cc, ∃ (a c : Nat) (fs : List jv) (v : jv), ρ[q.1]? = some (.inr (.inr (some (.inl a)))) ∧ σ a = .inr (c, fs) ∧ fs[q.2.1]? = some v ∧ ρ[q.2.2]? = some v
theorem aX_rf {ρ : List jv} : aX ρ ρ := fun _ _ h => h
theorem aX_app {ρ : List jv} {v : jv} : aX ρ (ρ ++ [v]) := fun i w h => by
  rw [List.getElem?_append_left (List.getElem?_eq_some_iff.mp h).1]; exact h
theorem aX.tr {ρ ρ1 ρ2 : List jv} (h : aX ρ ρ1) (h2 : aX ρ1 ρ2) : aX ρ ρ2 := fun i v q => h2 i v (h i v q)
theorem aRl.mo {ρ ρ' : List jv} (hx : aX ρ ρ') {r : Option (Nat × Int × Int)} {v : jv} (h : aRl ρ r v) : aRl ρ' r v := by
  rcases r with _ | q
  · trivial
  · obtain ⟨x, y, h1, h2, h3⟩ := h
    exact ⟨x, y, h1, hx _ _ h2, h3⟩
theorem aLv.mo {ρ ρ' : List jv} (hx : aX ρ ρ') {al : List (Option Nat)} {lv : List (Option jv)} (h : aLv ρ al lv) : aLv ρ' al lv :=
  ⟨h.1, fun i k q => by obtain ⟨v, h1, h2⟩ := h.2 i k q; exact ⟨v, hx _ _ h1, h2⟩⟩
theorem aSk.mo {ρ ρ' : List jv} (hx : aX ρ ρ') : ∀ {al : List Nat} {st : List jv}, aSk ρ al st → aSk ρ' al st
  | [], [], _ => trivial
  | _ :: _, _ :: _, h => ⟨hx _ _ h.1, aSk.mo hx h.2⟩
  | [], _ :: _, h => h.elim
  | _ :: _, [], h => h.elim
theorem aCa.mo {ρ ρ' : List jv} (hx : aX ρ ρ') {σ : Nat → jcell} {cc : List (Nat × Nat × Nat)} (h : aCa ρ σ cc) : aCa ρ' σ cc := fun q hq => by
  obtain ⟨a, c, fs, v, h1, h2, h3, h4⟩ := h q hq
  exact ⟨a, c, fs, v, hx _ _ h1, h2, h3, hx _ _ h4⟩
theorem aR_push {env : List aE} {ρ : List jv} (h : aR K n env ρ) {t : aT} {r : Option (Nat × Int × Int)} {v : jv} (h1 : aG K n t v) (h2 : aRl ρ r v) : aR K n (env ++ [(t, r)]) (ρ ++ [v]) := by
  refine ⟨by simp [h.1], fun i e w he hw => ?_⟩
  by_cases hi : i < env.length
  · rw [List.getElem?_append_left hi] at he
    rw [List.getElem?_append_left (by rw [h.1]; exact hi)] at hw
    have h3 := h.2 i e w he hw
    exact ⟨h3.1, h3.2.mo aX_app⟩
  · have hl : i = env.length := by
      have := (List.getElem?_eq_some_iff.mp he).1
      simp at this
      omega
    subst hl
    have e1 : e = (t, r) := by simpa using he.symm
    have e2 : w = v := by
      rw [← h.1] at hw
      simpa using hw.symm
    subst e1; subst e2
    exact ⟨h1, h2.mo aX_app⟩
theorem aR_new {env : List aE} {ρ : List jv} (h : aR K n env ρ) {v : jv} : (ρ ++ [v])[env.length]? = some v := by
  rw [← h.1]; simp
def aTy (env : List aE) (i : Nat) : Option aT := match env[i]? with
  | some e => some e.1
  | none => none
theorem aTy_ok {env : List aE} {ρ : List jv} (h : aR K n env ρ) {i : Nat} {t : aT} {v : jv} (ht : aTy env i = some t) (hv : ρ[i]? = some v) : aG K n t v := by
  unfold aTy at ht
  split at ht
  next e he => cases ht; exact (h.2 i e v he hv).1
  next => cases ht
def aRoot (env : List aE) (i : Nat) : Nat × Int × Int := match env[i]? with
  | some (_, some r) => r
  | _ => (i, 0, 0)
theorem aRoot_ok {env : List aE} {ρ : List jv} (h : aR K n env ρ) {i : Nat} {x : Int32} (hv : ρ[i]? = some (.inl x)) : ∃ y : Int32, ρ[(aRoot env i).1]? = some (.inl y) ∧ y.toInt + (aRoot env i).2.1 ≤ x.toInt ∧ x.toInt ≤ y.toInt + (aRoot env i).2.2 := by
  unfold aRoot
  split
  next t r he =>
    obtain ⟨x1, y, h1, h2, h3⟩ := (h.2 i _ _ he hv).2
    cases h1
    exact ⟨y, h2, h3⟩
  next => exact ⟨x, hv, by dsimp only; omega, by dsimp only; omega⟩
/-- what a state says of locals, stack and picture -/
def aCx (Hp : (Nat → jcell) → Prop) (K : Nat → Nat) (n : Nat) (S : aS) (ρ : List jv) (lv : List (Option jv)) (st : List jv) (σ : Nat → jcell) : Prop := aR K n S.2.2.1 ρ ∧ aLv ρ S.1 lv ∧ aSk ρ S.2.1 st ∧ aCa ρ σ S.2.2.2 ∧ Hp σ
/-- what is asked of the goals of a step -/
def aNx (Hp : (Nat → jcell) → Prop) (K : Nat → Nat) (n : Nat) (J : jN) (ρ : List jv) (L : List (Nat × aS)) : Prop := ∀ q ∈ L, ∀ (ρ' : List jv) (lv' : List (Option jv)) (st' : List jv) (σ' : Nat → jcell), aX ρ ρ' → aCx Hp K n q.2 ρ' lv' st' σ' → J q.1 lv' st' σ'
variable {Hp : (Nat → jcell) → Prop} {J : jN}
theorem aNx_in {ρ : List jv} {L : List (Nat × aS)} (h : aNx Hp K n J ρ L) {p : Nat} {S : aS} (hm : (p, S) ∈ L) {ρ' : List jv} {lv : List (Option jv)} {st : List jv} {σ : Nat → jcell} (hx : aX ρ ρ') (hc : aCx Hp K n S ρ' lv st σ) : J p lv st σ := h _ hm _ _ _ _ hx hc
def aPu (S : aS) (sk : List Nat) (t : aT) (r : Option (Nat × Int × Int)) : aS := (S.1, S.2.2.1.length :: sk, S.2.2.1 ++ [(t, r)], S.2.2.2)
theorem aPu_ok {S : aS} {sk : List Nat} {t : aT} {r : Option (Nat × Int × Int)} {ρ : List jv} {lv : List (Option jv)} {st st0 : List jv} {σ : Nat → jcell} (hc : aCx Hp K n S ρ lv st0 σ) (hs : aSk ρ sk st) {v : jv} (h1 : aG K n t v) (h2 : aRl ρ r v) {p : Nat} (h : aNx Hp K n J ρ [(p, aPu S sk t r)]) : J p lv (v :: st) σ := by
  obtain ⟨c1, c2, c3, c4, c5⟩ := hc
  exact aNx_in h List.mem_cons_self aX_app ⟨aR_push c1 h1 h2, c2.mo aX_app, ⟨aR_new c1, hs.mo aX_app⟩, c4.mo aX_app, c5⟩
/-- two ints off the stack, one on it -/
def aFt (lo hi : Int) : Bool := decide (-2147483648 ≤ lo) && decide (hi ≤ 2147483647)
def aRel (k : Nat) (env : List aE) (x y : Nat) (A B : Int × Int) : Option (Nat × Int × Int) := match k with
  | 1 => if aFt (A.1 + B.1) (A.2 + B.2) = true then (if A.1 = A.2 then some ((aRoot env y).1, (aRoot env y).2.1 + A.1, (aRoot env y).2.2 + A.2) else some ((aRoot env x).1, (aRoot env x).2.1 + B.1, (aRoot env x).2.2 + B.2)) else none
  | 2 => if aFt (A.1 - B.2) (A.2 - B.1) = true then some ((aRoot env x).1, (aRoot env x).2.1 - B.2, (aRoot env x).2.2 - B.1) else none
  | 3 => if 1 ≤ A.1 ∧ 2 ≤ B.1 then some ((aRoot env x).1, (aRoot env x).2.1 - A.2, (aRoot env x).2.2 - 1) else none
  | _ => none
def aCop (k : Nat) (f : Int32 → Int32 → Int32) : Prop := (k = 1 → ∀ x y, f x y = x + y) ∧ (k = 2 → ∀ x y, f x y = x - y) ∧ (k = 3 → ∀ x y, f x y = x / y)
theorem aRel_ok {env : List aE} {ρ : List jv} (h : aR K n env ρ) {k : Nat} {f : Int32 → Int32 → Int32} (hk : aCop k f) {i j : Nat} {x y : Int32} (hx : ρ[i]? = some (.inl x)) (hy : ρ[j]? = some (.inl y)) {A B : Int × Int} (hA : aIn A x) (hB : aIn B y) : aRl ρ (aRel k env i j A B) (.inl (f x y)) := by
  obtain ⟨x0, rx, x1, x2⟩ := aRoot_ok h hx
  obtain ⟨y0, ry, y1, y2⟩ := aRoot_ok h hy
  obtain ⟨a1, a2⟩ := hA
  obtain ⟨b1, b2⟩ := hB
  unfold aRel
  split
  · split
    next hf =>
      simp only [aFt, Bool.and_eq_true, decide_eq_true_eq] at hf
      have e1 : (f x y).toInt = x.toInt + y.toInt := by
        rw [hk.1 rfl, Int32.toInt_add]
        exact Int.bmod_eq_of_le (by omega) (by omega)
      split
      · exact ⟨_, y0, rfl, ry, by dsimp only; omega, by dsimp only; omega⟩
      · exact ⟨_, x0, rfl, rx, by dsimp only; omega, by dsimp only; omega⟩
    next => trivial
  · split
    next hf =>
      simp only [aFt, Bool.and_eq_true, decide_eq_true_eq] at hf
      have e1 : (f x y).toInt = x.toInt - y.toInt := by
        rw [hk.2.1 rfl, Int32.toInt_sub]
        exact Int.bmod_eq_of_le (by omega) (by omega)
      exact ⟨_, x0, rfl, rx, by dsimp only; omega, by dsimp only; omega⟩
    next => trivial
  · split
    next hf =>
      have e1 : (f x y).toInt = x.toInt / y.toInt := by rw [hk.2.2 rfl, aDiv_l (by omega) (by omega)]
      have q0 : 0 ≤ x.toInt / y.toInt := Int.ediv_nonneg (by omega) (by omega)
      have q1 := Int.mul_le_mul_of_nonneg_left (show 2 ≤ y.toInt by omega) q0
      have q2 := Int.ediv_mul_le x.toInt (b := y.toInt) (by omega)
      exact ⟨_, x0, rfl, rx, by dsimp only; omega, by dsimp only; omega⟩
    next => trivial
  · trivial
def aBin (op : Int × Int → Int × Int → Int × Int) (k : Nat) (S : aS) (p : Nat) : Option (List (Nat × aS)) := match S.2.1 with
  | y :: x :: r => match aTy S.2.2.1 x, aTy S.2.2.1 y with
    | some (.inl A), some (.inl B) => some [(p, aPu S r (.inl (op A B)) (aRel k S.2.2.1 x y A B))]
    | _, _ => none
  | _ => none
theorem aSk_2 {ρ : List jv} {y x : Nat} {r : List Nat} {st : List jv} (h : aSk ρ (y :: x :: r) st) : ∃ (w v : jv) (s : List jv), st = w :: v :: s ∧ ρ[y]? = some w ∧ ρ[x]? = some v ∧ aSk ρ r s := by
  match st, h with
  | w :: v :: s, h => exact ⟨w, v, s, rfl, h.1, h.2.1, h.2.2⟩
theorem aSk_1 {ρ : List jv} {x : Nat} {r : List Nat} {st : List jv} (h : aSk ρ (x :: r) st) : ∃ (v : jv) (s : List jv), st = v :: s ∧ ρ[x]? = some v ∧ aSk ρ r s := by
  match st, h with
  | v :: s, h => exact ⟨v, s, rfl, h.1, h.2⟩
theorem aBin_ok {op : Int × Int → Int × Int → Int × Int} {k : Nat} {f : Int32 → Int32 → Int32} (hk : aCop k f) (hop : ∀ {A B : Int × Int} {x y : Int32}, aIn A x → aIn B y → aIn (op A B) (f x y)) {S : aS} {p : Nat} {L : List (Nat × aS)} (hb : aBin op k S p = some L) {ρ : List jv} {lv : List (Option jv)} {st : List jv} {σ : Nat → jcell} (hc : aCx Hp K n S ρ lv st σ) (h : aNx Hp K n J ρ L) : j2 st fun x y r => J p lv (.inl (f x y) :: r) σ := by
  unfold aBin at hb
  split at hb
  next y x r hs =>
    split at hb
    next A B hA hB =>
      cases hb
      obtain ⟨w, v, s, rfl, h1, h2, h3⟩ := aSk_2 (hs ▸ hc.2.2.1)
      obtain ⟨x0, rfl, hx⟩ := aG_int (aTy_ok hc.1 hA h2)
      obtain ⟨y0, rfl, hy⟩ := aG_int (aTy_ok hc.1 hB h1)
      exact aPu_ok (t := .inl (op A B)) (v := .inl (f x0 y0)) hc h3 (hop hx hy) (aRel_ok hc.1 hk h2 h1 hx hy) h
    next => cases hb
  next => cases hb
end AST
