/-! THE B KIT: states of the check. A value is a number into a row of (type, linear form); beside it a row of values; then fields, cells of rows, inequalities, facts. -/
abbrev aT : Type := (Int × Int) ⊕ Option ((Bool × Nat) ⊕ Nat)
abbrev aKd : Type := (FieldType × Nat × (Int × Int) × List (Nat × Nat × Int × Int × Int)) ⊕ (Nat × List aT)
abbrev aF : Type := List (Nat × Int) × Int
abbrev aE : Type := aT × Option aF
abbrev aM : Type := List (Nat × Nat × Nat) × List (Nat × aF × Nat) × List aF × List (Nat × List Nat)
abbrev aS : Type := List (Option Nat) × List Nat × List aE × aM
/-- a static thing, or one of some that stand one behind the other -/
def aRj (j : Nat) : Nat × Nat := if j < 1000000 then (j, j) else ((j - 1000000) / 10000, (j - 1000000) % 10000)
def aG (K : Nat → Nat) (n : Nat) (t : aT) (v : jv) : Prop := match t, v with
  | .inl q, .inl x => aIn q x
  | .inr none, .inr (.inl _) => True
  | .inr (some (.inl q)), .inr (.inr none) => q.1 = true
  | .inr (some (.inl q)), .inr (.inr (some (.inl a))) => a < n ∧ (K a = q.2 ∨ q.2 = 99999)
  | .inr (some (.inr j)), .inr (.inr (some (.inr i))) => (aRj j).1 ≤ i ∧ i ≤ (aRj j).2
  | _, _ => False
section AST
variable {K : Nat → Nat} {n : Nat}
theorem aG_int {q : Int × Int} {v : jv} (h : aG K n (.inl q) v) : ∃ x, v = .inl x ∧ aIn q x := by
  rcases v with x | x | _ | a | j
  · exact ⟨x, rfl, h⟩
  all_goals exact h.elim
theorem aG_lng {v : jv} (h : aG K n (.inr none) v) : ∃ x, v = .inr (.inl x) := by
  rcases v with x | x | _ | a | j
  · exact h.elim
  · exact ⟨x, rfl⟩
  all_goals exact h.elim
theorem aG_ref {b : Bool} {k : Nat} {v : jv} (h : aG K n (.inr (some (.inl (b, k)))) v) : (b = true ∧ v = .inr (.inr none)) ∨ ∃ a, v = .inr (.inr (some (.inl a))) ∧ a < n ∧ (K a = k ∨ k = 99999) := by
  rcases v with x | x | _ | a | j
  · exact h.elim
  · exact h.elim
  · exact Or.inl ⟨h, rfl⟩
  · exact Or.inr ⟨a, rfl, h⟩
  · exact h.elim
theorem aG_obj {k : Nat} (h9 : ¬ k = 99999) {v : jv} (h : aG K n (.inr (some (.inl (false, k)))) v) : ∃ a, v = .inr (.inr (some (.inl a))) ∧ a < n ∧ K a = k := by
  rcases aG_ref h with h | ⟨a, e, h1, h2⟩
  · cases h.1
  · exact ⟨a, e, h1, h2.resolve_right h9⟩
theorem aG_rng {j : Nat} {v : jv} (h : aG K n (.inr (some (.inr j))) v) : ∃ i, v = .inr (.inr (some (.inr i))) ∧ (aRj j).1 ≤ i ∧ i ≤ (aRj j).2 := by
  rcases v with x | x | _ | a | i
  · exact h.elim
  · exact h.elim
  · exact h.elim
  · exact h.elim
  · exact ⟨i, rfl, h⟩
theorem aG_tab {j : Nat} (hj : j < 1000000) {v : jv} (h : aG K n (.inr (some (.inr j))) v) : v = .inr (.inr (some (.inr j))) := by
  obtain ⟨i, rfl, h1, h2⟩ := aG_rng h
  unfold aRj at h1 h2
  rw [if_pos hj] at h1 h2
  dsimp only at h1 h2
  rw [show i = j by omega]
/-! linear forms -/
def aI (v : jv) : Int := match v with
  | .inl x => x.toInt
  | .inr (.inl x) => x.toInt
  | _ => 0
def aEv (ρ : List jv) : List (Nat × Int) → Option Int
  | [] => some 0
  | q :: r => match ρ[q.1]?, aEv ρ r with
    | some v, some z => some (q.2 * aI v + z)
    | _, _ => none
def aHd (ρ : List jv) (f : aF) : Prop := ∃ z, aEv ρ f.1 = some z ∧ 0 ≤ z + f.2
def aX (ρ ρ' : List jv) : Prop := ∀ (i : Nat) (v : jv), ρ[i]? = some v → ρ'[i]? = some v
theorem aEv_mo {ρ ρ' : List jv} (hx : aX ρ ρ') : ∀ {F : List (Nat × Int)} {z : Int}, aEv ρ F = some z → aEv ρ' F = some z
  | [], _, h => h
  | q :: r, z, h => by
    unfold aEv at h ⊢
    split at h
    next v y h1 h2 =>
      rw [hx _ _ h1, aEv_mo hx h2]
      exact h
    next => cases h
theorem aEv_c {ρ : List jv} {q : Nat × Int} {r : List (Nat × Int)} {z : Int} (h : aEv ρ (q :: r) = some z) : ∃ (v : jv) (y : Int), ρ[q.1]? = some v ∧ aEv ρ r = some y ∧ z = q.2 * aI v + y := by
  unfold aEv at h
  split at h
  next v y h1 h2 => cases h; exact ⟨v, y, h1, h2, rfl⟩
  next => cases h
theorem aEv_i {ρ : List jv} {q : Nat × Int} {r : List (Nat × Int)} {v : jv} {y : Int} (h1 : ρ[q.1]? = some v) (h2 : aEv ρ r = some y) : aEv ρ (q :: r) = some (q.2 * aI v + y) := by
  unfold aEv
  rw [h1, h2]
def aFi (q : Nat × Int) : List (Nat × Int) → List (Nat × Int)
  | [] => [q]
  | p :: r => if p.1 = q.1 then (if p.2 + q.2 = 0 then r else (p.1, p.2 + q.2) :: r) else p :: aFi q r
theorem aFi_ok {ρ : List jv} {q : Nat × Int} {v : jv} (hv : ρ[q.1]? = some v) : ∀ {F : List (Nat × Int)} {z : Int}, aEv ρ F = some z → aEv ρ (aFi q F) = some (q.2 * aI v + z)
  | [], z, h => by cases h; exact aEv_i hv rfl
  | p :: r, z, h => by
    obtain ⟨w, y, h1, h2, rfl⟩ := aEv_c h
    unfold aFi
    split
    next e =>
      rw [e, hv] at h1
      cases h1
      split
      next e2 =>
        rw [h2]
        have : p.2 * aI v + q.2 * aI v = 0 := by rw [← Int.add_mul, e2, Int.zero_mul]
        congr 1
        omega
      next =>
        rw [aEv_i (q := (p.1, p.2 + q.2)) (by rw [e]; exact hv) h2]
        congr 1
        have : (p.2 + q.2) * aI v = p.2 * aI v + q.2 * aI v := Int.add_mul _ _ _
        dsimp only
        omega
    next =>
      rw [aEv_i h1 (aFi_ok hv h2)]
      congr 1
      omega
def aFa1 : List (Nat × Int) → List (Nat × Int) → List (Nat × Int)
  | [], B => B
  | q :: r, B => aFi q (aFa1 r B)
theorem aFa1_ok {ρ : List jv} : ∀ {A B : List (Nat × Int)} {x y : Int}, aEv ρ A = some x → aEv ρ B = some y → aEv ρ (aFa1 A B) = some (x + y)
  | [], B, x, y, h1, h2 => by cases h1; unfold aFa1; rw [h2]; congr 1; omega
  | q :: r, B, x, y, h1, h2 => by
    obtain ⟨v, z, k1, k2, rfl⟩ := aEv_c h1
    unfold aFa1
    rw [aFi_ok k1 (aFa1_ok k2 h2)]
    congr 1
    omega
def aSq (c : Int) (A : List (Nat × Int)) : List (Nat × Int) := if c = 0 then [] else A.map (fun q => (q.1, c * q.2))
theorem aSq_1 {ρ : List jv} {c : Int} : ∀ {A : List (Nat × Int)} {x : Int}, aEv ρ A = some x → aEv ρ (A.map (fun q => (q.1, c * q.2))) = some (c * x)
  | [], x, h => by cases h; show some 0 = _; rw [Int.mul_zero]
  | q :: r, x, h => by
    obtain ⟨v, z, k1, k2, rfl⟩ := aEv_c h
    rw [List.map_cons, aEv_i (q := (q.1, c * q.2)) k1 (aSq_1 k2)]
    congr 1
    rw [Int.mul_add, ← Int.mul_assoc]
theorem aSq_ok {ρ : List jv} {c : Int} {A : List (Nat × Int)} {x : Int} (h : aEv ρ A = some x) : aEv ρ (aSq c A) = some (c * x) := by
  unfold aSq
  split
  next e => rw [e, Int.zero_mul]; rfl
  next => exact aSq_1 h
def aFp (A B : aF) : aF := (aFa1 A.1 B.1, A.2 + B.2)
def aFm (c : Int) (A : aF) : aF := (aSq c A.1, c * A.2)
/-- a form's value -/
def aVa (ρ : List jv) (f : aF) (x : Int) : Prop := ∃ z, aEv ρ f.1 = some z ∧ x = z + f.2
theorem aVa_p {ρ : List jv} {A B : aF} {x y : Int} (h1 : aVa ρ A x) (h2 : aVa ρ B y) : aVa ρ (aFp A B) (x + y) := by
  obtain ⟨a, a1, rfl⟩ := h1
  obtain ⟨b, b1, rfl⟩ := h2
  exact ⟨a + b, aFa1_ok a1 b1, by unfold aFp; dsimp only; omega⟩
theorem aVa_m {ρ : List jv} {A : aF} {x : Int} (c : Int) (h1 : aVa ρ A x) : aVa ρ (aFm c A) (c * x) := by
  obtain ⟨a, a1, rfl⟩ := h1
  exact ⟨c * a, aSq_ok a1, by unfold aFm; dsimp only; rw [Int.mul_add]⟩
theorem aVa_k {ρ : List jv} (c : Int) : aVa ρ ([], c) c := ⟨0, rfl, by dsimp only; omega⟩
theorem aVa_f {ρ : List jv} {A : aF} {x y : Int} (h1 : aVa ρ A x) (h2 : aVa ρ A y) : x = y := by
  obtain ⟨a, a1, rfl⟩ := h1
  obtain ⟨b, b1, rfl⟩ := h2
  rw [a1] at b1
  cases b1
  rfl
theorem aVa_mo {ρ ρ' : List jv} (hx : aX ρ ρ') {A : aF} {x : Int} (h : aVa ρ A x) : aVa ρ' A x := by
  obtain ⟨a, a1, rfl⟩ := h
  exact ⟨a, aEv_mo hx a1, rfl⟩
theorem aHd_va {ρ : List jv} {A : aF} : aHd ρ A ↔ ∃ x, aVa ρ A x ∧ 0 ≤ x :=
  ⟨fun ⟨z, h1, h2⟩ => ⟨_, ⟨z, h1, rfl⟩, h2⟩, fun ⟨x, ⟨z, h1, e⟩, h2⟩ => ⟨z, h1, by omega⟩⟩
def aRl (ρ : List jv) (r : Option aF) (v : jv) : Prop := match r with
  | none => True
  | some f => aVa ρ f (aI v)
def aR (K : Nat → Nat) (n : Nat) (env : List aE) (ρ : List jv) : Prop := ρ.length = env.length ∧ ∀ (i : Nat) (e : aE) (v : jv), env[i]? = some e → ρ[i]? = some v → aG K n e.1 v ∧ aRl ρ e.2 v
def aLv (ρ : List jv) (al : List (Option Nat)) (lv : List (Option jv)) : Prop := al.length = lv.length ∧ ∀ (i k : Nat), al[i]? = some (some k) → ∃ v, ρ[k]? = some v ∧ lv[i]? = some (some v)
def aSk (ρ : List jv) : List Nat → List jv → Prop
  | [], [] => True
  | i :: r, v :: s => ρ[i]? = some v ∧ aSk ρ r s
  | _, _ => False
/-- fields that are known -/
def aCa (ρ : List jv) (σ : Nat → jcell) (cc : List (Nat × Nat × Nat)) : Prop := ∀ q ∈ cc, ∃ (a c : Nat) (fs : List jv) (v : jv), ρ[q.1]? = some (.inr (.inr (some (.inl a)))) ∧ σ a = .inr (c, fs) ∧ fs[q.2.1]? = some v ∧ ρ[q.2.2]? = some v
/-- cells of rows that are known, of ints or longs -/
def aGc (ty : FieldType) (m : Nat) : ((Nat → Int32) ⊕ (Nat → Int64)) → jcell
  | .inl g => .inl (ty, m, .inl g)
  | .inr g => .inl (ty, m, .inr (.inl g))
def aGv (i : Nat) : ((Nat → Int32) ⊕ (Nat → Int64)) → jv
  | .inl g => .inl (g i)
  | .inr g => .inr (.inl (g i))
def aCb (ρ : List jv) (σ : Nat → jcell) (cb : List (Nat × aF × Nat)) : Prop := ∀ q ∈ cb, ∃ (a m : Nat) (ty : FieldType) (g : (Nat → Int32) ⊕ (Nat → Int64)) (i : Nat), ρ[q.1]? = some (.inr (.inr (some (.inl a)))) ∧ σ a = aGc ty m g ∧ i < m ∧ aVa ρ q.2.1 (i : Int) ∧ ρ[q.2.2]? = some (aGv i g)
def aVs (ρ : List jv) : List Nat → Option (List jv)
  | [] => some []
  | i :: r => match ρ[i]?, aVs ρ r with
    | some v, some s => some (v :: s)
    | _, _ => none
theorem aVs_mo {ρ ρ' : List jv} (hx : aX ρ ρ') : ∀ {F : List Nat} {z : List jv}, aVs ρ F = some z → aVs ρ' F = some z
  | [], _, h => h
  | q :: r, z, h => by
    unfold aVs at h ⊢
    split at h
    next v y h1 h2 =>
      rw [hx _ _ h1, aVs_mo hx h2]
      exact h
    next => cases h
abbrev aFt (P : Type) : Type := P → Nat → List jv → (Nat → jcell) → Prop
def aFx {P : Type} (F : aFt P) (p : P) (ρ : List jv) (σ : Nat → jcell) (fx : List (Nat × List Nat)) : Prop := ∀ q ∈ fx, ∃ vs, aVs ρ q.2 = some vs ∧ F p q.1 vs σ
def aMm {P : Type} (F : aFt P) (p : P) (ρ : List jv) (σ : Nat → jcell) (m : aM) : Prop := aCa ρ σ m.1 ∧ aCb ρ σ m.2.1 ∧ (∀ f ∈ m.2.2.1, aHd ρ f) ∧ aFx F p ρ σ m.2.2.2
theorem aX_rf {ρ : List jv} : aX ρ ρ := fun _ _ h => h
theorem aX_app {ρ : List jv} {v : jv} : aX ρ (ρ ++ [v]) := fun i w h => by
  rw [List.getElem?_append_left (List.getElem?_eq_some_iff.mp h).1]; exact h
theorem aX.tr {ρ ρ1 ρ2 : List jv} (h : aX ρ ρ1) (h2 : aX ρ1 ρ2) : aX ρ ρ2 := fun i v q => h2 i v (h i v q)
theorem aRl.mo {ρ ρ' : List jv} (hx : aX ρ ρ') {r : Option aF} {v : jv} (h : aRl ρ r v) : aRl ρ' r v := by
  rcases r with _ | q
  · trivial
  · exact aVa_mo hx h
theorem aHd.mo {ρ ρ' : List jv} (hx : aX ρ ρ') {f : aF} (h : aHd ρ f) : aHd ρ' f := by
  obtain ⟨z, h1, h2⟩ := h
  exact ⟨z, aEv_mo hx h1, h2⟩
theorem aLv.mo {ρ ρ' : List jv} (hx : aX ρ ρ') {al : List (Option Nat)} {lv : List (Option jv)} (h : aLv ρ al lv) : aLv ρ' al lv :=
  ⟨h.1, fun i k q => by obtain ⟨v, h1, h2⟩ := h.2 i k q; exact ⟨v, hx _ _ h1, h2⟩⟩
theorem aSk.mo {ρ ρ' : List jv} (hx : aX ρ ρ') : ∀ {al : List Nat} {st : List jv}, aSk ρ al st → aSk ρ' al st
  | [], [], _ => trivial
  | _ :: _, _ :: _, h => ⟨hx _ _ h.1, aSk.mo hx h.2⟩
  | [], _ :: _, h => h.elim
  | _ :: _, [], h => h.elim
theorem aCa.mo {ρ ρ' : List jv} (hx : aX ρ ρ') {σ : Nat → jcell} {cc : List (Nat × Nat × Nat)} (h : aCa ρ σ cc) : aCa ρ' σ cc := fun q hq => by
  obtain ⟨a, c, fs, v, h1, h2, h3, h4⟩ := h q hq
  exact ⟨a, c, fs, v, hx _ _ h1, h2, h3, hx _ _ h4⟩
theorem aCb.mo {ρ ρ' : List jv} (hx : aX ρ ρ') {σ : Nat → jcell} {cc : List (Nat × aF × Nat)} (h : aCb ρ σ cc) : aCb ρ' σ cc := fun q hq => by
  obtain ⟨a, m, ty, g, i, h1, h2, h3, h4, h5⟩ := h q hq
  exact ⟨a, m, ty, g, i, hx _ _ h1, h2, h3, aVa_mo hx h4, hx _ _ h5⟩
theorem aFx.mo {P : Type} {F : aFt P} {p : P} {ρ ρ' : List jv} (hx : aX ρ ρ') {σ : Nat → jcell} {fx : List (Nat × List Nat)} (h : aFx F p ρ σ fx) : aFx F p ρ' σ fx := fun q hq => by
  obtain ⟨vs, h1, h2⟩ := h q hq
  exact ⟨vs, aVs_mo hx h1, h2⟩
theorem aMm.mo {P : Type} {F : aFt P} {p : P} {ρ ρ' : List jv} (hx : aX ρ ρ') {σ : Nat → jcell} {m : aM} (h : aMm F p ρ σ m) : aMm F p ρ' σ m := ⟨h.1.mo hx, h.2.1.mo hx, fun f hf => (h.2.2.1 f hf).mo hx, h.2.2.2.mo hx⟩
theorem aR_push {env : List aE} {ρ : List jv} (h : aR K n env ρ) {t : aT} {r : Option aF} {v : jv} (h1 : aG K n t v) (h2 : aRl ρ r v) : aR K n (env ++ [(t, r)]) (ρ ++ [v]) := by
  refine ⟨by simp [h.1], fun i e w he hw => ?_⟩
  by_cases hi : i < env.length
  · rw [List.getElem?_append_left hi] at he
    rw [List.getElem?_append_left (by rw [h.1]; exact hi)] at hw
    have h3 := h.2 i e w he hw
    exact ⟨h3.1, h3.2.mo aX_app⟩
  · have hl : i = env.length := by
      have := (List.getElem?_eq_some_iff.mp he).1
      simp at this
      omega
    subst hl
    have e1 : e = (t, r) := by simpa using he.symm
    have e2 : w = v := by
      rw [← h.1] at hw
      simpa using hw.symm
    subst e1; subst e2
    exact ⟨h1, h2.mo aX_app⟩
theorem aR_new {env : List aE} {ρ : List jv} (h : aR K n env ρ) {v : jv} : (ρ ++ [v])[env.length]? = some v := by
  rw [← h.1]; simp
def aTy (env : List aE) (i : Nat) : Option aT := match env[i]? with
  | some e => some e.1
  | none => none
theorem aTy_ok {env : List aE} {ρ : List jv} (h : aR K n env ρ) {i : Nat} {t : aT} {v : jv} (ht : aTy env i = some t) (hv : ρ[i]? = some v) : aG K n t v := by
  unfold aTy at ht
  split at ht
  next e he => cases ht; exact (h.2 i e v he hv).1
  next => cases ht
/-- a value's form over the values that have none -/
def aLi (env : List aE) (i : Nat) : aF := match env[i]? with
  | some (_, some r) => r
  | _ => ([(i, 1)], 0)
theorem aLi_ok {env : List aE} {ρ : List jv} (h : aR K n env ρ) {i : Nat} {v : jv} (hv : ρ[i]? = some v) : aVa ρ (aLi env i) (aI v) := by
  unfold aLi
  split
  next t r he => exact (h.2 i _ _ he hv).2
  next => exact ⟨aI v, by rw [aEv_i (q := (i, 1)) hv rfl]; congr 1; dsimp only; omega, by dsimp only; omega⟩
/-! bounds -/
def aLo (env : List aE) (i : Nat) : Option Int := match env[i]? with
  | some (.inl A, _) => some A.1
  | _ => none
def aHi (env : List aE) (i : Nat) : Option Int := match env[i]? with
  | some (.inl A, _) => some A.2
  | _ => none
theorem aLo_ok {env : List aE} {ρ : List jv} (h : aR K n env ρ) {i : Nat} {v : jv} (hv : ρ[i]? = some v) {z : Int} (hz : aLo env i = some z) : z ≤ aI v := by
  unfold aLo at hz
  split at hz
  next A r he =>
    cases hz
    obtain ⟨x, rfl, hx⟩ := aG_int (h.2 i _ _ he hv).1
    exact hx.1
  next => cases hz
theorem aHi_ok {env : List aE} {ρ : List jv} (h : aR K n env ρ) {i : Nat} {v : jv} (hv : ρ[i]? = some v) {z : Int} (hz : aHi env i = some z) : aI v ≤ z := by
  unfold aHi at hz
  split at hz
  next A r he =>
    cases hz
    obtain ⟨x, rfl, hx⟩ := aG_int (h.2 i _ _ he hv).1
    exact hx.2
  next => cases hz
def aLb (env : List aE) : List (Nat × Int) → Option Int
  | [] => some 0
  | q :: r => match aLb env r with
    | some s => if 0 ≤ q.2 then (match aLo env q.1 with
        | some z => some (q.2 * z + s)
        | none => none) else (match aHi env q.1 with
        | some z => some (q.2 * z + s)
        | none => none)
    | none => none
theorem aLb_ok {env : List aE} {ρ : List jv} (h : aR K n env ρ) : ∀ {F : List (Nat × Int)} {s z : Int}, aLb env F = some s → aEv ρ F = some z → s ≤ z
  | [], s, z, h1, h2 => by cases h1; cases h2; exact Int.le_refl _
  | q :: r, s, z, h1, h2 => by
    obtain ⟨v, y, k1, k2, rfl⟩ := aEv_c h2
    unfold aLb at h1
    split at h1
    next s1 hs1 =>
      have i1 := aLb_ok h hs1 k2
      split at h1
      next hq =>
        split at h1
        next z1 hz1 =>
          cases h1
          have i2 := Int.mul_le_mul_of_nonneg_left (aLo_ok h k1 hz1) hq
          omega
        next => cases h1
      next hq =>
        split at h1
        next z1 hz1 =>
          cases h1
          have i2 := Int.mul_le_mul_of_nonpos_left (a := q.2) (by omega) (aHi_ok h k1 hz1)
          omega
        next => cases h1
    next => cases h1
/-- how often an inequality goes into a form: 0 if it does not help -/
def aMu1 (q : Nat × Int) : List (Nat × Int) → Nat
  | [] => 0
  | p :: r => if p.1 = q.1 then (if 0 < p.2 * q.2 then (if q.2.natAbs / p.2.natAbs = 0 then 1 else q.2.natAbs / p.2.natAbs) else 0) else aMu1 q r
def aMu (f : List (Nat × Int)) : List (Nat × Int) → Nat
  | [] => 0
  | q :: r => match aMu1 q f with
    | 0 => aMu f r
    | m => m
def aPr (env : List aE) (cs : List aF) : Nat → aF → Bool
  | 0, f => (match aLb env f.1 with
    | some s => decide (0 ≤ s + f.2)
    | none => false)
  | d + 1, f => (match aLb env f.1 with
    | some s => decide (0 ≤ s + f.2)
    | none => false) || cs.any (fun c => match aMu c.1 f.1 with
      | 0 => false
      | m => aPr env cs d (aFp f (aFm (-(m : Int)) c)))
theorem aPr_b {env : List aE} {ρ : List jv} (h : aR K n env ρ) {f : aF} (hb : (match aLb env f.1 with
    | some s => decide (0 ≤ s + f.2)
    | none => false) = true) {x : Int} (hx : aVa ρ f x) : 0 ≤ x := by
  obtain ⟨z, z1, rfl⟩ := hx
  split at hb
  next s hs =>
    have := aLb_ok h hs z1
    have := of_decide_eq_true hb
    omega
  next => cases hb
theorem aPr_ok {env : List aE} {cs : List aF} {ρ : List jv} (h : aR K n env ρ) (hc : ∀ f ∈ cs, aHd ρ f) : ∀ {d : Nat} {f : aF}, aPr env cs d f = true → ∀ {x : Int}, aVa ρ f x → 0 ≤ x
  | 0, f, hp, x, hx => aPr_b h hp hx
  | d + 1, f, hp, x, hx => by
    unfold aPr at hp
    rw [Bool.or_eq_true] at hp
    rcases hp with hp | hp
    · exact aPr_b h hp hx
    · obtain ⟨c, c1, c2⟩ := List.any_eq_true.mp hp
      split at c2
      next => cases c2
      next m hm =>
        obtain ⟨y, y1, y2⟩ := aHd_va.mp (hc c c1)
        have h1 := aPr_ok h hc c2 (aVa_p hx (aVa_m (-((aMu c.1 f.1 : Nat) : Int)) y1))
        have h2 : 0 ≤ ((aMu c.1 f.1 : Nat) : Int) * y := Int.mul_nonneg (Int.natCast_nonneg _) y2
        rw [Int.neg_mul] at h1
        omega
/-- what a state says of locals, stack and picture -/
def aCx {P : Type} (F : aFt P) (Hp : (Nat → jcell) → Prop) (K : Nat → Nat) (n : Nat) (S : aS) (ρ : List jv) (lv : List (Option jv)) (st : List jv) (σ : Nat → jcell) : Prop := aR K n S.2.2.1 ρ ∧ aLv ρ S.1 lv ∧ aSk ρ S.2.1 st ∧ (∃ p, aMm F p ρ σ S.2.2.2) ∧ Hp σ
/-- what is asked of the goals of a step -/
def aNx {P : Type} (F : aFt P) (Hp : (Nat → jcell) → Prop) (K : Nat → Nat) (n : Nat) (J : jN) (ρ : List jv) (L : List (Nat × aS)) : Prop := ∀ q ∈ L, ∀ (ρ' : List jv) (lv' : List (Option jv)) (st' : List jv) (σ' : Nat → jcell), aX ρ ρ' → aCx F Hp K n q.2 ρ' lv' st' σ' → J q.1 lv' st' σ'
variable {P : Type} {F : aFt P} {Hp : (Nat → jcell) → Prop} {J : jN}
theorem aNx_in {ρ : List jv} {L : List (Nat × aS)} (h : aNx F Hp K n J ρ L) {p : Nat} {S : aS} (hm : (p, S) ∈ L) {ρ' : List jv} {lv : List (Option jv)} {st : List jv} {σ : Nat → jcell} (hx : aX ρ ρ') (hc : aCx F Hp K n S ρ' lv st σ) : J p lv st σ := h _ hm _ _ _ _ hx hc
/-- a new value on the stack, with inequalities -/
def aPv (S : aS) (sk : List Nat) (t : aT) (r : Option aF) (cs : List aF) : aS := (S.1, S.2.2.1.length :: sk, S.2.2.1 ++ [(t, r)], (S.2.2.2.1, S.2.2.2.2.1, cs ++ S.2.2.2.2.2.1, S.2.2.2.2.2.2))
def aPu (S : aS) (sk : List Nat) (t : aT) (r : Option aF) : aS := (S.1, S.2.2.1.length :: sk, S.2.2.1 ++ [(t, r)], S.2.2.2)
theorem aPv_ok {S : aS} {sk : List Nat} {t : aT} {r : Option aF} {cs : List aF} {ρ : List jv} {lv : List (Option jv)} {st st0 : List jv} {σ : Nat → jcell} (hc : aCx F Hp K n S ρ lv st0 σ) (hs : aSk ρ sk st) {v : jv} (h1 : aG K n t v) (h2 : aRl ρ r v) (h3 : ∀ f ∈ cs, aHd (ρ ++ [v]) f) {p : Nat} (h : aNx F Hp K n J ρ [(p, aPv S sk t r cs)]) : J p lv (v :: st) σ := by
  obtain ⟨c1, c2, c3, ⟨p, c4⟩, c5⟩ := hc
  have c6 := c4.mo (aX_app (v := v))
  exact aNx_in h List.mem_cons_self aX_app ⟨aR_push c1 h1 h2, c2.mo aX_app, ⟨aR_new c1, hs.mo aX_app⟩, ⟨p, c6.1, c6.2.1, fun f hf => (List.mem_append.mp hf).elim (h3 f) (c6.2.2.1 f), c6.2.2.2⟩, c5⟩
theorem aPu_ok {S : aS} {sk : List Nat} {t : aT} {r : Option aF} {ρ : List jv} {lv : List (Option jv)} {st st0 : List jv} {σ : Nat → jcell} (hc : aCx F Hp K n S ρ lv st0 σ) (hs : aSk ρ sk st) {v : jv} (h1 : aG K n t v) (h2 : aRl ρ r v) {p : Nat} (h : aNx F Hp K n J ρ [(p, aPu S sk t r)]) : J p lv (v :: st) σ := by
  obtain ⟨c1, c2, c3, ⟨p, c4⟩, c5⟩ := hc
  exact aNx_in h List.mem_cons_self aX_app ⟨aR_push c1 h1 h2, c2.mo aX_app, ⟨aR_new c1, hs.mo aX_app⟩, ⟨p, c4.mo aX_app⟩, c5⟩
theorem aSk_2 {ρ : List jv} {y x : Nat} {r : List Nat} {st : List jv} (h : aSk ρ (y :: x :: r) st) : ∃ (w v : jv) (s : List jv), st = w :: v :: s ∧ ρ[y]? = some w ∧ ρ[x]? = some v ∧ aSk ρ r s := by
  match st, h with
  | w :: v :: s, h => exact ⟨w, v, s, rfl, h.1, h.2.1, h.2.2⟩
theorem aSk_1 {ρ : List jv} {x : Nat} {r : List Nat} {st : List jv} (h : aSk ρ (x :: r) st) : ∃ (v : jv) (s : List jv), st = v :: s ∧ ρ[x]? = some v ∧ aSk ρ r s := by
  match st, h with
  | v :: s, h => exact ⟨v, s, rfl, h.1, h.2⟩
/-- the bounds of an int: those it was made with, and those of its form -/
def aIv (env : List aE) (i : Nat) : Option (Int × Int) := match env[i]? with
  | some (.inl A, none) => some A
  | some (.inl A, some f) => some (match aLb env f.1 with
      | some s => max A.1 (s + f.2)
      | none => A.1, match aLb env (aSq (-1) f.1) with
      | some s => min A.2 (f.2 - s)
      | none => A.2)
  | _ => none
theorem aIv_ok {env : List aE} {ρ : List jv} (h : aR K n env ρ) {i : Nat} {A : Int × Int} (hA : aIv env i = some A) {v : jv} (hv : ρ[i]? = some v) : ∃ x, v = .inl x ∧ aIn A x := by
  unfold aIv at hA
  split at hA
  next B he => cases hA; exact aG_int (h.2 i _ _ he hv).1
  next B f he =>
    cases hA
    obtain ⟨x, rfl, hx⟩ := aG_int (h.2 i _ _ he hv).1
    obtain ⟨z, z1, z2⟩ := (h.2 i _ _ he hv).2
    replace z2 : x.toInt = z + f.2 := z2
    refine ⟨x, rfl, ?_, ?_⟩
    · dsimp only
      split
      next s hs =>
        have := aLb_ok h hs z1
        have := hx.1
        omega
      next => exact hx.1
    · dsimp only
      split
      next s hs =>
        have := aLb_ok h hs (aSq_ok (c := -1) z1)
        have := hx.2
        omega
      next => exact hx.2
  next => cases hA
/-- two ints off the stack, one on it -/
def aFit3 (lo hi : Int) : Bool := decide (-2147483648 ≤ lo) && decide (hi ≤ 2147483647)
def aAlg (c : Nat) (f : aF) : Bool := f.1.all (fun q => decide (q.2 % (c : Int) = 0)) && decide (f.2 % (c : Int) = 0)
theorem aAlg_ev {c : Nat} {ρ : List jv} : ∀ {f : List (Nat × Int)} {z : Int}, f.all (fun q => decide (q.2 % (c : Int) = 0)) = true → aEv ρ f = some z → z % (c : Int) = 0
  | [], z, _, h => by cases h; exact Int.zero_emod _
  | q :: r, z, ha, h => by
    rw [List.all_cons, Bool.and_eq_true] at ha
    unfold aEv at h
    split at h
    next v y h1 h2 =>
      cases h
      have i1 := aAlg_ev ha.2 h2
      have i2 : q.2 % (c : Int) = 0 := of_decide_eq_true ha.1
      rw [Int.add_emod, Int.mul_emod, i2, i1]
      simp
    next => cases h
theorem aAlg_ok {c : Nat} {ρ : List jv} {f : aF} {x : Int} (h : aAlg c f = true) (hv : aVa ρ f x) : x % (c : Int) = 0 := by
  obtain ⟨z, h1, rfl⟩ := hv
  unfold aAlg at h
  rw [Bool.and_eq_true] at h
  have i1 := aAlg_ev h.1 h1
  have i2 : f.2 % (c : Int) = 0 := of_decide_eq_true h.2
  rw [Int.add_emod, i1, i2]
  simp
def aRel (k : Nat) (env : List aE) (x y : Nat) (A B : Int × Int) : Option aF := match k with
  | 1 => if aFit3 (A.1 + B.1) (A.2 + B.2) = true then some (aFp (aLi env x) (aLi env y)) else none
  | 2 => if aFit3 (A.1 - B.2) (A.2 - B.1) = true then some (aFp (aLi env x) (aFm (-1) (aLi env y))) else none
  | 3 => if B.1 = B.2 ∧ aFit3 (min (A.1 * B.1) (A.2 * B.1)) (max (A.1 * B.1) (A.2 * B.1)) = true then some (aFm B.1 (aLi env x)) else if A.1 = A.2 ∧ aFit3 (min (B.1 * A.1) (B.2 * A.1)) (max (B.1 * A.1) (B.2 * A.1)) = true then some (aFm A.1 (aLi env y)) else none
  | 4 => if aK1 B = true ∧ 0 ≤ A.1 ∧ A.2 * 2 ^ B.1.toNat ≤ 2147483647 then some (aFm (2 ^ B.1.toNat) (aLi env x)) else none
  | 5 => if 0 ≤ A.1 ∧ 0 ≤ B.1 ∧ aAlg (2 ^ (Nat.log2 B.2.toNat + 1)) (aLi env x) = true then some (aFp (aLi env x) (aLi env y)) else none
  | 6 => if B.1 = B.2 ∧ 0 ≤ A.1 ∧ A.2 ≤ B.1 ∧ ([1, 3, 7, 15, 31, 63] : List Int).any (fun c => decide (c = B.1)) = true then some (aFp ([], B.1) (aFm (-1) (aLi env x))) else none
  | _ => none
theorem aXor_i {x y : Int32} {A B : Int × Int} (hA : aIn A x) (hB : aIn B y) (h : B.1 = B.2 ∧ 0 ≤ A.1 ∧ A.2 ≤ B.1 ∧ ([1, 3, 7, 15, 31, 63] : List Int).any (fun c => decide (c = B.1)) = true) : (x ^^^ y).toInt = B.1 + -1 * x.toInt := by
  obtain ⟨h1, h2, h3, h4⟩ := h
  obtain ⟨a1, a2⟩ := hA
  obtain ⟨b1, b2⟩ := hB
  obtain ⟨c, c1, c2⟩ := List.any_eq_true.mp h4
  have c2 : c = B.1 := of_decide_eq_true c2
  have hc : 1 ≤ c ∧ c ≤ 63 := by
    simp only [List.mem_cons, List.not_mem_nil, or_false] at c1
    omega
  obtain ⟨e1, e2⟩ := aNat (x := x) (by omega)
  obtain ⟨e3, e4⟩ := aNat (x := y) (by omega)
  have key : ∀ (u : Fin 64) (v : Fin 64), (v.val = 1 ∨ v.val = 3 ∨ v.val = 7 ∨ v.val = 15 ∨ v.val = 31 ∨ v.val = 63) → u.val ≤ v.val → u.val ^^^ v.val = v.val - u.val := by decide +kernel
  have k1 := key ⟨x.toBitVec.toNat, by omega⟩ ⟨y.toBitVec.toNat, by omega⟩ (by
    simp only [List.mem_cons, List.not_mem_nil, or_false] at c1
    dsimp only
    omega) (by dsimp only; omega)
  dsimp only at k1
  have k2 : (x ^^^ y).toBitVec.toNat = y.toBitVec.toNat - x.toBitVec.toNat := by rw [Int32.toBitVec_xor, BitVec.toNat_xor]; exact k1
  have k3 := aNat' k2 (by omega)
  omega
theorem aOr_i {x y : Int32} {A B : Int × Int} (hA : aIn A x) (hB : aIn B y) {e : Nat} (he : e = Nat.log2 B.2.toNat + 1) (h1 : 0 ≤ A.1) (h2 : 0 ≤ B.1) (h3 : x.toInt % (2 ^ e : Nat) = 0) : (x ||| y).toInt = x.toInt + y.toInt := by
  obtain ⟨a1, a2⟩ := hA
  obtain ⟨b1, b2⟩ := hB
  obtain ⟨e1, e2⟩ := aNat (x := x) (by omega)
  obtain ⟨e3, e4⟩ := aNat (x := y) (by omega)
  have l1 : B.2.toNat < 2 ^ e := by rw [he]; exact Nat.lt_log2_self
  have l2 : y.toBitVec.toNat < 2 ^ e := by omega
  have l3 : x.toBitVec.toNat % 2 ^ e = 0 := by
    rw [e1] at h3
    exact_mod_cast h3
  have l4 : 2 ^ e * (x.toBitVec.toNat / 2 ^ e) = x.toBitVec.toNat := by
    have := Nat.div_add_mod x.toBitVec.toNat (2 ^ e)
    omega
  have l5 := Nat.two_pow_add_eq_or_of_lt l2 (x.toBitVec.toNat / 2 ^ e)
  rw [l4] at l5
  have l6 : (x ||| y).toBitVec.toNat = x.toBitVec.toNat + y.toBitVec.toNat := by rw [Int32.toBitVec_or, BitVec.toNat_or, ← l5]
  have l7 : x.toBitVec.toNat + y.toBitVec.toNat < 2147483648 := by
    rw [← l6, Int32.toBitVec_or, BitVec.toNat_or]
    exact Nat.or_lt_two_pow (n := 31) (by omega) (by omega)
  have l8 := aNat' l6 l7
  omega
def aCop (k : Nat) (f : Int32 → Int32 → Int32) : Prop := (k = 5 → ∀ x y, f x y = x ||| y) ∧ (k = 6 → ∀ x y, f x y = x ^^^ y) ∧ (k = 1 → ∀ x y, f x y = x + y) ∧ (k = 2 → ∀ x y, f x y = x - y) ∧ (k = 3 → ∀ x y, f x y = x * y) ∧ (k = 4 → ∀ x y, f x y = x <<< (y &&& 31))
theorem aShl_i {x y : Int32} {A B : Int × Int} (hA : aIn A x) (hB : aIn B y) (h : aK1 B = true ∧ 0 ≤ A.1 ∧ A.2 * 2 ^ B.1.toNat ≤ 2147483647) : (x <<< (y &&& 31)).toInt = 2 ^ B.1.toNat * x.toInt := by
  obtain ⟨k1, k2⟩ := aK1_ok h.1 hB
  obtain ⟨h3, h4⟩ := hA
  obtain ⟨e1, e2⟩ := aNat (x := x) (by omega)
  have h5 := aShl_l (x := x) k1 k2
  have hp : (0 : Int) ≤ 2 ^ B.1.toNat := Int.pow_nonneg (by decide)
  have m2 := Int.mul_le_mul_of_nonneg_right h4 hp
  have c1 : ((x.toBitVec.toNat * 2 ^ B.1.toNat : Nat) : Int) = x.toInt * 2 ^ B.1.toNat := by rw [e1]; push_cast; rfl
  have h6 : x.toBitVec.toNat * 2 ^ B.1.toNat < 2147483648 := by omega
  rw [Nat.mod_eq_of_lt (by omega)] at h5
  rw [aNat' h5 h6, c1, Int.mul_comm]
theorem aRel_ok {env : List aE} {ρ : List jv} (h : aR K n env ρ) {k : Nat} {f : Int32 → Int32 → Int32} (hk : aCop k f) {i j : Nat} {x y : Int32} (hx : ρ[i]? = some (.inl x)) (hy : ρ[j]? = some (.inl y)) {A B : Int × Int} (hA : aIn A x) (hB : aIn B y) : aRl ρ (aRel k env i j A B) (.inl (f x y)) := by
  have rx := aLi_ok h hx
  have ry := aLi_ok h hy
  have a1 := hA.1
  have a2 := hA.2
  have b1 := hB.1
  have b2 := hB.2
  unfold aRel
  split
  · split
    next hf =>
      simp only [aFit3, Bool.and_eq_true, decide_eq_true_eq] at hf
      have e1 : (f x y).toInt = x.toInt + y.toInt := by
        rw [hk.2.2.1 rfl, Int32.toInt_add]
        exact Int.bmod_eq_of_le (by omega) (by omega)
      show aVa ρ _ (f x y).toInt
      rw [e1]
      exact aVa_p rx ry
    next => trivial
  · split
    next hf =>
      simp only [aFit3, Bool.and_eq_true, decide_eq_true_eq] at hf
      have e1 : (f x y).toInt = x.toInt + -1 * y.toInt := by
        rw [hk.2.2.2.1 rfl, Int32.toInt_sub, show x.toInt + -1 * y.toInt = x.toInt - y.toInt by omega]
        exact Int.bmod_eq_of_le (by omega) (by omega)
      show aVa ρ _ (f x y).toInt
      rw [e1]
      exact aVa_p rx (aVa_m (-1) ry)
    next => trivial
  · split
    next hf =>
      obtain ⟨hb, hf⟩ := hf
      simp only [aFit3, Bool.and_eq_true, decide_eq_true_eq] at hf
      have ey : y.toInt = B.1 := by omega
      have m1 := aMul_l (y := B.1) a1 a2
      have e1 : (f x y).toInt = B.1 * x.toInt := by
        rw [hk.2.2.2.2.1 rfl, Int32.toInt_mul, ey, Int.mul_comm B.1]
        exact Int.bmod_eq_of_le (by omega) (by omega)
      show aVa ρ _ (f x y).toInt
      rw [e1]
      exact aVa_m _ rx
    next =>
      split
      next hf =>
        obtain ⟨hb, hf⟩ := hf
        simp only [aFit3, Bool.and_eq_true, decide_eq_true_eq] at hf
        have ey : x.toInt = A.1 := by omega
        have m1 := aMul_l (y := A.1) b1 b2
        have e1 : (f x y).toInt = A.1 * y.toInt := by
          rw [hk.2.2.2.2.1 rfl, Int32.toInt_mul, ey, Int.mul_comm A.1]
          exact Int.bmod_eq_of_le (by omega) (by omega)
        show aVa ρ _ (f x y).toInt
        rw [e1]
        exact aVa_m _ ry
      next => trivial
  · split
    next hf =>
      show aVa ρ _ (f x y).toInt
      rw [hk.2.2.2.2.2 rfl, aShl_i hA hB hf]
      exact aVa_m _ rx
    next => trivial
  · split
    next hf =>
      show aVa ρ _ (f x y).toInt
      have h9 := aAlg_ok hf.2.2 rx
      replace h9 : x.toInt % ((2 ^ (Nat.log2 B.2.toNat + 1) : Nat) : Int) = 0 := h9
      rw [hk.1 rfl, aOr_i hA hB rfl hf.1 hf.2.1 h9]
      exact aVa_p rx ry
    next => trivial
  · split
    next hf =>
      show aVa ρ _ (f x y).toInt
      rw [hk.2.1 rfl, aXor_i hA hB hf]
      exact aVa_p (aVa_k _) (aVa_m (-1) rx)
    next => trivial
  · trivial
def aBin (op : Int × Int → Int × Int → Int × Int) (k : Nat) (S : aS) (p : Nat) : Option (List (Nat × aS)) := match S.2.1 with
  | y :: x :: r => match aIv S.2.2.1 x, aIv S.2.2.1 y with
    | some A, some B => some [(p, aPu S r (.inl (op A B)) (aRel k S.2.2.1 x y A B))]
    | _, _ => none
  | _ => none
theorem aBin_ok {op : Int × Int → Int × Int → Int × Int} {k : Nat} {f : Int32 → Int32 → Int32} (hk : aCop k f) (hop : ∀ {A B : Int × Int} {x y : Int32}, aIn A x → aIn B y → aIn (op A B) (f x y)) {S : aS} {p : Nat} {L : List (Nat × aS)} (hb : aBin op k S p = some L) {ρ : List jv} {lv : List (Option jv)} {st : List jv} {σ : Nat → jcell} (hc : aCx F Hp K n S ρ lv st σ) (h : aNx F Hp K n J ρ L) : j2 st fun x y r => J p lv (.inl (f x y) :: r) σ := by
  unfold aBin at hb
  split at hb
  next y x r hs =>
    split at hb
    next A B hA hB =>
      cases hb
      obtain ⟨w, v, s, rfl, h1, h2, h3⟩ := aSk_2 (hs ▸ hc.2.2.1)
      obtain ⟨x0, rfl, hx⟩ := aIv_ok hc.1 hA h2
      obtain ⟨y0, rfl, hy⟩ := aIv_ok hc.1 hB h1
      exact aPu_ok (t := .inl (op A B)) (v := .inl (f x0 y0)) hc h3 (hop hx hy) (aRel_ok hc.1 hk h2 h1 hx hy) h
    next => cases hb
  next => cases hb
/-- a quotient or a shift to the right: two inequalities beside the bounds -/
def aQcs (env : List aE) (x : Nat) (c : Int) : List aF := [aFp (aLi env x) ([(env.length, -c)], 0), aFp ([(env.length, c)], c - 1) (aFm (-1) (aLi env x))]
theorem aQcs_ok {env : List aE} {ρ : List jv} (h : aR K n env ρ) {i : Nat} {x z : Int32} (hx : ρ[i]? = some (.inl x)) {c : Int} (hc : 0 < c) (hz : z.toInt = x.toInt / c) : ∀ f ∈ aQcs env i c, aHd (ρ ++ [.inl z]) f := by
  have rx := aVa_mo (aX_app (v := (.inl z : jv))) (aLi_ok h hx)
  replace rx : aVa (ρ ++ [.inl z]) (aLi env i) x.toInt := rx
  have rz : ∀ k : Int, aVa (ρ ++ [.inl z]) ([(env.length, k)], 0) (k * z.toInt) := fun k => ⟨k * z.toInt, by rw [aEv_i (q := (env.length, k)) (aR_new h) rfl]; congr 1; exact Int.add_zero _, by dsimp only; omega⟩
  have d1 := Int.ediv_mul_add_emod x.toInt c
  have d2 := Int.emod_nonneg x.toInt (show c ≠ 0 by omega)
  have d3 := Int.emod_lt_of_pos x.toInt hc
  rw [← hz, Int.mul_comm] at d1
  intro f hf
  rcases List.mem_cons.mp hf with rfl | hf
  · refine aHd_va.mpr ⟨_, aVa_p rx (rz (-c)), ?_⟩
    rw [Int.neg_mul]
    omega
  · rcases List.mem_cons.mp hf with rfl | hf
    · have h9 : aVa (ρ ++ [.inl z]) ([(env.length, c)], c - 1) (c * z.toInt + (c - 1)) := ⟨c * z.toInt, by rw [aEv_i (q := (env.length, c)) (aR_new h) rfl]; congr 1; exact Int.add_zero _, rfl⟩
      refine aHd_va.mpr ⟨_, aVa_p h9 (aVa_m (-1) rx), by omega⟩
    · cases hf
/-- a quotient that is known already -/
def aQj (env : List aE) (x j : Nat) (c : Int) : List aF := [aFp (aLi env x) ([(j, -c)], 0), aFp ([(j, c)], c - 1) (aFm (-1) (aLi env x))]
def aQf (S : aS) (x : Nat) (A : Int × Int) (c : Int) : Option Nat := (List.range S.2.2.1.length).find? (fun j => match S.2.2.1[j]? with
  | some (.inl T, none) => decide (T.1 = A.1 / c) && (decide (T.2 = A.2 / c) && (aQj S.2.2.1 x j c).all (fun f => decide (f ∈ S.2.2.2.2.2.1)))
  | _ => false)
theorem aQf_ok {S : aS} {x j : Nat} {A : Int × Int} {c : Int} (h : aQf S x A c = some j) (hp : 0 < c) {ρ : List jv} {lv : List (Option jv)} {st : List jv} {σ : Nat → jcell} (hc : aCx F Hp K n S ρ lv st σ) {x0 : Int32} (hx : ρ[x]? = some (.inl x0)) : ∃ z : Int32, ρ[j]? = some (.inl z) ∧ z.toInt = x0.toInt / c := by
  have h1 := List.find?_some h
  split at h1
  next T he =>
    rw [Bool.and_eq_true, Bool.and_eq_true] at h1
    have h2 : ∀ f ∈ aQj S.2.2.1 x j c, f ∈ S.2.2.2.2.2.1 := fun f hf => of_decide_eq_true (List.all_eq_true.mp h1.2.2 f hf)
    obtain ⟨c1, c2, c3, ⟨p, m1, m2, m3, m4⟩, c5⟩ := hc
    have hj : j < ρ.length := by rw [c1.1]; exact (List.getElem?_eq_some_iff.mp he).1
    have hv : ρ[j]? = some (ρ[j]'hj) := List.getElem?_eq_getElem hj
    obtain ⟨z, hz, -⟩ := aG_int ((c1.2 j _ _ he hv).1)
    rw [hz] at hv
    refine ⟨z, hv, ?_⟩
    have rx := aLi_ok c1 hx
    replace rx : aVa ρ (aLi S.2.2.1 x) x0.toInt := rx
    have rz : aVa ρ ([(j, -c)], 0) (-c * z.toInt) := ⟨-c * z.toInt, by rw [aEv_i (q := (j, -c)) hv rfl]; congr 1; exact Int.add_zero _, by dsimp only; omega⟩
    have h9 : aVa ρ ([(j, c)], c - 1) (c * z.toInt + (c - 1)) := ⟨c * z.toInt, by rw [aEv_i (q := (j, c)) hv rfl]; congr 1; exact Int.add_zero _, rfl⟩
    obtain ⟨y1, y2, y3⟩ := aHd_va.mp (m3 _ (h2 _ List.mem_cons_self))
    have e1 := aVa_f y2 (aVa_p rx rz)
    obtain ⟨w1, w2, w3⟩ := aHd_va.mp (m3 _ (h2 _ (List.mem_cons_of_mem _ List.mem_cons_self)))
    have e2 := aVa_f w2 (aVa_p h9 (aVa_m (-1) rx))
    rw [Int.neg_mul] at e1
    have e3 : z.toInt ≤ x0.toInt / c := (Int.le_ediv_iff_mul_le hp).mpr (by rw [Int.mul_comm]; omega)
    have e4 : x0.toInt / c < z.toInt + 1 := (Int.ediv_lt_iff_lt_mul hp).mpr (by rw [Int.add_mul, Int.mul_comm z.toInt c]; omega)
    omega
  next => cases h1
/-- a remainder: its quotient first -/
def aRmd (S : aS) (x : Nat) (r : List Nat) (A : Int × Int) (c : Int) (p : Nat) : List (Nat × aS) := match aQf S x A c with
  | some j => [(p, aPu S r (.inl (0, c - 1)) (some (aFp (aLi S.2.2.1 x) ([(j, -c)], 0))))]
  | none => [(p, aPu (S.1, S.2.1, S.2.2.1 ++ [(.inl (A.1 / c, A.2 / c), none)], (S.2.2.2.1, S.2.2.2.2.1, aQcs S.2.2.1 x c ++ S.2.2.2.2.2.1, S.2.2.2.2.2.2)) r (.inl (0, c - 1)) (some (aFp (aLi S.2.2.1 x) ([(S.2.2.1.length, -c)], 0))))]
theorem aRmd_ok {S : aS} {x : Nat} {r : List Nat} {A : Int × Int} {c : Int} {p : Nat} {ρ : List jv} {lv : List (Option jv)} {st st0 : List jv} {σ : Nat → jcell} (hc : aCx F Hp K n S ρ lv st0 σ) (hs : aSk ρ r st) {x0 : Int32} (hx : ρ[x]? = some (.inl x0)) (hA : aIn A x0) (hp : 0 < c) {q z : Int32} (hq : q.toInt = x0.toInt / c) (hz : z.toInt = x0.toInt % c) (h : aNx F Hp K n J ρ (aRmd S x r A c p)) : J p lv (.inl z :: st) σ := by
  have d2 := Int.emod_nonneg x0.toInt (show c ≠ 0 by omega)
  have d3 := Int.emod_lt_of_pos x0.toInt hp
  have hin : aIn (0, c - 1) z := ⟨by rw [hz]; exact d2, by rw [hz]; dsimp only; omega⟩
  have d4 : z.toInt = x0.toInt + -c * (x0.toInt / c) := by rw [hz, Int.emod_def, Int.neg_mul]; omega
  unfold aRmd at h
  split at h
  next j hj =>
    obtain ⟨z1, k1, k2⟩ := aQf_ok hj hp hc hx
    have rx := aLi_ok hc.1 hx
    replace rx : aVa ρ (aLi S.2.2.1 x) x0.toInt := rx
    have rz : aVa ρ ([(j, -c)], 0) (-c * z1.toInt) := ⟨-c * z1.toInt, by rw [aEv_i (q := (j, -c)) k1 rfl]; congr 1; exact Int.add_zero _, by dsimp only; omega⟩
    refine aPu_ok (t := .inl (0, c - 1)) (v := .inl z) hc hs hin ?_ h
    show aVa ρ _ z.toInt
    rw [d4, ← k2]
    exact aVa_p rx rz
  next =>
    have hq2 : aIn (A.1 / c, A.2 / c) q := ⟨by rw [hq]; exact Int.ediv_le_ediv hp hA.1, by rw [hq]; exact Int.ediv_le_ediv hp hA.2⟩
    have hcs := aQcs_ok hc.1 hx hp hq
    obtain ⟨c1, c2, c3, ⟨p9, c4⟩, c5⟩ := hc
    have c6 := c4.mo (aX_app (v := (.inl q : jv)))
    have hc1 : aCx F Hp K n (S.1, S.2.1, S.2.2.1 ++ [(.inl (A.1 / c, A.2 / c), none)], (S.2.2.2.1, S.2.2.2.2.1, aQcs S.2.2.1 x c ++ S.2.2.2.2.2.1, S.2.2.2.2.2.2)) (ρ ++ [.inl q]) lv st0 σ := ⟨aR_push (r := none) c1 hq2 trivial, c2.mo aX_app, c3.mo aX_app, ⟨p9, c6.1, c6.2.1, fun f hf => (List.mem_append.mp hf).elim (hcs f) (c6.2.2.1 f), c6.2.2.2⟩, c5⟩
    have rx := aVa_mo (aX_app (v := (.inl q : jv))) (aLi_ok c1 hx)
    replace rx : aVa (ρ ++ [.inl q]) (aLi S.2.2.1 x) x0.toInt := rx
    have rz : aVa (ρ ++ [.inl q]) ([(S.2.2.1.length, -c)], 0) (-c * q.toInt) := ⟨-c * q.toInt, by rw [aEv_i (q := (S.2.2.1.length, -c)) (aR_new c1) rfl]; congr 1; exact Int.add_zero _, by dsimp only; omega⟩
    refine aPu_ok (t := .inl (0, c - 1)) (v := .inl z) hc1 (hs.mo aX_app) hin ?_ (fun q9 hq9 ρ' lv' st' σ' hx9 hc9 => h q9 hq9 ρ' lv' st' σ' (aX_app.tr hx9) hc9)
    show aVa (ρ ++ [.inl q]) _ z.toInt
    rw [d4, ← hq]
    exact aVa_p rx rz
def aDv (S : aS) (p : Nat) : Option (List (Nat × aS)) := match S.2.1 with
  | y :: x :: r => match aIv S.2.2.1 x, aIv S.2.2.1 y with
    | some A, some B => if B.1 = B.2 ∧ 1 ≤ B.1 ∧ 0 ≤ A.1 then (match aQf S x A B.1 with
      | some j => some [(p, (S.1, j :: r, S.2.2.1, S.2.2.2))]
      | none => some [(p, aPv S r (.inl (A.1 / B.1, A.2 / B.1)) none (aQcs S.2.2.1 x B.1))]) else none
    | _, _ => none
  | _ => none
theorem aDv_ok {S : aS} {p : Nat} {L : List (Nat × aS)} (hb : aDv S p = some L) {ρ : List jv} {lv : List (Option jv)} {st : List jv} {σ : Nat → jcell} (hc : aCx F Hp K n S ρ lv st σ) (h : aNx F Hp K n J ρ L) : j2 st fun x y r => ¬ y = 0 ∧ J p lv (.inl (x / y) :: r) σ := by
  unfold aDv at hb
  split at hb
  next y x r hs =>
    split at hb
    next A B hA hB =>
      split at hb
      next hz =>
        obtain ⟨w, v, s, rfl, h1, h2, h3⟩ := aSk_2 (hs ▸ hc.2.2.1)
        obtain ⟨x0, rfl, hx⟩ := aIv_ok hc.1 hA h2
        obtain ⟨y0, rfl, hy⟩ := aIv_ok hc.1 hB h1
        obtain ⟨z1, z2, z3⟩ := hz
        have a1 := hx.1
        have a2 := hx.2
        have ey : y0.toInt = B.1 := by have := hy.1; have := hy.2; omega
        have e1 : (x0 / y0).toInt = x0.toInt / B.1 := by rw [← ey]; exact aDiv_l (by omega) (by omega)
        have hne : ¬ y0 = 0 := fun q => by
          subst q
          have : (0 : Int32).toInt = 0 := by decide
          omega
        split at hb
        next j hj =>
          cases hb
          obtain ⟨z, k1, k2⟩ := aQf_ok hj (by omega) hc h2
          have e3 : x0 / y0 = z := Int32.toInt_inj.mp (e1.trans k2.symm)
          refine ⟨hne, ?_⟩
          rw [e3]
          exact aNx_in h List.mem_cons_self aX_rf ⟨hc.1, hc.2.1, ⟨k1, h3⟩, hc.2.2.2⟩
        next =>
          cases hb
          exact ⟨hne, aPv_ok (t := .inl (A.1 / B.1, A.2 / B.1)) (v := .inl (x0 / y0)) (r := none) hc h3 ⟨by rw [e1]; exact Int.ediv_le_ediv (by omega) a1, by rw [e1]; exact Int.ediv_le_ediv (by omega) a2⟩ trivial (aQcs_ok hc.1 h2 (by omega) e1) h⟩
      next => cases hb
    next => cases hb
  next => cases hb
def aRm (S : aS) (p : Nat) : Option (List (Nat × aS)) := match S.2.1 with
  | y :: x :: r => match aIv S.2.2.1 x, aIv S.2.2.1 y with
    | some A, some B => if B.1 = B.2 ∧ 1 ≤ B.1 ∧ 0 ≤ A.1 then some (aRmd S x r A B.1 p) else none
    | _, _ => none
  | _ => none
theorem aRm_ok {S : aS} {p : Nat} {L : List (Nat × aS)} (hb : aRm S p = some L) {ρ : List jv} {lv : List (Option jv)} {st : List jv} {σ : Nat → jcell} (hc : aCx F Hp K n S ρ lv st σ) (h : aNx F Hp K n J ρ L) : j2 st fun x y r => ¬ y = 0 ∧ J p lv (.inl (x - x / y * y) :: r) σ := by
  unfold aRm at hb
  split at hb
  next y x r hs =>
    split at hb
    next A B hA hB =>
      split at hb
      next hz =>
        cases hb
        obtain ⟨w, v, s, rfl, h1, h2, h3⟩ := aSk_2 (hs ▸ hc.2.2.1)
        obtain ⟨x0, rfl, hx⟩ := aIv_ok hc.1 hA h2
        obtain ⟨y0, rfl, hy⟩ := aIv_ok hc.1 hB h1
        obtain ⟨z1, z2, z3⟩ := hz
        have a1 := hx.1
        have ey : y0.toInt = B.1 := by have := hy.1; have := hy.2; omega
        have e1 : (x0 / y0).toInt = x0.toInt / B.1 := by rw [← ey]; exact aDiv_l (by omega) (by omega)
        have e2 : (x0 - x0 / y0 * y0).toInt = x0.toInt % B.1 := by rw [← ey]; exact aRem_l (by omega) (by omega)
        refine ⟨fun q => ?_, aRmd_ok hc h3 h2 hx (by omega) e1 e2 h⟩
        subst q
        have : (0 : Int32).toInt = 0 := by decide
        omega
      next => cases hb
    next => cases hb
  next => cases hb
def aSr (S : aS) (p : Nat) : Option (List (Nat × aS)) := match S.2.1 with
  | y :: x :: r => match aIv S.2.2.1 x, aIv S.2.2.1 y with
    | some A, some B => if aK1 B = true then (match aQf S x A (2 ^ B.1.toNat) with
      | some j => some [(p, (S.1, j :: r, S.2.2.1, S.2.2.2))]
      | none => some [(p, aPv S r (.inl (aShr A B)) none (aQcs S.2.2.1 x (2 ^ B.1.toNat)))]) else some [(p, aPu S r (.inl (aShr A B)) none)]
    | _, _ => none
  | _ => none
theorem aSr_ok {S : aS} {p : Nat} {L : List (Nat × aS)} (hb : aSr S p = some L) {ρ : List jv} {lv : List (Option jv)} {st : List jv} {σ : Nat → jcell} (hc : aCx F Hp K n S ρ lv st σ) (h : aNx F Hp K n J ρ L) : j2 st fun x y r => J p lv (.inl (x >>> (y &&& 31)) :: r) σ := by
  unfold aSr at hb
  split at hb
  next y x r hs =>
    split at hb
    next A B hA hB =>
      obtain ⟨w, v, s, rfl, h1, h2, h3⟩ := aSk_2 (hs ▸ hc.2.2.1)
      obtain ⟨x0, rfl, hx⟩ := aIv_ok hc.1 hA h2
      obtain ⟨y0, rfl, hy⟩ := aIv_ok hc.1 hB h1
      split at hb
      next hz =>
        obtain ⟨k1, k2⟩ := aK1_ok hz hy
        obtain ⟨c, e1, e2⟩ := aShr_l x0 y0
        obtain rfl := e2 _ k2 k1
        split at hb
        next j hj =>
          cases hb
          obtain ⟨z, q1, q2⟩ := aQf_ok hj (Int.pow_pos (by decide)) hc h2
          have e3 : x0 >>> (y0 &&& 31) = z := Int32.toInt_inj.mp (e1.trans q2.symm)
          show J p lv (.inl (x0 >>> (y0 &&& 31)) :: s) σ
          rw [e3]
          exact aNx_in h List.mem_cons_self aX_rf ⟨hc.1, hc.2.1, ⟨q1, h3⟩, hc.2.2.2⟩
        next =>
        cases hb
        exact aPv_ok (t := .inl (aShr A B)) (v := .inl (x0 >>> (y0 &&& 31))) (r := none) hc h3 (aShr_ok hx hy) trivial (aQcs_ok hc.1 h2 (Int.pow_pos (by decide)) e1) h
      next =>
        cases hb
        exact aPu_ok (t := .inl (aShr A B)) (v := .inl (x0 >>> (y0 &&& 31))) (r := none) hc h3 (aShr_ok hx hy) trivial h
    next => cases hb
  next => cases hb
def aPw (c : Int) : Bool := (List.range 31).any (fun k => decide ((2 : Int) ^ k = c))
theorem aAnd_m {x y : Int32} (hx : 0 ≤ x.toInt) (hy : 0 ≤ y.toInt) (h : aPw (y.toInt + 1) = true) : (x &&& y).toInt = x.toInt % (y.toInt + 1) := by
  obtain ⟨k, k1, k2⟩ := List.any_eq_true.mp h
  rw [decide_eq_true_eq] at k2
  obtain ⟨e1, e2⟩ := aNat (x := x) hx
  obtain ⟨e3, e4⟩ := aNat (x := y) hy
  have h9 : ((2 ^ k : Nat) : Int) = y.toInt + 1 := by rw [← k2]; exact Int.natCast_pow 2 k
  have h2 : y.toBitVec.toNat = 2 ^ k - 1 := by omega
  have h1 : (x &&& y).toBitVec.toNat = x.toBitVec.toNat % 2 ^ k := by rw [Int32.toBitVec_and, BitVec.toNat_and, h2, Nat.and_two_pow_sub_one_eq_mod]
  have h4 : x.toBitVec.toNat % 2 ^ k ≤ x.toBitVec.toNat := Nat.mod_le _ _
  rw [aNat' h1 (by omega), Int.natCast_emod, h9, e1]
def aAd (S : aS) (p : Nat) : Option (List (Nat × aS)) := match S.2.1 with
  | y :: x :: r => match aIv S.2.2.1 x, aIv S.2.2.1 y with
    | some A, some B => if B.1 = B.2 ∧ 0 ≤ B.1 ∧ 0 ≤ A.1 ∧ B.1 < A.2 ∧ aPw (B.1 + 1) = true then some (aRmd S x r A (B.1 + 1) p) else none
    | _, _ => none
  | _ => none
theorem aAd_ok {S : aS} {p : Nat} {L : List (Nat × aS)} (hb : aAd S p = some L) {ρ : List jv} {lv : List (Option jv)} {st : List jv} {σ : Nat → jcell} (hc : aCx F Hp K n S ρ lv st σ) (h : aNx F Hp K n J ρ L) : j2 st fun x y r => J p lv (.inl (x &&& y) :: r) σ := by
  unfold aAd at hb
  split at hb
  next y x r hs =>
    split at hb
    next A B hA hB =>
      split at hb
      next hz =>
        cases hb
        obtain ⟨w, v, s, rfl, h1, h2, h3⟩ := aSk_2 (hs ▸ hc.2.2.1)
        obtain ⟨x0, rfl, hx⟩ := aIv_ok hc.1 hA h2
        obtain ⟨y0, rfl, hy⟩ := aIv_ok hc.1 hB h1
        obtain ⟨z1, z2, z3, z4, z5⟩ := hz
        have a1 := hx.1
        have ey : y0.toInt = B.1 := by have := hy.1; have := hy.2; omega
        have e2 : (x0 &&& y0).toInt = x0.toInt % (B.1 + 1) := by rw [← ey]; exact aAnd_m (by omega) (by omega) (by rw [ey]; exact z5)
        have b1 : 0 ≤ x0.toInt / (B.1 + 1) := Int.ediv_nonneg (by omega) (by omega)
        have b2 : x0.toInt / (B.1 + 1) ≤ x0.toInt := Int.ediv_le_self _ (by omega)
        have b3 := Int32.toInt_lt x0
        have e1 : (Int32.ofInt (x0.toInt / (B.1 + 1))).toInt = x0.toInt / (B.1 + 1) := by
          rw [Int32.toInt_ofInt]
          have b4 : (Int32.size : Int) = 4294967296 := rfl
          exact Int.bmod_eq_of_le (by omega) (by omega)
        exact aRmd_ok hc h3 h2 hx (by omega) e1 e2 h
      next => cases hb
    next => cases hb
  next => cases hb
/-- a mask that takes nothing away -/
def aAi (S : aS) (p : Nat) : Option (List (Nat × aS)) := match S.2.1 with
  | y :: x :: r => match aIv S.2.2.1 x, aIv S.2.2.1 y with
    | some A, some B => if B.1 = B.2 ∧ 0 ≤ B.1 ∧ 0 ≤ A.1 ∧ A.2 ≤ B.1 ∧ aPw (B.1 + 1) = true then some [(p, (S.1, x :: r, S.2.2.1, S.2.2.2))] else none
    | _, _ => none
  | _ => none
theorem aAi_ok {S : aS} {p : Nat} {L : List (Nat × aS)} (hb : aAi S p = some L) {ρ : List jv} {lv : List (Option jv)} {st : List jv} {σ : Nat → jcell} (hc : aCx F Hp K n S ρ lv st σ) (h : aNx F Hp K n J ρ L) : j2 st fun x y r => J p lv (.inl (x &&& y) :: r) σ := by
  unfold aAi at hb
  split at hb
  next y x r hs =>
    split at hb
    next A B hA hB =>
      split at hb
      next hz =>
        cases hb
        obtain ⟨w, v, s, rfl, h1, h2, h3⟩ := aSk_2 (hs ▸ hc.2.2.1)
        obtain ⟨x0, rfl, hx⟩ := aIv_ok hc.1 hA h2
        obtain ⟨y0, rfl, hy⟩ := aIv_ok hc.1 hB h1
        obtain ⟨z1, z2, z3, z4, z5⟩ := hz
        have a1 := hx.1
        have a2 := hx.2
        have ey : y0.toInt = B.1 := by have := hy.1; have := hy.2; omega
        have e2 : (x0 &&& y0).toInt = x0.toInt % (B.1 + 1) := by rw [← ey]; exact aAnd_m (by omega) (by omega) (by rw [ey]; exact z5)
        have e3 : x0 &&& y0 = x0 := Int32.toInt_inj.mp (by rw [e2]; exact Int.emod_eq_of_lt (by omega) (by omega))
        show J p lv (.inl (x0 &&& y0) :: s) σ
        rw [e3]
        exact aNx_in h List.mem_cons_self aX_rf ⟨hc.1, hc.2.1, ⟨h2, h3⟩, hc.2.2.2⟩
      next => cases hb
    next => cases hb
  next => cases hb
end AST
