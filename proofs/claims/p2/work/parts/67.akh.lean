/-! from a state to a cut's state; ranks -/
abbrev aRk : Type := Int × Option (Bool × Nat)
abbrev aSc2 : Type := Nat ⊕ (Nat ⊕ (Nat × Nat))
/-- where a cut's ids are found: a local, a place of the stack, a field of an id before it -/
def aMp1 (S : aS) (m : List Nat) (s : aSc2) : Option Nat := match s with
  | .inl i => (match S.1[i]? with
    | some (some k) => some k
    | _ => none)
  | .inr (.inl i) => S.2.1[i]?
  | .inr (.inr q) => (match m[q.1]? with
    | some o => aFind S.2.2.2 o q.2
    | none => none)
def aMp (S : aS) : List Nat → List aSc2 → Option (List Nat)
  | m, [] => some m
  | m, s :: r => match aMp1 S m s with
    | some k => aMp S (m ++ [k]) r
    | none => none
def aAllE (env : List aE) : List Nat → List aE → Bool
  | [], [] => true
  | k :: m, e :: r => (match aTy env k with
    | some t => aLe t e.1 && (match e.2 with
      | none => true
      | some _ => false)
    | none => false) && aAllE env m r
  | _, _ => false
def aAllL (m : List Nat) : List (Option Nat) → List (Option Nat) → Bool
  | [], [] => true
  | a :: r, s :: q => (match a with
    | none => true
    | some i => (match m[i]? with
      | some k => decide (s = some k)
      | none => false)) && aAllL m r q
  | _, _ => false
def aAllS (m : List Nat) : List Nat → List Nat → Bool
  | [], [] => true
  | i :: r, s :: q => decide (m[i]? = some s) && aAllS m r q
  | _, _ => false
def aAllC (m : List Nat) (cc : List (Nat × Nat × Nat)) : List (Nat × Nat × Nat) → Bool
  | [] => true
  | q :: r => (match m[q.1]?, m[q.2.2]? with
    | some o, some v => decide (aFind cc o q.2.1 = some v)
    | _, _ => false) && aAllC m cc r
def aInB (S A : aS) (m : List Nat) : Bool := aAllE S.2.2.1 m A.2.2.1 && aAllL m A.1 S.1 && aAllS m A.2.1 S.2.1 && aAllC m S.2.2.2 A.2.2.2
section ASX
variable {K : Nat → Nat} {n : Nat} {Hp : (Nat → jcell) → Prop}
def aVal (ρ : List jv) (m : List Nat) : List jv := m.map (fun k => ρ.getD k (.inl 0))
theorem aVal_at {ρ : List jv} {m : List Nat} {i k : Nat} {v : jv} (h : m[i]? = some k) (hv : ρ[k]? = some v) : (aVal ρ m)[i]? = some v := by
  unfold aVal
  rw [List.getElem?_map, h]
  simp [List.getD, hv]
theorem aAllE_ok {env : List aE} {ρ : List jv} (hR : aR K n env ρ) : ∀ {m : List Nat} {es : List aE}, aAllE env m es = true → m.length = es.length ∧ (∀ (i k : Nat), m[i]? = some k → ∃ v, ρ[k]? = some v) ∧ ∀ (i : Nat) (e : aE) (v : jv), es[i]? = some e → (aVal ρ m)[i]? = some v → aG K n e.1 v ∧ e.2 = none
  | [], [], _ => ⟨rfl, fun i k h => by simp at h, fun i e v h => by simp at h⟩
  | [], _ :: _, h => by cases h
  | _ :: _, [], h => by cases h
  | k :: m, e :: r, h => by
    unfold aAllE at h
    rw [Bool.and_eq_true] at h
    obtain ⟨h1, h2⟩ := h
    obtain ⟨i1, i2, i3⟩ := aAllE_ok hR h2
    split at h1
    next t ht =>
      rw [Bool.and_eq_true] at h1
      obtain ⟨g1, g2⟩ := h1
      have hk : k < env.length := by
        unfold aTy at ht
        split at ht
        next e1 he1 => exact (List.getElem?_eq_some_iff.mp he1).1
        next => cases ht
      have hv : ρ[k]? = some (ρ[k]'(by rw [hR.1]; exact hk)) := List.getElem?_eq_getElem _
      refine ⟨by simp [i1], fun i k1 hk1 => ?_, fun i e1 v he1 hv1 => ?_⟩
      · cases i with
        | zero => cases hk1; exact ⟨_, hv⟩
        | succ i => exact i2 i k1 (by simpa using hk1)
      · cases i with
        | zero =>
          cases he1
          have e9 : v = ρ[k]'(by rw [hR.1]; exact hk) := by
            rw [aVal_at (i := 0) (k := k) rfl hv] at hv1
            exact (Option.some.inj hv1).symm
          subst e9
          refine ⟨aLe_ok g1 (aTy_ok hR ht hv), ?_⟩
          split at g2
          next h5 => exact h5
          next => cases g2
        | succ i => exact i3 i e1 v (by simpa using he1) (by simpa [aVal] using hv1)
    next => cases h1
theorem aAllL_ok {m : List Nat} : ∀ {al sl : List (Option Nat)}, aAllL m al sl = true → al.length = sl.length ∧ ∀ (i k : Nat), al[i]? = some (some k) → ∃ k1 : Nat, m[k]? = some k1 ∧ sl[i]? = some (some k1)
  | [], [], _ => ⟨rfl, fun i k h => by simp at h⟩
  | [], _ :: _, h => by cases h
  | _ :: _, [], h => by cases h
  | a :: r, s :: q, h => by
    unfold aAllL at h
    rw [Bool.and_eq_true] at h
    obtain ⟨h1, h2⟩ := h
    obtain ⟨i1, i2⟩ := aAllL_ok h2
    refine ⟨by simp [i1], fun i k hk => ?_⟩
    cases i with
    | zero =>
      cases hk
      dsimp only at h1
      split at h1
      next k1 hk1 =>
        rw [decide_eq_true_eq] at h1
        subst h1
        exact ⟨k1, hk1, rfl⟩
      next => cases h1
    | succ i => exact i2 i k (by simpa using hk)
theorem aAllS_ok {ρ : List jv} {m : List Nat} : ∀ {al sl : List Nat} {st : List jv}, aAllS m al sl = true → aSk ρ sl st → aSk (aVal ρ m) al st
  | [], [], [], _, _ => trivial
  | [], [], _ :: _, _, hs => hs.elim
  | [], _ :: _, _, h, _ => by cases h
  | _ :: _, [], _, h, _ => by cases h
  | i :: r, s :: q, st, h, hs => by
    unfold aAllS at h
    rw [Bool.and_eq_true, decide_eq_true_eq] at h
    obtain ⟨v, t, rfl, h1, h2⟩ := aSk_1 hs
    exact ⟨aVal_at h.1 h1, aAllS_ok h.2 h2⟩
theorem aAllC_ok {ρ : List jv} {m : List Nat} {σ : Nat → jcell} {cc : List (Nat × Nat × Nat)} (hc : aCa ρ σ cc) : ∀ {ca : List (Nat × Nat × Nat)}, aAllC m cc ca = true → aCa (aVal ρ m) σ ca
  | [], _ => fun q hq => by cases hq
  | q :: r, h => by
    unfold aAllC at h
    rw [Bool.and_eq_true] at h
    obtain ⟨h1, h2⟩ := h
    intro z hz
    rcases List.mem_cons.mp hz with rfl | hz
    · split at h1
      next o v ho hv =>
        rw [decide_eq_true_eq] at h1
        obtain ⟨a, c, fs, w, m1, m2, m3, m4⟩ := hc _ (aFind_in h1)
        exact ⟨a, c, fs, w, aVal_at ho m1, m2, m3, aVal_at hv m4⟩
      next => cases h1
    · exact aAllC_ok hc h2 z hz
theorem aInB_ok {S A : aS} {m : List Nat} (h : aInB S A m = true) {ρ : List jv} {lv : List (Option jv)} {st : List jv} {σ : Nat → jcell} (hc : aCx Hp K n S ρ lv st σ) : aCx Hp K n A (aVal ρ m) lv st σ := by
  simp only [aInB, Bool.and_eq_true] at h
  obtain ⟨⟨⟨h1, h2⟩, h3⟩, h4⟩ := h
  obtain ⟨c1, c2, c3, c4, c5⟩ := hc
  obtain ⟨i1, i2, i3⟩ := aAllE_ok c1 h1
  obtain ⟨l1, l2⟩ := aAllL_ok h2
  refine ⟨⟨by unfold aVal; rw [List.length_map]; exact i1, fun i e v he hv => ?_⟩, ⟨l1.trans c2.1, fun i k hk => ?_⟩, aAllS_ok h3 c3, aAllC_ok c4 h4, c5⟩
  · obtain ⟨g1, g2⟩ := i3 i e v he hv
    refine ⟨g1, ?_⟩
    rw [g2]
    trivial
  · obtain ⟨k1, m1, m2⟩ := l2 i k hk
    obtain ⟨v, v1, v2⟩ := c2.2 i k1 m2
    exact ⟨v, aVal_at m1 v1, v2⟩
/-! ranks -/
def aRn (ρ : List jv) (r : aRk) : Nat := match r.2 with
  | none => r.1.toNat
  | some q => (match ρ[q.2]? with
    | some (.inl x) => if q.1 = true then (r.1 + x.toInt).toNat else (r.1 - x.toInt).toNat
    | _ => 0)
def aLt : List Nat → List Nat → Prop
  | x :: a, y :: b => a.length = b.length ∧ (x < y ∨ (x = y ∧ aLt a b))
  | _, _ => False
theorem aLt_acc : ∀ (k : Nat) (l : List Nat), l.length = k → Acc aLt l
  | 0, [], _ => Acc.intro _ (fun l h => by cases l <;> exact h.elim)
  | k + 1, x :: a, hl => by
    have ih : ∀ b : List Nat, b.length = k → Acc aLt b := fun b hb => aLt_acc k b hb
    have key : ∀ (x : Nat) (a : List Nat), a.length = k → Acc aLt (x :: a) := by
      intro x
      induction x using Nat.strongRecOn with
      | ind x ihx =>
        intro a ha
        have hacc := ih a ha
        induction hacc with
        | intro a _ iha =>
          refine Acc.intro _ (fun l hl => ?_)
          cases l with
          | nil => exact hl.elim
          | cons y b =>
            obtain ⟨e, h | ⟨h1, h2⟩⟩ := hl
            · exact ihx y h b (e.trans ha)
            · subst h1
              exact iha b h2 (e.trans ha)
    exact key x a (by simpa using hl)
  | 0, _ :: _, h => by simp at h
  | k + 1, [], h => by simp at h
/-- bounds of a rank's part, by intervals -/
def aRb (env : List aE) (r : aRk) : Option (Int × Int) := match r.2 with
  | none => some (r.1, r.1)
  | some q => (match aTy env q.2 with
    | some (.inl A) => if q.1 = true then some (r.1 + A.1, r.1 + A.2) else some (r.1 - A.2, r.1 - A.1)
    | _ => none)
theorem aRb_ok {env : List aE} {ρ : List jv} (hR : aR K n env ρ) {r : aRk} {q : Int × Int} (h : aRb env r = some q) : ∃ z : Int, aRn ρ r = z.toNat ∧ q.1 ≤ z ∧ z ≤ q.2 ∧ (∀ (b : Bool) (i : Nat), r.2 = some (b, i) → ∃ x : Int32, ρ[i]? = some (.inl x) ∧ z = if b = true then r.1 + x.toInt else r.1 - x.toInt) := by
  obtain ⟨c, o⟩ := r
  rcases o with _ | ⟨b, i⟩
  · cases h
    exact ⟨c, rfl, Int.le_refl _, Int.le_refl _, fun b i e => by cases e⟩
  · unfold aRb at h
    dsimp only at h
    split at h
    next A hA =>
      have hi : i < env.length := by
        unfold aTy at hA
        split at hA
        next e1 he1 => exact (List.getElem?_eq_some_iff.mp he1).1
        next => cases hA
      have hv : ρ[i]? = some (ρ[i]'(by rw [hR.1]; exact hi)) := List.getElem?_eq_getElem _
      obtain ⟨x, hx, hA2⟩ := aG_int (aTy_ok hR hA hv)
      rw [hx] at hv
      obtain ⟨a1, a2⟩ := hA2
      split at h
      next hb =>
        cases h
        refine ⟨c + x.toInt, ?_, by dsimp only; omega, by dsimp only; omega, fun b1 i1 e => ?_⟩
        · unfold aRn; dsimp only; rw [hv]; dsimp only; rw [if_pos hb]
        · cases e
          exact ⟨x, hv, by rw [if_pos hb]⟩
      next hb =>
        cases h
        refine ⟨c - x.toInt, ?_, by dsimp only; omega, by dsimp only; omega, fun b1 i1 e => ?_⟩
        · unfold aRn; dsimp only; rw [hv]; dsimp only; rw [if_neg hb]
        · cases e
          exact ⟨x, hv, by rw [if_neg hb]⟩
    next => cases h
/-- new against old: 2 smaller, 1 not greater, 0 unknown -/
def aRd (env : List aE) (o w : aRk) : Option Int := match o.2, w.2 with
  | some q, some q' => if q.1 = q'.1 ∧ (aRoot env q'.2).1 = q.2 then (if q.1 = true then some (w.1 - o.1 + (aRoot env q'.2).2.2) else some (w.1 - o.1 - (aRoot env q'.2).2.1)) else none
  | _, _ => none
def aRc (env : List aE) (o w : aRk) : Nat := match aRb env o, aRb env w with
  | some O, some W => if W.2 < O.1 ∧ 0 < O.1 then 2 else (match aRd env o w with
    | some d => if d < 0 ∧ 0 ≤ W.1 then 2 else if d ≤ 0 then 1 else if W.2 ≤ O.1 then 1 else 0
    | none => if W.2 ≤ O.1 then 1 else 0)
  | _, _ => 0
theorem aRd_ok {env : List aE} {ρ : List jv} (hR : aR K n env ρ) {o w : aRk} {d : Int} (h : aRd env o w = some d) {O W : Int × Int} (h1 : aRb env o = some O) (h2 : aRb env w = some W) : ∃ zo zw : Int, aRn ρ o = zo.toNat ∧ aRn ρ w = zw.toNat ∧ O.1 ≤ zo ∧ W.1 ≤ zw ∧ zw - zo ≤ d := by
  obtain ⟨zo, e1, e2, -, e3⟩ := aRb_ok hR h1
  obtain ⟨zw, f1, f2, -, f3⟩ := aRb_ok hR h2
  refine ⟨zo, zw, e1, f1, e2, f2, ?_⟩
  obtain ⟨c, q⟩ := o
  obtain ⟨c', q'⟩ := w
  unfold aRd at h
  split at h
  next p p' hp hp' =>
    dsimp only at hp hp'
    subst hp; subst hp'
    obtain ⟨x, x1, x2⟩ := e3 p.1 p.2 rfl
    obtain ⟨y, y1, y2⟩ := f3 p'.1 p'.2 rfl
    split at h
    next hz =>
      obtain ⟨z, z1, z2, z3⟩ := aRoot_ok hR y1
      rw [hz.2, x1] at z1
      cases z1
      rw [← hz.1] at y2
      split at h
      next hb =>
        cases h
        rw [if_pos hb] at x2 y2
        dsimp only at x2 y2 ⊢
        omega
      next hb =>
        cases h
        rw [if_neg hb] at x2 y2
        dsimp only at x2 y2 ⊢
        omega
    next => cases h
  next => cases h
theorem aRc_ok {env : List aE} {ρ : List jv} (hR : aR K n env ρ) {o w : aRk} : (aRc env o w = 2 → aRn ρ w < aRn ρ o) ∧ (aRc env o w = 1 → aRn ρ w ≤ aRn ρ o) := by
  unfold aRc
  split
  next O W h1 h2 =>
    obtain ⟨zo, e1, e2, e3, -⟩ := aRb_ok hR h1
    obtain ⟨zw, f1, f2, f3, -⟩ := aRb_ok hR h2
    split
    next hz => exact ⟨fun _ => by omega, fun q => by omega⟩
    next =>
      split
      next d hd =>
        obtain ⟨zo1, zw1, g1, g2, g3, g4, g5⟩ := aRd_ok hR hd h1 h2
        split
        next hz => exact ⟨fun _ => by omega, fun q => by omega⟩
        next =>
          split
          next => exact ⟨fun q => by omega, fun _ => by omega⟩
          next =>
            split
            next => exact ⟨fun q => by omega, fun _ => by omega⟩
            next => exact ⟨fun q => by omega, fun q => by omega⟩
      next =>
        split
        next => exact ⟨fun q => by omega, fun _ => by omega⟩
        next => exact ⟨fun q => by omega, fun q => by omega⟩
  next => exact ⟨fun q => by omega, fun q => by omega⟩
def aRs (env : List aE) : List aRk → List aRk → Bool
  | o :: os, w :: ws => decide (os.length = ws.length) && (decide (aRc env o w = 2) || (decide (aRc env o w = 1) && aRs env os ws))
  | _, _ => false
theorem aRs_ok {env : List aE} {ρ : List jv} (hR : aR K n env ρ) : ∀ {os ws : List aRk}, aRs env os ws = true → aLt (ws.map (aRn ρ)) (os.map (aRn ρ))
  | [], _, h => by unfold aRs at h; cases h
  | _ :: _, [], h => by unfold aRs at h; cases h
  | o :: os, w :: ws, h => by
    unfold aRs at h
    simp only [Bool.and_eq_true, Bool.or_eq_true, decide_eq_true_eq] at h
    obtain ⟨h1, h2⟩ := h
    refine ⟨by simp [h1], ?_⟩
    rcases h2 with h2 | ⟨h2, h3⟩
    · exact Or.inl ((aRc_ok hR).1 h2)
    · rcases Nat.lt_or_eq_of_le ((aRc_ok hR).2 h2) with h4 | h4
      · exact Or.inl h4
      · exact Or.inr ⟨h4, aRs_ok hR h3⟩
end ASX
