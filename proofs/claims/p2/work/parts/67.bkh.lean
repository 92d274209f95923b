/-! from a state to a cut's state; ranks -/
abbrev aSc2 : Type := Nat ⊕ (Nat ⊕ (Nat × Nat))
section ASX
variable {K : Nat → Nat} {n : Nat} {P : Type} {F : aFt P} {C : aCf} {JX : (Nat → jcell) → Prop} {ρ0 : List jv} {σ0 : Nat → jcell}
/-- a field's value gets a name -/
def aOf (T : List aKd) (env : List aE) (o f : Nat) : Option aT := match aKi env o with
  | some k => (match T[k]? with
    | some (.inr q) => q.2[f]?
    | _ => none)
  | none => none
def aRd (C : aCf) (S : aS) (o f : Nat) : Option (aS × Nat) := match aFind S.2.2.2.1 o f with
  | some v => some (S, v)
  | none => (match aOf C.1 S.2.2.1 o f with
    | some t => some ((S.1, S.2.1, S.2.2.1 ++ [(t, none)], ((o, f, S.2.2.1.length) :: S.2.2.2.1, S.2.2.2.2)), S.2.2.1.length)
    | none => none)
theorem aRd_ok {S S' : aS} {o f v : Nat} (h : aRd C S o f = some (S', v)) {ρ : List jv} {lv : List (Option jv)} {st : List jv} {σ : Nat → jcell} (hc : aCx F (aHp C K n JX ρ0 σ0) K n S ρ lv st σ) : ∃ ρ', aX ρ ρ' ∧ aCx F (aHp C K n JX ρ0 σ0) K n S' ρ' lv st σ ∧ ∃ (a c : Nat) (fs : List jv) (x : jv), ρ'[o]? = some (.inr (.inr (some (.inl a)))) ∧ σ a = .inr (c, fs) ∧ fs[f]? = some x ∧ ρ'[v]? = some x := by
  obtain ⟨c1, c2, c3, ⟨p9, m0, m9⟩, c5⟩ := hc
  unfold aRd at h
  split at h
  next v1 hv =>
    cases h
    exact ⟨ρ, aX_rf, ⟨c1, c2, c3, ⟨p9, m0, m9⟩, c5⟩, m0 _ (aFind_in hv)⟩
  next =>
    split at h
    next t ht =>
      cases h
      unfold aOf at ht
      split at ht
      next k hk =>
        split at ht
        next q hq =>
          have hko : o < ρ.length := by
            unfold aKi at hk
            split at hk
            next k1 hk1 =>
              unfold aTy at hk1
              split at hk1
              next e1 he1 => rw [c1.1]; exact (List.getElem?_eq_some_iff.mp he1).1
              next => cases hk1
            next => cases hk
          have hv : ρ[o]? = some (ρ[o]'hko) := List.getElem?_eq_getElem hko
          obtain ⟨a, ha, h1, h2⟩ := aKi_ok c1 hk hv
          rw [ha] at hv
          obtain ⟨fs, e1, e2⟩ := aCe_obj (c5.1 a h1 _ (by rw [h2]; exact hq))
          have hl : f < fs.length := by rw [e2.1]; exact (List.getElem?_eq_some_iff.mp ht).1
          have hx : fs[f]? = some fs[f] := List.getElem?_eq_getElem hl
          have m8 : aMm F p9 ρ σ S.2.2.2 := ⟨m0, m9⟩
          refine ⟨ρ ++ [fs[f]], aX_app, ⟨aR_push (r := none) c1 (e2.2 f _ _ ht hx) trivial, c2.mo aX_app, c3.mo aX_app, ⟨p9, fun z hz => ?_, (m8.mo aX_app).2⟩, c5⟩, a, q.1, fs, fs[f], aX_app _ _ hv, e1, hx, aR_new c1⟩
          rcases List.mem_cons.mp hz with rfl | hz
          · exact ⟨a, q.1, fs, fs[f], aX_app _ _ hv, e1, hx, aR_new c1⟩
          · exact (m0.mo aX_app) z hz
        next => cases ht
      next => cases ht
    next => cases h
theorem aKi_lt {env : List aE} {o k : Nat} (hk : aKi env o = some k) : o < env.length := by
  unfold aKi at hk
  split at hk
  next k1 hk1 =>
    unfold aTy at hk1
    split at hk1
    next e1 he1 => exact (List.getElem?_eq_some_iff.mp he1).1
    next => cases hk1
  next => cases hk
/-- a cell of a row of ints gets a name -/
def aRc (C : aCf) (S : aS) (a c : Nat) : Option (aS × Nat) := match aFc2 S.2.2.2.2.1 a ([], (c : Int)) with
  | some v => some (S, v)
  | none => (match aAr C.1 S.2.2.1 a with
    | some q => if ¬ q.2.1 = .long ∧ c < q.2.2.1 then some ((S.1, S.2.1, S.2.2.1 ++ [(.inl q.2.2.2.1, none)], (S.2.2.2.1, (a, ([], (c : Int)), S.2.2.1.length) :: S.2.2.2.2.1, S.2.2.2.2.2)), S.2.2.1.length) else none
    | none => none)
theorem aRc_ok {S S' : aS} {a c v : Nat} (h : aRc C S a c = some (S', v)) {ρ : List jv} {lv : List (Option jv)} {st : List jv} {σ : Nat → jcell} (hc : aCx F (aHp C K n JX ρ0 σ0) K n S ρ lv st σ) : ∃ ρ', aX ρ ρ' ∧ aCx F (aHp C K n JX ρ0 σ0) K n S' ρ' lv st σ := by
  obtain ⟨c1, c2, c3, ⟨p9, m1, m2, m3, m4⟩, c5⟩ := hc
  unfold aRc at h
  split at h
  next v1 hv =>
    cases h
    exact ⟨ρ, aX_rf, ⟨c1, c2, c3, ⟨p9, m1, m2, m3, m4⟩, c5⟩⟩
  next =>
    split at h
    next q hq =>
      split at h
      next hz =>
        cases h
        have hko : a < ρ.length := by
          have hq' := hq
          unfold aAr at hq'
          split at hq'
          next k hk => rw [c1.1]; exact aKi_lt hk
          next => cases hq'
        have hv : ρ[a]? = some (ρ[a]'hko) := List.getElem?_eq_getElem hko
        obtain ⟨b, e0, h4, h5, h6, h7⟩ := aAr_ok c1 c5.1 hq hv
        rw [e0] at hv
        obtain ⟨g, e1, e2⟩ := aCe_arr h7 hz.1
        have hR2 := aR_push (t := .inl q.2.2.2.1) (r := none) (v := .inl (g c)) c1 (e2 _ hz.2).1 trivial
        refine ⟨ρ ++ [.inl (g c)], aX_app, ⟨hR2, c2.mo aX_app, c3.mo aX_app, ⟨p9, m1.mo aX_app, fun z hz2 => ?_, fun f hf => (m3 f hf).mo aX_app, m4.mo aX_app⟩, c5⟩⟩
        rcases List.mem_cons.mp hz2 with rfl | hz2
        · exact ⟨b, _, _, .inl g, c, aX_app _ _ hv, e1, hz.2, aVa_k _, aR_new c1⟩
        · exact (m2.mo aX_app) z hz2
      next => cases h
    next => cases h
/-- a name out of a fact -/
def aFnd (fx : List (Nat × List Nat)) (r j : Nat) : Option Nat := match fx.find? (fun q => Nat.beq q.1 r) with
  | some q => q.2[j]?
  | none => none
/-- the j-th name inside of the form of a name -/
def aFin (S : aS) (m : List Nat) (i : Nat) : Option Nat := match m[i / 16]? with
  | some k => (match S.2.2.1[k]? with
    | some (_, some f) => (match f.1[i % 16]? with
      | some q => some q.1
      | none => none)
    | _ => none)
  | none => none
/-- where a cut's names are found: a local, a place of the stack, a field of a name before it -/
def aMp (C : aCf) : aS → List Nat → List aSc2 → Option (aS × List Nat)
  | S, m, [] => some (S, m)
  | S, m, .inl i :: r => (match S.1[i]? with
    | some (some k) => aMp C S (m ++ [k]) r
    | _ => none)
  | S, m, .inr (.inl i) :: r => (match (if i < 1000 then S.2.1[i]? else (if i < 1000000 then aFnd S.2.2.2.2.2.2 ((i - 1000) / 16) ((i - 1000) % 16) else aFin S m (i - 1000000))) with
    | some k => aMp C S (m ++ [k]) r
    | _ => none)
  | S, m, .inr (.inr q) :: r => (match m[q.1]? with
    | some o => (match (if q.2 < 1000 then aRd C S o q.2 else aRc C S o (q.2 - 1000)) with
      | some z => aMp C z.1 (m ++ [z.2]) r
      | none => none)
    | none => none)
theorem aMp_ok : ∀ {src : List aSc2} {S S' : aS} {m m' : List Nat}, aMp C S m src = some (S', m') → ∀ {ρ : List jv} {lv : List (Option jv)} {st : List jv} {σ : Nat → jcell}, aCx F (aHp C K n JX ρ0 σ0) K n S ρ lv st σ → (∃ z, m' = m ++ z) ∧ ∃ ρ', aX ρ ρ' ∧ aCx F (aHp C K n JX ρ0 σ0) K n S' ρ' lv st σ
  | [], S, S', m, m', h, ρ, lv, st, σ, hc => by
    unfold aMp at h
    cases h
    exact ⟨⟨[], by simp⟩, ρ, aX_rf, hc⟩
  | .inl i :: r, S, S', m, m', h, ρ, lv, st, σ, hc => by
    unfold aMp at h
    split at h
    next k hk =>
      obtain ⟨⟨z, rfl⟩, h2⟩ := aMp_ok h hc
      exact ⟨⟨k :: z, by simp⟩, h2⟩
    next => cases h
  | .inr (.inl i) :: r, S, S', m, m', h, ρ, lv, st, σ, hc => by
    unfold aMp at h
    split at h
    next k hk =>
      obtain ⟨⟨z, rfl⟩, h2⟩ := aMp_ok h hc
      exact ⟨⟨k :: z, by simp⟩, h2⟩
    next => cases h
  | .inr (.inr q) :: r, S, S', m, m', h, ρ, lv, st, σ, hc => by
    unfold aMp at h
    split at h
    next o ho =>
      split at h
      next z hz =>
        have hz' : ∃ ρ', aX ρ ρ' ∧ aCx F (aHp C K n JX ρ0 σ0) K n z.1 ρ' lv st σ := by
          split at hz
          · obtain ⟨ρ1, x1, c1, -⟩ := aRd_ok hz hc
            exact ⟨ρ1, x1, c1⟩
          · exact aRc_ok hz hc
        obtain ⟨ρ1, x1, c1⟩ := hz'
        obtain ⟨⟨z2, rfl⟩, ρ2, x2, c2⟩ := aMp_ok h c1
        exact ⟨⟨z.2 :: z2, by simp⟩, ρ2, x1.tr x2, c2⟩
      next => cases h
    next => cases h
def aAllE (env : List aE) (cs : List aF) : List Nat → List aE → Bool
  | [], [] => true
  | k :: m, e :: r => (aLx env cs k e.1 && (match e.2 with
      | none => true
      | some _ => false)) && aAllE env cs m r
  | _, _ => false
theorem aAllE_no {env : List aE} {cs : List aF} : ∀ {m : List Nat} {es : List aE}, aAllE env cs m es = true → ∀ (i : Nat) (e : aE), es[i]? = some e → e.2 = none
  | [], [], _, i, e, h => by simp at h
  | [], _ :: _, h, _, _, _ => by cases h
  | _ :: _, [], h, _, _, _ => by cases h
  | k :: m, e0 :: r, h, i, e, he => by
    unfold aAllE at h
    rw [Bool.and_eq_true] at h
    obtain ⟨h1, h2⟩ := h
    cases i with
    | zero =>
      cases he
      rw [Bool.and_eq_true] at h1
      have g2 := h1.2
      split at g2
      next h5 => exact h5
      next => cases g2
    | succ i => exact aAllE_no h2 i e (by simpa using he)
theorem aAllE_ok {env : List aE} {ρ : List jv} (hR : aR K n env ρ) {cs : List aF} (hcs : ∀ f ∈ cs, aHd ρ f) : ∀ {m : List Nat} {es : List aE}, aAllE env cs m es = true → aR K n es (aVal ρ m) ∧ aWm ρ m
  | [], [], _ => ⟨⟨rfl, fun i e v h => by simp at h⟩, fun i k h => by simp at h⟩
  | [], _ :: _, h => by cases h
  | _ :: _, [], h => by cases h
  | k :: m, e :: r, h => by
    have hno := aAllE_no h
    unfold aAllE at h
    rw [Bool.and_eq_true] at h
    obtain ⟨h1, h2⟩ := h
    obtain ⟨i1, i2⟩ := aAllE_ok hR hcs h2
    rw [Bool.and_eq_true] at h1
    obtain ⟨g1, g2⟩ := h1
    have hk : k < ρ.length := by rw [hR.1]; exact aLx_lt g1
    have hv : ρ[k]? = some (ρ[k]'hk) := List.getElem?_eq_getElem hk
    refine ⟨⟨by simpa [aVal] using i1.1, fun i e1 v he1 hv1 => ?_⟩, fun i k1 hk1 => ?_⟩
    · refine ⟨?_, by rw [hno i e1 he1]; trivial⟩
      cases i with
      | zero =>
        cases he1
        have e9 : v = ρ[k]'hk := by
          rw [aVal_at (i := 0) (k := k) rfl hv] at hv1
          exact (Option.some.inj hv1).symm
        subst e9
        exact aLx_ok hR hcs g1 hv
      | succ i => exact (i1.2 i e1 v (by simpa using he1) (by simpa [aVal] using hv1)).1
    · cases i with
      | zero => cases hk1; exact hk
      | succ i => exact i2 i k1 (by simpa using hk1)
def aAllL (m : List Nat) : List (Option Nat) → List (Option Nat) → Bool
  | [], [] => true
  | a :: r, s :: q => (match a with
    | none => true
    | some i => (match m[i]? with
      | some k => decide (s = some k)
      | none => false)) && aAllL m r q
  | _, _ => false
def aAllS (m : List Nat) : List Nat → List Nat → Bool
  | [], [] => true
  | i :: r, s :: q => decide (m[i]? = some s) && aAllS m r q
  | _, _ => false
def aAllC (m : List Nat) (cc : List (Nat × Nat × Nat)) : List (Nat × Nat × Nat) → Bool
  | [] => true
  | q :: r => (match m[q.1]?, m[q.2.2]? with
    | some o, some v => decide (aFind cc o q.2.1 = some v)
    | _, _ => false) && aAllC m cc r
theorem aAllL_ok {m : List Nat} : ∀ {al sl : List (Option Nat)}, aAllL m al sl = true → al.length = sl.length ∧ ∀ (i k : Nat), al[i]? = some (some k) → ∃ k1 : Nat, m[k]? = some k1 ∧ sl[i]? = some (some k1)
  | [], [], _ => ⟨rfl, fun i k h => by simp at h⟩
  | [], _ :: _, h => by cases h
  | _ :: _, [], h => by cases h
  | a :: r, s :: q, h => by
    unfold aAllL at h
    rw [Bool.and_eq_true] at h
    obtain ⟨h1, h2⟩ := h
    obtain ⟨i1, i2⟩ := aAllL_ok h2
    refine ⟨by simp [i1], fun i k hk => ?_⟩
    cases i with
    | zero =>
      cases hk
      dsimp only at h1
      split at h1
      next k1 hk1 =>
        rw [decide_eq_true_eq] at h1
        subst h1
        exact ⟨k1, hk1, rfl⟩
      next => cases h1
    | succ i => exact i2 i k (by simpa using hk)
theorem aAllS_ok {ρ : List jv} {m : List Nat} : ∀ {al sl : List Nat} {st : List jv}, aAllS m al sl = true → aSk ρ sl st → aSk (aVal ρ m) al st
  | [], [], [], _, _ => trivial
  | [], [], _ :: _, _, hs => hs.elim
  | [], _ :: _, _, h, _ => by cases h
  | _ :: _, [], _, h, _ => by cases h
  | i :: r, s :: q, st, h, hs => by
    unfold aAllS at h
    rw [Bool.and_eq_true, decide_eq_true_eq] at h
    obtain ⟨v, t, rfl, h1, h2⟩ := aSk_1 hs
    exact ⟨aVal_at h.1 h1, aAllS_ok h.2 h2⟩
theorem aAllC_ok {ρ : List jv} {m : List Nat} {σ : Nat → jcell} {cc : List (Nat × Nat × Nat)} (hc : aCa ρ σ cc) : ∀ {ca : List (Nat × Nat × Nat)}, aAllC m cc ca = true → aCa (aVal ρ m) σ ca
  | [], _ => fun q hq => by cases hq
  | q :: r, h => by
    unfold aAllC at h
    rw [Bool.and_eq_true] at h
    obtain ⟨h1, h2⟩ := h
    intro z hz
    rcases List.mem_cons.mp hz with rfl | hz
    · split at h1
      next o v ho hv =>
        rw [decide_eq_true_eq] at h1
        obtain ⟨a, c, fs, w, m1, m2, m3, m4⟩ := hc _ (aFind_in h1)
        exact ⟨a, c, fs, w, aVal_at ho m1, m2, m3, aVal_at hv m4⟩
      next => cases h1
    · exact aAllC_ok hc h2 z hz
def aAllN (env : List aE) (cs : List aF) (m : List Nat) (as : List aF) : Bool := as.all (fun c => match aSb2 env m c with
  | some g => aPr env cs 3 g
  | none => false)
theorem aAllN_ok {env : List aE} {ρ : List jv} (hR : aR K n env ρ) {cs : List aF} (hc : ∀ f ∈ cs, aHd ρ f) {m : List Nat} (hm : aWm ρ m) {as : List aF} (h : aAllN env cs m as = true) : ∀ f ∈ as, aHd (aVal ρ m) f := by
  intro f hf
  have h1 := List.all_eq_true.mp h f hf
  split at h1
  next g hg =>
    obtain ⟨z, z1, z2⟩ := aSb2_ok hR hm hg
    exact aHd_va.mpr ⟨z, z1, aPr_ok hR hc h1 z2⟩
  next => cases h1
theorem aVs_val {ρ : List jv} {m : List Nat} (hm : aWm ρ m) : ∀ {is : List Nat} {vs : List jv}, is.all (fun i => decide (i < m.length)) = true → aVs ρ (is.map (fun i => m.getD i 0)) = some vs → aVs (aVal ρ m) is = some vs
  | [], vs, _, h => h
  | i :: r, vs, ha, h => by
    rw [List.all_cons, Bool.and_eq_true] at ha
    have hi : i < m.length := of_decide_eq_true ha.1
    have h0 : m[i]? = some (m[i]'hi) := List.getElem?_eq_getElem hi
    have e0 : m.getD i 0 = m[i]'hi := by simp [List.getD, h0]
    rw [List.map_cons, e0] at h
    unfold aVs at h ⊢
    split at h
    next v s h1 h2 =>
      rw [aVal_at h0 h1, aVs_val hm ha.2 h2]
      exact h
    next => cases h
def aAllX (m : List Nat) (fx as : List (Nat × List Nat)) : Bool := as.all (fun q => q.2.all (fun i => decide (i < m.length)) && decide ((q.1, q.2.map (fun i => m.getD i 0)) ∈ fx))
theorem aAllX_ok {p : P} {ρ : List jv} {m : List Nat} (hm : aWm ρ m) {σ : Nat → jcell} {fx as : List (Nat × List Nat)} (hf : aFx F p ρ σ fx) (h : aAllX m fx as = true) : aFx F p (aVal ρ m) σ as := by
  intro q hq
  have h1 := List.all_eq_true.mp h q hq
  rw [Bool.and_eq_true] at h1
  obtain ⟨vs, v1, v2⟩ := hf _ (of_decide_eq_true h1.2)
  exact ⟨vs, aVs_val hm h1.1 v1, v2⟩
def aNil (A : aM) : Bool := match A.2.1 with
  | [] => true
  | _ => false
def aInB (S A : aS) (m : List Nat) : Bool := aAllE S.2.2.1 S.2.2.2.2.2.1 m A.2.2.1 && (aAllL m A.1 S.1 && (aAllS m A.2.1 S.2.1 && (aAllC m S.2.2.2.1 A.2.2.2.1 && (aNil A.2.2.2 && (aAllN S.2.2.1 S.2.2.2.2.2.1 m A.2.2.2.2.2.1 && aAllX m S.2.2.2.2.2.2 A.2.2.2.2.2.2)))))
theorem aInB_ok {Hp : (Nat → jcell) → Prop} {S A : aS} {m : List Nat} (h : aInB S A m = true) {ρ : List jv} {lv : List (Option jv)} {st : List jv} {σ : Nat → jcell} (hc : aCx F Hp K n S ρ lv st σ) : aCx F Hp K n A (aVal ρ m) lv st σ ∧ aWm ρ m := by
  simp only [aInB, Bool.and_eq_true] at h
  obtain ⟨h1, h2, h3, h4, h5, h6, h7⟩ := h
  obtain ⟨c1, c2, c3, ⟨p, m1, m2, m3, m4⟩, c5⟩ := hc
  obtain ⟨i1, i2⟩ := aAllE_ok c1 m3 h1
  obtain ⟨l1, l2⟩ := aAllL_ok h2
  refine ⟨⟨i1, ⟨l1.trans c2.1, fun i k hk => ?_⟩, aAllS_ok h3 c3, ⟨p, aAllC_ok m1 h4, fun q hq => ?_, aAllN_ok c1 m3 i2 h6, aAllX_ok i2 m4 h7⟩, c5⟩, i2⟩
  · obtain ⟨k1, m1, m2⟩ := l2 i k hk
    obtain ⟨v, v1, v2⟩ := c2.2 i k1 m2
    exact ⟨v, aVal_at m1 v1, v2⟩
  · unfold aNil at h5
    split at h5
    next e => rw [e] at hq; cases hq
    next => cases h5
/-! ranks -/
def aRn (ρ : List jv) (f : aF) : Nat := match aEv ρ f.1 with
  | some z => (z + f.2).toNat
  | none => 0
theorem aRn_ok {ρ : List jv} {f : aF} {z : Int} (h : aVa ρ f z) : aRn ρ f = z.toNat := by
  obtain ⟨y, y1, rfl⟩ := h
  unfold aRn
  rw [y1]
def aLt : List Nat → List Nat → Prop
  | x :: a, y :: b => a.length = b.length ∧ (x < y ∨ (x = y ∧ aLt a b))
  | _, _ => False
theorem aLt_acc : ∀ (k : Nat) (l : List Nat), l.length = k → Acc aLt l
  | 0, [], _ => Acc.intro _ (fun l h => by cases l <;> exact h.elim)
  | k + 1, x :: a, hl => by
    have ih : ∀ b : List Nat, b.length = k → Acc aLt b := fun b hb => aLt_acc k b hb
    have key : ∀ (x : Nat) (a : List Nat), a.length = k → Acc aLt (x :: a) := by
      intro x
      induction x using Nat.strongRecOn with
      | ind x ihx =>
        intro a ha
        have hacc := ih a ha
        induction hacc with
        | intro a _ iha =>
          refine Acc.intro _ (fun l hl => ?_)
          cases l with
          | nil => exact hl.elim
          | cons y b =>
            obtain ⟨e, h | ⟨h1, h2⟩⟩ := hl
            · exact ihx y h b (e.trans ha)
            · subst h1
              exact iha b h2 (e.trans ha)
    exact key x a (by simpa using hl)
  | 0, _ :: _, h => by simp at h
  | k + 1, [], h => by simp at h
def aRs (env : List aE) (cs : List aF) (m : List Nat) : List aF → List aF → Bool
  | o :: os, w :: ws => decide (os.length = ws.length) && (match aSb2 env (List.range env.length) o, aSb2 env m w with
    | some O, some W => (aPr env cs 2 (aFp ([], -1) (aFp O (aFm (-1) W))) && aPr env cs 2 W) || (aPr env cs 2 (aFp O (aFm (-1) W)) && aRs env cs m os ws)
    | _, _ => false)
  | _, _ => false
theorem aRs_ok {env : List aE} {ρ : List jv} (hR : aR K n env ρ) {cs : List aF} (hc : ∀ f ∈ cs, aHd ρ f) {m : List Nat} (hm : aWm ρ m) : ∀ {os ws : List aF}, aRs env cs m os ws = true → aLt (ws.map (aRn (aVal ρ m))) (os.map (aRn ρ))
  | [], _, h => by unfold aRs at h; cases h
  | _ :: _, [], h => by unfold aRs at h; cases h
  | o :: os, w :: ws, h => by
    unfold aRs at h
    rw [Bool.and_eq_true, decide_eq_true_eq] at h
    obtain ⟨h1, h2⟩ := h
    refine ⟨by simp [h1], ?_⟩
    split at h2
    next O W hO hW =>
      rw [← hR.1] at hO
      obtain ⟨x, x1, x2⟩ := aSb2_ok hR (aWm_rg aX_rf) hO
      rw [aVal_rg aX_rf] at x1
      obtain ⟨y, y1, y2⟩ := aSb2_ok hR hm hW
      rw [aRn_ok x1, aRn_ok y1]
      rw [Bool.or_eq_true, Bool.and_eq_true, Bool.and_eq_true] at h2
      rcases h2 with ⟨h2, h3⟩ | ⟨h2, h3⟩
      · have e1 := aPr_ok hR hc h2 (aVa_p (aVa_k (-1)) (aVa_p x2 (aVa_m (-1) y2)))
        have e2 := aPr_ok hR hc h3 y2
        left
        omega
      · have e1 := aPr_ok hR hc h2 (aVa_p x2 (aVa_m (-1) y2))
        rcases Nat.lt_or_eq_of_le (show y.toNat ≤ x.toNat by omega) with h4 | h4
        · exact Or.inl h4
        · exact Or.inr ⟨h4, aRs_ok hR hc hm h3⟩
    next => cases h2
end ASX
