/-! calls over contracts of the same form -/
abbrev aCon : Type := jY × Bool × Nat × (List aE × aM) × (Option aT × List aT × aM × List (List aF)) × (List (Nat × Nat) × List (Nat × aF)) × Room
def aPe (G : aCon) : List aE := G.2.2.2.1.1 ++ (G.2.2.2.2.1.1.toList ++ G.2.2.2.2.1.2.1).map (fun t => (t, none))
/-- what a method of a contract does -/
def aMe {P : Type} (F : aFt P) (l : Launch) (E : jE) (cl : List vw_C) (tb : jTb) (Ts : List Jvm.Cond) (T : List aKd) (K : Nat → Nat) (n : Nat) (JX : (Nat → jcell) → Prop) (G : aCon) : Prop := ∀ (p : P) (σ : Nat → jcell) (ρ : List jv), aH T K n σ → JX σ → aR K n G.2.2.2.1.1 ρ → aMm F p ρ σ G.2.2.2.1.2 → jMet l E cl tb Ts G.1 G.2.2.2.2.2.2 (ρ.take G.2.2.1) σ n (fun r σ' n' => n' = n ∧ aH T K n σ' ∧ JX σ' ∧ aFr K n G.2.2.2.2.2.1.1 σ σ' ∧ aFa K n G.2.2.2.2.2.1.2 ρ σ σ' ∧ r.isSome = G.2.2.2.2.1.1.isSome ∧ ∃ xs, aR K n (aPe G) (ρ ++ (r.toList ++ xs)) ∧ aMm F p (ρ ++ (r.toList ++ xs)) σ' G.2.2.2.2.1.2.2.1 ∧ ∃ A ∈ G.2.2.2.2.1.2.2.2, ∀ f ∈ A, aHd (ρ ++ (r.toList ++ xs)) f)
/-- what the tables say of it -/
def aGd (Ts : List Jvm.Cond) (G : aCon) : Prop := G.2.2.2.2.2.2.cells = 0 ∧ G.2.2.2.2.2.2.slots = 0 ∧ (if G.2.1 = true then jmth Ts G.1 G.2.2.1 ∧ Jvm.Cond.static G.1.1 ∈ jTA Ts else jmth Ts G.1 (G.2.2.1 - 1) ∧ Jvm.Cond.instanceMethod G.1.1 ∈ jTA Ts ∧ Jvm.Cond.selects G.1.1.cls G.1.1 G.1.1 ∈ jTA Ts)
/-! facts with moves made before them: a shift of the ghost -/
/-- facts from number 1600 on don't look at the ghost -/
def aFre (r : Nat) : Bool := Nat.ble 1600 (r % 65536) && Nat.ble (r % 65536) 6399
def aShf {P : Type} (F : aFt P) (sh : P → List jv → P) : Prop := (∀ (p : P) (r : Nat) (vs ms : List jv) (σ : Nat → jcell), ¬ r = 0 → r % 16 ≤ vs.length → (F p r (vs ++ ms) σ ↔ F (sh p ms) r vs σ)) ∧ ∀ (p p' : P) (r : Nat) (vs : List jv) (σ : Nat → jcell), aFre r = true → F p r vs σ → F p' r vs σ
def aGr (q : Nat × List Nat) : Bool := decide (¬ q.1 = 0) && decide (q.1 % 16 ≤ q.2.length)
def aNo0 (fx : List (Nat × List Nat)) : Bool := fx.all aGr
section ASY
variable {K : Nat → Nat} {n : Nat} {P : Type} {F : aFt P} {C : aCf} {JX : (Nat → jcell) → Prop} {ρ0 : List jv} {σ0 : Nat → jcell}
/-- fields that a contract names -/
def aMpf (C : aCf) : aS → List Nat → List (Nat × Nat × Nat) → Option (aS × List Nat)
  | S, m, [] => some (S, m)
  | S, m, q :: r => (match m[q.1]? with
    | some o => (match aRd C S o q.2.1 with
      | some z => if q.2.2 = m.length then aMpf C z.1 (m ++ [z.2]) r else (if m[q.2.2]? = some z.2 then aMpf C z.1 m r else none)
      | none => none)
    | none => none)
theorem aMpf_ok : ∀ {fs : List (Nat × Nat × Nat)} {S S' : aS} {m m' : List Nat}, aMpf C S m fs = some (S', m') → ∀ {ρ : List jv} {lv : List (Option jv)} {st : List jv} {σ : Nat → jcell}, aCx F (aHp C K n JX ρ0 σ0) K n S ρ lv st σ → (∃ z, m' = m ++ z) ∧ ∃ ρ', aX ρ ρ' ∧ aCx F (aHp C K n JX ρ0 σ0) K n S' ρ' lv st σ ∧ S'.2.1 = S.2.1 ∧ ∀ q ∈ fs, ∃ (a c o v : Nat) (gs : List jv) (x : jv), m'[q.1]? = some o ∧ m'[q.2.2]? = some v ∧ ρ'[o]? = some (.inr (.inr (some (.inl a)))) ∧ σ a = .inr (c, gs) ∧ gs[q.2.1]? = some x ∧ ρ'[v]? = some x
  | [], S, S', m, m', h, ρ, lv, st, σ, hc => by
    unfold aMpf at h
    cases h
    exact ⟨⟨[], by simp⟩, ρ, aX_rf, hc, rfl, fun q hq => by cases hq⟩
  | q :: r, S, S', m, m', h, ρ, lv, st, σ, hc => by
    unfold aMpf at h
    split at h
    next o ho =>
      split at h
      next z hz =>
        obtain ⟨ρ1, x1, c1, a, c, gs, x, k1, k2, k3, k4⟩ := aRd_ok hz hc
        have hst : z.1.2.1 = S.2.1 := by
          unfold aRd at hz
          split at hz
          · cases hz; rfl
          · split at hz
            · cases hz; rfl
            · cases hz
        split at h
        next e =>
          obtain ⟨⟨z2, rfl⟩, ρ2, x2, c2, s2, h2⟩ := aMpf_ok h c1
          refine ⟨⟨z.2 :: z2, by simp⟩, ρ2, x1.tr x2, c2, s2.trans hst, fun q9 hq9 => ?_⟩
          rcases List.mem_cons.mp hq9 with rfl | hq9
          · refine ⟨a, c, o, z.2, gs, x, ?_, ?_, x2 _ _ k1, k2, k3, x2 _ _ k4⟩
            · rw [List.append_assoc, List.getElem?_append_left (List.getElem?_eq_some_iff.mp ho).1]; exact ho
            · rw [e, List.append_assoc, List.getElem?_append_right (Nat.le_refl _)]; simp
          · exact h2 q9 hq9
        next e =>
          split at h
          next e2 =>
            obtain ⟨⟨z2, rfl⟩, ρ2, x2, c2, s2, h2⟩ := aMpf_ok h c1
            refine ⟨⟨z2, rfl⟩, ρ2, x1.tr x2, c2, s2.trans hst, fun q9 hq9 => ?_⟩
            rcases List.mem_cons.mp hq9 with rfl | hq9
            · refine ⟨a, c, o, z.2, gs, x, ?_, ?_, x2 _ _ k1, k2, k3, x2 _ _ k4⟩
              · rw [List.getElem?_append_left (List.getElem?_eq_some_iff.mp ho).1]; exact ho
              · rw [List.getElem?_append_left (List.getElem?_eq_some_iff.mp e2).1]; exact e2
            · exact h2 q9 hq9
          next => cases h
      next => cases h
    next => cases h
theorem aMpf_ca {ρ : List jv} {m : List Nat} {fs : List (Nat × Nat × Nat)} {σ : Nat → jcell} (h : ∀ q ∈ fs, ∃ (a c o v : Nat) (gs : List jv) (x : jv), m[q.1]? = some o ∧ m[q.2.2]? = some v ∧ ρ[o]? = some (.inr (.inr (some (.inl a)))) ∧ σ a = .inr (c, gs) ∧ gs[q.2.1]? = some x ∧ ρ[v]? = some x) : aCa (aVal ρ m) σ fs := fun q hq => by
  obtain ⟨a, c, o, v, gs, x, h1, h2, h3, h4, h5, h6⟩ := h q hq
  exact ⟨a, c, gs, x, aVal_at h1 h3, h4, h5, aVal_at h2 h6⟩
/-- cells that a contract names -/
def aAllB (env : List aE) (m : List Nat) (cb as : List (Nat × aF × Nat)) : Bool := as.all (fun q => match m[q.1]?, m[q.2.2]?, aSb2 env m q.2.1 with
  | some a, some v, some g => cb.any (fun z => Nat.beq z.1 a && (Nat.beq z.2.2 v && ((aFp z.2.1 (aFm (-1) g)).1.isEmpty && decide ((aFp z.2.1 (aFm (-1) g)).2 = 0))))
  | _, _, _ => false)
theorem aAllB_ok {env : List aE} {ρ : List jv} (hR : aR K n env ρ) {m : List Nat} (hm : aWm ρ m) {σ : Nat → jcell} {cb as : List (Nat × aF × Nat)} (hb : aCb ρ σ cb) (h : aAllB env m cb as = true) : aCb (aVal ρ m) σ as := fun q hq => by
  have h1 := List.all_eq_true.mp h q hq
  split at h1
  next a v g ha hv hg =>
    obtain ⟨w, w1, w2⟩ := List.any_eq_true.mp h1
    rw [Bool.and_eq_true, Bool.and_eq_true, Bool.and_eq_true] at w2
    obtain ⟨w2, w3, w4, w5⟩ := w2
    obtain ⟨b, l, ty, g9, i, k1, k2, k3, k4, k5⟩ := hb _ w1
    rw [Nat.eq_of_beq_eq_true w2] at k1
    rw [Nat.eq_of_beq_eq_true w3] at k5
    obtain ⟨z, z1, z2⟩ := aSb2_ok hR hm hg
    have e : z = (i : Int) := by
      obtain ⟨u, u1, u2⟩ := aVa_p k4 (aVa_m (-1) z2)
      have u3 : (aFp w.2.1 (aFm (-1) g)).1 = [] := List.isEmpty_iff.mp w4
      have u4 : (aFp w.2.1 (aFm (-1) g)).2 = 0 := of_decide_eq_true w5
      rw [u3] at u1
      have u5 : u = 0 := by
        unfold aEv at u1
        exact (Option.some.inj u1).symm
      omega
    exact ⟨b, l, ty, g9, i, aVal_at ha k1, k2, k3, by rw [← e]; exact z1, aVal_at hv k5⟩
  next => cases h1
/-! facts: the rest behind a prefix -/
def aPfx : List Nat → List Nat → Option (List Nat)
  | [], ys => some ys
  | x :: xs, y :: ys => if x = y then aPfx xs ys else none
  | _ :: _, [] => none
def aRst (r : Nat) (is : List Nat) : List (Nat × List Nat) → Option (List Nat)
  | [] => none
  | q :: t => if q.1 = r then (match aPfx is q.2 with
    | some ms => some ms
    | none => aRst r is t) else aRst r is t
def aMs (m : List Nat) (fx : List (Nat × List Nat)) : List (Nat × List Nat) → Option (List Nat)
  | [] => some []
  | q :: _ => aRst q.1 (q.2.map (fun i => m.getD i 0)) fx
def aAllY (m ms : List Nat) (fx as : List (Nat × List Nat)) : Bool := as.all (fun q => aGr q && (q.2.all (fun i => decide (i < m.length)) && decide ((q.1, q.2.map (fun i => m.getD i 0) ++ ms) ∈ fx)))
theorem aVs_app {ρ : List jv} : ∀ {is ms : List Nat} {vs : List jv}, aVs ρ (is ++ ms) = some vs → ∃ a b, aVs ρ is = some a ∧ aVs ρ ms = some b ∧ vs = a ++ b
  | [], ms, vs, h => ⟨[], vs, rfl, h, rfl⟩
  | i :: r, ms, vs, h => by
    rw [List.cons_append] at h
    unfold aVs at h
    split at h
    next v s h1 h2 =>
      cases h
      obtain ⟨a, b, e1, e2, rfl⟩ := aVs_app h2
      refine ⟨v :: a, b, ?_, e2, rfl⟩
      unfold aVs
      rw [h1, e1]
    next => cases h
theorem aVs_app2 {ρ : List jv} : ∀ {is ms : List Nat} {a b : List jv}, aVs ρ is = some a → aVs ρ ms = some b → aVs ρ (is ++ ms) = some (a ++ b)
  | [], ms, a, b, h1, h2 => by cases h1; exact h2
  | i :: r, ms, a, b, h1, h2 => by
    unfold aVs at h1
    split at h1
    next v s k1 k2 =>
      cases h1
      rw [List.cons_append]
      unfold aVs
      rw [k1, aVs_app2 k2 h2]
      rfl
    next => cases h1
theorem aVs_val2 {ρ : List jv} {m : List Nat} (hm : aWm ρ m) : ∀ {is : List Nat} {vs : List jv}, is.all (fun i => decide (i < m.length)) = true → aVs (aVal ρ m) is = some vs → aVs ρ (is.map (fun i => m.getD i 0)) = some vs
  | [], vs, _, h => h
  | i :: r, vs, ha, h => by
    rw [List.all_cons, Bool.and_eq_true] at ha
    have hi : i < m.length := of_decide_eq_true ha.1
    have h0 : m[i]? = some (m[i]'hi) := List.getElem?_eq_getElem hi
    have e0 : m.getD i 0 = m[i]'hi := by simp [List.getD, h0]
    rw [List.map_cons, e0]
    unfold aVs at h ⊢
    split at h
    next v s h1 h2 =>
      rw [aVal_in h0 (hm _ _ h0) h1, aVs_val2 hm ha.2 h2]
      exact h
    next => cases h
theorem aVs_len {ρ : List jv} : ∀ {is : List Nat} {vs : List jv}, aVs ρ is = some vs → vs.length = is.length
  | [], vs, h => by cases h; rfl
  | i :: r, vs, h => by
    unfold aVs at h
    split at h
    next v s h1 h2 =>
      cases h
      simp [aVs_len h2]
    next => cases h
theorem aGr_ok {q : Nat × List Nat} (h : aGr q = true) : ¬ q.1 = 0 ∧ q.1 % 16 ≤ q.2.length := by
  unfold aGr at h
  rw [Bool.and_eq_true] at h
  exact ⟨of_decide_eq_true h.1, of_decide_eq_true h.2⟩
theorem aAllY_ok {sh : P → List jv → P} (hS : aShf F sh) {p : P} {ρ : List jv} {m ms : List Nat} (hm : aWm ρ m) {mv : List jv} (hv : aVs ρ ms = some mv) {σ : Nat → jcell} {fx as : List (Nat × List Nat)} (hf : aFx F p ρ σ fx) (h : aAllY m ms fx as = true) : aFx F (sh p mv) (aVal ρ m) σ as := by
  intro q hq
  have h1 := List.all_eq_true.mp h q hq
  rw [Bool.and_eq_true, Bool.and_eq_true] at h1
  obtain ⟨h0, h1, h2⟩ := h1
  obtain ⟨vs, v1, v2⟩ := hf _ (of_decide_eq_true h2)
  obtain ⟨a, b, e1, e2, rfl⟩ := aVs_app v1
  rw [hv] at e2
  cases e2
  obtain ⟨g1, g2⟩ := aGr_ok h0
  refine ⟨a, aVs_val hm h1 e1, (hS.1 p q.1 a mv σ g1 ?_).mp v2⟩
  rw [aVs_len e1, List.length_map]
  exact g2
/-! what is left behind a call -/
def aKp (env : List aE) (md : List (Nat × Nat)) (q : Nat × Nat × Nat) : Bool := match aKi env q.1 with
  | some k => decide (¬ (k, q.2.1) ∈ md)
  | none => false
theorem aKp_ok {env : List aE} {ρ : List jv} (hR : aR K n env ρ) {md : List (Nat × Nat)} {σ σ' : Nat → jcell} {cc : List (Nat × Nat × Nat)} (h : aCa ρ σ cc) (hf : aFr K n md σ σ') : aCa ρ σ' (cc.filter (aKp env md)) := by
  intro q hq
  obtain ⟨q1, q2⟩ := List.mem_filter.mp hq
  obtain ⟨a, c, fs, v, m1, m2, m3, m4⟩ := h q q1
  unfold aKp at q2
  split at q2
  next k hk =>
    rw [decide_eq_true_eq] at q2
    obtain ⟨b, e1, e2, e3⟩ := aKi_ok hR hk m1
    cases e1
    obtain ⟨fs', f1, -, f2⟩ := hf a e2 c fs m2
    exact ⟨a, c, fs', v, m1, f1, f2 _ _ m3 (by rw [e3]; exact q2), m4⟩
  next => cases q2
def aKc (env : List aE) (cs : List aF) (m : List Nat) (mk : List (Nat × aF)) (q : Nat × aF × Nat) : Bool := match aKi env q.1 with
  | some k => mk.all (fun z => decide (¬ z.1 = k) || (match aSb2 env m z.2 with
    | some g => aPr env cs 2 (aFp ([], -1) (aFp g (aFm (-1) q.2.1)))
    | none => false))
  | none => false
theorem aKc_ok {env : List aE} {ρ : List jv} (hR : aR K n env ρ) {cs : List aF} (hc : ∀ f ∈ cs, aHd ρ f) {m : List Nat} (hm : aWm ρ m) {mk : List (Nat × aF)} {σ σ' : Nat → jcell} {cb : List (Nat × aF × Nat)} (h : aCb ρ σ cb) (hf : aFa K n mk (aVal ρ m) σ σ') : aCb ρ σ' (cb.filter (aKc env cs m mk)) := by
  intro q hq
  obtain ⟨q1, q2⟩ := List.mem_filter.mp hq
  obtain ⟨a, l, ty, g, i, k1, k2, k3, k4, k5⟩ := h q q1
  unfold aKc at q2
  split at q2
  next k hk =>
    obtain ⟨b, e1, e2, e3⟩ := aKi_ok hR hk k1
    cases e1
    have hw : aFw K mk (aVal ρ m) a i := fun z hz ez => by
      have h9 := List.all_eq_true.mp q2 z hz
      rw [Bool.or_eq_true] at h9
      rcases h9 with h9 | h9
      · exact absurd (ez.trans e3) (of_decide_eq_true h9)
      · split at h9
        next g9 hg9 =>
          obtain ⟨y, y1, y2⟩ := aSb2_ok hR hm hg9
          have := aPr_ok hR hc h9 (aVa_p (aVa_k (-1)) (aVa_p y2 (aVa_m (-1) k4)))
          exact ⟨y, y1, by omega⟩
        next => cases h9
    rcases g with g | g
    · obtain ⟨g', f1, f2⟩ := (hf a e2).1 ty l g k2
      exact ⟨a, l, ty, .inl g', i, k1, f1, k3, k4, by show _ = (some (.inl (g' i)) : Option jv); rw [f2 i hw]; exact k5⟩
    · obtain ⟨g', f1, f2⟩ := (hf a e2).2 ty l g k2
      exact ⟨a, l, ty, .inr g', i, k1, f1, k3, k4, by show _ = (some (.inr (.inl (g' i))) : Option jv); rw [f2 i hw]; exact k5⟩
  next => cases q2
def aKx (dep : List (List aDe)) (env : List aE) (cs : List aF) (m : List Nat) (md : List (Nat × Nat)) (mk : List (Nat × aF)) (q : Nat × List Nat) : Bool := aDl dep q.1 && (aDg dep q.1).all (fun e => e.2.1.all (fun f => decide (¬ (e.1, f) ∈ md)) && mk.all (fun z => decide (¬ z.1 = e.1) || (match e.2.2 with
  | some f => (match aSb2 env q.2 f, aSb2 env m z.2 with
    | some g, some b => aPr env cs 2 (aFp b (aFm (-1) g))
    | _, _ => false)
  | none => false)))
def aRwi (T : List aKd) (k : Nat) : Bool := match T[k]? with
  | some (.inl q) => decide (¬ q.1 = .long)
  | _ => false
def aDT (dep : List (List aDe)) (T : List aKd) : Bool := dep.all (fun ks => ks.all (fun e => decide (e.1 < T.length) && (match e.2.2 with
  | some _ => aRwi T e.1
  | none => true)))
theorem aFr_eq {T : List aKd} {md : List (Nat × Nat)} {mk : List (Nat × aF)} {ρc : List jv} {σ σ' : Nat → jcell} (h1 : aFr K n md σ σ') (h2 : aFa K n mk ρc σ σ') (hH : aH T K n σ) {a : Nat} (ha : a < n) (hT : K a < T.length) (hm : ∀ q ∈ md, ¬ q.1 = K a) (hk : ∀ q ∈ mk, ¬ q.1 = K a) : σ' a = σ a := by
  have h9 := hH a ha _ (List.getElem?_eq_getElem hT)
  rcases hc : σ a with ⟨t, m, g | g | g⟩ | ⟨c, fs⟩
  · obtain ⟨g', e1, e2⟩ := (h2 a ha).1 t m g hc
    rw [e1, show g' = g from funext (fun i => e2 i (fun q hq e => absurd e (hk q hq)))]
  · obtain ⟨g', e1, e2⟩ := (h2 a ha).2 t m g hc
    rw [e1, show g' = g from funext (fun i => e2 i (fun q hq e => absurd e (hk q hq)))]
  · rw [hc] at h9
    unfold aCe at h9
    split at h9 <;> first | exact h9.elim | (rename_i he; cases he) | skip
  · obtain ⟨fs', e1, e2, e3⟩ := h1 a ha c fs hc
    rw [e1]
    congr 2
    apply List.ext_getElem?
    intro i
    by_cases hi : i < fs.length
    · have hv : fs[i]? = some fs[i] := List.getElem?_eq_getElem hi
      rw [e3 i _ hv (fun q => hm _ q rfl), hv]
    · rw [List.getElem?_eq_none (by omega), List.getElem?_eq_none (by omega)]
theorem aDT_in {T : List aKd} {dep : List (List aDe)} (hDT : aDT dep T = true) {r : Nat} {e : aDe} (he : e ∈ aDg dep r) : e.1 < T.length ∧ (e.2.2.isSome = true → aRwi T e.1 = true) := by
  have key : ∀ (k : Nat) (e : aDe), e ∈ dep.getD k [] → e.1 < T.length ∧ (e.2.2.isSome = true → aRwi T e.1 = true) := by
    intro r e he
    have hm : dep.getD r [] ∈ dep := by
      by_cases hi : r < dep.length
      · have : dep.getD r [] = dep[r]'hi := by simp [List.getD, List.getElem?_eq_getElem hi]
        rw [this]
        exact List.getElem_mem hi
      · have : dep.getD r [] = [] := by simp [List.getD, List.getElem?_eq_none (show dep.length ≤ r by omega)]
        rw [this] at he
        cases he
    have h1 := List.all_eq_true.mp (List.all_eq_true.mp hDT _ hm) _ he
    rw [Bool.and_eq_true] at h1
    refine ⟨of_decide_eq_true h1.1, fun hs => ?_⟩
    have h2 := h1.2
    split at h2
    next => exact h2
    next e9 => rw [e9] at hs; cases hs
  unfold aDg at he
  split at he
  next => exact key _ e he
  next =>
    obtain ⟨e0, e1, rfl⟩ := List.mem_map.mp he
    exact ⟨(key _ e0 e1).1, fun hs => by cases hs⟩
theorem aKx_ok {T : List aKd} {dep : List (List aDe)} (hD : aDp F K n dep) (hDT : aDT dep T = true) {p : P} {env : List aE} {ρ : List jv} (hR : aR K n env ρ) {cs : List aF} (hc : ∀ f ∈ cs, aHd ρ f) {m : List Nat} (hm : aWm ρ m) {md : List (Nat × Nat)} {mk : List (Nat × aF)} {σ σ' : Nat → jcell} (hH : aH T K n σ) {fx : List (Nat × List Nat)} (h : aFx F p ρ σ fx) (h1 : aFr K n md σ σ') (h2 : aFa K n mk (aVal ρ m) σ σ') : aFx F p ρ σ' (fx.filter (aKx dep env cs m md mk)) := by
  intro q hq
  obtain ⟨q1, q2⟩ := List.mem_filter.mp hq
  obtain ⟨q0, q2⟩ := (Bool.and_eq_true _ _ ▸ q2 : _ ∧ _)
  obtain ⟨vs, v1, v2⟩ := h q q1
  refine ⟨vs, v1, hD.1 p q.1 vs σ σ' q0 (fun a ha e he hk => ?_) v2⟩
  have h3 := List.all_eq_true.mp q2 e he
  rw [Bool.and_eq_true] at h3
  obtain ⟨h3, h4⟩ := h3
  obtain ⟨h5, h6⟩ := aDT_in hDT he
  rw [hk] at h5
  have h9 := hH a ha _ (List.getElem?_eq_getElem h5)
  rcases hc9 : σ a with ⟨t, l, g | g | g⟩ | ⟨c, fs⟩
  · obtain ⟨g', e1, e2⟩ := (h2 a ha).1 t l g hc9
    by_cases hn : ∀ z ∈ mk, ¬ z.1 = e.1
    · refine Or.inl ?_
      rw [e1, show g' = g from funext (fun i => e2 i (fun z hz ez => absurd (ez.trans hk.symm) (hn z hz)))]
    · cases hf : e.2.2 with
      | none =>
        exfalso
        apply hn
        intro z hz ez
        have h7 := List.all_eq_true.mp h4 z hz
        rw [hf, Bool.or_eq_true] at h7
        rcases h7 with h7 | h7
        · exact of_decide_eq_true h7 ez
        · cases h7
      | some f =>
        obtain ⟨w1, w2⟩ := aVs_al v1
        have hz0 : ∃ z ∈ mk, z.1 = e.1 := by
          apply Classical.byContradiction
          intro hcon
          exact hn (fun z hz ez => hcon ⟨z, hz, ez⟩)
        have hb : ∀ z ∈ mk, z.1 = e.1 → ∃ (x y : Int), aVa vs f x ∧ aVa (aVal ρ m) z.2 y ∧ x ≤ y := by
          intro z hz ez
          have h7 := List.all_eq_true.mp h4 z hz
          rw [hf, Bool.or_eq_true] at h7
          rcases h7 with h7 | h7
          · exact absurd ez (of_decide_eq_true h7)
          · dsimp only at h7
            split at h7
            next g1 b1 hg1 hb1 =>
              obtain ⟨x, x1, x2⟩ := aSb2_ok hR w2 hg1
              obtain ⟨y, y1, y2⟩ := aSb2_ok hR hm hb1
              have := aPr_ok hR hc h7 (aVa_p y2 (aVa_m (-1) x2))
              rw [← w1] at x1
              exact ⟨x, y, x1, y1, by omega⟩
            next => cases h7
        obtain ⟨z0, z1, z2⟩ := hz0
        obtain ⟨x0, y0, x1, -, -⟩ := hb z0 z1 z2
        refine Or.inr (Or.inr ⟨t, l, g, g', f, x0, hf, x1, rfl, e1, fun i hi => e2 i (fun z hz ez => ?_)⟩)
        obtain ⟨x, y, k1, k2, k3⟩ := hb z hz (ez.trans hk.symm)
        have := aVa_f k1 x1
        exact ⟨y, k2, by omega⟩
  · obtain ⟨g', e1, e2⟩ := (h2 a ha).2 t l g hc9
    refine Or.inl ?_
    have hn : ∀ z ∈ mk, ¬ z.1 = e.1 := by
      intro z hz ez
      have h7 := List.all_eq_true.mp h4 z hz
      rw [Bool.or_eq_true] at h7
      rcases h7 with h7 | h7
      · exact of_decide_eq_true h7 ez
      · split at h7
        next f hf =>
          have h8 := h6 (by rw [hf]; rfl)
          unfold aRwi at h8
          rw [hk, List.getElem?_eq_getElem h5] at h8
          rw [hc9] at h9
          generalize T[K a] = d at h8 h9
          rcases d with q9 | q9
          · exact of_decide_eq_true h8 h9.2.2
          · cases h8
        next => cases h7
    rw [e1, show g' = g from funext (fun i => e2 i (fun z hz ez => absurd (ez.trans hk.symm) (hn z hz)))]
  · rw [hc9] at h9
    unfold aCe at h9
    split at h9 <;> first | exact h9.elim | (rename_i he9; cases he9) | skip
  · obtain ⟨fs', e1, e2, e3⟩ := h1 a ha c fs hc9
    refine Or.inr (Or.inl ⟨c, fs, fs', rfl, e1, e2, fun f hf => ?_⟩)
    have h7 := of_decide_eq_true (List.all_eq_true.mp h3 f hf)
    by_cases hi : f < fs.length
    · have hv : fs[f]? = some fs[f] := List.getElem?_eq_getElem hi
      rw [e3 f _ hv (by rw [← hk]; exact h7), hv]
    · rw [List.getElem?_eq_none (by omega), List.getElem?_eq_none (by omega)]
theorem aFr_tr {md md' : List (Nat × Nat)} {σ0 σ σ' : Nat → jcell} (h1 : aFr K n md σ0 σ) (h2 : aFr K n md' σ σ') (hm : ∀ q ∈ md', q ∈ md) : aFr K n md σ0 σ' := by
  intro a ha c fs h0
  obtain ⟨fs1, e1, el, e2⟩ := h1 a ha c fs h0
  obtain ⟨fs2, e3, em, e4⟩ := h2 a ha c fs1 e1
  exact ⟨fs2, e3, em.trans el, fun f v hv hn => e4 f v (e2 f v hv hn) (fun q => hn (hm _ q))⟩
theorem aFr_rf {md : List (Nat × Nat)} {σ : Nat → jcell} : aFr K n md σ σ := fun _ _ _ fs h => ⟨fs, h, rfl, fun _ _ hv _ => hv⟩
theorem aFa_rf {mk : List (Nat × aF)} {σ : Nat → jcell} {ρ : List jv} : aFa K n mk ρ σ σ := fun _ _ => ⟨fun _ _ g h => ⟨g, h, fun _ _ => rfl⟩, fun _ _ g h => ⟨g, h, fun _ _ => rfl⟩⟩
theorem aFa_tr {mk mk' : List (Nat × aF)} {ρ ρc : List jv} {σ0 σ σ' : Nat → jcell} (h1 : aFa K n mk ρ σ0 σ) (h2 : aFa K n mk' ρc σ σ') (hm : ∀ a i, aFw K mk ρ a i → aFw K mk' ρc a i) : aFa K n mk ρ σ0 σ' := by
  intro a ha
  refine ⟨fun ty m g h0 => ?_, fun ty m g h0 => ?_⟩
  · obtain ⟨g1, e1, e2⟩ := (h1 a ha).1 ty m g h0
    obtain ⟨g2, e3, e4⟩ := (h2 a ha).1 ty m g1 e1
    exact ⟨g2, e3, fun i hi => (e4 i (hm a i hi)).trans (e2 i hi)⟩
  · obtain ⟨g1, e1, e2⟩ := (h1 a ha).2 ty m g h0
    obtain ⟨g2, e3, e4⟩ := (h2 a ha).2 ty m g1 e1
    exact ⟨g2, e3, fun i hi => (e4 i (hm a i hi)).trans (e2 i hi)⟩
def aSubM (md' md : List (Nat × Nat)) : Bool := md'.all (fun q => decide (q ∈ md))
theorem aSubM_ok {md' md : List (Nat × Nat)} (h : aSubM md' md = true) : ∀ q ∈ md', q ∈ md := fun q hq => of_decide_eq_true (List.all_eq_true.mp h q hq)
def aSubK (C : aCf) (env : List aE) (cs : List aF) (m : List Nat) (mk : List (Nat × aF)) : Bool := mk.all (fun q => match aMk C.2.2.2.2.1 q.1 with
  | some B => (match aSb2 env (List.range C.2.2.2.2.2.2) B, aSb2 env m q.2 with
    | some g, some g' => aPr env cs 2 (aFp g' (aFm (-1) g))
    | _, _ => false)
  | none => false)
theorem aSubK_ok {env : List aE} {ρ : List jv} (hR : aR K n env ρ) (hx : aX ρ0 ρ) (hE : C.2.2.2.2.2.2 = ρ0.length) {cs : List aF} (hc : ∀ f ∈ cs, aHd ρ f) {m : List Nat} (hm : aWm ρ m) {mk : List (Nat × aF)} (h : aSubK C env cs m mk = true) : ∀ a i, aFw K C.2.2.2.2.1 ρ0 a i → aFw K mk (aVal ρ m) a i := by
  intro a i hw q hq e
  have h1 := List.all_eq_true.mp h q hq
  split at h1
  next B hB =>
    split at h1
    next g g' hg hg' =>
      obtain ⟨z, z1, z2⟩ := hw _ (aMk_in hB) e
      rw [hE] at hg
      obtain ⟨y, y1, y2⟩ := aSb2_ok hR (aWm_rg hx) hg
      rw [aVal_rg hx] at y1
      have e1 := aVa_f y1 z1
      obtain ⟨x, x1, x2⟩ := aSb2_ok hR hm hg'
      have := aPr_ok hR hc h1 (aVa_p x2 (aVa_m (-1) y2))
      exact ⟨x, x1, by omega⟩
    next => cases h1
  next => cases h1
end ASY
