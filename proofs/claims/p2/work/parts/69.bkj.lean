/-! a call -/
theorem jcat_le : ∀ (r : List jv), (r.map jcat).sum ≤ 2 * r.length
  | [] => by simp
  | v :: r => by
    have h := jcat_le r
    have h2 : jcat v ≤ 2 := by rcases v with x | x | x <;> simp [jcat]
    simp only [List.map_cons, List.sum_cons, List.length_cons]
    omega
theorem aSk_len {ρ : List jv} : ∀ {al : List Nat} {st : List jv}, aSk ρ al st → st.length = al.length
  | [], [], _ => rfl
  | _ :: _, _ :: _, h => by simp [aSk_len h.2]
  | [], _ :: _, h => h.elim
  | _ :: _, [], h => h.elim
def aNew (b k : Nat) : List Nat := (List.range k).map (fun i => b + i)
def aRnm (m : List Nat) (i : Nat) : Nat := m.getD i 0
def aAf (C : aCf) (S : aS) (G : aCon) (m ms : List Nat) : aS := (S.1, (match G.2.2.2.2.1.1 with
    | some _ => S.2.2.1.length :: S.2.1
    | none => S.2.1), S.2.2.1 ++ (G.2.2.2.2.1.1.toList ++ G.2.2.2.2.1.2.1).map (fun t => (t, none)),
  (G.2.2.2.2.1.2.2.1.1.map (fun q => (aRnm (m ++ aNew S.2.2.1.length (G.2.2.2.2.1.1.toList ++ G.2.2.2.2.1.2.1).length) q.1, q.2.1, aRnm (m ++ aNew S.2.2.1.length (G.2.2.2.2.1.1.toList ++ G.2.2.2.2.1.2.1).length) q.2.2)) ++ S.2.2.2.1.filter (aKp S.2.2.1 G.2.2.2.2.2.1.1),
   S.2.2.2.2.1.filter (aKc S.2.2.1 S.2.2.2.2.2.1 m G.2.2.2.2.2.1.2),
   S.2.2.2.2.2.1,
   G.2.2.2.2.1.2.2.1.2.2.2.map (fun q => (q.1, q.2.map (aRnm (m ++ aNew S.2.2.1.length (G.2.2.2.2.1.1.toList ++ G.2.2.2.2.1.2.1).length)) ++ ms)) ++ S.2.2.2.2.2.2.filter (aKx C.2.2.2.2.2.1 S.2.2.1 S.2.2.2.2.2.1 m G.2.2.2.2.2.1.1 G.2.2.2.2.2.1.2)))
def aAg (C : aCf) (S : aS) (G : aCon) (m ms : List Nat) (p : Nat) (A : List aF) : List (Nat × aS) := aBs (aAf C S G m ms) (aAf C S G m ms).2.1 ((A ++ G.2.2.2.2.1.2.2.1.2.2.1).filterMap (aSb2 (S.2.2.1 ++ (G.2.2.2.2.1.1.toList ++ G.2.2.2.2.1.2.1).map (fun t => (t, none))) (m ++ aNew S.2.2.1.length (G.2.2.2.2.1.1.toList ++ G.2.2.2.2.1.2.1).length))) p
/-- names of a contract are within it -/
def aOkp (k : Nat) (M : aM) : Bool := M.1.all (fun q => decide (q.1 < k) && decide (q.2.2 < k)) && M.2.2.2.all (fun q => aGr q && q.2.all (fun i => decide (i < k)))
def aCall (C : aCf) (S : aS) (G : aCon) (p : Nat) : Option (List (Nat × aS)) := if (S.2.1.take G.2.2.1).length = G.2.2.1 then (match aMpf C (S.1, S.2.1.drop G.2.2.1, S.2.2.1, S.2.2.2) (S.2.1.take G.2.2.1).reverse G.2.2.2.1.2.1 with
  | some z => (match aMs z.2 z.1.2.2.2.2.2.2 G.2.2.2.1.2.2.2.2 with
    | some ms => if (aAllE z.1.2.2.1 z.1.2.2.2.2.2.1 z.2 G.2.2.2.1.1 && (aAllB z.1.2.2.1 z.2 z.1.2.2.2.2.1 G.2.2.2.1.2.2.1 && (aNil G.2.2.2.2.1.2.2.1 && (aAllN z.1.2.2.1 z.1.2.2.2.2.2.1 z.2 G.2.2.2.1.2.2.2.1 && (aAllY z.2 ms z.1.2.2.2.2.2.2 G.2.2.2.1.2.2.2.2 && (ms.all (fun i => decide (i < z.1.2.2.1.length)) && (aSubM G.2.2.2.2.2.1.1 C.2.2.2.1 && (aSubK C z.1.2.2.1 z.1.2.2.2.2.2.1 z.2 G.2.2.2.2.2.1.2 && aOkp (aPe G).length G.2.2.2.2.1.2.2.1)))))))) = true then some (G.2.2.2.2.1.2.2.2.flatMap (aAg C z.1 G z.2 ms p)) else none
    | none => none)
  | none => none) else none
section ASC
variable {K : Nat → Nat} {n : Nat} {P : Type} {F : aFt P} {C : aCf} {JX : (Nat → jcell) → Prop} {ρ0 : List jv} {σ0 : Nat → jcell}
theorem aSk_sp {ρ : List jv} : ∀ {k : Nat} {sk : List Nat} {st : List jv}, aSk ρ sk st → (sk.take k).length = k → ∃ vs s, st = vs ++ s ∧ vs = aVal ρ (sk.take k) ∧ aSk ρ (sk.drop k) s ∧ aWm ρ (sk.take k)
  | 0, sk, st, h, _ => ⟨[], st, rfl, rfl, h, fun i k q => by simp at q⟩
  | k + 1, [], st, h, hl => by simp at hl
  | k + 1, i :: r, [], h, _ => h.elim
  | k + 1, i :: r, v :: s, h, hl => by
    obtain ⟨vs, s2, rfl, e1, e2, e3⟩ := aSk_sp (k := k) h.2 (by simpa using hl)
    refine ⟨v :: vs, s2, rfl, ?_, e2, fun j k1 hj => ?_⟩
    · rw [List.take_succ_cons]
      show _ = _ :: _
      rw [e1]
      congr 1
      simp [List.getD, h.1]
    · cases j with
      | zero =>
        cases hj
        exact (List.getElem?_eq_some_iff.mp h.1).1
      | succ j => exact e3 j k1 (by simpa using hj)
theorem aVal_mo {ρ ρ' : List jv} (hx : aX ρ ρ') {m : List Nat} (hm : aWm ρ m) : aVal ρ' m = aVal ρ m := by
  apply List.ext_getElem?
  intro i
  cases hi : m[i]? with
  | none =>
    have h1 : m.length ≤ i := List.getElem?_eq_none_iff.mp hi
    rw [List.getElem?_eq_none (by unfold aVal; simpa using h1), List.getElem?_eq_none (by unfold aVal; simpa using h1)]
  | some k =>
    have hv : ρ[k]? = some (ρ[k]'(hm _ _ hi)) := List.getElem?_eq_getElem (hm _ _ hi)
    rw [aVal_at hi hv, aVal_at hi (hx _ _ hv)]
theorem aX_apps {ρ ws : List jv} : aX ρ (ρ ++ ws) := fun i w h => by
  rw [List.getElem?_append_left (List.getElem?_eq_some_iff.mp h).1]; exact h
theorem aVal_new {ρ ws : List jv} {m : List Nat} (hm : aWm ρ m) : aVal (ρ ++ ws) (m ++ aNew ρ.length ws.length) = aVal ρ m ++ ws := by
  have h1 : aVal (ρ ++ ws) (m ++ aNew ρ.length ws.length) = aVal (ρ ++ ws) m ++ aVal (ρ ++ ws) (aNew ρ.length ws.length) := by unfold aVal; rw [List.map_append]
  rw [h1, aVal_mo aX_apps hm]
  congr 1
  apply List.ext_getElem?
  intro i
  by_cases hi : i < ws.length
  · have hv : ws[i]? = some ws[i] := List.getElem?_eq_getElem hi
    rw [hv]
    refine aVal_at (k := ρ.length + i) ?_ ?_
    · unfold aNew
      rw [List.getElem?_map, List.getElem?_range hi]
      rfl
    · rw [List.getElem?_append_right (by omega), show ρ.length + i - ρ.length = i by omega]
      exact hv
  · rw [List.getElem?_eq_none (by unfold aVal aNew; simp; omega), List.getElem?_eq_none (by omega)]
theorem aWm_new {ρ ws : List jv} {m : List Nat} (hm : aWm ρ m) : aWm (ρ ++ ws) (m ++ aNew ρ.length ws.length) := by
  intro i k hk
  by_cases hi : i < m.length
  · rw [List.getElem?_append_left hi] at hk
    have := hm i k hk
    rw [List.length_append]
    omega
  · rw [List.getElem?_append_right (by omega)] at hk
    unfold aNew at hk
    rw [List.getElem?_map] at hk
    obtain ⟨j, h1, h2⟩ := Option.map_eq_some_iff.mp hk
    have h3 := List.getElem?_eq_some_iff.mp h1
    obtain ⟨h4, h5⟩ := h3
    simp at h4 h5
    rw [List.length_append]
    omega
theorem aR_apps {env : List aE} {ρ ws : List jv} (h : aR K n env ρ) {ts : List aT} {es : List aE} {ρc : List jv} (h2 : aR K n (es ++ ts.map (fun t => (t, none))) (ρc ++ ws)) (hl : ρc.length = es.length) : aR K n (env ++ ts.map (fun t => (t, none))) (ρ ++ ws) := by
  have hl2 : ws.length = ts.length := by
    have := h2.1
    simp at this
    omega
  refine ⟨by simp [h.1, hl2], fun i e v he hv => ?_⟩
  by_cases hi : i < env.length
  · rw [List.getElem?_append_left hi] at he
    rw [List.getElem?_append_left (by rw [h.1]; exact hi)] at hv
    have h3 := h.2 i e v he hv
    exact ⟨h3.1, h3.2.mo aX_apps⟩
  · rw [List.getElem?_append_right (by omega)] at he
    rw [List.getElem?_append_right (by rw [h.1]; omega), h.1] at hv
    have h3 := h2.2 (es.length + (i - env.length)) e v (by rw [List.getElem?_append_right (by omega), show es.length + (i - env.length) - es.length = i - env.length by omega]; exact he) (by rw [List.getElem?_append_right (by omega), show es.length + (i - env.length) - ρc.length = i - env.length by omega]; exact hv)
    refine ⟨h3.1, ?_⟩
    rw [List.getElem?_map] at he
    obtain ⟨t, -, rfl⟩ := Option.map_eq_some_iff.mp he
    trivial
theorem aVs_def {ρ : List jv} : ∀ {ms : List Nat}, ms.all (fun i => decide (i < ρ.length)) = true → ∃ mv, aVs ρ ms = some mv
  | [], _ => ⟨[], rfl⟩
  | i :: r, h => by
    rw [List.all_cons, Bool.and_eq_true] at h
    obtain ⟨mv, h2⟩ := aVs_def h.2
    have hi : i < ρ.length := of_decide_eq_true h.1
    refine ⟨(ρ[i]'hi) :: mv, ?_⟩
    unfold aVs
    rw [List.getElem?_eq_getElem hi, h2]
theorem aRnm_at {m : List Nat} {i : Nat} (hi : i < m.length) : m[i]? = some (aRnm m i) := by
  unfold aRnm
  simp [List.getD, List.getElem?_eq_getElem hi]
/-- what a call needs and gives -/
theorem aCall_ok {sh : P → List jv → P} (hS : aShf F sh) (hD : aDp F K n C.2.2.2.2.2.1) (hDT : aDT C.2.2.2.2.2.1 C.1 = true) (hE : C.2.2.2.2.2.2 = ρ0.length) {S : aS} {G : aCon} {p : Nat} {L : List (Nat × aS)} (hb : aCall C S G p = some L) {ρ : List jv} (hx0 : aX ρ0 ρ) {lv : List (Option jv)} {st : List jv} {σ : Nat → jcell} (hc : aCx F (aHp C K n JX ρ0 σ0) K n S ρ lv st σ) : ∃ (vs s : List jv) (ρ1 : List jv) (m : List Nat) (pc : P), st = vs ++ s ∧ vs.length = G.2.2.1 ∧ s.length = (S.2.1.drop G.2.2.1).length ∧ aR K n G.2.2.2.1.1 (aVal ρ1 m) ∧ aMm F pc (aVal ρ1 m) σ G.2.2.2.1.2 ∧ (aVal ρ1 m).take G.2.2.1 = vs.reverse ∧ ∀ (J : jN) (r : Option jv) (σ' : Nat → jcell) (xs : List jv), aNx F (aHp C K n JX ρ0 σ0) K n J ρ L → aH C.1 K n σ' → JX σ' → aFr K n G.2.2.2.2.2.1.1 σ σ' → aFa K n G.2.2.2.2.2.1.2 (aVal ρ1 m) σ σ' → r.isSome = G.2.2.2.2.1.1.isSome → aR K n (aPe G) (aVal ρ1 m ++ (r.toList ++ xs)) → aMm F pc (aVal ρ1 m ++ (r.toList ++ xs)) σ' G.2.2.2.2.1.2.2.1 → (∃ A ∈ G.2.2.2.2.1.2.2.2, ∀ f ∈ A, aHd (aVal ρ1 m ++ (r.toList ++ xs)) f) → J p lv (r.toList ++ s) σ' := by
  unfold aCall at hb
  split at hb
  next hl =>
    obtain ⟨vs, s, rfl, e1, e2, e3⟩ := aSk_sp hc.2.2.1 hl
    split at hb
    next z hz =>
      obtain ⟨⟨ex, hm⟩, ρ1, x1, c1, hst, hf⟩ := aMpf_ok hz (S := (S.1, S.2.1.drop G.2.2.1, S.2.2.1, S.2.2.2)) (ρ := ρ) (lv := lv) (st := s) (σ := σ) ⟨hc.1, hc.2.1, e2, hc.2.2.2.1, hc.2.2.2.2⟩
      split at hb
      next ms hms =>
        split at hb
        next hq =>
          cases hb
          simp only [Bool.and_eq_true] at hq
          obtain ⟨q1, q2, q3, q4, q5, q6, q7, q8, q9⟩ := hq
          obtain ⟨p9, m1, m2, m3, m4⟩ := c1.2.2.2.1
          obtain ⟨i1, i2⟩ := aAllE_ok c1.1 m3 q1
          obtain ⟨mv, hmv⟩ := aVs_def (ρ := ρ1) (ms := ms) (by rw [c1.1.1]; exact q6)
          have hlen : vs.length = G.2.2.1 := by rw [e1]; unfold aVal; rw [List.length_map]; exact hl
          refine ⟨vs, s, ρ1, z.2, sh p9 mv, rfl, hlen, aSk_len e2, i1, ⟨aMpf_ca hf, aAllB_ok c1.1 i2 m2 q2, aAllN_ok c1.1 m3 i2 q4, aAllY_ok hS i2 hmv m4 q5⟩, ?_, ?_⟩
          · rw [hm]
            have hr : (S.2.1.take G.2.2.1).reverse.length = G.2.2.1 := by rw [List.length_reverse]; exact hl
            unfold aVal
            rw [List.map_append, List.take_append_of_le_length (by rw [List.length_map, hr]; exact Nat.le_refl _), List.take_of_length_le (by rw [List.length_map, hr]; exact Nat.le_refl _), List.map_reverse]
            congr 1
            rw [e1]
            exact aVal_mo x1 e3
          · intro J r σ' xs h h1 h2 h3 h4 h5 h6 h7 h8
            obtain ⟨A, hA, hAf⟩ := h8
            have hlc : (aVal ρ1 z.2).length = G.2.2.2.1.1.length := i1.1
            have hlw : (r.toList ++ xs).length = (G.2.2.2.2.1.1.toList ++ G.2.2.2.2.1.2.1).length := by
              have := h6.1
              unfold aPe at this
              simp only [List.length_append, List.length_map] at this ⊢
              omega
            have hR2 := aR_apps c1.1 h6 hlc
            have hv2 : aVal (ρ1 ++ (r.toList ++ xs)) (z.2 ++ aNew z.1.2.2.1.length (G.2.2.2.2.1.1.toList ++ G.2.2.2.2.1.2.1).length) = aVal ρ1 z.2 ++ (r.toList ++ xs) := by
              rw [← c1.1.1, ← hlw]
              exact aVal_new i2
            have hw2 : aWm (ρ1 ++ (r.toList ++ xs)) (z.2 ++ aNew z.1.2.2.1.length (G.2.2.2.2.1.1.toList ++ G.2.2.2.2.1.2.1).length) := by
              rw [← c1.1.1, ← hlw]
              exact aWm_new i2
            have hml : (z.2 ++ aNew z.1.2.2.1.length (G.2.2.2.2.1.1.toList ++ G.2.2.2.2.1.2.1).length).length = (aPe G).length := by
              have e7 : z.2.length = (aVal ρ1 z.2).length := by unfold aVal; rw [List.length_map]
              unfold aPe aNew
              simp only [List.length_append, List.length_map, List.length_range]
              omega
            rw [← hv2] at h7 hAf
            obtain ⟨n1, n2, n3, n4⟩ := h7
            simp only [aOkp, Bool.and_eq_true] at q9
            obtain ⟨o1, o2⟩ := q9
            have hx2 : aX ρ1 (ρ1 ++ (r.toList ++ xs)) := aX_apps
            obtain ⟨t1, t2, t3, t4⟩ := c1.2.2.2.2
            have hfr := aFr_tr t3 h3 (aSubM_ok q7)
            have hfa := aFa_tr t4 h4 (aSubK_ok c1.1 (hx0.tr x1) hE m3 i2 q8)
            have hmm : aMm F p9 (ρ1 ++ (r.toList ++ xs)) σ' (aAf C z.1 G z.2 ms).2.2.2 := by
              refine ⟨fun q hq => ?_, (aKc_ok c1.1 m3 i2 m2 h4).mo hx2, fun f hf => (m3 f hf).mo hx2, fun q hq => ?_⟩
              · rcases List.mem_append.mp hq with hq | hq
                · obtain ⟨q0, k1, rfl⟩ := List.mem_map.mp hq
                  have k2 := List.all_eq_true.mp o1 q0 k1
                  simp only [Bool.and_eq_true, decide_eq_true_eq] at k2
                  obtain ⟨a, c, fs, v, w1, w2, w3, w4⟩ := n1 q0 k1
                  have r1 := aRnm_at (m := z.2 ++ aNew z.1.2.2.1.length (G.2.2.2.2.1.1.toList ++ G.2.2.2.2.1.2.1).length) (i := q0.1) (by rw [hml]; exact k2.1)
                  have r2 := aRnm_at (m := z.2 ++ aNew z.1.2.2.1.length (G.2.2.2.2.1.1.toList ++ G.2.2.2.2.1.2.1).length) (i := q0.2.2) (by rw [hml]; exact k2.2)
                  exact ⟨a, c, fs, v, aVal_in r1 (hw2 _ _ r1) w1, w2, w3, aVal_in r2 (hw2 _ _ r2) w4⟩
                · exact ((aKp_ok c1.1 m1 h3).mo hx2) q hq
              · rcases List.mem_append.mp hq with hq | hq
                · obtain ⟨q0, k1, rfl⟩ := List.mem_map.mp hq
                  have k2 := List.all_eq_true.mp o2 q0 k1
                  rw [Bool.and_eq_true] at k2
                  obtain ⟨vs9, v1, v2⟩ := n4 q0 k1
                  obtain ⟨g1, g2⟩ := aGr_ok k2.1
                  have v3 := aVs_val2 hw2 (by rw [hml]; exact k2.2) v1
                  exact ⟨vs9 ++ mv, aVs_app2 v3 (aVs_mo hx2 hmv), (hS.1 p9 q0.1 vs9 mv σ' g1 (by rw [aVs_len v1]; exact g2)).mpr v2⟩
                · exact ((aKx_ok hD hDT c1.1 m3 i2 t1 m4 h3 h4).mo hx2) q hq
            have hfs : ∀ f ∈ (A ++ G.2.2.2.2.1.2.2.1.2.2.1).filterMap (aSb2 (z.1.2.2.1 ++ (G.2.2.2.2.1.1.toList ++ G.2.2.2.2.1.2.1).map (fun t => (t, none))) (z.2 ++ aNew z.1.2.2.1.length (G.2.2.2.2.1.1.toList ++ G.2.2.2.2.1.2.1).length)), aHd (ρ1 ++ (r.toList ++ xs)) f := fun f hf => by
              obtain ⟨g, k1, k2⟩ := List.mem_filterMap.mp hf
              obtain ⟨y, y1, y2⟩ := aSb2_ok hR2 hw2 k2
              have hg9 : aHd _ g := (List.mem_append.mp k1).elim (hAf g) (n3 g)
              obtain ⟨w, w1, w2⟩ := aHd_va.mp hg9
              have := aVa_f y1 w1
              exact aHd_va.mpr ⟨y, y2, by omega⟩
            have hst9 : aSk (ρ1 ++ (r.toList ++ xs)) (aAf C z.1 G z.2 ms).2.1 (r.toList ++ s) := by
              have hs9 := c1.2.2.1.mo hx2
              cases hrt : G.2.2.2.2.1.1 with
              | none =>
                rw [hrt] at h5
                cases r with
                | none => simp only [aAf, hrt]; exact hs9
                | some v => cases h5
              | some t =>
                rw [hrt] at h5
                cases r with
                | none => cases h5
                | some v =>
                  simp only [aAf, hrt]
                  refine ⟨?_, hs9⟩
                  rw [← c1.1.1, List.getElem?_append_right (Nat.le_refl _)]
                  simp
            have hcx9 : aCx F (aHp C K n JX ρ0 σ0) K n (aAf C z.1 G z.2 ms) (ρ1 ++ (r.toList ++ xs)) lv (r.toList ++ s) σ' := ⟨hR2, c1.2.1.mo hx2, hst9, ⟨p9, hmm⟩, h1, h2, hfr, hfa⟩
            exact aBs_ok (p := p) hcx9 hst9 hfs (fun q hq ρ2 lv2 st2 σ2 hxx hcc => h q (List.mem_flatMap.mpr ⟨A, hA, hq⟩) ρ2 lv2 st2 σ2 ((x1.tr hx2).tr hxx) hcc)
        next => cases hb
      next => cases hb
    next => cases hb
  next => cases hb
end ASC
