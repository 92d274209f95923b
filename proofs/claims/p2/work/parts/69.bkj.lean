section
/-! a call -/
theorem jcat_le : ∀ (r : List jv), (r.map jcat).sum ≤ 2 * r.length
  | [] => by simp
  | v :: r => by
    have h := jcat_le r
    have h2 : jcat v ≤ 2 := by rcases v with x | x | x <;> simp [jcat]
    simp only [List.map_cons, List.sum_cons, List.length_cons]
    omega
theorem aSk_len {ρ : List jv} : ∀ {al : List Nat} {st : List jv}, aSk ρ al st → st.length = al.length
  | [], [], _ => rfl
  | _ :: _, _ :: _, h => by simp [aSk_len h.2]
  | [], _ :: _, h => h.elim
  | _ :: _, [], h => h.elim
noncomputable def aNew (b k : Nat) : List Nat := (List.range k).map (fun i => b + i)
noncomputable def aRnm (m : List Nat) (i : Nat) : Nat := m.getD i 0
noncomputable def aAf (C : aCf) (S : aS) (G : aCon) (m ms : List Nat) : aS := (S.1, (match G.2.2.2.2.1.1 with
    | some _ => S.2.2.1.length :: S.2.1
    | none => S.2.1), S.2.2.1 ++ (G.2.2.2.2.1.1.toList ++ G.2.2.2.2.1.2.1).map (fun t => (t, none)),
  (G.2.2.2.2.1.2.2.1.1.map (fun q => (aRnm (m ++ aNew S.2.2.1.length (G.2.2.2.2.1.1.toList ++ G.2.2.2.2.1.2.1).length) q.1, q.2.1, aRnm (m ++ aNew S.2.2.1.length (G.2.2.2.2.1.1.toList ++ G.2.2.2.2.1.2.1).length) q.2.2)) ++ S.2.2.2.1.filter (aKp S.2.2.1 G.2.2.2.2.2.1.1),
   S.2.2.2.2.1.filter (aKc S.2.2.1 S.2.2.2.2.2.1 m G.2.2.2.2.2.1.2),
   S.2.2.2.2.2.1,
   G.2.2.2.2.1.2.2.1.2.2.2.map (fun q => (q.1, q.2.map (aRnm (m ++ aNew S.2.2.1.length (G.2.2.2.2.1.1.toList ++ G.2.2.2.2.1.2.1).length)) ++ ms)) ++ S.2.2.2.2.2.2.filter (aKx C.2.2.2.2.2.1 S.2.2.1 S.2.2.2.2.2.1 m G.2.2.2.2.2.1.1 G.2.2.2.2.2.1.2)))
noncomputable def aAg (C : aCf) (S : aS) (G : aCon) (m ms : List Nat) (p : Nat) (A : List aF) : List (Nat × aS) := aBs (aAf C S G m ms) (aAf C S G m ms).2.1 ((A ++ G.2.2.2.2.1.2.2.1.2.2.1).filterMap (aSb2 (S.2.2.1 ++ (G.2.2.2.2.1.1.toList ++ G.2.2.2.2.1.2.1).map (fun t => (t, none))) (m ++ aNew S.2.2.1.length (G.2.2.2.2.1.1.toList ++ G.2.2.2.2.1.2.1).length))) p
/-- names of a contract are within it -/
noncomputable def aOkp (k : Nat) (M : aM) : Bool := M.1.all (fun q => decide (q.1 < k) && decide (q.2.2 < k)) && M.2.2.2.all (fun q => aGr q && q.2.all (fun i => decide (i < k)))
noncomputable def aCall (C : aCf) (S : aS) (G : aCon) (p : Nat) : Option (List (Nat × aS)) := if (S.2.1.take G.2.2.1).length = G.2.2.1 then (match aMpf C (S.1, S.2.1.drop G.2.2.1, S.2.2.1, S.2.2.2) (S.2.1.take G.2.2.1).reverse G.2.2.2.1.2.1 with
  | some z => (match aMs z.2 z.1.2.2.2.2.2.2 G.2.2.2.1.2.2.2.2 with
    | some ms => if (aAllE z.1.2.2.1 z.1.2.2.2.2.2.1 z.2 G.2.2.2.1.1 && (aAllB z.1.2.2.1 z.2 z.1.2.2.2.2.1 G.2.2.2.1.2.2.1 && (aNil G.2.2.2.2.1.2.2.1 && (aAllN z.1.2.2.1 z.1.2.2.2.2.2.1 z.2 G.2.2.2.1.2.2.2.1 && (aAllY z.2 ms z.1.2.2.2.2.2.2 G.2.2.2.1.2.2.2.2 && (ms.all (fun i => decide (i < z.1.2.2.1.length)) && (aSubM G.2.2.2.2.2.1.1 C.2.2.2.1 && (aSubK C z.1.2.2.1 z.1.2.2.2.2.2.1 z.2 G.2.2.2.2.2.1.2 && aOkp (aPe G).length G.2.2.2.2.1.2.2.1)))))))) = true then some (G.2.2.2.2.1.2.2.2.flatMap (aAg C z.1 G z.2 ms p)) else none
    | none => none)
  | none => none) else none
section ASC
variable {K : Nat → Nat} {n : Nat} {P : Type} {F : aFt P} {C : aCf} {JX : (Nat → jcell) → Prop} {ρ0 : List jv} {σ0 : Nat → jcell}
theorem aSk_sp {ρ : List jv} : ∀ {k : Nat} {sk : List Nat} {st : List jv}, aSk ρ sk st → (sk.take k).length = k → ∃ vs s, st = vs ++ s ∧ vs = aVal ρ (sk.take k) ∧ aSk ρ (sk.drop k) s ∧ aWm ρ (sk.take k)
  | 0, sk, st, h, _ => ⟨[], st, rfl, rfl, h, fun i k q => by simp at q⟩
  | k + 1, [], st, h, hl => by simp at hl
  | k + 1, i :: r, [], h, _ => h.elim
  | k + 1, i :: r, v :: s, h, hl => by
    obtain ⟨vs, s2, rfl, e1, e2, e3⟩ := aSk_sp (k := k) h.2 (by simpa using hl)
    refine ⟨v :: vs, s2, rfl, ?_, e2, fun j k1 hj => ?_⟩
    · rw [List.take_succ_cons]
      show _ = _ :: _
      rw [e1]
      congr 1
      simp [List.getD, h.1]
    · cases j with
      | zero =>
        cases hj
        exact (List.getElem?_eq_some_iff.mp h.1).1
      | succ j => exact e3 j k1 (by simpa using hj)
theorem aVal_mo {ρ ρ' : List jv} (hx : aX ρ ρ') {m : List Nat} (hm : aWm ρ m) : aVal ρ' m = aVal ρ m := by
  apply List.ext_getElem?
  intro i
  cases hi : m[i]? with
  | none =>
    have h1 : m.length ≤ i := List.getElem?_eq_none_iff.mp hi
    rw [List.getElem?_eq_none (by unfold aVal; simpa using h1), List.getElem?_eq_none (by unfold aVal; simpa using h1)]
  | some k =>
    have hv : ρ[k]? = some (ρ[k]'(hm _ _ hi)) := List.getElem?_eq_getElem (hm _ _ hi)
    rw [aVal_at hi hv, aVal_at hi (hx _ _ hv)]
theorem aX_apps {ρ ws : List jv} : aX ρ (ρ ++ ws) := fun i w h => by
  rw [List.getElem?_append_left (List.getElem?_eq_some_iff.mp h).1]; exact h
theorem aVal_new {ρ ws : List jv} {m : List Nat} (hm : aWm ρ m) : aVal (ρ ++ ws) (m ++ aNew ρ.length ws.length) = aVal ρ m ++ ws := by
  have h1 : aVal (ρ ++ ws) (m ++ aNew ρ.length ws.length) = aVal (ρ ++ ws) m ++ aVal (ρ ++ ws) (aNew ρ.length ws.length) := by unfold aVal; rw [List.map_append]
  rw [h1, aVal_mo aX_apps hm]
  congr 1
  apply List.ext_getElem?
  intro i
  by_cases hi : i < ws.length
  · have hv : ws[i]? = some ws[i] := List.getElem?_eq_getElem hi
    rw [hv]
    refine aVal_at (k := ρ.length + i) ?_ ?_
    · unfold aNew
      rw [List.getElem?_map, List.getElem?_range hi]
      rfl
    · rw [List.getElem?_append_right (by omega), show ρ.length + i - ρ.length = i by omega]
      exact hv
  · rw [List.getElem?_eq_none (by unfold aVal aNew; simp; omega), List.getElem?_eq_none (by omega)]
theorem aWm_new {ρ ws : List jv} {m : List Nat} (hm : aWm ρ m) : aWm (ρ ++ ws) (m ++ aNew ρ.length ws.length) := by
  intro i k hk
  by_cases hi : i < m.length
  · rw [List.getElem?_append_left hi] at hk
    have := hm i k hk
    rw [List.length_append]
    omega
  · rw [List.getElem?_append_right (by omega)] at hk
    unfold aNew at hk
    rw [List.getElem?_map] at hk
    obtain ⟨j, h1, h2⟩ := Option.map_eq_some_iff.mp hk
    have h3 := List.getElem?_eq_some_iff.mp h1
    obtain ⟨h4, h5⟩ := h3
    simp at h4 h5
    rw [List.length_append]
    omega
theorem aR_apps {env : List aE} {ρ ws : List jv} (h : aR K n env ρ) {ts : List aT} {es : List aE} {ρc : List jv} (h2 : aR K n (es ++ ts.map (fun t => (t, none))) (ρc ++ ws)) (hl : ρc.length = es.length) : aR K n (env ++ ts.map (fun t => (t, none))) (ρ ++ ws) := by
  have hl2 : ws.length = ts.length := by
    have := h2.1
    simp at this
    omega
  refine ⟨by simp [h.1, hl2], fun i e v he hv => ?_⟩
  by_cases hi : i < env.length
  · rw [List.getElem?_append_left hi] at he
    rw [List.getElem?_append_left (by rw [h.1]; exact hi)] at hv
    have h3 := h.2 i e v he hv
    exact ⟨h3.1, h3.2.mo aX_apps⟩
  · rw [List.getElem?_append_right (by omega)] at he
    rw [List.getElem?_append_right (by rw [h.1]; omega), h.1] at hv
    have h3 := h2.2 (es.length + (i - env.length)) e v (by rw [List.getElem?_append_right (by omega), show es.length + (i - env.length) - es.length = i - env.length by omega]; exact he) (by rw [List.getElem?_append_right (by omega), show es.length + (i - env.length) - ρc.length = i - env.length by omega]; exact hv)
    refine ⟨h3.1, ?_⟩
    rw [List.getElem?_map] at he
    obtain ⟨t, -, rfl⟩ := Option.map_eq_some_iff.mp he
    trivial
theorem aVs_def {ρ : List jv} : ∀ {ms : List Nat}, ms.all (fun i => decide (i < ρ.length)) = true → ∃ mv, aVs ρ ms = some mv
  | [], _ => ⟨[], rfl⟩
  | i :: r, h => by
    rw [List.all_cons, Bool.and_eq_true] at h
    obtain ⟨mv, h2⟩ := aVs_def h.2
    have hi : i < ρ.length := of_decide_eq_true h.1
    refine ⟨(ρ[i]'hi) :: mv, ?_⟩
    unfold aVs
    rw [List.getElem?_eq_getElem hi, h2]
theorem aRnm_at {m : List Nat} {i : Nat} (hi : i < m.length) : m[i]? = some (aRnm m i) := by
  unfold aRnm
  simp [List.getD, List.getElem?_eq_getElem hi]
/-- what a call needs and gives -/
theorem aCall_ok {sh : P → List jv → P} (hS : aShf F sh) (hD : aDp F K n C.2.2.2.2.2.1) (hDT : aDT C.2.2.2.2.2.1 C.1 = true) (hE : C.2.2.2.2.2.2 = ρ0.length) {S : aS} {G : aCon} {p : Nat} {L : List (Nat × aS)} (hb : aCall C S G p = some L) {ρ : List jv} (hx0 : aX ρ0 ρ) {lv : List (Option jv)} {st : List jv} {σ : Nat → jcell} (hc : aCx F (aHp C K n JX ρ0 σ0) K n S ρ lv st σ) : ∃ (vs s : List jv) (ρ1 : List jv) (m : List Nat) (pc : P), st = vs ++ s ∧ vs.length = G.2.2.1 ∧ s.length = (S.2.1.drop G.2.2.1).length ∧ aR K n G.2.2.2.1.1 (aVal ρ1 m) ∧ aMm F pc (aVal ρ1 m) σ G.2.2.2.1.2 ∧ (aVal ρ1 m).take G.2.2.1 = vs.reverse ∧ ∀ (J : jN) (r : Option jv) (σ' : Nat → jcell) (xs : List jv), aNx F (aHp C K n JX ρ0 σ0) K n J ρ L → aH C.1 K n σ' → JX σ' → aFr K n G.2.2.2.2.2.1.1 σ σ' → aFa K n G.2.2.2.2.2.1.2 (aVal ρ1 m) σ σ' → r.isSome = G.2.2.2.2.1.1.isSome → aR K n (aPe G) (aVal ρ1 m ++ (r.toList ++ xs)) → aMm F pc (aVal ρ1 m ++ (r.toList ++ xs)) σ' G.2.2.2.2.1.2.2.1 → (∃ A ∈ G.2.2.2.2.1.2.2.2, ∀ f ∈ A, aHd (aVal ρ1 m ++ (r.toList ++ xs)) f) → J p lv (r.toList ++ s) σ' := by
  unfold aCall at hb
  split at hb
  next hl =>
    obtain ⟨vs, s, rfl, e1, e2, e3⟩ := aSk_sp hc.2.2.1 hl
    split at hb
    next z hz =>
      obtain ⟨⟨ex, hm⟩, ρ1, x1, c1, hst, hf⟩ := aMpf_ok hz (S := (S.1, S.2.1.drop G.2.2.1, S.2.2.1, S.2.2.2)) (ρ := ρ) (lv := lv) (st := s) (σ := σ) ⟨hc.1, hc.2.1, e2, hc.2.2.2.1, hc.2.2.2.2⟩
      split at hb
      next ms hms =>
        split at hb
        next hq =>
          cases hb
          simp only [Bool.and_eq_true] at hq
          obtain ⟨q1, q2, q3, q4, q5, q6, q7, q8, q9⟩ := hq
          obtain ⟨p9, m1, m2, m3, m4⟩ := c1.2.2.2.1
          obtain ⟨i1, i2⟩ := aAllE_ok c1.1 m3 q1
          obtain ⟨mv, hmv⟩ := aVs_def (ρ := ρ1) (ms := ms) (by rw [c1.1.1]; exact q6)
          have hlen : vs.length = G.2.2.1 := by rw [e1]; unfold aVal; rw [List.length_map]; exact hl
          refine ⟨vs, s, ρ1, z.2, sh p9 mv, rfl, hlen, aSk_len e2, i1, ⟨aMpf_ca hf, aAllB_ok c1.1 i2 m2 q2, aAllN_ok c1.1 m3 i2 q4, aAllY_ok hS i2 hmv m4 q5⟩, ?_, ?_⟩
          · rw [hm]
            have hr : (S.2.1.take G.2.2.1).reverse.length = G.2.2.1 := by rw [List.length_reverse]; exact hl
            unfold aVal
            rw [List.map_append, List.take_append_of_le_length (by rw [List.length_map, hr]; exact Nat.le_refl _), List.take_of_length_le (by rw [List.length_map, hr]; exact Nat.le_refl _), List.map_reverse]
            congr 1
            rw [e1]
            exact aVal_mo x1 e3
          · intro J r σ' xs h h1 h2 h3 h4 h5 h6 h7 h8
            obtain ⟨A, hA, hAf⟩ := h8
            have hlc : (aVal ρ1 z.2).length = G.2.2.2.1.1.length := i1.1
            have hlw : (r.toList ++ xs).length = (G.2.2.2.2.1.1.toList ++ G.2.2.2.2.1.2.1).length := by
              have := h6.1
              unfold aPe at this
              simp only [List.length_append, List.length_map] at this ⊢
              omega
            have hR2 := aR_apps c1.1 h6 hlc
            have hv2 : aVal (ρ1 ++ (r.toList ++ xs)) (z.2 ++ aNew z.1.2.2.1.length (G.2.2.2.2.1.1.toList ++ G.2.2.2.2.1.2.1).length) = aVal ρ1 z.2 ++ (r.toList ++ xs) := by
              rw [← c1.1.1, ← hlw]
              exact aVal_new i2
            have hw2 : aWm (ρ1 ++ (r.toList ++ xs)) (z.2 ++ aNew z.1.2.2.1.length (G.2.2.2.2.1.1.toList ++ G.2.2.2.2.1.2.1).length) := by
              rw [← c1.1.1, ← hlw]
              exact aWm_new i2
            have hml : (z.2 ++ aNew z.1.2.2.1.length (G.2.2.2.2.1.1.toList ++ G.2.2.2.2.1.2.1).length).length = (aPe G).length := by
              have e7 : z.2.length = (aVal ρ1 z.2).length := by unfold aVal; rw [List.length_map]
              unfold aPe aNew
              simp only [List.length_append, List.length_map, List.length_range]
              omega
            rw [← hv2] at h7 hAf
            obtain ⟨n1, n2, n3, n4⟩ := h7
            simp only [aOkp, Bool.and_eq_true] at q9
            obtain ⟨o1, o2⟩ := q9
            have hx2 : aX ρ1 (ρ1 ++ (r.toList ++ xs)) := aX_apps
            obtain ⟨t1, t2, t3, t4⟩ := c1.2.2.2.2
            have hfr := aFr_tr t3 h3 (aSubM_ok q7)
            have hfa := aFa_tr t4 h4 (aSubK_ok c1.1 (hx0.tr x1) hE m3 i2 q8)
            have hmm : aMm F p9 (ρ1 ++ (r.toList ++ xs)) σ' (aAf C z.1 G z.2 ms).2.2.2 := by
              refine ⟨fun q hq => ?_, (aKc_ok c1.1 m3 i2 m2 h4).mo hx2, fun f hf => (m3 f hf).mo hx2, fun q hq => ?_⟩
              · rcases List.mem_append.mp hq with hq | hq
                · obtain ⟨q0, k1, rfl⟩ := List.mem_map.mp hq
                  have k2 := List.all_eq_true.mp o1 q0 k1
                  simp only [Bool.and_eq_true, decide_eq_true_eq] at k2
                  obtain ⟨a, c, fs, v, w1, w2, w3, w4⟩ := n1 q0 k1
                  have r1 := aRnm_at (m := z.2 ++ aNew z.1.2.2.1.length (G.2.2.2.2.1.1.toList ++ G.2.2.2.2.1.2.1).length) (i := q0.1) (by rw [hml]; exact k2.1)
                  have r2 := aRnm_at (m := z.2 ++ aNew z.1.2.2.1.length (G.2.2.2.2.1.1.toList ++ G.2.2.2.2.1.2.1).length) (i := q0.2.2) (by rw [hml]; exact k2.2)
                  exact ⟨a, c, fs, v, aVal_in r1 (hw2 _ _ r1) w1, w2, w3, aVal_in r2 (hw2 _ _ r2) w4⟩
                · exact ((aKp_ok c1.1 m1 h3).mo hx2) q hq
              · rcases List.mem_append.mp hq with hq | hq
                · obtain ⟨q0, k1, rfl⟩ := List.mem_map.mp hq
                  have k2 := List.all_eq_true.mp o2 q0 k1
                  rw [Bool.and_eq_true] at k2
                  obtain ⟨vs9, v1, v2⟩ := n4 q0 k1
                  obtain ⟨g1, g2⟩ := aGr_ok k2.1
                  have v3 := aVs_val2 hw2 (by rw [hml]; exact k2.2) v1
                  exact ⟨vs9 ++ mv, aVs_app2 v3 (aVs_mo hx2 hmv), (hS.1 p9 q0.1 vs9 mv σ' g1 (by rw [aVs_len v1]; exact g2)).mpr v2⟩
                · exact ((aKx_ok hD hDT c1.1 m3 i2 t1 m4 h3 h4).mo hx2) q hq
            have hfs : ∀ f ∈ (A ++ G.2.2.2.2.1.2.2.1.2.2.1).filterMap (aSb2 (z.1.2.2.1 ++ (G.2.2.2.2.1.1.toList ++ G.2.2.2.2.1.2.1).map (fun t => (t, none))) (z.2 ++ aNew z.1.2.2.1.length (G.2.2.2.2.1.1.toList ++ G.2.2.2.2.1.2.1).length)), aHd (ρ1 ++ (r.toList ++ xs)) f := fun f hf => by
              obtain ⟨g, k1, k2⟩ := List.mem_filterMap.mp hf
              obtain ⟨y, y1, y2⟩ := aSb2_ok hR2 hw2 k2
              have hg9 : aHd _ g := (List.mem_append.mp k1).elim (hAf g) (n3 g)
              obtain ⟨w, w1, w2⟩ := aHd_va.mp hg9
              have := aVa_f y1 w1
              exact aHd_va.mpr ⟨y, y2, by omega⟩
            have hst9 : aSk (ρ1 ++ (r.toList ++ xs)) (aAf C z.1 G z.2 ms).2.1 (r.toList ++ s) := by
              have hs9 := c1.2.2.1.mo hx2
              cases hrt : G.2.2.2.2.1.1 with
              | none =>
                rw [hrt] at h5
                cases r with
                | none => simp only [aAf, hrt]; exact hs9
                | some v => cases h5
              | some t =>
                rw [hrt] at h5
                cases r with
                | none => cases h5
                | some v =>
                  simp only [aAf, hrt]
                  refine ⟨?_, hs9⟩
                  rw [← c1.1.1, List.getElem?_append_right (Nat.le_refl _)]
                  simp
            have hcx9 : aCx F (aHp C K n JX ρ0 σ0) K n (aAf C z.1 G z.2 ms) (ρ1 ++ (r.toList ++ xs)) lv (r.toList ++ s) σ' := ⟨hR2, c1.2.1.mo hx2, hst9, ⟨p9, hmm⟩, h1, h2, hfr, hfa⟩
            exact aBs_ok (p := p) hcx9 hst9 hfs (fun q hq ρ2 lv2 st2 σ2 hxx hcc => h q (List.mem_flatMap.mpr ⟨A, hA, hq⟩) ρ2 lv2 st2 σ2 ((x1.tr hx2).tr hxx) hcc)
        next => cases hb
      next => cases hb
    next => cases hb
  next => cases hb
end ASC
end
section
/-! a method, from cut to cut -/
noncomputable def aFq {P : Type} (F : aFt P) (pe : P) : aFt P := fun p r vs σ => if r = 0 then p = pe else F p r vs σ
theorem aFq_sh {P : Type} {F : aFt P} {sh : P → List jv → P} (h : aShf F sh) (pe : P) : aShf (aFq F pe) sh := by
  refine ⟨fun p r vs ms σ hr hl => ?_, fun p p' r vs σ hr hf => ?_⟩
  · unfold aFq
    rw [if_neg hr, if_neg hr]
    exact h.1 p r vs ms σ hr hl
  · have h0 : ¬ r = 0 := fun e => by subst e; cases hr
    unfold aFq at hf ⊢
    rw [if_neg h0] at hf ⊢
    exact h.2 p p' r vs σ hr hf
theorem aFq_dp {P : Type} {F : aFt P} {K : Nat → Nat} {n : Nat} {dep : List (List aDe)} (h : aDp F K n dep) (pe : P) : aDp (aFq F pe) K n dep := by
  refine ⟨fun p r vs σ σ' hl hk hf => ?_, ⟨fun p r a x y vs σ hr hl hf => ?_, fun p r a f y vs σ hr hl hf => ?_, fun p r a x y vs σ hr hl hf => ?_⟩, fun ho p o x y c σ hv => ?_⟩
  · unfold aFq at hf ⊢
    split
    next e => rw [if_pos e] at hf; exact hf
    next e => rw [if_neg e] at hf; exact h.1 p r vs σ σ' hl hk hf
  · unfold aFq at hf ⊢
    rw [if_neg (by omega)] at hf
    rw [if_neg hr]
    exact h.2.1.1 p r a x y vs σ hr hl hf
  · unfold aFq at hf ⊢
    rw [if_neg (by omega)] at hf
    rw [if_neg hr]
    exact h.2.1.2.1 p r a f y vs σ hr hl hf
  · unfold aFq at hf ⊢
    rw [if_neg (by omega)] at hf
    rw [if_neg hr]
    exact h.2.1.2.2 p r a x y vs σ hr hl hf
  · unfold aFq
    rw [if_neg (by omega)]
    exact h.2.2 ho p o x y c σ hv
theorem aFq_mm {P : Type} {F : aFt P} {pe p : P} {ρ : List jv} {σ : Nat → jcell} {M : aM} (h0 : aNo0 M.2.2.2 = true) : aMm (aFq F pe) p ρ σ M ↔ aMm F p ρ σ M := by
  have key : ∀ q ∈ M.2.2.2, ∀ vs, (aFq F pe p q.1 vs σ ↔ F p q.1 vs σ) := fun q hq vs => by
    have := (aGr_ok (List.all_eq_true.mp h0 q hq)).1
    unfold aFq
    rw [if_neg this]
  constructor
  · rintro ⟨a, b, c, d⟩
    exact ⟨a, b, c, fun q hq => by obtain ⟨vs, v1, v2⟩ := d q hq; exact ⟨vs, v1, (key q hq vs).mp v2⟩⟩
  · rintro ⟨a, b, c, d⟩
    exact ⟨a, b, c, fun q hq => by obtain ⟨vs, v1, v2⟩ := d q hq; exact ⟨vs, v1, (key q hq vs).mpr v2⟩⟩
abbrev aCu : Type := Nat × aS × List aSc2 × List aF
noncomputable def aSuf : List jI → Nat → Nat → Option (List jI)
  | [], _, _ => none
  | x :: r, p, pc => if p = pc then some (x :: r) else aSuf r (p + x.2.1) pc
/-- a row's words, but for rows that the table of static things speaks of -/
noncomputable def jokQ (own : String) (Ts : List Jvm.Cond) (cl : List vw_C) (tb : jTb) (nL : Nat) (ini : Bool) (cc : ByteArray) (pc : Nat) (x : jI) : Bool := decide (decode cc pc = .ok (x.1, x.2.1)) && (Nat.beq x.2.2.1 999 || jok1 own Ts cl tb nL ini pc x.1 x.2.1 x.2.2)
noncomputable def jokLQ (own : String) (Ts : List Jvm.Cond) (cl : List vw_C) (tb : jTb) (nL : Nat) (ini : Bool) (cc : ByteArray) : Nat → List jI → Bool
  | _, [] => true
  | pc, x :: r => jokQ own Ts cl tb nL ini cc pc x && jokLQ own Ts cl tb nL ini cc (pc + x.2.1) r
noncomputable def jokLG (g : Nat → Option Jvm.Cond) (L : jLk) (own : String) (cl : List vw_C) (tb : jTb) (nL : Nat) (cc : ByteArray) : Nat → List jI → Bool
  | _, [] => true
  | pc, x :: r => (decide (decode cc pc = .ok (x.1, x.2.1)) && (Nat.beq x.2.2.1 999 || jok1F g L own cl tb nL pc x.1 x.2.1 x.2.2)) && jokLG g L own cl tb nL cc (pc + x.2.1) r
theorem jokLG_ok {g : Nat → Option Jvm.Cond} {Ts : List Jvm.Cond} (hg : ∀ i w, g i = some w → Ts[i]? = some w) {L : jLk} {own : String} {cl : List vw_C} {tb : jTb} (hL : jLkOk own Ts cl tb L) {nL : Nat} {cc : ByteArray} : ∀ {is : List jI} {pc : Nat}, jokLG g L own cl tb nL cc pc is = true → jokLQ own Ts cl tb nL false cc pc is = true
  | [], _, _ => rfl
  | x :: r, pc, h => by
    unfold jokLG at h
    rw [Bool.and_eq_true, Bool.and_eq_true, Bool.or_eq_true] at h
    unfold jokLQ jokQ
    rw [Bool.and_eq_true, Bool.and_eq_true, Bool.or_eq_true]
    exact ⟨⟨h.1.1, h.1.2.imp id (jok1F_ok hg hL)⟩, jokLG_ok hg hL h.2⟩
theorem jokQ_n {own : String} {Ts : List Jvm.Cond} {cl : List vw_C} {tb : jTb} {nL : Nat} {ini : Bool} {cc : ByteArray} {pc : Nat} {x : jI} (h : jokQ own Ts cl tb nL ini cc pc x = true) (hn : Nat.beq x.2.2.1 999 = false) : jok own Ts cl tb nL ini cc pc x = true := by
  unfold jokQ at h
  unfold jok
  rw [hn, Bool.false_or] at h
  exact h
theorem aSuf_ok {own : String} {Ts : List Jvm.Cond} {cl : List vw_C} {tb : jTb} {nL : Nat} {ini : Bool} {cc : ByteArray} {pc : Nat} : ∀ {is : List jI} {p : Nat} {js : List jI}, jokLQ own Ts cl tb nL ini cc p is = true → aSuf is p pc = some js → jokLQ own Ts cl tb nL ini cc pc js = true
  | [], _, _, _, h => by cases h
  | x :: r, p, js, hk, h => by
    unfold aSuf at h
    split at h
    next e => cases h; subst e; exact hk
    next =>
      unfold jokLQ at hk
      rw [Bool.and_eq_true] at hk
      exact aSuf_ok hk.2 h
abbrev aSz : Type := Nat × Nat × Nat × jSv
/-- what stands fast in a method: own file, tables, files, what it returns, its links, static things; conf; contracts; its own one; its row; its cuts -/
abbrev aMi : Type := (String × List Jvm.Cond × List vw_C × Option FieldType × List (Nat × Nat × Nat) × List aSz × List (Nat × Nat × List Int) × List aCon × List (Nat × Nat × List aSc2 × List Nat)) × aCf × List aCon × aCon × List jI × List aCu
noncomputable def aRo (k : Nat) (rk : List aF) : Bool := rk.all (fun f => f.1.all (fun q => decide (q.1 < k)))
noncomputable def aTo (C : aCf) (rk0 : List aF) (c : aCu) (S : aS) : Bool := match aMp C S (List.range C.2.2.2.2.2.2) c.2.2.1 with
  | some z => aInB z.1 c.2.1 z.2 && aRs z.1.2.2.1 z.1.2.2.2.2.2.1 z.2 rk0 c.2.2.2
  | none => false
noncomputable def aFn (C : aCf) (G : aCon) (S : aS) (m : List Nat) : Bool := match aMpf C S m G.2.2.2.2.1.2.2.1.1 with
  | some z => aAllE z.1.2.2.1 z.1.2.2.2.2.2.1 z.2 (aPe G) && (aNil G.2.2.2.2.1.2.2.1 && (aAllN z.1.2.2.1 z.1.2.2.2.2.2.1 z.2 G.2.2.2.2.1.2.2.1.2.2.1 && (aAllX z.2 z.1.2.2.2.2.2.2 G.2.2.2.2.1.2.2.1.2.2.2 && (aNo0 G.2.2.2.2.1.2.2.1.2.2.2 && ((G.2.2.2.2.1.2.2.1.2.2.2.all (fun q => aFre q.1) || decide ((0, []) ∈ z.1.2.2.2.2.2.2)) && G.2.2.2.2.1.2.2.2.any (fun A => aAllN z.1.2.2.1 z.1.2.2.2.2.2.1 z.2 A))))))
  | none => false
noncomputable def aObt (ty : FieldType) : Bool := match ty with
  | .object _ => true
  | .array _ => true
  | _ => false
theorem aObt_ok {ty : FieldType} (h : aObt ty = true) : (∃ s, ty = .object s) ∨ ∃ t, ty = .array t := by
  unfold aObt at h
  split at h
  · exact Or.inl ⟨_, rfl⟩
  · exact Or.inr ⟨_, rfl⟩
  · cases h
noncomputable def aRet (C : aCf) (G : aCon) (rt : Option FieldType) (I : Instr) (S : aS) : Bool := match I with
  | .return_ => (match rt, G.2.2.2.2.1.1, S.2.1 with
    | none, none, [] => aFn C G S (List.range C.2.2.2.2.2.2)
    | _, _, _ => false)
  | .ireturn => (match rt, G.2.2.2.2.1.1, S.2.1 with
    | some ty, some (.inl _), [x] => (match aTy S.2.2.1 x with
      | some (.inl _) => aLx S.2.2.1 S.2.2.2.2.2.1 x (.inl (aRg ty)) && aFn C G S (List.range C.2.2.2.2.2.2 ++ [x])
      | _ => false)
    | _, _, _ => false)
  | .lreturn => (match rt, G.2.2.2.2.1.1, S.2.1 with
    | some .long, some (.inr none), [x] => (match aTy S.2.2.1 x with
      | some (.inr none) => aFn C G S (List.range C.2.2.2.2.2.2 ++ [x])
      | _ => false)
    | _, _, _ => false)
  | .areturn => (match rt, G.2.2.2.2.1.1, S.2.1 with
    | some ty, some (.inr (some _)), [x] => (match aTy S.2.2.1 x with
      | some (.inr (some _)) => aObt ty && aFn C G S (List.range C.2.2.2.2.2.2 ++ [x])
      | _ => false)
    | _, _, _ => false)
  | _ => false
noncomputable def aRoom (rm rc : Room) (nL : Nat) : Bool := decide (rc.frames + 1 ≤ rm.frames) && decide (8 + (nL + 11) + rc.locals ≤ rm.locals)
noncomputable def aCs (cl : List vw_C) (T : List aKd) (G : aCon) : Bool := match G.2.2.2.1.1 with
  | (.inr (some (.inl (false, k))), _) :: _ => (match T[k]? with
    | some (.inr q) => (match cl[q.1]? with
      | some w => decide (w.1 = G.1.1.cls) && decide (¬ k = 99999)
      | none => false)
    | _ => false)
  | _ => false
/-- a switch: its goals -/
noncomputable def aTab (S : aS) (x : Nat) (r : List Nat) : List Nat → Int → List (Nat × aS)
  | [], _ => []
  | t :: ts, k => aBs S r [aFp ([], -k) (aLi S.2.2.1 x), aFp ([], k) (aFm (-1) (aLi S.2.2.1 x))] t ++ aTab S x r ts (k + 1)
noncomputable def aLok (S : aS) (x : Nat) (r : List Nat) (pc : Nat) : List (Int × Int) → List (Nat × aS)
  | [] => []
  | q :: t => aBs S r [aFp ([], -q.1) (aLi S.2.2.1 x), aFp ([], q.1) (aFm (-1) (aLi S.2.2.1 x))] ((pc : Int) + q.2).toNat ++ aLok S x r pc t
/-- the value is known, and a key -/
noncomputable def aKe (A : Int × Int) (ps : List (Int × Int)) : Bool := decide (A.1 = A.2) && ps.any (fun q => decide (q.1 = A.1))
theorem aKe_ok {A : Int × Int} {ps : List (Int × Int)} (h : aKe A ps = true) {x : Int32} (hx : aIn A x) : ∃ q ∈ ps, x.toInt = q.1 := by
  unfold aKe at h
  rw [Bool.and_eq_true, decide_eq_true_eq, List.any_eq_true] at h
  obtain ⟨h1, q, h2, h3⟩ := h
  rw [decide_eq_true_eq] at h3
  have a1 := hx.1
  have a2 := hx.2
  exact ⟨q, h2, by omega⟩
/-- an operation with its fact -/
noncomputable def aOn : Instr → Option Nat
  | .lor => some 0
  | .land => some 1
  | .lshl => some 2
  | .lshr => some 3
  | .lcmp => some 4
  | .lmul => some 5
  | .ldiv => some 6
  | .lrem => some 7
  | .ladd => some 8
  | .lsub => some 9
  | .imul => some 10
  | .iand => some 11
  | .ior => some 12
  | .ishl => some 13
  | .ishr => some 14
  | .irem => some 15
  | .idiv => some 16
  | .ixor => some 17
  | _ => none
noncomputable def aStq (C : aCf) (I : Instr) (ln : Nat) (py : jP) (pc : Nat) (S : aS) : Option (List (Nat × aS)) := match aOn I with
  | none => aStp C I ln py pc S
  | some o => if py.1 = 0 then aStp C I ln py pc S else (if aOm C.2.2.2.2.2.1 = true then (match aStp C I ln py pc S with
    | some [q] => (match S.2.1, q.2.2.1 with
      | y :: x :: _, c :: _ => some [(q.1, (q.2.1, q.2.2.1, q.2.2.2.1, q.2.2.2.2.1, q.2.2.2.2.2.1, q.2.2.2.2.2.2.1, (16 * (100 + o) + 3, [x, y, c]) :: q.2.2.2.2.2.2.2))]
      | _, _ => none)
    | _ => none) else none)
theorem j2_mo {st : List jv} {f g : Int32 → Int32 → List jv → Prop} (h : ∀ x y r, st = .inl y :: .inl x :: r → f x y r → g x y r) (hf : j2 st f) : j2 st g := by
  rcases st with _ | ⟨y | y, _ | ⟨x | x, r⟩⟩ <;> first | exact hf.elim | exact h _ _ _ rfl hf
theorem jl2_mo {st : List jv} {f g : Int64 → Int64 → List jv → Prop} (h : ∀ x y r, st = .inr (.inl y) :: .inr (.inl x) :: r → f x y r → g x y r) (hf : jl2 st f) : jl2 st g := by
  rcases st with _ | ⟨y | y | y, _ | ⟨x | x | x, r⟩⟩ <;> first | exact hf.elim | exact h _ _ _ rfl hf
theorem jli_mo {st : List jv} {f g : Int64 → Int32 → List jv → Prop} (h : ∀ x y r, st = .inl y :: .inr (.inl x) :: r → f x y r → g x y r) (hf : jli st f) : jli st g := by
  rcases st with _ | ⟨y | y, _ | ⟨x | x | x, r⟩⟩ <;> first | exact hf.elim | exact h _ _ _ rfl hf
theorem aJo {tb : jTb} {n : Nat} {I : Instr} {ln : Nat} {py : jP} {pc : Nat} {lv : List (Option jv)} {st : List jv} {σ : Nat → jcell} {J : jN} {o : Nat} (ho : aOn I = some o) (h : jstep tb n I ln py pc lv st σ (fun p lv' st' σ' => (∃ x y r c, st = y :: x :: r ∧ st' = c :: r ∧ aOv o x y c ∧ σ' = σ) → J p lv' st' σ') (fun p lv' st' σ' => (∃ x y r c, st = y :: x :: r ∧ st' = c :: r ∧ aOv o x y c ∧ σ' = σ) → J p lv' st' σ')) : jstep tb n I ln py pc lv st σ J J := by
  unfold aOn at ho
  split at ho
  · cases ho; exact jl2_mo (fun x y r e hh => hh ⟨_, _, r, _, e, rfl, rfl, rfl⟩) h
  · cases ho; exact jl2_mo (fun x y r e hh => hh ⟨_, _, r, _, e, rfl, rfl, rfl⟩) h
  · cases ho; exact jli_mo (fun x y r e hh => hh ⟨_, _, r, _, e, rfl, rfl, rfl⟩) h
  · cases ho; exact jli_mo (fun x y r e hh => hh ⟨_, _, r, _, e, rfl, rfl, rfl⟩) h
  · cases ho; exact jl2_mo (fun x y r e hh => hh ⟨_, _, r, _, e, rfl, rfl, rfl⟩) h
  · cases ho; exact jl2_mo (fun x y r e hh => hh ⟨_, _, r, _, e, rfl, rfl, rfl⟩) h
  · cases ho; exact jl2_mo (fun x y r e hh => ⟨hh.1, hh.2 ⟨_, _, r, _, e, rfl, ⟨hh.1, rfl⟩, rfl⟩⟩) h
  · cases ho; exact jl2_mo (fun x y r e hh => ⟨hh.1, hh.2 ⟨_, _, r, _, e, rfl, ⟨hh.1, rfl⟩, rfl⟩⟩) h
  · cases ho; exact jl2_mo (fun x y r e hh => hh ⟨_, _, r, _, e, rfl, rfl, rfl⟩) h
  · cases ho; exact jl2_mo (fun x y r e hh => hh ⟨_, _, r, _, e, rfl, rfl, rfl⟩) h
  · cases ho; exact j2_mo (fun x y r e hh => hh ⟨_, _, r, _, e, rfl, rfl, rfl⟩) h
  · cases ho; exact j2_mo (fun x y r e hh => hh ⟨_, _, r, _, e, rfl, rfl, rfl⟩) h
  · cases ho; exact j2_mo (fun x y r e hh => hh ⟨_, _, r, _, e, rfl, rfl, rfl⟩) h
  · cases ho; exact j2_mo (fun x y r e hh => hh ⟨_, _, r, _, e, rfl, rfl, rfl⟩) h
  · cases ho; exact j2_mo (fun x y r e hh => hh ⟨_, _, r, _, e, rfl, rfl, rfl⟩) h
  · cases ho; exact j2_mo (fun x y r e hh => ⟨hh.1, hh.2 ⟨_, _, r, _, e, rfl, ⟨hh.1, rfl⟩, rfl⟩⟩) h
  · cases ho; exact j2_mo (fun x y r e hh => ⟨hh.1, hh.2 ⟨_, _, r, _, e, rfl, ⟨hh.1, rfl⟩, rfl⟩⟩) h
  · cases ho; exact j2_mo (fun x y r e hh => hh ⟨_, _, r, _, e, rfl, rfl, rfl⟩) h
  · cases ho
noncomputable def aNe (m : aMi) (x : jI) (pc : Nat) (S : aS) : Option (List (Nat × aS)) := match x.1 with
  | .invokestatic i => (match m.2.2.1[x.2.2.1]? with
    | some G => if x.2.1 = 3 ∧ G.2.1 = true ∧ jin3 i x.2.2.2.2.1 x.2.2.1 m.1.2.2.2.2.1 = true ∧ aRoom m.2.2.2.1.2.2.2.2.2.2 G.2.2.2.2.2.2 G.1.2.2.1 = true ∧ (S.2.1.drop G.2.2.1).length ≤ 4 then aCall m.2.1 S G (pc + 3) else none
    | none => none)
  | .invokevirtual i => (match m.2.2.1[x.2.2.1]? with
    | some G => if x.2.1 = 3 ∧ G.2.1 = false ∧ jin3 i x.2.2.2.2.1 x.2.2.1 m.1.2.2.2.2.1 = true ∧ aRoom m.2.2.2.1.2.2.2.2.2.2 G.2.2.2.2.2.2 G.1.2.2.1 = true ∧ (S.2.1.drop G.2.2.1).length ≤ 4 ∧ aCs m.1.2.2.1 m.2.1.1 G = true ∧ 1 ≤ G.2.2.1 then aCall m.2.1 S G (pc + 3) else none
    | none => none)
  | .tableswitch dflt lo hi offs => (match S.2.1 with
    | x :: r => (match aTy S.2.2.1 x with
      | some (.inl _) => if hi - lo + 1 = (offs.size : Int) ∧ offs.toList.all (fun o => decide (0 ≤ (pc : Int) + o)) = true ∧ 0 ≤ (pc : Int) + dflt then some (aBs S r [aFp ([], lo - 1) (aFm (-1) (aLi S.2.2.1 x))] ((pc : Int) + dflt).toNat ++ (aBs S r [aFp ([], -1 - hi) (aLi S.2.2.1 x)] ((pc : Int) + dflt).toNat ++ aTab S x r (offs.toList.map (fun o => ((pc : Int) + o).toNat)) lo)) else none
      | _ => none)
    | _ => none)
  | .lookupswitch dflt ps => (match S.2.1 with
    | x :: r => (match aTy S.2.2.1 x with
      | some (.inl A) => if (ps.toList.zip (ps.toList.drop 1)).all (fun (a, next) => a.1 < next.1) = true ∧ ps.toList.all (fun o => decide (0 ≤ (pc : Int) + o.2)) = true ∧ 0 ≤ (pc : Int) + dflt then some ((if aKe A ps.toList = true then [] else aBs S r [] ((pc : Int) + dflt).toNat) ++ aLok S x r pc ps.toList) else none
      | _ => none)
    | _ => none)
  | _ => aStq m.2.1 x.1 x.2.1 x.2.2 pc S
/-! static things: texts, an enum, statics -/
noncomputable def aSpf (k i o : Nat) : List aSz → Option jSv
  | [] => none
  | q :: r => if (Nat.beq q.1 k && (Nat.beq q.2.1 i && Nat.beq q.2.2.1 o)) = true then some q.2.2.2 else aSpf k i o r
theorem aSpf_ok {k i o : Nat} {v : jSv} : ∀ {L : List aSz}, aSpf k i o L = some v → (k, i, o, v) ∈ L
  | [], h => by cases h
  | q :: r, h => by
    unfold aSpf at h
    split at h
    next hq =>
      cases h
      obtain ⟨q0, q1, q2, q3⟩ := q
      simp only [Bool.and_eq_true] at hq
      obtain ⟨h0, h1, h2⟩ := hq
      cases Nat.eq_of_beq_eq_true h0
      cases Nat.eq_of_beq_eq_true h1
      cases Nat.eq_of_beq_eq_true h2
      exact List.mem_cons_self
    next => exact List.mem_cons_of_mem _ (aSpf_ok h)
/-- what a row of static things promises -/
noncomputable def aSpP (own : String) (Ts : List Jvm.Cond) (q : aSz) : Prop := (q.1 = 1 → ∃ tx j, q.2.2.2 = .inr j ∧ (own, q.2.1, tx, j) ∈ js0.2.2.2.2) ∧ (q.1 = 2 → ∃ tx j, q.2.2.2 = .inr j ∧ (own, q.2.1, tx, j) ∈ js0.2.2.2.2) ∧ (q.1 = 3 → ∃ v, q.2.2.2 = .inl v ∧ Jvm.Cond.constant own q.2.1 v ∈ jTA Ts) ∧ (q.1 = 4 → ∃ z ∈ js0.2.1, z.2.2.2 = q.2.2.2 ∧ Jvm.Cond.fieldLink own q.2.1 z.1 z.2.1 z.2.2.1 ∈ jTA Ts) ∧ (q.1 = 5 → ∃ o ∈ js0.1, ∃ f ∈ o.2.2, o.1 = q.2.2.1 ∧ f.2.2.2 = q.2.2.2 ∧ Jvm.Cond.fieldLink own q.2.1 f.1 f.2.1 f.2.2.1 ∈ jTA Ts) ∧ (q.1 = 6 → Jvm.Cond.methodLink own q.2.1 arraycopyName ∈ jTA Ts ∧ Jvm.Cond.native arraycopyName ∈ jTA Ts ∧ Jvm.Cond.static arraycopyName ∈ jTA Ts ∧ Jvm.Cond.initialized "java/lang/System" ∈ jTA Ts)
noncomputable def aSvp (S : aS) (r : List Nat) (v : jSv) (p : Nat) : Option (List (Nat × aS)) := match v with
  | .inl x => some [(p, aPu S r (.inl (x.toInt, x.toInt)) (some ([], x.toInt)))]
  | .inr j => if j < 1000000 then some [(p, aPu S r (.inr (some (.inr j))) none)] else none
noncomputable def aSrf (j : Nat) : Option (Nat × String × Nat × (Nat → Nat)) := js0.2.2.2.1.find? (fun q => Nat.beq q.1 j)
theorem aSrf_ok {j : Nat} {q : Nat × String × Nat × (Nat → Nat)} (h : aSrf j = some q) : q ∈ js0.2.2.2.1 ∧ q.1 = j := by
  unfold aSrf at h
  exact ⟨List.mem_of_find?_eq_some h, Nat.eq_of_beq_eq_true (by simpa using List.find?_some h)⟩
noncomputable def aSro (j : Nat) : Option (Nat × FieldType × Nat × (Nat → Int32)) := js0.2.2.1.find? (fun q => Nat.beq q.1 j)
theorem aSro_ok {j : Nat} {q : Nat × FieldType × Nat × (Nat → Int32)} (h : aSro j = some q) : q ∈ js0.2.2.1 ∧ q.1 = j := by
  unfold aSro at h
  exact ⟨List.mem_of_find?_eq_some h, Nat.eq_of_beq_eq_true (by simpa using List.find?_some h)⟩
theorem js_by : js_ro.all (fun q => decide (q.2.1 = .byte)) = true := by decide +kernel
theorem js_bt : js_ro.all (fun q => (List.range q.2.2.1).all (fun i => decide (0 ≤ (q.2.2.2 i).toInt) && decide ((q.2.2.2 i).toInt ≤ 127))) = true := by decide +kernel
/-- a static thing that a method is called on -/
noncomputable def aSrc (G : aCon) : Bool := match G.2.2.2.1.1 with
  | (.inr (some (.inr j)), _) :: _ => (decide (1000 ≤ (aRj j).1) && (decide ((aRj j).2 < 1050) && decide (G.1.1.cls = "java/lang/String"))) || (decide (3000 ≤ (aRj j).1) && (decide ((aRj j).2 < 3028) && decide (G.1.1.cls = "ChessHouse$Command")))
  | _ => false
noncomputable def js_cl (b k : Nat) (c : String) : Bool := (List.range k).all (fun i => js_ob.any (fun o => Nat.beq o.1 (b + i) && decide (o.2.1 = c)))
theorem js_s : js_cl 1000 50 "java/lang/String" = true := by decide +kernel
theorem js_c : js_cl 3000 28 "ChessHouse$Command" = true := by decide +kernel
theorem js_cl_ok {b k : Nat} {c : String} (h : js_cl b k c = true) {j : Nat} (h1 : b ≤ j) (h2 : j < b + k) : ∃ o ∈ js0.1, o.1 = j ∧ o.2.1 = c := by
  have h3 := List.all_eq_true.mp h (j - b) (List.mem_range.mpr (by omega))
  obtain ⟨o, o1, o2⟩ := List.any_eq_true.mp h3
  rw [Bool.and_eq_true] at o2
  refine ⟨o, o1, ?_, of_decide_eq_true o2.2⟩
  have := Nat.eq_of_beq_eq_true o2.1
  omega
noncomputable def aSpv (m : aMi) (x : jI) (pc : Nat) (S : aS) (i k : Nat) : Option (List (Nat × aS)) := match m.2.2.1[k]? with
    | some G => if x.2.1 = 3 ∧ G.2.1 = false ∧ jin3 i x.2.2.2.2.1 k m.1.2.2.2.2.1 = true ∧ aRoom m.2.2.2.1.2.2.2.2.2.2 G.2.2.2.2.2.2 G.1.2.2.1 = true ∧ (S.2.1.drop G.2.2.1).length ≤ 4 ∧ aSrc G = true ∧ 1 ≤ G.2.2.1 then aCall m.2.1 S G (pc + 3) else none
    | none => none
/-- the first contract that fits -/
noncomputable def aTry (f : Nat → Option (List (Nat × aS))) : Nat → Nat → Option (List (Nat × aS))
  | 0, _ => none
  | c + 1, k => (match f k with
    | some L => some L
    | none => aTry f c (k + 1))
theorem aTry_ok {f : Nat → Option (List (Nat × aS))} {L : List (Nat × aS)} : ∀ {c k : Nat}, aTry f c k = some L → ∃ k, f k = some L
  | 0, _, h => by cases h
  | c + 1, k, h => by
    unfold aTry at h
    split at h
    next e => cases h; exact ⟨k, e⟩
    next => exact aTry_ok h
/-- longs copied from row to row -/
noncomputable def aCpy (C : aCf) (rm : Room) (S : aS) (p : Nat) : Option (List (Nat × aS)) := match S.2.1 with
  | k :: dp :: d :: sp :: a :: r => (match aIv S.2.2.1 k, aIv S.2.2.1 dp, aIv S.2.2.1 sp, aAr C.1 S.2.2.1 d, aAr C.1 S.2.2.1 a with
    | some A, some B, some D, some qd, some qa => if decide (qd.2.1 = .long) = true ∧ decide (qa.2.1 = .long) = true ∧ 0 ≤ A.1 ∧ 0 ≤ B.1 ∧ 0 ≤ D.1 ∧ aPr S.2.2.1 S.2.2.2.2.2.1 2 (aFp ([], (qa.2.2.1 : Int)) (aFp (aFm (-1) (aLi S.2.2.1 sp)) (aFm (-1) (aLi S.2.2.1 k)))) = true ∧ aPr S.2.2.1 S.2.2.2.2.2.1 2 (aFp ([], (qd.2.2.1 : Int)) (aFp (aFm (-1) (aLi S.2.2.1 dp)) (aFm (-1) (aLi S.2.2.1 k)))) = true ∧ ¬ qd.1 ∈ C.2.2.1 ∧ aWr C S.2.2.1 S.2.2.2.2.2.1 qd.1 (aLi S.2.2.1 dp) = true ∧ r.length ≤ 4 ∧ 1 ≤ rm.frames ∧ 8 + (nativeFrameWords "java/lang/System" "arraycopy" 5 + 11) ≤ rm.locals then some [(p, (S.1, r, S.2.2.1, (S.2.2.2.1, S.2.2.2.2.1.filter (aCk S.2.2.1 qd.1), S.2.2.2.2.2.1, S.2.2.2.2.2.2.filter (aFkl C.2.2.2.2.2.1 qd.1))))] else none
    | _, _, _, _, _ => none)
  | _ => none
/-- bytes copied from row to row -/
noncomputable def aCpb (C : aCf) (rm : Room) (S : aS) (p : Nat) : Option (List (Nat × aS)) := match S.2.1 with
  | k :: dp :: d :: sp :: a :: r => (match aIv S.2.2.1 k, aIv S.2.2.1 dp, aIv S.2.2.1 sp, aAr C.1 S.2.2.1 d, aAr C.1 S.2.2.1 a with
    | some A, some B, some D, some qd, some qa => if decide (qd.2.1 = .byte) = true ∧ decide (qa.2.1 = .byte) = true ∧ aSb qa.2.2.2.1 (-128, 127) = true ∧ aSb qa.2.2.2.1 qd.2.2.2.1 = true ∧ qd.2.2.2.2.isEmpty = true ∧ 0 ≤ A.1 ∧ 0 ≤ B.1 ∧ 0 ≤ D.1 ∧ aPr S.2.2.1 S.2.2.2.2.2.1 2 (aFp ([], (qa.2.2.1 : Int)) (aFp (aFm (-1) (aLi S.2.2.1 sp)) (aFm (-1) (aLi S.2.2.1 k)))) = true ∧ aPr S.2.2.1 S.2.2.2.2.2.1 2 (aFp ([], (qd.2.2.1 : Int)) (aFp (aFm (-1) (aLi S.2.2.1 dp)) (aFm (-1) (aLi S.2.2.1 k)))) = true ∧ ¬ qd.1 ∈ C.2.2.1 ∧ aWr C S.2.2.1 S.2.2.2.2.2.1 qd.1 (aLi S.2.2.1 dp) = true ∧ r.length ≤ 4 ∧ 1 ≤ rm.frames ∧ 8 + (nativeFrameWords "java/lang/System" "arraycopy" 5 + 11) ≤ rm.locals then some [(p, (S.1, r, S.2.2.1, (S.2.2.2.1, S.2.2.2.2.1.filter (aCk S.2.2.1 qd.1), S.2.2.2.2.2.1, S.2.2.2.2.2.2.filter (aFkl C.2.2.2.2.2.1 qd.1))))] else none
    | _, _, _, _, _ => none)
  | _ => none
noncomputable def aSpe (m : aMi) (x : jI) (pc : Nat) (S : aS) : Option (List (Nat × aS)) := match x.1 with
  | .ldc i => (match aSpf 1 i 0 m.1.2.2.2.2.2.1 with
    | some v => if x.2.1 = 2 then aSvp S S.2.1 v (pc + 2) else none
    | none => none)
  | .ldc_w i => if x.2.1 = 3 then (match aSpf 2 i 0 m.1.2.2.2.2.2.1 with
    | some v => aSvp S S.2.1 v (pc + 3)
    | none => (match aSpf 3 i 0 m.1.2.2.2.2.2.1 with
      | some v => aSvp S S.2.1 v (pc + 3)
      | none => none)) else none
  | .getstatic i => (match aSpf 4 i 0 m.1.2.2.2.2.2.1 with
    | some v => if x.2.1 = 3 then aSvp S S.2.1 v (pc + 3) else none
    | none => none)
  | .getfield i => if x.2.1 = 3 then (match S.2.1 with
    | a :: r => (match aTy S.2.2.1 a with
      | some (.inr (some (.inr j))) => if j < 1000000 then (match aSpf 5 i j m.1.2.2.2.2.2.1 with
        | some v => aSvp S r v (pc + 3)
        | none => none) else none
      | _ => none)
    | _ => none) else none
  | .aaload => if x.2.1 = 1 then (match S.2.1 with
    | i :: a :: r => (match aTy S.2.2.1 i, aTy S.2.2.1 a with
      | some (.inl A), some (.inr (some (.inr j))) => if j < 1000000 then (match aSrf j with
        | some q => if 0 ≤ A.1 ∧ A.2 < (q.2.2.1 : Int) then (if A.1 = A.2 then aSvp S r (.inr (q.2.2.2 A.1.toNat)) (pc + 1) else (if (List.range q.2.2.1).all (fun i => decide ((aRj x.2.2.2.1).1 ≤ q.2.2.2 i) && decide (q.2.2.2 i ≤ (aRj x.2.2.2.1).2)) = true then some [(pc + 1, aPu S r (.inr (some (.inr x.2.2.2.1))) none)] else none)) else none
        | none => none) else none
      | _, _ => none)
    | _ => none) else none
  | .arraylength => if x.2.1 = 1 then (match S.2.1 with
    | a :: r => (match aTy S.2.2.1 a with
      | some (.inr (some (.inr j))) => if j < 1000000 then (match aSrf j with
        | some q => aSvp S r (.inl (Int32.ofNat q.2.2.1)) (pc + 1)
        | none => (match aSro j with
          | some q => aSvp S r (.inl (Int32.ofNat q.2.2.1)) (pc + 1)
          | none => none)) else none
      | _ => none)
    | _ => none) else none
  | .baload => if x.2.1 = 1 then (match S.2.1 with
    | i :: a :: r => (match aTy S.2.2.1 i, aTy S.2.2.1 a with
      | some (.inl A), some (.inr (some (.inr j))) => if j < 1000000 then (match aSro j with
        | some q => if aBd S.2.2.1 S.2.2.2.2.2.1 (aLi S.2.2.1 i) q.2.2.1 = true then (if A.1 = A.2 then aSvp S r (.inl (q.2.2.2 A.1.toNat)) (pc + 1) else some [(pc + 1, aPu S r (.inl (0, 127)) none)]) else none
        | none => none) else none
      | _, _ => none)
    | _ => none) else none
  | .invokestatic i => (match aSpf 6 i 0 m.1.2.2.2.2.2.1 with
    | some _ => if x.2.1 = 3 then (match aCpy m.2.1 m.2.2.2.1.2.2.2.2.2.2 S (pc + 3) with
      | some L => some L
      | none => aCpb m.2.1 m.2.2.2.1.2.2.2.2.2.2 S (pc + 3)) else none
    | none => aTry (fun k => aNe m (x.1, x.2.1, (k, 0, x.2.2.2.2.1, 0, 0)) pc S) x.2.2.2.2.2.1.toNatClampNeg x.2.2.2.1)
  | .invokevirtual i => aTry (fun k => match aNe m (x.1, x.2.1, (k, 0, x.2.2.2.2.1, 0, 0)) pc S with
    | some L => some L
    | none => aSpv m x pc S i k) x.2.2.2.2.2.1.toNatClampNeg x.2.2.2.1
  | _ => none
noncomputable def aNe2 (m : aMi) (x : jI) (pc : Nat) (S : aS) : Option (List (Nat × aS)) := match Nat.beq x.2.2.1 999 with
  | true => aSpe m x pc S
  | false => aNe m x pc S
/-! cases of a name's value at a place -/
noncomputable def aLow (env : List aE) (x : Nat) (lo : Option Int) : List aF := match lo with
  | none => []
  | some l => [aFp ([], -l) (aLi env x)]
noncomputable def aPcs (S : aS) (x pc : Nat) : List Int → Option Int → List (Nat × aS)
  | [], lo => aBs S S.2.1 (aLow S.2.2.1 x lo) pc
  | p :: r, lo => aBs S S.2.1 (aFp ([], p - 1) (aFm (-1) (aLi S.2.2.1 x)) :: aLow S.2.2.1 x lo) pc ++ aPcs S x pc r (some p)
noncomputable def aSid (S : aS) (w : Nat) : Option Nat := if w % 2 = 0 then (match S.1[w / 2]? with
  | some (some k) => some k
  | _ => none) else S.2.1[w / 2]?
noncomputable def aFsp : List (Nat × Nat × List Int) → Nat → Option (Nat × List Int)
  | [], _ => none
  | q :: r, pc => if Nat.beq q.1 pc = true then some q.2 else aFsp r pc
noncomputable def aCat (f : aS → Option (List (Nat × aS))) : List (Nat × aS) → Option (List (Nat × aS))
  | [] => some []
  | q :: r => (match f q.2, aCat f r with
    | some a, some b => some (a ++ b)
    | _, _ => none)
noncomputable def aNe3 (m : aMi) (x : jI) (pc : Nat) (S : aS) : Option (List (Nat × aS)) := match aFsp m.1.2.2.2.2.2.2.1 pc with
  | none => aNe2 m x pc S
  | some w => (match aSid S w.1 with
    | some k => (match aTy S.2.2.1 k with
      | some (.inl _) => aCat (aNe2 m x pc) (aPcs S k pc w.2 none)
      | _ => none)
    | none => none)
/-! ghost steps: what is known of a picture, by rules that are proved apart -/
noncomputable def aGh1 (C : aCf) (RU : List aCon) (g : Nat × Nat × List aSc2 × List Nat) (pc : Nat) (S : aS) : Option (List (Nat × aS)) := match RU[g.2.1]? with
  | some G => if G.2.2.2.2.1.1.isSome = false ∧ G.2.2.1 = g.2.2.2.length ∧ G.2.2.2.2.2.1.1.isEmpty = true then (match aMp C S (List.range C.2.2.2.2.2.2) g.2.2.1 with
    | some z => if g.2.2.2.all (fun i => decide (i < z.2.length)) = true ∧ z.2.all (fun i => decide (i < z.1.2.2.1.length)) = true then aCall C (z.1.1, (g.2.2.2.map (fun i => z.2.getD i 0)).reverse ++ z.1.2.1, z.1.2.2.1, z.1.2.2.2) G pc else none
    | none => none) else none
  | none => none
/-- another ghost: what is free of it stays, and what the rule says of the new one -/
noncomputable def aNq (G : aCon) : aCon := (G.1, G.2.1, G.2.2.1, G.2.2.2.1, (none, [], ([], [], [], []), [[]]), (([], []), G.2.2.2.2.2.2))
noncomputable def aGh4 (C : aCf) (RU : List aCon) (g : Nat × Nat × List aSc2 × List Nat) (pc : Nat) (S : aS) : Option (List (Nat × aS)) := match RU[g.2.1 - 100000]? with
  | some G => if G.2.2.1 = g.2.2.2.length then (match aMp C S (List.range C.2.2.2.2.2.2) g.2.2.1 with
    | some z => if g.2.2.2.all (fun i => decide (i < z.2.length)) = true ∧ z.2.all (fun i => decide (i < z.1.2.2.1.length)) = true ∧ G.2.2.2.2.1.2.2.1.2.2.2.all (fun q => q.2.all (fun i => decide (i < g.2.2.2.length))) = true ∧ aNo0 G.2.2.2.2.1.2.2.1.2.2.2 = true ∧ (aCall C (z.1.1, (g.2.2.2.map (fun i => z.2.getD i 0)).reverse ++ z.1.2.1, z.1.2.2.1, z.1.2.2.2) (aNq G) pc).isSome = true then some [(pc, (z.1.1, z.1.2.1, z.1.2.2.1, (z.1.2.2.2.1, z.1.2.2.2.2.1, z.1.2.2.2.2.2.1, G.2.2.2.2.1.2.2.1.2.2.2.map (fun q => (q.1, q.2.map (fun i => (g.2.2.2.map (fun i => z.2.getD i 0)).getD i 0))) ++ z.1.2.2.2.2.2.2.filter (fun q => aFre q.1))))] else none
    | none => none) else none
  | none => none
/-- rules numbered from 1000 on are left out where they don't fit; from 2000 on the first name's value says which one it is -/
noncomputable def aGsl (C : aCf) (g : Nat × Nat × List aSc2 × List Nat) (S : aS) : Nat := match aMp C S (List.range C.2.2.2.2.2.2) g.2.2.1 with
  | some z => (match z.2[C.2.2.2.2.2.2]? with
    | some i => (match aIv z.1.2.2.1 i with
      | some A => if A.1 = A.2 then g.2.1 - 2000 + A.1.toNat else 100000
      | none => 100000)
    | none => 100000)
  | none => 100000
/-- whether a rule that may be left out is worth trying: its facts' numbers are there, no number is out of its reach -/
noncomputable def aGty (env : List aE) : List Nat → List aE → Bool
  | i :: r, e :: es => (match aIv env i, e.1 with
    | some A, .inl T => decide (A.1 ≤ T.2) && decide (T.1 ≤ A.2)
    | _, _ => true) && aGty env r es
  | _, _ => true
noncomputable def aGg (C : aCf) (RU : List aCon) (g : Nat × Nat × List aSc2 × List Nat) (S : aS) : Bool := match RU[g.2.1]? with
  | some G => G.2.2.2.1.2.2.2.2.all (fun q => S.2.2.2.2.2.2.any (fun z => Nat.beq z.1 q.1)) && (match aMp C S (List.range C.2.2.2.2.2.2) g.2.2.1 with
    | some z => aGty z.1.2.2.1 (g.2.2.2.map (fun i => z.2.getD i 0)) G.2.2.2.1.1
    | none => false)
  | none => false
noncomputable def aGh2 (C : aCf) (RU : List aCon) (g : Nat × Nat × List aSc2 × List Nat) (pc : Nat) (S : aS) : Option (List (Nat × aS)) := if g.2.1 < 1000 then aGh1 C RU g pc S else (if g.2.1 < 2000 then (match (if aGg C RU (g.1, g.2.1 - 1000, g.2.2) S = true then aGh1 C RU (g.1, g.2.1 - 1000, g.2.2) pc S else none) with
  | some L => some L
  | none => some [(pc, S)]) else (if g.2.1 < 100000 then aGh1 C RU (g.1, aGsl C g S, g.2.2) pc S else aGh4 C RU g pc S))
noncomputable def aGhs (C : aCf) (RU : List aCon) (pc : Nat) : List (Nat × Nat × List aSc2 × List Nat) → List (Nat × aS) → Option (List (Nat × aS))
  | [], L => some L
  | g :: r, L => if Nat.beq g.1 pc = true then (match aCat (aGh2 C RU g pc) L with
    | some L' => aGhs C RU pc r L'
    | none => none) else aGhs C RU pc r L
theorem aBs_pc {S : aS} {r : List Nat} {cs : List aF} {p : Nat} : ∀ q ∈ aBs S r cs p, q.1 = p := by
  intro q hq
  unfold aBs at hq
  repeat' split at hq
  all_goals first | (rw [List.mem_singleton] at hq; subst hq; rfl) | (cases hq)
theorem aPcs_pc {S : aS} {x pc : Nat} : ∀ {pts : List Int} {lo : Option Int}, ∀ q ∈ aPcs S x pc pts lo, q.1 = pc
  | [], _, q, hq => aBs_pc q hq
  | _ :: _, _, q, hq => (List.mem_append.mp hq).elim (aBs_pc q) (aPcs_pc q)
theorem aCat_ok {f : aS → Option (List (Nat × aS))} : ∀ {L0 L : List (Nat × aS)}, aCat f L0 = some L → ∀ q ∈ L0, ∃ Lq, f q.2 = some Lq ∧ ∀ z ∈ Lq, z ∈ L
  | [], _, _, q, hq => by cases hq
  | q0 :: r, L, h, q, hq => by
    unfold aCat at h
    split at h
    next a b ha hb =>
      cases h
      rcases List.mem_cons.mp hq with rfl | hq
      · exact ⟨a, ha, fun z hz => List.mem_append_left _ hz⟩
      · obtain ⟨Lq, e1, e2⟩ := aCat_ok hb q hq
        exact ⟨Lq, e1, fun z hz => List.mem_append_right _ (e2 z hz)⟩
    next => cases h
/-! a state in its normal form, for the kernel -/
noncomputable def aNn (x : Nat) (k : Nat → Bool) : Bool := match x with
  | 0 => k 0
  | y + 1 => k (y + 1)
theorem aNn_e (x : Nat) (k : Nat → Bool) : aNn x k = k x := by cases x <;> rfl
noncomputable def aNi2 (x : Int) (k : Int → Bool) : Bool := match x with
  | .ofNat y => aNn y (fun y => k (.ofNat y))
  | .negSucc y => aNn y (fun y => k (.negSucc y))
theorem aNi2_e (x : Int) (k : Int → Bool) : aNi2 x k = k x := by
  cases x <;> (unfold aNi2; dsimp only; rw [aNn_e])
noncomputable def aNl {α : Type} (f : α → (α → Bool) → Bool) : List α → (List α → Bool) → Bool
  | [], k => k []
  | x :: r, k => f x (fun x => aNl f r (fun r => k (x :: r)))
theorem aNl_e {α : Type} {f : α → (α → Bool) → Bool} (hf : ∀ x k, f x k = k x) : ∀ (l : List α) (k : List α → Bool), aNl f l k = k l
  | [], _ => rfl
  | x :: r, k => by unfold aNl; rw [hf, aNl_e hf r]
noncomputable def aNo {α : Type} (f : α → (α → Bool) → Bool) (x : Option α) (k : Option α → Bool) : Bool := match x with
  | none => k none
  | some y => f y (fun y => k (some y))
theorem aNo_e {α : Type} {f : α → (α → Bool) → Bool} (hf : ∀ x k, f x k = k x) (x : Option α) (k : Option α → Bool) : aNo f x k = k x := by
  cases x
  · rfl
  · exact hf _ _
noncomputable def aNp {α β : Type} (f : α → (α → Bool) → Bool) (g : β → (β → Bool) → Bool) (x : α × β) (k : α × β → Bool) : Bool := match x with
  | (a, b) => f a (fun a => g b (fun b => k (a, b)))
theorem aNp_e {α β : Type} {f : α → (α → Bool) → Bool} {g : β → (β → Bool) → Bool} (hf : ∀ x k, f x k = k x) (hg : ∀ x k, g x k = k x) (x : α × β) (k : α × β → Bool) : aNp f g x k = k x := by
  obtain ⟨a, b⟩ := x
  unfold aNp
  dsimp only
  rw [hf, hg]
noncomputable def aNf1 : aF → (aF → Bool) → Bool := aNp (aNl (aNp aNn aNi2)) aNi2
theorem aNf1_e (x : aF) (k : aF → Bool) : aNf1 x k = k x := aNp_e (aNl_e (aNp_e aNn_e aNi2_e)) aNi2_e x k
noncomputable def aNt (x : aT) (k : aT → Bool) : Bool := match x with
  | .inl A => aNp aNi2 aNi2 A (fun A => k (.inl A))
  | .inr none => k (.inr none)
  | .inr (some (.inl (b, n))) => (match b with
    | true => aNn n (fun n => k (.inr (some (.inl (true, n)))))
    | false => aNn n (fun n => k (.inr (some (.inl (false, n))))))
  | .inr (some (.inr n)) => aNn n (fun n => k (.inr (some (.inr n))))
theorem aNt_e (x : aT) (k : aT → Bool) : aNt x k = k x := by
  rcases x with A | _ | ⟨b, n⟩ | n
  · unfold aNt; dsimp only; rw [aNp_e aNi2_e aNi2_e]
  · rfl
  · cases b <;> (unfold aNt; dsimp only; rw [aNn_e])
  · unfold aNt; dsimp only; rw [aNn_e]
noncomputable def aNS : aS → (aS → Bool) → Bool := aNp (aNl (aNo aNn)) (aNp (aNl aNn) (aNp (aNl (aNp aNt (aNo aNf1))) (aNp (aNl (aNp aNn (aNp aNn aNn))) (aNp (aNl (aNp aNn (aNp aNf1 aNn))) (aNp (aNl aNf1) (aNl (aNp aNn (aNl aNn))))))))
theorem aNS_e (x : aS) (k : aS → Bool) : aNS x k = k x := aNp_e (aNl_e (aNo_e aNn_e)) (aNp_e (aNl_e aNn_e) (aNp_e (aNl_e (aNp_e aNt_e (aNo_e aNf1_e))) (aNp_e (aNl_e (aNp_e aNn_e (aNp_e aNn_e aNn_e))) (aNp_e (aNl_e (aNp_e aNn_e (aNp_e aNf1_e aNn_e))) (aNp_e (aNl_e aNf1_e) (aNl_e (aNp_e aNn_e (aNl_e aNn_e)))))))) x k
/-- normal forms behind branches alone -/
noncomputable def aNy (L : List (Nat × aS)) (S : aS) (k : aS → Bool) : Bool := match L with
  | [_] => k S
  | _ => aNS S k
theorem aNy_e (L : List (Nat × aS)) (S : aS) (k : aS → Bool) : aNy L S k = k S := by
  unfold aNy
  split
  · rfl
  · exact aNS_e S k
noncomputable def aGk (m : aMi) (pc : Nat) (S : aS) (k : aS → Bool) : Bool := if m.1.2.2.2.2.2.2.2.2.any (fun g => Nat.beq g.1 pc) = true then (match aGhs m.2.1 m.1.2.2.2.2.2.2.2.1 pc m.1.2.2.2.2.2.2.2.2 [(pc, S)] with
  | some L => L.all (fun q => aNS q.2 k)
  | none => false) else k S
noncomputable def aRun (m : aMi) (rk0 : List aF) : Nat → List jI → Nat → aS → Bool
  | 0, _, _, _ => false
  | _ + 1, [], _, _ => false
  | f + 1, x :: r, pc, S => aGk m pc S (fun S => (!Nat.beq x.2.2.1 999 && aRet m.2.1 m.2.2.2.1 m.1.2.2.2.1 x.1 S) || (match aNe3 m x pc S with
    | some L => L.all (fun q => aNn q.1 (fun p => aNy L q.2 (fun S => if m.2.2.2.2.2.any (fun c => Nat.beq c.1 p) = true then m.2.2.2.2.2.any (fun c => Nat.beq c.1 p && aTo m.2.1 rk0 c S) else (if p = pc + x.2.1 then aRun m rk0 f r p S else (match aSuf m.2.2.2.2.1 0 p with
        | some is => aRun m rk0 f is p S
        | none => false)))))
    | none => false))
noncomputable def aIsL (t : aT) : Bool := match t with
  | .inr none => true
  | _ => false
noncomputable def aEnt : List aT → Nat → List (Option Nat)
  | [], _ => []
  | t :: ts, i => if aIsL t = true then some i :: none :: aEnt ts (i + 1) else some i :: aEnt ts (i + 1)
/-- the state at the entry -/
noncomputable def aEn (G : aCon) : aS := (aEnt ((G.2.2.2.1.1.take G.2.2.1).map (·.1)) 0 ++ List.replicate (G.1.2.2.1 - (aEnt ((G.2.2.2.1.1.take G.2.2.1).map (·.1)) 0).length) none, [], G.2.2.2.1.1, (G.2.2.2.1.2.1, [], G.2.2.2.1.2.2.2.1, (0, []) :: G.2.2.2.1.2.2.2.2))
/-- the conf is that of the contract -/
noncomputable def aOkc (C : aCf) (G : aCon) : Bool := decide (C.2.2.2.1 = G.2.2.2.2.2.1.1) && (decide (C.2.2.2.2.1 = G.2.2.2.2.2.1.2) && (decide (C.2.2.2.2.2.2 = G.2.2.2.1.1.length) && (aDT C.2.2.2.2.2.1 C.1 && (aNil G.2.2.2.1.2 && (aNo0 G.2.2.2.1.2.2.2.2 && (decide (G.2.2.1 ≤ G.2.2.2.1.1.length) && decide ((aEnt ((G.2.2.2.1.1.take G.2.2.1).map (·.1)) 0).length ≤ G.1.2.2.1)))))))
noncomputable def aChk (m : aMi) (f : Nat) : Bool := aOkc m.2.1 m.2.2.2.1 && (m.2.2.2.2.2.all (fun c => aRo c.2.1.2.2.1.length c.2.2.2 && (match aSuf m.2.2.2.2.1 0 c.1 with
  | some is => aRun m c.2.2.2 f is c.1 c.2.1
  | none => false)))
theorem nar_eq (ty : FieldType) (x : Int32) : narrow ty (.int x) = .int (vp_nar ty x) := by cases ty <;> rfl
section ASZ
variable {K : Nat → Nat} {n : Nat} {P : Type} {F : aFt P} {l : Launch} {E : jE} {tb : jTb} {nL : Nat} {ini : Bool} {cc : ByteArray} {M : jM} {JX : (Nat → jcell) → Prop} {ρ0 : List jv} {σ0 : Nat → jcell} {m : aMi} {pe : P}
theorem jk_aret {own : String} {Ts : List Jvm.Cond} {cl : List vw_C} {cells slots : Nat} (X : jX E own Ts cl tb nL ini cc M) {pc mc ms : Nat} (hd : decode cc pc = .ok (.areturn, 1)) {ty : FieldType} (hr : M.2.2.2.2.2.2.2.2.1.sig.returnType = some ty) (hty : (∃ s, ty = .object s) ∨ ∃ t, ty = .array t) {v : Option (Nat ⊕ Nat)} {lv : List (Option jv)} {σ : Nat → jcell} {post : jPo} (hc : cells ≤ mc) (hs : slots ≤ ms) (hp : post (some (.inr (.inr v))) σ n) : jJ E cl nL M (jQ E cl M post mc ms) n cells slots pc lv [.inr (.inr v)] σ := by
  obtain ⟨p, l, e, R, s, m, args, below, meth, c⟩ := M
  obtain ⟨hx, hb, hml, ho, hts, hK, hlk, -⟩ := X
  intro H locs ls hW hS hL
  refine W.widen hc hs (W.aret hx hb hr hty ?_ (fun t ht _ => ⟨⟨some (.inr (.inr v)), σ, n, rfl, hp, by rw [ht]; exact hW⟩, hS.F ht⟩) hS.2.2 hd hlk)
  rcases v with _ | a | j
  · exact Or.inl rfl
  · exact Or.inr ⟨_, rfl⟩
  · exact Or.inr ⟨_, rfl⟩
theorem jk_look {own : String} {Ts : List Jvm.Cond} {cl : List vw_C} {Q : State → Prop} {cells slots : Nat} (X : jX E own Ts cl tb nL ini cc M) {pc len td : Nat} {dflt : Int} {ps : Array (Int × Int)} (hd : decode cc pc = .ok (.lookupswitch dflt ps, len)) (hp : (ps.toList.zip (ps.toList.drop 1)).all (fun (a, next) => a.1 < next.1) = true) (htd : (pc : Int) + dflt = (td : Int)) {lv : List (Option jv)} {r : List jv} {σ : Nat → jcell} {x : Int32} (ko : (∀ q ∈ ps.toList, ¬ x.toInt = q.1) → jJ E cl nL M Q n cells slots td lv r σ) (ki : ∀ q ∈ ps.toList, x.toInt = q.1 → ∃ t : Nat, (pc : Int) + q.2 = (t : Int) ∧ jJ E cl nL M Q n cells slots t lv r σ) : jJ E cl nL M Q n cells slots pc lv (.inl x :: r) σ := by
  obtain ⟨hx, hb, -⟩ := X
  intro H locs ls hW hS hL
  have key : ∀ (L : List (Int × Int)), (Op.lookupswitch.offset L dflt x.toInt = dflt ∧ ∀ q ∈ L, ¬ x.toInt = q.1) ∨ ∃ q ∈ L, x.toInt = q.1 ∧ Op.lookupswitch.offset L dflt x.toInt = q.2 := by
    intro L
    induction L with
    | nil => exact Or.inl ⟨rfl, fun _ h => by cases h⟩
    | cons q t ih =>
      obtain ⟨a, o⟩ := q
      rw [Op.lookupswitch.offset_cons]
      by_cases h : a = x.toInt
      · rw [if_pos h]
        exact Or.inr ⟨(a, o), List.mem_cons_self, h.symm, rfl⟩
      · rw [if_neg h]
        rcases ih with ⟨ih, ih2⟩ | ⟨q, q1, q2⟩
        · refine Or.inl ⟨ih, fun q hq e => ?_⟩
          rcases List.mem_cons.mp hq with rfl | hq
          · exact h e.symm
          · exact ih2 q hq e
        · exact Or.inr ⟨q, List.mem_cons_of_mem _ q1, q2⟩
  rcases key ps.toList with ⟨h, h'⟩ | ⟨q, q1, q2, q3⟩
  · exact lv_lookup hx hb hd hp h htd (ko h' H locs ls hW hS hL)
  · obtain ⟨t, t1, t2⟩ := ki q q1 q2
    exact lv_lookup hx hb hd hp q3 t1 (t2 H locs ls hW hS hL)
noncomputable def aPo (C : aCf) (K : Nat → Nat) (n : Nat) (JX : (Nat → jcell) → Prop) (F : aFt P) (pe : P) (ρ0 : List jv) (σ0 : Nat → jcell) (G : aCon) : jPo := fun r σ' n' => n' = n ∧ aH C.1 K n σ' ∧ JX σ' ∧ aFr K n C.2.2.2.1 σ0 σ' ∧ aFa K n C.2.2.2.2.1 ρ0 σ0 σ' ∧ r.isSome = G.2.2.2.2.1.1.isSome ∧ ∃ xs, aR K n (aPe G) (ρ0 ++ (r.toList ++ xs)) ∧ aMm F pe (ρ0 ++ (r.toList ++ xs)) σ' G.2.2.2.2.1.2.2.1 ∧ ∃ A ∈ G.2.2.2.2.1.2.2.2, ∀ f ∈ A, aHd (ρ0 ++ (r.toList ++ xs)) f
theorem aFn_ok {C : aCf} (hF : ∀ (p p' : P) (r : Nat) (vs : List jv) (σ : Nat → jcell), aFre r = true → F p r vs σ → F p' r vs σ) (hE : C.2.2.2.2.2.2 = ρ0.length) {G : aCon} {S : aS} {r : List Nat} (h : aFn C G S (List.range C.2.2.2.2.2.2 ++ r) = true) {ρ : List jv} (hx0 : aX ρ0 ρ) {lv : List (Option jv)} {st : List jv} {σ : Nat → jcell} (hc : aCx (aFq F pe) (aHp C K n JX ρ0 σ0) K n S ρ lv st σ) (hw : aWm ρ r) : ∃ xs, aR K n (aPe G) (ρ0 ++ (aVal ρ r ++ xs)) ∧ aMm F pe (ρ0 ++ (aVal ρ r ++ xs)) σ G.2.2.2.2.1.2.2.1 ∧ ∃ A ∈ G.2.2.2.2.1.2.2.2, ∀ f ∈ A, aHd (ρ0 ++ (aVal ρ r ++ xs)) f := by
  unfold aFn at h
  split at h
  next z hz =>
    obtain ⟨⟨ex, hm⟩, ρ1, x1, c1, hst, hf⟩ := aMpf_ok hz hc
    simp only [Bool.and_eq_true] at h
    obtain ⟨h1, h2, h3, h4, h5, h6, h7⟩ := h
    obtain ⟨p9, m1, m2, m3, m4⟩ := c1.2.2.2.1
    obtain ⟨i1, i2⟩ := aAllE_ok c1.1 m3 h1
    have ev : aVal ρ1 z.2 = ρ0 ++ (aVal ρ r ++ aVal ρ1 ex) := by
      rw [hm, hE]
      unfold aVal
      rw [List.map_append, List.map_append, List.append_assoc]
      congr 1
      · exact aVal_rg (hx0.tr x1)
      · congr 1
        exact aVal_mo x1 hw
    refine ⟨aVal ρ1 ex, by rw [← ev]; exact i1, ?_⟩
    rw [← ev]
    obtain ⟨A, hA, hA2⟩ := List.any_eq_true.mp h7
    refine ⟨?_, A, hA, aAllN_ok c1.1 m3 i2 hA2⟩
    have hmm : aMm (aFq F pe) p9 (aVal ρ1 z.2) σ G.2.2.2.2.1.2.2.1 := by
      refine ⟨aMpf_ca hf, fun q hq => ?_, aAllN_ok c1.1 m3 i2 h3, aAllX_ok i2 m4 h4⟩
      unfold aNil at h2
      split at h2
      next e => rw [e] at hq; cases hq
      next => cases h2
    have hmm2 := (aFq_mm h5).mp hmm
    rw [Bool.or_eq_true] at h6
    rcases h6 with h6 | h6
    · refine ⟨hmm2.1, hmm2.2.1, hmm2.2.2.1, fun q hq => ?_⟩
      obtain ⟨vs, v1, v2⟩ := hmm2.2.2.2 q hq
      exact ⟨vs, v1, hF _ _ _ _ _ (List.all_eq_true.mp h6 q hq) v2⟩
    · obtain ⟨vs, -, v2⟩ := m4 _ (of_decide_eq_true h6)
      unfold aFq at v2
      rw [if_pos rfl] at v2
      rw [← v2]
      exact hmm2
  next => cases h
theorem aRetG_ok {post : jPo} {ca sl mc ms : Nat} (hca : ca ≤ mc) (hsl : sl ≤ ms) {C : aCf} (hF : ∀ (p p' : P) (r : Nat) (vs : List jv) (σ : Nat → jcell), aFre r = true → F p r vs σ → F p' r vs σ) {G : aCon} {own : String} {Ts : List Jvm.Cond} {cl : List vw_C} {rt : Option FieldType} (hE : C.2.2.2.2.2.2 = ρ0.length) (X : jX E own Ts cl tb nL ini cc M) (hrt : M.2.2.2.2.2.2.2.2.1.sig.returnType = rt) {pc : Nat} {x : jI} (hk : jok own Ts cl tb nL ini cc pc x = true) {S : aS} (h : aRet C G rt x.1 S = true) {ρ : List jv} (hx0 : aX ρ0 ρ) {lv : List (Option jv)} {st : List jv} {σ : Nat → jcell} (hc : aCx (aFq F pe) (aHp C K n JX ρ0 σ0) K n S ρ lv st σ) (hpo : ∀ (r : Option jv) (σ9 : Nat → jcell), aPo C K n JX F pe ρ0 σ0 G r σ9 n → post r σ9 n) : jJ E cl nL M (jQ E cl M post mc ms) n ca sl pc lv st σ := by
  obtain ⟨I, ln, py⟩ := x
  simp only [jok, Bool.and_eq_true, decide_eq_true_eq] at hk
  obtain ⟨hd, hk⟩ := hk
  obtain ⟨c5, c6, c7, c8⟩ := hc.2.2.2.2
  have one : ∀ {x : Nat} {v : jv}, ρ[x]? = some v → aWm ρ [x] ∧ aVal ρ [x] = [v] := fun {x v} hv => ⟨fun i k hk => by
    cases i with
    | zero => cases hk; exact (List.getElem?_eq_some_iff.mp hv).1
    | succ i => simp at hk, by unfold aVal; simp [List.getD, hv]⟩
  unfold aRet at h
  split at h
  next hI =>
    dsimp only at hI
    subst hI
    simp only [jok1, decide_eq_true_eq] at hk
    subst hk
    split at h
    next e2 e3 =>
      have hs := hc.2.2.1
      rw [e3] at hs
      rw [← List.append_nil (List.range C.2.2.2.2.2.2)] at h
      obtain ⟨xs, x1, x2, x3⟩ := aFn_ok hF hE h hx0 hc (fun i k hk => by simp at hk)
      cases st with
      | nil => exact jk_vret X hd (hrt) hca hsl (hpo _ _ ⟨rfl, c5, c6, c7, c8, by rw [e2]; rfl, xs, x1, x2, x3⟩)
      | cons => exact hs.elim
    next => cases h
  next hI =>
    dsimp only at hI
    subst hI
    simp only [jok1, decide_eq_true_eq] at hk
    subst hk
    split at h
    next ty t z e2 e3 =>
      split at h
      next A hA =>
        rw [Bool.and_eq_true] at h
        obtain ⟨v, s, rfl, h1, h2⟩ := aSk_1 (e3 ▸ hc.2.2.1)
        obtain ⟨x, rfl, -⟩ := aG_int (aTy_ok hc.1 hA h1)
        obtain ⟨p9, m1, m2, m3, m4⟩ := hc.2.2.2.1
        have hx : aIn (aRg ty) x := aLx_ok hc.1 m3 h.1 h1
        obtain ⟨o1, o2⟩ := one h1
        obtain ⟨xs, x1, x2, x3⟩ := aFn_ok hF hE h.2 hx0 hc o1
        rw [o2] at x1 x2 x3
        cases s with
        | nil => exact jk_iret X hd (hrt) (by rw [nar_eq, aRg_ok hx]) hca hsl (hpo _ _ ⟨rfl, c5, c6, c7, c8, by rw [e2]; rfl, xs, x1, x2, x3⟩)
        | cons => exact h2.elim
      next => cases h
    next => cases h
  next hI =>
    dsimp only at hI
    subst hI
    simp only [jok1, decide_eq_true_eq] at hk
    subst hk
    split at h
    next z e2 e3 =>
      obtain ⟨v, s, rfl, h1, h2⟩ := aSk_1 (e3 ▸ hc.2.2.1)
      obtain ⟨o1, o2⟩ := one h1
      split at h
      next hA =>
        obtain ⟨xs, x1, x2, x3⟩ := aFn_ok hF hE h hx0 hc o1
        rw [o2] at x1 x2 x3
        obtain ⟨y, rfl⟩ := aG_lng (aTy_ok hc.1 hA h1)
        cases s with
        | nil => exact jk_lret X hd (hrt) hca hsl (hpo _ _ ⟨rfl, c5, c6, c7, c8, by rw [e2]; rfl, xs, x1, x2, x3⟩)
        | cons => exact h2.elim
      next => cases h
    next => cases h
  next hI =>
    dsimp only at hI
    subst hI
    simp only [jok1, decide_eq_true_eq] at hk
    subst hk
    split at h
    next ty t z e2 e3 =>
      obtain ⟨v, s, rfl, h1, h2⟩ := aSk_1 (e3 ▸ hc.2.2.1)
      obtain ⟨o1, o2⟩ := one h1
      split at h
      next q hA =>
        rw [Bool.and_eq_true] at h
        obtain ⟨xs, x1, x2, x3⟩ := aFn_ok hF hE h.2 hx0 hc o1
        rw [o2] at x1 x2 x3
        have h9 := aTy_ok hc.1 hA h1
        obtain ⟨y, rfl⟩ : ∃ y, v = .inr (.inr y) := by
          rcases v with x | x | x
          · rcases q with q | q <;> exact h9.elim
          · rcases q with q | q <;> exact h9.elim
          · exact ⟨x, rfl⟩
        cases s with
        | nil => exact jk_aret X hd (hrt) (aObt_ok h.1) hca hsl (hpo _ _ ⟨rfl, c5, c6, c7, c8, by rw [e2]; rfl, xs, x1, x2, x3⟩)
        | cons => exact h2.elim
      next => cases h
    next => cases h
  next => cases h
/-! the goals of a switch -/
theorem aRet_ok {C : aCf} (hF : ∀ (p p' : P) (r : Nat) (vs : List jv) (σ : Nat → jcell), aFre r = true → F p r vs σ → F p' r vs σ) {G : aCon} {own : String} {Ts : List Jvm.Cond} {cl : List vw_C} {rt : Option FieldType} (hE : C.2.2.2.2.2.2 = ρ0.length) (X : jX E own Ts cl tb nL ini cc M) (hrt : M.2.2.2.2.2.2.2.2.1.sig.returnType = rt) {pc : Nat} {x : jI} (hk : jok own Ts cl tb nL ini cc pc x = true) {S : aS} (h : aRet C G rt x.1 S = true) {ρ : List jv} (hx0 : aX ρ0 ρ) {lv : List (Option jv)} {st : List jv} {σ : Nat → jcell} (hc : aCx (aFq F pe) (aHp C K n JX ρ0 σ0) K n S ρ lv st σ) : jJ E cl nL M (jQ E cl M (aPo C K n JX F pe ρ0 σ0 G) 0 0) n 0 0 pc lv st σ := aRetG_ok (Nat.le_refl _) (Nat.le_refl _) hF hE X hrt hk h hx0 hc (fun _ _ h9 => h9)
theorem aTab_ok {C : aCf} {J : jN} {S : aS} {x : Nat} {r : List Nat} {ρ : List jv} {lv : List (Option jv)} {st st0 : List jv} {σ : Nat → jcell} (hc : aCx F (aHp C K n JX ρ0 σ0) K n S ρ lv st0 σ) (hs : aSk ρ r st) {y : Int32} (hy : ρ[x]? = some (.inl y)) : ∀ {ts : List Nat} {k : Int}, aNx F (aHp C K n JX ρ0 σ0) K n J ρ (aTab S x r ts k) → ∀ (i t : Nat), ts[i]? = some t → y.toInt = k + i → J t lv st σ
  | [], _, _, i, t, h1, _ => by simp at h1
  | t0 :: ts, k, h, i, t, h1, h2 => by
    have hl := aLi_ok hc.1 hy
    replace hl : aVa ρ (aLi S.2.2.1 x) y.toInt := hl
    unfold aTab at h
    cases i with
    | zero =>
      cases h1
      refine aBs_ok hc hs (fun f hf => ?_) (aNx_l h)
      rcases List.mem_cons.mp hf with rfl | hf
      · exact aHd_va.mpr ⟨_, aVa_p (aVa_k _) hl, by omega⟩
      · rw [List.mem_singleton] at hf
        subst hf
        exact aHd_va.mpr ⟨_, aVa_p (aVa_k _) (aVa_m (-1) hl), by omega⟩
    | succ i => exact aTab_ok hc hs hy (aNx_r h) i t (by simpa using h1) (by omega)
theorem aLok_ok {C : aCf} {J : jN} {S : aS} {x pc : Nat} {r : List Nat} {ρ : List jv} {lv : List (Option jv)} {st st0 : List jv} {σ : Nat → jcell} (hc : aCx F (aHp C K n JX ρ0 σ0) K n S ρ lv st0 σ) (hs : aSk ρ r st) {y : Int32} (hy : ρ[x]? = some (.inl y)) : ∀ {ps : List (Int × Int)}, aNx F (aHp C K n JX ρ0 σ0) K n J ρ (aLok S x r pc ps) → ∀ q ∈ ps, y.toInt = q.1 → J ((pc : Int) + q.2).toNat lv st σ
  | [], _, q, h1, _ => by cases h1
  | q0 :: ps, h, q, h1, h2 => by
    have hl := aLi_ok hc.1 hy
    replace hl : aVa ρ (aLi S.2.2.1 x) y.toInt := hl
    unfold aLok at h
    rcases List.mem_cons.mp h1 with rfl | h1
    · refine aBs_ok hc hs (fun f hf => ?_) (aNx_l h)
      rcases List.mem_cons.mp hf with rfl | hf
      · exact aHd_va.mpr ⟨_, aVa_p (aVa_k _) hl, by omega⟩
      · rw [List.mem_singleton] at hf
        subst hf
        exact aHd_va.mpr ⟨_, aVa_p (aVa_k _) (aVa_m (-1) hl), by omega⟩
    · exact aLok_ok hc hs hy (aNx_r h) q h1 h2
end ASZ
end
section
/-! the run is sound; a method's contract from its check -/
section JAC
variable {E : jE} {own : String} {Ts : List Jvm.Cond} {cl : List vw_C} {tb : jTb} {nL : Nat} {ini : Bool} {cc : ByteArray} {M : jM} {Q : State → Prop} {n cells slots : Nat}
theorem jac_nn (z : Int32) (hz : ¬ z < 0) : z.toInt = (z.toNatClampNeg : Int) := by
  have h0 : (0 : Int) ≤ z.toInt := by
    have := Int32.not_lt.mp hz
    simpa using Int32.le_iff_toInt_le.mp this
  show z.toInt = ((z.toInt.toNat : Nat) : Int)
  omega
/-- longs are copied from row to row -/
theorem jk_acl (X : jX E own Ts cl tb nL ini cc M) {rm : Room} (hR : M.2.2.2.1 = rm) {pc i : Nat} (hd : decode cc pc = .ok (.invokestatic i, 3)) (hli : Jvm.Cond.methodLink own i arraycopyName ∈ jTA Ts) (hna : Jvm.Cond.native arraycopyName ∈ jTA Ts) (hst : Jvm.Cond.static arraycopyName ∈ jTA Ts) (hin : Jvm.Cond.initialized "java/lang/System" ∈ jTA Ts) {lv : List (Option jv)} {r : List jv} {σ : Nat → jcell} {b0 b1 n0 n1 : Nat} {f g : Nat → Int64} (ha0 : b0 < n) (he0 : σ b0 = .inl (.long, n0, .inr (.inl f))) (ha1 : b1 < n) (he1 : σ b1 = .inl (.long, n1, .inr (.inl g))) {sp dp k : Int32} (h1 : ¬ sp < 0) (h2 : ¬ dp < 0) (h3 : ¬ k < 0) (h4 : sp.toNatClampNeg + k.toNatClampNeg ≤ n0) (h5 : dp.toNatClampNeg + k.toNatClampNeg ≤ n1) (hf : 1 ≤ rm.frames) (hz : (r.map jcat).sum ≤ 8) (hl : 8 + (nativeFrameWords "java/lang/System" "arraycopy" 5 + 11) ≤ rm.locals)
    (kk : jJ E cl nL M Q n cells slots (pc + 3) lv r (jup σ b1 (.inl (.long, n1, .inr (.inl (va_cpy f g sp.toNatClampNeg dp.toNatClampNeg k.toNatClampNeg)))))) : jJ E cl nL M Q n cells slots pc lv (.inl k :: .inl dp :: .inr (.inr (some (.inl b1))) :: .inl sp :: .inr (.inr (some (.inl b0))) :: r) σ := by
  obtain ⟨p, l, e, R, s, m, args, below, meth, c⟩ := M
  dsimp only at hR
  subst hR
  obtain ⟨hx, hb, hml, ho, hts, ⟨hK, hK2⟩, -⟩ := X
  intro H locs ls hW hS hL
  have hP0 := jW_one hW ha0 (by rw [he0]; simp only [jkn]; first | done | decide | assumption)
  have hP1 := jW_one hW ha1 (by rw [he1]; simp only [jkn]; first | done | decide | assumption)
  rw [he0] at hP0
  rw [he1] at hP1
  obtain ⟨t0, ht0⟩ := jty_in (E := E) (t := .long) (by decide)
  have hc0 : H[E.2.2.2 + b0]? = some (vp_cell (E.2.1 .long) (n0, .inr (.inl f))) := hP0 0 _ rfl
  have hc1 : H[E.2.2.2 + b1]? = some (vp_cell (E.2.1 .long) (n1, .inr (.inl g))) := hP1 0 _ rfl
  intro T hT X9
  obtain ⟨-, q0, hq0, cm0, hqq0⟩ := (hK.2 t0 _ ht0).1 n0 (fun j => .long (f j))
  obtain ⟨-, q1, hq1, cm1, hqq1⟩ := (hK.2 t0 _ ht0).1 n1 (fun j => .long (g j))
  have hsz : c.maxLocals = ls.size := by rw [hL.1]; exact hml
  obtain ⟨vm', X', step⟩ := X9.arraycopy hx ho (hts _ hli) (hts _ hna) (hts _ hst) (hts _ hin) (src := E.2.2.2 + b0) (dst := E.2.2.2 + b1) (cs := vp_cell (E.2.1 .long) (n0, .inr (.inl f))) (cd := vp_cell (E.2.1 .long) (n1, .inr (.inl g))) (srcPos := sp) (destPos := dp) (n := k) (by rw [hT]; exact hc0) (by rw [hT]; exact hc1)
    (fun _ h => by cases h) (fun _ h => by cases h) (fun h => by cases h) (fun h => by cases h) hq0 hq1 hqq0 hqq1 (by simp) h1 h2 h3
    (by rw [jac_nn sp h1, jac_nn k h3]; show ¬ _ > ((arrV (E.2.1 .long) n0 (fun j => .long (f j))).slots.size : Int); rw [arrV_size]; omega)
    (by rw [jac_nn dp h2, jac_nn k h3]; show ¬ _ > ((arrV (E.2.1 .long) n1 (fun j => .long (g j))).slots.size : Int); rw [arrV_size]; omega)
    (fun vm1 _ j hj => by
      have e1 : (vp_cell (E.2.1 .long) (n0, .inr (.inl f))).slots.getD (sp.toNatClampNeg + j) .null = .long (f (sp.toNatClampNeg + j)) := by
        show (arrV (E.2.1 .long) n0 (fun j => .long (f j))).slots.getD _ _ = _
        rw [Array.getD_eq_getD_getElem?, arrV_read _ _ (by omega)]
        rfl
      rw [e1]
      exact ⟨rfl, trivial⟩)
    (g := F0 m pc ls (.int k :: .int dp :: .ref (E.2.2.2 + b1) :: .int sp :: .ref (E.2.2.2 + b0) :: r.map (jc E))) rfl (by rw [hsz]) (rest := r.map (jc E)) rfl (by rw [hb]; exact hd) hf (show 2 * 0 + ((r.map (jc E)).map fun v => v.category).sum + (nativeFrameWords "java/lang/System" "arraycopy" 5 + 11) ≤ R.locals from by have := jcat_sum E r; omega)
  have e1 : copied (vp_cell (E.2.1 .long) (n0, .inr (.inl f))) (vp_cell (E.2.1 .long) (n1, .inr (.inl g))) sp dp k = vp_cell (E.2.1 .long) (n1, .inr (.inl (va_cpy f g sp.toNatClampNeg dp.toNatClampNeg k.toNatClampNeg))) := va_copied (fun z => .long z) _ _ f g h4
  rw [e1] at X' step
  have hlt : E.2.2.2 + b1 < H.size := (Array.getElem?_eq_some_iff.mp hc1).1
  have hheap : ((T.setVm vm').setCell (E.2.2.2 + b1) (vp_cell (E.2.1 .long) (n1, .inr (.inl (va_cpy f g sp.toNatClampNeg dp.toNatClampNeg k.toNatClampNeg))))).heap = H.setIfInBounds (E.2.2.2 + b1) (vp_cell (E.2.1 .long) (n1, .inr (.inl (va_cpy f g sp.toNatClampNeg dp.toNatClampNeg k.toNatClampNeg)))) := by rw [← hT]; rfl
  have oq : ∀ q : Nat, q ≠ E.2.2.2 + b1 → (H.setIfInBounds (E.2.2.2 + b1) (vp_cell (E.2.1 .long) (n1, .inr (.inl (va_cpy f g sp.toNatClampNeg dp.toNatClampNeg k.toNatClampNeg)))))[q]? = H[q]? := fun q hq => by simp [Array.getElem?_setIfInBounds, Ne.symm hq]
  have hA : jA E (E.2.2.2 + b1) := Nat.le_add_right _ _
  obtain ⟨t, a1, a2⟩ := kk _ _ ls (jW_set hW (by simp) oq (by show (H.setIfInBounds _ _)[E.2.2.2 + b1]? = some _; simp [Array.getElem?_setIfInBounds, hlt])) ⟨by simp; exact hS.1, fun q y1 y2 => by
      rw [oq q (fun e9 => y2 (by rw [e9]; exact hA))]
      exact hS.2.1 q y1 y2, fun q hq => by
      rcases List.mem_append.mp hq with h | h
      · exact hS.2.2 q h
      · obtain ⟨z, -, hz9⟩ := List.mem_map.mp h
        rw [← hz9]
        exact hA⟩ hL _ hheap X'
  exact ⟨t, step t a1, a2⟩
/-- bytes are copied from row to row -/
theorem jk_acb (X : jX E own Ts cl tb nL ini cc M) {rm : Room} (hR : M.2.2.2.1 = rm) {pc i : Nat} (hd : decode cc pc = .ok (.invokestatic i, 3)) (hli : Jvm.Cond.methodLink own i arraycopyName ∈ jTA Ts) (hna : Jvm.Cond.native arraycopyName ∈ jTA Ts) (hst : Jvm.Cond.static arraycopyName ∈ jTA Ts) (hin : Jvm.Cond.initialized "java/lang/System" ∈ jTA Ts) {lv : List (Option jv)} {r : List jv} {σ : Nat → jcell} {b0 b1 n0 n1 : Nat} {f g : Nat → Int32} (ha0 : b0 < n) (he0 : σ b0 = .inl (.byte, n0, .inl f)) (ha1 : b1 < n) (he1 : σ b1 = .inl (.byte, n1, .inl g)) {sp dp k : Int32} (h1 : ¬ sp < 0) (h2 : ¬ dp < 0) (h3 : ¬ k < 0) (h4 : sp.toNatClampNeg + k.toNatClampNeg ≤ n0) (h5 : dp.toNatClampNeg + k.toNatClampNeg ≤ n1) (hfit : ∀ j, j < k.toNatClampNeg → -128 ≤ (f (sp.toNatClampNeg + j)).toInt ∧ (f (sp.toNatClampNeg + j)).toInt ≤ 127) (hf : 1 ≤ rm.frames) (hz : (r.map jcat).sum ≤ 8) (hl : 8 + (nativeFrameWords "java/lang/System" "arraycopy" 5 + 11) ≤ rm.locals)
    (kk : jJ E cl nL M Q n cells slots (pc + 3) lv r (jup σ b1 (.inl (.byte, n1, .inl (va_cpy f g sp.toNatClampNeg dp.toNatClampNeg k.toNatClampNeg))))) : jJ E cl nL M Q n cells slots pc lv (.inl k :: .inl dp :: .inr (.inr (some (.inl b1))) :: .inl sp :: .inr (.inr (some (.inl b0))) :: r) σ := by
  obtain ⟨p, l, e, R, s, m, args, below, meth, c⟩ := M
  dsimp only at hR
  subst hR
  obtain ⟨hx, hb, hml, ho, hts, ⟨hK, hK2⟩, -⟩ := X
  intro H locs ls hW hS hL
  have hP0 := jW_one hW ha0 (by rw [he0]; simp only [jkn]; first | done | decide | assumption)
  have hP1 := jW_one hW ha1 (by rw [he1]; simp only [jkn]; first | done | decide | assumption)
  rw [he0] at hP0
  rw [he1] at hP1
  obtain ⟨t0, ht0⟩ := jty_in (E := E) (t := .byte) (by decide)
  have hc0 : H[E.2.2.2 + b0]? = some (vp_cell (E.2.1 .byte) (n0, .inl f)) := hP0 0 _ rfl
  have hc1 : H[E.2.2.2 + b1]? = some (vp_cell (E.2.1 .byte) (n1, .inl g)) := hP1 0 _ rfl
  intro T hT X9
  obtain ⟨-, q0, hq0, cm0, hqq0⟩ := (hK.2 t0 _ ht0).1 n0 (fun j => .int (f j))
  obtain ⟨-, q1, hq1, cm1, hqq1⟩ := (hK.2 t0 _ ht0).1 n1 (fun j => .int (g j))
  have hsz : c.maxLocals = ls.size := by rw [hL.1]; exact hml
  obtain ⟨vm', X', step⟩ := X9.arraycopy hx ho (hts _ hli) (hts _ hna) (hts _ hst) (hts _ hin) (src := E.2.2.2 + b0) (dst := E.2.2.2 + b1) (cs := vp_cell (E.2.1 .byte) (n0, .inl f)) (cd := vp_cell (E.2.1 .byte) (n1, .inl g)) (srcPos := sp) (destPos := dp) (n := k) (by rw [hT]; exact hc0) (by rw [hT]; exact hc1)
    (fun _ h => by cases h) (fun _ h => by cases h) (fun h => by cases h) (fun h => by cases h) hq0 hq1 hqq0 hqq1 (by simp) h1 h2 h3
    (by rw [jac_nn sp h1, jac_nn k h3]; show ¬ _ > ((arrV (E.2.1 .byte) n0 (fun j => .int (f j))).slots.size : Int); rw [arrV_size]; omega)
    (by rw [jac_nn dp h2, jac_nn k h3]; show ¬ _ > ((arrV (E.2.1 .byte) n1 (fun j => .int (g j))).slots.size : Int); rw [arrV_size]; omega)
    (fun vm1 _ j hj => by
      have e1 : (vp_cell (E.2.1 .byte) (n0, .inl f)).slots.getD (sp.toNatClampNeg + j) .null = .int (f (sp.toNatClampNeg + j)) := by
        show (arrV (E.2.1 .byte) n0 (fun j => .int (f j))).slots.getD _ _ = _
        rw [Array.getD_eq_getD_getElem?, arrV_read _ _ (by omega)]
        rfl
      rw [e1]
      refine ⟨?_, trivial⟩
      have h9 := hfit j hj
      have y1 : (-128 : Int32) ≤ f (sp.toNatClampNeg + j) := Int32.le_iff_toInt_le.mpr (by show (-128 : Int) ≤ _; exact h9.1)
      have y2 : f (sp.toNatClampNeg + j) ≤ (127 : Int32) := Int32.le_iff_toInt_le.mpr (by show _ ≤ (127 : Int); exact h9.2)
      show (decide _ && decide _) = true
      rw [Bool.and_eq_true, decide_eq_true_eq, decide_eq_true_eq]
      exact ⟨y1, y2⟩)
    (g := F0 m pc ls (.int k :: .int dp :: .ref (E.2.2.2 + b1) :: .int sp :: .ref (E.2.2.2 + b0) :: r.map (jc E))) rfl (by rw [hsz]) (rest := r.map (jc E)) rfl (by rw [hb]; exact hd) hf (show 2 * 0 + ((r.map (jc E)).map fun v => v.category).sum + (nativeFrameWords "java/lang/System" "arraycopy" 5 + 11) ≤ R.locals from by have := jcat_sum E r; omega)
  have e1 : copied (vp_cell (E.2.1 .byte) (n0, .inl f)) (vp_cell (E.2.1 .byte) (n1, .inl g)) sp dp k = vp_cell (E.2.1 .byte) (n1, .inl (va_cpy f g sp.toNatClampNeg dp.toNatClampNeg k.toNatClampNeg)) := va_copied (fun z => .int z) _ _ f g h4
  rw [e1] at X' step
  have hlt : E.2.2.2 + b1 < H.size := (Array.getElem?_eq_some_iff.mp hc1).1
  have hheap : ((T.setVm vm').setCell (E.2.2.2 + b1) (vp_cell (E.2.1 .byte) (n1, .inl (va_cpy f g sp.toNatClampNeg dp.toNatClampNeg k.toNatClampNeg)))).heap = H.setIfInBounds (E.2.2.2 + b1) (vp_cell (E.2.1 .byte) (n1, .inl (va_cpy f g sp.toNatClampNeg dp.toNatClampNeg k.toNatClampNeg))) := by rw [← hT]; rfl
  have oq : ∀ q : Nat, q ≠ E.2.2.2 + b1 → (H.setIfInBounds (E.2.2.2 + b1) (vp_cell (E.2.1 .byte) (n1, .inl (va_cpy f g sp.toNatClampNeg dp.toNatClampNeg k.toNatClampNeg))))[q]? = H[q]? := fun q hq => by simp [Array.getElem?_setIfInBounds, Ne.symm hq]
  have hA : jA E (E.2.2.2 + b1) := Nat.le_add_right _ _
  obtain ⟨t, a1, a2⟩ := kk _ _ ls (jW_set hW (by simp) oq (by show (H.setIfInBounds _ _)[E.2.2.2 + b1]? = some _; simp [Array.getElem?_setIfInBounds, hlt])) ⟨by simp; exact hS.1, fun q y1 y2 => by
      rw [oq q (fun e9 => y2 (by rw [e9]; exact hA))]
      exact hS.2.1 q y1 y2, fun q hq => by
      rcases List.mem_append.mp hq with h | h
      · exact hS.2.2 q h
      · obtain ⟨z, -, hz9⟩ := List.mem_map.mp h
        rw [← hz9]
        exact hA⟩ hL _ hheap X'
  exact ⟨t, step t a1, a2⟩
end JAC
noncomputable def aAG (K : Nat → Nat) (n : Nat) : List aT → List jv → Prop
  | [], [] => True
  | t :: ts, v :: vs => aG K n t v ∧ aAG K n ts vs
  | _, _ => False
section ASR
variable {K : Nat → Nat} {n : Nat} {P : Type} {F : aFt P} {l : Launch} {E : jE} {tb : jTb} {nL : Nat} {ini : Bool} {cc : ByteArray} {M : jM} {JX : (Nat → jcell) → Prop} {ρ0 : List jv} {σ0 : Nat → jcell} {m : aMi} {pe : P} {sh : P → List jv → P}
theorem aCall_no {C : aCf} {S : aS} {G : aCon} {p : Nat} {L : List (Nat × aS)} (hb : aCall C S G p = some L) : aNo0 G.2.2.2.1.2.2.2.2 = true ∧ aNo0 G.2.2.2.2.1.2.2.1.2.2.2 = true := by
  unfold aCall at hb
  split at hb
  · split at hb
    · split at hb
      · split at hb
        next hq =>
          simp only [Bool.and_eq_true, aOkp] at hq
          obtain ⟨q1, q2, q3, q4, q5, q6, q7, q8, q9, q10⟩ := hq
          refine ⟨List.all_eq_true.mpr (fun q hq => ?_), List.all_eq_true.mpr (fun q hq => ?_)⟩
          · have := List.all_eq_true.mp q5 q hq
            rw [Bool.and_eq_true] at this
            exact this.1
          · have := List.all_eq_true.mp q10 q hq
            rw [Bool.and_eq_true] at this
            exact this.1
        next => cases hb
      · cases hb
    · cases hb
  · cases hb
theorem aStq_ok {J : jN} {C : aCf} (hT : aTB C.2.1 tb) (hJ : aJx K n C.2.2.1 JX) (hD : aDp F K n C.2.2.2.2.2.1) (hE : C.2.2.2.2.2.2 = ρ0.length) {I : Instr} {ln : Nat} {py : jP} {pc : Nat} {S : aS} {L : List (Nat × aS)} (hb : aStq C I ln py pc S = some L) {ρ : List jv} (hx0 : aX ρ0 ρ) {lv : List (Option jv)} {st : List jv} {σ : Nat → jcell} (hc : aCx F (aHp C K n JX ρ0 σ0) K n S ρ lv st σ) (h : aNx F (aHp C K n JX ρ0 σ0) K n J ρ L) : jstep tb n I ln py pc lv st σ J J := by
  unfold aStq at hb
  split at hb
  next => exact aStp_ok hT hJ hD hE hb hx0 hc h
  next o ho =>
    split at hb
    next => exact aStp_ok hT hJ hD hE hb hx0 hc h
    next =>
      split at hb
      next hm =>
        split at hb
        next q he =>
          split at hb
          next y x r c t hs hs' =>
            cases hb
            obtain ⟨w, v, s, rfl, h1, h2, h3⟩ := aSk_2 (hs ▸ hc.2.2.1)
            refine aJo ho (aStp_ok hT hJ hD hE he hx0 hc ?_)
            intro q' hq' ρ' lv' st' σ' hx hc' ⟨x1, y1, r1, c1, e1, e2, e3, e4⟩
            rw [List.mem_singleton] at hq'
            subst hq'
            obtain ⟨rfl, e5⟩ := List.cons.inj e1
            obtain ⟨rfl, -⟩ := List.cons.inj e5
            obtain ⟨v9, s9, e9, k1, -⟩ := aSk_1 (hs' ▸ hc'.2.2.1)
            rw [e2] at e9
            obtain ⟨rfl, -⟩ := List.cons.inj e9
            obtain ⟨p9, m1, m2, m3, m4⟩ := hc'.2.2.2.1
            refine h (q'.1, _) (List.mem_singleton.mpr rfl) ρ' lv' st' σ' hx ⟨hc'.1, hc'.2.1, hc'.2.2.1, ⟨p9, m1, m2, m3, fun f hf => ?_⟩, hc'.2.2.2.2⟩
            rcases List.mem_cons.mp hf with rfl | hf
            · refine ⟨_, ?_, hD.2.2 hm p9 o _ _ _ _ e3⟩
              simp only [aVs, hx _ _ h2, hx _ _ h1, k1]
            · exact m4 f hf
          next => cases hb
        next => cases hb
      next => cases hb
theorem aNe_ok {Q : State → Prop} {ca sl : Nat} {rm9 : Room} (hcs : ca ≤ rm9.cells ∧ sl ≤ rm9.slots) (hfl : m.2.2.2.1.2.2.2.2.2.2.frames ≤ rm9.frames ∧ m.2.2.2.1.2.2.2.2.2.2.locals ≤ rm9.locals) (hg : ∀ q ∈ m.1.2.2.2.2.1, ∀ G, m.2.2.1[q.2.2]? = some G → jlm m.1.2.1 q.2.1 m.1.1 q.1 G.1.1 = true) (hC : jCl m.1.2.1 m.1.2.2.1) (X : jX E m.1.1 m.1.2.1 m.1.2.2.1 tb nL ini cc M) (hl : M.2.1 = l) (hR : M.2.2.2.1 = rm9) (hG : ∀ G ∈ m.2.2.1, aGd m.1.2.1 G ∧ aMe F l E m.1.2.2.1 tb m.1.2.1 m.2.1.1 K n JX G) (hT : aTB m.2.1.2.1 tb) (hJ : aJx K n m.2.1.2.2.1 JX) (hS : aShf F sh) (hD : aDp F K n m.2.1.2.2.2.2.2.1) (hDT : aDT m.2.1.2.2.2.2.2.1 m.2.1.1 = true) (hE : m.2.1.2.2.2.2.2.2 = ρ0.length) {x : jI} {pc : Nat} (hk : jok m.1.1 m.1.2.1 m.1.2.2.1 tb nL ini cc pc x = true) {S : aS} {L : List (Nat × aS)} (hb : aNe m x pc S = some L) {ρ : List jv} (hx0 : aX ρ0 ρ) {lv : List (Option jv)} {st : List jv} {σ : Nat → jcell} (hc : aCx (aFq F pe) (aHp m.2.1 K n JX ρ0 σ0) K n S ρ lv st σ) (h : aNx (aFq F pe) (aHp m.2.1 K n JX ρ0 σ0) K n (jJ E m.1.2.2.1 nL M Q n ca sl) ρ L) : jJ E m.1.2.2.1 nL M Q n ca sl pc lv st σ := by
  have hk0 := hk
  have hgg := hg
  subst hl
  obtain ⟨I, ln, py⟩ := x
  simp only [jok, Bool.and_eq_true, decide_eq_true_eq] at hk
  obtain ⟨hd, -⟩ := hk
  unfold aNe at hb
  split at hb
  next i hI =>
    dsimp only at hI
    subst hI
    split at hb
    next G hg =>
      split at hb
      next hz =>
        obtain ⟨z0, z1, z2, z3, z4⟩ := hz
        dsimp only at z0
        subst z0
        obtain ⟨⟨g1, g2, g3⟩, g4⟩ := hG G (List.mem_of_getElem? hg)
        rw [if_pos z1] at g3
        obtain ⟨vs, s, ρ1, mm, pc1, rfl, v1, v2, v3, v4, v5, v6⟩ := aCall_ok (aFq_sh hS pe) (aFq_dp hD pe) hDT hE hb hx0 hc
        obtain ⟨n1, n2⟩ := aCall_no hb
        simp only [aRoom, Bool.and_eq_true, decide_eq_true_eq] at z3; replace z3 := And.intro (Nat.le_trans z3.1 hfl.1) (Nat.le_trans z3.2 hfl.2)
        have hM := g4 pc1 σ (aVal ρ1 mm) hc.2.2.2.2.1 hc.2.2.2.2.2.1 v3 ((aFq_mm n1).mp v4)
        rw [v5] at hM
        refine jk_callS (vals := vs.reverse) X hR hd (hgg _ (jin3_ok z2) _ hg) g3.1 g3.2 hM (by rw [List.reverse_reverse]) (by rw [List.length_reverse]; exact v1) z3 (by rw [g1, g2]; exact hcs) (by have q1 := jcat_le s; omega) (fun v σ' n' hp => ?_)
        obtain ⟨rfl, p1, p2, p3, p4, p5, xs, p6, p7, p8⟩ := hp
        rw [g1, g2]
        exact v6 _ v σ' xs h p1 p2 p3 p4 p5 p6 ((aFq_mm n2).mpr p7) p8
      next => cases hb
    next => cases hb
  next i hI =>
    dsimp only at hI
    subst hI
    split at hb
    next G hg =>
      split at hb
      next hz =>
        obtain ⟨z0, z1, z2, z3, z4, z5, z6⟩ := hz
        dsimp only at z0
        subst z0
        obtain ⟨⟨g1, g2, g3⟩, g4⟩ := hG G (List.mem_of_getElem? hg)
        rw [if_neg (by rw [z1]; decide)] at g3
        obtain ⟨vs, s, ρ1, mm, pc1, rfl, v1, v2, v3, v4, v5, v6⟩ := aCall_ok (aFq_sh hS pe) (aFq_dp hD pe) hDT hE hb hx0 hc
        obtain ⟨n1, n2⟩ := aCall_no hb
        simp only [aRoom, Bool.and_eq_true, decide_eq_true_eq] at z3; replace z3 := And.intro (Nat.le_trans z3.1 hfl.1) (Nat.le_trans z3.2 hfl.2)
        have hM := g4 pc1 σ (aVal ρ1 mm) hc.2.2.2.2.1 hc.2.2.2.2.2.1 v3 ((aFq_mm n1).mp v4)
        rw [v5] at hM
        unfold aCs at z5
        split at z5
        next k o es hes =>
          split at z5
          next q hq =>
            split at z5
            next w hw =>
              rw [Bool.and_eq_true, decide_eq_true_eq, decide_eq_true_eq] at z5
              obtain ⟨z5, z9⟩ := z5
              have hln : vs.reverse.length = G.2.2.1 := by rw [List.length_reverse]; exact v1
              cases hv : vs.reverse with
              | nil =>
                rw [hv] at hln
                simp at hln
                omega
              | cons v0 vr =>
                rw [hv] at hM hln v5
                have h0 : (aVal ρ1 mm)[0]? = some v0 := by
                  have : ((aVal ρ1 mm).take G.2.2.1)[0]? = some v0 := by rw [v5]; rfl
                  rw [List.getElem?_take_of_lt (by omega)] at this
                  exact this
                obtain ⟨a, rfl, b1, b2⟩ := aG_obj z9 (v3.2 0 (.inr (some (.inl (false, k))), o) v0 (by rw [hes]; rfl) h0).1
                obtain ⟨fs, e1, -⟩ := aCe_obj (hc.2.2.2.2.1 a b1 _ (by rw [b2]; exact hq))
                refine jk_callV (vals := vr) (k := G.2.2.1 - 1) X hR hd (hgg _ (jin3_ok z2) _ hg) g3.1 g3.2.1 g3.2.2 hw z5 b1 e1 hM ?_ (by simp at hln; omega) z3 (by rw [g1, g2]; exact hcs) (r := s) (by have q1 := jcat_le s; omega) (fun v σ' n' hp => ?_)
                · have e9 : vs = (.inr (.inr (some (.inl a))) :: vr).reverse := by rw [← hv, List.reverse_reverse]
                  rw [e9, List.reverse_cons, List.append_assoc]
                  rfl
                · obtain ⟨rfl, p1, p2, p3, p4, p5, xs, p6, p7, p8⟩ := hp
                  rw [g1, g2]
                  exact v6 _ v σ' xs h p1 p2 p3 p4 p5 p6 ((aFq_mm n2).mpr p7) p8
            next => cases z5
          next => cases z5
        next => cases z5
      next => cases hb
    next => cases hb
  next dflt lo hi offs hI =>
    dsimp only at hI
    subst hI
    split at hb
    next y r hs =>
      obtain ⟨v, s, rfl, h1, h3⟩ := aSk_1 (hs ▸ hc.2.2.1)
      split at hb
      next A hA =>
        obtain ⟨x0, rfl, hx⟩ := aG_int (aTy_ok hc.1 hA h1)
        split at hb
        next hz =>
          cases hb
          obtain ⟨z1, z2, z3⟩ := hz
          have hl := aLi_ok hc.1 h1
          replace hl : aVa ρ (aLi S.2.2.1 y) x0.toInt := hl
          refine jk_tab X hd (offs.toList.map (fun o => ((pc : Int) + o).toNat)) (by rw [List.length_map, Array.length_toList]; exact z1) ?_ (td := ((pc : Int) + dflt).toNat) (by omega) (fun q => ?_) (fun i t ht e => ?_)
          · rw [List.map_map]
            apply List.map_congr_left
            intro o ho
            have := of_decide_eq_true (List.all_eq_true.mp z2 o ho)
            show _ = (((pc : Int) + o).toNat : Int)
            omega
          · rcases q with q | q
            · refine aBs_ok hc h3 (fun f hf => ?_) (aNx_l h)
              rw [List.mem_singleton] at hf
              subst hf
              exact aHd_va.mpr ⟨_, aVa_p (aVa_k _) (aVa_m (-1) hl), by omega⟩
            · refine aBs_ok hc h3 (fun f hf => ?_) (aNx_l (aNx_r h))
              rw [List.mem_singleton] at hf
              subst hf
              exact aHd_va.mpr ⟨_, aVa_p (aVa_k _) hl, by omega⟩
          · exact aTab_ok hc h3 h1 (aNx_r (aNx_r h)) i t ht e
        next => cases hb
      next => cases hb
    next => cases hb
  next dflt ps hI =>
    dsimp only at hI
    subst hI
    split at hb
    next y r hs =>
      obtain ⟨v, s, rfl, h1, h3⟩ := aSk_1 (hs ▸ hc.2.2.1)
      split at hb
      next A hA =>
        obtain ⟨x0, rfl, hx⟩ := aG_int (aTy_ok hc.1 hA h1)
        split at hb
        next hz =>
          cases hb
          obtain ⟨z1, z2, z3⟩ := hz
          refine jk_look X hd z1 (td := ((pc : Int) + dflt).toNat) (by omega) (fun hn => by
            by_cases hk : aKe A ps.toList = true
            · obtain ⟨q, q1, q2⟩ := aKe_ok hk hx
              exact absurd q2 (hn q q1)
            · rw [if_neg hk] at h
              exact aBs_ok hc h3 (fun f hf => by cases hf) (aNx_l h)) (fun q hq e => ⟨((pc : Int) + q.2).toNat, ?_, aLok_ok hc h3 h1 (aNx_r h) q hq e⟩)
          have := of_decide_eq_true (List.all_eq_true.mp z2 q hq)
          omega
        next => cases hb
      next => cases hb
    next => cases hb
  next => exact jstep_ok hC X hk0 (aStq_ok hT hJ (aFq_dp hD pe) hE hb hx0 hc h) (fun _ _ _ h' => h') (fun _ _ _ _ h' => h')
/-- a row of static things -/
theorem aSvp_ok {C : aCf} {J : jN} {S : aS} {r : List Nat} {v : jSv} {p : Nat} {L : List (Nat × aS)} (hb : aSvp S r v p = some L) {ρ : List jv} {lv : List (Option jv)} {st st0 : List jv} {σ : Nat → jcell} (hc : aCx F (aHp C K n JX ρ0 σ0) K n S ρ lv st0 σ) (hs : aSk ρ r st) (h : aNx F (aHp C K n JX ρ0 σ0) K n J ρ L) : J p lv (jSw v :: st) σ := by
  unfold aSvp at hb
  split at hb
  next x =>
    cases hb
    exact aPu_ok (t := .inl (x.toInt, x.toInt)) (r := some ([], x.toInt)) (v := .inl x) hc hs ⟨Int.le_refl _, Int.le_refl _⟩ (aVa_k _) h
  next j =>
    split at hb
    next hj =>
      cases hb
      exact aPu_ok (t := .inr (some (.inr j))) (r := none) (v := .inr (.inr (some (.inr j)))) hc hs (aG_st hj) trivial h
    next => cases hb
theorem aSpv_ok {Q : State → Prop} {ca sl : Nat} {rm9 : Room} (hcs : ca ≤ rm9.cells ∧ sl ≤ rm9.slots) (hfl : m.2.2.2.1.2.2.2.2.2.2.frames ≤ rm9.frames ∧ m.2.2.2.1.2.2.2.2.2.2.locals ≤ rm9.locals) (hg : ∀ q ∈ m.1.2.2.2.2.1, ∀ G, m.2.2.1[q.2.2]? = some G → jlm m.1.2.1 q.2.1 m.1.1 q.1 G.1.1 = true) (X : jX E m.1.1 m.1.2.1 m.1.2.2.1 tb nL ini cc M) (hl : M.2.1 = l) (hR : M.2.2.2.1 = rm9) (hG : ∀ G ∈ m.2.2.1, aGd m.1.2.1 G ∧ aMe F l E m.1.2.2.1 tb m.1.2.1 m.2.1.1 K n JX G) (hS : aShf F sh) (hD : aDp F K n m.2.1.2.2.2.2.2.1) (hDT : aDT m.2.1.2.2.2.2.2.1 m.2.1.1 = true) (hE : m.2.1.2.2.2.2.2.2 = ρ0.length) {x : jI} {pc i kk : Nat} (hd : decode cc pc = .ok (.invokevirtual i, x.2.1)) {S : aS} {L : List (Nat × aS)} (hb : aSpv m x pc S i kk = some L) {ρ : List jv} (hx0 : aX ρ0 ρ) {lv : List (Option jv)} {st : List jv} {σ : Nat → jcell} (hc : aCx (aFq F pe) (aHp m.2.1 K n JX ρ0 σ0) K n S ρ lv st σ) (h : aNx (aFq F pe) (aHp m.2.1 K n JX ρ0 σ0) K n (jJ E m.1.2.2.1 nL M Q n ca sl) ρ L) : jJ E m.1.2.2.1 nL M Q n ca sl pc lv st σ := by
  subst hl
  obtain ⟨I, ln, py⟩ := x
  unfold aSpv at hb
  split at hb
  next G hg1 =>
    split at hb
    next hz =>
      obtain ⟨z0, z1, z2, z3, z4, z5, z6⟩ := hz
      dsimp only at z0
      subst z0
      obtain ⟨⟨g1, g2, g3⟩, g4⟩ := hG G (List.mem_of_getElem? hg1)
      rw [if_neg (by rw [z1]; decide)] at g3
      obtain ⟨vs, s, ρ1, mm, pc1, rfl, v1, v2, v3, v4, v5, v6⟩ := aCall_ok (aFq_sh hS pe) (aFq_dp hD pe) hDT hE hb hx0 hc
      obtain ⟨n1, n2⟩ := aCall_no hb
      simp only [aRoom, Bool.and_eq_true, decide_eq_true_eq] at z3; replace z3 := And.intro (Nat.le_trans z3.1 hfl.1) (Nat.le_trans z3.2 hfl.2)
      have hM := g4 pc1 σ (aVal ρ1 mm) hc.2.2.2.2.1 hc.2.2.2.2.2.1 v3 ((aFq_mm n1).mp v4)
      rw [v5] at hM
      unfold aSrc at z5
      split at z5
      next k o es hes =>
        have hln : vs.reverse.length = G.2.2.1 := by rw [List.length_reverse]; exact v1
        cases hv : vs.reverse with
        | nil =>
          rw [hv] at hln
          simp at hln
          omega
        | cons v0 vr =>
          rw [hv] at hM hln v5
          have h0 : (aVal ρ1 mm)[0]? = some v0 := by
            have : ((aVal ρ1 mm).take G.2.2.1)[0]? = some v0 := by rw [v5]; rfl
            rw [List.getElem?_take_of_lt (by omega)] at this
            exact this
          obtain ⟨a, rfl, b1, b2⟩ := aG_rng (v3.2 0 (.inr (some (.inr k)), o) v0 (by rw [hes]; rfl) h0).1
          obtain ⟨ob, ob1, rfl, ob3⟩ : ∃ ob ∈ js0.1, ob.1 = a ∧ ob.2.1 = G.1.1.cls := by
            simp only [Bool.or_eq_true, Bool.and_eq_true, decide_eq_true_eq] at z5
            rcases z5 with ⟨y1, y2, y3⟩ | ⟨y1, y2, y3⟩
            · rw [y3]; exact js_cl_ok js_s (by omega) (by omega)
            · rw [y3]; exact js_cl_ok js_c (by omega) (by omega)
          refine jk_callVs (vals := vr) (k := G.2.2.1 - 1) X hR hd (hg _ (jin3_ok z2) _ hg1) g3.1 g3.2.1 g3.2.2 ob1 ob3 hM ?_ (by simp at hln; omega) z3 (by rw [g1, g2]; exact hcs) (r := s) (by have q1 := jcat_le s; omega) (fun v σ' n' hp => ?_)
          · have e9 : vs = (.inr (.inr (some (.inr ob.1))) :: vr).reverse := by rw [← hv, List.reverse_reverse]
            rw [e9, List.reverse_cons, List.append_assoc]
            rfl
          · obtain ⟨rfl, p1, p2, p3, p4, p5, xs, p6, p7, p8⟩ := hp
            rw [g1, g2]
            exact v6 _ v σ' xs h p1 p2 p3 p4 p5 p6 ((aFq_mm n2).mpr p7) p8
      next => cases z5
    next => cases hb
  next => cases hb
theorem aFw_mo {mk : List (Nat × aF)} {ρ1 : List jv} {a i j : Nat} (h : aFw K mk ρ1 a i) (hj : j ≤ i) : aFw K mk ρ1 a j := fun q hq hk => by
  obtain ⟨z, h1, h2⟩ := h q hq hk
  exact ⟨z, h1, by omega⟩
theorem aFa_lgs {mk : List (Nat × aF)} {σ : Nat → jcell} (h : aFa K n mk ρ0 σ0 σ) {a : Nat} {ty : FieldType} {m : Nat} {g g2 : Nat → Int64} (hy : σ a = .inl (ty, m, .inr (.inl g))) (hw : ∀ i, aFw K mk ρ0 a i → g2 i = g i) : aFa K n mk ρ0 σ0 (jup σ a (.inl (ty, m, .inr (.inl g2)))) := by
  intro b hb
  obtain ⟨h1, h2⟩ := h b hb
  by_cases e : b = a
  · subst e
    refine ⟨fun ty9 m9 g9 h0 => ?_, fun ty9 m9 g9 h0 => ?_⟩
    · obtain ⟨g', e1, e2⟩ := h1 ty9 m9 g9 h0
      rw [hy] at e1
      cases e1
    · obtain ⟨g', e1, e2⟩ := h2 ty9 m9 g9 h0
      rw [hy] at e1
      cases e1
      exact ⟨_, jup_s, fun j hj => by rw [hw j hj]; exact e2 j hj⟩
  · rw [jup_n e]
    exact ⟨h1, h2⟩
theorem aCpy_ok {Q : State → Prop} {ca sl : Nat} {own : String} {Ts : List Jvm.Cond} {cl : List vw_C} {C : aCf} {rm rm9 : Room} (hfl : rm.frames ≤ rm9.frames ∧ rm.locals ≤ rm9.locals) (X : jX E own Ts cl tb nL ini cc M) (hR : M.2.2.2.1 = rm9) (hJ : aJx K n C.2.2.1 JX) (hD : aDp F K n C.2.2.2.2.2.1) (hE : C.2.2.2.2.2.2 = ρ0.length) {pc i : Nat} (hd : decode cc pc = .ok (.invokestatic i, 3)) (hq : Jvm.Cond.methodLink own i arraycopyName ∈ jTA Ts ∧ Jvm.Cond.native arraycopyName ∈ jTA Ts ∧ Jvm.Cond.static arraycopyName ∈ jTA Ts ∧ Jvm.Cond.initialized "java/lang/System" ∈ jTA Ts) {S : aS} {L : List (Nat × aS)} (hb : aCpy C rm S (pc + 3) = some L) {ρ : List jv} (hx0 : aX ρ0 ρ) {lv : List (Option jv)} {st : List jv} {σ : Nat → jcell} (hc : aCx F (aHp C K n JX ρ0 σ0) K n S ρ lv st σ) (h : aNx F (aHp C K n JX ρ0 σ0) K n (jJ E cl nL M Q n ca sl) ρ L) : jJ E cl nL M Q n ca sl pc lv st σ := by
  unfold aCpy at hb
  split at hb
  next k dp d sp a r hs =>
    obtain ⟨v1, v2, s1, rfl, h1, h2, h3⟩ := aSk_2 (hs ▸ hc.2.2.1)
    obtain ⟨v3, v4, s2, rfl, h4, h5, h6⟩ := aSk_2 h3
    obtain ⟨v5, s3, rfl, h7, h8⟩ := aSk_1 h6
    split at hb
    next A B D qd qa hA hB hDD hqd hqa =>
      split at hb
      next hz =>
        cases hb
        obtain ⟨z1, z2, z3, z4, z5, z6, z7, z8, z9, z10, z11, z12⟩ := hz
        rw [decide_eq_true_eq] at z1 z2
        obtain ⟨k0, rfl, hk0⟩ := aIv_ok hc.1 hA h1
        obtain ⟨d0, rfl, hd0⟩ := aIv_ok hc.1 hB h2
        obtain ⟨s0, rfl, hs0⟩ := aIv_ok hc.1 hDD h5
        obtain ⟨bd, rfl, l1, l2, l3, l4⟩ := aAr_ok hc.1 hc.2.2.2.2.1 hqd h4
        obtain ⟨ba, rfl, l5, l6, l7, l8⟩ := aAr_ok hc.1 hc.2.2.2.2.1 hqa h7
        obtain ⟨g, e1⟩ := aCe_larr l4 z1
        obtain ⟨f, e2⟩ := aCe_larr l8 z2
        rw [z1] at e1
        rw [z2] at e2
        obtain ⟨p9, m1, m2, m3, m4⟩ := hc.2.2.2.1
        have i1 := aLi_ok hc.1 h1
        have i2 := aLi_ok hc.1 h2
        have i3 := aLi_ok hc.1 h5
        have u1 := aPr_ok hc.1 m3 z6 (aVa_p (aVa_k _) (aVa_p (aVa_m (-1) i3) (aVa_m (-1) i1)))
        have u2 := aPr_ok hc.1 m3 z7 (aVa_p (aVa_k _) (aVa_p (aVa_m (-1) i2) (aVa_m (-1) i1)))
        replace u1 : 0 ≤ (qa.2.2.1 : Int) + (-1 * s0.toInt + -1 * k0.toInt) := u1
        replace u2 : 0 ≤ (qd.2.2.1 : Int) + (-1 * d0.toInt + -1 * k0.toInt) := u2
        have y1 := hk0.1
        have y2 := hd0.1
        have y3 := hs0.1
        have n1 : k0.toInt = (k0.toNatClampNeg : Int) := by show k0.toInt = ((k0.toInt.toNat : Nat) : Int); omega
        have n2 : d0.toInt = (d0.toNatClampNeg : Int) := by show d0.toInt = ((d0.toInt.toNat : Nat) : Int); omega
        have n3 : s0.toInt = (s0.toNatClampNeg : Int) := by show s0.toInt = ((s0.toInt.toNat : Nat) : Int); omega
        obtain ⟨p1, p2, p3, p4⟩ := hc.2.2.2.2
        have hi2 : aVa ρ (aLi S.2.2.1 dp) (d0.toNatClampNeg : Int) := by rw [← n2]; exact i2
        have hw := aWr_ok hc.1 hx0 hE m3 (by rw [← l2] at z9; exact z9) hi2
        have lt : ∀ z : Int32, 0 ≤ z.toInt → ¬ z < 0 := fun z hz => by
          intro h9
          have := Int32.lt_iff_toInt_lt.mp h9
          have e0 : (0 : Int32).toInt = 0 := rfl
          omega
        refine jk_acl X hR hd hq.1 hq.2.1 hq.2.2.1 hq.2.2.2 l5 e2 l1 e1 (lt _ (by omega)) (lt _ (by omega)) (lt _ (by omega)) (by omega) (by omega) (Nat.le_trans z11 hfl.1) (by have q1 := jcat_le s3; have q2 := aSk_len h8; omega) (Nat.le_trans z12 hfl.2) ?_
        refine aNx_in h List.mem_cons_self aX_rf ⟨hc.1, hc.2.1, h8, ⟨p9, aCa_arr m1 e1, by rw [← l2]; exact aCk_ok hc.1 m2, m3, by rw [← l2]; exact aFkl_ok hD m4⟩, aH_up p1 (fun dd hdd => ?_), (hJ _ _ l1 p2).1 _ (by rw [l2]; exact z8), aFr_arr p3 e1, aFa_lgs p4 e1 (fun j hj => ?_)⟩
        · rw [l3] at hdd
          cases hdd
          exact ⟨z1.symm, rfl, z1⟩
        · unfold va_cpy
          rw [if_neg (fun hh => hw (aFw_mo hj hh.1))]
      next => cases hb
    next => cases hb
  next => cases hb
theorem aFa_igs {mk : List (Nat × aF)} {σ : Nat → jcell} (h : aFa K n mk ρ0 σ0 σ) {a : Nat} {ty : FieldType} {m : Nat} {g g2 : Nat → Int32} (hy : σ a = .inl (ty, m, .inl g)) (hw : ∀ i, aFw K mk ρ0 a i → g2 i = g i) : aFa K n mk ρ0 σ0 (jup σ a (.inl (ty, m, .inl g2))) := by
  intro b hb
  obtain ⟨h1, h2⟩ := h b hb
  by_cases e : b = a
  · subst e
    refine ⟨fun ty9 m9 g9 h0 => ?_, fun ty9 m9 g9 h0 => ?_⟩
    · obtain ⟨g', e1, e2⟩ := h1 ty9 m9 g9 h0
      rw [hy] at e1
      cases e1
      exact ⟨_, jup_s, fun j hj => by rw [hw j hj]; exact e2 j hj⟩
    · obtain ⟨g', e1, e2⟩ := h2 ty9 m9 g9 h0
      rw [hy] at e1
      cases e1
  · rw [jup_n e]
    exact ⟨h1, h2⟩
theorem aCpb_ok {Q : State → Prop} {ca sl : Nat} {own : String} {Ts : List Jvm.Cond} {cl : List vw_C} {C : aCf} {rm rm9 : Room} (hfl : rm.frames ≤ rm9.frames ∧ rm.locals ≤ rm9.locals) (X : jX E own Ts cl tb nL ini cc M) (hR : M.2.2.2.1 = rm9) (hJ : aJx K n C.2.2.1 JX) (hD : aDp F K n C.2.2.2.2.2.1) (hE : C.2.2.2.2.2.2 = ρ0.length) {pc i : Nat} (hd : decode cc pc = .ok (.invokestatic i, 3)) (hq : Jvm.Cond.methodLink own i arraycopyName ∈ jTA Ts ∧ Jvm.Cond.native arraycopyName ∈ jTA Ts ∧ Jvm.Cond.static arraycopyName ∈ jTA Ts ∧ Jvm.Cond.initialized "java/lang/System" ∈ jTA Ts) {S : aS} {L : List (Nat × aS)} (hb : aCpb C rm S (pc + 3) = some L) {ρ : List jv} (hx0 : aX ρ0 ρ) {lv : List (Option jv)} {st : List jv} {σ : Nat → jcell} (hc : aCx F (aHp C K n JX ρ0 σ0) K n S ρ lv st σ) (h : aNx F (aHp C K n JX ρ0 σ0) K n (jJ E cl nL M Q n ca sl) ρ L) : jJ E cl nL M Q n ca sl pc lv st σ := by
  unfold aCpb at hb
  split at hb
  next k dp d sp a r hs =>
    obtain ⟨v1, v2, s1, rfl, h1, h2, h3⟩ := aSk_2 (hs ▸ hc.2.2.1)
    obtain ⟨v3, v4, s2, rfl, h4, h5, h6⟩ := aSk_2 h3
    obtain ⟨v5, s3, rfl, h7, h8⟩ := aSk_1 h6
    split at hb
    next A B D qd qa hA hB hDD hqd hqa =>
      split at hb
      next hz =>
        cases hb
        obtain ⟨z1, z2, za, zb, zc, z3, z4, z5, z6, z7, z8, z9, z10, z11, z12⟩ := hz
        rw [decide_eq_true_eq] at z1 z2
        obtain ⟨k0, rfl, hk0⟩ := aIv_ok hc.1 hA h1
        obtain ⟨d0, rfl, hd0⟩ := aIv_ok hc.1 hB h2
        obtain ⟨s0, rfl, hs0⟩ := aIv_ok hc.1 hDD h5
        obtain ⟨bd, rfl, l1, l2, l3, l4⟩ := aAr_ok hc.1 hc.2.2.2.2.1 hqd h4
        obtain ⟨ba, rfl, l5, l6, l7, l8⟩ := aAr_ok hc.1 hc.2.2.2.2.1 hqa h7
        obtain ⟨g, e1, w1⟩ := aCe_arr l4 (by rw [z1]; intro h; cases h)
        obtain ⟨f, e2, w2⟩ := aCe_arr l8 (by rw [z2]; intro h; cases h)
        rw [z1] at e1
        rw [z2] at e2
        obtain ⟨p9, m1, m2, m3, m4⟩ := hc.2.2.2.1
        have i1 := aLi_ok hc.1 h1
        have i2 := aLi_ok hc.1 h2
        have i3 := aLi_ok hc.1 h5
        have u1 := aPr_ok hc.1 m3 z6 (aVa_p (aVa_k _) (aVa_p (aVa_m (-1) i3) (aVa_m (-1) i1)))
        have u2 := aPr_ok hc.1 m3 z7 (aVa_p (aVa_k _) (aVa_p (aVa_m (-1) i2) (aVa_m (-1) i1)))
        replace u1 : 0 ≤ (qa.2.2.1 : Int) + (-1 * s0.toInt + -1 * k0.toInt) := u1
        replace u2 : 0 ≤ (qd.2.2.1 : Int) + (-1 * d0.toInt + -1 * k0.toInt) := u2
        have y1 := hk0.1
        have y2 := hd0.1
        have y3 := hs0.1
        have n1 : k0.toInt = (k0.toNatClampNeg : Int) := by show k0.toInt = ((k0.toInt.toNat : Nat) : Int); omega
        have n2 : d0.toInt = (d0.toNatClampNeg : Int) := by show d0.toInt = ((d0.toInt.toNat : Nat) : Int); omega
        have n3 : s0.toInt = (s0.toNatClampNeg : Int) := by show s0.toInt = ((s0.toInt.toNat : Nat) : Int); omega
        obtain ⟨p1, p2, p3, p4⟩ := hc.2.2.2.2
        have hi2 : aVa ρ (aLi S.2.2.1 dp) (d0.toNatClampNeg : Int) := by rw [← n2]; exact i2
        have hw := aWr_ok hc.1 hx0 hE m3 (by rw [← l2] at z9; exact z9) hi2
        have lt : ∀ z : Int32, 0 ≤ z.toInt → ¬ z < 0 := fun z hz => by
          intro h9
          have := Int32.lt_iff_toInt_lt.mp h9
          have e0 : (0 : Int32).toInt = 0 := rfl
          omega
        refine jk_acb X hR hd hq.1 hq.2.1 hq.2.2.1 hq.2.2.2 l5 e2 l1 e1 (lt _ (by omega)) (lt _ (by omega)) (lt _ (by omega)) (by omega) (by omega) (fun j hj => aSb_ok za (w2 _ (by omega)).1) (Nat.le_trans z11 hfl.1) (by have q1 := jcat_le s3; have q2 := aSk_len h8; omega) (Nat.le_trans z12 hfl.2) ?_
        refine aNx_in h List.mem_cons_self aX_rf ⟨hc.1, hc.2.1, h8, ⟨p9, aCa_arr m1 e1, by rw [← l2]; exact aCk_ok hc.1 m2, m3, by rw [← l2]; exact aFkl_ok hD m4⟩, aH_up p1 (fun dd hdd => ?_), (hJ _ _ l1 p2).1 _ (by rw [l2]; exact z8), aFr_arr p3 e1, aFa_igs p4 e1 (fun j hj => ?_)⟩
        · rw [l3] at hdd
          cases hdd
          refine ⟨z1.symm, rfl, (by intro h9; rw [z1] at h9; cases h9), fun j hj => ⟨?_, fun q9 hq9 => ?_⟩⟩
          · unfold va_cpy
            split
            next hh => exact aSb_ok zb (w2 _ (by omega)).1
            next => exact (w1 j hj).1
          · have e9 := List.isEmpty_iff.mp zc
            rw [e9] at hq9
            cases hq9
        · unfold va_cpy
          rw [if_neg (fun hh => hw (aFw_mo hj hh.1))]
      next => cases hb
    next => cases hb
  next => cases hb
theorem aSpe_ok {Q : State → Prop} {ca sl : Nat} {rm9 : Room} (hcs : ca ≤ rm9.cells ∧ sl ≤ rm9.slots) (hfl : m.2.2.2.1.2.2.2.2.2.2.frames ≤ rm9.frames ∧ m.2.2.2.1.2.2.2.2.2.2.locals ≤ rm9.locals) (hsp : ∀ q ∈ m.1.2.2.2.2.2.1, aSpP m.1.1 m.1.2.1 q) (hg : ∀ q ∈ m.1.2.2.2.2.1, ∀ G, m.2.2.1[q.2.2]? = some G → jlm m.1.2.1 q.2.1 m.1.1 q.1 G.1.1 = true) (hC : jCl m.1.2.1 m.1.2.2.1) (X : jX E m.1.1 m.1.2.1 m.1.2.2.1 tb nL ini cc M) (hl : M.2.1 = l) (hR : M.2.2.2.1 = rm9) (hG : ∀ G ∈ m.2.2.1, aGd m.1.2.1 G ∧ aMe F l E m.1.2.2.1 tb m.1.2.1 m.2.1.1 K n JX G) (hT : aTB m.2.1.2.1 tb) (hJ : aJx K n m.2.1.2.2.1 JX) (hS : aShf F sh) (hD : aDp F K n m.2.1.2.2.2.2.2.1) (hDT : aDT m.2.1.2.2.2.2.2.1 m.2.1.1 = true) (hE : m.2.1.2.2.2.2.2.2 = ρ0.length) {x : jI} {pc : Nat} (hd : decode cc pc = .ok (x.1, x.2.1)) {S : aS} {L : List (Nat × aS)} (hb : aSpe m x pc S = some L) {ρ : List jv} (hx0 : aX ρ0 ρ) {lv : List (Option jv)} {st : List jv} {σ : Nat → jcell} (hc : aCx (aFq F pe) (aHp m.2.1 K n JX ρ0 σ0) K n S ρ lv st σ) (h : aNx (aFq F pe) (aHp m.2.1 K n JX ρ0 σ0) K n (jJ E m.1.2.2.1 nL M Q n ca sl) ρ L) : jJ E m.1.2.2.1 nL M Q n ca sl pc lv st σ := by
  subst hl
  obtain ⟨I, ln, py⟩ := x
  unfold aSpe at hb
  split at hb
  next i hI =>
    dsimp only at hI
    subst hI
    split at hb
    next v hv =>
      split at hb
      next e =>
        dsimp only at e
        subst e
        obtain ⟨tx, j, e1, e2⟩ := (hsp _ (aSpf_ok hv)).1 rfl
        dsimp only at e1
        subst e1
        exact jk_lds X hd e2 (aSvp_ok hb hc hc.2.2.1 h)
      next => cases hb
    next => cases hb
  next i hI =>
    dsimp only at hI
    subst hI
    split at hb
    next e =>
      dsimp only at e
      subst e
      split at hb
      next v hv =>
        obtain ⟨tx, j, e1, e2⟩ := (hsp _ (aSpf_ok hv)).2.1 rfl
        dsimp only at e1
        subst e1
        exact jk_ldx X hd e2 (aSvp_ok hb hc hc.2.2.1 h)
      next =>
        split at hb
        next v hv =>
          obtain ⟨w, e1, e2⟩ := (hsp _ (aSpf_ok hv)).2.2.1 rfl
          dsimp only at e1
          subst e1
          exact jk_ldw X hd e2 (aSvp_ok hb hc hc.2.2.1 h)
        next => cases hb
    next => cases hb
  next i hI =>
    dsimp only at hI
    subst hI
    split at hb
    next v hv =>
      split at hb
      next e =>
        dsimp only at e
        subst e
        obtain ⟨z, z1, z2, z3⟩ := (hsp _ (aSpf_ok hv)).2.2.2.1 rfl
        dsimp only at z2 z3
        subst z2
        exact jk_gsv X hd z1 z3 (aSvp_ok hb hc hc.2.2.1 h)
      next => cases hb
    next => cases hb
  next i hI =>
    dsimp only at hI
    subst hI
    split at hb
    next e =>
      dsimp only at e
      subst e
      split at hb
      next a r hs =>
        obtain ⟨w, s, rfl, h1, h2⟩ := aSk_1 (hs ▸ hc.2.2.1)
        split at hb
        next j hA =>
          split at hb
          next hj =>
            split at hb
            next v hv =>
              obtain rfl := aG_tab hj (aTy_ok hc.1 hA h1)
              obtain ⟨o, o1, f, f1, f2, f3, f4⟩ := (hsp _ (aSpf_ok hv)).2.2.2.2.1 rfl
              dsimp only at f2 f3 f4
              subst f2
              subst f3
              exact jk_gfo X hd o1 f1 f4 (aSvp_ok hb hc h2 h)
            next => cases hb
          next => cases hb
        next => cases hb
      next => cases hb
    next => cases hb
  next hI =>
    dsimp only at hI
    subst hI
    split at hb
    next e =>
      dsimp only at e
      subst e
      split at hb
      next i a r hs =>
        obtain ⟨v1, s1, rfl, h1, h2⟩ := aSk_1 (hs ▸ hc.2.2.1)
        obtain ⟨v2, s2, rfl, h3, h4⟩ := aSk_1 h2
        split at hb
        next A j hA hB =>
          split at hb
          next hj =>
            split at hb
            next q hq =>
              split at hb
              next hz =>
                obtain rfl := aG_tab hj (aTy_ok hc.1 hB h3)
                obtain ⟨y, rfl, hy⟩ := aG_int (aTy_ok hc.1 hA h1)
                obtain ⟨q1, rfl⟩ := aSrf_ok hq
                obtain ⟨k1, k2⟩ := aIx_ok hy hz.1 hz.2
                split at hb
                next ee =>
                  have e9 : A.1.toNat = y.toNatClampNeg := by
                    obtain ⟨y1, y2⟩ := hy
                    show _ = y.toInt.toNat
                    omega
                  rw [e9] at hb
                  exact jk_aal X hd q1 k1 (aSvp_ok hb hc h4 h)
                next =>
                  split at hb
                  next ha =>
                    cases hb
                    have h9 := List.all_eq_true.mp ha _ (List.mem_range.mpr k2)
                    rw [Bool.and_eq_true, decide_eq_true_eq, decide_eq_true_eq] at h9
                    exact jk_aal X hd q1 k1 (aPu_ok (t := .inr (some (.inr py.2.1))) (r := none) (v := .inr (.inr (some (.inr (q.2.2.2 y.toNatClampNeg))))) hc h4 h9 trivial h)
                  next => cases hb
              next => cases hb
            next => cases hb
          next => cases hb
        next => cases hb
      next => cases hb
    next => cases hb
  next hI =>
    dsimp only at hI
    subst hI
    split at hb
    next e =>
      dsimp only at e
      subst e
      split at hb
      next a r hs =>
        obtain ⟨w, s, rfl, h1, h2⟩ := aSk_1 (hs ▸ hc.2.2.1)
        split at hb
        next j hA =>
          split at hb
          next hj =>
            split at hb
            next q hq =>
              obtain rfl := aG_tab hj (aTy_ok hc.1 hA h1)
              obtain ⟨q1, rfl⟩ := aSrf_ok hq
              exact jk_alr X hd q1 (aSvp_ok hb hc h2 h)
            next =>
              split at hb
              next q hq =>
                obtain rfl := aG_tab hj (aTy_ok hc.1 hA h1)
                obtain ⟨q1, rfl⟩ := aSro_ok hq
                exact jk_aln X hd q1 (aSvp_ok hb hc h2 h)
              next => cases hb
          next => cases hb
        next => cases hb
      next => cases hb
    next => cases hb
  next hI =>
    dsimp only at hI
    subst hI
    split at hb
    next e =>
      dsimp only at e
      subst e
      split at hb
      next i a r hs =>
        obtain ⟨v1, s1, rfl, h1, h2⟩ := aSk_1 (hs ▸ hc.2.2.1)
        obtain ⟨v2, s2, rfl, h3, h4⟩ := aSk_1 h2
        split at hb
        next A j hA hB =>
          split at hb
          next hj =>
            split at hb
            next q hq =>
              split at hb
              next hz =>
                obtain rfl := aG_tab hj (aTy_ok hc.1 hB h3)
                obtain ⟨y, rfl, hy⟩ := aG_int (aTy_ok hc.1 hA h1)
                obtain ⟨q1, rfl⟩ := aSro_ok hq
                obtain ⟨p9, m1, m2, m3, m4⟩ := hc.2.2.2.1
                obtain ⟨k1, k2, -⟩ := aBd_ok hc.1 m3 hz (aLi_ok hc.1 h1)
                have b1 := of_decide_eq_true (List.all_eq_true.mp js_by _ q1)
                split at hb
                next ee =>
                  have e9 : A.1.toNat = y.toNatClampNeg := by
                    obtain ⟨y1, y2⟩ := hy
                    show _ = y.toInt.toNat
                    omega
                  rw [e9] at hb
                  exact jk_bal X hd q1 b1 k1 (aSvp_ok hb hc h4 h)
                cases hb
                have b2 := List.all_eq_true.mp (List.all_eq_true.mp js_bt _ q1) _ (List.mem_range.mpr k2)
                rw [Bool.and_eq_true, decide_eq_true_eq, decide_eq_true_eq] at b2
                exact jk_bal X hd q1 b1 k1 (aPu_ok (t := .inl (0, 127)) (r := none) (v := .inl (q.2.2.2 y.toNatClampNeg)) hc h4 b2 trivial h)
              next => cases hb
            next => cases hb
          next => cases hb
        next => cases hb
      next => cases hb
    next => cases hb
  next i hI =>
    dsimp only at hI
    subst hI
    split at hb
    next v hv =>
      split at hb
      next e =>
        dsimp only at e
        subst e
        split at hb
        next L9 hL9 =>
          cases hb
          exact aCpy_ok hfl X hR hJ (aFq_dp hD pe) hE hd ((hsp _ (aSpf_ok hv)).2.2.2.2.2 rfl) hL9 hx0 hc h
        next => exact aCpb_ok hfl X hR hJ (aFq_dp hD pe) hE hd ((hsp _ (aSpf_ok hv)).2.2.2.2.2 rfl) hb hx0 hc h
      next => cases hb
    next =>
      obtain ⟨k, hb⟩ := aTry_ok hb
      exact aNe_ok hcs hfl hg hC X rfl hR hG hT hJ hS hD hDT hE (by unfold jok; rw [Bool.and_eq_true]; exact ⟨decide_eq_true hd, rfl⟩) hb hx0 hc h
  next i hI =>
    dsimp only at hI
    subst hI
    obtain ⟨k, hb⟩ := aTry_ok hb
    split at hb
    next L9 hL9 =>
      cases hb
      exact aNe_ok hcs hfl hg hC X rfl hR hG hT hJ hS hD hDT hE (by unfold jok; rw [Bool.and_eq_true]; exact ⟨decide_eq_true hd, rfl⟩) hL9 hx0 hc h
    next => exact aSpv_ok hcs hfl hg X rfl hR hG hS hD hDT hE hd hb hx0 hc h
  next => cases hb
theorem aPcs_ok {C : aCf} {J : jN} {S : aS} {x pc : Nat} {ρ : List jv} {lv : List (Option jv)} {st : List jv} {σ : Nat → jcell} (hc : aCx F (aHp C K n JX ρ0 σ0) K n S ρ lv st σ) {y : Int32} (hy : ρ[x]? = some (.inl y)) : ∀ {pts : List Int} {lo : Option Int}, (∀ l, lo = some l → l ≤ y.toInt) → aNx F (aHp C K n JX ρ0 σ0) K n J ρ (aPcs S x pc pts lo) → J pc lv st σ := by
  have hl := aLi_ok hc.1 hy
  replace hl : aVa ρ (aLi S.2.2.1 x) y.toInt := hl
  have low : ∀ {lo : Option Int}, (∀ l, lo = some l → l ≤ y.toInt) → ∀ f ∈ aLow S.2.2.1 x lo, aHd ρ f := by
    intro lo h f hf
    unfold aLow at hf
    split at hf
    next => cases hf
    next l =>
      rw [List.mem_singleton] at hf
      subst hf
      have := h l rfl
      exact aHd_va.mpr ⟨_, aVa_p (aVa_k _) hl, by omega⟩
  intro pts
  induction pts with
  | nil => exact fun h1 h2 => aBs_ok hc hc.2.2.1 (low h1) h2
  | cons p r ih =>
    intro lo h1 h2
    unfold aPcs at h2
    by_cases hp : p ≤ y.toInt
    · exact ih (fun l e => by cases e; exact hp) (aNx_r h2)
    · refine aBs_ok hc hc.2.2.1 (fun f hf => ?_) (aNx_l h2)
      rcases List.mem_cons.mp hf with rfl | hf
      · exact aHd_va.mpr ⟨_, aVa_p (aVa_k _) (aVa_m (-1) hl), by omega⟩
      · exact low h1 f hf
theorem aNe3_ok {C : aCf} {J : jN} {x : jI} {pc : Nat} (hst : ∀ (S : aS) (L : List (Nat × aS)) (ρ : List jv) (lv : List (Option jv)) (st : List jv) (σ : Nat → jcell), aNe2 m x pc S = some L → aX ρ0 ρ → aCx F (aHp C K n JX ρ0 σ0) K n S ρ lv st σ → aNx F (aHp C K n JX ρ0 σ0) K n J ρ L → J pc lv st σ) {S : aS} {L : List (Nat × aS)} (hb : aNe3 m x pc S = some L) {ρ : List jv} (hx0 : aX ρ0 ρ) {lv : List (Option jv)} {st : List jv} {σ : Nat → jcell} (hc : aCx F (aHp C K n JX ρ0 σ0) K n S ρ lv st σ) (h : aNx F (aHp C K n JX ρ0 σ0) K n J ρ L) : J pc lv st σ := by
  unfold aNe3 at hb
  split at hb
  next => exact hst S L ρ lv st σ hb hx0 hc h
  next w hw =>
    split at hb
    next k hk =>
      split at hb
      next A hA =>
        have hkl : k < ρ.length := by
          unfold aTy at hA
          split at hA
          next e1 he1 => rw [hc.1.1]; exact (List.getElem?_eq_some_iff.mp he1).1
          next => cases hA
        have hv : ρ[k]? = some (ρ[k]'hkl) := List.getElem?_eq_getElem hkl
        obtain ⟨y, hy, -⟩ := aG_int (aTy_ok hc.1 hA hv)
        rw [hy] at hv
        refine aPcs_ok hc hv (pts := w.2) (lo := none) (fun l e => by cases e) (fun q hq ρ' lv' st' σ' hx hc' => ?_)
        obtain ⟨Lq, e1, e2⟩ := aCat_ok hb q hq
        rw [aPcs_pc q hq]
        exact hst q.2 Lq ρ' lv' st' σ' e1 (hx0.tr hx) hc' (fun z hz ρ2 lv2 st2 σ2 hx2 hc2 => h z (e2 z hz) ρ2 lv2 st2 σ2 (hx.tr hx2) hc2)
      next => cases hb
    next => cases hb
/-- a rule of what is known; it may bring new names (xs) -/
noncomputable def aGho {P : Type} (F : aFt P) (T : List aKd) (K : Nat → Nat) (n : Nat) (JX : (Nat → jcell) → Prop) (G : aCon) : Prop := ∀ (p : P) (σ : Nat → jcell) (ρ : List jv), aH T K n σ → JX σ → aR K n G.2.2.2.1.1 ρ → aMm F p ρ σ G.2.2.2.1.2 → ∃ (p' : P) (xs : List jv), (G.2.2.2.2.2.1.1.isEmpty = true → p' = p) ∧ aR K n (aPe G) (ρ ++ xs) ∧ aMm F p' (ρ ++ xs) σ G.2.2.2.2.1.2.2.1 ∧ ∃ A ∈ G.2.2.2.2.1.2.2.2, ∀ f ∈ A, aHd (ρ ++ xs) f
theorem aGho_of {P : Type} {F : aFt P} {T : List aKd} {K : Nat → Nat} {n : Nat} {JX : (Nat → jcell) → Prop} {G : aCon} (h1 : G.2.2.2.2.1.1 = none ∧ G.2.2.2.2.1.2.1 = []) (h : ∀ (p : P) (σ : Nat → jcell) (ρ : List jv), aH T K n σ → JX σ → aR K n G.2.2.2.1.1 ρ → aMm F p ρ σ G.2.2.2.1.2 → ∃ p' : P, (G.2.2.2.2.2.1.1.isEmpty = true → p' = p) ∧ aMm F p' ρ σ G.2.2.2.2.1.2.2.1 ∧ ∃ A ∈ G.2.2.2.2.1.2.2.2, ∀ f ∈ A, aHd ρ f) : aGho F T K n JX G := by
  intro p σ ρ hH hX hA hM
  obtain ⟨p', f1, f2, A, f3, f4⟩ := h p σ ρ hH hX hA hM
  have e2 : aPe G = G.2.2.2.1.1 := by unfold aPe; rw [h1.1, h1.2]; simp
  refine ⟨p', [], f1, ?_, ?_, A, f3, ?_⟩
  · rw [e2, List.append_nil]; exact hA
  · rw [List.append_nil]; exact f2
  · rw [List.append_nil]; exact f4
theorem aSk_app {ρ : List jv} : ∀ {a b : List Nat} {s t : List jv}, aSk ρ a s → aSk ρ b t → aSk ρ (a ++ b) (s ++ t)
  | [], _, [], _, _, h => h
  | _ :: _, _, _ :: _, _, h1, h2 => ⟨h1.1, aSk_app h1.2 h2⟩
  | [], _, _ :: _, _, h, _ => h.elim
  | _ :: _, _, [], _, h, _ => h.elim
theorem aSk_of {ρ : List jv} : ∀ {a : List Nat}, (∀ i ∈ a, i < ρ.length) → ∃ s, aSk ρ a s ∧ s.length = a.length
  | [], _ => ⟨[], trivial, rfl⟩
  | i :: r, h => by
    obtain ⟨s, h1, h2⟩ := aSk_of (a := r) (fun j hj => h j (List.mem_cons_of_mem _ hj))
    have hi := h i List.mem_cons_self
    exact ⟨ρ[i] :: s, ⟨List.getElem?_eq_getElem hi, h1⟩, by simp [h2]⟩
theorem aGh1_ok {J : jN} {RU : List aCon} (hU : ∀ G ∈ RU, aGho F m.2.1.1 K n JX G) (hS : aShf F sh) (hD : aDp F K n m.2.1.2.2.2.2.2.1) (hDT : aDT m.2.1.2.2.2.2.2.1 m.2.1.1 = true) (hE : m.2.1.2.2.2.2.2.2 = ρ0.length) {g : Nat × Nat × List aSc2 × List Nat} {pc : Nat} {S : aS} {L : List (Nat × aS)} (hb : aGh1 m.2.1 RU g pc S = some L) {ρ : List jv} (hx0 : aX ρ0 ρ) {lv : List (Option jv)} {st : List jv} {σ : Nat → jcell} (hc : aCx (aFq F pe) (aHp m.2.1 K n JX ρ0 σ0) K n S ρ lv st σ) (h : aNx (aFq F pe) (aHp m.2.1 K n JX ρ0 σ0) K n J ρ L) : J pc lv st σ := by
  unfold aGh1 at hb
  split at hb
  next G hG =>
    split at hb
    next hz =>
      obtain ⟨z1, z3, z4⟩ := hz
      split at hb
      next z hz =>
        split at hb
        next hl =>
          obtain ⟨l1, l2⟩ := hl
          obtain ⟨⟨ex, hm⟩, ρ1, x1, c1⟩ := aMp_ok hz hc
          have hin : ∀ i ∈ (g.2.2.2.map (fun i => z.2.getD i 0)).reverse, i < ρ1.length := fun i hi => by
            rw [List.mem_reverse] at hi
            obtain ⟨k, k1, rfl⟩ := List.mem_map.mp hi
            have k2 : k < z.2.length := of_decide_eq_true (List.all_eq_true.mp l1 k k1)
            have k3 : z.2.getD k 0 = z.2[k] := by simp [List.getD, List.getElem?_eq_getElem k2]
            rw [k3, c1.1.1]
            exact of_decide_eq_true (List.all_eq_true.mp l2 _ (List.getElem_mem k2))
          obtain ⟨sv, s1, s2⟩ := aSk_of hin
          obtain ⟨vs, s, ρ2, mm, pc1, e0, v1, v2, v3, v4, v5, v6⟩ := aCall_ok (aFq_sh hS pe) (aFq_dp hD pe) hDT hE hb (hx0.tr x1) (S := (z.1.1, (g.2.2.2.map (fun i => z.2.getD i 0)).reverse ++ z.1.2.1, z.1.2.2.1, z.1.2.2.2)) (ρ := ρ1) (lv := lv) (st := sv ++ st) (σ := σ) ⟨c1.1, c1.2.1, aSk_app s1 c1.2.2.1, c1.2.2.2⟩
          obtain ⟨n1, n2⟩ := aCall_no hb
          have hlen : sv.length = vs.length := by rw [s2, v1, z3]; simp
          obtain ⟨rfl, rfl⟩ := List.append_inj e0 hlen
          obtain ⟨p8, xs, hp8, gR, g1, A, g2, g3⟩ := hU G (List.mem_of_getElem? hG) pc1 σ (aVal ρ2 mm) hc.2.2.2.2.1 hc.2.2.2.2.2.1 v3 ((aFq_mm n1).mp v4)
          obtain rfl := hp8 z4
          have e1 : G.2.2.2.2.1.1 = none := by
            cases e9 : G.2.2.2.2.1.1 with
            | none => rfl
            | some t => rw [e9] at z1; cases z1
          have h9 := v6 J none σ xs (fun q hq ρ3 lv3 st3 σ3 hx3 hc3 => h q hq ρ3 lv3 st3 σ3 (x1.tr hx3) hc3) hc.2.2.2.2.1 hc.2.2.2.2.2.1 aFr_rf aFa_rf (by rw [e1]; rfl) (by simpa using gR) (by have q9 := (aFq_mm (pe := pe) n2).mpr g1; simpa using q9) ⟨A, g2, by simpa using g3⟩
          simpa using h9
        next => cases hb
      next => cases hb
    next => cases hb
  next => cases hb
theorem aSk_vl {ρ : List jv} : ∀ {a : List Nat} {s : List jv}, aSk ρ a s → s = aVal ρ a
  | [], [], _ => rfl
  | i :: r, v :: s, h => by
    unfold aVal
    rw [List.map_cons, aSk_vl h.2]
    unfold aVal
    congr 1
    simp [List.getD, h.1]
  | [], _ :: _, h => h.elim
  | _ :: _, [], h => h.elim
theorem aVs_tk {ρ ρ' : List jv} {ids : List Nat} (hi : ∀ i ∈ ids, i < ρ.length) (h : ρ'.take ids.length = aVal ρ ids) : ∀ {is : List Nat} {vs : List jv}, is.all (fun i => decide (i < ids.length)) = true → aVs ρ' is = some vs → aVs ρ (is.map (fun i => ids.getD i 0)) = some vs
  | [], vs, _, hv => hv
  | i :: r, vs, ha, hv => by
    rw [List.all_cons, Bool.and_eq_true] at ha
    have hl : i < ids.length := of_decide_eq_true ha.1
    obtain ⟨v, s, e1, e2, rfl⟩ := aVs_cons hv
    have h1 := aVs_tk hi h ha.2 e2
    have e3 : ids.getD i 0 = ids[i] := by simp [List.getD, List.getElem?_eq_getElem hl]
    have h2 : (ρ'.take ids.length)[i]? = some v := by rw [List.getElem?_take_of_lt hl]; exact e1
    rw [h] at h2
    unfold aVal at h2
    rw [List.getElem?_map, List.getElem?_eq_getElem hl] at h2
    have hb : ids[i] < ρ.length := hi _ (List.getElem_mem hl)
    have e4 : ρ[ids[i]]? = some v := by
      rw [List.getElem?_eq_getElem hb]
      simpa [List.getD, List.getElem?_eq_getElem hb] using h2
    rw [List.map_cons, e3]
    unfold aVs
    rw [e4, h1]
theorem aGh4_ok {J : jN} {RU : List aCon} (hU : ∀ G ∈ RU, aGho F m.2.1.1 K n JX G) (hS : aShf F sh) (hD : aDp F K n m.2.1.2.2.2.2.2.1) (hDT : aDT m.2.1.2.2.2.2.2.1 m.2.1.1 = true) (hE : m.2.1.2.2.2.2.2.2 = ρ0.length) {g : Nat × Nat × List aSc2 × List Nat} {pc : Nat} {S : aS} {L : List (Nat × aS)} (hb : aGh4 m.2.1 RU g pc S = some L) {ρ : List jv} (hx0 : aX ρ0 ρ) {lv : List (Option jv)} {st : List jv} {σ : Nat → jcell} (hc : aCx (aFq F pe) (aHp m.2.1 K n JX ρ0 σ0) K n S ρ lv st σ) (h : aNx (aFq F pe) (aHp m.2.1 K n JX ρ0 σ0) K n J ρ L) : J pc lv st σ := by
  unfold aGh4 at hb
  split at hb
  next G hG =>
    split at hb
    next z3 =>
      split at hb
      next z hz =>
        split at hb
        next hl =>
          obtain ⟨l1, l2, l3, l4, l5⟩ := hl
          cases hb
          obtain ⟨⟨ex, hm⟩, ρ1, x1, c1⟩ := aMp_ok hz hc
          obtain ⟨L5, hL5⟩ := Option.isSome_iff_exists.mp l5
          have hin0 : ∀ i ∈ g.2.2.2.map (fun i => z.2.getD i 0), i < ρ1.length := fun i hi => by
            obtain ⟨k, k1, rfl⟩ := List.mem_map.mp hi
            have k2 : k < z.2.length := of_decide_eq_true (List.all_eq_true.mp l1 k k1)
            have k3 : z.2.getD k 0 = z.2[k] := by simp [List.getD, List.getElem?_eq_getElem k2]
            rw [k3, c1.1.1]
            exact of_decide_eq_true (List.all_eq_true.mp l2 _ (List.getElem_mem k2))
          have hin : ∀ i ∈ (g.2.2.2.map (fun i => z.2.getD i 0)).reverse, i < ρ1.length := fun i hi => hin0 i (List.mem_reverse.mp hi)
          obtain ⟨sv, s1, s2⟩ := aSk_of hin
          obtain ⟨vs, s, ρ2, mm, pc1, e0, v1, v2, v3, v4, v5, v6⟩ := aCall_ok (aFq_sh hS pe) (aFq_dp hD pe) hDT hE hL5 (hx0.tr x1) (S := (z.1.1, (g.2.2.2.map (fun i => z.2.getD i 0)).reverse ++ z.1.2.1, z.1.2.2.1, z.1.2.2.2)) (ρ := ρ1) (lv := lv) (st := sv ++ st) (σ := σ) ⟨c1.1, c1.2.1, aSk_app s1 c1.2.2.1, c1.2.2.2⟩
          obtain ⟨n1, n2⟩ := aCall_no hL5
          have hlen : sv.length = vs.length := by rw [s2, v1]; show _ = G.2.2.1; rw [z3]; simp
          obtain ⟨rfl, rfl⟩ := List.append_inj e0 hlen
          obtain ⟨p8, xs, -, -, ⟨-, -, -, g1⟩, -⟩ := hU G (List.mem_of_getElem? hG) pc1 σ (aVal ρ2 mm) hc.2.2.2.2.1 hc.2.2.2.2.2.1 v3 ((aFq_mm n1).mp v4)
          obtain ⟨p9, m1, m2, m3, m4⟩ := c1.2.2.2.1
          have htk : (aVal ρ2 mm).take (g.2.2.2.map (fun i => z.2.getD i 0)).length = aVal ρ1 (g.2.2.2.map (fun i => z.2.getD i 0)) := by
            replace v5 : (aVal ρ2 mm).take G.2.2.1 = sv.reverse := v5
            rw [List.length_map, ← z3, v5, aSk_vl s1]
            unfold aVal
            rw [← List.map_reverse, List.reverse_reverse]
          have hle : (g.2.2.2.map (fun i => z.2.getD i 0)).length ≤ (aVal ρ2 mm).length := by
            have h7 := congrArg List.length htk
            rw [List.length_take] at h7
            have h8 : (aVal ρ1 (g.2.2.2.map (fun i => z.2.getD i 0))).length = (g.2.2.2.map (fun i => z.2.getD i 0)).length := by unfold aVal; rw [List.length_map]
            omega
          have htk2 : (aVal ρ2 mm ++ xs).take (g.2.2.2.map (fun i => z.2.getD i 0)).length = aVal ρ1 (g.2.2.2.map (fun i => z.2.getD i 0)) := by rw [List.take_append_of_le_length hle]; exact htk
          refine h (pc, _) List.mem_cons_self ρ1 lv st σ x1 ⟨c1.1, c1.2.1, c1.2.2.1, ⟨p8, m1, m2, m3, fun q hq => ?_⟩, c1.2.2.2.2⟩
          rcases List.mem_append.mp hq with hq | hq
          · obtain ⟨q0, hq0, rfl⟩ := List.mem_map.mp hq
            obtain ⟨ws, w1, w2⟩ := g1 q0 hq0
            refine ⟨ws, aVs_tk hin0 htk2 (by have h7 := List.all_eq_true.mp l3 q0 hq0; simpa using h7) w1, ?_⟩
            have h0 : ¬ q0.1 = 0 := (by have h7 := List.all_eq_true.mp l4 q0 hq0; unfold aGr at h7; rw [Bool.and_eq_true] at h7; exact of_decide_eq_true h7.1)
            unfold aFq
            rw [if_neg h0]
            exact w2
          · obtain ⟨h1, h2⟩ := List.mem_filter.mp hq
            obtain ⟨ws, w1, w2⟩ := m4 q h1
            exact ⟨ws, w1, (aFq_sh hS pe).2 p9 p8 q.1 ws σ h2 w2⟩
        next => cases hb
      next => cases hb
    next => cases hb
  next => cases hb
theorem aGh4_pc {C : aCf} {RU : List aCon} {g : Nat × Nat × List aSc2 × List Nat} {pc : Nat} {S : aS} {L : List (Nat × aS)} (hb : aGh4 C RU g pc S = some L) : ∀ q ∈ L, q.1 = pc := by
  intro q hq
  unfold aGh4 at hb
  split at hb
  next =>
    split at hb
    next =>
      split at hb
      next =>
        split at hb
        next => cases hb; rw [List.mem_singleton] at hq; subst hq; rfl
        next => cases hb
      next => cases hb
    next => cases hb
  next => cases hb
theorem aGh1_pc {C : aCf} {RU : List aCon} {g : Nat × Nat × List aSc2 × List Nat} {pc : Nat} {S : aS} {L : List (Nat × aS)} (hb : aGh1 C RU g pc S = some L) : ∀ q ∈ L, q.1 = pc := by
  intro q hq
  unfold aGh1 at hb
  split at hb
  next =>
    split at hb
    next =>
      split at hb
      next =>
        split at hb
        next =>
          unfold aCall at hb
          split at hb
          next =>
            split at hb
            next =>
              split at hb
              next =>
                split at hb
                next =>
                  cases hb
                  obtain ⟨A, -, h2⟩ := List.mem_flatMap.mp hq
                  exact aBs_pc q h2
                next => cases hb
              next => cases hb
            next => cases hb
          next => cases hb
        next => cases hb
      next => cases hb
    next => cases hb
  next => cases hb
theorem aGh2_pc {C : aCf} {RU : List aCon} {g : Nat × Nat × List aSc2 × List Nat} {pc : Nat} {S : aS} {L : List (Nat × aS)} (hb : aGh2 C RU g pc S = some L) : ∀ q ∈ L, q.1 = pc := by
  unfold aGh2 at hb
  split at hb
  next => exact aGh1_pc hb
  next =>
    split at hb
    next =>
      split at hb
      next L' h =>
        cases hb
        split at h
        · exact aGh1_pc h
        · cases h
      next =>
        cases hb
        intro q hq
        rw [List.mem_singleton] at hq
        subst hq
        rfl
    next =>
      split at hb
      next => exact aGh1_pc hb
      next => exact aGh4_pc hb
theorem aGh2_ok {J : jN} {RU : List aCon} (hU : ∀ G ∈ RU, aGho F m.2.1.1 K n JX G) (hS : aShf F sh) (hD : aDp F K n m.2.1.2.2.2.2.2.1) (hDT : aDT m.2.1.2.2.2.2.2.1 m.2.1.1 = true) (hE : m.2.1.2.2.2.2.2.2 = ρ0.length) {g : Nat × Nat × List aSc2 × List Nat} {pc : Nat} {S : aS} {L : List (Nat × aS)} (hb : aGh2 m.2.1 RU g pc S = some L) {ρ : List jv} (hx0 : aX ρ0 ρ) {lv : List (Option jv)} {st : List jv} {σ : Nat → jcell} (hc : aCx (aFq F pe) (aHp m.2.1 K n JX ρ0 σ0) K n S ρ lv st σ) (h : aNx (aFq F pe) (aHp m.2.1 K n JX ρ0 σ0) K n J ρ L) : J pc lv st σ := by
  unfold aGh2 at hb
  split at hb
  next => exact aGh1_ok hU hS hD hDT hE hb hx0 hc h
  next =>
    split at hb
    next =>
      split at hb
      next L' h' =>
        cases hb
        split at h'
        · exact aGh1_ok hU hS hD hDT hE h' hx0 hc h
        · cases h'
      next =>
        cases hb
        exact h (pc, S) List.mem_cons_self ρ lv st σ aX_rf hc
    next =>
      split at hb
      next => exact aGh1_ok hU hS hD hDT hE hb hx0 hc h
      next => exact aGh4_ok hU hS hD hDT hE hb hx0 hc h
theorem aCat_in {f : aS → Option (List (Nat × aS))} : ∀ {L0 L : List (Nat × aS)}, aCat f L0 = some L → ∀ z ∈ L, ∃ q ∈ L0, ∃ Lq, f q.2 = some Lq ∧ z ∈ Lq
  | [], L, h, z, hz => by unfold aCat at h; cases h; cases hz
  | q0 :: r, L, h, z, hz => by
    unfold aCat at h
    split at h
    next a b ha hb =>
      cases h
      rcases List.mem_append.mp hz with hz | hz
      · exact ⟨q0, List.mem_cons_self, a, ha, hz⟩
      · obtain ⟨q, q1, Lq, q2, q3⟩ := aCat_in hb z hz
        exact ⟨q, List.mem_cons_of_mem _ q1, Lq, q2, q3⟩
    next => cases h
theorem aGhs_ok {J : jN} {RU : List aCon} (hU : ∀ G ∈ RU, aGho F m.2.1.1 K n JX G) (hS : aShf F sh) (hD : aDp F K n m.2.1.2.2.2.2.2.1) (hDT : aDT m.2.1.2.2.2.2.2.1 m.2.1.1 = true) (hE : m.2.1.2.2.2.2.2.2 = ρ0.length) {pc : Nat} {lv : List (Option jv)} {st : List jv} {σ : Nat → jcell} {ρb : List jv} (hxb : aX ρ0 ρb) : ∀ {gs : List (Nat × Nat × List aSc2 × List Nat)} {L0 L : List (Nat × aS)}, aGhs m.2.1 RU pc gs L0 = some L → (∀ q ∈ L0, q.1 = pc) → aNx (aFq F pe) (aHp m.2.1 K n JX ρ0 σ0) K n J ρb L → aNx (aFq F pe) (aHp m.2.1 K n JX ρ0 σ0) K n J ρb L0
  | [], L0, L, h, _, hj => by unfold aGhs at h; cases h; exact hj
  | g :: r, L0, L, h, h0, hj => by
    unfold aGhs at h
    split at h
    next =>
      split at h
      next L' hL' =>
        have hpc : ∀ q ∈ L', q.1 = pc := fun z hz => by
          obtain ⟨q, q1, Lq, q2, q3⟩ := aCat_in hL' z hz
          exact aGh2_pc q2 z q3
        have ih := aGhs_ok (lv := lv) (st := st) (σ := σ) hU hS hD hDT hE hxb h hpc hj
        intro q hq ρ' lv' st' σ' hx hc'
        obtain ⟨Lq, e1, e2⟩ := aCat_ok hL' q hq
        rw [h0 q hq]
        exact aGh2_ok hU hS hD hDT hE e1 (hxb.tr hx) hc' (fun z hz ρ2 lv2 st2 σ2 hx2 hc2 => ih z (e2 z hz) ρ2 lv2 st2 σ2 (hx.tr hx2) hc2)
      next => cases h
    next => exact aGhs_ok (lv := lv) (st := st) (σ := σ) hU hS hD hDT hE hxb h h0 hj
theorem aGhs_pc {C : aCf} {RU : List aCon} {pc : Nat} : ∀ {gs : List (Nat × Nat × List aSc2 × List Nat)} {L0 L : List (Nat × aS)}, aGhs C RU pc gs L0 = some L → (∀ q ∈ L0, q.1 = pc) → ∀ q ∈ L, q.1 = pc := by
  intro gs
  induction gs with
  | nil => intro L0 L h h0; unfold aGhs at h; cases h; exact h0
  | cons g r ih =>
    intro L0 L h h0
    unfold aGhs at h
    split at h
    next =>
      split at h
      next L' hL' =>
        refine ih h (fun z hz => ?_)
        obtain ⟨q, q1, Lq, q2, q3⟩ := aCat_in hL' z hz
        exact aGh2_pc q2 z q3
      next => cases h
    next => exact ih h h0
theorem aGk_ok {J : jN} (hU : ∀ G ∈ m.1.2.2.2.2.2.2.2.1, aGho F m.2.1.1 K n JX G) (hS : aShf F sh) (hD : aDp F K n m.2.1.2.2.2.2.2.1) (hDT : aDT m.2.1.2.2.2.2.2.1 m.2.1.1 = true) (hE : m.2.1.2.2.2.2.2.2 = ρ0.length) {pc : Nat} {S : aS} {k : aS → Bool} (hb : aGk m pc S k = true) {ρ : List jv} (hx0 : aX ρ0 ρ) {lv : List (Option jv)} {st : List jv} {σ : Nat → jcell} (hc : aCx (aFq F pe) (aHp m.2.1 K n JX ρ0 σ0) K n S ρ lv st σ) (h : ∀ (S' : aS), k S' = true → ∀ (ρ' : List jv) (lv' : List (Option jv)) (st' : List jv) (σ' : Nat → jcell), aX ρ ρ' → aCx (aFq F pe) (aHp m.2.1 K n JX ρ0 σ0) K n S' ρ' lv' st' σ' → J pc lv' st' σ') : J pc lv st σ := by
  unfold aGk at hb
  split at hb
  next =>
    split at hb
    next L hL =>
      have h9 := aGhs_ok (J := J) (lv := lv) (st := st) (σ := σ) hU hS hD hDT hE hx0 hL (fun q hq => by rw [List.mem_singleton] at hq; subst hq; rfl) (fun q hq ρ' lv' st' σ' hx hc' => by
        rw [aGhs_pc hL (fun q hq => by rw [List.mem_singleton] at hq; subst hq; rfl) q hq]
        have h8 := List.all_eq_true.mp hb q hq
        rw [aNS_e] at h8
        exact h q.2 h8 ρ' lv' st' σ' hx hc')
      exact h9 (pc, S) List.mem_cons_self ρ lv st σ aX_rf hc
    next => cases hb
  next => exact h S hb ρ lv st σ aX_rf hc
noncomputable def aDef (ρ : List jv) (rk : List aF) : Prop := ∀ f ∈ rk, ∃ z, aEv ρ f.1 = some z
theorem aRn_mo {ρ ρ' : List jv} (hx : aX ρ ρ') {rk : List aF} (hd : aDef ρ rk) : rk.map (aRn ρ') = rk.map (aRn ρ) := by
  apply List.map_congr_left
  intro f hf
  obtain ⟨z, hz⟩ := hd f hf
  unfold aRn
  rw [hz, aEv_mo hx hz]
theorem aDef_mo {ρ ρ' : List jv} (hx : aX ρ ρ') {rk : List aF} (hd : aDef ρ rk) : aDef ρ' rk := fun f hf => by
  obtain ⟨z, hz⟩ := hd f hf
  exact ⟨z, aEv_mo hx hz⟩
theorem aEv_df {ρ : List jv} : ∀ {F : List (Nat × Int)}, F.all (fun q => decide (q.1 < ρ.length)) = true → ∃ z, aEv ρ F = some z
  | [], _ => ⟨0, rfl⟩
  | q :: r, h => by
    rw [List.all_cons, Bool.and_eq_true] at h
    obtain ⟨z, hz⟩ := aEv_df h.2
    have hi : q.1 < ρ.length := of_decide_eq_true h.1
    exact ⟨_, aEv_i (List.getElem?_eq_getElem hi) hz⟩
theorem aTo_ok {C : aCf} (hE : C.2.2.2.2.2.2 = ρ0.length) {rk0 : List aF} {c : aCu} {S : aS} (h : aTo C rk0 c S = true) {ρ : List jv} (hx0 : aX ρ0 ρ) (hd : aDef ρ rk0) {lv : List (Option jv)} {st : List jv} {σ : Nat → jcell} (hc : aCx F (aHp C K n JX ρ0 σ0) K n S ρ lv st σ) : ∃ ρ' : List jv, aX ρ0 ρ' ∧ aCx F (aHp C K n JX ρ0 σ0) K n c.2.1 ρ' lv st σ ∧ aLt (c.2.2.2.map (aRn ρ')) (rk0.map (aRn ρ)) := by
  unfold aTo at h
  split at h
  next z hz =>
    rw [Bool.and_eq_true] at h
    obtain ⟨⟨ex, hm⟩, ρ1, x1, c1⟩ := aMp_ok hz hc
    obtain ⟨c2, w2⟩ := aInB_ok h.1 c1
    obtain ⟨p9, m1, m2, m3, m4⟩ := c1.2.2.2.1
    have hr := aRs_ok c1.1 m3 w2 h.2
    rw [aRn_mo x1 hd] at hr
    refine ⟨aVal ρ1 z.2, fun i v hv => ?_, c2, hr⟩
    have hi := (List.getElem?_eq_some_iff.mp hv).1
    refine aVal_at (k := i) ?_ (x1 _ _ (hx0 _ _ hv))
    rw [hm, hE, List.getElem?_append_left (by simpa using hi), List.getElem?_range hi]
  next => cases h
theorem aRun_ok (hsp : ∀ q ∈ m.1.2.2.2.2.2.1, aSpP m.1.1 m.1.2.1 q) (hg : ∀ q ∈ m.1.2.2.2.2.1, ∀ G, m.2.2.1[q.2.2]? = some G → jlm m.1.2.1 q.2.1 m.1.1 q.1 G.1.1 = true) (hC : jCl m.1.2.1 m.1.2.2.1) (X : jX E m.1.1 m.1.2.1 m.1.2.2.1 tb nL ini cc M) (hl : M.2.1 = l) (hR : M.2.2.2.1 = m.2.2.2.1.2.2.2.2.2.2) (hrt : M.2.2.2.2.2.2.2.2.1.sig.returnType = m.1.2.2.2.1) (hG : ∀ G ∈ m.2.2.1, aGd m.1.2.1 G ∧ aMe F l E m.1.2.2.1 tb m.1.2.1 m.2.1.1 K n JX G) (hU : ∀ G ∈ m.1.2.2.2.2.2.2.2.1, aGho F m.2.1.1 K n JX G) (hT : aTB m.2.1.2.1 tb) (hJ : aJx K n m.2.1.2.2.1 JX) (hS : aShf F sh) (hD : aDp F K n m.2.1.2.2.2.2.2.1) (hDT : aDT m.2.1.2.2.2.2.2.1 m.2.1.1 = true) (hE : m.2.1.2.2.2.2.2.2 = ρ0.length) (hok : jokLQ m.1.1 m.1.2.1 m.1.2.2.1 tb nL ini cc 0 m.2.2.2.2.1 = true) {rk0 : List aF} {R0 : List Nat}
    (hI : ∀ c ∈ m.2.2.2.2.2, ∀ (ρ' : List jv) (lv' : List (Option jv)) (st' : List jv) (σ' : Nat → jcell), aLt (c.2.2.2.map (aRn ρ')) R0 → aX ρ0 ρ' → aCx (aFq F pe) (aHp m.2.1 K n JX ρ0 σ0) K n c.2.1 ρ' lv' st' σ' → jJ E m.1.2.2.1 nL M (jQ E m.1.2.2.1 M (aPo m.2.1 K n JX F pe ρ0 σ0 m.2.2.2.1) 0 0) n 0 0 c.1 lv' st' σ') : ∀ (f : Nat) (is : List jI) (pc : Nat) (S : aS) (ρ : List jv) (lv : List (Option jv)) (st : List jv) (σ : Nat → jcell), aRun m rk0 f is pc S = true → jokLQ m.1.1 m.1.2.1 m.1.2.2.1 tb nL ini cc pc is = true → aX ρ0 ρ → aDef ρ rk0 → rk0.map (aRn ρ) = R0 → aCx (aFq F pe) (aHp m.2.1 K n JX ρ0 σ0) K n S ρ lv st σ → jJ E m.1.2.2.1 nL M (jQ E m.1.2.2.1 M (aPo m.2.1 K n JX F pe ρ0 σ0 m.2.2.2.1) 0 0) n 0 0 pc lv st σ
  | 0, _, _, _, _, _, _, _, h, _, _, _, _, _ => by unfold aRun at h; cases h
  | _ + 1, [], _, _, _, _, _, _, h, _, _, _, _, _ => by unfold aRun at h; cases h
  | f + 1, x :: r, pc, S, ρ, lv, st, σ, h, hk, hx0, hdf, hr0, hc => by
    have hk2 : jokQ m.1.1 m.1.2.1 m.1.2.2.1 tb nL ini cc pc x = true ∧ jokLQ m.1.1 m.1.2.1 m.1.2.2.1 tb nL ini cc (pc + x.2.1) r = true := by
      have h9 := hk
      unfold jokLQ at h9
      rwa [Bool.and_eq_true] at h9
    unfold aRun at h
    refine aGk_ok hU hS hD hDT hE h hx0 hc (fun S9 h ρ9 lv9 st9 σ9 hx9 hc9 => ?_)
    have hdf := aDef_mo hx9 hdf
    have hr0 : rk0.map (aRn ρ9) = R0 := (aRn_mo hx9 ‹aDef ρ rk0›).trans hr0
    have hx0 := hx0.tr hx9
    have hc := hc9
    rw [Bool.or_eq_true] at h
    rcases h with h | h
    · rw [Bool.and_eq_true] at h
      exact aRet_ok hS.2 hE X hrt (jokQ_n hk2.1 (by have := h.1; simpa using this)) h.2 hx0 hc
    · split at h
      next L hL =>
        have hstep : ∀ (S : aS) (L : List (Nat × aS)) (ρ : List jv) (lv : List (Option jv)) (st : List jv) (σ : Nat → jcell), aNe2 m x pc S = some L → aX ρ0 ρ → aCx (aFq F pe) (aHp m.2.1 K n JX ρ0 σ0) K n S ρ lv st σ → aNx (aFq F pe) (aHp m.2.1 K n JX ρ0 σ0) K n (jJ E m.1.2.2.1 nL M (jQ E m.1.2.2.1 M (aPo m.2.1 K n JX F pe ρ0 σ0 m.2.2.2.1) 0 0) n 0 0) ρ L → jJ E m.1.2.2.1 nL M (jQ E m.1.2.2.1 M (aPo m.2.1 K n JX F pe ρ0 σ0 m.2.2.2.1) 0 0) n 0 0 pc lv st σ := by
          intro S L ρ lv st σ hL hx0 hc
          unfold aNe2 at hL
          split at hL
          next =>
            have hd9 := hk2.1
            unfold jokQ at hd9
            rw [Bool.and_eq_true, decide_eq_true_eq] at hd9
            exact aSpe_ok ⟨Nat.zero_le _, Nat.zero_le _⟩ ⟨Nat.le_refl _, Nat.le_refl _⟩ hsp hg hC X hl hR hG hT hJ hS hD hDT hE hd9.1 hL hx0 hc
          next hn => exact aNe_ok ⟨Nat.zero_le _, Nat.zero_le _⟩ ⟨Nat.le_refl _, Nat.le_refl _⟩ hg hC X hl hR hG hT hJ hS hD hDT hE (jokQ_n hk2.1 hn) hL hx0 hc
        refine aNe3_ok hstep hL hx0 hc (fun q hq ρ' lv' st' σ' hx hc' => ?_)
        have h1 := List.all_eq_true.mp h q hq
        rw [aNn_e, aNy_e] at h1
        have hdf' := aDef_mo hx hdf
        have hr0' : rk0.map (aRn ρ') = R0 := (aRn_mo hx hdf).trans hr0
        have hx0' := hx0.tr hx
        split at h1
        next =>
          obtain ⟨c, k1, k3⟩ := List.any_eq_true.mp h1
          rw [Bool.and_eq_true] at k3
          have k2 := Nat.eq_of_beq_eq_true k3.1
          obtain ⟨ρ2, g0, g1, g2⟩ := aTo_ok hE k3.2 hx0' hdf' hc'
          rw [hr0'] at g2
          rw [← k2]
          exact hI c k1 ρ2 lv' st' σ' g2 g0 g1
        next =>
          split at h1
          next e =>
            rw [e] at h1 ⊢
            exact aRun_ok hsp hg hC X hl hR hrt hG hU hT hJ hS hD hDT hE hok hI f r _ _ ρ' lv' st' σ' h1 hk2.2 hx0' hdf' hr0' hc'
          next =>
            split at h1
            next is2 hs2 => exact aRun_ok hsp hg hC X hl hR hrt hG hU hT hJ hS hD hDT hE hok hI f is2 _ _ ρ' lv' st' σ' h1 (aSuf_ok hok hs2) hx0' hdf' hr0' hc'
            next => cases h1
      next => cases h
theorem aChk_ok {f : Nat} (hsp : ∀ q ∈ m.1.2.2.2.2.2.1, aSpP m.1.1 m.1.2.1 q) (hg : ∀ q ∈ m.1.2.2.2.2.1, ∀ G, m.2.2.1[q.2.2]? = some G → jlm m.1.2.1 q.2.1 m.1.1 q.1 G.1.1 = true) (hC : jCl m.1.2.1 m.1.2.2.1) (X : jX E m.1.1 m.1.2.1 m.1.2.2.1 tb nL ini cc M) (hl : M.2.1 = l) (hR : M.2.2.2.1 = m.2.2.2.1.2.2.2.2.2.2) (hrt : M.2.2.2.2.2.2.2.2.1.sig.returnType = m.1.2.2.2.1) (hG : ∀ G ∈ m.2.2.1, aGd m.1.2.1 G ∧ aMe F l E m.1.2.2.1 tb m.1.2.1 m.2.1.1 K n JX G) (hU : ∀ G ∈ m.1.2.2.2.2.2.2.2.1, aGho F m.2.1.1 K n JX G) (hT : aTB m.2.1.2.1 tb) (hJ : aJx K n m.2.1.2.2.1 JX) (hS : aShf F sh) (hD : aDp F K n m.2.1.2.2.2.2.2.1) (hDT : aDT m.2.1.2.2.2.2.2.1 m.2.1.1 = true) (hE : m.2.1.2.2.2.2.2.2 = ρ0.length) (hok : jokLQ m.1.1 m.1.2.1 m.1.2.2.1 tb nL ini cc 0 m.2.2.2.2.1 = true) (hch : m.2.2.2.2.2.all (fun c => aRo c.2.1.2.2.1.length c.2.2.2 && (match aSuf m.2.2.2.2.1 0 c.1 with
  | some is => aRun m c.2.2.2 f is c.1 c.2.1
  | none => false)) = true) : ∀ (R : List Nat), ∀ c ∈ m.2.2.2.2.2, ∀ (ρ : List jv) (lv : List (Option jv)) (st : List jv) (σ : Nat → jcell), c.2.2.2.map (aRn ρ) = R → aX ρ0 ρ → aCx (aFq F pe) (aHp m.2.1 K n JX ρ0 σ0) K n c.2.1 ρ lv st σ → jJ E m.1.2.2.1 nL M (jQ E m.1.2.2.1 M (aPo m.2.1 K n JX F pe ρ0 σ0 m.2.2.2.1) 0 0) n 0 0 c.1 lv st σ := by
  intro R
  induction aLt_acc R.length R rfl with
  | intro R _ ih =>
    intro c hcm ρ lv st σ hR0 hx0 hc
    have h1 := List.all_eq_true.mp hch c hcm
    rw [Bool.and_eq_true] at h1
    obtain ⟨h1, h2⟩ := h1
    split at h2
    next is hs =>
      refine aRun_ok hsp hg hC X hl hR hrt hG hU hT hJ hS hD hDT hE hok (R0 := R) (fun c2 hc2 ρ' lv' st' σ' hlt hx hcx => ih _ hlt c2 hc2 ρ' lv' st' σ' rfl hx hcx) f is c.1 c.2.1 ρ lv st σ h2 (aSuf_ok hok hs) hx0 (fun g hg => ?_) hR0 hc
      exact aEv_df (by rw [hc.1.1]; exact List.all_eq_true.mp h1 g hg)
    next => cases h2
theorem aIsL_cat {t : aT} {v : jv} (h : aG K n t v) : aIsL t = true ↔ jcat v = 2 := by
  rcases t with q | _ | q
  · obtain ⟨x, rfl, -⟩ := aG_int h; simp [aIsL, jcat]
  · obtain ⟨x, rfl⟩ := aG_lng h; simp [aIsL, jcat]
  · rcases v with x | x | x
    · rcases q with q | q <;> exact h.elim
    · rcases q with q | q <;> exact h.elim
    · simp [aIsL, jcat]
theorem aEnt_ok {E : jE} : ∀ {ts : List aT} {vs : List jv} (i : Nat), aAG K n ts vs → (aEnt ts i).length = (jar vs).length ∧ (lg_sl (vs.map (jc E))).length = (aEnt ts i).length ∧ ∀ (j k : Nat), (aEnt ts i)[j]? = some (some k) → ∃ v : jv, i ≤ k ∧ vs[k - i]? = some v ∧ (jar vs)[j]? = some (some v)
  | [], [], _, _ => ⟨rfl, by simp [lg_sl, aEnt], fun j k h => by simp [aEnt] at h⟩
  | [], _ :: _, _, h => h.elim
  | _ :: _, [], _, h => h.elim
  | t :: ts, v :: vs, i, h => by
    obtain ⟨i1, i2, i3⟩ := aEnt_ok (E := E) (i + 1) h.2
    have hc := aIsL_cat h.1
    have step : ∀ (j k : Nat), (aEnt ts (i + 1))[j]? = some (some k) → ∃ w : jv, i ≤ k ∧ (v :: vs)[k - i]? = some w ∧ (jar vs)[j]? = some (some w) := fun j k hk => by
      obtain ⟨w, w1, w2, w3⟩ := i3 j k hk
      refine ⟨w, by omega, ?_, w3⟩
      rw [show k - i = (k - (i + 1)) + 1 by omega]
      simpa using w2
    have hcat := jc_cat E v
    by_cases hl : aIsL t = true
    · have h2 := hc.mp hl
      rw [h2] at hcat
      unfold aEnt jar
      rw [if_pos hl, if_pos h2]
      refine ⟨by simp [i1], ?_, fun j k hk => ?_⟩
      · have e : lg_sl ((v :: vs).map (jc E)) = [.val (jc E v), .second] ++ lg_sl (vs.map (jc E)) := by simp [lg_sl, hcat]
        rw [e]
        simp only [List.length_append, List.length_cons, List.length_nil]
        omega
      · match j, hk with
        | 0, hk => cases hk; exact ⟨v, Nat.le_refl _, by simp, rfl⟩
        | 1, hk => simp at hk
        | j + 2, hk =>
          obtain ⟨w, w1, w2, w3⟩ := step j k (by simpa using hk)
          exact ⟨w, w1, w2, by simpa using w3⟩
    · have h2 : ¬ jcat v = 2 := fun q => hl (hc.mpr q)
      have hcat2 : ¬ (jc E v).category = 2 := by rw [hcat]; exact h2
      unfold aEnt jar
      rw [if_neg hl, if_neg h2]
      refine ⟨by simp [i1], ?_, fun j k hk => ?_⟩
      · have e : lg_sl ((v :: vs).map (jc E)) = [.val (jc E v)] ++ lg_sl (vs.map (jc E)) := by simp [lg_sl, hcat2]
        rw [e]
        simp only [List.length_append, List.length_cons, List.length_nil]
        omega
      · match j, hk with
        | 0, hk => cases hk; exact ⟨v, Nat.le_refl _, by simp, rfl⟩
        | j + 1, hk =>
          obtain ⟨w, w1, w2, w3⟩ := step j k (by simpa using hk)
          exact ⟨w, w1, w2, by simpa using w3⟩
theorem aAG_of : ∀ {es : List aE} {ρ : List jv}, ρ.length = es.length → (∀ (i : Nat) (e : aE) (v : jv), es[i]? = some e → ρ[i]? = some v → aG K n e.1 v) → aAG K n (es.map (·.1)) ρ
  | [], [], _, _ => trivial
  | [], _ :: _, h, _ => by simp at h
  | _ :: _, [], h, _ => by simp at h
  | e :: es, v :: ρ, h, hh => ⟨hh 0 e v rfl rfl, aAG_of (by simpa using h) (fun i e1 v1 h1 h2 => hh (i + 1) e1 v1 (by simpa using h1) (by simpa using h2))⟩
/-- a method of the check keeps its contract -/
theorem aMe_of {f : Nat} {g : Nat → Option Jvm.Cond} {L : jLk} {own nm ds : String} {ret : Option FieldType} (hY : m.2.2.2.1.1 = (⟨own, nm, ds⟩, cc, nL, ret)) (hm1 : m.1.1 = own) (hm2 : m.1.2.2.2.1 = ret) (hrc : m.2.2.2.1.2.2.2.2.2.2.cells = 0) (hrs : m.2.2.2.1.2.2.2.2.2.2.slots = 0) (hy : plainName own = true)
    (hgg : ∀ i w, g i = some w → m.1.2.1[i]? = some w) (hL : jLkOk m.1.1 m.1.2.1 m.1.2.2.1 tb L) (hsp : ∀ q ∈ m.1.2.2.2.2.2.1, aSpP m.1.1 m.1.2.1 q) (hg : ∀ q ∈ m.1.2.2.2.2.1, ∀ G, m.2.2.1[q.2.2]? = some G → jlm m.1.2.1 q.2.1 m.1.1 q.1 G.1.1 = true) (hC : jCl m.1.2.1 m.1.2.2.1) (hG : ∀ G ∈ m.2.2.1, aGd m.1.2.1 G ∧ aMe F l E m.1.2.2.1 tb m.1.2.1 m.2.1.1 K n JX G) (hU : ∀ G ∈ m.1.2.2.2.2.2.2.2.1, aGho F m.2.1.1 K n JX G) (hT : aTB m.2.1.2.1 tb) (hJ : aJx K n m.2.1.2.2.1 JX) (hS : aShf F sh) (hD : aDp F K n m.2.1.2.2.2.2.2.1) (hok : jokLG g L m.1.1 m.1.2.2.1 tb nL cc 0 m.2.2.2.2.1 = true) (hch : aChk m f = true) {rk : List aF} (hc0 : (0, aEn m.2.2.2.1, [], rk) ∈ m.2.2.2.2.2) : aMe F l E m.1.2.2.1 tb m.1.2.1 m.2.1.1 K n JX m.2.2.2.1 := by
  intro p σ ρ hH hX hA hM
  unfold aChk at hch
  rw [Bool.and_eq_true] at hch
  obtain ⟨h0, h1⟩ := hch
  simp only [aOkc, Bool.and_eq_true, decide_eq_true_eq] at h0
  obtain ⟨o1, o2, o3, o4, o5, o6, o7, o8⟩ := h0
  have hlr : ρ.length = m.2.2.2.1.2.2.2.1.1.length := hA.1
  have hAG : aAG K n ((m.2.2.2.1.2.2.2.1.1.take m.2.2.2.1.2.2.1).map (·.1)) (ρ.take m.2.2.2.1.2.2.1) := by
    refine aAG_of (by rw [List.length_take, List.length_take, hlr]) (fun i e v he hv => ?_)
    have hi : i < m.2.2.2.1.2.2.1 := by
      have := (List.getElem?_eq_some_iff.mp he).1
      rw [List.length_take] at this
      omega
    rw [List.getElem?_take_of_lt hi] at he hv
    exact (hA.2 i e v he hv).1
  obtain ⟨e1, e2, e3⟩ := aEnt_ok (E := E) 0 hAG
  have hnl : m.2.2.2.1.1.2.2.1 = nL := by rw [hY]
  have hcx : aCx (aFq F p) (aHp m.2.1 K n JX ρ σ) K n (aEn m.2.2.2.1) ρ (jent (ρ.take m.2.2.2.1.2.2.1) nL) [] σ := by
    refine ⟨hA, ⟨?_, fun i k hk => ?_⟩, trivial, ⟨p, hM.1, fun q hq => (by cases hq), hM.2.2.1, fun q hq => ?_⟩, hH, hX, aFr_rf, aFa_rf⟩
    · unfold aEn jent
      simp only [List.length_append, List.length_replicate]
      rw [e1, hnl]
    · unfold aEn at hk
      dsimp only at hk
      by_cases hi : i < (aEnt ((m.2.2.2.1.2.2.2.1.1.take m.2.2.2.1.2.2.1).map (·.1)) 0).length
      · rw [List.getElem?_append_left hi] at hk
        obtain ⟨v, -, v2, v3⟩ := e3 i k hk
        have hk2 : k - 0 < m.2.2.2.1.2.2.1 := by
          have := (List.getElem?_eq_some_iff.mp v2).1
          rw [List.length_take] at this
          omega
        rw [List.getElem?_take_of_lt hk2] at v2
        refine ⟨v, by simpa using v2, ?_⟩
        unfold jent
        rw [List.getElem?_append_left (by rw [← e1]; exact hi)]
        exact v3
      · rw [List.getElem?_append_right (by omega), List.getElem?_replicate] at hk
        split at hk <;> simp at hk
    · rcases List.mem_cons.mp hq with rfl | hq
      · exact ⟨[], rfl, rfl⟩
      · exact ((aFq_mm o6).mpr hM).2.2.2 q hq
  have hln : (lg_sl ((ρ.take m.2.2.2.1.2.2.1).map (jc E))).length ≤ nL := by rw [e2, ← hnl]; exact o8
  refine jMet_of hY false (fun h => (by cases h)) hy hln (jent (ρ.take m.2.2.2.1.2.2.1) nL) rfl ?_
  intro M hl hR X hr
  rw [← hm1] at X
  have h9 := aChk_ok (σ0 := σ) (K := K) (n := n) (JX := JX) (pe := p) hsp hg hC X hl hR (hr.trans hm2.symm) hG hU hT hJ hS hD o4 (o3.trans hlr.symm) (jokLG_ok hgg hL hok) h1 _ _ hc0 ρ (jent (ρ.take m.2.2.2.1.2.2.1) nL) [] σ rfl aX_rf hcx
  rw [hrc, hrs]
  unfold aPo at h9
  rw [o1, o2] at h9
  exact h9
end ASR
/-! rows of static things, for the print -/
theorem aSp_1 {own : String} {Ts : List Jvm.Cond} {i j : Nat} {tx : String} (h : (own, i, tx, j) ∈ js0.2.2.2.2) : aSpP own Ts (1, i, 0, .inr j) := ⟨fun _ => ⟨tx, j, rfl, h⟩, fun h => (by cases h), fun h => (by cases h), fun h => (by cases h), fun h => (by cases h), fun h => (by cases h)⟩
theorem aSp_2 {own : String} {Ts : List Jvm.Cond} {i j : Nat} {tx : String} (h : (own, i, tx, j) ∈ js0.2.2.2.2) : aSpP own Ts (2, i, 0, .inr j) := ⟨fun h => (by cases h), fun _ => ⟨tx, j, rfl, h⟩, fun h => (by cases h), fun h => (by cases h), fun h => (by cases h), fun h => (by cases h)⟩
theorem aSp_3 {own : String} {Ts : List Jvm.Cond} {i : Nat} {v : Int32} (h : Jvm.Cond.constant own i v ∈ jTA Ts) : aSpP own Ts (3, i, 0, .inl v) := ⟨fun h => (by cases h), fun h => (by cases h), fun _ => ⟨v, rfl, h⟩, fun h => (by cases h), fun h => (by cases h), fun h => (by cases h)⟩
theorem aSp_4 {own : String} {Ts : List Jvm.Cond} {i : Nat} {a b c : String} {v : jSv} (hz : (a, b, c, v) ∈ js0.2.1) (h : Jvm.Cond.fieldLink own i a b c ∈ jTA Ts) : aSpP own Ts (4, i, 0, v) := ⟨fun h => (by cases h), fun h => (by cases h), fun h => (by cases h), fun _ => ⟨_, hz, rfl, h⟩, fun h => (by cases h), fun h => (by cases h)⟩
theorem aSp_5 {own : String} {Ts : List Jvm.Cond} {i o : Nat} {cn a b c : String} {fs : List (String × String × String × jSv)} {v : jSv} (ho : (o, cn, fs) ∈ js0.1) (hf : (a, b, c, v) ∈ fs) (h : Jvm.Cond.fieldLink own i a b c ∈ jTA Ts) : aSpP own Ts (5, i, o, v) := ⟨fun h => (by cases h), fun h => (by cases h), fun h => (by cases h), fun h => (by cases h), fun _ => ⟨_, ho, _, hf, rfl, rfl, h⟩, fun h => (by cases h)⟩
theorem aSp_6 {own : String} {Ts : List Jvm.Cond} {i : Nat} {v : jSv} (h1 : Jvm.Cond.methodLink own i arraycopyName ∈ jTA Ts) (h2 : Jvm.Cond.native arraycopyName ∈ jTA Ts) (h3 : Jvm.Cond.static arraycopyName ∈ jTA Ts) (h4 : Jvm.Cond.initialized "java/lang/System" ∈ jTA Ts) : aSpP own Ts (6, i, 0, v) := ⟨fun h => (by cases h), fun h => (by cases h), fun h => (by cases h), fun h => (by cases h), fun h => (by cases h), fun _ => ⟨h1, h2, h3, h4⟩⟩
noncomputable def aCk1 (m : aMi) (f : Nat) (c : aCu) : Bool := aRo c.2.1.2.2.1.length c.2.2.2 && (match aSuf m.2.2.2.2.1 0 c.1 with
  | some is => aRun m c.2.2.2 f is c.1 c.2.1
  | none => false)
theorem aChk_1 {m : aMi} {f : Nat} (h0 : aOkc m.2.1 m.2.2.2.1 = true) (h : m.2.2.2.2.2.all (aCk1 m f) = true) : aChk m f = true := by
  unfold aChk
  rw [Bool.and_eq_true]
  exact ⟨h0, h⟩
theorem all_cat {α : Type} {p : α → Bool} {l : List α} (k : Nat) (h1 : (l.take k).all p = true) (h2 : (l.drop k).all p = true) : l.all p = true := by
  rw [← List.take_append_drop k l, List.all_append, h1, h2]
  rfl
theorem all_dr {α : Type} {p : α → Bool} {l : List α} (a b c : Nat) (hc : a + b = c) (h1 : ((l.drop a).take b).all p = true) (h2 : (l.drop c).all p = true) : (l.drop a).all p = true := by
  refine all_cat b h1 ?_
  rw [List.drop_drop, hc]
  exact h2
end
