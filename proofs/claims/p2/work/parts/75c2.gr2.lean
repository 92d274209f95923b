/-! GROWTH: larger worlds -/
noncomputable def gW (K : Nat → Nat) (n : Nat) (K' : Nat → Nat) (n' : Nat) : Prop := n ≤ n' ∧ ∀ a, a < n → K' a = K a
noncomputable def gS (n : Nat) (σ0 σ' : Nat → jcell) : Nat → jcell := fun a => if a < n then σ0 a else σ' a
theorem gW_rf {K : Nat → Nat} {n : Nat} : gW K n K n := ⟨Nat.le_refl _, fun _ _ => rfl⟩
theorem gW_tr {K K1 K2 : Nat → Nat} {n n1 n2 : Nat} (h : gW K n K1 n1) (h2 : gW K1 n1 K2 n2) : gW K n K2 n2 := ⟨Nat.le_trans h.1 h2.1, fun a ha => (h2.2 a (Nat.lt_of_lt_of_le ha h.1)).trans (h.2 a ha)⟩
section GMO
variable {K K' : Nat → Nat} {n n' : Nat}
theorem aG_gw (h : gW K n K' n') {t : aT} {v : jv} (hg : aG K n t v) : aG K' n' t v := by
  rcases t with q | _ | q | j
  · obtain ⟨x, rfl, hx⟩ := aG_int hg
    exact hx
  · obtain ⟨x, rfl⟩ := aG_lng hg
    exact trivial
  · obtain ⟨b, k⟩ := q
    rcases aG_ref hg with ⟨rfl, rfl⟩ | ⟨a, rfl, h1, h2⟩
    · exact rfl
    · refine ⟨Nat.lt_of_lt_of_le h1 h.1, ?_⟩
      rw [h.2 a h1]
      exact h2
  · obtain ⟨i, rfl, hi⟩ := aG_rng hg
    exact hi
theorem aR_gw (h : gW K n K' n') {env : List aE} {ρ : List jv} (hR : aR K n env ρ) : aR K' n' env ρ := ⟨hR.1, fun i e v he hv => ⟨aG_gw h (hR.2 i e v he hv).1, (hR.2 i e v he hv).2⟩⟩
theorem aFr_gw (h : gW K n K' n') {md : List (Nat × Nat)} {σ0 σ : Nat → jcell} (hf : aFr K n md σ0 σ) : aFr K' n' md (gS n σ0 σ) σ := by
  intro a ha c fs he
  unfold gS at he
  by_cases hn : a < n
  · rw [if_pos hn] at he
    obtain ⟨fs', e1, e2, e3⟩ := hf a hn c fs he
    exact ⟨fs', e1, e2, fun f v hv hm => e3 f v hv (by rw [← h.2 a hn]; exact hm)⟩
  · rw [if_neg hn] at he
    exact ⟨fs, he, rfl, fun f v hv _ => hv⟩
theorem aFa_gw (h : gW K n K' n') {mk : List (Nat × aF)} {ρ0 : List jv} {σ0 σ : Nat → jcell} (hf : aFa K n mk ρ0 σ0 σ) : aFa K' n' mk ρ0 (gS n σ0 σ) σ := by
  intro a ha
  by_cases hn : a < n
  · have e : gS n σ0 σ a = σ0 a := if_pos hn
    obtain ⟨h1, h2⟩ := hf a hn
    refine ⟨fun ty m g he => ?_, fun ty m g he => ?_⟩
    · rw [e] at he
      obtain ⟨g', e1, e2⟩ := h1 ty m g he
      exact ⟨g', e1, fun i hi => e2 i (fun q hq hk => hi q hq (hk.trans (h.2 a hn).symm))⟩
    · rw [e] at he
      obtain ⟨g', e1, e2⟩ := h2 ty m g he
      exact ⟨g', e1, fun i hi => e2 i (fun q hq hk => hi q hq (hk.trans (h.2 a hn).symm))⟩
  · have e : gS n σ0 σ a = σ a := if_neg hn
    refine ⟨fun ty m g he => ⟨g, by rw [← e]; exact he, fun _ _ => rfl⟩, fun ty m g he => ⟨g, by rw [← e]; exact he, fun _ _ => rfl⟩⟩
end GMO
/-- a fact that a call takes away, as it may write a field that the fact looks at -/
noncomputable def gDr (dep : List (List aDe)) (md : List (Nat × Nat)) (r : Nat) : Bool := (aDg dep r).any (fun e => e.2.1.any (fun f => decide ((e.1, f) ∈ md)))
theorem gDr_ok {dep : List (List aDe)} {env : List aE} {cs : List aF} {m : List Nat} {md : List (Nat × Nat)} {mk : List (Nat × aF)} {q : Nat × List Nat} (h : gDr dep md q.1 = true) : aKx dep env cs m md mk q = false := by
  obtain ⟨e, e1, e2⟩ := List.any_eq_true.mp h
  obtain ⟨f, f1, f2⟩ := List.any_eq_true.mp e2
  apply Bool.eq_false_iff.mpr
  intro h9
  unfold aKx at h9
  rw [Bool.and_eq_true] at h9
  have h8 := List.all_eq_true.mp h9.2 e e1
  rw [Bool.and_eq_true] at h8
  have h7 := List.all_eq_true.mp h8.1 f f1
  exact of_decide_eq_true h7 (of_decide_eq_true f2)
theorem aMpf_fx {C : aCf} : ∀ {fs : List (Nat × Nat × Nat)} {S S' : aS} {m m' : List Nat}, aMpf C S m fs = some (S', m') → S'.2.2.2.2.2.2 = S.2.2.2.2.2.2
  | [], S, S', m, m', h => by
    unfold aMpf at h
    cases h
    rfl
  | q :: r, S, S', m, m', h => by
    unfold aMpf at h
    split at h
    next o ho =>
      split at h
      next z hz =>
        have e : z.1.2.2.2.2.2.2 = S.2.2.2.2.2.2 := by
          unfold aRd at hz
          split at hz
          · cases hz; rfl
          · split at hz
            · cases hz; rfl
            · cases hz
        split at h
        · exact (aMpf_fx h).trans e
        · split at h
          · exact (aMpf_fx h).trans e
          · cases h
      next => cases h
    next => cases h
section GCA
variable {K : Nat → Nat} {n : Nat} {P : Type} {F : aFt P} {C : aCf} {JX : (Nat → jcell) → Prop} {ρ0 : List jv} {σ0 : Nat → jcell}
/-- what a call needs and gives, in a world that may have grown -/
theorem aCallG_ok {sh : P → List jv → P} (hS : aShf F sh) (hD : aDp F K n C.2.2.2.2.2.1) (hDT : aDT C.2.2.2.2.2.1 C.1 = true) (hE : C.2.2.2.2.2.2 = ρ0.length) {S : aS} {G : aCon} {p : Nat} {L : List (Nat × aS)} (hb : aCall C S G p = some L) {ρ : List jv} (hx0 : aX ρ0 ρ) {lv : List (Option jv)} {st : List jv} {σ : Nat → jcell} (hc : aCx F (aHp C K n JX ρ0 σ0) K n S ρ lv st σ) : ∃ (vs s : List jv) (ρ1 : List jv) (m : List Nat) (pc : P), st = vs ++ s ∧ vs.length = G.2.2.1 ∧ s.length = (S.2.1.drop G.2.2.1).length ∧ aR K n G.2.2.2.1.1 (aVal ρ1 m) ∧ aMm F pc (aVal ρ1 m) σ G.2.2.2.1.2 ∧ (aVal ρ1 m).take G.2.2.1 = vs.reverse ∧ ∀ (K9 : Nat → Nat) (n9 : Nat) (F9 : aFt P) (JX9 : (Nat → jcell) → Prop) (σ9 : Nat → jcell), gW K n K9 n9 → aShf F9 sh → (∀ f ∈ S.2.2.2.2.2.2, gDr C.2.2.2.2.2.1 G.2.2.2.2.2.1.1 f.1 = true ∨ ∀ (p : P) (vs : List jv) (σ : Nat → jcell), F p f.1 vs σ → F9 p f.1 vs σ) → ∀ (J : jN) (r : Option jv) (σ' : Nat → jcell) (xs : List jv), (aFr K n C.2.2.2.1 σ0 σ' → aFa K n C.2.2.2.2.1 ρ0 σ0 σ' → aFr K9 n9 C.2.2.2.1 σ9 σ' ∧ aFa K9 n9 C.2.2.2.2.1 ρ0 σ9 σ') → aNx F9 (aHp C K9 n9 JX9 ρ0 σ9) K9 n9 J ρ L → aH C.1 K9 n9 σ' → JX9 σ' → aFr K n G.2.2.2.2.2.1.1 σ σ' → aFa K n G.2.2.2.2.2.1.2 (aVal ρ1 m) σ σ' → r.isSome = G.2.2.2.2.1.1.isSome → aR K9 n9 (aPe G) (aVal ρ1 m ++ (r.toList ++ xs)) → aMm F9 pc (aVal ρ1 m ++ (r.toList ++ xs)) σ' G.2.2.2.2.1.2.2.1 → (∃ A ∈ G.2.2.2.2.1.2.2.2, ∀ f ∈ A, aHd (aVal ρ1 m ++ (r.toList ++ xs)) f) → J p lv (r.toList ++ s) σ' := by
  unfold aCall at hb
  split at hb
  next hl =>
    obtain ⟨vs, s, rfl, e1, e2, e3⟩ := aSk_sp hc.2.2.1 hl
    split at hb
    next z hz =>
      obtain ⟨⟨ex, hm⟩, ρ1, x1, c1, hst, hf⟩ := aMpf_ok hz (S := (S.1, S.2.1.drop G.2.2.1, S.2.2.1, S.2.2.2)) (ρ := ρ) (lv := lv) (st := s) (σ := σ) ⟨hc.1, hc.2.1, e2, hc.2.2.2.1, hc.2.2.2.2⟩
      split at hb
      next ms hms =>
        split at hb
        next hq =>
          cases hb
          simp only [Bool.and_eq_true] at hq
          obtain ⟨q1, q2, q3, q4, q5, q6, q7, q8, q9⟩ := hq
          obtain ⟨p9, m1, m2, m3, m4⟩ := c1.2.2.2.1
          obtain ⟨i1, i2⟩ := aAllE_ok c1.1 m3 q1
          obtain ⟨mv, hmv⟩ := aVs_def (ρ := ρ1) (ms := ms) (by rw [c1.1.1]; exact q6)
          have hlen : vs.length = G.2.2.1 := by rw [e1]; unfold aVal; rw [List.length_map]; exact hl
          refine ⟨vs, s, ρ1, z.2, sh p9 mv, rfl, hlen, aSk_len e2, i1, ⟨aMpf_ca hf, aAllB_ok c1.1 i2 m2 q2, aAllN_ok c1.1 m3 i2 q4, aAllY_ok hS i2 hmv m4 q5⟩, ?_, ?_⟩
          · rw [hm]
            have hr : (S.2.1.take G.2.2.1).reverse.length = G.2.2.1 := by rw [List.length_reverse]; exact hl
            unfold aVal
            rw [List.map_append, List.take_append_of_le_length (by rw [List.length_map, hr]; exact Nat.le_refl _), List.take_of_length_le (by rw [List.length_map, hr]; exact Nat.le_refl _), List.map_reverse]
            congr 1
            rw [e1]
            exact aVal_mo x1 e3
          · intro K9 n9 F9 JX9 σ9 hgw hS9 hmo J r σ' xs hfz h h1 h2 h3 h4 h5 h6 h7 h8
            obtain ⟨A, hA, hAf⟩ := h8
            have hlc : (aVal ρ1 z.2).length = G.2.2.2.1.1.length := i1.1
            have hlw : (r.toList ++ xs).length = (G.2.2.2.2.1.1.toList ++ G.2.2.2.2.1.2.1).length := by
              have := h6.1
              unfold aPe at this
              simp only [List.length_append, List.length_map] at this ⊢
              omega
            have hR2 := aR_apps (aR_gw hgw c1.1) h6 hlc
            have hv2 : aVal (ρ1 ++ (r.toList ++ xs)) (z.2 ++ aNew z.1.2.2.1.length (G.2.2.2.2.1.1.toList ++ G.2.2.2.2.1.2.1).length) = aVal ρ1 z.2 ++ (r.toList ++ xs) := by
              rw [← c1.1.1, ← hlw]
              exact aVal_new i2
            have hw2 : aWm (ρ1 ++ (r.toList ++ xs)) (z.2 ++ aNew z.1.2.2.1.length (G.2.2.2.2.1.1.toList ++ G.2.2.2.2.1.2.1).length) := by
              rw [← c1.1.1, ← hlw]
              exact aWm_new i2
            have hml : (z.2 ++ aNew z.1.2.2.1.length (G.2.2.2.2.1.1.toList ++ G.2.2.2.2.1.2.1).length).length = (aPe G).length := by
              have e7 : z.2.length = (aVal ρ1 z.2).length := by unfold aVal; rw [List.length_map]
              unfold aPe aNew
              simp only [List.length_append, List.length_map, List.length_range]
              omega
            rw [← hv2] at h7 hAf
            obtain ⟨n1, n2, n3, n4⟩ := h7
            simp only [aOkp, Bool.and_eq_true] at q9
            obtain ⟨o1, o2⟩ := q9
            have hx2 : aX ρ1 (ρ1 ++ (r.toList ++ xs)) := aX_apps
            obtain ⟨t1, t2, t3, t4⟩ := c1.2.2.2.2
            have hfr := aFr_tr t3 h3 (aSubM_ok q7)
            have hfa := aFa_tr t4 h4 (aSubK_ok c1.1 (hx0.tr x1) hE m3 i2 q8)
            obtain ⟨hfr9, hfa9⟩ := hfz hfr hfa
            have hmm : aMm F9 p9 (ρ1 ++ (r.toList ++ xs)) σ' (aAf C z.1 G z.2 ms).2.2.2 := by
              refine ⟨fun q hq => ?_, (aKc_ok c1.1 m3 i2 m2 h4).mo hx2, fun f hf => (m3 f hf).mo hx2, fun q hq => ?_⟩
              · rcases List.mem_append.mp hq with hq | hq
                · obtain ⟨q0, k1, rfl⟩ := List.mem_map.mp hq
                  have k2 := List.all_eq_true.mp o1 q0 k1
                  simp only [Bool.and_eq_true, decide_eq_true_eq] at k2
                  obtain ⟨a, c, fs, v, w1, w2, w3, w4⟩ := n1 q0 k1
                  have r1 := aRnm_at (m := z.2 ++ aNew z.1.2.2.1.length (G.2.2.2.2.1.1.toList ++ G.2.2.2.2.1.2.1).length) (i := q0.1) (by rw [hml]; exact k2.1)
                  have r2 := aRnm_at (m := z.2 ++ aNew z.1.2.2.1.length (G.2.2.2.2.1.1.toList ++ G.2.2.2.2.1.2.1).length) (i := q0.2.2) (by rw [hml]; exact k2.2)
                  exact ⟨a, c, fs, v, aVal_in r1 (hw2 _ _ r1) w1, w2, w3, aVal_in r2 (hw2 _ _ r2) w4⟩
                · exact ((aKp_ok c1.1 m1 h3).mo hx2) q hq
              · rcases List.mem_append.mp hq with hq | hq
                · obtain ⟨q0, k1, rfl⟩ := List.mem_map.mp hq
                  have k2 := List.all_eq_true.mp o2 q0 k1
                  rw [Bool.and_eq_true] at k2
                  obtain ⟨vs9, v1, v2⟩ := n4 q0 k1
                  obtain ⟨g1, g2⟩ := aGr_ok k2.1
                  have v3 := aVs_val2 hw2 (by rw [hml]; exact k2.2) v1
                  exact ⟨vs9 ++ mv, aVs_app2 v3 (aVs_mo hx2 hmv), (hS9.1 p9 q0.1 vs9 mv σ' g1 (by rw [aVs_len v1]; exact g2)).mpr v2⟩
                · obtain ⟨vs9, v1, v2⟩ := ((aKx_ok hD hDT c1.1 m3 i2 t1 m4 h3 h4).mo hx2) q hq
                  have e9 := aMpf_fx hz
                  rcases hmo q (by
                    rw [← show z.1.2.2.2.2.2.2 = S.2.2.2.2.2.2 from e9]
                    exact (List.mem_filter.mp hq).1) with hm9 | hm9
                  · exact absurd (List.mem_filter.mp hq).2 (by rw [gDr_ok hm9]; decide)
                  · exact ⟨vs9, v1, hm9 p9 vs9 σ' v2⟩
            have hfs : ∀ f ∈ (A ++ G.2.2.2.2.1.2.2.1.2.2.1).filterMap (aSb2 (z.1.2.2.1 ++ (G.2.2.2.2.1.1.toList ++ G.2.2.2.2.1.2.1).map (fun t => (t, none))) (z.2 ++ aNew z.1.2.2.1.length (G.2.2.2.2.1.1.toList ++ G.2.2.2.2.1.2.1).length)), aHd (ρ1 ++ (r.toList ++ xs)) f := fun f hf => by
              obtain ⟨g, k1, k2⟩ := List.mem_filterMap.mp hf
              obtain ⟨y, y1, y2⟩ := aSb2_ok hR2 hw2 k2
              have hg9 : aHd _ g := (List.mem_append.mp k1).elim (hAf g) (n3 g)
              obtain ⟨w, w1, w2⟩ := aHd_va.mp hg9
              have := aVa_f y1 w1
              exact aHd_va.mpr ⟨y, y2, by omega⟩
            have hst9 : aSk (ρ1 ++ (r.toList ++ xs)) (aAf C z.1 G z.2 ms).2.1 (r.toList ++ s) := by
              have hs9 := c1.2.2.1.mo hx2
              cases hrt : G.2.2.2.2.1.1 with
              | none =>
                rw [hrt] at h5
                cases r with
                | none => simp only [aAf, hrt]; exact hs9
                | some v => cases h5
              | some t =>
                rw [hrt] at h5
                cases r with
                | none => cases h5
                | some v =>
                  simp only [aAf, hrt]
                  refine ⟨?_, hs9⟩
                  rw [← c1.1.1, List.getElem?_append_right (Nat.le_refl _)]
                  simp
            have hcx9 : aCx F9 (aHp C K9 n9 JX9 ρ0 σ9) K9 n9 (aAf C z.1 G z.2 ms) (ρ1 ++ (r.toList ++ xs)) lv (r.toList ++ s) σ' := ⟨hR2, c1.2.1.mo hx2, hst9, ⟨p9, hmm⟩, h1, h2, hfr9, hfa9⟩
            exact aBs_ok (p := p) hcx9 hst9 hfs (fun q hq ρ2 lv2 st2 σ2 hxx hcc => h q (List.mem_flatMap.mpr ⟨A, hA, hq⟩) ρ2 lv2 st2 σ2 ((x1.tr hx2).tr hxx) hcc)
        next => cases hb
      next => cases hb
    next => cases hb
  next => cases hb
end GCA
