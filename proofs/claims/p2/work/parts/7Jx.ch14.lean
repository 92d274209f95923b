/-! ChessHouse.answerEnds -/
theorem d_CH_answerEnds_30 : decode prog_1_method_46_code 30 = .ok (.invokevirtual 503, 3) := by decide +kernel
theorem q_CH_answerEnds_30 : jlm lw_tbl 1805 "ChessHouse" 503 ⟨"ChessHouse$Endings", "prepare", "(LChessHouse$Board;)V"⟩ = true := jlm_of (Or.inl (jtF_ok rfl))
def okm (q : Nat × Nat) : Bool := (Nat.blt q.1 55 || Nat.beq q.1 114) && (!(Nat.beq q.1 23 && (Nat.beq q.2 3 || (Nat.beq q.2 4 || (Nat.beq q.2 5 || Nat.beq q.2 7)))) && !(Nat.beq q.1 0 && (Nat.beq q.2 10 || Nat.beq q.2 11)))
def okk (q : Nat × aF) : Bool := Nat.blt q.1 55 || Nat.beq q.1 114
/-- the two games of the house are those that they were -/
def cG (σ0 σ : Nat → jcell) (ch : Nat) : Prop := ∀ c fs, σ0 ch = .inr (c, fs) → ∃ fs', σ ch = .inr (c, fs') ∧ fs'[10]? = fs[10]? ∧ fs'[11]? = fs[11]?
theorem cG_tr {σ0 σ σ' : Nat → jcell} {ch : Nat} (h : cG σ0 σ ch) (h2 : cG σ σ' ch) : cG σ0 σ' ch := fun c fs e => by
  obtain ⟨f1, e1, a1, b1⟩ := h c fs e
  obtain ⟨f2, e2, a2, b2⟩ := h2 c f1 e1
  exact ⟨f2, e2, a2.trans a1, b2.trans b1⟩
theorem cG_eq {σ σ' : Nat → jcell} {ch : Nat} (h : σ' ch = σ ch) : cG σ σ' ch := fun c fs e => ⟨fs, h.trans e, rfl, rfl⟩
theorem cG_fr {K : Nat → Nat} {n : Nat} {md : List (Nat × Nat)} {σ σ' : Nat → jcell} {ch : Nat} (h : aFr K n md σ σ') (hc : ch < n) (hk : K ch = 0) (hm : md.all okm = true) : cG σ σ' ch := fun c fs e => by
  obtain ⟨fs', e1, e2, e3⟩ := h ch hc c fs e
  have nm : ∀ f, (f = 10 ∨ f = 11) → ¬ (K ch, f) ∈ md := fun f hf hq => by
    have h9 := List.all_eq_true.mp hm _ hq
    rw [hk] at h9
    rcases hf with rfl | rfl
    all_goals exact absurd h9 (by decide)
  have g : ∀ f, (f = 10 ∨ f = 11) → fs'[f]? = fs[f]? := fun f hf => by
    cases hv : fs[f]? with
    | none => exact List.getElem?_eq_none (by rw [e2]; exact List.getElem?_eq_none_iff.mp hv)
    | some v => exact e3 f v hv (nm f hf)
  exact ⟨fs', e1, g 10 (Or.inl rfl), g 11 (Or.inr rfl)⟩
def aEI (K0 : Nat → Nat) (n0 : Nat) (σ0 : Nat → jcell) (ch en ga : Nat) (K : Nat → Nat) (n : Nat) (σ : Nat → jcell) : Prop := aH fa_T K n σ ∧ fJX K n σ ∧ cJ K n σ en ∧ gW K0 n0 K n ∧ (∀ a, n0 ≤ a → a < n → tb4 (K a)) ∧ (∀ a, a < n → zPl (σ a)) ∧ fTG K n σ ga ∧ fS K0 n0 σ0 σ ∧ cG σ0 σ ch ∧ tC K0 n0 ≤ tC K n ∧ tS K0 n0 ≤ tS K n
section AIS
variable {K0 K K' : Nat → Nat} {n0 n n' ch en ga : Nat} {σ0 σ σ' : Nat → jcell}
theorem aEI_0 (h : aH fa_T K n σ) (hX : fJX K n σ) (hJ : cJ K n σ en) (hz : ∀ a, a < n → zPl (σ a)) (ht : fTG K n σ ga) : aEI K n σ ch en ga K n σ := ⟨h, hX, hJ, gW_rf, fun a g1 g2 => absurd g2 (Nat.not_lt.mpr g1), hz, ht, fun _ _ _ => rfl, cG_eq rfl, Nat.le_refl _, Nat.le_refl _⟩
theorem aEI_fr {md : List (Nat × Nat)} {mk : List (Nat × aF)} {ρ : List jv} (h : aEI K0 n0 σ0 ch en ga K n σ) (hc : ch < n0) (hk : K0 ch = 0) (h1 : aH fa_T K n σ') (h2 : fJX K n σ') (h3 : aFr K n md σ σ') (h4 : aFa K n mk ρ σ σ') (ht : fTG K n σ' ga) (hm : md.all okm = true) (hk2 : mk.all okk = true) : aEI K0 n0 σ0 ch en ga K n σ' := by
  obtain ⟨-, -, i3, i4, i5, i6, -, i8, i9, ia, ib⟩ := h
  have m1 : md.all (fun q => Nat.blt q.1 55 || Nat.beq q.1 114) = true := List.all_eq_true.mpr (fun q hq => by
    have h9 := List.all_eq_true.mp hm q hq
    unfold okm at h9
    rw [Bool.and_eq_true] at h9
    exact h9.1)
  have m2 : md.all (fun q => !(Nat.beq q.1 23 && (Nat.beq q.2 3 || (Nat.beq q.2 4 || (Nat.beq q.2 5 || Nat.beq q.2 7))))) = true := List.all_eq_true.mpr (fun q hq => by
    have h9 := List.all_eq_true.mp hm q hq
    unfold okm at h9
    rw [Bool.and_eq_true, Bool.and_eq_true] at h9
    exact h9.2.1)
  have hs := fS_of h3 h4 i6 m1 hk2
  refine ⟨h1, h2, cJ_fr i3 h3 h4 m2, i4, i5, zP_of h1 (fun a ha hk9 => ?_), ht, fun a ha hf => ?_, cG_tr i9 (cG_fr h3 (Nat.lt_of_lt_of_le hc i4.1) ((i4.2 ch hc).trans hk) hm), ia, ib⟩
  · rw [hs a ha (Or.inr hk9)]
    exact i6 a ha
  · rw [hs a (Nat.lt_of_lt_of_le ha i4.1) (by rw [i4.2 a ha]; exact hf)]
    exact i8 a ha hf
theorem aEI_pI (h : aEI K0 n0 σ0 ch en ga K n σ) (hc : ch < n0) (hk : K0 ch = 0) (h2 : pI K n σ en K' n' σ') : aEI K0 n0 σ0 ch en ga K' n' σ' := by
  obtain ⟨i1, i2, i3, i4, i5, i6, i7, i8, i9, ia, ib⟩ := h
  obtain ⟨j1, j2, j3, j4, j5, j6, j7, j8, j9⟩ := h2
  have hne : ∀ a, a < n → ¬ K a = 23 → a ≠ en := fun a ha hk9 e => hk9 (by rw [e]; exact i3.2.1)
  refine ⟨j1, j2, j3, gW_tr i4 j4, fun a g1 g2 => ?_, j6, fTG_gy (fun a ha g1 g2 => ⟨Nat.lt_of_lt_of_le ha j4.1, j4.2 a ha, j7 a ha (hne a ha (by omega)) (by unfold tb4; omega)⟩) i7, fun a ha hf => ?_, cG_tr i9 (cG_eq (j7 ch (Nat.lt_of_lt_of_le hc i4.1) ?_ ?_)), Nat.le_trans ia j8, Nat.le_trans ib j9⟩
  · by_cases h9 : a < n
    · rw [j4.2 a h9]
      exact i5 a g1 h9
    · exact j5 a (Nat.le_of_not_lt h9) g2
  · have ha2 := Nat.lt_of_lt_of_le ha i4.1
    have hk9 : K a = K0 a := i4.2 a ha
    unfold fo1 at hf
    rw [j7 a ha2 (hne a ha2 (by omega)) (by unfold tb4; omega)]
    exact i8 a ha (by unfold fo1; exact hf)
  · exact hne ch (Nat.lt_of_lt_of_le hc i4.1) (by rw [i4.2 ch hc, hk]; decide)
  · rw [i4.2 ch hc, hk]
    unfold tb4
    decide
theorem fTG_F {p : fP} (h : fTG K n σ ga) : fF K n p 1601 [fR ga] σ := (fF_b (r := 1601) (by decide) rfl).mpr (fTG_to h)
theorem F_fTG {p : fP} (h : fF K n p 1601 [fR ga] σ) : fTG K n σ ga := fTG_of ((fF_b (r := 1601) (by decide) rfl).mp h)
end AIS
/-- a field of the house, of a game -/
theorem ob_f {K : Nat → Nat} {n a f k c : Nat} {σ : Nat → jcell} {ts : List aT} {j : Nat} (h : aH fa_T K n σ) (ha : a < n) (hk : K a = k) (hT : fa_T[k]? = some (.inr (c, ts))) (ht : ts[f]? = some (.inr (some (.inl (false, j))))) (hj : ¬ j = 99999) : ∃ fs b, σ a = .inr (c, fs) ∧ fs[f]? = some (.inr (.inr (some (.inl b)))) ∧ b < n ∧ K b = j := by
  obtain ⟨fs, e1, e2, e3⟩ := aCe_obj (h a ha _ (by rw [hk]; exact hT))
  have hl : f < fs.length := by rw [e2]; exact (List.getElem?_eq_some_iff.mp ht).1
  obtain ⟨b, b1, b2, b3⟩ := aG_obj hj (e3 f _ _ ht (List.getElem?_eq_getElem hl))
  exact ⟨fs, b, e1, by rw [List.getElem?_eq_getElem hl, b1], b2, b3⟩
section AEZ
variable {l : Launch} {E : jE}
def eRm (K : Nat → Nat) (n : Nat) : Room := { frames := 7, cells := 5 - tC K n, slots := 638976 - tS K n, locals := 155 }
set_option maxRecDepth 100000 in
set_option maxHeartbeats 4000000 in
theorem cz_answerEnds {K : Nat → Nat} {n : Nat} {σ : Nat → jcell} {ch en ga : Nat} {fs : List jv} (h : aH fa_T K n σ) (hX : fJX K n σ) (hJ : cJ K n σ en) (hz : ∀ a, a < n → zPl (σ a)) (hc : ch < n) (hk : K ch = 0) (hs : σ ch = .inr (0, fs)) (hg : fs[10]? = some (.inr (.inr (some (.inl ga))))) (hg1 : ga < n) (hg2 : K ga = 25) (ht : fTG K n σ ga) : jMet l E jcl jtb lw_tbl y_CH_answerEnds (eRm K n) [.inr (.inr (some (.inl ch)))] σ n (fun r σ' n' => r = none ∧ ∃ K', aEI K n σ ch en ga K' n' σ') := by
  obtain ⟨fg, bo, b1, b2, b3, b4⟩ := ob_f h hg1 hg2 (f := 0) rfl rfl (by decide)
  refine zc_CHanswerEndsG (l := l) (E := E) _ (eRm K n) ⟨Nat.le_of_ble_eq_true rfl, Nat.le_of_ble_eq_true rfl⟩ K n bP0 σ [.inr (.inr (some (.inl ch))), .inr (.inr (some (.inl ga))), .inr (.inr (some (.inl bo)))] h hX ⟨rfl, fun i e v he hv => ?_⟩ ⟨aAllc ⟨ch, 0, fs, _, rfl, hs, hg, rfl⟩ (aAllc ⟨ga, _, fg, _, rfl, b1, b2, rfl⟩ (fun q hq => by cases hq)), fun q hq => (by cases hq), fun q hq => (by cases hq), aAllc ⟨_, rfl, fTG_F ht⟩ (fun q hq => by cases hq)⟩ (fun w => ∃ K' n' σ', w = (K', n', σ', tC K' n' - tC K n, tS K' n' - tS K n) ∧ aEI K n σ ch en ga K' n' σ') ⟨K, n, σ, by rw [Nat.sub_self, Nat.sub_self], aEI_0 h hX hJ hz ht⟩ (fun G hG => by cases hG) ?_ ?_
  · match i, he, hv with
    | 0, he, hv => cases he; cases hv; exact ⟨⟨hc, Or.inl hk⟩, trivial⟩
    | 1, he, hv => cases he; cases hv; exact ⟨⟨hg1, Or.inl hg2⟩, trivial⟩
    | 2, he, hv => cases he; cases hv; exact ⟨⟨b3, Or.inl b4⟩, trivial⟩
    | i + 3, he, _ => cases he
  · rintro K1 n1 σ1 ca sl ⟨K', n', σ', hw, hp⟩
    cases hw
    have r := cJ_rm hp.2.2.1
    refine ⟨⟨?_, ?_⟩, fun r σ2 hpo => ?_⟩
    · show _ ≤ 5 - tC K n
      omega
    · show _ ≤ 638976 - tS K n
      omega
    · obtain ⟨-, p1, p2, p3, p4, p5, xs, p6, p7, -⟩ := hpo
      obtain ⟨vs, v1, v2⟩ := p7.2.2.2 (1601, [1]) (List.mem_of_getElem? (i := 0) rfl)
      obtain rfl : [fR ga] = vs := Option.some.inj v1
      refine ⟨?_, K1, aEI_fr hp hc hk p1 p2 p3 p4 (F_fTG v2) (by decide +kernel) (by decide +kernel)⟩
      cases r with
      | none => rfl
      | some v => cases p5
  · intro M hl hR hsz X hr hok c hcm hce K1 n1 σ1 ca sl hw ρ' lv st σ2 hx hcx IH
    have h30 : c = ((30, ([some 0], [2, 3], [(.inr (some (.inl (false, 0))), none), (.inr (some (.inl (false, 25))), none), (.inr (some (.inl (false, 26))), none), (.inr (some (.inl (false, 23))), none)], ([(0, 10, 1), (1, 0, 2)], [], [], [(0, []), (1601, [1])])), [.inr (.inl 1)], [([], 1)]) : aCu) := by
      rcases List.mem_cons.mp hcm with rfl | hcm
      · rfl
      · rcases List.mem_cons.mp hcm with rfl | hcm
        · exact absurd hce (by decide)
        · rcases List.mem_cons.mp hcm with rfl | hcm
          · exact absurd hce (by decide)
          · cases hcm
    subst h30
    obtain ⟨K', n', σ', hw, hp⟩ := hw
    cases hw
    obtain ⟨r1, r2, r3, ⟨pp, m1, -, -, m4⟩, g1, g2, g3, g4⟩ := hcx
    have x0 : ρ'[0]? = some (.inr (.inr (some (.inl ch)))) := hx 0 _ rfl
    have x1 : ρ'[1]? = some (.inr (.inr (some (.inl ga)))) := hx 1 _ rfl
    have x2 : ρ'[2]? = some (.inr (.inr (some (.inl bo)))) := hx 2 _ rfl
    obtain ⟨vs, v1, v2⟩ := m4 (1601, [1]) (List.mem_of_getElem? (i := 1) rfl)
    have hvs : vs = [fR ga] := by
      unfold aVs at v1
      rw [x1] at v1
      exact (Option.some.inj v1).symm
    subst hvs
    have hp2 := aEI_fr hp hc hk g1 g2 g3 g4 (F_fTG (show fF K1 n1 pp 1601 [fR ga] σ2 from v2)) (by decide +kernel) (by decide +kernel)
    cases st with
    | nil => exact r3.elim
    | cons w0 st =>
      cases st with
      | nil => exact r3.2.elim
      | cons w1 st =>
        cases st with
        | cons _ _ => exact r3.2.2.elim
        | nil =>
          have y2 := r3.1
          rw [x2] at y2
          obtain rfl := Option.some.inj y2
          obtain ⟨e9, rfl, e1, e2⟩ := aG_obj (by decide) (r1.2 3 _ w1 rfl r3.2.1).1
          obtain rfl := hp2.2.2.1.2.2.1 e9 e1 e2
          obtain ⟨fe, s1, -⟩ := aCe_obj (g1 e9 e1 _ (by rw [e2]; exact tEN_T))
          have w := hp2.2.2.2.1
          have rr := cJ_rm hp2.2.2.1
          have hib := hp2.2.2.2.2.2.2.2.2.2
          refine jk_Vg (show jX E "ChessHouse" lw_tbl jcl jtb _ _ _ M from X) hR d_CH_answerEnds_30 q_CH_answerEnds_30 m_EN_prepare i_EN_prepare e_EN_prepare (ci := 8) rfl rfl e1 s1 (cz_prepare (l := M.2.1) g1 g2 hp2.2.2.1 hp2.2.2.2.2.2.1 (Nat.lt_of_lt_of_le b3 w.1) ((w.2 bo b3).trans b4)) rfl rfl ⟨Nat.le_of_ble_eq_true rfl, Nat.le_of_ble_eq_true rfl⟩ rfl rfl ⟨?_, ?_⟩ (Nat.le_of_ble_eq_true rfl) (pc' := 33) rfl ?_
          · show _ + (5 - _) ≤ 5 - _
            omega
          · show _ + (638976 - _) ≤ 638976 - _
            omega
          · rintro _ σ3 n3 ⟨rfl, K3, h3⟩
            have hp3 := aEI_pI hp2 hc hk h3
            have w3 := hp3.2.2.2.1
            refine jJ_ti hsz (gTi_w (wR_gw w3 hp3.2.2.2.2.1) hp3.1) ?_
            obtain ⟨f3, q1, q2, -⟩ := hp3.2.2.2.2.2.2.2.2.1 0 fs hs
            have hga : ga < n1 := Nat.lt_of_lt_of_le hg1 w.1
            have hka : K1 ga = 25 := (w.2 ga hg1).trans hg2
            have c0 : σ3 ga = σ2 ga := h3.2.2.2.2.2.2.1 ga hga (fun e => by rw [e, e2] at hka; exact absurd hka (by decide)) (by rw [hka]; unfold tb4; decide)
            obtain ⟨a9, c9, fg3, v9, z1, z2, z3, z4⟩ := m1 (1, 0, 2) (List.mem_of_getElem? (i := 1) rfl)
            rw [show ρ'[(1, 0, 2).1]? = some (.inr (.inr (some (.inl ga)))) from x1] at z1
            rw [show ρ'[(1, 0, 2).2.2]? = some (.inr (.inr (some (.inl bo)))) from x2] at z4
            cases z1
            cases z4
            refine IH K3 n3 σ3 _ _ ⟨K3, n3, σ3, rfl, hp3⟩ ((33, ([some 0], [], [(.inr (some (.inl (false, 0))), none), (.inr (some (.inl (false, 25))), none), (.inr (some (.inl (false, 26))), none)], ([(0, 10, 1), (1, 0, 2)], [], [], [(1601, [1])])), [], [([], 0)]) : aCu) (List.mem_of_getElem? (i := 1) rfl) [.inr (.inr (some (.inl ch))), .inr (.inr (some (.inl ga))), .inr (.inr (some (.inl bo)))] _ [] σ3 ⟨rfl, Or.inl Nat.zero_lt_one⟩ aX_rf ⟨⟨rfl, fun i e v he hv => ?_⟩, ⟨?_, fun i k hk => ?_⟩, trivial, ⟨bP0, aAllc ⟨ch, 0, f3, _, rfl, q1, q2.trans hg, rfl⟩ (aAllc ⟨ga, _, fg3, _, rfl, c0.trans z2, z3, rfl⟩ (fun q hq => by cases hq)), fun q hq => (by cases hq), fun q hq => (by cases hq), aAllc ⟨_, rfl, fTG_F (p := bP0) hp3.2.2.2.2.2.2.1⟩ (fun q hq => by cases hq)⟩, hp3.1, hp3.2.1, aFr_rf, aFa_rf⟩
            · match i, he, hv with
              | 0, he, hv => cases he; cases hv; exact ⟨⟨Nat.lt_of_lt_of_le hc w3.1, Or.inl ((w3.2 ch hc).trans hk)⟩, trivial⟩
              | 1, he, hv => cases he; cases hv; exact ⟨⟨Nat.lt_of_lt_of_le hg1 w3.1, Or.inl ((w3.2 ga hg1).trans hg2)⟩, trivial⟩
              | 2, he, hv => cases he; cases hv; exact ⟨⟨Nat.lt_of_lt_of_le b3 w3.1, Or.inl ((w3.2 bo b3).trans b4)⟩, trivial⟩
              | i + 3, he, _ => cases he
            · exact r2.1
            · match i, hk with
              | 0, hk =>
                cases hk
                obtain ⟨u, u1, u2⟩ := r2.2 0 0 rfl
                rw [x0] at u1
                obtain rfl := Option.some.inj u1
                exact ⟨_, rfl, u2⟩
              | i + 1, hk => cases hk
end AEZ
