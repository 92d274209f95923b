/-! ChessHouse.perform -/
noncomputable def kk_CH_perform_345 : List jI := [(.aload_n 0, 1, (0, 0, 0, 0, 0)), (.invokevirtual 226, 3, (0, 0, 0, 0, 0)), (.goto 36, 3, (385, 0, 0, 0, 0)), (.aload_n 0, 1, (0, 0, 0, 0, 0)), (.invokevirtual 229, 3, (0, 0, 0, 0, 0)), (.goto 29, 3, (385, 0, 0, 0, 0)), (.aload_n 0, 1, (0, 0, 0, 0, 0)), (.invokevirtual 232, 3, (0, 0, 0, 0, 0)), (.goto 22, 3, (385, 0, 0, 0, 0)), (.aload_n 0, 1, (0, 0, 0, 0, 0)), (.invokevirtual 235, 3, (0, 0, 0, 0, 0)), (.goto 15, 3, (385, 0, 0, 0, 0)), (.aload_n 0, 1, (0, 0, 0, 0, 0)), (.invokevirtual 238, 3, (0, 0, 0, 0, 0)), (.goto 8, 3, (385, 0, 0, 0, 0)), (.aload_n 0, 1, (0, 0, 0, 0, 0)), (.iconst 1, 1, (0, 0, 0, 1, 0)), (.invokevirtual 241, 3, (0, 0, 0, 0, 0)), (.return_, 1, (0, 0, 0, 0, 0))]
theorem oo_CH_perform_345 : jokL "ChessHouse" lw_tbl jcl jtb 5 false prog_1_method_8_code 345 kk_CH_perform_345 = true := jokLF_ok (fun _ _ => jtF_ok) lo_CH (by decide +kernel)
noncomputable def k_CH_perform_377 : List jI := [(.goto 8, 3, (385, 0, 0, 0, 0))]
theorem o_CH_perform_377 : jokL "ChessHouse" lw_tbl jcl jtb 5 false prog_1_method_8_code 377 k_CH_perform_377 = true := jok_sub oo_CH_perform_345 14 1 rfl rfl
theorem d_CH_perform_374 : decode prog_1_method_8_code 374 = .ok (.invokevirtual 238, 3) := by decide +kernel
theorem q_CH_perform_374 : jlm lw_tbl 1797 "ChessHouse" 238 ⟨"ChessHouse", "answerEnds", "()V"⟩ = true := jlm_of (Or.inl (jtF_ok rfl))
theorem d_CH_perform_385 : decode prog_1_method_8_code 385 = .ok (.return_, 1) := by decide +kernel
section PFZ
variable {l : Launch} {E : jE}
noncomputable def fRm (K : Nat → Nat) (n : Nat) : Room := { frames := 14, cells := 5 - tC K n, slots := 638976 - tS K n, locals := 422 }
noncomputable def fPo (K : Nat → Nat) (n : Nat) (σ : Nat → jcell) (ch en : Nat) : jPo := fun r σ' n' => r = none ∧ ∃ K', wR K n K' n' ∧ cI K' n' σ' ch en ∧ fS2 K n σ σ'
noncomputable def pA_147 : aCu := (147, ([none, none, none, none, none], [0], [(.inr (some (.inl (false, 0))), none), (.inr (some (.inr 31003027)), none), (.inl (0, 65536), none), (.inr (some (.inl (false, 25))), none), (.inr (some (.inl (false, 26))), none), (.inr (some (.inl (false, 6))), none), (.inr (some (.inl (false, 1))), none), (.inl (0, 65536), none), (.inl (0, 65536), none), (.inl (0, 65537), none)], ([(0, 10, 3), (3, 0, 4), (0, 2, 5), (5, 3, 6), (5, 2, 7), (5, 4, 8), (0, 13, 9)], [], [], [(0, []), (1601, [3])])), [], [([], 0)])
noncomputable def pA_165 : aCu := (165, ([some 0, none, none, some 9, some 10], [], [(.inr (some (.inl (false, 0))), none), (.inr (some (.inr 31003027)), none), (.inl (0, 65536), none), (.inr (some (.inl (false, 25))), none), (.inr (some (.inl (false, 26))), none), (.inr (some (.inl (false, 6))), none), (.inr (some (.inl (false, 1))), none), (.inl (0, 65536), none), (.inl (0, 65536), none), (.inl (0, 65537), none), (.inl (0, 65537), none), (.inl (0, 65538), none)], ([(0, 10, 3), (3, 0, 4), (0, 2, 5), (5, 3, 6), (5, 2, 7), (5, 4, 8), (0, 13, 11)], [], [], [(0, []), (1601, [3])])), [.inl 4, .inr (.inr (0, 13))], [([], 1)])
noncomputable def pA_374 : aCu := (374, ([none, none, none, none, none], [0], [(.inr (some (.inl (false, 0))), none), (.inr (some (.inr 31003027)), none), (.inl (0, 65536), none), (.inr (some (.inl (false, 25))), none), (.inr (some (.inl (false, 26))), none), (.inr (some (.inl (false, 6))), none), (.inr (some (.inl (false, 1))), none), (.inl (0, 65536), none), (.inl (0, 65536), none), (.inl (0, 65537), none)], ([(0, 10, 3), (3, 0, 4), (0, 2, 5), (5, 3, 6), (5, 2, 7), (5, 4, 8), (0, 13, 9)], [], [], [(0, []), (1601, [3])])), [], [([], 2)])
noncomputable def pB_147 : aCu := (147, ([none, none, none, none, none], [0], [(.inr (some (.inl (false, 0))), none), (.inr (some (.inr 31003027)), none), (.inl (0, 65536), none), (.inr (some (.inl (false, 99999))), none), (.inr (some (.inl (false, 25))), none), (.inr (some (.inl (false, 26))), none), (.inr (some (.inl (false, 6))), none), (.inr (some (.inl (false, 1))), none), (.inl (0, 65536), none), (.inl (0, 65536), none)], ([(0, 10, 3), (0, 11, 4), (4, 0, 5), (0, 2, 6), (6, 3, 7), (6, 2, 8), (6, 4, 9)], [], [], [(0, [])])), [], [([], 0)])
noncomputable def pB_165 : aCu := (165, ([some 0, none, none, some 10, some 11], [], [(.inr (some (.inl (false, 0))), none), (.inr (some (.inr 31003027)), none), (.inl (0, 65536), none), (.inr (some (.inl (false, 99999))), none), (.inr (some (.inl (false, 25))), none), (.inr (some (.inl (false, 26))), none), (.inr (some (.inl (false, 6))), none), (.inr (some (.inl (false, 1))), none), (.inl (0, 65536), none), (.inl (0, 65536), none), (.inl (0, 65538), none), (.inl (0, 65537), none)], ([(0, 10, 3), (0, 11, 4), (4, 0, 5), (0, 2, 6), (6, 3, 7), (6, 2, 8), (6, 4, 9)], [], [], [(0, [])])), [.inl 3, .inl 4], [([], 1)])
theorem pA_m {c : aCu} (h : c ∈ am_CHperformA.2.2.2.2.2) (he : ([0, 147, 165, 374] : List Nat).any (fun k => Nat.beq k c.1) = true) : c = pA_147 ∨ c = pA_165 ∨ c = pA_374 ∨ ∃ rk, c = (0, aEn ag_CHperformA, [], rk) ∧ gPk am_CHperformA (.inl (0, 27)) 8 c = true := by
  rcases List.mem_cons.mp h with rfl | h
  · exact absurd he (by decide)
  · rcases List.mem_cons.mp h with rfl | h
    · exact Or.inl rfl
    · rcases List.mem_cons.mp h with rfl | h
      · exact Or.inr (Or.inl rfl)
      · rcases List.mem_cons.mp h with rfl | h
        · exact Or.inr (Or.inr (Or.inl rfl))
        · rcases List.mem_cons.mp h with rfl | h
          · exact Or.inr (Or.inr (Or.inr ⟨_, rfl, by decide +kernel⟩))
          · cases h
/-- what the words of a line leave, and where the game of it stands -/
noncomputable def wI (K : Nat → Nat) (n : Nat) (σ : Nat → jcell) (ch w tp : Nat) (sp sa nx : Int32) : Prop := ∃ (fs fw : List jv), σ ch = .inr (0, fs) ∧ fs[2]? = some (.inr (.inr (some (.inl w)))) ∧ fs[13]? = some (.inl nx) ∧ w < n ∧ K w = 6 ∧ σ w = .inr (2, fw) ∧ fw[3]? = some (.inr (.inr (some (.inl tp)))) ∧ tp < n ∧ K tp = 1 ∧ fw[2]? = some (.inl sp) ∧ fw[4]? = some (.inl sa) ∧ aIn (0, 65536) sp ∧ aIn (0, 65536) sa ∧ aIn (0, 65537) nx ∧ sa.toInt ≤ sp.toInt
/-- from a cut of SET or GAME on, in the kinds in which the spare game is known -/
theorem pB_go {M : jM} {K : Nat → Nat} {n : Nat} {σ σ2 : Nat → jcell} {ch en g bo w tp : Nat} {pl sp sa nx x3 x4 : Int32} {ci : Nat} {fs : List jv} (hl : M.2.1 = l) (hR : M.2.2.2.1 = fRm K n) (hsz : M.2.2.2.2.1.heap.size = E.2.2.2 + n) (X : jX E "ChessHouse" lw_tbl jcl jtb 5 false prog_1_method_8_code M) (hr : M.2.2.2.2.2.2.2.2.1.sig.returnType = none) (hi : cI K n σ ch en) (hi2 : cI K n σ2 ch en) (hf2 : fS K n σ σ2) (hs : σ2 ch = .inr (0, fs)) (hg : fs[10]? = some (.inr (.inr (some (.inl g))))) (hci : aG K n (.inr (some (.inr 31003027))) (.inr (.inr (some (.inr ci))))) (hpl : aIn (0, 65536) pl) (hw2 : fs[2]? = some (.inr (.inr (some (.inl w))))) (hwn : w < n) (hwk : K w = 6) {fw : List jv} (hws : σ2 w = .inr (2, fw)) (hw3 : fw[3]? = some (.inr (.inr (some (.inl tp))))) (htn : tp < n) (htk : K tp = 1) (hwp : fw[2]? = some (.inl sp)) (hwa : fw[4]? = some (.inl sa)) (h7 : aIn (0, 65536) sp) (h8 : aIn (0, 65536) sa) {lv : List (Option jv)} {st : List jv} {c : aCu} (hc : (c = pB_147 ∧ st = [.inr (.inr (some (.inl ch)))] ∧ lv.length = 5) ∨ (c = pB_165 ∧ st = [] ∧ lv.length = 5 ∧ lv[0]? = some (some (.inr (.inr (some (.inl ch))))) ∧ lv[3]? = some (some (.inl x3)) ∧ lv[4]? = some (some (.inl x4)) ∧ aIn (0, 65538) x3 ∧ aIn (0, 65537) x4)) : jJ E jcl 5 M (jQ E jcl M (fPo K n σ ch en) (fRm K n).cells (fRm K n).slots) n 0 0 c.1 lv st σ2 := by
  have hh := hi2
  obtain ⟨i1, i2, i3, i4, i5, i6, i7, i8, fs0, g0, s, e0, e1, e2, e3, e4, e5, e6, e7⟩ := hh
  rw [hs] at e0
  obtain rfl := (Prod.mk.inj (Sum.inr.inj e0)).2
  rw [hg] at e1
  cases e1
  have ks : cK K s = 25 := by
    show sK (K s) = 25
    rw [e6]
    rfl
  have kc : cK K ch = 0 := by
    show sK (K ch) = 0
    rw [i8]
    rfl
  have kw : cK K w = 6 := by
    show sK (K w) = 6
    rw [hwk]
    rfl
  have kt : cK K tp = 1 := by
    show sK (K tp) = 1
    rw [htk]
    rfl
  obtain ⟨fg, sb, b1, b2, b3, b4⟩ := ob_f i2 e5 ks (f := 0) rfl rfl (by decide)
  have hR0 : aR (cK K) n pB_147.2.1.2.2.1 [.inr (.inr (some (.inl ch))), .inr (.inr (some (.inr ci))), .inl pl, .inr (.inr (some (.inl g))), .inr (.inr (some (.inl s))), .inr (.inr (some (.inl sb))), .inr (.inr (some (.inl w))), .inr (.inr (some (.inl tp))), .inl sp, .inl sa] := by
    refine ⟨rfl, fun i e v he hv => ?_⟩
    match i, he, hv with
    | 0, he, hv => cases he; cases hv; exact ⟨⟨i7, Or.inl kc⟩, trivial⟩
    | 1, he, hv => cases he; cases hv; exact ⟨hci, trivial⟩
    | 2, he, hv => cases he; cases hv; exact ⟨hpl, trivial⟩
    | 3, he, hv => cases he; cases hv; exact ⟨⟨e3, Or.inr rfl⟩, trivial⟩
    | 4, he, hv => cases he; cases hv; exact ⟨⟨e5, Or.inl ks⟩, trivial⟩
    | 5, he, hv => cases he; cases hv; exact ⟨⟨b3, Or.inl b4⟩, trivial⟩
    | 6, he, hv => cases he; cases hv; exact ⟨⟨hwn, Or.inl kw⟩, trivial⟩
    | 7, he, hv => cases he; cases hv; exact ⟨⟨htn, Or.inl kt⟩, trivial⟩
    | 8, he, hv => cases he; cases hv; exact ⟨h7, trivial⟩
    | 9, he, hv => cases he; cases hv; exact ⟨h8, trivial⟩
    | i + 10, he, _ => cases he
  have hCa : ∀ x : List jv, aCa ([.inr (.inr (some (.inl ch))), .inr (.inr (some (.inr ci))), .inl pl, .inr (.inr (some (.inl g))), .inr (.inr (some (.inl s))), .inr (.inr (some (.inl sb))), .inr (.inr (some (.inl w))), .inr (.inr (some (.inl tp))), .inl sp, .inl sa] ++ x) σ2 [(0, 10, 3), (0, 11, 4), (4, 0, 5), (0, 2, 6), (6, 3, 7), (6, 2, 8), (6, 4, 9)] := fun x => aAllc ⟨ch, 0, fs, _, rfl, hs, hg, rfl⟩ (aAllc ⟨ch, 0, fs, _, rfl, hs, e2, rfl⟩ (aAllc ⟨s, _, fg, _, rfl, b1, b2, rfl⟩ (aAllc ⟨ch, 0, fs, _, rfl, hs, hw2, rfl⟩ (aAllc ⟨w, 2, fw, _, rfl, hws, hw3, rfl⟩ (aAllc ⟨w, 2, fw, _, rfl, hws, hwp, rfl⟩ (aAllc ⟨w, 2, fw, _, rfl, hws, hwa, rfl⟩ (fun q hq => by cases hq)))))))
  have hpo : ∀ (K1 : Nat → Nat) (n1 : Nat) (σ0 : Nat → jcell) (ca sl : Nat), (K1, n1, σ0, ca, sl) = (cK K, n, σ2, 0, 0) → (ca ≤ (fRm K n).cells ∧ sl ≤ (fRm K n).slots) ∧ ∀ (r : Option jv) (σ' : Nat → jcell), aPo am_CHperformB.2.1 K1 n1 (fJX K1 n1) (fF K1 n1) bP0 [.inr (.inr (some (.inl ch))), .inr (.inr (some (.inr ci))), .inl pl, .inr (.inr (some (.inl g))), .inr (.inr (some (.inl s))), .inr (.inr (some (.inl sb))), .inr (.inr (some (.inl w))), .inr (.inr (some (.inl tp))), .inl sp, .inl sa] σ0 am_CHperformB.2.2.2.1 r σ' n1 → fPo K n σ ch en r σ' n1 := by
    intro K1 n1 σ0 ca sl hw
    cases hw
    refine ⟨⟨Nat.zero_le _, Nat.zero_le _⟩, fun r σ' hp => ?_⟩
    obtain ⟨-, p1, p2, p3, p4, p5, xs, p6, p7, -⟩ := hp
    obtain ⟨vs, v1, v2⟩ := p7.2.2.2 (2019, [0, 3, 4]) (List.mem_of_getElem? (i := 0) rfl)
    obtain rfl : [fR ch, fR g, fR s] = vs := Option.some.inj v1
    obtain ⟨K', k1, k2, k3⟩ := cI_B hi2 hs hg e2 p1 p2 p3 p4 v2 (by decide +kernel) (by decide +kernel) (by decide +kernel)
    refine ⟨?_, K', ?_, k2, fun a ha h1 h2 => (k3 a ha h1 h2).trans (hf2 a ha h1)⟩
    · cases r with
      | none => rfl
      | some v => cases p5
    · rcases k1 with rfl | rfl
      · exact wR_rf
      · exact wR_cK
  rcases hc with ⟨rfl, rfl, h5⟩ | ⟨rfl, rfl, h5, y0, y3, y4, t3, t4⟩
  · exact zc_CHperformB (l := l) (E := E) _ (fRm K n) ⟨Nat.le_of_ble_eq_true rfl, Nat.le_of_ble_eq_true rfl⟩ n bP0 [.inr (.inr (some (.inl ch))), .inr (.inr (some (.inr ci))), .inl pl, .inr (.inr (some (.inl g))), .inr (.inr (some (.inl s))), .inr (.inr (some (.inl sb))), .inr (.inr (some (.inl w))), .inr (.inr (some (.inl tp))), .inl sp, .inl sa] (fun w => w = (cK K, n, σ2, 0, 0)) rfl hpo M hl hR hsz X hr (cK K) n σ2 0 0 rfl pB_147 (List.mem_of_getElem? (i := 0) rfl) [.inr (.inr (some (.inl ch))), .inr (.inr (some (.inr ci))), .inl pl, .inr (.inr (some (.inl g))), .inr (.inr (some (.inl s))), .inr (.inr (some (.inl sb))), .inr (.inr (some (.inl w))), .inr (.inr (some (.inl tp))), .inl sp, .inl sa] lv [.inr (.inr (some (.inl ch)))] σ2 aX_rf ⟨hR0, ⟨h5.symm, fun i k hk => by
      match i, hk with
      | 0, hk => cases hk
      | 1, hk => cases hk
      | 2, hk => cases hk
      | 3, hk => cases hk
      | 4, hk => cases hk
      | i + 5, hk => cases hk⟩, ⟨rfl, trivial⟩, ⟨bP0, hCa [], fun q hq => (by cases hq), fun q hq => (by cases hq), aAllc ⟨[], rfl, rfl⟩ (fun f hf => by cases hf)⟩, i2, i4, aFr_rf, aFa_rf⟩
  · exact zc_CHperformB (l := l) (E := E) _ (fRm K n) ⟨Nat.le_of_ble_eq_true rfl, Nat.le_of_ble_eq_true rfl⟩ n bP0 [.inr (.inr (some (.inl ch))), .inr (.inr (some (.inr ci))), .inl pl, .inr (.inr (some (.inl g))), .inr (.inr (some (.inl s))), .inr (.inr (some (.inl sb))), .inr (.inr (some (.inl w))), .inr (.inr (some (.inl tp))), .inl sp, .inl sa] (fun w => w = (cK K, n, σ2, 0, 0)) rfl hpo M hl hR hsz X hr (cK K) n σ2 0 0 rfl pB_165 (List.mem_of_getElem? (i := 1) rfl) ([.inr (.inr (some (.inl ch))), .inr (.inr (some (.inr ci))), .inl pl, .inr (.inr (some (.inl g))), .inr (.inr (some (.inl s))), .inr (.inr (some (.inl sb))), .inr (.inr (some (.inl w))), .inr (.inr (some (.inl tp))), .inl sp, .inl sa] ++ [.inl x3, .inl x4]) lv [] σ2 aX_apps ⟨⟨rfl, fun i e v he hv => by
      by_cases hi9 : i < 10
      · exact ⟨(hR0.2 i e v (by match i, hi9, he with
          | 0, _, he => exact he
          | 1, _, he => exact he
          | 2, _, he => exact he
          | 3, _, he => exact he
          | 4, _, he => exact he
          | 5, _, he => exact he
          | 6, _, he => exact he
          | 7, _, he => exact he
          | 8, _, he => exact he
          | 9, _, he => exact he
          | i + 10, h9, _ => omega) (by rw [List.getElem?_append_left (show i < 10 from hi9)] at hv; exact hv)).1, by match i, hi9, he with
          | 0, _, he => cases he; trivial
          | 1, _, he => cases he; trivial
          | 2, _, he => cases he; trivial
          | 3, _, he => cases he; trivial
          | 4, _, he => cases he; trivial
          | 5, _, he => cases he; trivial
          | 6, _, he => cases he; trivial
          | 7, _, he => cases he; trivial
          | 8, _, he => cases he; trivial
          | 9, _, he => cases he; trivial
          | i + 10, h9, _ => omega⟩
      · match i, hi9, he, hv with
        | 10, _, he, hv => cases he; cases hv; exact ⟨t3, trivial⟩
        | 11, _, he, hv => cases he; cases hv; exact ⟨t4, trivial⟩
        | i + 12, _, he, _ => cases he⟩, ⟨h5.symm, fun i k hk => by
      match i, hk with
      | 0, hk => cases hk; exact ⟨_, rfl, y0⟩
      | 1, hk => cases hk
      | 2, hk => cases hk
      | 3, hk => cases hk; exact ⟨_, rfl, y3⟩
      | 4, hk => cases hk; exact ⟨_, rfl, y4⟩
      | i + 5, hk => cases hk⟩, trivial, ⟨bP0, hCa [.inl x3, .inl x4], fun q hq => (by cases hq), fun q hq => (by cases hq), aAllc ⟨[], rfl, rfl⟩ (fun f hf => by cases hf)⟩, i2, i4, aFr_rf, aFa_rf⟩
set_option maxRecDepth 100000 in
set_option maxHeartbeats 8000000 in
theorem cz_perform {K : Nat → Nat} {n : Nat} {σ : Nat → jcell} {ch en w tp : Nat} {pl sp sa nx : Int32} {ci : Nat} (hi : cI K n σ ch en) (hw : wI K n σ ch w tp sp sa nx) (hci : aG K n (.inr (some (.inr 31003027))) (.inr (.inr (some (.inr ci))))) (hpl : aIn (0, 65536) pl) : jMet l E jcl jtb lw_tbl y_CH_perform (fRm K n) [.inr (.inr (some (.inl ch))), .inr (.inr (some (.inr ci))), .inl pl] σ n (fPo K n σ ch en) := by
  have hh := hi
  obtain ⟨i1, i2, i3, i4, i5, i6, i7, i8, fs, g, s, e0, e1, e2, e3, e4, e5, e6, e7⟩ := hh
  obtain ⟨fs9, fw, w0, w1, w2, w3, w4, w5, w6, w7, w8, w9, wa, wb, wc, wd, we⟩ := hw
  rw [e0] at w0
  obtain rfl := (Prod.mk.inj (Sum.inr.inj w0)).2
  obtain ⟨fg, bo, b1, b2, b3, b4⟩ := ob_f i1 e3 e4 (f := 0) rfl rfl (by decide)
  refine zc_CHperformA (l := l) (E := E) _ (fRm K n) ⟨Nat.le_of_ble_eq_true rfl, Nat.le_of_ble_eq_true rfl⟩ K n bP0 σ [.inr (.inr (some (.inl ch))), .inr (.inr (some (.inr ci))), .inl pl, .inr (.inr (some (.inl g))), .inr (.inr (some (.inl bo))), .inr (.inr (some (.inl w))), .inr (.inr (some (.inl tp))), .inl sp, .inl sa, .inl nx] i1 i3 ⟨rfl, fun i e v he hv => ?_⟩ ⟨aAllc ⟨ch, 0, fs, _, rfl, e0, e1, rfl⟩ (aAllc ⟨g, _, fg, _, rfl, b1, b2, rfl⟩ (aAllc ⟨ch, 0, fs, _, rfl, e0, w1, rfl⟩ (aAllc ⟨w, 2, fw, _, rfl, w5, w6, rfl⟩ (aAllc ⟨w, 2, fw, _, rfl, w5, w9, rfl⟩ (aAllc ⟨w, 2, fw, _, rfl, w5, wa, rfl⟩ (aAllc ⟨ch, 0, fs, _, rfl, e0, w2, rfl⟩ (fun q hq => by cases hq))))))), fun q hq => (by cases hq), aAllc ?_ (fun q hq => by cases hq), aAllc ⟨_, rfl, fTG_F e7⟩ (fun q hq => by cases hq)⟩ (fun w => w = (K, n, σ, 0, 0)) rfl (fun G hG => by cases hG) ?_ ?_
  · match i, he, hv with
    | 0, he, hv => cases he; cases hv; exact ⟨⟨i7, Or.inl i8⟩, trivial⟩
    | 1, he, hv => cases he; cases hv; exact ⟨hci, trivial⟩
    | 2, he, hv => cases he; cases hv; exact ⟨hpl, trivial⟩
    | 3, he, hv => cases he; cases hv; exact ⟨⟨e3, Or.inl e4⟩, trivial⟩
    | 4, he, hv => cases he; cases hv; exact ⟨⟨b3, Or.inl b4⟩, trivial⟩
    | 5, he, hv => cases he; cases hv; exact ⟨⟨w3, Or.inl w4⟩, trivial⟩
    | 6, he, hv => cases he; cases hv; exact ⟨⟨w7, Or.inl w8⟩, trivial⟩
    | 7, he, hv => cases he; cases hv; exact ⟨wb, trivial⟩
    | 8, he, hv => cases he; cases hv; exact ⟨wc, trivial⟩
    | 9, he, hv => cases he; cases hv; exact ⟨wd, trivial⟩
    | i + 10, he, _ => cases he
  · refine ⟨_, rfl, ?_⟩
    show 0 ≤ 1 * sp.toInt + (-1 * sa.toInt + 0) + 0
    omega
  · intro K1 n1 σ0 ca sl hw
    cases hw
    refine ⟨⟨Nat.zero_le _, Nat.zero_le _⟩, fun r σ' hp => ?_⟩
    obtain ⟨-, p1, p2, p3, p4, p5, xs, p6, p7, -⟩ := hp
    obtain ⟨vs, v1, v2⟩ := p7.2.2.2 (1601, [3]) (List.mem_of_getElem? (i := 0) rfl)
    obtain rfl : [fR g] = vs := Option.some.inj v1
    obtain ⟨k2, k3⟩ := cI_fr hi e0 e1 p1 p2 p3 p4 (F_fTG v2) (by decide +kernel) (by decide +kernel)
    refine ⟨?_, K, wR_rf, k2, fS_2 k3⟩
    cases r with
    | none => rfl
    | some v => cases p5
  · intro M hl hR hsz X hr hok c hcm hce K1 n1 σ0 ca sl hw ρ' lv st σ2 hx hcx IH
    cases hw
    rcases pA_m hcm hce with rfl | rfl | rfl | ⟨rk, rfl, hgp⟩
    · obtain ⟨r1, r2, r3, ⟨pp, m1, -, -, m4⟩, g1, g2, g3, g4⟩ := hcx
      have x0 : ρ'[0]? = some (.inr (.inr (some (.inl ch)))) := hx 0 _ rfl
      have x3' : ρ'[3]? = some (.inr (.inr (some (.inl g)))) := hx 3 _ rfl
      have x5 : ρ'[5]? = some (.inr (.inr (some (.inl w)))) := hx 5 _ rfl
      have x6 : ρ'[6]? = some (.inr (.inr (some (.inl tp)))) := hx 6 _ rfl
      have x7 : ρ'[7]? = some (.inl sp) := hx 7 _ rfl
      have x8 : ρ'[8]? = some (.inl sa) := hx 8 _ rfl
      obtain ⟨vs, v1, v2⟩ := m4 (1601, [3]) (List.mem_of_getElem? (i := 1) rfl)
      have hvs : vs = [fR g] := by
        unfold aVs at v1
        rw [x3'] at v1
        exact (Option.some.inj v1).symm
      subst hvs
      have ht2 : fTG K n σ2 g := F_fTG (show fF K n pp 1601 [fR g] σ2 from v2)
      obtain ⟨hi2, hf2⟩ := cI_fr hi e0 e1 g1 g2 g3 g4 ht2 (by decide +kernel) (by decide +kernel)
      obtain ⟨fs2, q1, q2, -⟩ := cG_fr g3 i7 i8 (by decide +kernel) 0 fs e0
      obtain ⟨a2, cc2, fs3, vv2, z1, z2, z3, z4⟩ := m1 (0, 2, 5) (List.mem_of_getElem? (i := 2) rfl)
      rw [show ρ'[(0, 2, 5).1]? = some (.inr (.inr (some (.inl ch)))) from x0] at z1
      rw [show ρ'[(0, 2, 5).2.2]? = some (.inr (.inr (some (.inl w)))) from x5] at z4
      cases z1
      cases z4
      rw [q1] at z2
      obtain ⟨rfl, rfl⟩ := Prod.mk.inj (Sum.inr.inj z2)
      have c1 := z3
      obtain ⟨a3, cc3, fw2, vv3, z5, c2, c3, z8⟩ := m1 (5, 3, 6) (List.mem_of_getElem? (i := 3) rfl)
      rw [show ρ'[(5, 3, 6).1]? = some (.inr (.inr (some (.inl w)))) from x5] at z5
      rw [show ρ'[(5, 3, 6).2.2]? = some (.inr (.inr (some (.inl tp)))) from x6] at z8
      cases z5
      cases z8
      obtain ⟨fw3, z9, -⟩ := aCe_obj (g1 w w3 _ (by rw [w4]; rfl))
      rw [c2] at z9
      obtain ⟨rfl, rfl⟩ := Prod.mk.inj (Sum.inr.inj z9)
      obtain ⟨a4, cc4, fw4, vv4, y5', y6', c4, y8'⟩ := m1 (5, 2, 7) (List.mem_of_getElem? (i := 4) rfl)
      rw [show ρ'[(5, 2, 7).1]? = some (.inr (.inr (some (.inl w)))) from x5] at y5'
      rw [show ρ'[(5, 2, 7).2.2]? = some (.inl sp) from x7] at y8'
      cases y5'
      cases y8'
      rw [c2] at y6'
      obtain ⟨-, rfl⟩ := Prod.mk.inj (Sum.inr.inj y6')
      obtain ⟨a5, cc5, fw5, vv5, y9', ya', c5, yb'⟩ := m1 (5, 4, 8) (List.mem_of_getElem? (i := 5) rfl)
      rw [show ρ'[(5, 4, 8).1]? = some (.inr (.inr (some (.inl w)))) from x5] at y9'
      rw [show ρ'[(5, 4, 8).2.2]? = some (.inl sa) from x8] at yb'
      cases y9'
      cases yb'
      rw [c2] at ya'
      obtain ⟨-, rfl⟩ := Prod.mk.inj (Sum.inr.inj ya')
      cases st with
      | nil => exact r3.elim
      | cons u st =>
        cases st with
        | cons _ _ => exact r3.2.elim
        | nil =>
          have y0 := r3.1
          rw [show ρ'[0]? = some (.inr (.inr (some (.inl ch)))) from x0] at y0
          cases y0
          exact pB_go (c := pB_147) (pl := pl) (x3 := 0) (x4 := 0) (nx := nx) (bo := bo) hl hR hsz X hr hi hi2 hf2 q1 (q2.trans e1) hci hpl c1 w3 w4 c2 c3 w7 w8 c4 c5 wb wc (Or.inl ⟨rfl, rfl, r2.1.symm⟩)
    · obtain ⟨r1, r2, r3, ⟨pp, m1, -, -, m4⟩, g1, g2, g3, g4⟩ := hcx
      have x0 : ρ'[0]? = some (.inr (.inr (some (.inl ch)))) := hx 0 _ rfl
      have x3' : ρ'[3]? = some (.inr (.inr (some (.inl g)))) := hx 3 _ rfl
      have x5 : ρ'[5]? = some (.inr (.inr (some (.inl w)))) := hx 5 _ rfl
      have x6 : ρ'[6]? = some (.inr (.inr (some (.inl tp)))) := hx 6 _ rfl
      have x7 : ρ'[7]? = some (.inl sp) := hx 7 _ rfl
      have x8 : ρ'[8]? = some (.inl sa) := hx 8 _ rfl
      obtain ⟨vs, v1, v2⟩ := m4 (1601, [3]) (List.mem_of_getElem? (i := 1) rfl)
      have hvs : vs = [fR g] := by
        unfold aVs at v1
        rw [x3'] at v1
        exact (Option.some.inj v1).symm
      subst hvs
      have ht2 : fTG K n σ2 g := F_fTG (show fF K n pp 1601 [fR g] σ2 from v2)
      obtain ⟨hi2, hf2⟩ := cI_fr hi e0 e1 g1 g2 g3 g4 ht2 (by decide +kernel) (by decide +kernel)
      obtain ⟨fs2, q1, q2, -⟩ := cG_fr g3 i7 i8 (by decide +kernel) 0 fs e0
      obtain ⟨a2, cc2, fs3, vv2, z1, z2, z3, z4⟩ := m1 (0, 2, 5) (List.mem_of_getElem? (i := 2) rfl)
      rw [show ρ'[(0, 2, 5).1]? = some (.inr (.inr (some (.inl ch)))) from x0] at z1
      rw [show ρ'[(0, 2, 5).2.2]? = some (.inr (.inr (some (.inl w)))) from x5] at z4
      cases z1
      cases z4
      rw [q1] at z2
      obtain ⟨rfl, rfl⟩ := Prod.mk.inj (Sum.inr.inj z2)
      have c1 := z3
      obtain ⟨a3, cc3, fw2, vv3, z5, c2, c3, z8⟩ := m1 (5, 3, 6) (List.mem_of_getElem? (i := 3) rfl)
      rw [show ρ'[(5, 3, 6).1]? = some (.inr (.inr (some (.inl w)))) from x5] at z5
      rw [show ρ'[(5, 3, 6).2.2]? = some (.inr (.inr (some (.inl tp)))) from x6] at z8
      cases z5
      cases z8
      obtain ⟨fw3, z9, -⟩ := aCe_obj (g1 w w3 _ (by rw [w4]; rfl))
      rw [c2] at z9
      obtain ⟨rfl, rfl⟩ := Prod.mk.inj (Sum.inr.inj z9)
      obtain ⟨a4, cc4, fw4, vv4, y5', y6', c4, y8'⟩ := m1 (5, 2, 7) (List.mem_of_getElem? (i := 4) rfl)
      rw [show ρ'[(5, 2, 7).1]? = some (.inr (.inr (some (.inl w)))) from x5] at y5'
      rw [show ρ'[(5, 2, 7).2.2]? = some (.inl sp) from x7] at y8'
      cases y5'
      cases y8'
      rw [c2] at y6'
      obtain ⟨-, rfl⟩ := Prod.mk.inj (Sum.inr.inj y6')
      obtain ⟨a5, cc5, fw5, vv5, y9', ya', c5, yb'⟩ := m1 (5, 4, 8) (List.mem_of_getElem? (i := 5) rfl)
      rw [show ρ'[(5, 4, 8).1]? = some (.inr (.inr (some (.inl w)))) from x5] at y9'
      rw [show ρ'[(5, 4, 8).2.2]? = some (.inl sa) from x8] at yb'
      cases y9'
      cases yb'
      rw [c2] at ya'
      obtain ⟨-, rfl⟩ := Prod.mk.inj (Sum.inr.inj ya')
      cases st with
      | cons _ _ => exact r3.elim
      | nil =>
        obtain ⟨u0, y1, y2⟩ := r2.2 0 0 rfl
        rw [x0] at y1
        cases y1
        obtain ⟨u3, y3, y4⟩ := r2.2 3 9 rfl
        obtain ⟨x3, rfl, t3⟩ := aG_int (r1.2 9 _ u3 rfl y3).1
        obtain ⟨u4, y5, y6⟩ := r2.2 4 10 rfl
        obtain ⟨x4, rfl, t4⟩ := aG_int (r1.2 10 _ u4 rfl y5).1
        exact pB_go (c := pB_165) (pl := pl) (x3 := x3) (x4 := x4) (nx := nx) (bo := bo) hl hR hsz X hr hi hi2 hf2 q1 (q2.trans e1) hci hpl c1 w3 w4 c2 c3 w7 w8 c4 c5 wb wc (Or.inr ⟨rfl, rfl, r2.1.symm, y2, y4, y6, aIn_mo t3 (by decide) (by decide), t4⟩)
    · obtain ⟨r1, r2, r3, ⟨pp, m1, -, -, m4⟩, g1, g2, g3, g4⟩ := hcx
      have x0 : ρ'[0]? = some (.inr (.inr (some (.inl ch)))) := hx 0 _ rfl
      have x3' : ρ'[3]? = some (.inr (.inr (some (.inl g)))) := hx 3 _ rfl
      have x5 : ρ'[5]? = some (.inr (.inr (some (.inl w)))) := hx 5 _ rfl
      have x6 : ρ'[6]? = some (.inr (.inr (some (.inl tp)))) := hx 6 _ rfl
      have x7 : ρ'[7]? = some (.inl sp) := hx 7 _ rfl
      have x8 : ρ'[8]? = some (.inl sa) := hx 8 _ rfl
      obtain ⟨vs, v1, v2⟩ := m4 (1601, [3]) (List.mem_of_getElem? (i := 1) rfl)
      have hvs : vs = [fR g] := by
        unfold aVs at v1
        rw [x3'] at v1
        exact (Option.some.inj v1).symm
      subst hvs
      have ht2 : fTG K n σ2 g := F_fTG (show fF K n pp 1601 [fR g] σ2 from v2)
      obtain ⟨hi2, hf2⟩ := cI_fr hi e0 e1 g1 g2 g3 g4 ht2 (by decide +kernel) (by decide +kernel)
      obtain ⟨fs2, q1, q2, -⟩ := cG_fr g3 i7 i8 (by decide +kernel) 0 fs e0
      obtain ⟨a2, cc2, fs3, vv2, z1, z2, z3, z4⟩ := m1 (0, 2, 5) (List.mem_of_getElem? (i := 2) rfl)
      rw [show ρ'[(0, 2, 5).1]? = some (.inr (.inr (some (.inl ch)))) from x0] at z1
      rw [show ρ'[(0, 2, 5).2.2]? = some (.inr (.inr (some (.inl w)))) from x5] at z4
      cases z1
      cases z4
      rw [q1] at z2
      obtain ⟨rfl, rfl⟩ := Prod.mk.inj (Sum.inr.inj z2)
      have c1 := z3
      obtain ⟨a3, cc3, fw2, vv3, z5, c2, c3, z8⟩ := m1 (5, 3, 6) (List.mem_of_getElem? (i := 3) rfl)
      rw [show ρ'[(5, 3, 6).1]? = some (.inr (.inr (some (.inl w)))) from x5] at z5
      rw [show ρ'[(5, 3, 6).2.2]? = some (.inr (.inr (some (.inl tp)))) from x6] at z8
      cases z5
      cases z8
      obtain ⟨fw3, z9, -⟩ := aCe_obj (g1 w w3 _ (by rw [w4]; rfl))
      rw [c2] at z9
      obtain ⟨rfl, rfl⟩ := Prod.mk.inj (Sum.inr.inj z9)
      obtain ⟨a4, cc4, fw4, vv4, y5', y6', c4, y8'⟩ := m1 (5, 2, 7) (List.mem_of_getElem? (i := 4) rfl)
      rw [show ρ'[(5, 2, 7).1]? = some (.inr (.inr (some (.inl w)))) from x5] at y5'
      rw [show ρ'[(5, 2, 7).2.2]? = some (.inl sp) from x7] at y8'
      cases y5'
      cases y8'
      rw [c2] at y6'
      obtain ⟨-, rfl⟩ := Prod.mk.inj (Sum.inr.inj y6')
      obtain ⟨a5, cc5, fw5, vv5, y9', ya', c5, yb'⟩ := m1 (5, 4, 8) (List.mem_of_getElem? (i := 5) rfl)
      rw [show ρ'[(5, 4, 8).1]? = some (.inr (.inr (some (.inl w)))) from x5] at y9'
      rw [show ρ'[(5, 4, 8).2.2]? = some (.inl sa) from x8] at yb'
      cases y9'
      cases yb'
      rw [c2] at ya'
      obtain ⟨-, rfl⟩ := Prod.mk.inj (Sum.inr.inj ya')
      cases st with
      | nil => exact r3.elim
      | cons u st =>
        cases st with
        | cons _ _ => exact r3.2.elim
        | nil =>
          have y0 := r3.1
          rw [show ρ'[0]? = some (.inr (.inr (some (.inl ch)))) from x0] at y0
          cases y0
          have rr := cJ_rm i5
          refine jk_Vg (show jX E "ChessHouse" lw_tbl jcl jtb _ _ _ M from X) hR d_CH_perform_374 q_CH_perform_374 m_CH_answerEnds i_CH_answerEnds e_CH_answerEnds (ci := 0) rfl rfl i7 q1 (cz_answerEnds (l := M.2.1) g1 g2 hi2.2.2.2.2.1 hi2.2.2.2.2.2.1 i7 i8 q1 (q2.trans e1) e3 e4 ht2) rfl rfl ⟨Nat.le_of_ble_eq_true rfl, Nat.le_of_ble_eq_true rfl⟩ rfl rfl ⟨?_, ?_⟩ (Nat.le_of_ble_eq_true rfl) (pc' := 377) rfl ?_
          · show 0 + (5 - _) ≤ 5 - _
            omega
          · show 0 + (638976 - _) ≤ 638976 - _
            omega
          · rintro _ σ3 n3 ⟨rfl, K3, h3⟩
            obtain ⟨j1, j2, j3⟩ := cI_aI hi2 q1 (q2.trans e1) h3
            refine jrun_ok jC X k_CH_perform_377 377 _ _ _ o_CH_perform_377 ?_
            simp only [k_CH_perform_377, jrun, jstep, jldi, jldl, jlda, j1, j2, jl1, jl2, jli, ja1, jbr, jald, jast, jlald, jlast, jalen, jget, jput, jfit, jdup, jdupx, jdupx2, jdup2, jcat, jset1, jset2, jkill, List.getElem?_cons_zero, List.getElem?_cons_succ, List.set_cons_zero, List.set_cons_succ, List.length_cons, List.length_nil, Nat.reduceAdd, Nat.reduceLT, Int32.reduceToNatClampNeg, true_and, and_true, and_self, reduceCtorEq, not_false_eq_true, false_and, and_false, or_false, false_or, true_or, or_true, Option.toList, List.nil_append]
            exact jk_vret X d_CH_perform_385 hr (by show 0 + (5 - _) ≤ 5 - _; omega) (by show 0 + (638976 - _) ≤ 638976 - _; omega) ⟨rfl, K3, j3, j1, fun a ha h1 h2 => (j2 a ha h1).trans (hf2 a ha h1)⟩
    · have hl1 : lv[1]? = some (some (.inr (.inr (some (.inr ci))))) := by
        obtain ⟨v, v1, v2⟩ := hcx.2.1.2 1 1 rfl
        rw [show ρ'[1]? = some (.inr (.inr (some (.inr ci)))) from hx 1 _ rfl] at v1
        cases v1
        exact v2
      obtain ⟨c9, c10, c11⟩ := aG_rng hci
      have hst : st = [] := by
        cases st with
        | nil => rfl
        | cons _ _ => exact hcx.2.2.1.elim
      subst hst
      refine sw_perform X hR (Nat.le_of_ble_eq_true rfl) (Nat.le_of_ble_eq_true rfl) ⟨Nat.zero_le _, Nat.zero_le _⟩ (i := ci) ?_ ?_ hl1 (fun x hx1 hx2 => ?_)
      · have h9 := c11.1
        cases c10
        exact h9
      · have h9 := c11.2
        cases c10
        exact h9
      · exact gPk_ok (m := am_CHperformA) (t := .inl (0, 27)) (d := 8) hgp rfl hx hcx (fun c2 hc2 ρ2 lv2 st2 σ9 hlt hx2 hcx2 => IH K n σ 0 0 rfl c2 hc2 ρ2 lv2 st2 σ9 hlt hx2 hcx2) (v := .inl x) ⟨hx1, hx2⟩
end PFZ
