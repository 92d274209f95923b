/-! what stands between two calls of the law -/
noncomputable def LJ (K : Nat → Nat) (n : Nat) (σ : Nat → jcell) (fd tp : Int32) : Prop := cI K n σ 0 29 ∧ uW K n 4 ∧ rJ K n σ 87 ∧ 141 < n ∧ K 141 = 999 ∧ (∃ G, σ 141 = .inl (.long, 1, .inr (.inl G))) ∧ (∃ fs : List jv, σ 0 = .inr (0, fs) ∧ fs[12]? = some (.inl fd)) ∧ ∃ fr : List jv, σ 87 = .inr (11, fr) ∧ fr[1]? = some (.inl tp)
noncomputable def LI (K : Nat → Nat) (n : Nat) (σ : Nat → jcell) : Prop := ∃ fd tp, LJ K n σ fd tp ∧ fd.toInt = tp.toInt
noncomputable def rN1 (K : Nat → Nat) (n : Nat) : Nat := min 1 (kN K 109 n)
noncomputable def lC (k : Nat) (K : Nat → Nat) (n : Nat) : Nat := 142 + 2 * k + 5 * tC K n + 5 * rN1 K n
noncomputable def lS (k : Nat) (K : Nat → Nat) (n : Nat) : Nat := 1030440 + 12 * k + 638976 * tC K n + 327770 * rN1 K n
section LJS
variable {K K' : Nat → Nat} {n n' : Nat} {σ σ' : Nat → jcell} {fd tp : Int32}
theorem lC_le (h : LJ K n σ fd tp) {k : Nat} (hk : k ≤ 512) : lC k K n ≤ 1196 ∧ lS k K n ≤ 4559234 := by
  have r := cJ_rm h.1.2.2.2.2.1
  unfold lC lS rN1
  omega
theorem wR_tCn (hw : wR K n K' n') : tC K' n' = tC K n + (n' - n) := by
  have hc : tC K' n = tC K n := by
    unfold tC
    rw [wR_kN hw (by unfold gk; decide), wR_kN hw (by unfold gk; decide), wR_kN hw (by unfold gk; decide), wR_kN hw (by unfold gk; decide)]
  have one : ∀ a, n ≤ a → a < n' → tC K' (a + 1) = tC K' a + 1 := by
    intro a h1 h2
    unfold tC
    simp only [kN]
    rcases hw.2.2.2 a h1 h2 with e | e | e | e
    all_goals
      rw [e]
      simp
      try omega
  have key : ∀ j, n + j ≤ n' → tC K' (n + j) = tC K' n + j := by
    intro j
    induction j with
    | zero => intro _; rfl
    | succ j ih =>
      intro hj
      show tC K' (n + j + 1) = _
      rw [one (n + j) (by omega) (by omega), ih (by omega)]
      omega
  have := key (n' - n) (by have := hw.1; omega)
  rw [show n + (n' - n) = n' by have := hw.1; omega] at this
  omega
theorem wR_rN (hw : wR K n K' n') : rN1 K' n' = rN1 K n := by
  have key : ∀ j, n + j ≤ n' → kN K' 109 (n + j) = kN K' 109 n := by
    intro j
    induction j with
    | zero => intro _; rfl
    | succ j ih =>
      intro hj
      show kN K' 109 (n + j) + (if K' (n + j) = 109 then 1 else 0) = _
      have h9 := hw.2.2.2 (n + j) (by omega) (by omega)
      rw [ih (by omega), if_neg (by unfold tb4 at h9; omega)]
      rfl
  have := key (n' - n) (by have := hw.1; omega)
  rw [show n + (n' - n) = n' by have := hw.1; omega] at this
  unfold rN1
  rw [this, wR_kN hw (by unfold gk; decide)]
theorem LJ_cl (h : LJ K n σ fd tp) (hw : wR K n K' n') (hi : cI K' n' σ' 0 29) (hs : fSo K n 141 σ σ') (hG : ∃ G, σ' 141 = .inl (.long, 1, .inr (.inl G))) {fs' : List jv} {fd' : Int32} (h0 : σ' 0 = .inr (0, fs')) (h1 : fs'[12]? = some (.inl fd')) : LJ K' n' σ' fd' tp := by
  obtain ⟨-, j2, j3, j4, j5, -, -, fr, j8, j9⟩ := h
  have e87 : K 87 = 55 := j3.2.1
  have n87 : 87 < n := j3.1
  have hs2 : fS2 K n σ (jup σ' 141 (σ 141)) := fun a ha h1 h2 => by
    by_cases e : a = 141
    · subst e
      rw [jup_s]
    · rw [jup_n e]
      exact hs a ha e h1 h2
  have r1 := rJ_cl hw hs2 j3
  have hk : K' 141 = 999 := (hw.2.1 141 j4 (by rw [j5]; unfold gk; omega)).trans j5
  have r2 : rJ K' n' σ' 87 := by
    have := rJ_up (o := 141) (c := σ' 141) r1 hk
    have e : jup (jup σ' 141 (σ 141)) 141 (σ' 141) = σ' := by
      funext a
      by_cases e : a = 141
      · subst e
        rw [jup_s]
      · rw [jup_n e, jup_n e]
    rw [e] at this
    exact this
  exact ⟨hi, uW_wR j2 hw, r2, Nat.lt_of_lt_of_le j4 hw.1, hk, hG, ⟨fs', h0, h1⟩, fr, (hs 87 n87 (by decide) (by rw [e87]; unfold fo1; omega) (by rw [e87]; unfold gk; omega)).trans j8, j9⟩
theorem LJ_jun (h : LJ K n σ fd tp) : LJ (gK K n 999) (n + 1) (jup σ n jun) fd tp := by
  obtain ⟨j1, j2, j3, j4, j5, ⟨G, j6⟩, ⟨fs, j7, j8⟩, fr, j9, ja⟩ := h
  have n87 : 87 < n := j3.1
  have n0 : 0 < n := by omega
  refine ⟨cI_jun j1, uW_gw j2 gK_gw (fun a h1 h2 => ?_), rJ_jun j3, by omega, (gK_lo j4).trans j5, ⟨G, (jup_n (by omega)).trans j6⟩, ⟨fs, (jup_n (by omega)).trans j7, j8⟩, fr, (jup_n (by omega)).trans j9, ja⟩
  obtain rfl : a = n := by omega
  rw [gK_at]
  exact Or.inr rfl
theorem jun_rN : rN1 (gK K n 999) (n + 1) = rN1 K n := by
  unfold rN1
  rw [kN_gK, if_neg (by decide)]
  rfl
theorem jun_tC : tC (gK K n 999) (n + 1) = tC K n := tC_gw gK_gw (fun a h1 h2 => by
  obtain rfl : a = n := by omega
  rw [gK_at]
  exact Or.inr rfl)
theorem LJ_up {G : Nat → Int64} (h : LJ K n σ fd tp) : LJ K n (jup σ 141 (.inl (.long, 1, .inr (.inl G)))) fd tp := by
  obtain ⟨j1, j2, j3, j4, j5, -, ⟨fs, j7, j8⟩, fr, j9, ja⟩ := h
  exact ⟨cI_up j1 j4 j5 trivial, j2, rJ_up j3 j5, j4, j5, ⟨G, jup_s⟩, ⟨fs, (jup_n (by decide)).trans j7, j8⟩, fr, (jup_n (by decide)).trans j9, ja⟩
/-- small calls of the reference -/
theorem rJ_fr {mm : Nat} {md : List (Nat × Nat)} {mk : List (Nat × aF)} {ρ : List jv} (h : rJ K n σ mm) (hz : ∀ a, a < n → zPl (σ a)) (h3 : aFr K n md σ σ') (h4 : aFa K n mk ρ σ σ') (hm : md.all (fun q => Nat.beq q.1 55 && Nat.blt q.2 5) = true) (hk : mk.all (fun q => Nat.beq q.1 56) = true) : rJ K n σ' mm := by
  obtain ⟨h1, h2, ⟨mt, fs, g1, g2, g3, g4, g5⟩, h8⟩ := h
  have hs : ∀ a, a < n → ¬ K a = 55 → ¬ K a = 56 → σ' a = σ a := fun a ha k1 k2 => zPl_eq h3 h4 ha (hz a ha) (fun q hq e => k1 (by
    have := List.all_eq_true.mp hm q hq
    rw [Bool.and_eq_true] at this
    rw [← e]
    exact Nat.eq_of_beq_eq_true this.1)) (fun q hq e => k2 (by
    rw [← e]
    exact Nat.eq_of_beq_eq_true (List.all_eq_true.mp hk q hq)))
  have nm : ∀ f, 5 ≤ f → ∀ k, ¬ (k, f) ∈ md := fun f hf k hq => by
    have := List.all_eq_true.mp hm _ hq
    rw [Bool.and_eq_true] at this
    have := Nat.le_of_ble_eq_true this.2
    dsimp only at this
    omega
  have hy : gY (fun k => ¬ k = 55 ∧ ¬ k = 56) K n σ K n σ' := fun a ha hk => ⟨ha, rfl, hs a ha hk.1 hk.2⟩
  obtain ⟨fs', f1, f2, f3⟩ := h3 mm h1 11 fs g1
  have ob : ∀ v, rOb K n σ mm 55 7 v → rOb K n σ' mm 55 7 v := fun v ⟨o1, o2, c, gs, o3, o4⟩ => by
    obtain ⟨gs', q1, q2, q3⟩ := h3 mm o1 c gs o3
    exact ⟨o1, o2, c, gs', q1, q3 7 v o4 (nm 7 (by decide) _)⟩
  refine ⟨h1, h2, ⟨mt, fs', f1, f3 5 _ g2 (nm 5 (by decide) _), g3, g4, rGT_gy hy (fun k a b => ⟨by omega, by omega⟩) g5⟩, ro3_399.mpr ?_⟩
  rcases ro3_399.mp h8 with ⟨c1, c2⟩ | ⟨m, c1, g, c2, c3⟩
  · exact Or.inl ⟨ob _ c1, c2⟩
  · exact Or.inr ⟨m, ob _ c1, g, rRo_gy hy ⟨by decide, by decide⟩ ⟨by decide, by decide⟩ c2, c3⟩
theorem LJ_rs {md : List (Nat × Nat)} {mk : List (Nat × aF)} {ρ : List jv} (h : LJ K n σ fd tp) (hH : aH fa_T K n σ') (h3 : aFr K n md σ σ') (h4 : aFa K n mk ρ σ σ') (hm : md.all (fun q => Nat.beq q.1 55 && Nat.blt q.2 5) = true) (hk : mk.all (fun q => Nat.beq q.1 56) = true) {fr' : List jv} {tp' : Int32} (h0 : σ' 87 = .inr (11, fr')) (h1 : fr'[1]? = some (.inl tp')) : LJ K n σ' fd tp' := by
  obtain ⟨j1, j2, j3, j4, j5, ⟨G, j6⟩, ⟨fs, j7, j8⟩, -⟩ := h
  have hm2 : md.all (fun q => Nat.ble 55 q.1 && Nat.ble q.1 113) = true := List.all_eq_true.mpr (fun q hq => by
    have := List.all_eq_true.mp hm q hq
    rw [Bool.and_eq_true] at this
    rw [Nat.eq_of_beq_eq_true this.1]
    rfl)
  have hk2 : mk.all (fun q => Nat.ble 55 q.1 && Nat.ble q.1 113) = true := List.all_eq_true.mpr (fun q hq => by
    rw [Nat.eq_of_beq_eq_true (List.all_eq_true.mp hk q hq)]
    rfl)
  obtain ⟨i1, i2⟩ := cI_rf j1 gW_rf (fun a h1 h2 => absurd h2 (Nat.not_lt.mpr h1)) hH h3 h4 hm2 hk2
  have n0 : 0 < n := j1.2.2.2.2.2.2.1
  have k0 : K 0 = 0 := j1.2.2.2.2.2.2.2.1
  exact ⟨i1, j2, rJ_fr j3 j1.2.2.2.2.2.1 h3 h4 hm hk, j4, j5, ⟨G, (i2 141 j4 (by rw [j5]; unfold rfk; omega)).trans j6⟩, ⟨fs, (i2 0 n0 (by rw [k0]; unfold rfk; omega)).trans j7, j8⟩, fr', h0, h1⟩
/-- a call of the reference that may have made its tables -/
theorem LJ_rg {md : List (Nat × Nat)} {mk : List (Nat × aF)} {ρ : List jv} (h : LJ K n σ fd tp) (w : gW K n K' n') (hn : zKi n K' n') (hH : aH fa_T K' n' σ') (h3 : aFr K n md σ σ') (h4 : aFa K n mk ρ σ σ') (hm : md.all (fun q => Nat.ble 55 q.1 && Nat.ble q.1 113) = true) (hk : mk.all (fun q => Nat.ble 55 q.1 && Nat.ble q.1 113) = true) (hr : rJ K' n' σ' 87) {fr' : List jv} {tp' : Int32} (h0 : σ' 87 = .inr (11, fr')) (h1 : fr'[1]? = some (.inl tp')) : LJ K' n' σ' fd tp' ∧ tC K' n' = tC K n := by
  obtain ⟨j1, j2, j3, j4, j5, ⟨G, j6⟩, ⟨fs, j7, j8⟩, -⟩ := h
  obtain ⟨i1, i2⟩ := cI_rf j1 w hn hH h3 h4 hm hk
  have n0 : 0 < n := j1.2.2.2.2.2.2.1
  have k0 : K 0 = 0 := j1.2.2.2.2.2.2.2.1
  exact ⟨⟨i1, uW_gw j2 w (fun a h1 h2 => Or.inl (hn a h1 h2)), hr, Nat.lt_of_lt_of_le j4 w.1, (w.2 141 j4).trans j5, ⟨G, (i2 141 j4 (by rw [j5]; unfold rfk; omega)).trans j6⟩, ⟨fs, (i2 0 n0 (by rw [k0]; unfold rfk; omega)).trans j7, j8⟩, fr', h0, h1⟩, tC_gw w (fun a h1 h2 => Or.inl (hn a h1 h2))⟩
/-- the fields of the reference's object -/
theorem mm_f {mm : Nat} {fr : List jv} (h : aH fa_T K n σ) (hm : mm < n) (hk : K mm = 55) (hs : σ mm = .inr (11, fr)) : ∃ (mt mb li : Nat) (th tp : Int32) (ev : jv), fr[5]? = some (rR mt) ∧ mt < n ∧ K mt = 62 ∧ fr[6]? = some (rR mb) ∧ mb < n ∧ K mb = 88 ∧ fr[18]? = some (rR li) ∧ li < n ∧ K li = 61 ∧ fr[0]? = some (.inl th) ∧ fr[1]? = some (.inl tp) ∧ aIn (0, 65536) tp ∧ fr[7]? = some ev ∧ aG K n (.inr (some (.inl (true, 109)))) ev := by
  obtain ⟨fs', e1, e2, e3⟩ := aCe_obj (h mm hm _ (by rw [hk]; rfl))
  rw [hs] at e1
  obtain rfl := (Prod.mk.inj (Sum.inr.inj e1)).2
  have hg : ∀ f, f < 19 → fr[f]? = some (fr.getD f (.inl 0)) := fun f hf => by
    have hl : f < fr.length := by rw [e2]; exact hf
    rw [List.getD, List.getElem?_eq_getElem hl]
    rfl
  obtain ⟨mt, t1, t2, t3⟩ := aG_obj (by decide) (e3 5 _ _ rfl (hg 5 (by decide)))
  obtain ⟨mb, b1, b2, b3⟩ := aG_obj (by decide) (e3 6 _ _ rfl (hg 6 (by decide)))
  obtain ⟨li, l1, l2, l3⟩ := aG_obj (by decide) (e3 18 _ _ rfl (hg 18 (by decide)))
  obtain ⟨th, a1, -⟩ := aG_int (e3 0 _ _ rfl (hg 0 (by decide)))
  obtain ⟨tp, p1, p2⟩ := aG_int (e3 1 _ _ rfl (hg 1 (by decide)))
  exact ⟨mt, mb, li, th, tp, _, (hg 5 (by decide)).trans (congrArg some t1), t2, t3, (hg 6 (by decide)).trans (congrArg some b1), b2, b3, (hg 18 (by decide)).trans (congrArg some l1), l2, l3, (hg 0 (by decide)).trans (congrArg some a1), (hg 1 (by decide)).trans (congrArg some p1), p2, hg 7 (by decide), e3 7 _ _ rfl (hg 7 (by decide))⟩
end LJS
section LRC
variable {l : Launch} {E : jE} {K : Nat → Nat} {n : Nat} {σ : Nat → jcell} {fd tp : Int32}
theorem lr_feed {v0 v1 v2 v3 v4 : Int32} (h : LJ K n σ fd tp) : jMet l E jcl jtb lw_tbl y_MM_feed { frames := 1, cells := 0, slots := 0, locals := 22 } [.inr (.inr (some (.inl 87))), .inl v0, .inl v1, .inl v2, .inl v3, .inl v4] σ n (fun r σ' n' => r = none ∧ n' = n ∧ ∃ (tp' th : Int32) (fr : List jv), LJ K n σ' fd tp' ∧ σ' 87 = .inr (11, fr) ∧ fr[0]? = some (.inl th) ∧ ((th.toInt = 1 ∧ tp'.toInt = tp.toInt ∧ 65517 ≤ tp.toInt) ∨ (th.toInt = 0 ∧ tp'.toInt = tp.toInt + 20 ∧ tp.toInt ≤ 65516))) := by
  have hh := h
  obtain ⟨j1, j2, j3, j4, j5, -, -, fr, j9, ja⟩ := hh
  obtain ⟨mt, mb, li, th0, tp9, ev, -, -, -, -, -, -, -, -, -, q0, q1, q2, -⟩ := mm_f j1.1 j3.1 j3.2.1 j9
  rw [ja] at q1
  cases q1
  refine jMet_post (zz_MMfeedX (l := l) (E := E) K n zP0 σ [.inr (.inr (some (.inl 87))), .inl v0, .inl v1, .inl v2, .inl v3, .inl v4, .inl tp] j1.1 trivial ⟨rfl, fun i e v he hv => by
    match i, he, hv with
    | 0, he, hv => cases he; cases hv; exact ⟨⟨j3.1, Or.inl j3.2.1⟩, trivial⟩
    | 1, he, hv => cases he; cases hv; exact ⟨aIn_32 _, trivial⟩
    | 2, he, hv => cases he; cases hv; exact ⟨aIn_32 _, trivial⟩
    | 3, he, hv => cases he; cases hv; exact ⟨aIn_32 _, trivial⟩
    | 4, he, hv => cases he; cases hv; exact ⟨aIn_32 _, trivial⟩
    | 5, he, hv => cases he; cases hv; exact ⟨aIn_32 _, trivial⟩
    | 6, he, hv => cases he; cases hv; exact ⟨q2, trivial⟩
    | i + 7, he, _ => cases he⟩ ⟨aAllc ⟨87, 11, fr, _, rfl, j9, ja, rfl⟩ (fun q hq => by cases hq), fun q hq => (by cases hq), fun q hq => (by cases hq), fun q hq => (by cases hq)⟩) ?_
  rintro r σ' n' ⟨rfl, p1, -, p3, p4, p5, xs, p6, p7, A, hA, hAf⟩
  obtain rfl : r = none := by
    cases r with
    | none => rfl
    | some v => cases p5
  obtain ⟨fr', k1, -⟩ := p3 87 j3.1 11 fr j9
  have fld : ∀ f k, (0, f, k) ∈ ag_MMfeedX.2.2.2.2.1.2.2.1.1 → ∃ x : jv, fr'[f]? = some x ∧ ([.inr (.inr (some (.inl 87))), .inl v0, .inl v1, .inl v2, .inl v3, .inl v4, .inl tp] ++ ((none : Option jv).toList ++ xs))[k]? = some x := fun f k hm => by
    obtain ⟨a1, c1, fs2, x, z1, z2, z3, z4⟩ := p7.1 (0, f, k) hm
    cases z1
    rw [k1] at z2
    obtain ⟨rfl, rfl⟩ := Prod.mk.inj (Sum.inr.inj z2)
    exact ⟨x, z3, z4⟩
  obtain ⟨x7, f7, g7⟩ := fld 0 7 (List.mem_of_getElem? (i := 0) rfl)
  obtain ⟨x8, f8, g8⟩ := fld 1 8 (List.mem_of_getElem? (i := 1) rfl)
  obtain ⟨th, rfl, -⟩ := aG_int (p6.2 7 _ x7 rfl g7).1
  obtain ⟨tp', rfl, -⟩ := aG_int (p6.2 8 _ x8 rfl g8).1
  have g6 : ([.inr (.inr (some (.inl 87))), .inl v0, .inl v1, .inl v2, .inl v3, .inl v4, .inl tp] ++ ((none : Option jv).toList ++ xs) : List jv)[6]? = some (.inl tp) := rfl
  refine ⟨rfl, rfl, tp', th, fr', LJ_rs h p1 p3 p4 (by decide +kernel) (by decide +kernel) k1 f8, k1, f7, ?_⟩
  have ev : ∀ (F : aF) (z : Int), aEv ([.inr (.inr (some (.inl 87))), .inl v0, .inl v1, .inl v2, .inl v3, .inl v4, .inl tp] ++ ((none : Option jv).toList ++ xs)) F.1 = some z → aHd ([.inr (.inr (some (.inl 87))), .inl v0, .inl v1, .inl v2, .inl v3, .inl v4, .inl tp] ++ ((none : Option jv).toList ++ xs)) F → 0 ≤ z + F.2 := fun F z h1 ⟨y, h2, h3⟩ => by
    rw [h1] at h2
    cases h2
    exact h3
  rcases List.mem_cons.mp hA with rfl | hA
  · left
    have a1 := ev ([(7, 1)], -1) _ (by simp only [aEv, g7, aI]; rfl) (hAf _ (List.mem_of_getElem? (i := 0) rfl))
    have a2 := ev ([(7, -1)], 1) _ (by simp only [aEv, g7, aI]; rfl) (hAf _ (List.mem_of_getElem? (i := 1) rfl))
    have a3 := ev ([(8, 1), (6, -1)], 0) _ (by simp only [aEv, g8, g6, aI]; rfl) (hAf _ (List.mem_of_getElem? (i := 2) rfl))
    have a4 := ev ([(8, -1), (6, 1)], 0) _ (by simp only [aEv, g8, g6, aI]; rfl) (hAf _ (List.mem_of_getElem? (i := 3) rfl))
    have a5 := ev ([(6, 1)], -65517) _ (by simp only [aEv, g6, aI]; rfl) (hAf _ (List.mem_of_getElem? (i := 4) rfl))
    omega
  · rcases List.mem_cons.mp hA with rfl | hA
    · right
      have a1 := ev ([(7, 1)], 0) _ (by simp only [aEv, g7, aI]; rfl) (hAf _ (List.mem_of_getElem? (i := 0) rfl))
      have a2 := ev ([(7, -1)], 0) _ (by simp only [aEv, g7, aI]; rfl) (hAf _ (List.mem_of_getElem? (i := 1) rfl))
      have a3 := ev ([(8, 1), (6, -1)], -20) _ (by simp only [aEv, g8, g6, aI]; rfl) (hAf _ (List.mem_of_getElem? (i := 2) rfl))
      have a4 := ev ([(8, -1), (6, 1)], 20) _ (by simp only [aEv, g8, g6, aI]; rfl) (hAf _ (List.mem_of_getElem? (i := 3) rfl))
      have a5 := ev ([(6, -1)], 65516) _ (by simp only [aEv, g6, aI]; rfl) (hAf _ (List.mem_of_getElem? (i := 4) rfl))
      omega
    · cases hA
end LRC
