/-! ChessHouse.end -/
theorem kN_mo {K : Nat → Nat} {k n : Nat} : ∀ (j : Nat), kN K k n ≤ kN K k (n + j)
  | 0 => Nat.le_refl _
  | j + 1 => Nat.le_trans (kN_mo j) (Nat.le_add_right _ _)
theorem kN_le {K : Nat → Nat} {k n n' : Nat} (h : n ≤ n') : kN K k n ≤ kN K k n' := by
  have := kN_mo (K := K) (k := k) (n := n) (n' - n)
  rw [show n + (n' - n) = n' by omega] at this
  exact this
section WRS
variable {K K' : Nat → Nat} {n n' : Nat}
theorem wR_tC (h : wR K n K' n') : tC K n ≤ tC K' n' ∧ tS K n ≤ tS K' n' := by
  have a := kN_le (K := K') (k := 114) h.1
  have b := kN_le (K := K') (k := 52) h.1
  have c := kN_le (K := K') (k := 53) h.1
  have d := kN_le (K := K') (k := 54) h.1
  rw [wR_kN h (by unfold gk; decide)] at a b c d
  unfold tC tS
  omega
/-- the one object of the words -/
noncomputable def uW (K : Nat → Nat) (n w : Nat) : Prop := w < n ∧ K w = 6 ∧ ∀ a, a < n → K a = 6 → a = w
theorem uW_wR {w : Nat} (h : uW K n w) (hw : wR K n K' n') : uW K' n' w := by
  obtain ⟨h1, h2, h3⟩ := h
  refine ⟨Nat.lt_of_lt_of_le h1 hw.1, (hw.2.1 w h1 (by rw [h2]; unfold gk; decide)).trans h2, fun a ha hk => ?_⟩
  by_cases h9 : a < n
  · by_cases hg : gk (K a)
    · have := hw.2.2.1 a h9 hg
      rw [hk] at this
      exact absurd this (by unfold gk; decide)
    · exact h3 a h9 ((hw.2.1 a h9 hg).symm.trans hk)
  · have := hw.2.2.2 a (Nat.le_of_not_lt h9) ha
    rw [hk] at this
    exact absurd this (by unfold tb4; decide)
end WRS
/-- the fields of the words -/
theorem wo_f {K : Nat → Nat} {n w : Nat} {σ : Nat → jcell} (h : aH fa_T K n σ) (hw : w < n) (hk : K w = 6) : ∃ (fw : List jv) (v3 : jv) (sp sa : Int32), σ w = .inr (2, fw) ∧ fw[3]? = some v3 ∧ fw[2]? = some (.inl sp) ∧ fw[4]? = some (.inl sa) ∧ aG K n (.inr (some (.inl (true, 1)))) v3 ∧ aIn (0, 65536) sp ∧ aIn (0, 65536) sa := by
  obtain ⟨fs, e1, e2, e3⟩ := aCe_obj (h w hw _ (by rw [hk]; rfl))
  match fs, e2 with
  | [x0, x1, x2, x3, x4], _ =>
    obtain ⟨sp, rfl, t2⟩ := aG_int (e3 2 _ _ rfl rfl)
    obtain ⟨sa, rfl, t4⟩ := aG_int (e3 4 _ _ rfl rfl)
    exact ⟨_, x3, sp, sa, e1, rfl, rfl, rfl, e3 3 _ _ rfl rfl, t2, t4⟩
/-- the fields of the house -/
theorem ch_f {K : Nat → Nat} {n ch : Nat} {σ : Nat → jcell} {fs : List jv} (h : aH fa_T K n σ) (hc : ch < n) (hk : K ch = 0) (hs : σ ch = .inr (0, fs)) : ∃ (w : Nat) (fd nx fa : Int32), fs[2]? = some (.inr (.inr (some (.inl w)))) ∧ w < n ∧ K w = 6 ∧ fs[12]? = some (.inl fd) ∧ fs[13]? = some (.inl nx) ∧ fs[14]? = some (.inl fa) ∧ aIn (0, 65536) fd ∧ aIn (0, 65538) nx := by
  obtain ⟨fs', e1, e2, e3⟩ := aCe_obj (h ch hc _ (by rw [hk]; rfl))
  rw [hs] at e1
  obtain rfl := (Prod.mk.inj (Sum.inr.inj e1)).2
  have hg : ∀ f, f < 15 → fs[f]? = some (fs.getD f (.inl 0)) := fun f hf => by
    have hl : f < fs.length := by rw [e2]; exact hf
    rw [List.getD, List.getElem?_eq_getElem hl]
    rfl
  obtain ⟨w, w1, w2, w3⟩ := aG_obj (by decide) (e3 2 _ _ rfl (hg 2 (by decide)))
  obtain ⟨fd, f1, f2⟩ := aG_int (e3 12 _ _ rfl (hg 12 (by decide)))
  obtain ⟨nx, n1, n2⟩ := aG_int (e3 13 _ _ rfl (hg 13 (by decide)))
  obtain ⟨fa, a1, -⟩ := aG_int (e3 14 _ _ rfl (hg 14 (by decide)))
  exact ⟨w, fd, nx, fa, (hg 2 (by decide)).trans (congrArg some w1), w2, w3, (hg 12 (by decide)).trans (congrArg some f1), (hg 13 (by decide)).trans (congrArg some n1), (hg 14 (by decide)).trans (congrArg some a1), f2, n2⟩
section ENZ
variable {l : Launch} {E : jE}
noncomputable def gRm (K : Nat → Nat) (n : Nat) : Room := { frames := 15, cells := 5 - tC K n, slots := 638976 - tS K n, locals := 446 }
noncomputable def gPo (K : Nat → Nat) (n : Nat) (σ : Nat → jcell) (ch en : Nat) : jPo := fun r σ' n' => (∃ v, r = some (.inl v)) ∧ ∃ K', wR K n K' n' ∧ cI K' n' σ' ch en ∧ fS2 K n σ σ' ∧ ∃ (fs : List jv) (fd : Int32), σ' ch = .inr (0, fs) ∧ fs[12]? = some (.inl fd) ∧ fd.toInt = 0
noncomputable def pE_20 : aCu := (20, ([some 0, some 1, none, none, none], [], [(.inr (some (.inl (false, 0))), none), (.inl (0, 65536), none), (.inl (0, 65536), none), (.inr (some (.inl (false, 6))), none), (.inr (some (.inl (false, 99999))), none), (.inr (some (.inl (false, 25))), none), (.inr (some (.inl (true, 1))), none), (.inl (0, 65536), none), (.inl (0, 65536), none)], ([(0, 12, 2), (0, 2, 3), (0, 10, 5), (3, 3, 6), (3, 2, 7), (3, 4, 8)], [], [([(2, 1), (1, -1)], 0)], [(1601, [5])])), [.inr (.inr (0, 10)), .inr (.inr (3, 3)), .inr (.inr (3, 2)), .inr (.inr (3, 4))], [([], 1), ([], 0), ([], 0)])
noncomputable def pE_102 : aCu := (102, ([some 0, some 1, some 5, none, none], [1, 6, 0], [(.inr (some (.inl (false, 0))), none), (.inl (1, 65536), none), (.inl (0, 65536), none), (.inr (some (.inl (false, 6))), none), (.inr (some (.inl (false, 99999))), none), (.inl (0, 65535), none), (.inr (some (.inr 31003027)), none), (.inl (0, 65536), none), (.inr (some (.inl (false, 25))), none), (.inr (some (.inl (false, 1))), none), (.inl (0, 65536), none), (.inl (0, 65536), none), (.inl (2, 65537), none), (.inl (-2147483648, 2147483647), none)], ([(0, 12, 7), (0, 2, 3), (0, 10, 8), (3, 3, 9), (3, 2, 10), (3, 4, 11), (0, 13, 12), (0, 14, 13)], [], [([(1, 1), (5, -1)], -1), ([(2, 1), (1, -1)], 0), ([(11, -1), (10, 1)], 0)], [(1601, [8])])), [.inl 2, .inr (.inl 1), .inr (.inr (0, 12)), .inr (.inr (0, 10)), .inr (.inr (3, 3)), .inr (.inr (3, 2)), .inr (.inr (3, 4)), .inr (.inr (0, 13)), .inr (.inr (0, 14))], [([], 0), ([(5, -1), (1, 1)], 0), ([], 1)])
noncomputable def pE_105 : aCu := (105, ([some 0, some 1, some 5, none, none], [], [(.inr (some (.inl (false, 0))), none), (.inl (1, 65536), none), (.inl (0, 65536), none), (.inr (some (.inl (false, 6))), none), (.inr (some (.inl (false, 99999))), none), (.inl (0, 65535), none), (.inl (0, 65536), none), (.inr (some (.inl (false, 25))), none), (.inl (0, 65538), none), (.inl (-2147483648, 2147483647), none), (.inr (some (.inl (true, 1))), none), (.inl (0, 65536), none), (.inl (0, 65536), none)], ([(0, 12, 6), (0, 2, 3), (0, 10, 7), (0, 13, 8), (0, 14, 9), (3, 3, 10), (3, 2, 11), (3, 4, 12)], [], [([(1, 1), (5, -1)], -1), ([(2, 1), (1, -1)], 0)], [(1601, [7])])), [.inl 2, .inr (.inr (0, 12)), .inr (.inr (0, 10)), .inr (.inr (0, 13)), .inr (.inr (0, 14)), .inr (.inr (3, 3)), .inr (.inr (3, 2)), .inr (.inr (3, 4))], [([], 0), ([(5, -1), (1, 1)], 0), ([], 0)])
theorem pE_m {c : aCu} (h : c ∈ am_CHendA.2.2.2.2.2) (he : ([0, 102] : List Nat).any (fun k => Nat.beq k c.1) = true) : c = pE_102 ∨ c = (0, aEn ag_CHendA, [], [([], 2), ([], 0), ([], 0)]) := by
  rcases List.mem_cons.mp h with rfl | h
  · exact absurd he (by decide)
  · rcases List.mem_cons.mp h with rfl | h
    · exact absurd he (by decide)
    · rcases List.mem_cons.mp h with rfl | h
      · first | exact Or.inl rfl | exact absurd he (by decide)
      · rcases List.mem_cons.mp h with rfl | h
        · first | exact Or.inl rfl | exact absurd he (by decide)
        · rcases List.mem_cons.mp h with rfl | h
          · exact Or.inr rfl
          · cases h
theorem pE_20m : pE_20 ∈ am_CHendA.2.2.2.2.2 := List.mem_of_getElem? (i := 0) rfl
theorem pE_105m : pE_105 ∈ am_CHendA.2.2.2.2.2 := List.mem_of_getElem? (i := 3) rfl
/-- the world and the state of a line's end -/
noncomputable def eW (K : Nat → Nat) (n : Nat) (σ : Nat → jcell) (ch en : Nat) (w : gV) : Prop := ∃ K' n' σ', w = (K', n', σ', tC K' n' - tC K n, tS K' n' - tS K n) ∧ wR K n K' n' ∧ cI K' n' σ' ch en ∧ fS2 K n σ σ'
theorem fS2_tr {K K' : Nat → Nat} {n n' : Nat} {σ σ1 σ2 : Nat → jcell} (h : fS2 K n σ σ1) (w : wR K n K' n') (h2 : fS2 K' n' σ1 σ2) : fS2 K n σ σ2 := fun a ha h3 h4 => by
  have e := w.2.1 a ha h4
  rw [h2 a (Nat.lt_of_lt_of_le ha w.1) (by rw [e]; exact h3) (by rw [e]; exact h4)]
  exact h a ha h3 h4
set_option maxRecDepth 100000 in
set_option maxHeartbeats 8000000 in
theorem cz_end {K : Nat → Nat} {n : Nat} {σ : Nat → jcell} {ch en w : Nat} {x fd : Int32} {fs : List jv} (hi : cI K n σ ch en) (hu : uW K n w) (hs : σ ch = .inr (0, fs)) (hfd : fs[12]? = some (.inl fd)) (hx0 : 0 ≤ x.toInt) (hx1 : x.toInt ≤ fd.toInt) : jMet l E jcl jtb lw_tbl y_CH_end (gRm K n) [.inr (.inr (some (.inl ch))), .inl x] σ n (gPo K n σ ch en) := by
  have hh := hi
  obtain ⟨i1, i2, i3, i4, i5, i6, i7, i8, fs0, g, s, e0, e1, e2, e3, e4, e5, e6, e7⟩ := hh
  rw [hs] at e0
  obtain rfl := (Prod.mk.inj (Sum.inr.inj e0)).2
  obtain ⟨w9, fd9, nx, fa, c2, w2, w3, c12, c13, c14, tf, tn⟩ := ch_f i1 i7 i8 hs
  obtain rfl := hu.2.2 w9 w2 w3
  rw [hfd] at c12
  cases c12
  have tx : aIn (0, 65536) x := ⟨hx0, Int.le_trans hx1 tf.2⟩
  refine zc_CHendA (l := l) (E := E) _ (gRm K n) ⟨Nat.le_of_ble_eq_true rfl, Nat.le_of_ble_eq_true rfl⟩ K n bP0 σ [.inr (.inr (some (.inl ch))), .inl x, .inl fd, .inr (.inr (some (.inl w9))), .inr (.inr (some (.inl g)))] i1 i3 ⟨rfl, fun i e v he hv => ?_⟩ ⟨aAllc ⟨ch, 0, fs, _, rfl, hs, hfd, rfl⟩ (aAllc ⟨ch, 0, fs, _, rfl, hs, c2, rfl⟩ (aAllc ⟨ch, 0, fs, _, rfl, hs, e1, rfl⟩ (fun q hq => by cases hq))), fun q hq => (by cases hq), aAllc ?_ (fun q hq => by cases hq), aAllc ⟨_, rfl, fTG_F e7⟩ (fun q hq => by cases hq)⟩ (eW K n σ ch en) ⟨K, n, σ, by rw [Nat.sub_self, Nat.sub_self], wR_rf, hi, fun _ _ _ _ => rfl⟩ (fun G hG => by cases hG) ?_ ?_
  · match i, he, hv with
    | 0, he, hv => cases he; cases hv; exact ⟨⟨i7, Or.inl i8⟩, trivial⟩
    | 1, he, hv => cases he; cases hv; exact ⟨tx, trivial⟩
    | 2, he, hv => cases he; cases hv; exact ⟨tf, trivial⟩
    | 3, he, hv => cases he; cases hv; exact ⟨⟨w2, Or.inl w3⟩, trivial⟩
    | 4, he, hv => cases he; cases hv; exact ⟨⟨e3, Or.inr rfl⟩, trivial⟩
    | i + 5, he, _ => cases he
  · refine ⟨_, rfl, ?_⟩
    show 0 ≤ 1 * fd.toInt + (-1 * x.toInt + 0) + 0
    omega
  · rintro K1 n1 σ1 ca sl ⟨K', n', σ', hw, h1, h2, h3⟩
    cases hw
    have r := cJ_rm h2.2.2.2.2.1
    have r2 := wR_tC h1
    refine ⟨⟨?_, ?_⟩, fun r σ2 hpo => ?_⟩
    · show _ ≤ 5 - tC K n
      omega
    · show _ ≤ 638976 - tS K n
      omega
    · obtain ⟨-, p1, p2, p3, p4, p5, xs, p6, p7, -⟩ := hpo
      have h2' := h2
      obtain ⟨-, -, -, -, -, -, j7, j8, fs1, g1, s1, q0, q1, -⟩ := h2'
      cases r with
      | none => cases p5
      | some v =>
        obtain ⟨v5, rfl, -⟩ := aG_int (p6.2 5 _ v rfl rfl).1
        obtain ⟨a9, c9, f9, u9, z1, z2, z3, z4⟩ := p7.1 (0, 10, 6) (List.mem_of_getElem? (i := 0) rfl)
        cases z1
        obtain ⟨fs2, k1, k2, -⟩ := cG_fr p3 j7 j8 (by decide +kernel) 0 fs1 q0
        rw [k1] at z2
        obtain ⟨rfl, rfl⟩ := Prod.mk.inj (Sum.inr.inj z2)
        rw [show fs2[(0, 10, 6).2.1]? = some (fR g1) from k2.trans q1] at z3
        cases z3
        obtain ⟨vs, v1, v2⟩ := p7.2.2.2 (1601, [6]) (List.mem_of_getElem? (i := 0) rfl)
        have hvs : vs = [fR g1] := by
          unfold aVs at v1
          rw [z4] at v1
          exact (Option.some.inj v1).symm
        subst hvs
        obtain ⟨m1, m2⟩ := cI_fr h2 q0 q1 p1 p2 p3 p4 (F_fTG v2) (by decide +kernel) (by decide +kernel)
        obtain ⟨a8, c8, f8, u8, y1, y2, y3, y4⟩ := p7.1 (0, 12, 7) (List.mem_of_getElem? (i := 1) rfl)
        cases y1
        rw [k1] at y2
        obtain ⟨rfl, rfl⟩ := Prod.mk.inj (Sum.inr.inj y2)
        obtain ⟨fd0, rfl, t0⟩ := aG_int (p6.2 7 _ u8 rfl y4).1
        exact ⟨⟨v5, rfl⟩, K1, h1, m1, fS2_tr h3 h1 (fS_2 m2), _, fd0, k1, y3, Int.le_antisymm t0.2 t0.1⟩
  · intro M hl hR hsz X hr hok c hcm hce K1 n1 σ1 ca sl hw ρ' lv st σ2 hx hcx IH
    rcases pE_m hcm hce with rfl | rfl
    · obtain ⟨K', n', σ', hw, h1, h2, h3⟩ := hw
      cases hw
      obtain ⟨r1, r2, r3, ⟨pp, m1, -, m3, m4⟩, g1, g2, g3, g4⟩ := hcx
      have h2' := h2
      obtain ⟨-, -, -, -, -, -, j7, j8, fs1, gg, s1, q0, q1, -⟩ := h2'
      have hu1 := uW_wR hu h1
      have x0 : ρ'[0]? = some (.inr (.inr (some (.inl ch)))) := hx 0 _ rfl
      have x1 : ρ'[1]? = some (.inl x) := hx 1 _ rfl
      have x2 : ρ'[2]? = some (.inl fd) := hx 2 _ rfl
      have x3 : ρ'[3]? = some (.inr (.inr (some (.inl w9)))) := hx 3 _ rfl
      obtain ⟨fs2, k1, k2, k3⟩ := cG_fr g3 j7 j8 (by decide +kernel) 0 fs1 q0
      -- the game
      obtain ⟨b1, b2, b3, b4, y1, y2, y3, y4⟩ := m1 (0, 10, 8) (List.mem_of_getElem? (i := 2) rfl)
      rw [show ρ'[(0, 10, 8).1]? = some (.inr (.inr (some (.inl ch)))) from x0] at y1
      cases y1
      rw [k1] at y2
      obtain ⟨rfl, rfl⟩ := Prod.mk.inj (Sum.inr.inj y2)
      rw [show fs2[(0, 10, 8).2.1]? = some (fR gg) from k2.trans q1] at y3
      cases y3
      obtain ⟨vs, v1, v2⟩ := m4 (1601, [8]) (List.mem_of_getElem? (i := 0) rfl)
      have hvs : vs = [fR gg] := by
        unfold aVs at v1
        rw [show ρ'[8]? = some (fR gg) from y4] at v1
        exact (Option.some.inj v1).symm
      subst hvs
      obtain ⟨hi2, hf2⟩ := cI_fr h2 q0 q1 g1 g2 g3 g4 (F_fTG (show fF K1 n1 pp 1601 [fR gg] σ2 from v2)) (by decide +kernel) (by decide +kernel)
      -- the words
      obtain ⟨b1, b2, b3, b4, y1, y2, y5, y6⟩ := m1 (0, 2, 3) (List.mem_of_getElem? (i := 1) rfl)
      rw [show ρ'[(0, 2, 3).1]? = some (.inr (.inr (some (.inl ch)))) from x0] at y1
      cases y1
      rw [k1] at y2
      obtain ⟨rfl, rfl⟩ := Prod.mk.inj (Sum.inr.inj y2)
      rw [show ρ'[(0, 2, 3).2.2]? = some (.inr (.inr (some (.inl w9)))) from x3] at y6
      cases y6
      obtain ⟨fw, v3, sp, sa, f1, f2, f3, f4, f5, f6, f7⟩ := wo_f g1 hu1.1 hu1.2.1
      have fld : ∀ (f k : Nat) (v : jv), (3, f, k) ∈ pE_102.2.1.2.2.2.1 → fw[f]? = some v → ρ'[k]? = some v := fun f k v hm hv => by
        obtain ⟨b1, b2, b3, b4, y1, y2, y3, y4⟩ := m1 (3, f, k) hm
        rw [show ρ'[(3, f, k).1]? = some (.inr (.inr (some (.inl w9)))) from x3] at y1
        cases y1
        rw [f1] at y2
        obtain ⟨rfl, rfl⟩ := Prod.mk.inj (Sum.inr.inj y2)
        rw [show fw[(3, f, k).2.1]? = some v from hv] at y3
        cases y3
        exact y4
      have fldc : ∀ (f k : Nat), (0, f, k) ∈ pE_102.2.1.2.2.2.1 → ∃ v, fs2[f]? = some v ∧ ρ'[k]? = some v := fun f k hm => by
        obtain ⟨b1, b2, b3, b4, y1, y2, y3, y4⟩ := m1 (0, f, k) hm
        rw [show ρ'[(0, f, k).1]? = some (.inr (.inr (some (.inl ch)))) from x0] at y1
        cases y1
        rw [k1] at y2
        obtain ⟨rfl, rfl⟩ := Prod.mk.inj (Sum.inr.inj y2)
        exact ⟨b4, y3, y4⟩
      have t3 := fld 3 9 v3 (List.mem_of_getElem? (i := 3) rfl) f2
      obtain ⟨tp, rfl, tp1, tp2⟩ := aG_obj (by decide) (r1.2 9 _ v3 rfl t3).1
      have t9 := fld 2 10 _ (List.mem_of_getElem? (i := 4) rfl) f3
      have t10 := fld 4 11 _ (List.mem_of_getElem? (i := 5) rfl) f4
      obtain ⟨u13, n1', n2'⟩ := fldc 13 12 (List.mem_of_getElem? (i := 6) rfl)
      obtain ⟨nx2, rfl, tn2⟩ := aG_int (r1.2 12 _ u13 rfl n2').1
      have hle : sa.toInt ≤ sp.toInt := by
        obtain ⟨z, z1, z2⟩ := m3 ([(11, -1), (10, 1)], 0) (List.mem_of_getElem? (i := 2) rfl)
        simp only [aEv, t9, t10, aI, Option.some.injEq] at z1
        dsimp only at z2
        omega
      have hwi : wI K1 n1 σ2 ch w9 tp sp sa nx2 := ⟨fs2, fw, k1, y5, n1', hu1.1, hu1.2.1, f1, f2, tp1, tp2, f3, f4, f6, f7, aIn_mo tn2 (by decide) (by decide), hle⟩
      cases st with
      | nil => exact r3.elim
      | cons u1 st =>
        cases st with
        | nil => exact r3.2.elim
        | cons u2 st =>
          cases st with
          | nil => exact r3.2.2.elim
          | cons u3 st =>
            cases st with
            | cons _ _ => exact r3.2.2.2.elim
            | nil =>
              obtain ⟨s0, s5, s6, -⟩ := r3
              rw [x1] at s0
              cases s0
              rw [x0] at s6
              cases s6
              obtain ⟨ci, rfl, ci1, ci2⟩ := aG_rng (r1.2 6 _ u2 rfl s5).1
              have rr := cJ_rm hi2.2.2.2.2.1
              have rt := wR_tC h1
              refine jk_Vg (show jX E "ChessHouse" lw_tbl jcl jtb _ _ _ M from X) hR d_CH_end_102 q_CH_end_102 m_CH_perform i_CH_perform e_CH_perform (ci := 0) rfl rfl j7 k1 (cz_perform (l := M.2.1) (ci := ci) hi2 hwi ⟨ci1, ci2⟩ tx) rfl rfl ⟨Nat.le_of_ble_eq_true rfl, Nat.le_of_ble_eq_true rfl⟩ rfl rfl ⟨?_, ?_⟩ (Nat.le_of_ble_eq_true rfl) (pc' := 105) rfl ?_
              · show _ + (5 - _) ≤ 5 - _
                omega
              · show _ + (638976 - _) ≤ 638976 - _
                omega
              · rintro _ σ3 n3 ⟨rfl, K3, w3', hi3, hf3⟩
                have hw3 := wR_tr h1 w3'
                have hu3 := uW_wR hu hw3
                refine jJ_ti hsz (gTi_w hw3 hi3.1) ?_
                have hi3' := hi3
                obtain ⟨a1, -, a3, -, -, -, a7, a8, fs3, g3', s3, d0, d1, -, d3, d4, -, -, d7⟩ := hi3'
                obtain ⟨w4, fd3, nx3, fa3, cc2, ww2, ww3, cc12, cc13, cc14, tf3, tn3⟩ := ch_f a1 a7 a8 d0
                obtain rfl := hu3.2.2 w4 ww2 ww3
                obtain ⟨fw3, vt3, sp3, sa3, ff1, ff2, ff3, ff4, ff5, ff6, ff7⟩ := wo_f a1 ww2 ww3
                obtain ⟨u4, v41, v42⟩ := r2.2 2 5 rfl
                obtain ⟨li, rfl, tl4⟩ := aG_int (r1.2 5 _ u4 rfl v41).1
                have tx1 := (r1.2 1 _ _ rfl x1).1
                refine IH K3 n3 σ3 _ _ ⟨K3, n3, σ3, rfl, hw3, hi3, fS2_tr (fS2_tr h3 h1 (fS_2 hf2)) h1 hf3⟩ pE_105 pE_105m [.inr (.inr (some (.inl ch))), .inl x, .inl fd, .inr (.inr (some (.inl w4))), .inr (.inr (some (.inl g))), .inl li, .inl fd3, .inr (.inr (some (.inl g3'))), .inl nx3, .inl fa3, vt3, .inl sp3, .inl sa3] lv [] σ3 ?_ ?_ ⟨⟨rfl, fun i e v he hv => ?_⟩, ⟨r2.1, fun i k hk => ?_⟩, trivial, ⟨bP0, aAllc ⟨ch, 0, fs3, _, rfl, d0, cc12, rfl⟩ (aAllc ⟨ch, 0, fs3, _, rfl, d0, cc2, rfl⟩ (aAllc ⟨ch, 0, fs3, _, rfl, d0, d1, rfl⟩ (aAllc ⟨ch, 0, fs3, _, rfl, d0, cc13, rfl⟩ (aAllc ⟨ch, 0, fs3, _, rfl, d0, cc14, rfl⟩ (aAllc ⟨w4, 2, fw3, _, rfl, ff1, ff2, rfl⟩ (aAllc ⟨w4, 2, fw3, _, rfl, ff1, ff3, rfl⟩ (aAllc ⟨w4, 2, fw3, _, rfl, ff1, ff4, rfl⟩ (fun q hq => by cases hq)))))))), fun q hq => (by cases hq), aAllc ?_ (aAllc ?_ (fun q hq => by cases hq)), aAllc ⟨_, rfl, fTG_F (p := bP0) d7⟩ (fun q hq => by cases hq)⟩, a1, a3, aFr_rf, aFa_rf⟩
                · refine ⟨rfl, Or.inr ⟨rfl, rfl, Or.inr ⟨?_, rfl, Or.inl Nat.zero_lt_one⟩⟩⟩
                  simp only [aRn, aEv, v41, x1, List.getElem?_cons_zero, List.getElem?_cons_succ]
                · intro i v hv
                  match i, hv with
                  | 0, hv => exact hv
                  | 1, hv => exact hv
                  | 2, hv => exact hv
                  | 3, hv => exact hv
                  | 4, hv => exact hv
                  | i + 5, hv => cases hv
                · match i, he, hv with
                  | 0, he, hv => cases he; cases hv; exact ⟨⟨a7, Or.inl a8⟩, trivial⟩
                  | 1, he, hv => cases he; cases hv; exact ⟨tx1, trivial⟩
                  | 2, he, hv => cases he; cases hv; exact ⟨tf, trivial⟩
                  | 3, he, hv => cases he; cases hv; exact ⟨⟨ww2, Or.inl ww3⟩, trivial⟩
                  | 4, he, hv => cases he; cases hv; exact ⟨⟨Nat.lt_of_lt_of_le e3 hw3.1, Or.inr rfl⟩, trivial⟩
                  | 5, he, hv => cases he; cases hv; exact ⟨tl4, trivial⟩
                  | 6, he, hv => cases he; cases hv; exact ⟨tf3, trivial⟩
                  | 7, he, hv => cases he; cases hv; exact ⟨⟨d3, Or.inl d4⟩, trivial⟩
                  | 8, he, hv => cases he; cases hv; exact ⟨tn3, trivial⟩
                  | 9, he, hv => cases he; cases hv; exact ⟨aIn_32 fa3, trivial⟩
                  | 10, he, hv => cases he; cases hv; exact ⟨ff5, trivial⟩
                  | 11, he, hv => cases he; cases hv; exact ⟨ff6, trivial⟩
                  | 12, he, hv => cases he; cases hv; exact ⟨ff7, trivial⟩
                  | i + 13, he, _ => cases he
                · match i, hk with
                  | 0, hk =>
                    cases hk
                    obtain ⟨u, z1, z2⟩ := r2.2 0 0 rfl
                    rw [x0] at z1
                    cases z1
                    exact ⟨_, rfl, z2⟩
                  | 1, hk =>
                    cases hk
                    obtain ⟨u, z1, z2⟩ := r2.2 1 1 rfl
                    rw [x1] at z1
                    cases z1
                    exact ⟨_, rfl, z2⟩
                  | 2, hk =>
                    cases hk
                    exact ⟨_, rfl, v42⟩
                  | 3, hk => cases hk
                  | 4, hk => cases hk
                  | i + 5, hk => cases hk
                · obtain ⟨z, z1, z2⟩ := m3 ([(1, 1), (5, -1)], -1) (List.mem_of_getElem? (i := 0) rfl)
                  simp only [aEv, v41, x1, aI, Option.some.injEq] at z1
                  refine ⟨z, ?_, z2⟩
                  simp only [aEv, aI, List.getElem?_cons_zero, List.getElem?_cons_succ, Option.some.injEq]
                  exact z1
                · refine ⟨_, rfl, ?_⟩
                  show 0 ≤ 1 * fd.toInt + (-1 * x.toInt + 0) + 0
                  omega
    · obtain ⟨K', n', σ', hw, h1, h2, h3⟩ := hw
      cases hw
      obtain ⟨r1, r2, r3, ⟨pp, m1, -, m3, m4⟩, g1, g2, g3, g4⟩ := hcx
      have x0 : ρ'[0]? = some (.inr (.inr (some (.inl ch)))) := hx 0 _ rfl
      have x1 : ρ'[1]? = some (.inl x) := hx 1 _ rfl
      have x2 : ρ'[2]? = some (.inl fd) := hx 2 _ rfl
      have x3 : ρ'[3]? = some (.inr (.inr (some (.inl w9)))) := hx 3 _ rfl
      have x4 : ρ'[4]? = some (.inr (.inr (some (.inl g)))) := hx 4 _ rfl
      have hu1 := uW_wR hu h1
      obtain ⟨vs, v1, v2⟩ := m4 (1601, [4]) (List.mem_of_getElem? (i := 1) rfl)
      have hvs : vs = [fR g] := by
        unfold aVs at v1
        rw [x4] at v1
        exact (Option.some.inj v1).symm
      subst hvs
      have ht2 : fTG K1 n1 σ2 g := F_fTG (show fF K1 n1 pp 1601 [fR g] σ2 from v2)
      obtain ⟨gn, gk25⟩ : g < n1 ∧ K1 g = 25 := by
        obtain ⟨b, h, N, t, q, -, ⟨f1, f2, -⟩, -⟩ := ht2
        exact ⟨f1, f2⟩
      have hc1 : ch < n1 := h2.2.2.2.2.2.2.1
      have hk1 : K1 ch = 0 := h2.2.2.2.2.2.2.2.1
      obtain ⟨f2s, o1, -⟩ := aCe_obj (g1 ch hc1 _ (by rw [hk1]; rfl))
      have fldc : ∀ (f k : Nat) (v : jv), (0, f, k) ∈ (aEn ag_CHendA).2.2.2.1 → ρ'[k]? = some v → f2s[f]? = some v := fun f k v hm hv => by
        obtain ⟨b1, b2, b3, b4, y1, y2, y3, y4⟩ := m1 (0, f, k) hm
        rw [show ρ'[(0, f, k).1]? = some (.inr (.inr (some (.inl ch)))) from x0] at y1
        cases y1
        rw [o1] at y2
        obtain ⟨rfl, rfl⟩ := Prod.mk.inj (Sum.inr.inj y2)
        rw [show ρ'[(0, f, k).2.2]? = some v from hv] at y4
        cases y4
        exact y3
      have h12 := fldc 12 2 _ (List.mem_of_getElem? (i := 0) rfl) x2
      have h02 := fldc 2 3 _ (List.mem_of_getElem? (i := 1) rfl) x3
      have h10 := fldc 10 4 _ (List.mem_of_getElem? (i := 2) rfl) x4
      obtain ⟨fw3, vt3, sp3, sa3, ff1, ff2, ff3, ff4, ff5, ff6, ff7⟩ := wo_f g1 hu1.1 hu1.2.1
      have hst : st = [] := by
        cases st with
        | nil => rfl
        | cons _ _ => exact r3.elim
      subst hst
      refine jJ_lv (lv' := [some (.inr (.inr (some (.inl ch)))), some (.inl x), none, none, none]) (fun i v hv => ?_) ?_
      · match i, hv with
        | 0, hv =>
          cases hv
          obtain ⟨u, z1, z2⟩ := r2.2 0 0 rfl
          rw [x0] at z1
          cases z1
          exact z2
        | 1, hv =>
          cases hv
          obtain ⟨u, z1, z2⟩ := r2.2 1 1 rfl
          rw [x1] at z1
          cases z1
          exact z2
        | 2, hv => cases hv
        | 3, hv => cases hv
        | 4, hv => cases hv
        | i + 5, hv => cases hv
      · have hak : (ch < n1) = True := eq_true hc1
        have hlt : (x < 0) = False := eq_false (fun h9 => by
          have h8 := Int32.lt_iff_toInt_lt.mp h9
          rw [show (0 : Int32).toInt = 0 from rfl] at h8
          omega)
        have hle : (x ≤ fd) = True := eq_true (Int32.le_iff_toInt_le.mpr hx1)
        refine jrun_ok jC X k_CH_end_0 0 _ _ _ o_CH_end_0 ?_
        simp only [k_CH_end_0, jrun, jstep, jldi, jldl, jlda, j1, j2, jl1, jl2, jli, ja1, jbr, jald, jast, jlald, jlast, jalen, jget, jput, jfit, jdup, jdupx, jdupx2, jdup2, jcat, jset1, jset2, jkill, List.getElem?_cons_zero, List.getElem?_cons_succ, List.set_cons_zero, List.set_cons_succ, List.length_cons, List.length_nil, Nat.reduceAdd, Nat.reduceLT, Int32.reduceToNatClampNeg, true_and, and_true, and_self, reduceCtorEq, not_false_eq_true, false_and, and_false, or_false, false_or, true_or, or_true, o1, hak, h12, hlt, hle, false_implies, true_implies, not_true_eq_false]
        refine IH K1 n1 σ1 _ _ ⟨K1, n1, σ1, rfl, h1, h2, h3⟩ pE_20 pE_20m [.inr (.inr (some (.inl ch))), .inl x, .inl fd, .inr (.inr (some (.inl w9))), .inr (.inr (some (.inl g))), .inr (.inr (some (.inl g))), vt3, .inl sp3, .inl sa3] _ [] σ2 ⟨rfl, Or.inl Nat.one_lt_two⟩ ?_ ⟨⟨rfl, fun i e v he hv => ?_⟩, ⟨rfl, fun i k hk => ?_⟩, trivial, ⟨bP0, aAllc ⟨ch, 0, f2s, _, rfl, o1, h12, rfl⟩ (aAllc ⟨ch, 0, f2s, _, rfl, o1, h02, rfl⟩ (aAllc ⟨ch, 0, f2s, _, rfl, o1, h10, rfl⟩ (aAllc ⟨w9, 2, fw3, _, rfl, ff1, ff2, rfl⟩ (aAllc ⟨w9, 2, fw3, _, rfl, ff1, ff3, rfl⟩ (aAllc ⟨w9, 2, fw3, _, rfl, ff1, ff4, rfl⟩ (fun q hq => by cases hq)))))), fun q hq => (by cases hq), aAllc ?_ (fun q hq => by cases hq), aAllc ⟨_, rfl, fTG_F (p := bP0) ht2⟩ (fun q hq => by cases hq)⟩, g1, g2, g3, g4⟩
        · intro i v hv
          match i, hv with
          | 0, hv => exact hv
          | 1, hv => exact hv
          | 2, hv => exact hv
          | 3, hv => exact hv
          | 4, hv => exact hv
          | i + 5, hv => cases hv
        · match i, he, hv with
          | 0, he, hv => cases he; cases hv; exact ⟨⟨hc1, Or.inl hk1⟩, trivial⟩
          | 1, he, hv => cases he; cases hv; exact ⟨tx, trivial⟩
          | 2, he, hv => cases he; cases hv; exact ⟨tf, trivial⟩
          | 3, he, hv => cases he; cases hv; exact ⟨⟨hu1.1, Or.inl hu1.2.1⟩, trivial⟩
          | 4, he, hv => cases he; cases hv; exact ⟨⟨gn, Or.inr rfl⟩, trivial⟩
          | 5, he, hv => cases he; cases hv; exact ⟨⟨gn, Or.inl gk25⟩, trivial⟩
          | 6, he, hv => cases he; cases hv; exact ⟨ff5, trivial⟩
          | 7, he, hv => cases he; cases hv; exact ⟨ff6, trivial⟩
          | 8, he, hv => cases he; cases hv; exact ⟨ff7, trivial⟩
          | i + 9, he, _ => cases he
        · match i, hk with
          | 0, hk => cases hk; exact ⟨_, rfl, rfl⟩
          | 1, hk => cases hk; exact ⟨_, rfl, rfl⟩
          | 2, hk => cases hk
          | 3, hk => cases hk
          | 4, hk => cases hk
          | i + 5, hk => cases hk
        · refine ⟨_, rfl, ?_⟩
          show 0 ≤ 1 * fd.toInt + (-1 * x.toInt + 0) + 0
          omega
end ENZ
