/-! the class's Board, as a picture of its own -/
theorem fRowL {T : List aKd} {K : Nat → Nat} {n : Nat} {σ : Nat → jcell} (h : aH T K n σ) {a k : Nat} (ha : a < n) (hk : K a = k) {q : FieldType × Nat × (Int × Int) × List (Nat × Nat × Int × Int × Int)} (hT : T[k]? = some (.inl q)) (hq : q.1 = .long) : ∃ g, σ a = .inl (q.1, q.2.1, .inr (.inl g)) := by
  have h1 := h a ha _ (by rw [hk]; exact hT)
  obtain ⟨g, e⟩ := aCe_larr h1 hq
  exact ⟨g, e⟩
theorem fFld {K : Nat → Nat} {n : Nat} {ts : List aT} {fs : List jv} (h : aFs K n ts fs) {i : Nat} {A : Int × Int} (hi : ts[i]? = some (.inl A)) : ∃ x : Int32, fs[i]? = some (.inl x) ∧ aIn A x := by
  have hl : i < fs.length := by rw [h.1]; exact (List.getElem?_eq_some_iff.mp hi).1
  obtain ⟨x, e, hx⟩ := aG_int (h.2 i _ _ hi (List.getElem?_eq_getElem hl))
  exact ⟨x, by rw [List.getElem?_eq_getElem hl, e], hx⟩
theorem fBd_in {K : Nat → Nat} {n : Nat} {σ : Nat → jcell} (hH : aH fa_T K n σ) {a n0 : Nat} (ha : a < n) (hk : K a = 26) (hl : fLay K n σ a n0) : ∃ (F : Nat → Int32) (A : Nat → Nat → Int32) (L : Nat → Nat → Int64), σ = bdP σ a n0 F A L := by
  obtain ⟨h1, h2, h3, fs, hs, f0, f1, f7, f8, f9, f10, f11, f12, f13, f14, f15⟩ := hl
  have hc := hH a ha _ (show fa_T[K a]? = some _ by rw [hk]; rfl)
  rw [hs] at hc
  obtain ⟨-, hf⟩ := hc
  obtain ⟨x2, f2, -⟩ := fFld hf (i := 2) rfl
  obtain ⟨x3, f3, -⟩ := fFld hf (i := 3) rfl
  obtain ⟨x4, f4, -⟩ := fFld hf (i := 4) rfl
  obtain ⟨x5, f5, -⟩ := fFld hf (i := 5) rfl
  obtain ⟨x6, f6, -⟩ := fFld hf (i := 6) rfl
  obtain ⟨x16, f16, -⟩ := fFld hf (i := 16) rfl
  have hlen : fs.length = 17 := hf.1
  obtain ⟨g0, r0⟩ := fRow hH (a := n0 + 0) (by omega) (h3 0 (by decide)) rfl (by decide)
  obtain ⟨g1, r1⟩ := fRow hH (a := n0 + 1) (by omega) (h3 1 (by decide)) rfl (by decide)
  obtain ⟨g2, r2⟩ := fRowL hH (a := n0 + 2) (by omega) (h3 2 (by decide)) rfl rfl
  obtain ⟨g3, r3⟩ := fRow hH (a := n0 + 3) (by omega) (h3 3 (by decide)) rfl (by decide)
  obtain ⟨g4, r4⟩ := fRow hH (a := n0 + 4) (by omega) (h3 4 (by decide)) rfl (by decide)
  obtain ⟨g5, r5⟩ := fRow hH (a := n0 + 5) (by omega) (h3 5 (by decide)) rfl (by decide)
  obtain ⟨g6, r6⟩ := fRow hH (a := n0 + 6) (by omega) (h3 6 (by decide)) rfl (by decide)
  obtain ⟨g7, r7⟩ := fRow hH (a := n0 + 7) (by omega) (h3 7 (by decide)) rfl (by decide)
  obtain ⟨g8, r8⟩ := fRow hH (a := n0 + 8) (by omega) (h3 8 (by decide)) rfl (by decide)
  obtain ⟨g9, r9⟩ := fRowL hH (a := n0 + 9) (by omega) (h3 9 (by decide)) rfl rfl
  obtain ⟨g10, r10⟩ := fRow hH (a := n0 + 10) (by omega) (h3 10 (by decide)) rfl (by decide)
  refine ⟨fun k => if k = 2 then x2 else if k = 3 then x3 else if k = 4 then x4 else if k = 5 then x5 else if k = 6 then x6 else if k = 16 then x16 else 0, fun j => if j = 0 then g0 else if j = 1 then g1 else if j = 3 then g3 else if j = 4 then g4 else if j = 5 then g5 else if j = 6 then g6 else if j = 7 then g7 else if j = 8 then g8 else if j = 10 then g10 else fun _ => 0, fun j => if j = 2 then g2 else if j = 9 then g9 else fun _ => 0, ?_⟩
  funext p
  unfold bdP
  split
  next e =>
    subst e
    rw [hs]
    congr 2
    apply List.ext_getElem?
    intro i
    match i with
    | 0 => exact f0
    | 1 => exact f1
    | 2 => exact f2
    | 3 => exact f3
    | 4 => exact f4
    | 5 => exact f5
    | 6 => exact f6
    | 7 => exact f7
    | 8 => exact f8
    | 9 => exact f9
    | 10 => exact f10
    | 11 => exact f11
    | 12 => exact f12
    | 13 => exact f13
    | 14 => exact f14
    | 15 => exact f15
    | 16 => exact f16
    | k + 17 => rw [List.getElem?_eq_none (by omega), List.getElem?_eq_none (by simp [bd_fl])]
  next e =>
    split
    next e2 =>
      obtain ⟨j, rfl⟩ : ∃ j, p = n0 + j := ⟨p - n0, by omega⟩
      rw [show n0 + j - n0 = j by omega]
      have hj : j < 11 := by omega
      match j, hj with
      | 0, _ => exact r0
      | 1, _ => exact r1
      | 2, _ => exact r2
      | 3, _ => exact r3
      | 4, _ => exact r4
      | 5, _ => exact r5
      | 6, _ => exact r6
      | 7, _ => exact r7
      | 8, _ => exact r8
      | 9, _ => exact r9
      | 10, _ => exact r10
    next => rfl
theorem fBd_a {σ : Nat → jcell} {a n0 : Nat} {F : Nat → Int32} {A : Nat → Nat → Int32} {L : Nat → Nat → Int64} : bdP σ a n0 F A L a = .inr (10, bd_fl n0 F) := by
  unfold bdP
  rw [if_pos rfl]
theorem fBd_r {σ : Nat → jcell} {a n0 j : Nat} {F : Nat → Int32} {A : Nat → Nat → Int32} {L : Nat → Nat → Int64} (h : a < n0) (hj : j < 11) : bdP σ a n0 F A L (n0 + j) = bd_c A L j := by
  unfold bdP
  rw [if_neg (by omega), if_pos (by omega), show n0 + j - n0 = j by omega]
theorem fBd_n {σ : Nat → jcell} {a n0 b : Nat} {F : Nat → Int32} {A : Nat → Nat → Int32} {L : Nat → Nat → Int64} (h1 : ¬ b = a) (h2 : ¬ (n0 ≤ b ∧ b < n0 + 11)) : bdP σ a n0 F A L b = σ b := by
  unfold bdP
  rw [if_neg h1, if_neg h2]
theorem fBd_out {K : Nat → Nat} {n : Nat} {σ : Nat → jcell} (hH : aH fa_T K n σ) {a n0 : Nat} (ha : a < n) (hk : K a = 26) (hl : fLay K n σ a n0) {F F' : Nat → Int32} {A A' : Nat → Nat → Int32} {L L' : Nat → Nat → Int64} (hσ : σ = bdP σ a n0 F A L) (hM : menOK (A' 0)) (hK : kOK (A' 1)) (hb : bKeep A A' L L') (q2 : aIn (0, 1) (F' 2)) (q3 : aIn (0, 15) (F' 3)) (q4 : aIn (-1, 63) (F' 4)) (q5 : aIn (0, 2147483647) (F' 5)) (q16 : F' 16 = F 16) : aH fa_T K n (bdP σ a n0 F' A' L') := by
  obtain ⟨h1, h2, h3, fs, hs, -⟩ := hl
  intro b hbn d hd
  by_cases e : b = a
  · subst e
    rw [fBd_a]
    have ho := hH b ha _ hd
    rw [hσ, fBd_a] at ho
    rw [hk] at hd
    obtain rfl := Option.some.inj hd
    obtain ⟨-, -, ho⟩ := ho
    refine ⟨rfl, rfl, fun f t v ht hv => ?_⟩
    match f, ht, hv with
    | 0, ht, hv => obtain rfl := Option.some.inj ht; obtain rfl := Option.some.inj hv; exact ⟨by omega, Or.inl (h3 0 (by decide))⟩
    | 1, ht, hv => obtain rfl := Option.some.inj ht; obtain rfl := Option.some.inj hv; exact ⟨by omega, Or.inl (h3 1 (by decide))⟩
    | 2, ht, hv => obtain rfl := Option.some.inj ht; obtain rfl := Option.some.inj hv; exact q2
    | 3, ht, hv => obtain rfl := Option.some.inj ht; obtain rfl := Option.some.inj hv; exact q3
    | 4, ht, hv => obtain rfl := Option.some.inj ht; obtain rfl := Option.some.inj hv; exact q4
    | 5, ht, hv => obtain rfl := Option.some.inj ht; obtain rfl := Option.some.inj hv; exact q5
    | 6, ht, hv => obtain rfl := Option.some.inj ht; obtain rfl := Option.some.inj hv; exact aIn_32 _
    | 7, ht, hv => obtain rfl := Option.some.inj ht; obtain rfl := Option.some.inj hv; exact ⟨by omega, Or.inl (h3 2 (by decide))⟩
    | 8, ht, hv => obtain rfl := Option.some.inj ht; obtain rfl := Option.some.inj hv; exact ⟨by omega, Or.inl (h3 3 (by decide))⟩
    | 9, ht, hv => obtain rfl := Option.some.inj ht; obtain rfl := Option.some.inj hv; exact ⟨by omega, Or.inl (h3 4 (by decide))⟩
    | 10, ht, hv => obtain rfl := Option.some.inj ht; obtain rfl := Option.some.inj hv; exact ⟨by omega, Or.inl (h3 5 (by decide))⟩
    | 11, ht, hv => obtain rfl := Option.some.inj ht; obtain rfl := Option.some.inj hv; exact ⟨by omega, Or.inl (h3 6 (by decide))⟩
    | 12, ht, hv => obtain rfl := Option.some.inj ht; obtain rfl := Option.some.inj hv; exact ⟨by omega, Or.inl (h3 7 (by decide))⟩
    | 13, ht, hv => obtain rfl := Option.some.inj ht; obtain rfl := Option.some.inj hv; exact ⟨by omega, Or.inl (h3 8 (by decide))⟩
    | 14, ht, hv => obtain rfl := Option.some.inj ht; obtain rfl := Option.some.inj hv; exact ⟨by omega, Or.inl (h3 9 (by decide))⟩
    | 15, ht, hv => obtain rfl := Option.some.inj ht; obtain rfl := Option.some.inj hv; exact ⟨by omega, Or.inl (h3 10 (by decide))⟩
    | 16, ht, hv => obtain rfl := Option.some.inj ht; obtain rfl := Option.some.inj hv; rw [q16]; exact ho 16 _ _ rfl rfl
    | k + 17, ht, hv => simp [bd_fl] at hv
  · by_cases e2 : n0 ≤ b ∧ b < n0 + 11
    · obtain ⟨j, rfl⟩ : ∃ j, b = n0 + j := ⟨b - n0, by omega⟩
      have hj : j < 11 := by omega
      rw [fBd_r h1 hj]
      have ho := hH (n0 + j) hbn _ hd
      rw [hσ, fBd_r h1 hj] at ho
      rw [h3 j hj] at hd
      match j, hj, hd, ho with
      | 0, _, hd, ho => obtain rfl := Option.some.inj hd; exact ⟨rfl, rfl, by decide, fun i hi => ⟨by obtain ⟨m, hm, e⟩ := hM i hi; rw [e]; exact ⟨by rw [nI_toInt (by omega)]; dsimp only; omega, by rw [nI_toInt (by omega)]; dsimp only; omega⟩, fun q hq => by cases hq⟩⟩
      | 1, _, hd, ho => obtain rfl := Option.some.inj hd; exact ⟨rfl, rfl, by decide, fun i hi => ⟨by obtain ⟨m, hm, e⟩ := hK i hi; rw [e]; exact ⟨by rw [nI_toInt (by omega)]; dsimp only; omega, by rw [nI_toInt (by omega)]; dsimp only; omega⟩, fun q hq => by cases hq⟩⟩
      | 2, _, hd, ho => obtain rfl := Option.some.inj hd; exact ⟨rfl, rfl, rfl⟩
      | 3, _, hd, ho => obtain rfl := Option.some.inj hd; exact ⟨rfl, rfl, by decide, fun i hi => ⟨aIn_32 _, fun q hq => by cases hq⟩⟩
      | 4, _, hd, ho => obtain rfl := Option.some.inj hd; exact ⟨rfl, rfl, by decide, fun i hi => ⟨aIn_32 _, fun q hq => by cases hq⟩⟩
      | 5, _, hd, ho => obtain rfl := Option.some.inj hd; exact ⟨rfl, rfl, by decide, fun i hi => ⟨aIn_32 _, fun q hq => by cases hq⟩⟩
      | 6, _, hd, ho => obtain rfl := Option.some.inj hd; have eA : A' 6 = A 6 := hb.1; show aCe K n _ (.inl (.int, 1024, .inl (A' 6))); rw [eA]; exact ho
      | 7, _, hd, ho => obtain rfl := Option.some.inj hd; have eA : A' 7 = A 7 := hb.2.1; show aCe K n _ (.inl (.int, 512, .inl (A' 7))); rw [eA]; exact ho
      | 8, _, hd, ho => obtain rfl := Option.some.inj hd; have eA : A' 8 = A 8 := hb.2.2.1; show aCe K n _ (.inl (.int, 512, .inl (A' 8))); rw [eA]; exact ho
      | 9, _, hd, ho => obtain rfl := Option.some.inj hd; exact ⟨rfl, rfl, rfl⟩
      | 10, _, hd, ho => obtain rfl := Option.some.inj hd; exact ⟨rfl, rfl, by decide, fun i hi => ⟨aIn_32 _, fun q hq => by cases hq⟩⟩
    · rw [fBd_n e e2]
      exact hH b hbn d hd
theorem fBd_fr {K : Nat → Nat} {n : Nat} {σ : Nat → jcell} (hH : aH fa_T K n σ) {a n0 : Nat} (ha : a < n) (hk : K a = 26) (hl : fLay K n σ a n0) {F F' : Nat → Int32} {A A' : Nat → Nat → Int32} {L L' : Nat → Nat → Int64} (hσ : σ = bdP σ a n0 F A L) (q16 : F' 16 = F 16) : aFr K n [(26, 2), (26, 3), (26, 4), (26, 5), (26, 6)] σ (bdP σ a n0 F' A' L') := by
  obtain ⟨h1, h2, h3, -⟩ := hl
  intro b hbn c fs h0
  by_cases e : b = a
  · subst e
    rw [hσ, fBd_a] at h0
    cases h0
    refine ⟨bd_fl n0 F', fBd_a, rfl, fun f v hv hn => ?_⟩
    match f, hv, hn with
    | 0, hv, hn => exact hv
    | 1, hv, hn => exact hv
    | 2, hv, hn => exact absurd (by rw [hk]; decide) hn
    | 3, hv, hn => exact absurd (by rw [hk]; decide) hn
    | 4, hv, hn => exact absurd (by rw [hk]; decide) hn
    | 5, hv, hn => exact absurd (by rw [hk]; decide) hn
    | 6, hv, hn => exact absurd (by rw [hk]; decide) hn
    | 7, hv, hn => exact hv
    | 8, hv, hn => exact hv
    | 9, hv, hn => exact hv
    | 10, hv, hn => exact hv
    | 11, hv, hn => exact hv
    | 12, hv, hn => exact hv
    | 13, hv, hn => exact hv
    | 14, hv, hn => exact hv
    | 15, hv, hn => exact hv
    | 16, hv, hn => show some (.inl (F' 16)) = some v; rw [q16]; exact hv
    | k + 17, hv, hn => simp [bd_fl] at hv
  · by_cases e2 : n0 ≤ b ∧ b < n0 + 11
    · obtain ⟨j, rfl⟩ : ∃ j, b = n0 + j := ⟨b - n0, by omega⟩
      have hj : j < 11 := by omega
      rw [hσ, fBd_r h1 hj] at h0
      match j, hj, h0 with
      | 0, _, h0 => exact absurd (show (.inl (.int, 64, .inl (A 0)) : jcell) = .inr (c, fs) from h0) (by intro h; cases h)
      | 1, _, h0 => exact absurd (show (.inl (.int, 2, .inl (A 1)) : jcell) = .inr (c, fs) from h0) (by intro h; cases h)
      | 2, _, h0 => exact absurd (show (.inl (.long, 4, .inr (.inl (L 2))) : jcell) = .inr (c, fs) from h0) (by intro h; cases h)
      | 3, _, h0 => exact absurd (show (.inl (.int, 2, .inl (A 3)) : jcell) = .inr (c, fs) from h0) (by intro h; cases h)
      | 4, _, h0 => exact absurd (show (.inl (.int, 16, .inl (A 4)) : jcell) = .inr (c, fs) from h0) (by intro h; cases h)
      | 5, _, h0 => exact absurd (show (.inl (.int, 2, .inl (A 5)) : jcell) = .inr (c, fs) from h0) (by intro h; cases h)
      | 6, _, h0 => exact absurd (show (.inl (.int, 1024, .inl (A 6)) : jcell) = .inr (c, fs) from h0) (by intro h; cases h)
      | 7, _, h0 => exact absurd (show (.inl (.int, 512, .inl (A 7)) : jcell) = .inr (c, fs) from h0) (by intro h; cases h)
      | 8, _, h0 => exact absurd (show (.inl (.int, 512, .inl (A 8)) : jcell) = .inr (c, fs) from h0) (by intro h; cases h)
      | 9, _, h0 => exact absurd (show (.inl (.long, 1280, .inr (.inl (L 9))) : jcell) = .inr (c, fs) from h0) (by intro h; cases h)
      | 10, _, h0 => exact absurd (show (.inl (.int, 320, .inl (A 10)) : jcell) = .inr (c, fs) from h0) (by intro h; cases h)
    · exact ⟨fs, by rw [fBd_n e e2]; exact h0, rfl, fun f v hv _ => hv⟩
theorem fBd_fa {K : Nat → Nat} {n : Nat} {σ : Nat → jcell} (hH : aH fa_T K n σ) {a n0 : Nat} (ha : a < n) (hk : K a = 26) (hl : fLay K n σ a n0) {F F' : Nat → Int32} {A A' : Nat → Nat → Int32} {L L' : Nat → Nat → Int64} (hσ : σ = bdP σ a n0 F A L) (hb : bKeep A A' L L') (ρ : List jv) : aFa K n [(27, ([], 0)), (28, ([], 0)), (29, ([], 0)), (30, ([], 0)), (31, ([], 0)), (32, ([], 0))] ρ σ (bdP σ a n0 F' A' L') := by
  obtain ⟨h1, h2, h3, -⟩ := hl
  intro b hbn
  have vac : ∀ (j i : Nat), j < 6 → aFw K [(27, ([], 0)), (28, ([], 0)), (29, ([], 0)), (30, ([], 0)), (31, ([], 0)), (32, ([], 0))] ρ (n0 + j) i → False := fun j i hj hw => by
    obtain ⟨z, hz, hlt⟩ := hw (27 + j, ([], 0)) (by
      match j, hj with
      | 0, _ => decide
      | 1, _ => decide
      | 2, _ => decide
      | 3, _ => decide
      | 4, _ => decide
      | 5, _ => decide) (h3 j (by omega)).symm
    obtain ⟨w, e, rfl⟩ := hz
    have ew : (0 : Int) = w := Option.some.inj (show some (0 : Int) = some w from e)
    dsimp only at hlt
    omega
  by_cases e : b = a
  · subst e
    refine ⟨fun ty m g h0 => ?_, fun ty m g h0 => ?_⟩
    · rw [hσ, fBd_a] at h0
      cases h0
    · rw [hσ, fBd_a] at h0
      cases h0
  · by_cases e2 : n0 ≤ b ∧ b < n0 + 11
    · obtain ⟨j, rfl⟩ : ∃ j, b = n0 + j := ⟨b - n0, by omega⟩
      have hj : j < 11 := by omega
      refine ⟨fun ty m g h0 => ?_, fun ty m g h0 => ?_⟩
      · rw [hσ, fBd_r h1 hj] at h0
        match j, hj, h0 with
        | 0, _, h0 => cases (show (.inl (.int, 64, .inl (A 0)) : jcell) = .inl (ty, m, .inl g) from h0); exact ⟨A' 0, fBd_r h1 (by decide), fun i hw => (vac 0 i (by decide) hw).elim⟩
        | 1, _, h0 => cases (show (.inl (.int, 2, .inl (A 1)) : jcell) = .inl (ty, m, .inl g) from h0); exact ⟨A' 1, fBd_r h1 (by decide), fun i hw => (vac 1 i (by decide) hw).elim⟩
        | 2, _, h0 => exact absurd (show (.inl (.long, 4, .inr (.inl (L 2))) : jcell) = .inl (ty, m, .inl g) from h0) (by intro h; cases h)
        | 3, _, h0 => cases (show (.inl (.int, 2, .inl (A 3)) : jcell) = .inl (ty, m, .inl g) from h0); exact ⟨A' 3, fBd_r h1 (by decide), fun i hw => (vac 3 i (by decide) hw).elim⟩
        | 4, _, h0 => cases (show (.inl (.int, 16, .inl (A 4)) : jcell) = .inl (ty, m, .inl g) from h0); exact ⟨A' 4, fBd_r h1 (by decide), fun i hw => (vac 4 i (by decide) hw).elim⟩
        | 5, _, h0 => cases (show (.inl (.int, 2, .inl (A 5)) : jcell) = .inl (ty, m, .inl g) from h0); exact ⟨A' 5, fBd_r h1 (by decide), fun i hw => (vac 5 i (by decide) hw).elim⟩
        | 6, _, h0 => cases (show (.inl (.int, 1024, .inl (A 6)) : jcell) = .inl (ty, m, .inl g) from h0); exact ⟨A' 6, fBd_r h1 (by decide), fun i _ => by rw [hb.1]⟩
        | 7, _, h0 => cases (show (.inl (.int, 512, .inl (A 7)) : jcell) = .inl (ty, m, .inl g) from h0); exact ⟨A' 7, fBd_r h1 (by decide), fun i _ => by rw [hb.2.1]⟩
        | 8, _, h0 => cases (show (.inl (.int, 512, .inl (A 8)) : jcell) = .inl (ty, m, .inl g) from h0); exact ⟨A' 8, fBd_r h1 (by decide), fun i _ => by rw [hb.2.2.1]⟩
        | 9, _, h0 => exact absurd (show (.inl (.long, 1280, .inr (.inl (L 9))) : jcell) = .inl (ty, m, .inl g) from h0) (by intro h; cases h)
        | 10, _, h0 => cases (show (.inl (.int, 320, .inl (A 10)) : jcell) = .inl (ty, m, .inl g) from h0); exact ⟨A' 10, fBd_r h1 (by decide), fun i _ => by rw [hb.2.2.2.1]⟩
      · rw [hσ, fBd_r h1 hj] at h0
        match j, hj, h0 with
        | 0, _, h0 => exact absurd (show (.inl (.int, 64, .inl (A 0)) : jcell) = .inl (ty, m, .inr (.inl g)) from h0) (by intro h; cases h)
        | 1, _, h0 => exact absurd (show (.inl (.int, 2, .inl (A 1)) : jcell) = .inl (ty, m, .inr (.inl g)) from h0) (by intro h; cases h)
        | 2, _, h0 => cases (show (.inl (.long, 4, .inr (.inl (L 2))) : jcell) = .inl (ty, m, .inr (.inl g)) from h0); exact ⟨L' 2, fBd_r h1 (by decide), fun i hw => (vac 2 i (by decide) hw).elim⟩
        | 3, _, h0 => exact absurd (show (.inl (.int, 2, .inl (A 3)) : jcell) = .inl (ty, m, .inr (.inl g)) from h0) (by intro h; cases h)
        | 4, _, h0 => exact absurd (show (.inl (.int, 16, .inl (A 4)) : jcell) = .inl (ty, m, .inr (.inl g)) from h0) (by intro h; cases h)
        | 5, _, h0 => exact absurd (show (.inl (.int, 2, .inl (A 5)) : jcell) = .inl (ty, m, .inr (.inl g)) from h0) (by intro h; cases h)
        | 6, _, h0 => exact absurd (show (.inl (.int, 1024, .inl (A 6)) : jcell) = .inl (ty, m, .inr (.inl g)) from h0) (by intro h; cases h)
        | 7, _, h0 => exact absurd (show (.inl (.int, 512, .inl (A 7)) : jcell) = .inl (ty, m, .inr (.inl g)) from h0) (by intro h; cases h)
        | 8, _, h0 => exact absurd (show (.inl (.int, 512, .inl (A 8)) : jcell) = .inl (ty, m, .inr (.inl g)) from h0) (by intro h; cases h)
        | 9, _, h0 => cases (show (.inl (.long, 1280, .inr (.inl (L 9))) : jcell) = .inl (ty, m, .inr (.inl g)) from h0); exact ⟨L' 9, fBd_r h1 (by decide), fun i _ => by rw [hb.2.2.2.2]⟩
        | 10, _, h0 => exact absurd (show (.inl (.int, 320, .inl (A 10)) : jcell) = .inl (ty, m, .inr (.inl g)) from h0) (by intro h; cases h)
    · refine ⟨fun ty m g h0 => ⟨g, by rw [fBd_n e e2]; exact h0, fun _ _ => rfl⟩, fun ty m g h0 => ⟨g, by rw [fBd_n e e2]; exact h0, fun _ _ => rfl⟩⟩
theorem fBd_jx {K : Nat → Nat} {n : Nat} {σ : Nat → jcell} (hH : aH fa_T K n σ) {a n0 : Nat} (ha : a < n) (hk : K a = 26) (hl : fLay K n σ a n0) {F F' : Nat → Int32} {A A' : Nat → Nat → Int32} {L L' : Nat → Nat → Int64} (hσ : σ = bdP σ a n0 F A L) (hb : bKeep A A' L L') (hX : fJX K n σ) : fJX K n (bdP σ a n0 F' A' L') := by
  obtain ⟨h1, h2, h3, fs, hs, hl⟩ := hl
  have same : ∀ b, b < n → (K b = 34 ∨ K b = 35 ∨ K b = 33) → bdP σ a n0 F' A' L' b = σ b := fun b hbn hkb => by
    have e : ¬ b = a := fun e => by rw [e, hk] at hkb; omega
    by_cases e2 : n0 ≤ b ∧ b < n0 + 11
    · obtain ⟨j, rfl⟩ : ∃ j, b = n0 + j := ⟨b - n0, by omega⟩
      have hj : j < 11 := by omega
      rw [h3 j hj] at hkb
      rw [fBd_r h1 hj]
      have hh : σ (n0 + j) = bd_c A L j := (congrFun hσ (n0 + j)).trans (fBd_r h1 hj)
      rw [hh]
      have hc : j = 7 ∨ j = 8 ∨ j = 6 := by omega
      rcases hc with rfl | rfl | rfl
      · show (.inl (.int, 512, .inl (A' 7)) : jcell) = .inl (.int, 512, .inl (A 7))
        rw [hb.2.1]
      · show (.inl (.int, 512, .inl (A' 8)) : jcell) = .inl (.int, 512, .inl (A 8))
        rw [hb.2.2.1]
      · show (.inl (.int, 1024, .inl (A' 6)) : jcell) = .inl (.int, 1024, .inl (A 6))
        rw [hb.1]
    · exact fBd_n e e2
  refine ⟨fun b hbn hkb => ?_, fun b hbn hkb => ?_, fun b hbn hkb => ?_, fun b hbn hkb => ?_⟩
  · rw [same b hbn (Or.inl hkb)]
    exact hX.1 b hbn hkb
  · rw [same b hbn (Or.inr (Or.inl hkb))]
    exact hX.2.1 b hbn hkb
  · by_cases e : b = a
    · subst e
      exact ⟨n0, h1, h2, h3, bd_fl n0 F', fBd_a, rfl, rfl, rfl, rfl, rfl, rfl, rfl, rfl, rfl, rfl, rfl⟩
    · obtain ⟨m0, k1, k2, k3, gs, k4, k5⟩ := hX.2.2.1 b hbn hkb
      have e2 : ¬ (n0 ≤ b ∧ b < n0 + 11) := fun e2 => by
        obtain ⟨j, rfl⟩ : ∃ j, b = n0 + j := ⟨b - n0, by omega⟩
        rw [h3 j (by omega)] at hkb
        omega
      exact ⟨m0, k1, k2, k3, gs, by rw [fBd_n e e2]; exact k4, k5⟩
  · rw [same b hbn (Or.inr (Or.inr hkb))]
    exact hX.2.2.2 b hbn hkb

