/-! the class's Board: legal moves -/
noncomputable def cGn (A : Int → Int) (sd R ps ck f x : Int) : Prop := (A f % 8 = 1 ∧ cPx A sd ps f x) ∨ (A f % 8 = 2 ∧ cHx A sd f x) ∨ (A f % 8 = 6 ∧ cKx A sd R f ck x) ∨ (¬ A f % 8 = 1 ∧ ¬ A f % 8 = 2 ∧ ¬ A f % 8 = 6 ∧ cSx A sd f (A f % 8) x)
theorem cGn_r {A : Int → Int} {sd R ps ck f x : Int} (hf : 0 ≤ f ∧ f < 64) (hs : 0 ≤ sd ∧ sd ≤ 1) (h : cGn A sd R ps ck f x) : ∃ t b : Int, 0 ≤ t ∧ t < 64 ∧ 0 ≤ b ∧ b < 8 ∧ x = 512 * f + 8 * t + b := by
  rcases h with ⟨h0, h⟩ | ⟨h0, h⟩ | ⟨h0, h⟩ | ⟨h0, h1, h2, h⟩
  · obtain ⟨hu, ⟨t, b, g0, g1, g2, g3, g4, g5, g6⟩ | ⟨g2, g6⟩⟩ := h
    · refine ⟨t, b, ?_, ?_, ?_, ?_, g6⟩
      · by_cases e : t = cOn sd f
        · omega
        · exact (g2.2 e).1
      · by_cases e : t = cOn sd f
        · omega
        · exact (g2.2 e).2.1
      · by_cases e : cOn sd f < 8 ∨ 55 < cOn sd f
        · have := g3 e; omega
        · have := g4 e; omega
      · by_cases e : cOn sd f < 8 ∨ 55 < cOn sd f
        · have := g3 e; omega
        · have := g4 e; omega
    · have g1 := g2.1
      unfold cOn at hu g6
      exact ⟨f + 8 - 16 * sd + 8 - 16 * sd, 0, by omega, by omega, by omega, by omega, by omega⟩
  · obtain ⟨j, j0, j1, j2, j3⟩ := h
    have := ca_h6 (s := f.toNat) (i := j)
    exact ⟨fHp f.toNat j, 0, by omega, by omega, by omega, by omega, by omega⟩
  · rcases h with (⟨i, i0, i1, i2, i3, i4, i5⟩ | ⟨h, i5⟩) | ⟨h, i5⟩
    · have := ca_p hf (i := i) (k := 1) (by omega) (by omega) (by omega)
      exact ⟨f + fSt i, 0, by omega, by omega, by omega, by omega, by omega⟩
    · have := h.2.1
      exact ⟨f + 2, 0, by omega, by omega, by omega, by omega, by omega⟩
    · have := h.2.1
      exact ⟨f - 2, 0, by omega, by omega, by omega, by omega, by omega⟩
  · obtain ⟨i, k, g, i5⟩ := h
    have := ca_p hf (i := i) (k := k) ⟨g.1, g.2.1⟩ (by have := g.2.2.2.2.1; omega) g.2.2.2.2.2.1
    exact ⟨f + k * fSt i, 0, by omega, by omega, by omega, by omega, by omega⟩
noncomputable def cMv (A : Int → Int) (f w t : Int) : Int → Int := zuI (zuI (zuI A f 0) w 0) t (A f)
noncomputable def cFr (h f ck : Int) : Prop := ck = 0 ∧ ¬ f % 8 = h % 8 ∧ ¬ f / 8 = h / 8 ∧ ¬ f % 8 - h % 8 = f / 8 - h / 8 ∧ ¬ f % 8 - h % 8 = -(f / 8 - h / 8)
noncomputable def cPw (A : Int → Int) (sd ps f t : Int) : Int := if A f % 8 = 1 ∧ t = ps then ps - 8 + 16 * sd else t
noncomputable def cSf (A : Int → Int) (sd ps h ck f x : Int) : Prop := (cFr h f ck ∧ cPw A sd ps f (x / 8 % 64) = x / 8 % 64) ∨ (¬ cAk (cMv A f (cPw A sd ps f (x / 8 % 64)) (x / 8 % 64)) (if A f % 8 = 6 then x / 8 % 64 else h) (1 - sd) ∧ (A f % 8 = 6 → (x / 8 % 64 - f = 2 ∨ f - x / 8 % 64 = 2) → ¬ cAk (cMv A f (cPw A sd ps f (x / 8 % 64)) (x / 8 % 64)) ((f + x / 8 % 64) / 2) (1 - sd)))
noncomputable def cLg (A : Int → Int) (sd R ps h ck F x : Int) : Prop := ∃ f : Int, 0 ≤ f ∧ f < F ∧ ¬ A f = 0 ∧ A f / 8 = sd ∧ cGn A sd R ps ck f x ∧ cSf A sd ps h ck f x
theorem cLg_n {A : Int → Int} {sd R ps h ck f x : Int} (h0 : A f = 0 ∨ ¬ A f / 8 = sd) : cLg A sd R ps h ck f x ↔ cLg A sd R ps h ck (f + 1) x := by
  constructor
  · rintro ⟨e, e0, e1, e2⟩; exact ⟨e, e0, by omega, e2⟩
  · rintro ⟨e, e0, e1, e2, e3, e4⟩
    by_cases c : e = f
    · rw [c] at e2 e3; omega
    · exact ⟨e, e0, by omega, e2, e3, e4⟩
theorem cLg_s {A : Int → Int} {sd R ps h ck f x : Int} (f0 : 0 ≤ f) (h0 : ¬ A f = 0) (h1 : A f / 8 = sd) : (cLg A sd R ps h ck f x ∨ (cGn A sd R ps ck f x ∧ cSf A sd ps h ck f x)) ↔ cLg A sd R ps h ck (f + 1) x := by
  constructor
  · rintro (⟨e, e0, e1, e2⟩ | c)
    · exact ⟨e, e0, by omega, e2⟩
    · exact ⟨f, f0, by omega, h0, h1, c⟩
  · rintro ⟨e, e0, e1, e2, e3, e4⟩
    by_cases c : e = f
    · rw [c] at e4; exact Or.inr e4
    · exact Or.inl ⟨e, e0, by omega, e2, e3, e4⟩
theorem cLg_f {A : Int → Int} {sd R ps h ck f t b : Int} (f1 : f < 64) (hs : 0 ≤ sd ∧ sd ≤ 1) (ht : 0 ≤ t ∧ t < 64 ∧ 0 ≤ b ∧ b < 8) : ¬ cLg A sd R ps h ck f (512 * f + 8 * t + b) := by
  rintro ⟨e, e0, e1, e2, e3, e4, e5⟩
  obtain ⟨t', b', h0, h1, h2, h3, h4⟩ := cGn_r ⟨e0, by omega⟩ hs e4
  omega
theorem cLg_0 {A : Int → Int} {sd R ps h ck x : Int} : ¬ cLg A sd R ps h ck 0 x := by
  rintro ⟨e, e0, e1, e2⟩; omega
/-- what is kept of a row that was written -/
noncomputable def cLi (P S : Int → Prop) (G : Int → Int) (g0 i x : Int) : Prop := P x ∨ ∃ j : Int, g0 ≤ j ∧ j < i ∧ G j = x ∧ S x
theorem cLi_y {P S : Int → Prop} {G : Int → Int} {g0 i x : Int} (h0 : g0 ≤ i) (h : S (G i)) : cLi P S G g0 (i + 1) x ↔ cLi P S G g0 i x ∨ x = G i := by
  constructor
  · rintro (c | ⟨j, j0, j1, j2, j3⟩)
    · exact Or.inl (Or.inl c)
    · by_cases e : j = i
      · right; rw [← j2, e]
      · exact Or.inl (Or.inr ⟨j, j0, by omega, j2, j3⟩)
  · rintro ((c | ⟨j, j0, j1, j2, j3⟩) | c)
    · exact Or.inl c
    · exact Or.inr ⟨j, j0, by omega, j2, j3⟩
    · exact Or.inr ⟨i, h0, by omega, c.symm, by rw [c]; exact h⟩
theorem cLi_n {P S : Int → Prop} {G : Int → Int} {g0 i x : Int} (h : ¬ S (G i)) : cLi P S G g0 i x ↔ cLi P S G g0 (i + 1) x := by
  constructor
  · rintro (c | ⟨j, j0, j1, j2, j3⟩)
    · exact Or.inl c
    · exact Or.inr ⟨j, j0, by omega, j2, j3⟩
  · rintro (c | ⟨j, j0, j1, j2, j3⟩)
    · exact Or.inl c
    · by_cases e : j = i
      · rw [← j2, e] at j3; exact absurd j3 h
      · exact Or.inr ⟨j, j0, by omega, j2, j3⟩
theorem cLi_f {P S Q : Int → Prop} {G : Int → Int} {g0 s i : Int} (hq : hqE Q G g0 s) (h0 : g0 ≤ i) (h1 : i < s) (hP : ¬ P (G i)) : ¬ cLi P S G g0 i (G i) := by
  rintro (c | ⟨j, j0, j1, j2, j3⟩)
  · exact hP c
  · have := hq.2.2.2 j i j0 (by omega) h0 h1 j2
    omega
theorem cLi_e {P S Q : Int → Prop} {G : Int → Int} {g0 s x : Int} (hq : hqE Q G g0 s) : cLi P S G g0 s x ↔ P x ∨ (Q x ∧ S x) := by
  constructor
  · rintro (c | ⟨j, j0, j1, j2, j3⟩)
    · exact Or.inl c
    · exact Or.inr ⟨by rw [← j2]; exact hq.2.1 j j0 j1, j3⟩
  · rintro (c | ⟨c, d⟩)
    · exact Or.inl c
    · obtain ⟨j, j0, j1, j2⟩ := hq.2.2.1 x c
      exact Or.inr ⟨j, j0, j1, j2, d⟩
theorem cLi_0 {P S : Int → Prop} {G : Int → Int} {g0 x : Int} : P x ↔ cLi P S G g0 g0 x := ⟨Or.inl, fun h => h.elim id (fun ⟨j, j0, j1, _⟩ => by omega)⟩
/-- what stood in a row stays there when something is written behind it -/
theorem zLx_k {L : Nat} {W V U : zW} {P Q : Int → Prop} {a r s : Int} (h : zLx L W V P a r) (h2 : zLx L V U Q r s) : zLx L W U P a r := by
  refine ⟨zFr_t h.1 h2.1, fun i hi => ?_, ?_⟩
  · rw [h2.2.1 i (by have := h.2.2.1; omega)]; exact h.2.1 i hi
  · obtain ⟨g0, g1, g2, g3⟩ := h.2.2
    refine ⟨g0, fun i i0 i1 => ?_, fun x hx => ?_, fun i j i0 i1 j0 j1 e => ?_⟩
    · rw [h2.2.1 i i1]; exact g1 i i0 i1
    · obtain ⟨i, i0, i1, i2⟩ := g2 x hx
      exact ⟨i, i0, i1, by rw [h2.2.1 i i1]; exact i2⟩
    · rw [h2.2.1 i i1, h2.2.1 j j1] at e
      exact g3 i j i0 i1 j0 j1 e
/-- the men that were moved stand again -/
theorem cRst {V : zW} {a : Nat} {f w t m : Int} (hm : m = V.2.1 a f) (h : ¬ t = w → ¬ t = f → V.2.1 a t = 0) : zuR (zuR (zuR (zuR (zuR (zuR V a f 0) a w 0) a t m) a t 0) a w (V.2.1 a w)) a f m = V := by
  refine Prod.ext rfl (Prod.ext (funext fun b => funext fun j => ?_) rfl)
  rw [zuR_2, zuR_2, zuR_2, zuR_2, zuR_2, zuR_2]
  by_cases e : b = a
  · subst e
    by_cases e1 : j = f
    · rw [if_pos ⟨rfl, e1⟩, e1, hm]
    · rw [if_neg (fun z => e1 z.2)]
      by_cases e2 : j = w
      · rw [if_pos ⟨rfl, e2⟩, e2]
      · rw [if_neg (fun z => e2 z.2)]
        by_cases e3 : j = t
        · rw [if_pos ⟨rfl, e3⟩, e3]; exact (h (by omega) (by omega)).symm
        · rw [if_neg (fun z => e3 z.2), if_neg (fun z => e3 z.2), if_neg (fun z => e2 z.2), if_neg (fun z => e1 z.2)]
  · rw [if_neg (fun z => e z.1), if_neg (fun z => e z.1), if_neg (fun z => e z.1), if_neg (fun z => e z.1), if_neg (fun z => e z.1), if_neg (fun z => e z.1)]
theorem zuR_f {V : zW} {a : Nat} {i v : Int} : (zuR V a i v).2.1 a = zuI (V.2.1 a) i v := by
  funext j
  rw [zuR_2]
  unfold zuI
  by_cases c : j = i
  · rw [if_pos ⟨rfl, c⟩, if_pos c]
  · rw [if_neg (fun z => c z.2), if_neg c]
theorem cMv_e {V : zW} {a : Nat} {f w t m : Int} (hm : m = V.2.1 a f) : (zuR (zuR (zuR V a f 0) a w 0) a t m).2.1 a = cMv (V.2.1 a) f w t := by
  rw [zuR_f, zuR_f, zuR_f, hm]
  rfl
theorem zBt_m {W : zW} {b : Nat} {i v : Int} (h : zBt W b) : zBt (zuR W (b + 1) i v) b := by
  unfold zBt
  rw [zuR_4 (show ¬ b + 8 = b + 1 by omega), zuR_4 (show ¬ b + 9 = b + 1 by omega)]
  exact h
theorem zBm_m {W : zW} {b : Nat} {i v : Int} (h : zBm W b) (hv : 0 ≤ v ∧ v ≤ 14) : zBm (zuR W (b + 1) i v) b := by
  intro s s0 s1
  rw [zuR_2]
  by_cases c : s = i
  · rw [if_pos ⟨rfl, c⟩]; exact hv
  · rw [if_neg (fun z => c z.2)]; exact h s s0 s1
theorem zBt_x {W V : zW} {b : Nat} (h : zBt W b) (e : V.2.1 (b + 8) = W.2.1 (b + 8)) (e2 : V.2.1 (b + 9) = W.2.1 (b + 9)) : zBt V b := by
  unfold zBt; rw [e, e2]; exact h
theorem zBm_x {W V : zW} {b : Nat} (h : zBm W b) (e : V.2.1 (b + 1) = W.2.1 (b + 1)) : zBm V b := by
  unfold zBm; rw [e]; exact h
/-- a Board on which legal moves can be looked for -/
noncomputable def zBg (W : zW) (b : Nat) : Prop := zBt W b ∧ zBm W b ∧ (0 ≤ W.1 b 2 ∧ W.1 b 2 ≤ 1) ∧ (0 ≤ W.1 b 3 ∧ W.1 b 3 ≤ 15) ∧ (W.1 b 4 = -1 ∨ (W.2.1 (b + 1) (W.1 b 4) = 0 ∧ ((W.1 b 2 = 0 ∧ 40 ≤ W.1 b 4 ∧ W.1 b 4 ≤ 47) ∨ (W.1 b 2 = 1 ∧ 16 ≤ W.1 b 4 ∧ W.1 b 4 ≤ 23)))) ∧ (0 ≤ W.2.1 (b + 2) (W.1 b 2) ∧ W.2.1 (b + 2) (W.1 b 2) ≤ 63)
/-- what legal leaves -/
noncomputable def zLe (L b : Nat) (W V : zW) (e a r : Int) : Prop := ∃ ck F : Int, xBl ck (cAk (W.2.1 (b + 1)) (W.2.1 (b + 2) (W.1 b 2)) (1 - W.1 b 2)) ∧ (0 ≤ F ∧ F ≤ 64) ∧ (F = 64 ∨ e ≤ r - a) ∧ r ≤ a + 27 * F ∧ zLx L W V (cLg (W.2.1 (b + 1)) (W.1 b 2) (W.1 b 3) (W.1 b 4) (W.2.1 (b + 2) (W.1 b 2)) ck F) a r
