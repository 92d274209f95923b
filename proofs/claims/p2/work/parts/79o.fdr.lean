/-! exact facts: how they are opened -/
theorem fH_o {K : Nat → Nat} {n : Nat} {p : fP} {k : Nat} {vs : List jv} {σ : Nat → jcell} (h1 : 200 ≤ k ∧ k < 208) (h2 : ¬ (k = 204 ∨ 208 ≤ k)) : fB K n p k vs σ ↔ ∃ (b : Nat) (g : Nat → Int32) (rest : List jv), vs = fR b :: rest ∧ fMe K n σ b g ∧ fHm k g rest := by
  rw [fB_def (by omega)]
  unfold fD
  rw [if_neg (by omega), if_neg (by omega), if_neg (by omega)]
  unfold fC
  rw [if_pos h1.1]
  unfold fH
  rw [if_neg (by omega), if_neg h2]
theorem fP_o {K : Nat → Nat} {n : Nat} {p : fP} {k : Nat} {vs : List jv} {σ : Nat → jcell} (h1 : k = 204 ∨ (208 ≤ k ∧ k < 240)) : fB K n p k vs σ ↔ fHq k vs := by
  rw [fB_def (by omega)]
  unfold fD
  rw [if_neg (by omega), if_neg (by omega), if_neg (by omega)]
  unfold fC
  rw [if_pos (by omega)]
  unfold fH
  rw [if_neg (by omega), if_pos (by omega)]
theorem fS_o {K : Nat → Nat} {n : Nat} {p : fP} {k : Nat} {vs : List jv} {σ : Nat → jcell} (h1 : 240 ≤ k) (h2 : k < 400) : fB K n p k vs σ ↔ fHs K n k vs σ := by
  rw [fB_def (by omega)]
  unfold fD
  rw [if_neg (by omega), if_neg (by omega), if_neg (by omega)]
  unfold fC
  rw [if_pos (by omega)]
  unfold fH
  rw [if_pos h1]
theorem fX_o {K : Nat → Nat} {n : Nat} {p : fP} {k : Nat} {vs : List jv} {σ : Nat → jcell} (h1 : 400 ≤ k) : fB K n p k vs σ ↔ fGx K n p k vs σ := by
  rw [fB_def (by omega)]
  unfold fD
  rw [if_neg (by omega), if_neg (by omega), if_pos h1]
theorem fE_o {K : Nat → Nat} {n : Nat} {p : fP} {k : Nat} {vs : List jv} {σ : Nat → jcell} (h : k = 8 ∨ k = 17 ∨ k = 29 ∨ (48 ≤ k ∧ k < 60)) : fB K n p k vs σ ↔ fEp p k vs := by
  rw [fB_def (by omega)]
  unfold fD
  rw [if_pos (by omega)]
theorem fL_o {K : Nat → Nat} {n : Nat} {p : fP} {k : Nat} {vs : List jv} {σ : Nat → jcell} (h1 : 77 ≤ k) (h2 : k < 99) : fB K n p k vs σ ↔ ∃ (a : Nat) (lo hi : Int32) (rest : List jv) (S C : Int32 → Prop), vs = fR a :: fI lo :: fI hi :: rest ∧ fEt (fq p).1 (fq p).2 k rest lo hi S C ∧ fCv K n σ a (fEb k rest lo hi) (hi.toInt + fEc k) S C := by
  rw [fB_def (by omega)]
  unfold fD
  rw [if_neg (by omega), if_pos h2]
  unfold fEl
  rw [if_neg (by omega)]
theorem fK_o {K : Nat → Nat} {n : Nat} {p : fP} {vs : List jv} {σ : Nat → jcell} : fB K n p 60 vs σ ↔ ((∃ (a : Nat) (h : Int32), fKg K n σ a h ∧ ((vs = [fR a] ∧ fHL (fq p).1 (fq p).2 h.toInt) ∨ (∃ z r : Int32, vs = [fR a, fI z, fI r] ∧ (z.toInt < r.toInt → fHL (fq p).1 (fq p).2 h.toInt) ∧ (z.toInt = r.toInt → ¬ fHL (fq p).1 (fq p).2 h.toInt)) ∨ vs = [fR a, fI h, fI h, fI h])) ∨ (∃ (a : Nat) (r : Int32), vs = [fR a, fI r] ∧ (¬ r.toInt = 0 ∨ ∃ h, fKg K n σ a h ∧ fHL (fq p).1 (fq p).2 h.toInt))) := by
  rw [fB_def (by omega)]
  unfold fD
  rw [if_neg (by omega), if_pos (by omega)]
  unfold fEl
  rw [if_pos rfl]
theorem fMe_c {K : Nat → Nat} {n : Nat} {σ : Nat → jcell} {a c r m : Nat} {ty : FieldType} {fs : List jv} {g gc : Nat → Int32} (h : fMe K n σ a g) (hs : σ a = .inr (c, fs)) (ht : fs[0]? = some (fR r)) (sc : σ r = .inl (ty, m, .inl gc)) : g = gc := by
  obtain ⟨r', ⟨-, -, c', fs', e1, e2⟩, -, -, l3⟩ := h
  rw [hs] at e1
  cases e1
  rw [ht] at e2
  cases e2
  rw [l3] at sc
  cases sc
  rfl
theorem fKg_u {K : Nat → Nat} {n : Nat} {σ : Nat → jcell} {a : Nat} {x y : Int32} (h : fKg K n σ a x) (h' : fKg K n σ a y) : x = y := by
  obtain ⟨r, g, s, ⟨-, -, c1, f1, e1, e2⟩, -, -, l3, ⟨-, -, c2, f2, e3, e4⟩, e⟩ := h
  obtain ⟨r', g', s', ⟨-, -, c3, f3, e5, e6⟩, -, -, l6, ⟨-, -, c4, f4, e7, e8⟩, e'⟩ := h'
  rw [e1] at e3 e5 e7
  cases e3
  cases e5
  cases e7
  rw [e2] at e6
  cases e6
  rw [e4] at e8
  cases e8
  rw [l3] at l6
  cases l6
  exact e.symm.trans e'
theorem fHp_n (l : List Nat) (i j : Nat) (h : (l.map Int.ofNat).getD i (-1) < 0) (hj : i ≤ j) : (l.map Int.ofNat).getD j (-1) < 0 := by
  have hl : (l.map Int.ofNat).length ≤ i := by
    refine Nat.le_of_not_lt fun hi => ?_
    rw [List.getD_eq_getElem?_getD, List.getElem?_eq_getElem hi, List.getElem_map] at h
    have : (0 : Int) ≤ Int.ofNat l[i] := Int.natCast_nonneg _
    exact absurd h (by show ¬ Int.ofNat _ < 0; omega)
  rw [List.getD_eq_getElem?_getD, List.getElem?_eq_none (by omega)]
  decide
theorem fHp_no {s i j : Nat} (h : fHp s i < 0) (hj : i ≤ j) : fHp s j < 0 := fHp_n _ i j h hj
theorem fHp_le (s j : Nat) : fHp s j ≤ 63 := by
  unfold fHp
  generalize hl : (List.range 64).filter _ = l
  have hm : ∀ x ∈ l, x < 64 := fun x hx => by rw [← hl] at hx; exact List.mem_range.mp (List.mem_filter.mp hx).1
  rw [List.getD_eq_getElem?_getD]
  by_cases hi : j < (l.map Int.ofNat).length
  · rw [List.getElem?_eq_getElem hi, List.getElem_map]
    have hi2 : j < l.length := by rw [List.length_map] at hi; exact hi
    have := hm l[j] (List.getElem_mem hi2)
    show Int.ofNat l[j] ≤ 63
    have e : Int.ofNat l[j] = (l[j] : Int) := rfl
    omega
  · rw [List.getElem?_eq_none (by omega)]
    decide
/-! lists -/
theorem fCv_0 {K : Nat → Nat} {n : Nat} {σ : Nat → jcell} {a m : Nat} {g : Nat → Int32} {lo hi : Int} {S C : Int32 → Prop} (h1 : a < n) (h2 : fRw (K a)) (h3 : σ a = .inl (.int, m, .inl g)) (h : hi ≤ lo) (hC : ∀ x, ¬ C x) : fCv K n σ a lo hi S C := ⟨h1, h2, m, g, h3, fun k k1 k2 => by omega, fun x hx => absurd hx (hC x)⟩
theorem fCv_w {K : Nat → Nat} {n : Nat} {σ : Nat → jcell} {a : Nat} {lo hi lo' hi' : Int} {S C S' C' : Int32 → Prop} (h : fCv K n σ a lo hi S C) (e1 : lo = lo') (e2 : hi = hi') (hS : ∀ x, S x → S' x) (hC : ∀ x, C' x → C x) : fCv K n σ a lo' hi' S' C' := by
  obtain ⟨h1, h2, m, g, h3, h4, h5⟩ := h
  subst e1
  subst e2
  exact ⟨h1, h2, m, g, h3, fun k k1 k2 => hS _ (h4 k k1 k2), fun x hx => h5 x (hC x hx)⟩
theorem fCv_st {K : Nat → Nat} {n : Nat} {σ : Nat → jcell} {a i : Nat} {lo hi hi' : Int} {S C C' : Int32 → Prop} {x : Int32} (h : fCv K n σ a lo hi S C) (hi0 : (i : Int) = hi) (hl : lo ≤ hi) (e2 : hi' = hi + 1) (hS : S x) (hC : ∀ y, C' y → C y ∨ y = x) : fCv K n (jup σ a (jsto (σ a) i x)) a lo hi' S C' := by
  obtain ⟨h1, h2, m, g, h3, h4, h5⟩ := h
  subst e2
  refine ⟨h1, h2, m, upd g i x, by rw [jup_s, h3]; rfl, fun k k1 k2 => ?_, fun y hy => ?_⟩
  · unfold upd
    split
    next => exact hS
    next e => exact h4 k k1 (by omega)
  · rcases hC y hy with hy | rfl
    · obtain ⟨k, k1, k2, k3⟩ := h5 y hy
      exact ⟨k, k1, by omega, by unfold upd; rw [if_neg (by omega)]; exact k3⟩
    · exact ⟨i, by omega, by omega, by unfold upd; rw [if_pos rfl]⟩
theorem fI32 {x y : Int32} (h : x.toInt = y.toInt) : x = y := Int32.toInt_inj.mp h
/-! attack over other men -/
theorem fEm_cg {M N : Nat → Int32} (h : ∀ i, i < 64 → M i = N i) {s i k : Int} (hs : 0 ≤ s ∧ s ≤ 63) (hi : 0 ≤ i ∧ i ≤ 7) (hk : k ≤ fRc s i + 1) (e : fEm M s i k) : fEm N s i k := by
  intro q q1 q2
  have h7 := fRay hs.1 hs.2 hi.1 hi.2 q1 (by omega)
  rw [← h (s + q * fSt i).toNat (by omega)]
  exact e q q1 q2
theorem fAk_cg1 {M N : Nat → Int32} (h : ∀ i, i < 64 → M i = N i) {s b : Int} (hs : 0 ≤ s ∧ s ≤ 63) (e : fAk M s b) : fAk N s b := by
  rcases e with ⟨j, j1, j2, j3⟩ | ⟨i, i1, i2, k, k1, k2, k3, k4, k5⟩
  · have := fHp_le s.toNat j
    exact Or.inl ⟨j, j1, j2, by rw [← h _ (by omega)]; exact j3⟩
  · have h7 := fRay hs.1 hs.2 i1 (by omega) k1 k2
    have h8 := h (s + k * fSt i).toNat (by omega)
    exact Or.inr ⟨i, i1, i2, k, k1, k2, fEm_cg h hs ⟨i1, by omega⟩ (by omega) k3, by rw [← h8]; exact k4, by rw [← h8]; exact k5⟩
theorem fAk_cg {M N : Nat → Int32} (h : ∀ i, i < 64 → M i = N i) {s b : Int} (hs : 0 ≤ s ∧ s ≤ 63) : fAk M s b ↔ fAk N s b := ⟨fAk_cg1 h hs, fAk_cg1 (fun i hi => (h i hi).symm) hs⟩
/-! the level -/
theorem fDh : ∀ k, k < 200 → fh_dep.getD k [] = fg_dep.getD k []
  | 0, _ => rfl
  | 1, _ => rfl
  | 2, _ => rfl
  | 3, _ => rfl
  | 4, _ => rfl
  | 5, _ => rfl
  | 6, _ => rfl
  | 7, _ => rfl
  | 8, _ => rfl
  | 9, _ => rfl
  | 10, _ => rfl
  | 11, _ => rfl
  | 12, _ => rfl
  | 13, _ => rfl
  | 14, _ => rfl
  | 15, _ => rfl
  | 16, _ => rfl
  | 17, _ => rfl
  | 18, _ => rfl
  | 19, _ => rfl
  | 20, _ => rfl
  | 21, _ => rfl
  | 22, _ => rfl
  | 23, _ => rfl
  | 24, _ => rfl
  | 25, _ => rfl
  | 26, _ => rfl
  | 27, _ => rfl
  | 28, _ => rfl
  | 29, _ => rfl
  | 30, _ => rfl
  | 31, _ => rfl
  | 32, _ => rfl
  | 33, _ => rfl
  | 34, _ => rfl
  | 35, _ => rfl
  | 36, _ => rfl
  | 37, _ => rfl
  | 38, _ => rfl
  | 39, _ => rfl
  | 40, _ => rfl
  | 41, _ => rfl
  | 42, _ => rfl
  | 43, _ => rfl
  | 44, _ => rfl
  | 45, _ => rfl
  | 46, _ => rfl
  | 47, _ => rfl
  | 48, _ => rfl
  | 49, _ => rfl
  | 50, _ => rfl
  | 51, _ => rfl
  | 52, _ => rfl
  | 53, _ => rfl
  | 54, _ => rfl
  | 55, _ => rfl
  | 56, _ => rfl
  | 57, _ => rfl
  | 58, _ => rfl
  | 59, _ => rfl
  | 60, _ => rfl
  | 61, _ => rfl
  | 62, _ => rfl
  | 63, _ => rfl
  | 64, _ => rfl
  | 65, _ => rfl
  | 66, _ => rfl
  | 67, _ => rfl
  | 68, _ => rfl
  | 69, _ => rfl
  | 70, _ => rfl
  | 71, _ => rfl
  | 72, _ => rfl
  | 73, _ => rfl
  | 74, _ => rfl
  | 75, _ => rfl
  | 76, _ => rfl
  | 77, _ => rfl
  | 78, _ => rfl
  | 79, _ => rfl
  | 80, _ => rfl
  | 81, _ => rfl
  | 82, _ => rfl
  | 83, _ => rfl
  | 84, _ => rfl
  | 85, _ => rfl
  | 86, _ => rfl
  | 87, _ => rfl
  | 88, _ => rfl
  | 89, _ => rfl
  | 90, _ => rfl
  | 91, _ => rfl
  | 92, _ => rfl
  | 93, _ => rfl
  | 94, _ => rfl
  | 95, _ => rfl
  | 96, _ => rfl
  | 97, _ => rfl
  | 98, _ => rfl
  | 99, _ => rfl
  | 100, _ => rfl
  | 101, _ => rfl
  | 102, _ => rfl
  | 103, _ => rfl
  | 104, _ => rfl
  | 105, _ => rfl
  | 106, _ => rfl
  | 107, _ => rfl
  | 108, _ => rfl
  | 109, _ => rfl
  | 110, _ => rfl
  | 111, _ => rfl
  | 112, _ => rfl
  | 113, _ => rfl
  | 114, _ => rfl
  | 115, _ => rfl
  | 116, _ => rfl
  | 117, _ => rfl
  | 118, _ => rfl
  | 119, _ => rfl
  | 120, _ => rfl
  | 121, _ => rfl
  | 122, _ => rfl
  | 123, _ => rfl
  | 124, _ => rfl
  | 125, _ => rfl
  | 126, _ => rfl
  | 127, _ => rfl
  | 128, _ => rfl
  | 129, _ => rfl
  | 130, _ => rfl
  | 131, _ => rfl
  | 132, _ => rfl
  | 133, _ => rfl
  | 134, _ => rfl
  | 135, _ => rfl
  | 136, _ => rfl
  | 137, _ => rfl
  | 138, _ => rfl
  | 139, _ => rfl
  | 140, _ => rfl
  | 141, _ => rfl
  | 142, _ => rfl
  | 143, _ => rfl
  | 144, _ => rfl
  | 145, _ => rfl
  | 146, _ => rfl
  | 147, _ => rfl
  | 148, _ => rfl
  | 149, _ => rfl
  | 150, _ => rfl
  | 151, _ => rfl
  | 152, _ => rfl
  | 153, _ => rfl
  | 154, _ => rfl
  | 155, _ => rfl
  | 156, _ => rfl
  | 157, _ => rfl
  | 158, _ => rfl
  | 159, _ => rfl
  | 160, _ => rfl
  | 161, _ => rfl
  | 162, _ => rfl
  | 163, _ => rfl
  | 164, _ => rfl
  | 165, _ => rfl
  | 166, _ => rfl
  | 167, _ => rfl
  | 168, _ => rfl
  | 169, _ => rfl
  | 170, _ => rfl
  | 171, _ => rfl
  | 172, _ => rfl
  | 173, _ => rfl
  | 174, _ => rfl
  | 175, _ => rfl
  | 176, _ => rfl
  | 177, _ => rfl
  | 178, _ => rfl
  | 179, _ => rfl
  | 180, _ => rfl
  | 181, _ => rfl
  | 182, _ => rfl
  | 183, _ => rfl
  | 184, _ => rfl
  | 185, _ => rfl
  | 186, _ => rfl
  | 187, _ => rfl
  | 188, _ => rfl
  | 189, _ => rfl
  | 190, _ => rfl
  | 191, _ => rfl
  | 192, _ => rfl
  | 193, _ => rfl
  | 194, _ => rfl
  | 195, _ => rfl
  | 196, _ => rfl
  | 197, _ => rfl
  | 198, _ => rfl
  | 199, _ => rfl
  | k + 200, h => absurd h (by omega)
theorem fH_dp {K : Nat → Nat} {n : Nat} {k : Nat} {vs ws : List jv} {σ σ' : Nat → jcell} (hk : 200 ≤ k) (hk2 : k < 240) (h : fHd K n ws σ σ' (fh_dep.getD k [])) (hb : fC K n k vs σ) : fC K n k vs σ' := by
  unfold fC at hb ⊢
  rw [if_pos hk] at hb ⊢
  unfold fH at hb ⊢
  rw [if_neg (by omega)] at hb ⊢
  by_cases c : k = 204 ∨ 208 ≤ k
  · rw [if_pos c] at hb ⊢
    exact hb
  rw [if_neg c] at hb ⊢
  obtain ⟨b, g, rest, e, w, l⟩ := hb
  refine ⟨b, g, rest, e, ?_, l⟩
  have hh : k = 200 ∨ k = 201 ∨ k = 202 ∨ k = 203 ∨ k = 205 ∨ k = 206 ∨ k = 207 := by omega
  rcases hh with rfl | rfl | rfl | rfl | rfl | rfl | rfl <;> exact fMe_dp h (List.mem_of_getElem? (i := 0) rfl) (by decide) (List.mem_of_getElem? (i := 1) rfl) w
theorem fB_dr {K : Nat → Nat} {n : Nat} {p : fP} {k j : Nat} {ws : List jv} {σ σ' : Nat → jcell} (hk : k < 240) (h : fHd K n ws σ σ' (fh_dep.getD k [])) (hb : fB K n p k (ws.take j) σ) : fB K n p k (ws.take j) σ' := by
  by_cases c : k < 200
  · rw [fDh k c] at h
    exact fB_dq c h hb
  rw [fB_def (by omega)] at hb ⊢
  unfold fD at hb ⊢
  rw [if_neg (by omega), if_neg (by omega), if_neg (by omega)] at hb ⊢
  exact fH_dp (by omega) hk h hb
theorem fF_dph {K : Nat → Nat} {n : Nat} : aDp (fF K n) K n fh_dep := by
  refine ⟨fun p r vs σ σ' hl h hf => ?_, fF_pd K n, fun h0 => absurd h0 (by decide)⟩
  have hl : r / 16 % 4096 < 240 := of_decide_eq_true hl
  unfold fF at hf ⊢
  unfold aDg at h
  by_cases c : r < 65536
  · rw [if_pos c] at hf h ⊢
    exact fB_dr (by omega) h hf
  · rw [if_neg c] at hf h ⊢
    by_cases c2 : r < 131072
    · rw [if_pos c2] at hf ⊢
      by_cases c3 : 3 ≤ r % 16
      · rw [if_pos c3] at hf ⊢
        split at hf
        next a x y l =>
          refine fB_dr (σ := jup σ a (jsto (σ a) x.toNatClampNeg y)) (by omega) ?_ hf
          rw [show (r - 65539) / 16 = r / 16 % 4096 by omega]
          exact fSm_jup (fSm_sto _ _) h
        next a x y l =>
          refine fB_dr (σ := jup σ a (jstl (σ a) x.toNatClampNeg y)) (by omega) ?_ hf
          rw [show (r - 65539) / 16 = r / 16 % 4096 by omega]
          exact fSm_jup (fSm_stl _ _) h
        next => exact hf.elim
      · rw [if_neg c3] at hf
        exact hf.elim
    · rw [if_neg c2] at hf ⊢
      by_cases c3 : 2 ≤ r % 16
      · rw [if_pos c3] at hf ⊢
        split at hf
        next a y l =>
          by_cases c4 : (r % 131072 - 2) / 16 < 240
          · refine fB_dr (σ := jup σ a (jstf (σ a) (r / 131072 - 1) y)) c4 ?_ hf
            rw [show (r % 131072 - 2) / 16 = r / 16 % 4096 by omega]
            exact fSm_jup (fSm_stf _ _) h
          · exact (fB_hi (show 1000 ≤ (r % 131072 - 2) / 16 by omega) hf).elim
        next => exact hf.elim
      · rw [if_neg c3] at hf
        exact hf.elim

