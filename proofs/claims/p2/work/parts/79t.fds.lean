/-! facts look at what dep says: think and look -/
theorem fDi : ∀ k, k < 240 → fi_dep.getD k [] = fh_dep.getD k []
  | 0, _ => rfl
  | 1, _ => rfl
  | 2, _ => rfl
  | 3, _ => rfl
  | 4, _ => rfl
  | 5, _ => rfl
  | 6, _ => rfl
  | 7, _ => rfl
  | 8, _ => rfl
  | 9, _ => rfl
  | 10, _ => rfl
  | 11, _ => rfl
  | 12, _ => rfl
  | 13, _ => rfl
  | 14, _ => rfl
  | 15, _ => rfl
  | 16, _ => rfl
  | 17, _ => rfl
  | 18, _ => rfl
  | 19, _ => rfl
  | 20, _ => rfl
  | 21, _ => rfl
  | 22, _ => rfl
  | 23, _ => rfl
  | 24, _ => rfl
  | 25, _ => rfl
  | 26, _ => rfl
  | 27, _ => rfl
  | 28, _ => rfl
  | 29, _ => rfl
  | 30, _ => rfl
  | 31, _ => rfl
  | 32, _ => rfl
  | 33, _ => rfl
  | 34, _ => rfl
  | 35, _ => rfl
  | 36, _ => rfl
  | 37, _ => rfl
  | 38, _ => rfl
  | 39, _ => rfl
  | 40, _ => rfl
  | 41, _ => rfl
  | 42, _ => rfl
  | 43, _ => rfl
  | 44, _ => rfl
  | 45, _ => rfl
  | 46, _ => rfl
  | 47, _ => rfl
  | 48, _ => rfl
  | 49, _ => rfl
  | 50, _ => rfl
  | 51, _ => rfl
  | 52, _ => rfl
  | 53, _ => rfl
  | 54, _ => rfl
  | 55, _ => rfl
  | 56, _ => rfl
  | 57, _ => rfl
  | 58, _ => rfl
  | 59, _ => rfl
  | 60, _ => rfl
  | 61, _ => rfl
  | 62, _ => rfl
  | 63, _ => rfl
  | 64, _ => rfl
  | 65, _ => rfl
  | 66, _ => rfl
  | 67, _ => rfl
  | 68, _ => rfl
  | 69, _ => rfl
  | 70, _ => rfl
  | 71, _ => rfl
  | 72, _ => rfl
  | 73, _ => rfl
  | 74, _ => rfl
  | 75, _ => rfl
  | 76, _ => rfl
  | 77, _ => rfl
  | 78, _ => rfl
  | 79, _ => rfl
  | 80, _ => rfl
  | 81, _ => rfl
  | 82, _ => rfl
  | 83, _ => rfl
  | 84, _ => rfl
  | 85, _ => rfl
  | 86, _ => rfl
  | 87, _ => rfl
  | 88, _ => rfl
  | 89, _ => rfl
  | 90, _ => rfl
  | 91, _ => rfl
  | 92, _ => rfl
  | 93, _ => rfl
  | 94, _ => rfl
  | 95, _ => rfl
  | 96, _ => rfl
  | 97, _ => rfl
  | 98, _ => rfl
  | 99, _ => rfl
  | 100, _ => rfl
  | 101, _ => rfl
  | 102, _ => rfl
  | 103, _ => rfl
  | 104, _ => rfl
  | 105, _ => rfl
  | 106, _ => rfl
  | 107, _ => rfl
  | 108, _ => rfl
  | 109, _ => rfl
  | 110, _ => rfl
  | 111, _ => rfl
  | 112, _ => rfl
  | 113, _ => rfl
  | 114, _ => rfl
  | 115, _ => rfl
  | 116, _ => rfl
  | 117, _ => rfl
  | 118, _ => rfl
  | 119, _ => rfl
  | 120, _ => rfl
  | 121, _ => rfl
  | 122, _ => rfl
  | 123, _ => rfl
  | 124, _ => rfl
  | 125, _ => rfl
  | 126, _ => rfl
  | 127, _ => rfl
  | 128, _ => rfl
  | 129, _ => rfl
  | 130, _ => rfl
  | 131, _ => rfl
  | 132, _ => rfl
  | 133, _ => rfl
  | 134, _ => rfl
  | 135, _ => rfl
  | 136, _ => rfl
  | 137, _ => rfl
  | 138, _ => rfl
  | 139, _ => rfl
  | 140, _ => rfl
  | 141, _ => rfl
  | 142, _ => rfl
  | 143, _ => rfl
  | 144, _ => rfl
  | 145, _ => rfl
  | 146, _ => rfl
  | 147, _ => rfl
  | 148, _ => rfl
  | 149, _ => rfl
  | 150, _ => rfl
  | 151, _ => rfl
  | 152, _ => rfl
  | 153, _ => rfl
  | 154, _ => rfl
  | 155, _ => rfl
  | 156, _ => rfl
  | 157, _ => rfl
  | 158, _ => rfl
  | 159, _ => rfl
  | 160, _ => rfl
  | 161, _ => rfl
  | 162, _ => rfl
  | 163, _ => rfl
  | 164, _ => rfl
  | 165, _ => rfl
  | 166, _ => rfl
  | 167, _ => rfl
  | 168, _ => rfl
  | 169, _ => rfl
  | 170, _ => rfl
  | 171, _ => rfl
  | 172, _ => rfl
  | 173, _ => rfl
  | 174, _ => rfl
  | 175, _ => rfl
  | 176, _ => rfl
  | 177, _ => rfl
  | 178, _ => rfl
  | 179, _ => rfl
  | 180, _ => rfl
  | 181, _ => rfl
  | 182, _ => rfl
  | 183, _ => rfl
  | 184, _ => rfl
  | 185, _ => rfl
  | 186, _ => rfl
  | 187, _ => rfl
  | 188, _ => rfl
  | 189, _ => rfl
  | 190, _ => rfl
  | 191, _ => rfl
  | 192, _ => rfl
  | 193, _ => rfl
  | 194, _ => rfl
  | 195, _ => rfl
  | 196, _ => rfl
  | 197, _ => rfl
  | 198, _ => rfl
  | 199, _ => rfl
  | 200, _ => rfl
  | 201, _ => rfl
  | 202, _ => rfl
  | 203, _ => rfl
  | 204, _ => rfl
  | 205, _ => rfl
  | 206, _ => rfl
  | 207, _ => rfl
  | 208, _ => rfl
  | 209, _ => rfl
  | 210, _ => rfl
  | 211, _ => rfl
  | 212, _ => rfl
  | 213, _ => rfl
  | 214, _ => rfl
  | 215, _ => rfl
  | 216, _ => rfl
  | 217, _ => rfl
  | 218, _ => rfl
  | 219, _ => rfl
  | 220, _ => rfl
  | 221, _ => rfl
  | 222, _ => rfl
  | 223, _ => rfl
  | 224, _ => rfl
  | 225, _ => rfl
  | 226, _ => rfl
  | 227, _ => rfl
  | 228, _ => rfl
  | 229, _ => rfl
  | 230, _ => rfl
  | 231, _ => rfl
  | 232, _ => rfl
  | 233, _ => rfl
  | 234, _ => rfl
  | 235, _ => rfl
  | 236, _ => rfl
  | 237, _ => rfl
  | 238, _ => rfl
  | 239, _ => rfl
  | k + 240, h => absurd h (by omega)
theorem fVa0 {vs : List jv} {c z : Int} (h : aVa vs ([], c) z) : z = c := by
  obtain ⟨w, e, rfl⟩ := h
  have e2 : (0 : Int) = w := Option.some.inj (show some (0 : Int) = some w from e)
  dsimp only
  omega
theorem fHs_dp0 {K : Nat → Nat} {n : Nat} {σ σ' : Nat → jcell} {vs ws : List jv} (h : fHd K n ws σ σ' [(15, [2], none), (17, [], some ([], 1))]) (hb : fHs K n 240 vs σ) : fHs K n 240 vs σ' := by
  obtain ⟨hk, a, m, g, e, ⟨r, o, l1, l2, l3⟩, hg⟩ := hb
  have o' := fOb_dp h (List.mem_of_getElem? (i := 0) rfl) (by decide) o
  rcases h r l1 _ (List.mem_of_getElem? (i := 1) rfl) l2.symm with e0 | ⟨k, f1, f2, e1, -⟩ | ⟨ty, m2, g1, g2, f, z, e1, e2, e3, e4, e5⟩
  · exact ⟨hk, a, m, g, e, ⟨r, o', l1, l2, by rw [e0]; exact l3⟩, hg⟩
  · rw [l3] at e1
    cases e1
  · obtain rfl := Option.some.inj e1
    rw [l3] at e3
    cases e3
    have hz := fVa0 e2
    refine ⟨hk, a, m, g2, e, ⟨r, o', l1, l2, e4⟩, ?_⟩
    rw [e5 (240 - 240) (by omega)]
    exact hg
theorem fHs_dp1 {K : Nat → Nat} {n : Nat} {σ σ' : Nat → jcell} {vs ws : List jv} (h : fHd K n ws σ σ' [(15, [2], none), (17, [], some ([], 2))]) (hb : fHs K n 241 vs σ) : fHs K n 241 vs σ' := by
  obtain ⟨hk, a, m, g, e, ⟨r, o, l1, l2, l3⟩, hg⟩ := hb
  have o' := fOb_dp h (List.mem_of_getElem? (i := 0) rfl) (by decide) o
  rcases h r l1 _ (List.mem_of_getElem? (i := 1) rfl) l2.symm with e0 | ⟨k, f1, f2, e1, -⟩ | ⟨ty, m2, g1, g2, f, z, e1, e2, e3, e4, e5⟩
  · exact ⟨hk, a, m, g, e, ⟨r, o', l1, l2, by rw [e0]; exact l3⟩, hg⟩
  · rw [l3] at e1
    cases e1
  · obtain rfl := Option.some.inj e1
    rw [l3] at e3
    cases e3
    have hz := fVa0 e2
    refine ⟨hk, a, m, g2, e, ⟨r, o', l1, l2, e4⟩, ?_⟩
    rw [e5 (241 - 240) (by omega)]
    exact hg
theorem fHs_dp2 {K : Nat → Nat} {n : Nat} {σ σ' : Nat → jcell} {vs ws : List jv} (h : fHd K n ws σ σ' [(15, [2], none), (17, [], some ([], 3))]) (hb : fHs K n 242 vs σ) : fHs K n 242 vs σ' := by
  obtain ⟨hk, a, m, g, e, ⟨r, o, l1, l2, l3⟩, hg⟩ := hb
  have o' := fOb_dp h (List.mem_of_getElem? (i := 0) rfl) (by decide) o
  rcases h r l1 _ (List.mem_of_getElem? (i := 1) rfl) l2.symm with e0 | ⟨k, f1, f2, e1, -⟩ | ⟨ty, m2, g1, g2, f, z, e1, e2, e3, e4, e5⟩
  · exact ⟨hk, a, m, g, e, ⟨r, o', l1, l2, by rw [e0]; exact l3⟩, hg⟩
  · rw [l3] at e1
    cases e1
  · obtain rfl := Option.some.inj e1
    rw [l3] at e3
    cases e3
    have hz := fVa0 e2
    refine ⟨hk, a, m, g2, e, ⟨r, o', l1, l2, e4⟩, ?_⟩
    rw [e5 (242 - 240) (by omega)]
    exact hg
theorem fSu_dp {K : Nat → Nat} {n : Nat} {σ σ' : Nat → jcell} {vs : List jv} {D : List aDe} (h : fHd K n vs σ σ' D) {a : Nat} {g : Nat → Int64} {F : List Nat} (m1 : ((15, F, none) : aDe) ∈ D) (hf : 3 ∈ F) (m2 : ((18, [], none) : aDe) ∈ D) (h0 : fSu K n σ a g) : fSu K n σ' a g := by
  obtain ⟨r, o, l1, l2, l3⟩ := h0
  have h2 := h r l1 _ m2 l2.symm
  rw [l3] at h2
  exact ⟨r, fOb_dp h m1 hf o, l1, l2, fSm_row h2⟩
theorem fSw_dp {K : Nat → Nat} {n : Nat} {σ σ' : Nat → jcell} {vs : List jv} {D : List aDe} (h : fHd K n vs σ σ' D) {a : Nat} {g : Nat → Int32} {F : List Nat} (m1 : ((15, F, none) : aDe) ∈ D) (hf : 2 ∈ F) (m2 : ((17, [], none) : aDe) ∈ D) (h0 : fSw K n σ a g) : fSw K n σ' a g := by
  obtain ⟨r, o, l1, l2, l3⟩ := h0
  have h2 := h r l1 _ m2 l2.symm
  rw [l3] at h2
  exact ⟨r, fOb_dp h m1 hf o, l1, l2, fSm_row h2⟩
theorem fGx_dp {K : Nat → Nat} {n : Nat} {p : fP} {k j : Nat} {ws : List jv} {σ σ' : Nat → jcell} (h : fHd K n ws σ σ' (fi_dep.getD k [])) (hb : fGx K n p k (ws.take j) σ) : fGx K n p k (ws.take j) σ' := by
  by_cases c400 : k = 400
  · subst c400
    obtain ⟨a, m, g, e, w, l⟩ := hb
    exact ⟨a, m, g, e, fSu_dp (D := [(15, [3], none), (18, [], none)]) h (List.mem_of_getElem? (i := 0) rfl) (by decide) (List.mem_of_getElem? (i := 1) rfl) w, l⟩
  by_cases c401 : k = 401
  · subst c401
    obtain ⟨a, m, g, e, w, l⟩ := hb
    exact ⟨a, m, g, e, fSu_dp (D := [(15, [3], none), (18, [], none)]) h (List.mem_of_getElem? (i := 0) rfl) (by decide) (List.mem_of_getElem? (i := 1) rfl) w, l⟩
  by_cases c402 : k = 402
  · subst c402
    obtain ⟨a, m, g, e, w, l⟩ := hb
    exact ⟨a, m, g, e, fSu_dp (D := [(15, [3], none), (18, [], none)]) h (List.mem_of_getElem? (i := 0) rfl) (by decide) (List.mem_of_getElem? (i := 1) rfl) w, l⟩
  by_cases c403 : k = 403
  · subst c403
    have h : fHd K n ws σ σ' [(26, [0, 2, 3, 4, 5, 8], none), (27, [], none), (30, [], none), (15, [2, 3], none), (17, [], none), (18, [], none)] := h
    obtain ⟨a, b, rest, g, u, e, w1, w2, l1, l2, l3, l4⟩ := hb
    exact ⟨a, b, rest, g, u, e, fSw_dp h (List.mem_of_getElem? (i := 3) rfl) (by decide) (List.mem_of_getElem? (i := 4) rfl) w1, fSu_dp h (List.mem_of_getElem? (i := 3) rfl) (by decide) (List.mem_of_getElem? (i := 5) rfl) w2, l1, l2, l3, fAt_dq h (by decide) l4⟩
  by_cases c409 : k = 409
  · subst c409
    have h : fHd K n ws σ σ' [(26, [0, 2, 3, 4, 5, 8], none), (27, [], none), (30, [], none), (15, [2, 3], none), (17, [], none), (18, [], none)] := h
    obtain ⟨a, b, m, rest, g, u, e, w1, w2, l1, l2, l3, l4, l5⟩ := hb
    exact ⟨a, b, m, rest, g, u, e, fSw_dp h (List.mem_of_getElem? (i := 3) rfl) (by decide) (List.mem_of_getElem? (i := 4) rfl) w1, fSu_dp h (List.mem_of_getElem? (i := 3) rfl) (by decide) (List.mem_of_getElem? (i := 5) rfl) w2, l1, l2, l3, fAt_dq h (by decide) l4, l5⟩
  by_cases c404 : k = 404
  · subst c404
    obtain ⟨a, hi, e, h0⟩ := hb
    exact ⟨a, hi, e, fLl_dp (fm := ([(1, 1)], 0)) h (fun z k hz hk => by have := fVa1 (x := hi) hz (fTak (j := j) (by rw [e]; rfl)); omega) h0⟩
  by_cases c405 : k = 405
  · subst c405
    obtain ⟨a, hi, e, h0⟩ := hb
    exact ⟨a, hi, e, fLl_dp (fm := ([(1, 1)], 1)) h (fun z k hz hk => by have := fVa1 (x := hi) hz (fTak (j := j) (by rw [e]; rfl)); omega) h0⟩
  by_cases c406 : k = 406
  · subst c406
    obtain ⟨a, lo, hi, e, h0⟩ := hb
    exact ⟨a, lo, hi, e, fLl_dp (fm := ([(2, 1)], 0)) h (fun z k hz hk => by have := fVa1 (x := hi) hz (fTak (j := j) (by rw [e]; rfl)); omega) h0⟩
  by_cases c407 : k = 407
  · subst c407
    exact hb
  by_cases c408 : k = 408
  · subst c408
    exact hb
  exfalso
  unfold fGx at hb
  split at hb <;> first | omega | exact hb
theorem fB_ds {K : Nat → Nat} {n : Nat} {p : fP} {k j : Nat} {ws : List jv} {σ σ' : Nat → jcell} (h : fHd K n ws σ σ' (fi_dep.getD k [])) (hb : fB K n p k (ws.take j) σ) : fB K n p k (ws.take j) σ' := by
  by_cases c : k < 240
  · rw [fDi k c] at h
    exact fB_dr c h hb
  by_cases c2 : k < 400
  · rw [fS_o (by omega) c2] at hb ⊢
    have hk := hb.1
    have hh : k = 240 ∨ k = 241 ∨ k = 242 := by omega
    rcases hh with rfl | rfl | rfl
    · exact fHs_dp0 h hb
    · exact fHs_dp1 h hb
    · exact fHs_dp2 h hb
  rw [fX_o (by omega)] at hb ⊢
  exact fGx_dp h hb
set_option maxRecDepth 8000 in
theorem fF_dpi {K : Nat → Nat} {n : Nat} : aDp (fF K n) K n fi_dep := by
  refine ⟨fun p r vs σ σ' hl h hf => ?_, fF_pd K n, fun h0 => absurd h0 (by decide)⟩
  have hl : r / 16 % 4096 < 440 := of_decide_eq_true hl
  unfold fF at hf ⊢
  unfold aDg at h
  by_cases c : r < 65536
  · rw [if_pos c] at hf h ⊢
    exact fB_ds h hf
  · rw [if_neg c] at hf h ⊢
    by_cases c2 : r < 131072
    · rw [if_pos c2] at hf ⊢
      by_cases c3 : 3 ≤ r % 16
      · rw [if_pos c3] at hf ⊢
        split at hf
        next a x y l =>
          refine fB_ds (σ := jup σ a (jsto (σ a) x.toNatClampNeg y)) ?_ hf
          rw [show (r - 65539) / 16 = r / 16 % 4096 by omega]
          exact fSm_jup (fSm_sto _ _) h
        next a x y l =>
          refine fB_ds (σ := jup σ a (jstl (σ a) x.toNatClampNeg y)) ?_ hf
          rw [show (r - 65539) / 16 = r / 16 % 4096 by omega]
          exact fSm_jup (fSm_stl _ _) h
        next => exact hf.elim
      · rw [if_neg c3] at hf
        exact hf.elim
    · rw [if_neg c2] at hf ⊢
      by_cases c3 : 2 ≤ r % 16
      · rw [if_pos c3] at hf ⊢
        split at hf
        next a y l =>
          by_cases c4 : (r % 131072 - 2) / 16 < 440
          · refine fB_ds (σ := jup σ a (jstf (σ a) (r / 131072 - 1) y)) ?_ hf
            rw [show (r % 131072 - 2) / 16 = r / 16 % 4096 by omega]
            exact fSm_jup (fSm_stf _ _) h
          · exact (fB_hi (show 1000 ≤ (r % 131072 - 2) / 16 by omega) hf).elim
        next => exact hf.elim
      · rw [if_neg c3] at hf
        exact hf.elim

