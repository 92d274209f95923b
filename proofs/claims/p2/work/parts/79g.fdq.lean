section
/-! facts look at what dep says: the tree -/
theorem fSm_row {vs : List jv} {k : Nat} {x : FieldType × vp_A} {c' : jcell} (h : aSm vs (k, [], none) (.inl x) c') : c' = .inl x := by
  rcases h with h | ⟨k, f1, f2, e1, -⟩ | ⟨ty, m, g1, g2, f, z, e1, -⟩
  · exact h
  · cases e1
  · cases e1
theorem fSm_obj {vs : List jv} {k c f : Nat} {F : List Nat} {fs : List jv} {c' : jcell} (h : aSm vs (k, F, none) (.inr (c, fs)) c') : ∃ fs', c' = .inr (c, fs') ∧ ∀ f ∈ F, fs'[f]? = fs[f]? := by
  rcases h with h | ⟨k, f1, f2, e1, e2, e3, e4⟩ | ⟨ty, m, g1, g2, f, z, e1, -⟩
  · exact ⟨fs, h, fun _ _ => rfl⟩
  · cases e1
    exact ⟨f2, e2, e4⟩
  · cases e1
noncomputable abbrev fHd (K : Nat → Nat) (n : Nat) (vs : List jv) (σ σ' : Nat → jcell) (D : List aDe) : Prop := ∀ b, b < n → ∀ q ∈ D, q.1 = K b → aSm vs q (σ b) (σ' b)
theorem fRo_dp {K : Nat → Nat} {n : Nat} {σ σ' : Nat → jcell} {vs : List jv} {D : List aDe} (h : fHd K n vs σ σ' D) {a f k : Nat} {g : Nat → Int32} {F : List Nat} (m1 : ((25, F, none) : aDe) ∈ D) (hf : f ∈ F) (m2 : ((k, [], none) : aDe) ∈ D) (h0 : fRo K n σ a f k g) : fRo K n σ' a f k g := by
  obtain ⟨ha, hk, fs, r, e1, e2, l1, l2, l3⟩ := h0
  have h1 := h a ha _ m1 hk.symm
  rw [e1] at h1
  obtain ⟨fs', y1, y2⟩ := fSm_obj (f := f) h1
  have h2 := h r l1 _ m2 l2.symm
  rw [l3] at h2
  exact ⟨ha, hk, fs', r, y1, by rw [y2 f hf]; exact e2, l1, l2, fSm_row h2⟩
theorem fRl_dp {K : Nat → Nat} {n : Nat} {σ σ' : Nat → jcell} {vs : List jv} {D : List aDe} (h : fHd K n vs σ σ' D) {a : Nat} {g : Nat → Int64} {F : List Nat} (m1 : ((25, F, none) : aDe) ∈ D) (hf : 7 ∈ F) (m2 : ((42, [], none) : aDe) ∈ D) (h0 : fRl K n σ a g) : fRl K n σ' a g := by
  obtain ⟨ha, hk, fs, r, e1, e2, l1, l2, l3⟩ := h0
  have h1 := h a ha _ m1 hk.symm
  rw [e1] at h1
  obtain ⟨fs', y1, y2⟩ := fSm_obj (f := 7) h1
  have h2 := h r l1 _ m2 l2.symm
  rw [l3] at h2
  exact ⟨ha, hk, fs', r, y1, by rw [y2 7 hf]; exact e2, l1, l2, fSm_row h2⟩
theorem fFi_dp {K : Nat → Nat} {n : Nat} {σ σ' : Nat → jcell} {vs : List jv} {D : List aDe} (h : fHd K n vs σ σ' D) {a f : Nat} {v : jv} {F : List Nat} (m1 : ((25, F, none) : aDe) ∈ D) (hf : f ∈ F) (h0 : fFi K n σ a f v) : fFi K n σ' a f v := by
  obtain ⟨ha, hk, fs, e1, e2⟩ := h0
  have h1 := h a ha _ m1 hk.symm
  rw [e1] at h1
  obtain ⟨fs', y1, y2⟩ := fSm_obj (f := f) h1
  exact ⟨ha, hk, fs', y1, by rw [y2 f hf]; exact e2⟩
theorem fRo_ds {K : Nat → Nat} {n : Nat} {σ σ' : Nat → jcell} {vs : List jv} {D : List aDe} (h : fHd K n vs σ σ' D) {a f k : Nat} {g : Nat → Int32} {F : List Nat} {fm : aF} {N : Int} (m1 : ((25, F, none) : aDe) ∈ D) (hf : f ∈ F) (m2 : ((k, [], some fm) : aDe) ∈ D) (hz : ∀ z, aVa vs fm z → z = N) (h0 : fRo K n σ a f k g) : ∃ g', fRo K n σ' a f k g' ∧ ∀ i : Nat, (i : Int) < N → g' i = g i := by
  obtain ⟨ha, hk, fs, r, e1, e2, l1, l2, l3⟩ := h0
  have h1 := h a ha _ m1 hk.symm
  rw [e1] at h1
  obtain ⟨fs', y1, y2⟩ := fSm_obj (f := f) h1
  have h2 := h r l1 _ m2 l2.symm
  rw [l3] at h2
  rcases h2 with h2 | ⟨k, f1, f2, e1, -⟩ | ⟨ty, m, g1, g2, f, z, q1, q2, q3, q4, q5⟩
  · exact ⟨g, ⟨ha, hk, fs', r, y1, by rw [y2 _ hf]; exact e2, l1, l2, h2⟩, fun _ _ => rfl⟩
  · cases e1
  · cases q3
    obtain rfl := Option.some.inj q1
    exact ⟨g2, ⟨ha, hk, fs', r, y1, by rw [y2 _ hf]; exact e2, l1, l2, q4⟩, fun i hi => q5 i (by rw [hz z q2]; exact hi)⟩
theorem fTk_cg {N : Nat} {t t' : fTy} {q : fQ} {h : Nat} (H : fTk N t q h) (e1 : ∀ i : Nat, (i : Int) < N + 1 → t'.1 i = t.1 i) (e2 : ∀ i : Nat, (i : Int) < N + 1 → t'.2.1 i = t.2.1 i) (e3 : ∀ i : Nat, (i : Int) < N + 1 → t'.2.2.1 i = t.2.2.1 i) (e4 : ∀ i : Nat, (i : Int) < N + 1 → t'.2.2.2.1 i = t.2.2.2.1 i) (e5 : t'.2.2.2.2 = t.2.2.2.2) : fTk N t' q h := by
  obtain ⟨k1, k2, pos, S, L, hq, g1, g2, g3, g4, g5⟩ := H
  refine ⟨k1, k2, pos, S, L, hq, g1, fun k h1 h2 => ?_, g3, fun k hk => ?_, fun k hk => ?_⟩
  · rw [e1 k (by omega), e2 k (by omega)]
    exact g2 k h1 h2
  · obtain ⟨a1, a2, a3⟩ := g4 k hk
    rw [e1 k (by omega), e2 k (by omega), e5]
    exact ⟨a1, a2, a3⟩
  · obtain ⟨b1, b2, b3⟩ := g5 k hk
    rw [e3 k (by omega)]
    exact ⟨b1, fCn_cg (fun c hc => e4 c (by have := (b3 c hc).2.1; omega)) b2, fun c hc => by rw [e1 c (by have := (b3 c hc).2.1; omega)]; exact b3 c hc⟩
theorem fTw_dp {K : Nat → Nat} {n : Nat} {σ σ' : Nat → jcell} {vs : List jv} {D : List aDe} (h : fHd K n vs σ σ' D) {a : Nat} {t : fTy} {F : List Nat} (m1 : ((25, F, none) : aDe) ∈ D) (hf : ∀ f ∈ [3, 4, 5, 6, 7], f ∈ F) (m2 : ∀ k ∈ [38, 39, 40, 41, 42], ((k, [], none) : aDe) ∈ D) (w : fTw K n σ a t) : fTw K n σ' a t :=
  ⟨fRo_dp h m1 (hf _ (by decide)) (m2 _ (by decide)) w.1, fRo_dp h m1 (hf _ (by decide)) (m2 _ (by decide)) w.2.1, fRo_dp h m1 (hf _ (by decide)) (m2 _ (by decide)) w.2.2.1, fRo_dp h m1 (hf _ (by decide)) (m2 _ (by decide)) w.2.2.2.1, fRl_dp h m1 (hf _ (by decide)) (m2 _ (by decide)) w.2.2.2.2⟩
theorem fAt_dq {K : Nat → Nat} {n : Nat} {σ σ' : Nat → jcell} {vs : List jv} {D : List aDe} (h : fHd K n vs σ σ' D) (hs : ∀ q ∈ ([(26, [0, 2, 3, 4, 5, 8], none), (27, [], none), (30, [], none)] : List aDe), q ∈ D) {a : Nat} {men F : Nat → Int32} (h0 : fAt K n σ a men F) : fAt K n σ' a men F := fAt_dp (vs := vs) (fun b hb q hq hk => h b hb q (hs q hq) hk) h0
theorem fTw_ds {K : Nat → Nat} {n : Nat} {σ σ' : Nat → jcell} {ws : List jv} {j a : Nat} {h0 N : Int32} (h : fHd K n ws σ σ' [(25, [3, 4, 5, 6, 7], none), (38, [], some ([(2, 1)], 1)), (39, [], some ([(2, 1)], 1)), (40, [], some ([(2, 1)], 1)), (41, [], some ([(2, 1)], 1)), (42, [], none)]) (e : ws.take j = [fR a, fI h0, fI N]) {t : fTy} {q : fQ} {hh : Nat} (hN : 0 ≤ N.toInt) (w : fTw K n σ a t) : ∃ t', fTw K n σ' a t' ∧ t'.2.2.2.2 = t.2.2.2.2 ∧ ∀ i : Nat, (i : Int) < N.toInt + 1 → t'.1 i = t.1 i ∧ t'.2.1 i = t.2.1 i ∧ t'.2.2.1 i = t.2.2.1 i ∧ t'.2.2.2.1 i = t.2.2.2.1 i := by
  have hz : ∀ z, aVa ws ([(2, 1)], 1) z → z = N.toInt + 1 := fun z hz => fVa1 (x := N) hz (fTak (j := j) (by rw [e]; rfl))
  obtain ⟨g1, a1, b1⟩ := fRo_ds h (fm := ([(2, 1)], 1)) (List.mem_of_getElem? (i := 0) rfl) (by decide) (List.mem_of_getElem? (i := 1) rfl) hz w.1
  obtain ⟨g2, a2, b2⟩ := fRo_ds h (fm := ([(2, 1)], 1)) (List.mem_of_getElem? (i := 0) rfl) (by decide) (List.mem_of_getElem? (i := 2) rfl) hz w.2.1
  obtain ⟨g3, a3, b3⟩ := fRo_ds h (fm := ([(2, 1)], 1)) (List.mem_of_getElem? (i := 0) rfl) (by decide) (List.mem_of_getElem? (i := 3) rfl) hz w.2.2.1
  obtain ⟨g4, a4, b4⟩ := fRo_ds h (fm := ([(2, 1)], 1)) (List.mem_of_getElem? (i := 0) rfl) (by decide) (List.mem_of_getElem? (i := 4) rfl) hz w.2.2.2.1
  have a5 := fRl_dp h (List.mem_of_getElem? (i := 0) rfl) (by decide) (List.mem_of_getElem? (i := 5) rfl) w.2.2.2.2
  exact ⟨(g1, g2, g3, g4, t.2.2.2.2), ⟨a1, a2, a3, a4, a5⟩, rfl, fun i hi => ⟨b1 i hi, b2 i hi, b3 i hi, b4 i hi⟩⟩
theorem fEn_dp {K : Nat → Nat} {n : Nat} {σ σ' : Nat → jcell} {vs : List jv} {a : Nat} {P : Int → Prop} {Q : Int32 → Prop} {D : List aDe} {o : Option aF} (h : fHd K n vs σ σ' D) (m1 : ((24, [], o) : aDe) ∈ D) (hz : ∀ (fm : aF) (z : Int) (k : Nat), o = some fm → aVa vs fm z → P k → (k : Int) < z) (hk : K a = 24) (h0 : fLl K n σ a P Q) : fLl K n σ' a P Q := by
  obtain ⟨h1, h2, m, g, h3, h4⟩ := h0
  rcases h a h1 _ m1 hk.symm with e | ⟨k, f1, f2, e1, -⟩ | ⟨ty, m2, g1, g2, f, z, e1, e2, e3, e4, e5⟩
  · exact ⟨h1, h2, m, g, by rw [e]; exact h3, h4⟩
  · rw [h3] at e1; cases e1
  · rw [h3] at e3
    cases e3
    exact ⟨h1, h2, _, g2, e4, fun k hk => by rw [e5 k (hz f z k e1 e2 hk)]; exact h4 k hk⟩
theorem fPb_dp {K : Nat → Nat} {n : Nat} {σ σ' : Nat → jcell} {vs : List jv} {D : List aDe} (h : fHd K n vs σ σ' D) {a b : Nat} (m1 : ((19, [7], none) : aDe) ∈ D) (h0 : fPb K n σ a b) : fPb K n σ' a b := by
  obtain ⟨ha, hk, c, fs, e1, e2⟩ := h0
  have h1 := h a ha _ m1 hk.symm
  rw [e1] at h1
  obtain ⟨fs', y1, y2⟩ := fSm_obj (f := 7) h1
  exact ⟨ha, hk, c, fs', y1, by rw [y2 7 (by decide)]; exact e2⟩
theorem fOb_dp {K : Nat → Nat} {n : Nat} {σ σ' : Nat → jcell} {vs : List jv} {D : List aDe} (h : fHd K n vs σ σ' D) {a k f : Nat} {v : jv} {F : List Nat} (m1 : ((k, F, none) : aDe) ∈ D) (hf : f ∈ F) (h0 : fOb K n σ a k f v) : fOb K n σ' a k f v := by
  obtain ⟨ha, hk, c, fs, e1, e2⟩ := h0
  have h1 := h a ha _ m1 hk.symm
  rw [e1] at h1
  obtain ⟨fs', y1, y2⟩ := fSm_obj (f := f) h1
  exact ⟨ha, hk, c, fs', y1, by rw [y2 f hf]; exact e2⟩
theorem fOu_dp {K : Nat → Nat} {n : Nat} {σ σ' : Nat → jcell} {vs : List jv} {D : List aDe} (h : fHd K n vs σ σ' D) {a : Nat} {g : Nat → Int32} {F : List Nat} (m1 : ((11, F, none) : aDe) ∈ D) (hf : 2 ∈ F) (m2 : ((12, [], none) : aDe) ∈ D) (h0 : fOu K n σ a g) : fOu K n σ' a g := by
  obtain ⟨r, o, l1, l2, l3⟩ := h0
  have h2 := h r l1 _ m2 l2.symm
  rw [l3] at h2
  exact ⟨r, fOb_dp h m1 hf o, l1, l2, fSm_row h2⟩
theorem fTG_dp {K : Nat → Nat} {n : Nat} {σ σ' : Nat → jcell} {vs : List jv} {D : List aDe} (h : fHd K n vs σ σ' D) (hs : ∀ q ∈ ([(25, [3, 4, 5, 6, 7, 0, 1, 2], none), (38, [], none), (39, [], none), (40, [], none), (41, [], none), (42, [], none), (26, [0, 2, 3, 4, 5, 8], none), (27, [], none), (30, [], none)] : List aDe), q ∈ D) {a : Nat} (h0 : fTG K n σ a) : fTG K n σ' a := by
  have h : fHd K n vs σ σ' [(25, [3, 4, 5, 6, 7, 0, 1, 2], none), (38, [], none), (39, [], none), (40, [], none), (41, [], none), (42, [], none), (26, [0, 2, 3, 4, 5, 8], none), (27, [], none), (30, [], none)] := fun b hb q hq hk => h b hb q (hs q hq) hk
  obtain ⟨b, h0, N, t, q, w, u0, u1, u2, r1, r2, H, A⟩ := h0
  exact ⟨b, h0, N, t, q, fTw_dp h (List.mem_of_getElem? (i := 0) rfl) (by decide) (by decide) w, fFi_dp h (List.mem_of_getElem? (i := 0) rfl) (by decide) u0, fFi_dp h (List.mem_of_getElem? (i := 0) rfl) (by decide) u1, fFi_dp h (List.mem_of_getElem? (i := 0) rfl) (by decide) u2, r1, r2, H, fAt_dq h (by decide) A⟩
theorem fBf_dp {K : Nat → Nat} {n : Nat} {σ σ' : Nat → jcell} {vs : List jv} {D : List aDe} (h : fHd K n vs σ σ' D) (hs : ∀ q ∈ ([(26, [0, 2, 3, 4, 5, 8], none), (27, [], none), (30, [], none)] : List aDe), q ∈ D) {b : Nat} (h0 : fBf K n σ b) : fBf K n σ' b := by
  obtain ⟨q, A, g⟩ := h0
  exact ⟨q, fAt_dq h hs A, g⟩
theorem fWt_dp {K : Nat → Nat} {n : Nat} {σ σ' : Nat → jcell} {vs : List jv} {D : List aDe} (h : fHd K n vs σ σ' D) {a : Nat} {g : Nat → Int32} {F : List Nat} (m1 : ((6, F, none) : aDe) ∈ D) (hf : 3 ∈ F) (m2 : ((1, [], none) : aDe) ∈ D) (h0 : fWt K n σ a g) : fWt K n σ' a g := by
  obtain ⟨r, o, l1, l2, l3⟩ := h0
  have h2 := h r l1 _ m2 l2.symm
  rw [l3] at h2
  exact ⟨r, fOb_dp h m1 hf o, l1, l2, fSm_row h2⟩
theorem fSp_dp {K : Nat → Nat} {n : Nat} {σ σ' : Nat → jcell} {vs : List jv} (h : fHd K n vs σ σ' [(6, [3, 4, 2], none), (1, [], none)]) {a m : Nat} {r : Int32} (h0 : fSp K n σ a m r) : fSp K n σ' a m r := by
  obtain ⟨g, s, p, w, o1, o2, l⟩ := h0
  exact ⟨g, s, p, fWt_dp h (List.mem_of_getElem? (i := 0) rfl) (by decide) (List.mem_of_getElem? (i := 1) rfl) w, fOb_dp h (List.mem_of_getElem? (i := 0) rfl) (by decide) o1, fOb_dp h (List.mem_of_getElem? (i := 0) rfl) (by decide) o2, l⟩
theorem fMe_dp {K : Nat → Nat} {n : Nat} {σ σ' : Nat → jcell} {vs : List jv} {D : List aDe} (h : fHd K n vs σ σ' D) {a : Nat} {g : Nat → Int32} {F : List Nat} (m1 : ((26, F, none) : aDe) ∈ D) (hf : 0 ∈ F) (m2 : ((27, [], none) : aDe) ∈ D) (h0 : fMe K n σ a g) : fMe K n σ' a g := by
  obtain ⟨r, o, l1, l2, l3⟩ := h0
  have h2 := h r l1 _ m2 l2.symm
  rw [l3] at h2
  exact ⟨r, fOb_dp h m1 hf o, l1, l2, fSm_row h2⟩
theorem fWx_dp {K : Nat → Nat} {n : Nat} {σ σ' : Nat → jcell} {vs : List jv} {D : List aDe} (h : fHd K n vs σ σ' D) {a : Nat} {g : Nat → Int32} {F : List Nat} (m1 : ((26, F, none) : aDe) ∈ D) (hf : 8 ∈ F) (m2 : ((30, [], none) : aDe) ∈ D) (h0 : fWx K n σ a g) : fWx K n σ' a g := by
  obtain ⟨r0, r, w, o, l1, l2, l3, l4⟩ := h0
  have h2 := h r l1 _ m2 l2.symm
  rw [l3] at h2
  exact ⟨r0, r, w, fOb_dp h m1 hf o, l1, l2, fSm_row h2, l4⟩
theorem fRg_dp {K : Nat → Nat} {n : Nat} {σ σ' : Nat → jcell} {vs : List jv} (h : fHd K n vs σ σ' [(26, [0, 3], none), (27, [], none)]) {b : Nat} (h0 : fRg K n σ b) : fRg K n σ' b := by
  obtain ⟨g, R, w, o, l⟩ := h0
  exact ⟨g, R, fMe_dp h (List.mem_of_getElem? (i := 0) rfl) (by decide) (List.mem_of_getElem? (i := 1) rfl) w, fOb_dp h (List.mem_of_getElem? (i := 0) rfl) (by decide) o, l⟩
theorem fPs_dp {K : Nat → Nat} {n : Nat} {σ σ' : Nat → jcell} {vs : List jv} (h : fHd K n vs σ σ' [(26, [0, 4, 2], none), (27, [], none)]) {b : Nat} (h0 : fPs K n σ b) : fPs K n σ' b := by
  obtain ⟨g, P, S, w, o, o2, l⟩ := h0
  exact ⟨g, P, S, fMe_dp h (List.mem_of_getElem? (i := 0) rfl) (by decide) (List.mem_of_getElem? (i := 1) rfl) w, fOb_dp h (List.mem_of_getElem? (i := 0) rfl) (by decide) o, fOb_dp h (List.mem_of_getElem? (i := 0) rfl) (by decide) o2, l⟩
theorem fPc_dp {K : Nat → Nat} {n : Nat} {σ σ' : Nat → jcell} {vs : List jv} {D : List aDe} (h : fHd K n vs σ σ' D) {a : Nat} {g : Nat → Int32} {F : List Nat} (m1 : ((19, F, none) : aDe) ∈ D) (hf : 4 ∈ F) (m2 : ((20, [], none) : aDe) ∈ D) (h0 : fPc K n σ a g) : fPc K n σ' a g := by
  obtain ⟨r, o, l1, l2, l3⟩ := h0
  have h2 := h r l1 _ m2 l2.symm
  rw [l3] at h2
  exact ⟨r, fOb_dp h m1 hf o, l1, l2, fSm_row h2⟩
theorem fPu_dp {K : Nat → Nat} {n : Nat} {σ σ' : Nat → jcell} {vs : List jv} {D : List aDe} (h : fHd K n vs σ σ' D) {a : Nat} {g : Nat → Int64} {F : List Nat} (m1 : ((19, F, none) : aDe) ∈ D) (hf : 5 ∈ F) (m2 : ((21, [], none) : aDe) ∈ D) (h0 : fPu K n σ a g) : fPu K n σ' a g := by
  obtain ⟨r, o, l1, l2, l3⟩ := h0
  have h2 := h r l1 _ m2 l2.symm
  rw [l3] at h2
  exact ⟨r, fOb_dp h m1 hf o, l1, l2, fSm_row h2⟩
theorem fD16 : ∀ j, j < 33 → fg_dep.getD (160 + j) [] = [(26, [0], none), (27, [], none)]
  | 0, _ => rfl
  | 1, _ => rfl
  | 2, _ => rfl
  | 3, _ => rfl
  | 4, _ => rfl
  | 5, _ => rfl
  | 6, _ => rfl
  | 7, _ => rfl
  | 8, _ => rfl
  | 9, _ => rfl
  | 10, _ => rfl
  | 11, _ => rfl
  | 12, _ => rfl
  | 13, _ => rfl
  | 14, _ => rfl
  | 15, _ => rfl
  | 16, _ => rfl
  | 17, _ => rfl
  | 18, _ => rfl
  | 19, _ => rfl
  | 20, _ => rfl
  | 21, _ => rfl
  | 22, _ => rfl
  | 23, _ => rfl
  | 24, _ => rfl
  | 25, _ => rfl
  | 26, _ => rfl
  | 27, _ => rfl
  | 28, _ => rfl
  | 29, _ => rfl
  | 30, _ => rfl
  | 31, _ => rfl
  | 32, _ => rfl
  | j + 33, h => absurd h (by omega)
theorem fD160 (k : Nat) (h1 : k < 193) (h2 : 160 ≤ k) : fg_dep.getD k [] = [(26, [0], none), (27, [], none)] := by
  have h3 := fD16 (k - 160) (by omega)
  rw [show 160 + (k - 160) = k by omega] at h3
  exact h3
theorem fDeq : ∀ k, k < 60 → fg_dep.getD k [] = fb_dep.getD k []
  | 0, _ => rfl
  | 1, _ => rfl
  | 2, _ => rfl
  | 3, _ => rfl
  | 4, _ => rfl
  | 5, _ => rfl
  | 6, _ => rfl
  | 7, _ => rfl
  | 8, _ => rfl
  | 9, _ => rfl
  | 10, _ => rfl
  | 11, _ => rfl
  | 12, _ => rfl
  | 13, _ => rfl
  | 14, _ => rfl
  | 15, _ => rfl
  | 16, _ => rfl
  | 17, _ => rfl
  | 18, _ => rfl
  | 19, _ => rfl
  | 20, _ => rfl
  | 21, _ => rfl
  | 22, _ => rfl
  | 23, _ => rfl
  | 24, _ => rfl
  | 25, _ => rfl
  | 26, _ => rfl
  | 27, _ => rfl
  | 28, _ => rfl
  | 29, _ => rfl
  | 30, _ => rfl
  | 31, _ => rfl
  | 32, _ => rfl
  | 33, _ => rfl
  | 34, _ => rfl
  | 35, _ => rfl
  | 36, _ => rfl
  | 37, _ => rfl
  | 38, _ => rfl
  | 39, _ => rfl
  | 40, _ => rfl
  | 41, _ => rfl
  | 42, _ => rfl
  | 43, _ => rfl
  | 44, _ => rfl
  | 45, _ => rfl
  | 46, _ => rfl
  | 47, _ => rfl
  | 48, _ => rfl
  | 49, _ => rfl
  | 50, _ => rfl
  | 51, _ => rfl
  | 52, _ => rfl
  | 53, _ => rfl
  | 54, _ => rfl
  | 55, _ => rfl
  | 56, _ => rfl
  | 57, _ => rfl
  | 58, _ => rfl
  | 59, _ => rfl
  | k + 60, h => absurd h (by omega)
theorem fC_dp {K : Nat → Nat} {n : Nat} {k : Nat} {vs ws : List jv} {σ σ' : Nat → jcell} (hk : k < 200) (h : fHd K n ws σ σ' (fg_dep.getD k [])) (HV : ∀ (a b : jv), vs = [a, b] → ws[1]? = some b) (hb : fC K n k vs σ) : fC K n k vs σ' := by
  unfold fC at hb ⊢
  rw [if_neg (by omega)] at hb ⊢
  by_cases c : 160 ≤ k
  · rw [if_pos c] at hb ⊢
    obtain ⟨c2, b, g, e, w, l⟩ := hb
    rw [fD160 _ (by omega) c] at h
    exact ⟨c2, b, g, e, fMe_dp h (List.mem_of_getElem? (i := 0) rfl) (by decide) (List.mem_of_getElem? (i := 1) rfl) w, l⟩
  rw [if_neg c] at hb ⊢
  clear c hk
  unfold fC0 at hb
  split at hb
  · obtain ⟨a, b, h0, N, t, q, e, w, u0, u1, u2, r1, r2, H, A⟩ := hb
    exact ⟨a, b, h0, N, t, q, e, fTw_dp h (List.mem_of_getElem? (i := 0) rfl) (by decide) (by decide) w, fFi_dp h (List.mem_of_getElem? (i := 0) rfl) (by decide) u0, fFi_dp h (List.mem_of_getElem? (i := 0) rfl) (by decide) u1, fFi_dp h (List.mem_of_getElem? (i := 0) rfl) (by decide) u2, r1, r2, H, fAt_dq h (by decide) A⟩
  · obtain ⟨a, b, h0, N, t, q, e, w, u1, r1, r2, H, A⟩ := hb
    exact ⟨a, b, h0, N, t, q, e, fTw_dp h (List.mem_of_getElem? (i := 0) rfl) (by decide) (by decide) w, fFi_dp h (List.mem_of_getElem? (i := 0) rfl) (by decide) u1, r1, r2, H, fAt_dq h (by decide) A⟩
  · obtain ⟨a, l, x, N, pa, pt, e, ⟨wp, wt, un⟩, g⟩ := hb
    exact ⟨a, l, x, N, pa, pt, e, ⟨fRo_dp h (List.mem_of_getElem? (i := 0) rfl) (by decide) (List.mem_of_getElem? (i := 1) rfl) wp, fRo_dp h (List.mem_of_getElem? (i := 0) rfl) (by decide) (List.mem_of_getElem? (i := 2) rfl) wt, fFi_dp h (List.mem_of_getElem? (i := 0) rfl) (by decide) un⟩, g⟩
  · obtain ⟨a, l, x, N, pa, pt, e, ⟨wp, wt, un⟩, g⟩ := hb
    exact ⟨a, l, x, N, pa, pt, e, ⟨fRo_dp h (List.mem_of_getElem? (i := 0) rfl) (by decide) (List.mem_of_getElem? (i := 1) rfl) wp, fRo_dp h (List.mem_of_getElem? (i := 0) rfl) (by decide) (List.mem_of_getElem? (i := 2) rfl) wt, fFi_dp h (List.mem_of_getElem? (i := 0) rfl) (by decide) un⟩, g⟩
  · obtain ⟨a, l, N, pa, pt, e, ⟨wp, wt, un⟩, g⟩ := hb
    exact ⟨a, l, N, pa, pt, e, ⟨fRo_dp h (List.mem_of_getElem? (i := 0) rfl) (by decide) (List.mem_of_getElem? (i := 1) rfl) wp, fRo_dp h (List.mem_of_getElem? (i := 0) rfl) (by decide) (List.mem_of_getElem? (i := 2) rfl) wt, fFi_dp h (List.mem_of_getElem? (i := 0) rfl) (by decide) un⟩, g⟩
  · obtain ⟨a, c, h0, N, pa, e, w, u, g⟩ := hb
    exact ⟨a, c, h0, N, pa, e, fRo_dp h (List.mem_of_getElem? (i := 0) rfl) (by decide) (List.mem_of_getElem? (i := 1) rfl) w, fFi_dp h (List.mem_of_getElem? (i := 0) rfl) (by decide) u, g⟩
  · obtain ⟨a, c, h0, m, N, pa, mv, e, w, u, z, g⟩ := hb
    exact ⟨a, c, h0, m, N, pa, mv, e, fRo_dp h (List.mem_of_getElem? (i := 0) rfl) (by decide) (List.mem_of_getElem? (i := 1) rfl) w, fFi_dp h (List.mem_of_getElem? (i := 0) rfl) (by decide) u, fRo_dp h (List.mem_of_getElem? (i := 0) rfl) (by decide) (List.mem_of_getElem? (i := 2) rfl) z, g⟩
  · obtain ⟨a, c, h0, m, e, hb | ⟨N, pa, mv, w, u, z, g⟩⟩ := hb
    · exact ⟨a, c, h0, m, e, Or.inl hb⟩
    · exact ⟨a, c, h0, m, e, Or.inr ⟨N, pa, mv, fRo_dp h (List.mem_of_getElem? (i := 0) rfl) (by decide) (List.mem_of_getElem? (i := 1) rfl) w, fFi_dp h (List.mem_of_getElem? (i := 0) rfl) (by decide) u, fRo_dp h (List.mem_of_getElem? (i := 0) rfl) (by decide) (List.mem_of_getElem? (i := 2) rfl) z, g⟩⟩
  · obtain ⟨a, h0, c, i, N, pa, f1, af, L, e, w, y, z, u, g⟩ := hb
    exact ⟨a, h0, c, i, N, pa, f1, af, L, e, fRo_dp h (List.mem_of_getElem? (i := 0) rfl) (by decide) (List.mem_of_getElem? (i := 1) rfl) w, fRo_dp h (List.mem_of_getElem? (i := 0) rfl) (by decide) (List.mem_of_getElem? (i := 2) rfl) y, fRo_dp h (List.mem_of_getElem? (i := 0) rfl) (by decide) (List.mem_of_getElem? (i := 3) rfl) z, fFi_dp h (List.mem_of_getElem? (i := 0) rfl) (by decide) u, g⟩
  · obtain ⟨a, c, h0, m, t, e, w, g⟩ := hb
    exact ⟨a, c, h0, m, t, e, fTw_dp h (List.mem_of_getElem? (i := 0) rfl) (by decide) (by decide) w, g⟩
  · exact hb
  · exact hb
  · obtain ⟨a, c, v, af, e, w, g⟩ := hb
    exact ⟨a, c, v, af, e, fRo_dp h (List.mem_of_getElem? (i := 0) rfl) (by decide) (List.mem_of_getElem? (i := 1) rfl) w, g⟩
  · obtain ⟨a, b, e, g⟩ := hb
    exact ⟨a, b, e, fPb_dp h (List.mem_of_getElem? (i := 0) rfl) g⟩
  · obtain ⟨x, a, b, e, hb | g⟩ := hb
    · exact ⟨x, a, b, e, Or.inl hb⟩
    · exact ⟨x, a, b, e, Or.inr (fPb_dp h (List.mem_of_getElem? (i := 0) rfl) g)⟩
  · obtain ⟨a, b, c, N, t, q, e, w, u1, r1, r2, r3, H, A⟩ := hb
    exact ⟨a, b, c, N, t, q, e, fTw_dp h (List.mem_of_getElem? (i := 0) rfl) (by decide) (by decide) w, fFi_dp h (List.mem_of_getElem? (i := 0) rfl) (by decide) u1, r1, r2, r3, H, fAt_dq h (by decide) A⟩
  · obtain ⟨a, o, nd, N, pa, f1, af, M, e, w, y, z, u, g⟩ := hb
    exact ⟨a, o, nd, N, pa, f1, af, M, e, fRo_dp h (List.mem_of_getElem? (i := 0) rfl) (by decide) (List.mem_of_getElem? (i := 1) rfl) w, fRo_dp h (List.mem_of_getElem? (i := 0) rfl) (by decide) (List.mem_of_getElem? (i := 2) rfl) y, fRo_dp h (List.mem_of_getElem? (i := 0) rfl) (by decide) (List.mem_of_getElem? (i := 3) rfl) z, fFi_dp h (List.mem_of_getElem? (i := 0) rfl) (by decide) u, g⟩
  · obtain ⟨a, nd, x, pa, f1, e, w, y, g⟩ := hb
    exact ⟨a, nd, x, pa, f1, e, fRo_dp h (List.mem_of_getElem? (i := 0) rfl) (by decide) (List.mem_of_getElem? (i := 1) rfl) w, fRo_dp h (List.mem_of_getElem? (i := 0) rfl) (by decide) (List.mem_of_getElem? (i := 2) rfl) y, g⟩
  · obtain ⟨a, hd, nd, ls, len, N, pa, h1, h2, e, w, u, g⟩ := hb
    exact ⟨a, hd, nd, ls, len, N, pa, h1, h2, e, fRo_dp h (List.mem_of_getElem? (i := 0) rfl) (by decide) (List.mem_of_getElem? (i := 1) rfl) w, fFi_dp h (List.mem_of_getElem? (i := 0) rfl) (by decide) u, g⟩
  · obtain ⟨a, nd, x, e, hb | ⟨pa, f1, w, y, g⟩⟩ := hb
    · exact ⟨a, nd, x, e, Or.inl hb⟩
    · exact ⟨a, nd, x, e, Or.inr ⟨pa, f1, fRo_dp h (List.mem_of_getElem? (i := 0) rfl) (by decide) (List.mem_of_getElem? (i := 1) rfl) w, fRo_dp h (List.mem_of_getElem? (i := 0) rfl) (by decide) (List.mem_of_getElem? (i := 2) rfl) y, g⟩⟩
  · obtain ⟨g, a, e, ⟨x, o, hx⟩ | ⟨T, ⟨s, h0, os, us, hs⟩, o, N, gg, oo, uN, ou, hj⟩⟩ := hb
    · exact ⟨g, a, e, Or.inl ⟨x, fOb_dp h (List.mem_of_getElem? (i := 0) rfl) (by decide) o, hx⟩⟩
    · exact ⟨g, a, e, Or.inr ⟨fTG_dp h (by decide) T, ⟨s, h0, fOb_dp h (List.mem_of_getElem? (i := 0) rfl) (by decide) os, fFi_dp h (List.mem_of_getElem? (i := 2) rfl) (by decide) us, hs⟩, o, N, gg, fOb_dp h (List.mem_of_getElem? (i := 0) rfl) (by decide) oo, fFi_dp h (List.mem_of_getElem? (i := 2) rfl) (by decide) uN, fOu_dp h (List.mem_of_getElem? (i := 0) rfl) (by decide) (List.mem_of_getElem? (i := 1) rfl) ou, hj⟩⟩
  · obtain ⟨g, m, k, gg, e, ou, hj⟩ := hb
    exact ⟨g, m, k, gg, e, fOu_dp h (List.mem_of_getElem? (i := 0) rfl) (by decide) (List.mem_of_getElem? (i := 1) rfl) ou, hj⟩
  · obtain ⟨a, s, h0, e, u, hs⟩ := hb
    exact ⟨a, s, h0, e, fFi_dp h (List.mem_of_getElem? (i := 0) rfl) (by decide) u, hs⟩
  · obtain ⟨a, f1, e, w, g⟩ := hb
    exact ⟨a, f1, e, fRo_dp h (List.mem_of_getElem? (i := 0) rfl) (by decide) (List.mem_of_getElem? (i := 1) rfl) w, g⟩
  · obtain ⟨x, a, e, hb | hb⟩ := hb
    · exact ⟨x, a, e, Or.inl hb⟩
    · exact ⟨x, a, e, Or.inr (fTG_dp h (by decide) hb)⟩
  · obtain ⟨c, g, a, e, ⟨o1, o2⟩ | ⟨o1, o2, T⟩⟩ := hb
    · exact ⟨c, g, a, e, Or.inl ⟨fOb_dp h (List.mem_of_getElem? (i := 0) rfl) (by decide) o1, fOb_dp h (List.mem_of_getElem? (i := 0) rfl) (by decide) o2⟩⟩
    · exact ⟨c, g, a, e, Or.inr ⟨fOb_dp h (List.mem_of_getElem? (i := 0) rfl) (by decide) o1, fOb_dp h (List.mem_of_getElem? (i := 0) rfl) (by decide) o2, fTG_dp h (by decide) T⟩⟩
  · obtain ⟨b, e, g⟩ := hb
    exact ⟨b, e, fBf_dp h (by decide) g⟩
  · obtain ⟨x, b, e, hb | hb⟩ := hb
    · exact ⟨x, b, e, Or.inl hb⟩
    · exact ⟨x, b, e, Or.inr (fBf_dp h (by decide) hb)⟩
  · obtain ⟨g, m, k, gg, e, ou, hj⟩ := hb
    exact ⟨g, m, k, gg, e, fOu_dp h (List.mem_of_getElem? (i := 0) rfl) (by decide) (List.mem_of_getElem? (i := 1) rfl) ou, hj⟩
  · obtain ⟨a, i, c, s, g, e, w, o, l⟩ := hb
    exact ⟨a, i, c, s, g, e, fWt_dp h (List.mem_of_getElem? (i := 0) rfl) (by decide) (List.mem_of_getElem? (i := 1) rfl) w, fOb_dp h (List.mem_of_getElem? (i := 0) rfl) (by decide) o, l⟩
  · obtain ⟨a, r, e, g⟩ := hb
    exact ⟨a, r, e, fSp_dp h g⟩
  · obtain ⟨a, r, e, g⟩ := hb
    exact ⟨a, r, e, fSp_dp h g⟩
  · obtain ⟨a, i, c, g, e, w, l⟩ := hb
    exact ⟨a, i, c, g, e, fWt_dp h (List.mem_of_getElem? (i := 0) rfl) (by decide) (List.mem_of_getElem? (i := 1) rfl) w, l⟩
  · obtain ⟨r, i, g, e, l1, l2, l3, l4⟩ := hb
    have h2 := h r l1 _ (List.mem_of_getElem? (i := 0) rfl) l2.symm
    rcases h2 with h2 | ⟨k, f1, f2, e1, -⟩ | ⟨ty, m, g1, g2, f, z, q1, q2, q3, q4, q5⟩
    · exact ⟨r, i, g, e, l1, l2, by rw [h2]; exact l3, l4⟩
    · rw [l3] at e1; cases e1
    · rw [l3] at q3
      cases q3
      obtain rfl := Option.some.inj q1
      have hz : z = i.toInt := by have := fVa1 (x := i) (i := 1) (c := 0) q2 (HV _ _ e); omega
      exact ⟨r, i, g2, e, l1, l2, q4, fun j hj => by rw [q5 j (by omega)]; exact l4 j hj⟩
  · obtain ⟨r, i, g, e, l1, l2, l3, l4⟩ := hb
    exact ⟨r, i, g, e, l1, l2, fSm_row (l3 ▸ h r l1 _ (List.mem_of_getElem? (i := 0) rfl) l2.symm), l4⟩
  · obtain ⟨r, g, e, l1, l2, l3, l4⟩ := hb
    exact ⟨r, g, e, l1, l2, fSm_row (l3 ▸ h r l1 _ (List.mem_of_getElem? (i := 0) rfl) l2.symm), l4⟩
  · obtain ⟨b, g, e, w, l⟩ := hb
    exact ⟨b, g, e, fMe_dp h (List.mem_of_getElem? (i := 0) rfl) (by decide) (List.mem_of_getElem? (i := 1) rfl) w, l⟩
  · obtain ⟨b, s, v, g, e, w, l⟩ := hb
    exact ⟨b, s, v, g, e, fMe_dp h (List.mem_of_getElem? (i := 0) rfl) (by decide) (List.mem_of_getElem? (i := 1) rfl) w, l⟩
  · obtain ⟨b, s, v, g, e, w, l⟩ := hb
    exact ⟨b, s, v, g, e, fMe_dp h (List.mem_of_getElem? (i := 0) rfl) (by decide) (List.mem_of_getElem? (i := 1) rfl) w, l⟩
  · obtain ⟨b, e, g⟩ := hb
    exact ⟨b, e, fRg_dp h g⟩
  · obtain ⟨b, x, e, hb | hb⟩ := hb
    · exact ⟨b, x, e, Or.inl hb⟩
    · exact ⟨b, x, e, Or.inr (fRg_dp h hb)⟩
  · obtain ⟨b, e, g⟩ := hb
    exact ⟨b, e, fPs_dp h g⟩
  · obtain ⟨b, x, e, hb | hb⟩ := hb
    · exact ⟨b, x, e, Or.inl hb⟩
    · exact ⟨b, x, e, Or.inr (fPs_dp h hb)⟩
  · obtain ⟨b, g, R, e, w, o, l⟩ := hb
    exact ⟨b, g, R, e, fMe_dp h (List.mem_of_getElem? (i := 0) rfl) (by decide) (List.mem_of_getElem? (i := 1) rfl) w, fOb_dp h (List.mem_of_getElem? (i := 0) rfl) (by decide) o, l⟩
  · obtain ⟨b, g, R, e, w, o, l⟩ := hb
    exact ⟨b, g, R, e, fMe_dp h (List.mem_of_getElem? (i := 0) rfl) (by decide) (List.mem_of_getElem? (i := 1) rfl) w, fOb_dp h (List.mem_of_getElem? (i := 0) rfl) (by decide) o, l⟩
  · obtain ⟨b, g, R, e, w, o, l⟩ := hb
    exact ⟨b, g, R, e, fMe_dp h (List.mem_of_getElem? (i := 0) rfl) (by decide) (List.mem_of_getElem? (i := 1) rfl) w, fOb_dp h (List.mem_of_getElem? (i := 0) rfl) (by decide) o, l⟩
  · obtain ⟨b, g, R, e, w, o, l⟩ := hb
    exact ⟨b, g, R, e, fMe_dp h (List.mem_of_getElem? (i := 0) rfl) (by decide) (List.mem_of_getElem? (i := 1) rfl) w, fOb_dp h (List.mem_of_getElem? (i := 0) rfl) (by decide) o, l⟩
  · obtain ⟨b, x, R, e, o, l⟩ := hb
    exact ⟨b, x, R, e, fOb_dp h (List.mem_of_getElem? (i := 0) rfl) (by decide) o, l⟩
  · obtain ⟨b, x, R, e, o, l⟩ := hb
    exact ⟨b, x, R, e, fOb_dp h (List.mem_of_getElem? (i := 0) rfl) (by decide) o, l⟩
  · obtain ⟨b, x, R, e, o, l⟩ := hb
    exact ⟨b, x, R, e, fOb_dp h (List.mem_of_getElem? (i := 0) rfl) (by decide) o, l⟩
  · obtain ⟨b, x, R, e, o, l⟩ := hb
    exact ⟨b, x, R, e, fOb_dp h (List.mem_of_getElem? (i := 0) rfl) (by decide) o, l⟩
  · obtain ⟨b, g, e, w, u⟩ := hb
    exact ⟨b, g, e, fMe_dp h (List.mem_of_getElem? (i := 0) rfl) (by decide) (List.mem_of_getElem? (i := 1) rfl) w, fWx_dp h (List.mem_of_getElem? (i := 0) rfl) (by decide) (List.mem_of_getElem? (i := 2) rfl) u⟩
  · obtain ⟨b, s, g, e, w, l⟩ := hb
    exact ⟨b, s, g, e, fMe_dp h (List.mem_of_getElem? (i := 0) rfl) (by decide) (List.mem_of_getElem? (i := 1) rfl) w, l⟩
  · obtain ⟨b, s, g, e, w, l⟩ := hb
    exact ⟨b, s, g, e, fMe_dp h (List.mem_of_getElem? (i := 0) rfl) (by decide) (List.mem_of_getElem? (i := 1) rfl) w, l⟩
  · obtain ⟨b, r, f, g, e, w, l⟩ := hb
    exact ⟨b, r, f, g, e, fMe_dp h (List.mem_of_getElem? (i := 0) rfl) (by decide) (List.mem_of_getElem? (i := 1) rfl) w, l⟩
  · obtain ⟨b, i, g, e, w, l⟩ := hb
    exact ⟨b, i, g, e, fMe_dp h (List.mem_of_getElem? (i := 0) rfl) (by decide) (List.mem_of_getElem? (i := 1) rfl) w, l⟩
  · obtain ⟨b, i, g, w, l⟩ := hb
    exact ⟨b, i, g, fMe_dp h (List.mem_of_getElem? (i := 0) rfl) (by decide) (List.mem_of_getElem? (i := 1) rfl) w, l⟩
  · obtain ⟨r, g, e, l1, l2, l3, l4⟩ := hb
    exact ⟨r, g, e, l1, l2, fSm_row (l3 ▸ h r l1 _ (List.mem_of_getElem? (i := 0) rfl) l2.symm), l4⟩
  · obtain ⟨r, g, e, l1, l2, l3, l4⟩ := hb
    exact ⟨r, g, e, l1, l2, fSm_row (l3 ▸ h r l1 _ (List.mem_of_getElem? (i := 0) rfl) l2.symm), l4⟩
  · obtain ⟨a, c, m, mv, e, w, g⟩ := hb
    exact ⟨a, c, m, mv, e, fRo_dp h (List.mem_of_getElem? (i := 0) rfl) (by decide) (List.mem_of_getElem? (i := 1) rfl) w, g⟩
  · exact hb.elim
theorem fCv_dp {K : Nat → Nat} {n : Nat} {σ σ' : Nat → jcell} {vs : List jv} {a : Nat} {lo hi : Int} {S C : Int32 → Prop} {fm : aF} (h : fHd K n vs σ σ' [(9, [], some fm), (16, [], some fm), (22, [], some fm), (24, [], some fm)]) (hz : ∀ z : Int, aVa vs fm z → z = hi) (h0 : fCv K n σ a lo hi S C) : fCv K n σ' a lo hi S C := by
  obtain ⟨h1, h2, m, g, h3, h4, h5⟩ := h0
  have hq : aSm vs (K a, [], some fm) (σ a) (σ' a) := by
    have h2' := h2
    unfold fRw at h2'
    rcases h2' with e | e | e | e
    · rw [e]; exact h a h1 (9, [], some fm) (List.mem_of_getElem? (i := 0) rfl) e.symm
    · rw [e]; exact h a h1 (16, [], some fm) (List.mem_of_getElem? (i := 1) rfl) e.symm
    · rw [e]; exact h a h1 (22, [], some fm) (List.mem_of_getElem? (i := 2) rfl) e.symm
    · rw [e]; exact h a h1 (24, [], some fm) (List.mem_of_getElem? (i := 3) rfl) e.symm
  rcases hq with e | ⟨k, f1, f2, e1, -⟩ | ⟨ty, m2, g1, g2, f, z, e1, e2, e3, e4, e5⟩
  · exact ⟨h1, h2, m, g, by rw [e]; exact h3, h4, h5⟩
  · rw [h3] at e1; cases e1
  · obtain rfl : fm = f := Option.some.inj e1
    rw [h3] at e3
    cases e3
    have hh := hz z e2
    refine ⟨h1, h2, _, g2, e4, fun k hk hk2 => by rw [e5 k (by omega)]; exact h4 k hk hk2, fun x hx => ?_⟩
    obtain ⟨k, k1, k2, k3⟩ := h5 x hx
    exact ⟨k, k1, k2, by rw [e5 k (by omega)]; exact k3⟩
theorem fKg_dp {K : Nat → Nat} {n : Nat} {σ σ' : Nat → jcell} {vs : List jv} (h : fHd K n vs σ σ' [(26, [1, 2], none), (28, [], none)]) {a : Nat} {x : Int32} (h0 : fKg K n σ a x) : fKg K n σ' a x := by
  obtain ⟨r, g, s, o1, l1, l2, l3, o2, e⟩ := h0
  have h2 := h r l1 _ (List.mem_of_getElem? (i := 1) rfl) l2.symm
  rw [l3] at h2
  exact ⟨r, g, s, fOb_dp h (List.mem_of_getElem? (i := 0) rfl) (by decide) o1, l1, l2, fSm_row h2, fOb_dp h (List.mem_of_getElem? (i := 0) rfl) (by decide) o2, e⟩
theorem fEt_k {M F : Nat → Int32} {k : Nat} {rest : List jv} {lo hi : Int32} {S C : Int32 → Prop} (h : fEt M F k rest lo hi S C) : 77 ≤ k ∧ k ≤ 98 ∧ ¬ k = 96 := by
  unfold fEt at h
  split at h <;> first | decide | exact h.elim
theorem fDup : ∀ j, j < 22 → ¬ j = 19 → fg_dep.getD (77 + j) [] = (if fEc (77 + j) = 1 then [(9, [], some ([(2, 1)], 1)), (16, [], some ([(2, 1)], 1)), (22, [], some ([(2, 1)], 1)), (24, [], some ([(2, 1)], 1))] else [(9, [], some ([(2, 1)], 0)), (16, [], some ([(2, 1)], 0)), (22, [], some ([(2, 1)], 0)), (24, [], some ([(2, 1)], 0))])
  | 0, _, _ => rfl
  | 1, _, _ => rfl
  | 2, _, _ => rfl
  | 3, _, _ => rfl
  | 4, _, _ => rfl
  | 5, _, _ => rfl
  | 6, _, _ => rfl
  | 7, _, _ => rfl
  | 8, _, _ => rfl
  | 9, _, _ => rfl
  | 10, _, _ => rfl
  | 11, _, _ => rfl
  | 12, _, _ => rfl
  | 13, _, _ => rfl
  | 14, _, _ => rfl
  | 15, _, _ => rfl
  | 16, _, _ => rfl
  | 17, _, _ => rfl
  | 18, _, _ => rfl
  | 19, _, h => absurd rfl h
  | 20, _, _ => rfl
  | 21, _, _ => rfl
  | j + 22, h, _ => absurd h (by omega)
theorem fEl_dp {K : Nat → Nat} {n : Nat} {p : fP} {k j : Nat} {ws : List jv} {σ σ' : Nat → jcell} (h1 : 60 ≤ k) (h2 : k < 99) (h : fHd K n ws σ σ' (fg_dep.getD k [])) (hb : fEl K n p k (ws.take j) σ) : fEl K n p k (ws.take j) σ' := by
  unfold fEl at hb ⊢
  by_cases c : k = 60
  · subst c
    rw [if_pos rfl] at hb ⊢
    rcases hb with ⟨a, x, hk, hb⟩ | ⟨a, r, e, hb | ⟨x, hk, hb⟩⟩
    · exact Or.inl ⟨a, x, fKg_dp h hk, hb⟩
    · exact Or.inr ⟨a, r, e, Or.inl hb⟩
    · exact Or.inr ⟨a, r, e, Or.inr ⟨x, fKg_dp h hk, hb⟩⟩
  rw [if_neg c] at hb ⊢
  obtain ⟨a, lo, hi, rest, S, C, e, T, V⟩ := hb
  have hk := fEt_k T
  have hd := fDup (k - 77) (by omega) (by omega)
  rw [show 77 + (k - 77) = k by omega] at hd
  rw [hd] at h
  refine ⟨a, lo, hi, rest, S, C, e, T, ?_⟩
  have hv : ws[2]? = some (.inl hi) := fTak (j := j) (by rw [e]; rfl)
  have hc : fEc k = 1 ∨ fEc k = 0 := by
    unfold fEc
    split
    · exact Or.inl rfl
    · exact Or.inr rfl
  rcases hc with hc | hc
  · rw [if_pos hc] at h
    exact fCv_dp (fm := ([(2, 1)], 1)) h (fun z hz => by have := fVa1 (x := hi) hz hv; omega) V
  · rw [if_neg (by omega)] at h
    exact fCv_dp (fm := ([(2, 1)], 0)) h (fun z hz => by have := fVa1 (x := hi) hz hv; omega) V
theorem fB_dq {K : Nat → Nat} {n : Nat} {p : fP} {k j : Nat} {ws : List jv} {σ σ' : Nat → jcell} (hk : k < 200) (h : fHd K n ws σ σ' (fg_dep.getD k [])) (hb : fB K n p k (ws.take j) σ) : fB K n p k (ws.take j) σ' := by
  by_cases c0 : k < 60
  · rw [fDeq k c0] at h
    exact fB_dp c0 h hb
  by_cases c1 : k = 61
  · subst c1
    obtain ⟨a, h0, N, t, e, w, r1, r2, r3, H⟩ := hb
    obtain ⟨t', w', e5, es⟩ := fTw_ds (q := fq p) (hh := 0) h e r2 w
    exact ⟨a, h0, N, t', e, w', r1, r2, r3, fTk_cg H (fun i hi => (es i (by omega)).1) (fun i hi => (es i (by omega)).2.1) (fun i hi => (es i (by omega)).2.2.1) (fun i hi => (es i (by omega)).2.2.2) e5⟩
  by_cases c2 : k = 62
  · subst c2
    obtain ⟨a, h0, N, t, e, w, r1, r2, r3, r4, r5, H⟩ := hb
    obtain ⟨t', w', e5, es⟩ := fTw_ds (q := fq p) (hh := 0) h e (by omega) w
    have eh : t'.1 h0.toInt.toNat = t.1 h0.toInt.toNat := (es h0.toInt.toNat (by omega)).1
    exact ⟨a, h0, N, t', e, w', r1, r2, r3, by rw [eh]; exact r4, by rw [eh]; exact r5, by rw [eh]; exact fTk_cg H (fun i hi => (es i (by omega)).1) (fun i hi => (es i (by omega)).2.1) (fun i hi => (es i (by omega)).2.2.1) (fun i hi => (es i (by omega)).2.2.2) e5⟩
  by_cases c3 : k = 63
  · subst c3
    obtain ⟨a, h0, N, ab, nd, t, e, w, g⟩ := hb
    exact ⟨a, h0, N, ab, nd, t, e, fTw_dp h (List.mem_of_getElem? (i := 0) rfl) (by decide) (by decide) w, g⟩
  by_cases c4 : k = 64
  · subst c4
    obtain ⟨a, h0, N, ab, nd, t, e, w, g⟩ := hb
    exact ⟨a, h0, N, ab, nd, t, e, fTw_dp h (List.mem_of_getElem? (i := 0) rfl) (by decide) (by decide) w, g⟩
  by_cases c5 : k = 65
  · subst c5
    obtain ⟨a, hi, e, hk, g⟩ := hb
    exact ⟨a, hi, e, hk, fEn_dp h (List.mem_of_getElem? (i := 0) rfl) (fun fm z k ho => by cases ho) hk g⟩
  by_cases c6 : k = 66
  · subst c6
    obtain ⟨a, hi, e, hk, g⟩ := hb
    exact ⟨a, hi, e, hk, fEn_dp h (List.mem_of_getElem? (i := 0) rfl) (fun fm z k ho hv hp => by
      cases ho
      have := fVa1 (x := hi) hv (fTak (j := j) (by rw [e]; rfl))
      omega) hk g⟩
  by_cases d67 : k = 67
  · subst d67
    obtain ⟨a, hd, nd, ls, len, N, t, h1, h2, e, w, u, g⟩ := hb
    exact ⟨a, hd, nd, ls, len, N, t, h1, h2, e, fTw_dp h (List.mem_of_getElem? (i := 0) rfl) (by decide) (by decide) w, fFi_dp h (List.mem_of_getElem? (i := 0) rfl) (by decide) u, g⟩
  by_cases d68 : k = 68
  · subst d68
    obtain ⟨a, hd, nd, len, N, t, h2, e, w, u, g⟩ := hb
    exact ⟨a, hd, nd, len, N, t, h2, e, fTw_dp h (List.mem_of_getElem? (i := 0) rfl) (by decide) (by decide) w, fFi_dp h (List.mem_of_getElem? (i := 0) rfl) (by decide) u, g⟩
  by_cases d69 : k = 69
  · subst d69
    obtain ⟨a, hd, ls, len, N, t, h1, h2, e, w, u, g⟩ := hb
    exact ⟨a, hd, ls, len, N, t, h1, h2, e, fTw_dp h (List.mem_of_getElem? (i := 0) rfl) (by decide) (by decide) w, fFi_dp h (List.mem_of_getElem? (i := 0) rfl) (by decide) u, g⟩
  by_cases d70 : k = 70
  · subst d70
    obtain ⟨a, hd, ls, len, N, t, h2, e, w, u, g⟩ := hb
    exact ⟨a, hd, ls, len, N, t, h2, e, fTw_dp h (List.mem_of_getElem? (i := 0) rfl) (by decide) (by decide) w, fFi_dp h (List.mem_of_getElem? (i := 0) rfl) (by decide) u, g⟩
  by_cases d71 : k = 71
  · subst d71
    obtain ⟨a, lf, A, fd, g, e, w, o1, o2, l⟩ := hb
    exact ⟨a, lf, A, fd, g, e, fPc_dp h (List.mem_of_getElem? (i := 0) rfl) (by decide) (List.mem_of_getElem? (i := 1) rfl) w, fOb_dp h (List.mem_of_getElem? (i := 0) rfl) (by decide) o1, fOb_dp h (List.mem_of_getElem? (i := 0) rfl) (by decide) o2, l⟩
  by_cases d72 : k = 72
  · subst d72
    obtain ⟨a, i, A, g, e, w, o1, l⟩ := hb
    exact ⟨a, i, A, g, e, fPc_dp h (List.mem_of_getElem? (i := 0) rfl) (by decide) (List.mem_of_getElem? (i := 1) rfl) w, fOb_dp h (List.mem_of_getElem? (i := 0) rfl) (by decide) o1, l⟩
  by_cases d73 : k = 73
  · subst d73
    obtain ⟨a, m, g, e, w, l⟩ := hb
    exact ⟨a, m, g, e, fPu_dp h (List.mem_of_getElem? (i := 0) rfl) (by decide) (List.mem_of_getElem? (i := 1) rfl) w, l⟩
  by_cases d74 : k = 74
  · subst d74
    obtain ⟨a, m, g, e, w, l⟩ := hb
    exact ⟨a, m, g, e, fPu_dp h (List.mem_of_getElem? (i := 0) rfl) (by decide) (List.mem_of_getElem? (i := 1) rfl) w, l⟩
  by_cases d75 : k = 75
  · subst d75
    obtain ⟨a, m, g, e, w, l⟩ := hb
    exact ⟨a, m, g, e, fPu_dp h (List.mem_of_getElem? (i := 0) rfl) (by decide) (List.mem_of_getElem? (i := 1) rfl) w, l⟩
  by_cases d76 : k = 76
  · subst d76
    obtain ⟨a, m, g, e, w, l⟩ := hb
    exact ⟨a, m, g, e, fPu_dp h (List.mem_of_getElem? (i := 0) rfl) (by decide) (List.mem_of_getElem? (i := 1) rfl) w, l⟩
  rw [fB_def (by omega)] at hb ⊢
  unfold fD at hb ⊢
  rw [if_neg (by omega)] at hb ⊢
  by_cases c99 : k < 99
  · rw [if_pos c99] at hb ⊢
    exact fEl_dp (by omega) c99 h hb
  rw [if_neg c99, if_neg (by omega)] at hb ⊢
  exact fC_dp hk h (fun a b e => fTak (j := j) (by rw [e]; rfl)) hb
theorem fF_dpg {K : Nat → Nat} {n : Nat} : aDp (fF K n) K n fg_dep := by
  refine ⟨fun p r vs σ σ' hl h hf => ?_, fF_pd K n, fun h0 => absurd h0 (by decide)⟩
  have hl : r / 16 % 4096 < 200 := of_decide_eq_true hl
  unfold fF at hf ⊢
  unfold aDg at h
  by_cases c : r < 65536
  · rw [if_pos c] at hf h ⊢
    exact fB_dq (by omega) h hf
  · rw [if_neg c] at hf h ⊢
    by_cases c2 : r < 131072
    · rw [if_pos c2] at hf ⊢
      by_cases c3 : 3 ≤ r % 16
      · rw [if_pos c3] at hf ⊢
        split at hf
        next a x y l =>
          refine fB_dq (σ := jup σ a (jsto (σ a) x.toNatClampNeg y)) (by omega) ?_ hf
          rw [show (r - 65539) / 16 = r / 16 % 4096 by omega]
          exact fSm_jup (fSm_sto _ _) h
        next a x y l =>
          refine fB_dq (σ := jup σ a (jstl (σ a) x.toNatClampNeg y)) (by omega) ?_ hf
          rw [show (r - 65539) / 16 = r / 16 % 4096 by omega]
          exact fSm_jup (fSm_stl _ _) h
        next => exact hf.elim
      · rw [if_neg c3] at hf
        exact hf.elim
    · rw [if_neg c2] at hf ⊢
      by_cases c3 : 2 ≤ r % 16
      · rw [if_pos c3] at hf ⊢
        split at hf
        next a y l =>
          by_cases c4 : (r % 131072 - 2) / 16 < 200
          · refine fB_dq (σ := jup σ a (jstf (σ a) (r / 131072 - 1) y)) c4 ?_ hf
            rw [show (r % 131072 - 2) / 16 = r / 16 % 4096 by omega]
            exact fSm_jup (fSm_stf _ _) h
          · exact (fB_hi (show 1000 ≤ (r % 131072 - 2) / 16 by omega) hf).elim
        next => exact hf.elim
      · rw [if_neg c3] at hf
        exact hf.elim
theorem fDcf : ∀ k, k < 135 → fg_dep.getD k [] = ff_dep.getD k []
  | 0, _ => rfl
  | 1, _ => rfl
  | 2, _ => rfl
  | 3, _ => rfl
  | 4, _ => rfl
  | 5, _ => rfl
  | 6, _ => rfl
  | 7, _ => rfl
  | 8, _ => rfl
  | 9, _ => rfl
  | 10, _ => rfl
  | 11, _ => rfl
  | 12, _ => rfl
  | 13, _ => rfl
  | 14, _ => rfl
  | 15, _ => rfl
  | 16, _ => rfl
  | 17, _ => rfl
  | 18, _ => rfl
  | 19, _ => rfl
  | 20, _ => rfl
  | 21, _ => rfl
  | 22, _ => rfl
  | 23, _ => rfl
  | 24, _ => rfl
  | 25, _ => rfl
  | 26, _ => rfl
  | 27, _ => rfl
  | 28, _ => rfl
  | 29, _ => rfl
  | 30, _ => rfl
  | 31, _ => rfl
  | 32, _ => rfl
  | 33, _ => rfl
  | 34, _ => rfl
  | 35, _ => rfl
  | 36, _ => rfl
  | 37, _ => rfl
  | 38, _ => rfl
  | 39, _ => rfl
  | 40, _ => rfl
  | 41, _ => rfl
  | 42, _ => rfl
  | 43, _ => rfl
  | 44, _ => rfl
  | 45, _ => rfl
  | 46, _ => rfl
  | 47, _ => rfl
  | 48, _ => rfl
  | 49, _ => rfl
  | 50, _ => rfl
  | 51, _ => rfl
  | 52, _ => rfl
  | 53, _ => rfl
  | 54, _ => rfl
  | 55, _ => rfl
  | 56, _ => rfl
  | 57, _ => rfl
  | 58, _ => rfl
  | 59, _ => rfl
  | 60, _ => rfl
  | 61, _ => rfl
  | 62, _ => rfl
  | 63, _ => rfl
  | 64, _ => rfl
  | 65, _ => rfl
  | 66, _ => rfl
  | 67, _ => rfl
  | 68, _ => rfl
  | 69, _ => rfl
  | 70, _ => rfl
  | 71, _ => rfl
  | 72, _ => rfl
  | 73, _ => rfl
  | 74, _ => rfl
  | 75, _ => rfl
  | 76, _ => rfl
  | 77, _ => rfl
  | 78, _ => rfl
  | 79, _ => rfl
  | 80, _ => rfl
  | 81, _ => rfl
  | 82, _ => rfl
  | 83, _ => rfl
  | 84, _ => rfl
  | 85, _ => rfl
  | 86, _ => rfl
  | 87, _ => rfl
  | 88, _ => rfl
  | 89, _ => rfl
  | 90, _ => rfl
  | 91, _ => rfl
  | 92, _ => rfl
  | 93, _ => rfl
  | 94, _ => rfl
  | 95, _ => rfl
  | 96, _ => rfl
  | 97, _ => rfl
  | 98, _ => rfl
  | 99, _ => rfl
  | 100, _ => rfl
  | 101, _ => rfl
  | 102, _ => rfl
  | 103, _ => rfl
  | 104, _ => rfl
  | 105, _ => rfl
  | 106, _ => rfl
  | 107, _ => rfl
  | 108, _ => rfl
  | 109, _ => rfl
  | 110, _ => rfl
  | 111, _ => rfl
  | 112, _ => rfl
  | 113, _ => rfl
  | 114, _ => rfl
  | 115, _ => rfl
  | 116, _ => rfl
  | 117, _ => rfl
  | 118, _ => rfl
  | 119, _ => rfl
  | 120, _ => rfl
  | 121, _ => rfl
  | 122, _ => rfl
  | 123, _ => rfl
  | 124, _ => rfl
  | 125, _ => rfl
  | 126, _ => rfl
  | 127, _ => rfl
  | 128, _ => rfl
  | 129, _ => rfl
  | 130, _ => rfl
  | 131, _ => rfl
  | 132, _ => rfl
  | 133, _ => rfl
  | 134, _ => rfl
  | k + 135, h => absurd h (by omega)
theorem fF_dpf {K : Nat → Nat} {n : Nat} : aDp (fF K n) K n ff_dep := by
  refine ⟨fun p r vs σ σ' hl h hf => fF_dpg.1 p r vs σ σ' ?_ ?_ hf, fF_pd K n, fun h0 => absurd h0 (by decide)⟩
  · have h1 : r / 16 % 4096 < 135 := of_decide_eq_true hl
    exact decide_eq_true (show r / 16 % 4096 < 200 by omega)
  · have h1 : r / 16 % 4096 < 135 := of_decide_eq_true hl
    have e : aDg fg_dep r = aDg ff_dep r := by
      unfold aDg
      split
      · exact fDcf _ (by omega)
      · rw [fDcf _ h1]
    rw [e]
    exact h
theorem fDce : ∀ k, k < 130 → fg_dep.getD k [] = fe_dep.getD k []
  | 0, _ => rfl
  | 1, _ => rfl
  | 2, _ => rfl
  | 3, _ => rfl
  | 4, _ => rfl
  | 5, _ => rfl
  | 6, _ => rfl
  | 7, _ => rfl
  | 8, _ => rfl
  | 9, _ => rfl
  | 10, _ => rfl
  | 11, _ => rfl
  | 12, _ => rfl
  | 13, _ => rfl
  | 14, _ => rfl
  | 15, _ => rfl
  | 16, _ => rfl
  | 17, _ => rfl
  | 18, _ => rfl
  | 19, _ => rfl
  | 20, _ => rfl
  | 21, _ => rfl
  | 22, _ => rfl
  | 23, _ => rfl
  | 24, _ => rfl
  | 25, _ => rfl
  | 26, _ => rfl
  | 27, _ => rfl
  | 28, _ => rfl
  | 29, _ => rfl
  | 30, _ => rfl
  | 31, _ => rfl
  | 32, _ => rfl
  | 33, _ => rfl
  | 34, _ => rfl
  | 35, _ => rfl
  | 36, _ => rfl
  | 37, _ => rfl
  | 38, _ => rfl
  | 39, _ => rfl
  | 40, _ => rfl
  | 41, _ => rfl
  | 42, _ => rfl
  | 43, _ => rfl
  | 44, _ => rfl
  | 45, _ => rfl
  | 46, _ => rfl
  | 47, _ => rfl
  | 48, _ => rfl
  | 49, _ => rfl
  | 50, _ => rfl
  | 51, _ => rfl
  | 52, _ => rfl
  | 53, _ => rfl
  | 54, _ => rfl
  | 55, _ => rfl
  | 56, _ => rfl
  | 57, _ => rfl
  | 58, _ => rfl
  | 59, _ => rfl
  | 60, _ => rfl
  | 61, _ => rfl
  | 62, _ => rfl
  | 63, _ => rfl
  | 64, _ => rfl
  | 65, _ => rfl
  | 66, _ => rfl
  | 67, _ => rfl
  | 68, _ => rfl
  | 69, _ => rfl
  | 70, _ => rfl
  | 71, _ => rfl
  | 72, _ => rfl
  | 73, _ => rfl
  | 74, _ => rfl
  | 75, _ => rfl
  | 76, _ => rfl
  | 77, _ => rfl
  | 78, _ => rfl
  | 79, _ => rfl
  | 80, _ => rfl
  | 81, _ => rfl
  | 82, _ => rfl
  | 83, _ => rfl
  | 84, _ => rfl
  | 85, _ => rfl
  | 86, _ => rfl
  | 87, _ => rfl
  | 88, _ => rfl
  | 89, _ => rfl
  | 90, _ => rfl
  | 91, _ => rfl
  | 92, _ => rfl
  | 93, _ => rfl
  | 94, _ => rfl
  | 95, _ => rfl
  | 96, _ => rfl
  | 97, _ => rfl
  | 98, _ => rfl
  | 99, _ => rfl
  | 100, _ => rfl
  | 101, _ => rfl
  | 102, _ => rfl
  | 103, _ => rfl
  | 104, _ => rfl
  | 105, _ => rfl
  | 106, _ => rfl
  | 107, _ => rfl
  | 108, _ => rfl
  | 109, _ => rfl
  | 110, _ => rfl
  | 111, _ => rfl
  | 112, _ => rfl
  | 113, _ => rfl
  | 114, _ => rfl
  | 115, _ => rfl
  | 116, _ => rfl
  | 117, _ => rfl
  | 118, _ => rfl
  | 119, _ => rfl
  | 120, _ => rfl
  | 121, _ => rfl
  | 122, _ => rfl
  | 123, _ => rfl
  | 124, _ => rfl
  | 125, _ => rfl
  | 126, _ => rfl
  | 127, _ => rfl
  | 128, _ => rfl
  | 129, _ => rfl
  | k + 130, h => absurd h (by omega)
theorem fF_dpe {K : Nat → Nat} {n : Nat} : aDp (fF K n) K n fe_dep := by
  refine ⟨fun p r vs σ σ' hl h hf => fF_dpg.1 p r vs σ σ' ?_ ?_ hf, fF_pd K n, fun h0 => absurd h0 (by decide)⟩
  · have h1 : r / 16 % 4096 < 130 := of_decide_eq_true hl
    exact decide_eq_true (show r / 16 % 4096 < 200 by omega)
  · have h1 : r / 16 % 4096 < 130 := of_decide_eq_true hl
    have e : aDg fg_dep r = aDg fe_dep r := by
      unfold aDg
      split
      · exact fDce _ (by omega)
      · rw [fDce _ h1]
    rw [e]
    exact h
theorem fDcd : ∀ k, k < 121 → fg_dep.getD k [] = fd_dep.getD k []
  | 0, _ => rfl
  | 1, _ => rfl
  | 2, _ => rfl
  | 3, _ => rfl
  | 4, _ => rfl
  | 5, _ => rfl
  | 6, _ => rfl
  | 7, _ => rfl
  | 8, _ => rfl
  | 9, _ => rfl
  | 10, _ => rfl
  | 11, _ => rfl
  | 12, _ => rfl
  | 13, _ => rfl
  | 14, _ => rfl
  | 15, _ => rfl
  | 16, _ => rfl
  | 17, _ => rfl
  | 18, _ => rfl
  | 19, _ => rfl
  | 20, _ => rfl
  | 21, _ => rfl
  | 22, _ => rfl
  | 23, _ => rfl
  | 24, _ => rfl
  | 25, _ => rfl
  | 26, _ => rfl
  | 27, _ => rfl
  | 28, _ => rfl
  | 29, _ => rfl
  | 30, _ => rfl
  | 31, _ => rfl
  | 32, _ => rfl
  | 33, _ => rfl
  | 34, _ => rfl
  | 35, _ => rfl
  | 36, _ => rfl
  | 37, _ => rfl
  | 38, _ => rfl
  | 39, _ => rfl
  | 40, _ => rfl
  | 41, _ => rfl
  | 42, _ => rfl
  | 43, _ => rfl
  | 44, _ => rfl
  | 45, _ => rfl
  | 46, _ => rfl
  | 47, _ => rfl
  | 48, _ => rfl
  | 49, _ => rfl
  | 50, _ => rfl
  | 51, _ => rfl
  | 52, _ => rfl
  | 53, _ => rfl
  | 54, _ => rfl
  | 55, _ => rfl
  | 56, _ => rfl
  | 57, _ => rfl
  | 58, _ => rfl
  | 59, _ => rfl
  | 60, _ => rfl
  | 61, _ => rfl
  | 62, _ => rfl
  | 63, _ => rfl
  | 64, _ => rfl
  | 65, _ => rfl
  | 66, _ => rfl
  | 67, _ => rfl
  | 68, _ => rfl
  | 69, _ => rfl
  | 70, _ => rfl
  | 71, _ => rfl
  | 72, _ => rfl
  | 73, _ => rfl
  | 74, _ => rfl
  | 75, _ => rfl
  | 76, _ => rfl
  | 77, _ => rfl
  | 78, _ => rfl
  | 79, _ => rfl
  | 80, _ => rfl
  | 81, _ => rfl
  | 82, _ => rfl
  | 83, _ => rfl
  | 84, _ => rfl
  | 85, _ => rfl
  | 86, _ => rfl
  | 87, _ => rfl
  | 88, _ => rfl
  | 89, _ => rfl
  | 90, _ => rfl
  | 91, _ => rfl
  | 92, _ => rfl
  | 93, _ => rfl
  | 94, _ => rfl
  | 95, _ => rfl
  | 96, _ => rfl
  | 97, _ => rfl
  | 98, _ => rfl
  | 99, _ => rfl
  | 100, _ => rfl
  | 101, _ => rfl
  | 102, _ => rfl
  | 103, _ => rfl
  | 104, _ => rfl
  | 105, _ => rfl
  | 106, _ => rfl
  | 107, _ => rfl
  | 108, _ => rfl
  | 109, _ => rfl
  | 110, _ => rfl
  | 111, _ => rfl
  | 112, _ => rfl
  | 113, _ => rfl
  | 114, _ => rfl
  | 115, _ => rfl
  | 116, _ => rfl
  | 117, _ => rfl
  | 118, _ => rfl
  | 119, _ => rfl
  | 120, _ => rfl
  | k + 121, h => absurd h (by omega)
theorem fF_dpd {K : Nat → Nat} {n : Nat} : aDp (fF K n) K n fd_dep := by
  refine ⟨fun p r vs σ σ' hl h hf => fF_dpg.1 p r vs σ σ' ?_ ?_ hf, fF_pd K n, fun h0 => absurd h0 (by decide)⟩
  · have h1 : r / 16 % 4096 < 121 := of_decide_eq_true hl
    exact decide_eq_true (show r / 16 % 4096 < 200 by omega)
  · have h1 : r / 16 % 4096 < 121 := of_decide_eq_true hl
    have e : aDg fg_dep r = aDg fd_dep r := by
      unfold aDg
      split
      · exact fDcd _ (by omega)
      · rw [fDcd _ h1]
    rw [e]
    exact h
theorem fDcc : ∀ k, k < 116 → fg_dep.getD k [] = fc_dep.getD k []
  | 0, _ => rfl
  | 1, _ => rfl
  | 2, _ => rfl
  | 3, _ => rfl
  | 4, _ => rfl
  | 5, _ => rfl
  | 6, _ => rfl
  | 7, _ => rfl
  | 8, _ => rfl
  | 9, _ => rfl
  | 10, _ => rfl
  | 11, _ => rfl
  | 12, _ => rfl
  | 13, _ => rfl
  | 14, _ => rfl
  | 15, _ => rfl
  | 16, _ => rfl
  | 17, _ => rfl
  | 18, _ => rfl
  | 19, _ => rfl
  | 20, _ => rfl
  | 21, _ => rfl
  | 22, _ => rfl
  | 23, _ => rfl
  | 24, _ => rfl
  | 25, _ => rfl
  | 26, _ => rfl
  | 27, _ => rfl
  | 28, _ => rfl
  | 29, _ => rfl
  | 30, _ => rfl
  | 31, _ => rfl
  | 32, _ => rfl
  | 33, _ => rfl
  | 34, _ => rfl
  | 35, _ => rfl
  | 36, _ => rfl
  | 37, _ => rfl
  | 38, _ => rfl
  | 39, _ => rfl
  | 40, _ => rfl
  | 41, _ => rfl
  | 42, _ => rfl
  | 43, _ => rfl
  | 44, _ => rfl
  | 45, _ => rfl
  | 46, _ => rfl
  | 47, _ => rfl
  | 48, _ => rfl
  | 49, _ => rfl
  | 50, _ => rfl
  | 51, _ => rfl
  | 52, _ => rfl
  | 53, _ => rfl
  | 54, _ => rfl
  | 55, _ => rfl
  | 56, _ => rfl
  | 57, _ => rfl
  | 58, _ => rfl
  | 59, _ => rfl
  | 60, _ => rfl
  | 61, _ => rfl
  | 62, _ => rfl
  | 63, _ => rfl
  | 64, _ => rfl
  | 65, _ => rfl
  | 66, _ => rfl
  | 67, _ => rfl
  | 68, _ => rfl
  | 69, _ => rfl
  | 70, _ => rfl
  | 71, _ => rfl
  | 72, _ => rfl
  | 73, _ => rfl
  | 74, _ => rfl
  | 75, _ => rfl
  | 76, _ => rfl
  | 77, _ => rfl
  | 78, _ => rfl
  | 79, _ => rfl
  | 80, _ => rfl
  | 81, _ => rfl
  | 82, _ => rfl
  | 83, _ => rfl
  | 84, _ => rfl
  | 85, _ => rfl
  | 86, _ => rfl
  | 87, _ => rfl
  | 88, _ => rfl
  | 89, _ => rfl
  | 90, _ => rfl
  | 91, _ => rfl
  | 92, _ => rfl
  | 93, _ => rfl
  | 94, _ => rfl
  | 95, _ => rfl
  | 96, _ => rfl
  | 97, _ => rfl
  | 98, _ => rfl
  | 99, _ => rfl
  | 100, _ => rfl
  | 101, _ => rfl
  | 102, _ => rfl
  | 103, _ => rfl
  | 104, _ => rfl
  | 105, _ => rfl
  | 106, _ => rfl
  | 107, _ => rfl
  | 108, _ => rfl
  | 109, _ => rfl
  | 110, _ => rfl
  | 111, _ => rfl
  | 112, _ => rfl
  | 113, _ => rfl
  | 114, _ => rfl
  | 115, _ => rfl
  | k + 116, h => absurd h (by omega)
theorem fF_dpc {K : Nat → Nat} {n : Nat} : aDp (fF K n) K n fc_dep := by
  refine ⟨fun p r vs σ σ' hl h hf => fF_dpg.1 p r vs σ σ' ?_ ?_ hf, fF_pd K n, fun h0 => absurd h0 (by decide)⟩
  · have h1 : r / 16 % 4096 < 116 := of_decide_eq_true hl
    exact decide_eq_true (show r / 16 % 4096 < 200 by omega)
  · have h1 : r / 16 % 4096 < 116 := of_decide_eq_true hl
    have e : aDg fg_dep r = aDg fc_dep r := by
      unfold aDg
      split
      · exact fDcc _ (by omega)
      · rw [fDcc _ h1]
    rw [e]
    exact h
end
section
/-! rules of the writer: their proofs -/
set_option maxRecDepth 8192 in
theorem rw_ruL0s {K : Nat → Nat} {n : Nat} : aGho (fF K n) fa_T K n (fJX K n) ag_ruL0s := by
  refine aGho_of ⟨rfl, rfl⟩ ?_
  intro p σ ρ hH hX hA hM
  have hG := aAG_of hA.1 (fun i e v he hv => (hA.2 i e v he hv).1)
  clear hA
  obtain ⟨v0, v1, v2, v3, rfl, g0, g1, g2, g3⟩ := fA_4 hG
  clear hG
  obtain ⟨x0, rfl, b0, d0⟩ := fG_ref (by decide) g0
  obtain ⟨x1, rfl, b1, d1⟩ := aG_int g1
  dsimp only at b1 d1
  obtain ⟨x2, rfl, b2, d2⟩ := aG_int g2
  dsimp only at b2 d2
  obtain ⟨x3, rfl, b3, d3⟩ := aG_int g3
  dsimp only at b3 d3
  obtain ⟨m1, m2, m3, m4⟩ := hM
  have f0 : fB K n p 66 [fR x0, fI x1] σ := by
    obtain ⟨w, e6, e7⟩ := m4 (1058, [0, 1]) (List.mem_of_getElem? (i := 0) rfl)
    obtain rfl : [fR x0, fI x1] = w := Option.some.inj (show some [fR x0, fI x1] = some w from e6)
    exact (fF_b (r := 1058) (by decide) rfl).mp e7
  have f1 : fB K n p 3 [fI x3] σ := by
    obtain ⟨w, e6, e7⟩ := m4 (49, [3]) (List.mem_of_getElem? (i := 1) rfl)
    obtain rfl : [fI x3] = w := Option.some.inj (show some [fI x3] = some w from e6)
    exact (fF_b (r := 49) (by decide) rfl).mp e7
  clear m1 m2 m3 m4
  obtain ⟨a, hi, e, hk, h⟩ := f0
  cases e
  obtain ⟨m9, e9, M⟩ := f1
  cases e9
  have q0 : fB K n (p) 66 [fR x0, fI x1] (jup σ x0 (jsto (σ x0) x2.toNatClampNeg x3)) := by
    exact ⟨_, _, rfl, hk, fLl_st h (fun _ => M) (fun k h1 h2 => h2)⟩
  exact ⟨p, fun _ => rfl, ⟨(fun q h => by cases h), fun q h => (by cases h), (fun f h => by cases h), (aAllc ⟨_, rfl, fF_p (r := 1058) (by decide) (by decide) rfl q0⟩ (fun f h => by cases h))⟩, [], List.mem_cons_self, fun f h => (by cases h)⟩
set_option maxRecDepth 8192 in
theorem rw_ruL0w {K : Nat → Nat} {n : Nat} : aGho (fF K n) fa_T K n (fJX K n) ag_ruL0w := by
  refine aGho_of ⟨rfl, rfl⟩ ?_
  intro p σ ρ hH hX hA hM
  have hG := aAG_of hA.1 (fun i e v he hv => (hA.2 i e v he hv).1)
  clear hA
  obtain ⟨v0, v1, v2, rfl, g0, g1, g2⟩ := fA_3 hG
  clear hG
  obtain ⟨x0, rfl, b0, d0⟩ := fG_ref (by decide) g0
  obtain ⟨x1, rfl, b1, d1⟩ := aG_int g1
  dsimp only at b1 d1
  obtain ⟨x2, rfl, b2, d2⟩ := aG_int g2
  dsimp only at b2 d2
  obtain ⟨m1, m2, m3, m4⟩ := hM
  have l0 : 0 ≤ (1 * x1.toInt + (-1 * x2.toInt + 0)) + 0 := by
    obtain ⟨z, e6, e7⟩ := m3 ([(1, 1), (2, -1)], 0) (List.mem_of_getElem? (i := 0) rfl)
    obtain rfl : (1 * x1.toInt + (-1 * x2.toInt + 0)) = z := Option.some.inj (show some (1 * x1.toInt + (-1 * x2.toInt + 0)) = some z from e6)
    exact e7
  have f0 : fB K n p 66 [fR x0, fI x1] σ := by
    obtain ⟨w, e6, e7⟩ := m4 (1058, [0, 1]) (List.mem_of_getElem? (i := 0) rfl)
    obtain rfl : [fR x0, fI x1] = w := Option.some.inj (show some [fR x0, fI x1] = some w from e6)
    exact (fF_b (r := 1058) (by decide) rfl).mp e7
  clear m1 m2 m3 m4
  obtain ⟨a, hi, e, hk, h1, h2, m, g, h3, h4⟩ := f0
  cases e
  have q0 : fB K n (p) 66 [fR x0, fI x2] σ := by
    exact ⟨_, _, rfl, hk, h1, h2, m, g, h3, fun k hk => h4 k (by omega)⟩
  exact ⟨p, fun _ => rfl, ⟨(fun q h => by cases h), fun q h => (by cases h), (fun f h => by cases h), (aAllc ⟨_, rfl, (fF_b (r := 1058) (by decide) rfl).mpr q0⟩ (fun f h => by cases h))⟩, [], List.mem_cons_self, fun f h => (by cases h)⟩
set_option maxRecDepth 8192 in
theorem rw_ruGO1 {K : Nat → Nat} {n : Nat} : aGho (fF K n) fa_T K n (fJX K n) ag_ruGO1 := by
  refine aGho_of ⟨rfl, rfl⟩ ?_
  intro p σ ρ hH hX hA hM
  have hG := aAG_of hA.1 (fun i e v he hv => (hA.2 i e v he hv).1)
  clear hA
  obtain ⟨v0, v1, v2, v3, v4, rfl, g0, g1, g2, g3, g4⟩ := fA_5 hG
  clear hG
  obtain ⟨x0, rfl, b0, d0⟩ := fG_ref (by decide) g0
  obtain ⟨x1, rfl, b1, d1⟩ := aG_int g1
  dsimp only at b1 d1
  obtain ⟨x2, rfl, b2, d2⟩ := aG_int g2
  dsimp only at b2 d2
  obtain ⟨x3, rfl, b3, d3⟩ := aG_int g3
  dsimp only at b3 d3
  obtain ⟨x4, rfl, b4, d4⟩ := fG_ref (by decide) g4
  obtain ⟨m1, m2, m3, m4⟩ := hM
  obtain ⟨a0, c0, fs0, w0, e1, s0, t0, e4⟩ := m1 (0, 5, 4) (List.mem_of_getElem? (i := 0) rfl)
  obtain rfl : x0 = a0 := Sum.inl.inj (Option.some.inj (Sum.inr.inj (Sum.inr.inj (Option.some.inj (show some (fR x0) = some _ from e1)))))
  obtain rfl : fR x4 = w0 := Option.some.inj (show some (fR x4) = some w0 from e4)
  clear e1 e4
  obtain ⟨a, mc0, ty0, gc0, ic0, e1, sc0, jc0, e4, e5⟩ := m2 (4, ([(2, 1)], 0), 3) (List.mem_of_getElem? (i := 0) rfl)
  obtain rfl : x4 = a := Sum.inl.inj (Option.some.inj (Sum.inr.inj (Sum.inr.inj (Option.some.inj (show some (fR x4) = some _ from e1)))))
  obtain ⟨gc0, rfl⟩ : ∃ g, gc0 = .inl g := by
    rcases gc0 with g | g
    · exact ⟨g, rfl⟩
    · exact absurd (show some (fI x3) = some (.inr (.inl (g ic0))) from e5) (fun h => by cases h)
  have sc0 : σ x4 = .inl (ty0, mc0, .inl gc0) := sc0
  have ec0 : x3 = gc0 ic0 := Sum.inl.inj (Option.some.inj (show some (fI x3) = some _ from e5))
  have kc0 : (ic0 : Int) = (1 * x2.toInt + 0) + 0 := by
    obtain ⟨z, e6, e7⟩ := e4
    obtain rfl : (1 * x2.toInt + 0) = z := Option.some.inj (show some (1 * x2.toInt + 0) = some z from e6)
    exact e7
  clear e1 e4 e5
  obtain rfl : ic0 = x2.toInt.toNat := by omega
  have f0 : fB K n p 104 [fR x0, fI x1, fI x2] σ := by
    obtain ⟨w, e6, e7⟩ := m4 (1667, [0, 1, 2]) (List.mem_of_getElem? (i := 0) rfl)
    obtain rfl : [fR x0, fI x1, fI x2] = w := Option.some.inj (show some [fR x0, fI x1, fI x2] = some w from e6)
    exact (fF_b (r := 1667) (by decide) rfl).mp e7
  clear m1 m2 m3 m4
  obtain ⟨a4, c4, h4, N4, pa4, e4, w4, u4, l4a, l4b, p4⟩ := f0
  cases e4
  obtain ⟨fi, wfi, efi⟩ := fRo_mk hH b0 d0 s0 t0 b4 d4 (q := ((0, 300), [])) rfl
  rw [sc0] at efi
  cases efi
  have q0 : fB K n (p) 118 [fR x0, fI x1, fI x3] σ := by
    exact ⟨_, _, _, pa4, gc0, rfl, w4, wfi, by rw [p4]; exact ec0.symm⟩
  exact ⟨p, fun _ => rfl, ⟨(fun q h => by cases h), fun q h => (by cases h), (fun f h => by cases h), (aAllc ⟨_, rfl, (fF_b (r := 1891) (by decide) rfl).mpr q0⟩ (fun f h => by cases h))⟩, [], List.mem_cons_self, fun f h => (by cases h)⟩
set_option maxRecDepth 8192 in
theorem rw_ruGO2 {K : Nat → Nat} {n : Nat} : aGho (fF K n) fa_T K n (fJX K n) ag_ruGO2 := by
  refine aGho_of ⟨rfl, rfl⟩ ?_
  intro p σ ρ hH hX hA hM
  have hG := aAG_of hA.1 (fun i e v he hv => (hA.2 i e v he hv).1)
  clear hA
  obtain ⟨v0, v1, v2, v3, rfl, g0, g1, g2, g3⟩ := fA_4 hG
  clear hG
  obtain ⟨x0, rfl, b0, d0⟩ := fG_ref (by decide) g0
  obtain ⟨x1, rfl, b1, d1⟩ := aG_int g1
  dsimp only at b1 d1
  obtain ⟨x2, rfl, b2, d2⟩ := aG_int g2
  dsimp only at b2 d2
  obtain ⟨x3, rfl, b3, d3⟩ := aG_int g3
  dsimp only at b3 d3
  obtain ⟨m1, m2, m3, m4⟩ := hM
  have l0 : 0 ≤ (1 * x2.toInt + (-1 * x1.toInt + 0)) + 0 := by
    obtain ⟨z, e6, e7⟩ := m3 ([(2, 1), (1, -1)], 0) (List.mem_of_getElem? (i := 0) rfl)
    obtain rfl : (1 * x2.toInt + (-1 * x1.toInt + 0)) = z := Option.some.inj (show some (1 * x2.toInt + (-1 * x1.toInt + 0)) = some z from e6)
    exact e7
  have l1 : 0 ≤ (-1 * x2.toInt + (1 * x1.toInt + 0)) + 0 := by
    obtain ⟨z, e6, e7⟩ := m3 ([(2, -1), (1, 1)], 0) (List.mem_of_getElem? (i := 1) rfl)
    obtain rfl : (-1 * x2.toInt + (1 * x1.toInt + 0)) = z := Option.some.inj (show some (-1 * x2.toInt + (1 * x1.toInt + 0)) = some z from e6)
    exact e7
  have f0 : fB K n p 118 [fR x0, fI x1, fI x2] σ := by
    obtain ⟨w, e6, e7⟩ := m4 (1891, [0, 1, 2]) (List.mem_of_getElem? (i := 0) rfl)
    obtain rfl : [fR x0, fI x1, fI x2] = w := Option.some.inj (show some [fR x0, fI x1, fI x2] = some w from e6)
    exact (fF_b (r := 1891) (by decide) rfl).mp e7
  clear m1 m2 m3 m4
  obtain ⟨a, nd, x, pa, fi, e, w, y, z⟩ := f0
  cases e
  have q0 : fB K n (p) 120 [fR x0, fI x1, fI x3] σ := by
    exact ⟨_, _, _, rfl, Or.inr ⟨pa, fi, w, y, by rw [z]; exact fI0 (by omega)⟩⟩
  exact ⟨p, fun _ => rfl, ⟨(fun q h => by cases h), fun q h => (by cases h), (fun f h => by cases h), (aAllc ⟨_, rfl, (fF_b (r := 1923) (by decide) rfl).mpr q0⟩ (fun f h => by cases h))⟩, [], List.mem_cons_self, fun f h => (by cases h)⟩
set_option maxRecDepth 8192 in
theorem rw_ruGO0 {K : Nat → Nat} {n : Nat} : aGho (fF K n) fa_T K n (fJX K n) ag_ruGO0 := by
  refine aGho_of ⟨rfl, rfl⟩ ?_
  intro p σ ρ hH hX hA hM
  have hG := aAG_of hA.1 (fun i e v he hv => (hA.2 i e v he hv).1)
  clear hA
  obtain ⟨v0, v1, v2, rfl, g0, g1, g2⟩ := fA_3 hG
  clear hG
  obtain ⟨x0, rfl, b0, d0⟩ := fG_ref (by decide) g0
  obtain ⟨x1, rfl, b1, d1⟩ := aG_int g1
  dsimp only at b1 d1
  obtain ⟨x2, rfl, b2, d2⟩ := aG_int g2
  dsimp only at b2 d2
  obtain ⟨m1, m2, m3, m4⟩ := hM
  have l0 : 0 ≤ (-1 * x2.toInt + 0) + 0 := by
    obtain ⟨z, e6, e7⟩ := m3 ([(2, -1)], 0) (List.mem_of_getElem? (i := 0) rfl)
    obtain rfl : (-1 * x2.toInt + 0) = z := Option.some.inj (show some (-1 * x2.toInt + 0) = some z from e6)
    exact e7
  clear m1 m2 m3 m4
  have q0 : fB K n (p) 120 [fR x0, fI x1, fI x2] σ := by
    exact ⟨_, _, _, rfl, Or.inl (by omega)⟩
  exact ⟨p, fun _ => rfl, ⟨(fun q h => by cases h), fun q h => (by cases h), (fun f h => by cases h), (aAllc ⟨_, rfl, (fF_b (r := 1923) (by decide) rfl).mpr q0⟩ (fun f h => by cases h))⟩, [], List.mem_cons_self, fun f h => (by cases h)⟩
set_option maxRecDepth 8192 in
theorem rw_ruW1 {K : Nat → Nat} {n : Nat} : aGho (fF K n) fa_T K n (fJX K n) ag_ruW1 := by
  refine aGho_of ⟨rfl, rfl⟩ ?_
  intro p σ ρ hH hX hA hM
  have hG := aAG_of hA.1 (fun i e v he hv => (hA.2 i e v he hv).1)
  clear hA
  obtain ⟨v0, v1, v2, v3, v4, rfl, g0, g1, g2, g3, g4⟩ := fA_5 hG
  clear hG
  obtain ⟨x0, rfl, b0, d0⟩ := fG_ref (by decide) g0
  obtain ⟨x1, rfl, b1, d1⟩ := fG_ref (by decide) g1
  obtain ⟨x2, rfl, b2, d2⟩ := aG_int g2
  dsimp only at b2 d2
  obtain ⟨x3, rfl, b3, d3⟩ := aG_int g3
  dsimp only at b3 d3
  obtain ⟨x4, rfl, b4, d4⟩ := aG_int g4
  dsimp only at b4 d4
  obtain ⟨m1, m2, m3, m4⟩ := hM
  have l0 : 0 ≤ (-1 * x4.toInt + 0) + 0 := by
    obtain ⟨z, e6, e7⟩ := m3 ([(4, -1)], 0) (List.mem_of_getElem? (i := 0) rfl)
    obtain rfl : (-1 * x4.toInt + 0) = z := Option.some.inj (show some (-1 * x4.toInt + 0) = some z from e6)
    exact e7
  have f0 : fB K n p 116 [fR x0, fR x1, fI x2] σ := by
    obtain ⟨w, e6, e7⟩ := m4 (1859, [0, 1, 2]) (List.mem_of_getElem? (i := 0) rfl)
    obtain rfl : [fR x0, fR x1, fI x2] = w := Option.some.inj (show some [fR x0, fR x1, fI x2] = some w from e6)
    exact (fF_b (r := 1859) (by decide) rfl).mp e7
  clear m1 m2 m3 m4
  obtain ⟨a, b, c, N, t, q, e, w, u1, l1, l2, l3, H, A⟩ := f0
  cases e
  have q0 : fB K n (.inl q) 1 [fR x1] σ := by
    exact ⟨_, rfl, A, (fTk_good H).1, q, rfl⟩
  have q1 : fB K n (.inl q) 67 [fR x0, fI x2, fI x2, fI x3, fI x4] σ := by
    refine ⟨_, _, _, _, _, N, t, (t.1 x2.toInt.toNat).toInt.toNat, (t.1 x2.toInt.toNat).toInt.toNat, rfl, w, u1, by omega, ⟨q, rfl⟩, H, Or.inr ⟨by omega, l2, by omega⟩, ?_, fun h => by omega, by omega⟩
    rw [show x4.toInt.toNat = 0 by omega]
    exact ⟨fTk_le H, rfl, fun j hj => by omega, by omega, by omega, by omega⟩
  exact ⟨.inl q, fun h => (by cases h), ⟨(fun q h => by cases h), fun q h => (by cases h), (fun f h => by cases h), (aAllc ⟨_, rfl, (fF_b (r := 17) (by decide) rfl).mpr q0⟩ (aAllc ⟨_, rfl, (fF_b (r := 1077) (by decide) rfl).mpr q1⟩ (fun f h => by cases h)))⟩, [], List.mem_cons_self, fun f h => (by cases h)⟩
set_option maxRecDepth 8192 in
theorem rw_ruWRm {K : Nat → Nat} {n : Nat} : aGho (fF K n) fa_T K n (fJX K n) ag_ruWRm := by
  refine aGho_of ⟨rfl, rfl⟩ ?_
  intro p σ ρ hH hX hA hM
  have hG := aAG_of hA.1 (fun i e v he hv => (hA.2 i e v he hv).1)
  clear hA
  obtain ⟨v0, v1, v2, v3, v4, v5, v6, rfl, g0, g1, g2, g3, g4, g5, g6⟩ := fA_7 hG
  clear hG
  obtain ⟨x0, rfl, b0, d0⟩ := fG_ref (by decide) g0
  obtain ⟨x1, rfl, b1, d1⟩ := aG_int g1
  dsimp only at b1 d1
  obtain ⟨x2, rfl, b2, d2⟩ := aG_int g2
  dsimp only at b2 d2
  obtain ⟨x3, rfl, b3, d3⟩ := aG_int g3
  dsimp only at b3 d3
  obtain ⟨x4, rfl, b4, d4⟩ := aG_int g4
  dsimp only at b4 d4
  obtain ⟨x5, rfl, b5, d5⟩ := aG_int g5
  dsimp only at b5 d5
  obtain ⟨x6, rfl, b6, d6⟩ := fG_ref (by decide) g6
  obtain ⟨m1, m2, m3, m4⟩ := hM
  obtain ⟨a0, c0, fs0, w0, e1, s0, t0, e4⟩ := m1 (0, 4, 6) (List.mem_of_getElem? (i := 0) rfl)
  obtain rfl : x0 = a0 := Sum.inl.inj (Option.some.inj (Sum.inr.inj (Sum.inr.inj (Option.some.inj (show some (fR x0) = some _ from e1)))))
  obtain rfl : fR x6 = w0 := Option.some.inj (show some (fR x6) = some w0 from e4)
  clear e1 e4
  obtain ⟨a, mc0, ty0, gc0, ic0, e1, sc0, jc0, e4, e5⟩ := m2 (6, ([(2, 1)], 0), 5) (List.mem_of_getElem? (i := 0) rfl)
  obtain rfl : x6 = a := Sum.inl.inj (Option.some.inj (Sum.inr.inj (Sum.inr.inj (Option.some.inj (show some (fR x6) = some _ from e1)))))
  obtain ⟨gc0, rfl⟩ : ∃ g, gc0 = .inl g := by
    rcases gc0 with g | g
    · exact ⟨g, rfl⟩
    · exact absurd (show some (fI x5) = some (.inr (.inl (g ic0))) from e5) (fun h => by cases h)
  have sc0 : σ x6 = .inl (ty0, mc0, .inl gc0) := sc0
  have ec0 : x5 = gc0 ic0 := Sum.inl.inj (Option.some.inj (show some (fI x5) = some _ from e5))
  have kc0 : (ic0 : Int) = (1 * x2.toInt + 0) + 0 := by
    obtain ⟨z, e6, e7⟩ := e4
    obtain rfl : (1 * x2.toInt + 0) = z := Option.some.inj (show some (1 * x2.toInt + 0) = some z from e6)
    exact e7
  clear e1 e4 e5
  obtain rfl : ic0 = x2.toInt.toNat := by omega
  have f0 : fB K n p 67 [fR x0, fI x1, fI x2, fI x3, fI x4] σ := by
    obtain ⟨w, e6, e7⟩ := m4 (1077, [0, 1, 2, 3, 4]) (List.mem_of_getElem? (i := 0) rfl)
    obtain rfl : [fR x0, fI x1, fI x2, fI x3, fI x4] = w := Option.some.inj (show some [fR x0, fI x1, fI x2, fI x3, fI x4] = some w from e6)
    exact (fF_b (r := 1077) (by decide) rfl).mp e7
  clear m1 m2 m3 m4
  obtain ⟨a, hd, nd, ls, len, N, t, h, h0, e, w, u1, N0, ⟨q, hq⟩, H, hn, hs, hl, l0⟩ := f0
  cases e
  subst hq
  obtain rfl := fRo_c w.2.1 s0 t0 sc0
  obtain ⟨n1, n2, n3⟩ := hn.resolve_left (by omega)
  have q0 : fB K n (.inl q) 3 [fI x5] σ := by
    have hm := fTk_mv H (c := x2.toInt.toNat) (by omega) (by omega) n3
    rw [ec0]
    exact ⟨_, rfl, hm⟩
  exact ⟨.inl q, fun _ => rfl, ⟨(fun q h => by cases h), fun q h => (by cases h), (fun f h => by cases h), (aAllc ⟨_, rfl, (fF_b (r := 49) (by decide) rfl).mpr q0⟩ (fun f h => by cases h))⟩, [], List.mem_cons_self, fun f h => (by cases h)⟩
set_option maxRecDepth 8192 in
theorem rw_ruWRc {K : Nat → Nat} {n : Nat} : aGho (fF K n) fa_T K n (fJX K n) ag_ruWRc := by
  refine aGho_of ⟨rfl, rfl⟩ ?_
  intro p σ ρ hH hX hA hM
  have hG := aAG_of hA.1 (fun i e v he hv => (hA.2 i e v he hv).1)
  clear hA
  obtain ⟨v0, v1, v2, v3, v4, v5, v6, v7, rfl, g0, g1, g2, g3, g4, g5, g6, g7⟩ := fA_8 hG
  clear hG
  obtain ⟨x0, rfl, b0, d0⟩ := fG_ref (by decide) g0
  obtain ⟨x1, rfl, b1, d1⟩ := aG_int g1
  dsimp only at b1 d1
  obtain ⟨x2, rfl, b2, d2⟩ := aG_int g2
  dsimp only at b2 d2
  obtain ⟨x3, rfl, b3, d3⟩ := aG_int g3
  dsimp only at b3 d3
  obtain ⟨x4, rfl, b4, d4⟩ := aG_int g4
  dsimp only at b4 d4
  obtain ⟨x5, rfl, b5, d5⟩ := fG_ref (by decide) g5
  obtain ⟨x6, rfl, b6, d6⟩ := aG_int g6
  dsimp only at b6 d6
  obtain ⟨x7, rfl, b7, d7⟩ := aG_int g7
  dsimp only at b7 d7
  obtain ⟨m1, m2, m3, m4⟩ := hM
  obtain ⟨a0, c0, fs0, w0, e1, s0, t0, e4⟩ := m1 (5, 5, 7) (List.mem_of_getElem? (i := 0) rfl)
  obtain rfl : x5 = a0 := Sum.inl.inj (Option.some.inj (Sum.inr.inj (Sum.inr.inj (Option.some.inj (show some (fR x5) = some _ from e1)))))
  obtain rfl : fI x7 = w0 := Option.some.inj (show some (fI x7) = some w0 from e4)
  clear e1 e4
  obtain ⟨a1, c1, fs1, w1, e1, s1, t1, e4⟩ := m1 (0, 1, 6) (List.mem_of_getElem? (i := 1) rfl)
  obtain rfl : x0 = a1 := Sum.inl.inj (Option.some.inj (Sum.inr.inj (Sum.inr.inj (Option.some.inj (show some (fR x0) = some _ from e1)))))
  obtain rfl : fI x6 = w1 := Option.some.inj (show some (fI x6) = some w1 from e4)
  clear e1 e4
  have f0 : fB K n p 1 [fR x5] σ := by
    obtain ⟨w, e6, e7⟩ := m4 (17, [5]) (List.mem_of_getElem? (i := 0) rfl)
    obtain rfl : [fR x5] = w := Option.some.inj (show some [fR x5] = some w from e6)
    exact (fF_b (r := 17) (by decide) rfl).mp e7
  have f1 : fB K n p 67 [fR x0, fI x1, fI x2, fI x3, fI x4] σ := by
    obtain ⟨w, e6, e7⟩ := m4 (1077, [0, 1, 2, 3, 4]) (List.mem_of_getElem? (i := 1) rfl)
    obtain rfl : [fR x0, fI x1, fI x2, fI x3, fI x4] = w := Option.some.inj (show some [fR x0, fI x1, fI x2, fI x3, fI x4] = some w from e6)
    exact (fF_b (r := 1077) (by decide) rfl).mp e7
  clear m1 m2 m3 m4
  obtain ⟨a9, e9, A, hg9, q9, hq9⟩ := f0
  cases e9
  obtain ⟨a, hd, nd, ls, len, N, t, h, h0, e, w, u1, N0, ⟨q, hq⟩, H, hn, hs, hl, l0⟩ := f1
  cases e
  subst hq
  have hb2 : q.2 5 = x7 := by
    obtain ⟨h1, h2, fs, r, g, h3, h4, h5, h6, h7, h8, y2, y3, y4, y5, -⟩ := A
    rw [s0] at h3
    cases h3
    rw [t0] at y5
    exact (Sum.inl.inj (Option.some.inj y5)).symm
  obtain rfl := fFi_i u1 s1 t1
  obtain ⟨n1, n2, n3⟩ := hn.resolve_left (by omega)
  have hb := (fTk_good H).2
  have hle := fTk_le H
  rw [show (fq (.inl q : fP)).2 5 = x7 from hb2] at hb
  have r0 : 0 ≤ (-1 * x7.toInt + 0) + 1299 := by
    omega
  have r1 : 0 ≤ (1 * x7.toInt + 0) + 0 := by
    omega
  have r2 : 0 ≤ (1 * x6.toInt + (-1 * x2.toInt + 0)) + 0 := by
    omega
  exact ⟨.inl q, fun _ => rfl, ⟨(fun q h => by cases h), fun q h => (by cases h), (aAllc ⟨_, rfl, r0⟩ (aAllc ⟨_, rfl, r1⟩ (aAllc ⟨_, rfl, r2⟩ (fun f h => by cases h)))), (fun f h => by cases h)⟩, [], List.mem_cons_self, fun f h => (by cases h)⟩
set_option maxRecDepth 8192 in
theorem rw_ruWU {K : Nat → Nat} {n : Nat} : aGho (fF K n) fa_T K n (fJX K n) ag_ruWU := by
  refine aGho_of ⟨rfl, rfl⟩ ?_
  intro p σ ρ hH hX hA hM
  have hG := aAG_of hA.1 (fun i e v he hv => (hA.2 i e v he hv).1)
  clear hA
  obtain ⟨v0, v1, v2, v3, v4, rfl, g0, g1, g2, g3, g4⟩ := fA_5 hG
  clear hG
  obtain ⟨x0, rfl, b0, d0⟩ := fG_ref (by decide) g0
  obtain ⟨x1, rfl, b1, d1⟩ := aG_int g1
  dsimp only at b1 d1
  obtain ⟨x2, rfl, b2, d2⟩ := aG_int g2
  dsimp only at b2 d2
  obtain ⟨x3, rfl, b3, d3⟩ := aG_int g3
  dsimp only at b3 d3
  obtain ⟨x4, rfl, b4, d4⟩ := aG_int g4
  dsimp only at b4 d4
  obtain ⟨m1, m2, m3, m4⟩ := hM
  have f0 : fB K n p 67 [fR x0, fI x1, fI x2, fI x3, fI x4] σ := by
    obtain ⟨w, e6, e7⟩ := m4 (1077, [0, 1, 2, 3, 4]) (List.mem_of_getElem? (i := 0) rfl)
    obtain rfl : [fR x0, fI x1, fI x2, fI x3, fI x4] = w := Option.some.inj (show some [fR x0, fI x1, fI x2, fI x3, fI x4] = some w from e6)
    exact (fF_b (r := 1077) (by decide) rfl).mp e7
  clear m1 m2 m3 m4
  obtain ⟨a, hd, nd, ls, len, N, t, h, h0, e, w, u1, N0, ⟨q, hq⟩, H, hn, hs, hl, l0⟩ := f0
  cases e
  subst hq
  obtain ⟨n1, n2, n3⟩ := hn.resolve_left (by omega)
  have q0 : fB K n (.inl q) 119 [fR x0, fI x1, fI x2, fI x3, fI x4] σ := by
    exact ⟨_, _, _, _, _, N, t.1, h, h0, rfl, w.1, u1, n1, n2, n3, hs, hl, l0⟩
  exact ⟨.inl q, fun _ => rfl, ⟨(fun q h => by cases h), fun q h => (by cases h), (fun f h => by cases h), (aAllc ⟨_, rfl, (fF_b (r := 1909) (by decide) rfl).mpr q0⟩ (fun f h => by cases h))⟩, [], List.mem_cons_self, fun f h => (by cases h)⟩
set_option maxRecDepth 8192 in
theorem rw_ruSI1 {K : Nat → Nat} {n : Nat} : aGho (fF K n) fa_T K n (fJX K n) ag_ruSI1 := by
  refine aGho_of ⟨rfl, rfl⟩ ?_
  intro p σ ρ hH hX hA hM
  have hG := aAG_of hA.1 (fun i e v he hv => (hA.2 i e v he hv).1)
  clear hA
  obtain ⟨v0, v1, v2, v3, v4, v5, v6, v7, rfl, g0, g1, g2, g3, g4, g5, g6, g7⟩ := fA_8 hG
  clear hG
  obtain ⟨x0, rfl, b0, d0⟩ := fG_ref (by decide) g0
  obtain ⟨x1, rfl, b1, d1⟩ := aG_int g1
  dsimp only at b1 d1
  obtain ⟨x2, rfl, b2, d2⟩ := aG_int g2
  dsimp only at b2 d2
  obtain ⟨x3, rfl, b3, d3⟩ := aG_int g3
  dsimp only at b3 d3
  obtain ⟨x4, rfl, b4, d4⟩ := aG_int g4
  dsimp only at b4 d4
  obtain ⟨x5, rfl, b5, d5⟩ := aG_int g5
  dsimp only at b5 d5
  obtain ⟨x6, rfl, b6, d6⟩ := aG_int g6
  dsimp only at b6 d6
  obtain ⟨x7, rfl, b7, d7⟩ := fG_ref (by decide) g7
  obtain ⟨m1, m2, m3, m4⟩ := hM
  obtain ⟨a0, c0, fs0, w0, e1, s0, t0, e4⟩ := m1 (0, 6, 7) (List.mem_of_getElem? (i := 0) rfl)
  obtain rfl : x0 = a0 := Sum.inl.inj (Option.some.inj (Sum.inr.inj (Sum.inr.inj (Option.some.inj (show some (fR x0) = some _ from e1)))))
  obtain rfl : fR x7 = w0 := Option.some.inj (show some (fR x7) = some w0 from e4)
  clear e1 e4
  obtain ⟨a, mc0, ty0, gc0, ic0, e1, sc0, jc0, e4, e5⟩ := m2 (7, ([(2, 1)], 0), 6) (List.mem_of_getElem? (i := 0) rfl)
  obtain rfl : x7 = a := Sum.inl.inj (Option.some.inj (Sum.inr.inj (Sum.inr.inj (Option.some.inj (show some (fR x7) = some _ from e1)))))
  obtain ⟨gc0, rfl⟩ : ∃ g, gc0 = .inl g := by
    rcases gc0 with g | g
    · exact ⟨g, rfl⟩
    · exact absurd (show some (fI x6) = some (.inr (.inl (g ic0))) from e5) (fun h => by cases h)
  have sc0 : σ x7 = .inl (ty0, mc0, .inl gc0) := sc0
  have ec0 : x6 = gc0 ic0 := Sum.inl.inj (Option.some.inj (show some (fI x6) = some _ from e5))
  have kc0 : (ic0 : Int) = (1 * x2.toInt + 0) + 0 := by
    obtain ⟨z, e6, e7⟩ := e4
    obtain rfl : (1 * x2.toInt + 0) = z := Option.some.inj (show some (1 * x2.toInt + 0) = some z from e6)
    exact e7
  clear e1 e4 e5
  obtain rfl : ic0 = x2.toInt.toNat := by omega
  have l0 : 0 ≤ (1 * x5.toInt + 0) + -1 := by
    obtain ⟨z, e6, e7⟩ := m3 ([(5, 1)], -1) (List.mem_of_getElem? (i := 0) rfl)
    obtain rfl : (1 * x5.toInt + 0) = z := Option.some.inj (show some (1 * x5.toInt + 0) = some z from e6)
    exact e7
  have f0 : fB K n p 67 [fR x0, fI x1, fI x2, fI x3, fI x4] σ := by
    obtain ⟨w, e6, e7⟩ := m4 (1077, [0, 1, 2, 3, 4]) (List.mem_of_getElem? (i := 0) rfl)
    obtain rfl : [fR x0, fI x1, fI x2, fI x3, fI x4] = w := Option.some.inj (show some [fR x0, fI x1, fI x2, fI x3, fI x4] = some w from e6)
    exact (fF_b (r := 1077) (by decide) rfl).mp e7
  have f1 : fB K n p 120 [fR x0, fI x2, fI x5] σ := by
    obtain ⟨w, e6, e7⟩ := m4 (1923, [0, 2, 5]) (List.mem_of_getElem? (i := 1) rfl)
    obtain rfl : [fR x0, fI x2, fI x5] = w := Option.some.inj (show some [fR x0, fI x2, fI x5] = some w from e6)
    exact (fF_b (r := 1923) (by decide) rfl).mp e7
  clear m1 m2 m3 m4
  obtain ⟨a, hd, nd, ls, len, N, t, h, h0, e, w, u1, N0, ⟨q, hq⟩, H, hn, hs, hl, l0⟩ := f0
  cases e
  subst hq
  obtain ⟨n1, n2, n3⟩ := hn.resolve_left (by omega)
  obtain ⟨a8, nd8, x8, e8, k8⟩ := f1
  cases e8
  obtain ⟨pa8, fi8, w8, y8, z8⟩ := k8.resolve_left (by omega)
  obtain rfl := fRo_u w8 w.1
  obtain rfl := fRo_u y8 w.2.2.1
  obtain rfl := fRo_c w.2.2.2.1 s0 t0 sc0
  obtain ⟨L, L1, L2, L3⟩ := fTk_ch H (k := h) (fTk_le H)
  rw [show (t.1 x2.toInt.toNat).toInt.toNat = h by omega] at z8
  rw [z8] at L2
  have q0 : fB K n (.inl q) 117 [fR x0, fI x6, fI x2] σ := by
    cases L with
    | nil => have h9 : x2.toInt = 0 := L2; exact absurd h9 (by omega)
    | cons c r =>
      have hc : x2.toInt = (c : Int) := L2.1
      refine ⟨_, _, _, N, t.1, t.2.2.1, t.2.2.2.1, r, rfl, w.1, w.2.2.1, w.2.2.2.1, u1, ?_, fun d hd => ?_⟩
      · rw [ec0, show x2.toInt.toNat = c by omega]
        exact L2.2
      · obtain ⟨y1, y2, y3⟩ := L3 d (List.mem_cons_of_mem _ hd)
        exact ⟨y1, by omega, fI0 (by omega)⟩
  exact ⟨.inl q, fun _ => rfl, ⟨(fun q h => by cases h), fun q h => (by cases h), (fun f h => by cases h), (aAllc ⟨_, rfl, (fF_b (r := 1875) (by decide) rfl).mpr q0⟩ (fun f h => by cases h))⟩, [], List.mem_cons_self, fun f h => (by cases h)⟩
set_option maxRecDepth 8192 in
theorem rw_ruSI0 {K : Nat → Nat} {n : Nat} : aGho (fF K n) fa_T K n (fJX K n) ag_ruSI0 := by
  refine aGho_of ⟨rfl, rfl⟩ ?_
  intro p σ ρ hH hX hA hM
  have hG := aAG_of hA.1 (fun i e v he hv => (hA.2 i e v he hv).1)
  clear hA
  obtain ⟨v0, v1, v2, v3, v4, v5, rfl, g0, g1, g2, g3, g4, g5⟩ := fA_6 hG
  clear hG
  obtain ⟨x0, rfl, b0, d0⟩ := fG_ref (by decide) g0
  obtain ⟨x1, rfl, b1, d1⟩ := aG_int g1
  dsimp only at b1 d1
  obtain ⟨x2, rfl, b2, d2⟩ := aG_int g2
  dsimp only at b2 d2
  obtain ⟨x3, rfl, b3, d3⟩ := aG_int g3
  dsimp only at b3 d3
  obtain ⟨x4, rfl, b4, d4⟩ := aG_int g4
  dsimp only at b4 d4
  obtain ⟨x5, rfl, b5, d5⟩ := aG_int g5
  dsimp only at b5 d5
  obtain ⟨m1, m2, m3, m4⟩ := hM
  have l0 : 0 ≤ (-1 * x5.toInt + 0) + 0 := by
    obtain ⟨z, e6, e7⟩ := m3 ([(5, -1)], 0) (List.mem_of_getElem? (i := 0) rfl)
    obtain rfl : (-1 * x5.toInt + 0) = z := Option.some.inj (show some (-1 * x5.toInt + 0) = some z from e6)
    exact e7
  have f0 : fB K n p 67 [fR x0, fI x1, fI x2, fI x3, fI x4] σ := by
    obtain ⟨w, e6, e7⟩ := m4 (1077, [0, 1, 2, 3, 4]) (List.mem_of_getElem? (i := 0) rfl)
    obtain rfl : [fR x0, fI x1, fI x2, fI x3, fI x4] = w := Option.some.inj (show some [fR x0, fI x1, fI x2, fI x3, fI x4] = some w from e6)
    exact (fF_b (r := 1077) (by decide) rfl).mp e7
  clear m1 m2 m3 m4
  obtain ⟨a, hd, nd, ls, len, N, t, h, h0, e, w, u1, N0, ⟨q, hq⟩, H, hn, hs, hl, l0⟩ := f0
  cases e
  subst hq
  have q0 : fB K n (.inl q) 117 [fR x0, fI x5, fI x2] σ := by
    exact ⟨_, _, _, N, t.1, t.2.2.1, t.2.2.2.1, [], rfl, w.1, w.2.2.1, w.2.2.2.1, u1, (by show x5.toInt = 0; omega), fun d hd => by cases hd⟩
  exact ⟨.inl q, fun _ => rfl, ⟨(fun q h => by cases h), fun q h => (by cases h), (fun f h => by cases h), (aAllc ⟨_, rfl, (fF_b (r := 1875) (by decide) rfl).mpr q0⟩ (fun f h => by cases h))⟩, [], List.mem_cons_self, fun f h => (by cases h)⟩
set_option maxRecDepth 8192 in
theorem rw_ruSI2 {K : Nat → Nat} {n : Nat} : aGho (fF K n) fa_T K n (fJX K n) ag_ruSI2 := by
  refine aGho_of ⟨rfl, rfl⟩ ?_
  intro p σ ρ hH hX hA hM
  have hG := aAG_of hA.1 (fun i e v he hv => (hA.2 i e v he hv).1)
  clear hA
  obtain ⟨v0, v1, v2, v3, v4, rfl, g0, g1, g2, g3, g4⟩ := fA_5 hG
  clear hG
  obtain ⟨x0, rfl, b0, d0⟩ := fG_ref (by decide) g0
  obtain ⟨x1, rfl, b1, d1⟩ := aG_int g1
  dsimp only at b1 d1
  obtain ⟨x2, rfl, b2, d2⟩ := aG_int g2
  dsimp only at b2 d2
  obtain ⟨x3, rfl, b3, d3⟩ := aG_int g3
  dsimp only at b3 d3
  obtain ⟨x4, rfl, b4, d4⟩ := fG_ref (by decide) g4
  obtain ⟨m1, m2, m3, m4⟩ := hM
  obtain ⟨a0, c0, fs0, w0, e1, s0, t0, e4⟩ := m1 (0, 6, 4) (List.mem_of_getElem? (i := 0) rfl)
  obtain rfl : x0 = a0 := Sum.inl.inj (Option.some.inj (Sum.inr.inj (Sum.inr.inj (Option.some.inj (show some (fR x0) = some _ from e1)))))
  obtain rfl : fR x4 = w0 := Option.some.inj (show some (fR x4) = some w0 from e4)
  clear e1 e4
  obtain ⟨a, mc0, ty0, gc0, ic0, e1, sc0, jc0, e4, e5⟩ := m2 (4, ([(2, 1)], 0), 3) (List.mem_of_getElem? (i := 0) rfl)
  obtain rfl : x4 = a := Sum.inl.inj (Option.some.inj (Sum.inr.inj (Sum.inr.inj (Option.some.inj (show some (fR x4) = some _ from e1)))))
  obtain ⟨gc0, rfl⟩ : ∃ g, gc0 = .inl g := by
    rcases gc0 with g | g
    · exact ⟨g, rfl⟩
    · exact absurd (show some (fI x3) = some (.inr (.inl (g ic0))) from e5) (fun h => by cases h)
  have sc0 : σ x4 = .inl (ty0, mc0, .inl gc0) := sc0
  have ec0 : x3 = gc0 ic0 := Sum.inl.inj (Option.some.inj (show some (fI x3) = some _ from e5))
  have kc0 : (ic0 : Int) = (1 * x2.toInt + 0) + 0 := by
    obtain ⟨z, e6, e7⟩ := e4
    obtain rfl : (1 * x2.toInt + 0) = z := Option.some.inj (show some (1 * x2.toInt + 0) = some z from e6)
    exact e7
  clear e1 e4 e5
  obtain rfl : ic0 = x2.toInt.toNat := by omega
  have f0 : fB K n p 117 [fR x0, fI x2, fI x1] σ := by
    obtain ⟨w, e6, e7⟩ := m4 (1875, [0, 2, 1]) (List.mem_of_getElem? (i := 0) rfl)
    obtain rfl : [fR x0, fI x2, fI x1] = w := Option.some.inj (show some [fR x0, fI x2, fI x1] = some w from e6)
    exact (fF_b (r := 1875) (by decide) rfl).mp e7
  clear m1 m2 m3 m4
  obtain ⟨a7, o7, nd7, N7, pa7, fi7, af7, M7, e7, w7, y7, z7, u7, c7, m7⟩ := f0
  cases e7
  obtain rfl := fRo_c z7 s0 t0 sc0
  have q0 : fB K n (p) 117 [fR x0, fI x3, fI x1] σ := by
    cases M7 with
    | nil => have h9 : x2.toInt = 0 := c7; exact absurd h9 (by omega)
    | cons c r =>
      have hc : x2.toInt = (c : Int) := c7.1
      refine ⟨_, _, _, N7, pa7, fi7, _, r, rfl, w7, y7, z7, u7, ?_, fun d hd => m7 d (List.mem_cons_of_mem _ hd)⟩
      rw [ec0, show x2.toInt.toNat = c by omega]
      exact c7.2
  exact ⟨p, fun _ => rfl, ⟨(fun q h => by cases h), fun q h => (by cases h), (fun f h => by cases h), (aAllc ⟨_, rfl, (fF_b (r := 1875) (by decide) rfl).mpr q0⟩ (fun f h => by cases h))⟩, [], List.mem_cons_self, fun f h => (by cases h)⟩
set_option maxRecDepth 8192 in
theorem rw_ruWX {K : Nat → Nat} {n : Nat} : aGho (fF K n) fa_T K n (fJX K n) ag_ruWX := by
  refine aGho_of ⟨rfl, rfl⟩ ?_
  intro p σ ρ hH hX hA hM
  have hG := aAG_of hA.1 (fun i e v he hv => (hA.2 i e v he hv).1)
  clear hA
  obtain ⟨v0, v1, v2, v3, v4, v5, v6, rfl, g0, g1, g2, g3, g4, g5, g6⟩ := fA_7 hG
  clear hG
  obtain ⟨x0, rfl, b0, d0⟩ := fG_ref (by decide) g0
  obtain ⟨x1, rfl, b1, d1⟩ := aG_int g1
  dsimp only at b1 d1
  obtain ⟨x2, rfl, b2, d2⟩ := aG_int g2
  dsimp only at b2 d2
  obtain ⟨x3, rfl, b3, d3⟩ := aG_int g3
  dsimp only at b3 d3
  obtain ⟨x4, rfl, b4, d4⟩ := aG_int g4
  dsimp only at b4 d4
  obtain ⟨x5, rfl, b5, d5⟩ := fG_ref (by decide) g5
  obtain ⟨x6, rfl, b6, d6⟩ := aG_int g6
  dsimp only at b6 d6
  obtain ⟨m1, m2, m3, m4⟩ := hM
  have f0 : fB K n p 1 [fR x5] σ := by
    obtain ⟨w, e6, e7⟩ := m4 (17, [5]) (List.mem_of_getElem? (i := 0) rfl)
    obtain rfl : [fR x5] = w := Option.some.inj (show some [fR x5] = some w from e6)
    exact (fF_b (r := 17) (by decide) rfl).mp e7
  have f1 : fB K n p 67 [fR x0, fI x1, fI x2, fI x3, fI x4] σ := by
    obtain ⟨w, e6, e7⟩ := m4 (1077, [0, 1, 2, 3, 4]) (List.mem_of_getElem? (i := 1) rfl)
    obtain rfl : [fR x0, fI x1, fI x2, fI x3, fI x4] = w := Option.some.inj (show some [fR x0, fI x1, fI x2, fI x3, fI x4] = some w from e6)
    exact (fF_b (r := 1077) (by decide) rfl).mp e7
  have f2 : fB K n p 117 [fR x0, fI x6, fI x2] σ := by
    obtain ⟨w, e6, e7⟩ := m4 (1875, [0, 6, 2]) (List.mem_of_getElem? (i := 2) rfl)
    obtain rfl : [fR x0, fI x6, fI x2] = w := Option.some.inj (show some [fR x0, fI x6, fI x2] = some w from e6)
    exact (fF_b (r := 1875) (by decide) rfl).mp e7
  clear m1 m2 m3 m4
  obtain ⟨a9, e9, A, hg9, q9, hq9⟩ := f0
  cases e9
  obtain ⟨a, hd, nd, ls, len, N, t, h, h0, e, w, u1, N0, ⟨q, hq⟩, H, hn, hs, hl, l0⟩ := f1
  cases e
  subst hq
  obtain ⟨n1, n2, n3⟩ := hn.resolve_left (by omega)
  obtain ⟨a7, o7, nd7, N7, pa7, fi7, af7, M7, e7, w7, y7, z7, u7, c7, m7⟩ := f2
  cases e7
  obtain ⟨i1, i2, i3⟩ : 1 ≤ x6.toInt.toNat ∧ (x6.toInt.toNat : Int) ≤ N7.toInt ∧ pa7 x6.toInt.toNat = pa7 x2.toInt.toNat := by
    cases M7 with
    | nil => have h9 : x6.toInt = 0 := c7; exact absurd h9 (by omega)
    | cons c r =>
      have hc : x6.toInt = (c : Int) := c7.1
      rw [show x6.toInt.toNat = c by omega]
      exact m7 c List.mem_cons_self
  obtain rfl := fRo_u w7 w.1
  have eN : N = N7 := by obtain ⟨_, _, fs9, hs9, ht9⟩ := u1; exact fFi_i u7 hs9 ht9
  subst eN
  have q0 : fB K n (.inl q) 116 [fR x0, fR x5, fI x6] σ := by
    refine ⟨_, _, _, _, t, q, rfl, w, u1, by omega, by omega, by rw [i3]; omega, ?_, A⟩
    rw [i3, n3]
    exact H
  exact ⟨.inl q, fun _ => rfl, ⟨(fun q h => by cases h), fun q h => (by cases h), (fun f h => by cases h), (aAllc ⟨_, rfl, (fF_b (r := 1859) (by decide) rfl).mpr q0⟩ (fun f h => by cases h))⟩, [], List.mem_cons_self, fun f h => (by cases h)⟩
set_option maxRecDepth 8192 in
theorem rw_ruWB {K : Nat → Nat} {n : Nat} : aGho (fF K n) fa_T K n (fJX K n) ag_ruWB := by
  refine aGho_of ⟨rfl, rfl⟩ ?_
  intro p σ ρ hH hX hA hM
  have hG := aAG_of hA.1 (fun i e v he hv => (hA.2 i e v he hv).1)
  clear hA
  obtain ⟨v0, v1, v2, v3, v4, v5, v6, rfl, g0, g1, g2, g3, g4, g5, g6⟩ := fA_7 hG
  clear hG
  obtain ⟨x0, rfl, b0, d0⟩ := fG_ref (by decide) g0
  obtain ⟨x1, rfl, b1, d1⟩ := aG_int g1
  dsimp only at b1 d1
  obtain ⟨x2, rfl, b2, d2⟩ := aG_int g2
  dsimp only at b2 d2
  obtain ⟨x3, rfl, b3, d3⟩ := aG_int g3
  dsimp only at b3 d3
  obtain ⟨x4, rfl, b4, d4⟩ := aG_int g4
  dsimp only at b4 d4
  obtain ⟨x5, rfl, b5, d5⟩ := fG_ref (by decide) g5
  obtain ⟨x6, rfl, b6, d6⟩ := aG_int g6
  dsimp only at b6 d6
  obtain ⟨m1, m2, m3, m4⟩ := hM
  have f0 : fB K n p 116 [fR x0, fR x5, fI x6] σ := by
    obtain ⟨w, e6, e7⟩ := m4 (1859, [0, 5, 6]) (List.mem_of_getElem? (i := 0) rfl)
    obtain rfl : [fR x0, fR x5, fI x6] = w := Option.some.inj (show some [fR x0, fR x5, fI x6] = some w from e6)
    exact (fF_b (r := 1859) (by decide) rfl).mp e7
  have f1 : fB K n p 117 [fR x0, fI x6, fI x2] σ := by
    obtain ⟨w, e6, e7⟩ := m4 (1875, [0, 6, 2]) (List.mem_of_getElem? (i := 1) rfl)
    obtain rfl : [fR x0, fI x6, fI x2] = w := Option.some.inj (show some [fR x0, fI x6, fI x2] = some w from e6)
    exact (fF_b (r := 1875) (by decide) rfl).mp e7
  have f2 : fB K n p 119 [fR x0, fI x1, fI x2, fI x3, fI x4] σ := by
    obtain ⟨w, e6, e7⟩ := m4 (1909, [0, 1, 2, 3, 4]) (List.mem_of_getElem? (i := 2) rfl)
    obtain rfl : [fR x0, fI x1, fI x2, fI x3, fI x4] = w := Option.some.inj (show some [fR x0, fI x1, fI x2, fI x3, fI x4] = some w from e6)
    exact (fF_b (r := 1909) (by decide) rfl).mp e7
  clear m1 m2 m3 m4
  obtain ⟨a, b, c, N, t, q, e, w, u1, l1, l2, l3, H, A⟩ := f0
  cases e
  obtain ⟨a7, o7, nd7, N7, pa7, fi7, af7, M7, e7, w7, y7, z7, u7, c7, m7⟩ := f1
  cases e7
  obtain ⟨i1, i2, i3⟩ : 1 ≤ x6.toInt.toNat ∧ (x6.toInt.toNat : Int) ≤ N7.toInt ∧ pa7 x6.toInt.toNat = pa7 x2.toInt.toNat := by
    cases M7 with
    | nil => have h9 : x6.toInt = 0 := c7; exact absurd h9 (by omega)
    | cons c r =>
      have hc : x6.toInt = (c : Int) := c7.1
      rw [show x6.toInt.toNat = c by omega]
      exact m7 c List.mem_cons_self
  obtain ⟨a8, hd8, nd8, ls8, len8, N8, pa8, h8, h80, e8, w8, u8, n8a, n8b, n8c, s8, l8a, l8b⟩ := f2
  cases e8
  obtain rfl := fRo_u w7 w.1
  obtain rfl := fRo_u w8 w.1
  have eN : N = N8 := by obtain ⟨_, _, fs9, hs9, ht9⟩ := u1; exact fFi_i u8 hs9 ht9
  subst eN
  have q0 : fB K n (.inl q) 1 [fR x5] σ := by
    exact ⟨_, rfl, A, (fTk_good H).1, q, rfl⟩
  have q1 : fB K n (.inl q) 67 [fR x0, fI x1, fI x2, fI x3, fI x4] σ := by
    refine ⟨_, _, _, _, _, _, t, h8, h80, rfl, w, u1, by omega, ⟨q, rfl⟩, ?_, Or.inr ⟨n8a, n8b, n8c⟩, s8, l8a, l8b⟩
    rw [i3, n8c] at H
    exact H
  exact ⟨.inl q, fun h => (by cases h), ⟨(fun q h => by cases h), fun q h => (by cases h), (fun f h => by cases h), (aAllc ⟨_, rfl, (fF_b (r := 17) (by decide) rfl).mpr q0⟩ (aAllc ⟨_, rfl, (fF_b (r := 1077) (by decide) rfl).mpr q1⟩ (fun f h => by cases h)))⟩, [], List.mem_cons_self, fun f h => (by cases h)⟩
set_option maxRecDepth 8192 in
theorem rw_ruWS {K : Nat → Nat} {n : Nat} : aGho (fF K n) fa_T K n (fJX K n) ag_ruWS := by
  refine aGho_of ⟨rfl, rfl⟩ ?_
  intro p σ ρ hH hX hA hM
  have hG := aAG_of hA.1 (fun i e v he hv => (hA.2 i e v he hv).1)
  clear hA
  obtain ⟨v0, v1, v2, v3, v4, v5, v6, v7, v8, rfl, g0, g1, g2, g3, g4, g5, g6, g7, g8⟩ := fA_9 hG
  clear hG
  obtain ⟨x0, rfl, b0, d0⟩ := fG_ref (by decide) g0
  obtain ⟨x1, rfl, b1, d1⟩ := aG_int g1
  dsimp only at b1 d1
  obtain ⟨x2, rfl, b2, d2⟩ := aG_int g2
  dsimp only at b2 d2
  obtain ⟨x3, rfl, b3, d3⟩ := aG_int g3
  dsimp only at b3 d3
  obtain ⟨x4, rfl, b4, d4⟩ := aG_int g4
  dsimp only at b4 d4
  obtain ⟨x5, rfl, b5, d5⟩ := aG_int g5
  dsimp only at b5 d5
  obtain ⟨x6, rfl⟩ := aG_lng g6
  obtain ⟨x7, rfl, b7, d7⟩ := fG_ref (by decide) g7
  obtain ⟨x8, rfl, b8, d8⟩ := fG_ref (by decide) g8
  obtain ⟨m1, m2, m3, m4⟩ := hM
  obtain ⟨a0, c0, fs0, w0, e1, s0, t0, e4⟩ := m1 (0, 7, 7) (List.mem_of_getElem? (i := 0) rfl)
  obtain rfl : x0 = a0 := Sum.inl.inj (Option.some.inj (Sum.inr.inj (Sum.inr.inj (Option.some.inj (show some (fR x0) = some _ from e1)))))
  obtain rfl : fR x7 = w0 := Option.some.inj (show some (fR x7) = some w0 from e4)
  clear e1 e4
  obtain ⟨a1, c1, fs1, w1, e1, s1, t1, e4⟩ := m1 (0, 4, 8) (List.mem_of_getElem? (i := 1) rfl)
  obtain rfl : x0 = a1 := Sum.inl.inj (Option.some.inj (Sum.inr.inj (Sum.inr.inj (Option.some.inj (show some (fR x0) = some _ from e1)))))
  obtain rfl : fR x8 = w1 := Option.some.inj (show some (fR x8) = some w1 from e4)
  clear e1 e4
  obtain ⟨a, mc0, ty0, gc0, ic0, e1, sc0, jc0, e4, e5⟩ := m2 (8, ([(2, 1)], 0), 5) (List.mem_of_getElem? (i := 0) rfl)
  obtain rfl : x8 = a := Sum.inl.inj (Option.some.inj (Sum.inr.inj (Sum.inr.inj (Option.some.inj (show some (fR x8) = some _ from e1)))))
  obtain ⟨gc0, rfl⟩ : ∃ g, gc0 = .inl g := by
    rcases gc0 with g | g
    · exact ⟨g, rfl⟩
    · exact absurd (show some (fI x5) = some (.inr (.inl (g ic0))) from e5) (fun h => by cases h)
  have sc0 : σ x8 = .inl (ty0, mc0, .inl gc0) := sc0
  have ec0 : x5 = gc0 ic0 := Sum.inl.inj (Option.some.inj (show some (fI x5) = some _ from e5))
  have kc0 : (ic0 : Int) = (1 * x2.toInt + 0) + 0 := by
    obtain ⟨z, e6, e7⟩ := e4
    obtain rfl : (1 * x2.toInt + 0) = z := Option.some.inj (show some (1 * x2.toInt + 0) = some z from e6)
    exact e7
  clear e1 e4 e5
  obtain rfl : ic0 = x2.toInt.toNat := by omega
  have f0 : fB K n p 4 [fI x5, (.inr (.inl x6) : jv)] σ := by
    obtain ⟨w, e6, e7⟩ := m4 (66, [5, 6]) (List.mem_of_getElem? (i := 0) rfl)
    obtain rfl : [fI x5, (.inr (.inl x6) : jv)] = w := Option.some.inj (show some [fI x5, (.inr (.inl x6) : jv)] = some w from e6)
    exact (fF_b (r := 66) (by decide) rfl).mp e7
  have f1 : fB K n p 3 [fI x5] σ := by
    obtain ⟨w, e6, e7⟩ := m4 (49, [5]) (List.mem_of_getElem? (i := 1) rfl)
    obtain rfl : [fI x5] = w := Option.some.inj (show some [fI x5] = some w from e6)
    exact (fF_b (r := 49) (by decide) rfl).mp e7
  have f2 : fB K n p 67 [fR x0, fI x1, fI x2, fI x3, fI x4] σ := by
    obtain ⟨w, e6, e7⟩ := m4 (1077, [0, 1, 2, 3, 4]) (List.mem_of_getElem? (i := 2) rfl)
    obtain rfl : [fR x0, fI x1, fI x2, fI x3, fI x4] = w := Option.some.inj (show some [fR x0, fI x1, fI x2, fI x3, fI x4] = some w from e6)
    exact (fF_b (r := 1077) (by decide) rfl).mp e7
  clear m1 m2 m3 m4
  obtain ⟨mu, u, eu, hu1, hu2, -⟩ := f0
  cases eu
  obtain ⟨a, hd, nd, ls, len, N, t, h, h0, e, w, u1, N0, ⟨q, hq⟩, H, hn, hs, hl, l0⟩ := f2
  cases e
  subst hq
  obtain ⟨n1, n2, n3⟩ := hn.resolve_left (by omega)
  obtain rfl := fRo_c w.2.1 s1 t1 sc0
  have q0 : fB K n (fSh (.inl q) [fI x5]) 68 [fR x0, fI x1, fI x2, fI x4] (jup σ x7 (jstl (σ x7) x2.toNatClampNeg x6)) := by
    have hg : ¬ K x7 = 25 := by rw [d7]; decide
    have hk : ∀ k, ¬ k = 42 → ¬ K x7 = k := fun k h e => h (by rw [← e]; exact d7)
    obtain ⟨s1, s2, s3, s4, s5, s6⟩ := hs
    refine ⟨_, _, _, _, N, (t.1, t.2.1, t.2.2.1, t.2.2.2.1, vp_updL t.2.2.2.2 x2.toInt.toNat x6), h0, rfl, ⟨fRo_ne w.1 hg (hk _ (by decide)), fRo_ne w.2.1 hg (hk _ (by decide)), fRo_ne w.2.2.1 hg (hk _ (by decide)), fRo_ne w.2.2.2.1 hg (hk _ (by decide)), fRl_st w.2.2.2.2 s0 t0⟩, fFi_ne u1 hg, N0, ⟨_, rfl⟩, ?_, by omega, ⟨by omega, ?_, fun j hj => ?_, s4, s5, s6⟩, l0⟩
    · have hd := fTk_dn H (c := x2.toInt.toNat) (by omega) (by omega) n3 (u := x6) (by rw [← ec0]; exact ⟨hu1, hu2⟩)
      rw [← ec0] at hd
      exact hd
    · rw [fUp_s]
      dsimp only
      rw [show (t.1 x2.toInt.toNat).toInt.toNat = h by omega]
      exact s2
    · cases j with
      | zero => rw [fUp_z]; omega
      | succ j =>
        rw [fUp_s]
        dsimp only
        rw [show (t.1 x2.toInt.toNat).toInt.toNat = h by omega]
        exact s3 j (by omega)
  exact ⟨.inl q, fun _ => rfl, ⟨(fun q h => by cases h), fun q h => (by cases h), (fun f h => by cases h), (aAllc ⟨_, rfl, fF_pl (r := 1092) (by decide) (by decide) (Nat.le_of_ble_eq_true rfl) q0⟩ (fun f h => by cases h))⟩, [], List.mem_cons_self, fun f h => (by cases h)⟩
set_option maxRecDepth 8192 in
theorem rw_ruWF {K : Nat → Nat} {n : Nat} : aGho (fF K n) fa_T K n (fJX K n) ag_ruWF := by
  refine aGho_of ⟨rfl, rfl⟩ ?_
  intro p σ ρ hH hX hA hM
  have hG := aAG_of hA.1 (fun i e v he hv => (hA.2 i e v he hv).1)
  clear hA
  obtain ⟨v0, v1, v2, v3, v4, rfl, g0, g1, g2, g3, g4⟩ := fA_5 hG
  clear hG
  obtain ⟨x0, rfl, b0, d0⟩ := fG_ref (by decide) g0
  obtain ⟨x1, rfl, b1, d1⟩ := aG_int g1
  dsimp only at b1 d1
  obtain ⟨x2, rfl, b2, d2⟩ := aG_int g2
  dsimp only at b2 d2
  obtain ⟨x3, rfl, b3, d3⟩ := aG_int g3
  dsimp only at b3 d3
  obtain ⟨x4, rfl, b4, d4⟩ := fG_ref (by decide) g4
  obtain ⟨m1, m2, m3, m4⟩ := hM
  have f0 : fB K n p 1 [fR x4] σ := by
    obtain ⟨w, e6, e7⟩ := m4 (17, [4]) (List.mem_of_getElem? (i := 0) rfl)
    obtain rfl : [fR x4] = w := Option.some.inj (show some [fR x4] = some w from e6)
    exact (fF_b (r := 17) (by decide) rfl).mp e7
  have f1 : fB K n p 68 [fR x0, fI x1, fI x2, fI x3] σ := by
    obtain ⟨w, e6, e7⟩ := m4 (1092, [0, 1, 2, 3]) (List.mem_of_getElem? (i := 1) rfl)
    obtain rfl : [fR x0, fI x1, fI x2, fI x3] = w := Option.some.inj (show some [fR x0, fI x1, fI x2, fI x3] = some w from e6)
    exact (fF_b (r := 1092) (by decide) rfl).mp e7
  clear m1 m2 m3 m4
  have q0 : fB K n (p) 1 [fR x4] σ := by
    exact f0
  have q1 : fB K n (p) 68 [fR x0, fI x1, fI x2, fI x3] σ := by
    exact f1
  exact ⟨p, fun h => (by cases h), ⟨(fun q h => by cases h), fun q h => (by cases h), (fun f h => by cases h), (aAllc ⟨_, rfl, (fF_b (r := 17) (by decide) rfl).mpr q0⟩ (aAllc ⟨_, rfl, (fF_b (r := 1092) (by decide) rfl).mpr q1⟩ (fun f h => by cases h)))⟩, [], List.mem_cons_self, fun f h => (by cases h)⟩
set_option maxRecDepth 8192 in
theorem rw_ruWN {K : Nat → Nat} {n : Nat} : aGho (fF K n) fa_T K n (fJX K n) ag_ruWN := by
  refine aGho_of ⟨rfl, rfl⟩ ?_
  intro p σ ρ hH hX hA hM
  have hG := aAG_of hA.1 (fun i e v he hv => (hA.2 i e v he hv).1)
  clear hA
  obtain ⟨v0, v1, v2, v3, v4, v5, v6, rfl, g0, g1, g2, g3, g4, g5, g6⟩ := fA_7 hG
  clear hG
  obtain ⟨x0, rfl, b0, d0⟩ := fG_ref (by decide) g0
  obtain ⟨x1, rfl, b1, d1⟩ := aG_int g1
  dsimp only at b1 d1
  obtain ⟨x2, rfl, b2, d2⟩ := aG_int g2
  dsimp only at b2 d2
  obtain ⟨x3, rfl, b3, d3⟩ := aG_int g3
  dsimp only at b3 d3
  obtain ⟨x4, rfl, b4, d4⟩ := aG_int g4
  dsimp only at b4 d4
  obtain ⟨x5, rfl, b5, d5⟩ := aG_int g5
  dsimp only at b5 d5
  obtain ⟨x6, rfl, b6, d6⟩ := fG_ref (by decide) g6
  obtain ⟨m1, m2, m3, m4⟩ := hM
  obtain ⟨a0, c0, fs0, w0, e1, s0, t0, e4⟩ := m1 (0, 5, 6) (List.mem_of_getElem? (i := 0) rfl)
  obtain rfl : x0 = a0 := Sum.inl.inj (Option.some.inj (Sum.inr.inj (Sum.inr.inj (Option.some.inj (show some (fR x0) = some _ from e1)))))
  obtain rfl : fR x6 = w0 := Option.some.inj (show some (fR x6) = some w0 from e4)
  clear e1 e4
  obtain ⟨a, mc0, ty0, gc0, ic0, e1, sc0, jc0, e4, e5⟩ := m2 (6, ([(2, 1)], 0), 4) (List.mem_of_getElem? (i := 0) rfl)
  obtain rfl : x6 = a := Sum.inl.inj (Option.some.inj (Sum.inr.inj (Sum.inr.inj (Option.some.inj (show some (fR x6) = some _ from e1)))))
  obtain ⟨gc0, rfl⟩ : ∃ g, gc0 = .inl g := by
    rcases gc0 with g | g
    · exact ⟨g, rfl⟩
    · exact absurd (show some (fI x4) = some (.inr (.inl (g ic0))) from e5) (fun h => by cases h)
  have sc0 : σ x6 = .inl (ty0, mc0, .inl gc0) := sc0
  have ec0 : x4 = gc0 ic0 := Sum.inl.inj (Option.some.inj (show some (fI x4) = some _ from e5))
  have kc0 : (ic0 : Int) = (1 * x2.toInt + 0) + 0 := by
    obtain ⟨z, e6, e7⟩ := e4
    obtain rfl : (1 * x2.toInt + 0) = z := Option.some.inj (show some (1 * x2.toInt + 0) = some z from e6)
    exact e7
  clear e1 e4 e5
  obtain rfl : ic0 = x2.toInt.toNat := by omega
  have l0 : 0 ≤ (1 * x5.toInt + (-1 * x3.toInt + 0)) + -1 := by
    obtain ⟨z, e6, e7⟩ := m3 ([(5, 1), (3, -1)], -1) (List.mem_of_getElem? (i := 0) rfl)
    obtain rfl : (1 * x5.toInt + (-1 * x3.toInt + 0)) = z := Option.some.inj (show some (1 * x5.toInt + (-1 * x3.toInt + 0)) = some z from e6)
    exact e7
  have l1 : 0 ≤ (-1 * x5.toInt + (1 * x3.toInt + 0)) + 1 := by
    obtain ⟨z, e6, e7⟩ := m3 ([(5, -1), (3, 1)], 1) (List.mem_of_getElem? (i := 1) rfl)
    obtain rfl : (-1 * x5.toInt + (1 * x3.toInt + 0)) = z := Option.some.inj (show some (-1 * x5.toInt + (1 * x3.toInt + 0)) = some z from e6)
    exact e7
  have f0 : fB K n p 68 [fR x0, fI x1, fI x2, fI x3] σ := by
    obtain ⟨w, e6, e7⟩ := m4 (1092, [0, 1, 2, 3]) (List.mem_of_getElem? (i := 0) rfl)
    obtain rfl : [fR x0, fI x1, fI x2, fI x3] = w := Option.some.inj (show some [fR x0, fI x1, fI x2, fI x3] = some w from e6)
    exact (fF_b (r := 1092) (by decide) rfl).mp e7
  clear m1 m2 m3 m4
  obtain ⟨a, hd, nd, len, N, t, h0, e, w, u1, N0, ⟨q, hq⟩, H, n1, hs, l0⟩ := f0
  cases e
  subst hq
  obtain rfl := fRo_c w.2.2.1 s0 t0 sc0
  obtain ⟨L, L1, L2, L3⟩ := fTk_ch H (k := x2.toInt.toNat) (fTk_le H)
  rw [← ec0] at L2
  have q0 : fB K n (.inl q) 67 [fR x0, fI x1, fI x4, fI x2, fI x5] σ := by
    refine ⟨_, _, _, _, _, N, t, x2.toInt.toNat, h0, rfl, w, u1, N0, ⟨q, rfl⟩, H, ?_, ?_, fun _ => by omega, by omega⟩
    · cases L with
      | nil => exact Or.inl L2
      | cons c r =>
        have hc : x4.toInt = (c : Int) := L2.1
        obtain ⟨y1, y2, y3⟩ := L3 c List.mem_cons_self
        exact Or.inr ⟨by omega, by omega, by rw [show x4.toInt.toNat = c by omega]; exact y3⟩
    · rw [show x5.toInt.toNat = x3.toInt.toNat + 1 by omega]
      exact hs
  exact ⟨.inl q, fun _ => rfl, ⟨(fun q h => by cases h), fun q h => (by cases h), (fun f h => by cases h), (aAllc ⟨_, rfl, (fF_b (r := 1077) (by decide) rfl).mpr q0⟩ (fun f h => by cases h))⟩, [], List.mem_cons_self, fun f h => (by cases h)⟩
set_option maxRecDepth 8192 in
theorem rw_ruWV {K : Nat → Nat} {n : Nat} : aGho (fF K n) fa_T K n (fJX K n) ag_ruWV := by
  refine aGho_of ⟨rfl, rfl⟩ ?_
  intro p σ ρ hH hX hA hM
  have hG := aAG_of hA.1 (fun i e v he hv => (hA.2 i e v he hv).1)
  clear hA
  obtain ⟨v0, v1, v2, v3, v4, rfl, g0, g1, g2, g3, g4⟩ := fA_5 hG
  clear hG
  obtain ⟨x0, rfl, b0, d0⟩ := fG_ref (by decide) g0
  obtain ⟨x1, rfl, b1, d1⟩ := aG_int g1
  dsimp only at b1 d1
  obtain ⟨x2, rfl, b2, d2⟩ := aG_int g2
  dsimp only at b2 d2
  obtain ⟨x3, rfl, b3, d3⟩ := aG_int g3
  dsimp only at b3 d3
  obtain ⟨x4, rfl, b4, d4⟩ := aG_int g4
  dsimp only at b4 d4
  obtain ⟨m1, m2, m3, m4⟩ := hM
  have f0 : fB K n p 67 [fR x0, fI x1, fI x2, fI x3, fI x4] σ := by
    obtain ⟨w, e6, e7⟩ := m4 (1077, [0, 1, 2, 3, 4]) (List.mem_of_getElem? (i := 0) rfl)
    obtain rfl : [fR x0, fI x1, fI x2, fI x3, fI x4] = w := Option.some.inj (show some [fR x0, fI x1, fI x2, fI x3, fI x4] = some w from e6)
    exact (fF_b (r := 1077) (by decide) rfl).mp e7
  clear m1 m2 m3 m4
  obtain ⟨a, hd, nd, ls, len, N, t, h, h0, e, w, u1, N0, ⟨q, hq⟩, H, hn, hs, hl, l0⟩ := f0
  cases e
  subst hq
  have q0 : fB K n (.inl q) 69 [fR x0, fI x1, fI x3, fI x4] σ := by
    exact ⟨_, _, _, _, N, t, h, h0, rfl, w, u1, N0, ⟨q, rfl⟩, H, hs, hl, l0⟩
  exact ⟨.inl q, fun _ => rfl, ⟨(fun q h => by cases h), fun q h => (by cases h), (fun f h => by cases h), (aAllc ⟨_, rfl, (fF_b (r := 1108) (by decide) rfl).mpr q0⟩ (fun f h => by cases h))⟩, [], List.mem_cons_self, fun f h => (by cases h)⟩
set_option maxRecDepth 8192 in
theorem rw_ruWD {K : Nat → Nat} {n : Nat} : aGho (fF K n) fa_T K n (fJX K n) ag_ruWD := by
  refine aGho_of ⟨rfl, rfl⟩ ?_
  intro p σ ρ hH hX hA hM
  have hG := aAG_of hA.1 (fun i e v he hv => (hA.2 i e v he hv).1)
  clear hA
  obtain ⟨v0, v1, v2, v3, v4, v5, v6, v7, v8, rfl, g0, g1, g2, g3, g4, g5, g6, g7, g8⟩ := fA_9 hG
  clear hG
  obtain ⟨x0, rfl, b0, d0⟩ := fG_ref (by decide) g0
  obtain ⟨x1, rfl, b1, d1⟩ := aG_int g1
  dsimp only at b1 d1
  obtain ⟨x2, rfl, b2, d2⟩ := aG_int g2
  dsimp only at b2 d2
  obtain ⟨x3, rfl, b3, d3⟩ := aG_int g3
  dsimp only at b3 d3
  obtain ⟨x4, rfl, b4, d4⟩ := fG_ref (by decide) g4
  obtain ⟨x5, rfl, b5, d5⟩ := aG_int g5
  dsimp only at b5 d5
  obtain ⟨x6, rfl⟩ := aG_lng g6
  obtain ⟨x7, rfl, b7, d7⟩ := fG_ref (by decide) g7
  obtain ⟨x8, rfl, b8, d8⟩ := fG_ref (by decide) g8
  obtain ⟨m1, m2, m3, m4⟩ := hM
  obtain ⟨a0, c0, fs0, w0, e1, s0, t0, e4⟩ := m1 (0, 4, 7) (List.mem_of_getElem? (i := 0) rfl)
  obtain rfl : x0 = a0 := Sum.inl.inj (Option.some.inj (Sum.inr.inj (Sum.inr.inj (Option.some.inj (show some (fR x0) = some _ from e1)))))
  obtain rfl : fR x7 = w0 := Option.some.inj (show some (fR x7) = some w0 from e4)
  clear e1 e4
  obtain ⟨a1, c1, fs1, w1, e1, s1, t1, e4⟩ := m1 (0, 7, 8) (List.mem_of_getElem? (i := 1) rfl)
  obtain rfl : x0 = a1 := Sum.inl.inj (Option.some.inj (Sum.inr.inj (Sum.inr.inj (Option.some.inj (show some (fR x0) = some _ from e1)))))
  obtain rfl : fR x8 = w1 := Option.some.inj (show some (fR x8) = some w1 from e4)
  clear e1 e4
  obtain ⟨a, mc0, ty0, gc0, ic0, e1, sc0, jc0, e4, e5⟩ := m2 (7, ([(2, 1)], 0), 5) (List.mem_of_getElem? (i := 0) rfl)
  obtain rfl : x7 = a := Sum.inl.inj (Option.some.inj (Sum.inr.inj (Sum.inr.inj (Option.some.inj (show some (fR x7) = some _ from e1)))))
  obtain ⟨gc0, rfl⟩ : ∃ g, gc0 = .inl g := by
    rcases gc0 with g | g
    · exact ⟨g, rfl⟩
    · exact absurd (show some (fI x5) = some (.inr (.inl (g ic0))) from e5) (fun h => by cases h)
  have sc0 : σ x7 = .inl (ty0, mc0, .inl gc0) := sc0
  have ec0 : x5 = gc0 ic0 := Sum.inl.inj (Option.some.inj (show some (fI x5) = some _ from e5))
  have kc0 : (ic0 : Int) = (1 * x2.toInt + 0) + 0 := by
    obtain ⟨z, e6, e7⟩ := e4
    obtain rfl : (1 * x2.toInt + 0) = z := Option.some.inj (show some (1 * x2.toInt + 0) = some z from e6)
    exact e7
  clear e1 e4 e5
  obtain rfl : ic0 = x2.toInt.toNat := by omega
  obtain ⟨a, mc1, ty1, gc1, ic1, e1, sc1, jc1, e4, e5⟩ := m2 (8, ([(2, 1)], 0), 6) (List.mem_of_getElem? (i := 1) rfl)
  obtain rfl : x8 = a := Sum.inl.inj (Option.some.inj (Sum.inr.inj (Sum.inr.inj (Option.some.inj (show some (fR x8) = some _ from e1)))))
  obtain ⟨gc1, rfl⟩ : ∃ g, gc1 = .inr g := by
    rcases gc1 with g | g
    · exact absurd (show some ((.inr (.inl x6) : jv)) = some (.inl (g ic1)) from e5) (fun h => by cases h)
    · exact ⟨g, rfl⟩
  have sc1 : σ x8 = .inl (ty1, mc1, .inr (.inl gc1)) := sc1
  have ec1 : x6 = gc1 ic1 := Sum.inl.inj (Sum.inr.inj (Option.some.inj (show some ((.inr (.inl x6) : jv)) = some _ from e5)))
  have kc1 : (ic1 : Int) = (1 * x2.toInt + 0) + 0 := by
    obtain ⟨z, e6, e7⟩ := e4
    obtain rfl : (1 * x2.toInt + 0) = z := Option.some.inj (show some (1 * x2.toInt + 0) = some z from e6)
    exact e7
  clear e1 e4 e5
  obtain rfl : ic1 = x2.toInt.toNat := by omega
  have l0 : 0 ≤ (1 * x3.toInt + 0) + -1 := by
    obtain ⟨z, e6, e7⟩ := m3 ([(3, 1)], -1) (List.mem_of_getElem? (i := 0) rfl)
    obtain rfl : (1 * x3.toInt + 0) = z := Option.some.inj (show some (1 * x3.toInt + 0) = some z from e6)
    exact e7
  have f0 : fB K n p 1 [fR x4] σ := by
    obtain ⟨w, e6, e7⟩ := m4 (17, [4]) (List.mem_of_getElem? (i := 0) rfl)
    obtain rfl : [fR x4] = w := Option.some.inj (show some [fR x4] = some w from e6)
    exact (fF_b (r := 17) (by decide) rfl).mp e7
  have f1 : fB K n p 69 [fR x0, fI x1, fI x2, fI x3] σ := by
    obtain ⟨w, e6, e7⟩ := m4 (1108, [0, 1, 2, 3]) (List.mem_of_getElem? (i := 1) rfl)
    obtain rfl : [fR x0, fI x1, fI x2, fI x3] = w := Option.some.inj (show some [fR x0, fI x1, fI x2, fI x3] = some w from e6)
    exact (fF_b (r := 1108) (by decide) rfl).mp e7
  clear m1 m2 m3 m4
  obtain ⟨a9, e9, A, hg9, q9, hq9⟩ := f0
  cases e9
  obtain ⟨a, hd, ls, len, N, t, h, h0, e, w, u1, N0, ⟨q, hq⟩, H, hs, hl, l0⟩ := f1
  cases e
  subst hq
  obtain rfl := fRo_c w.2.1 s0 t0 sc0
  obtain rfl := fRl_c w.2.2.2.2 s1 t1 sc1
  have hlh : x2.toInt.toNat = h := by have := hl (by omega); omega
  obtain ⟨z1, z2, z3, z4, z5, z6⟩ := hs
  have hh1 : 1 ≤ h := by have h9 := z3 0 (by omega); rw [fUp_z] at h9; exact h9
  subst hlh
  obtain ⟨j, qq, j1, j2, j3, j4, j5, j6⟩ := fTk_up H hh1
  have q0 : fB K n (fSh (.inl qq) [fI x5]) 1 [fR x4] σ := by
    rw [ec0]
    have hj5 : q = fPl qq (t.2.1 x2.toInt.toNat) := j5
    have A2 : fAt K n σ x4 (fPl qq (t.2.1 x2.toInt.toNat)).1 (fPl qq (t.2.1 x2.toInt.toNat)).2 := by rw [← hj5]; exact A
    exact ⟨_, rfl, A2, by have := hg9; rw [show fq (.inl q : fP) = fPl qq (t.2.1 x2.toInt.toNat) from hj5] at this; exact this, _, rfl⟩
  have q1 : fB K n (.inl qq) 4 [fI x5, (.inr (.inl x6) : jv)] σ := by
    rw [ec0, ec1]
    exact ⟨_, _, rfl, j6.1, j6.2, (fTk_good j3).1, _, rfl⟩
  have q2 : fB K n (.inl qq) 3 [fI x5] σ := by
    rw [ec0]
    exact ⟨_, rfl, j4⟩
  have q3 : fB K n (.inl qq) 70 [fR x0, fI x1, fI x2, fI x3] σ := by
    refine ⟨_, _, _, _, N, t, h0, rfl, w, u1, N0, ⟨qq, rfl⟩, by omega, by omega, by rw [show (t.1 x2.toInt.toNat).toInt.toNat = j by omega]; exact j3, ?_⟩
    obtain ⟨k9, hk9⟩ : ∃ k, x3.toInt.toNat = k + 1 := ⟨x3.toInt.toNat - 1, by omega⟩
    rw [hk9, fUp_s] at z2
    rw [hk9, Nat.add_sub_cancel]
    exact ⟨by have := fTk_le j3; omega, z2, fun i hi => by have h9 := z3 (i + 1) (by omega); rw [fUp_s] at h9; exact h9, z4, z5, z6⟩
  exact ⟨.inl qq, fun h => (by cases h), ⟨(fun q h => by cases h), fun q h => (by cases h), (fun f h => by cases h), (aAllc ⟨_, rfl, (fF_g (r := 17) (by decide)).mpr q0⟩ (aAllc ⟨_, rfl, (fF_b (r := 66) (by decide) rfl).mpr q1⟩ (aAllc ⟨_, rfl, (fF_b (r := 49) (by decide) rfl).mpr q2⟩ (aAllc ⟨_, rfl, (fF_b (r := 1124) (by decide) rfl).mpr q3⟩ (fun f h => by cases h)))))⟩, [], List.mem_cons_self, fun f h => (by cases h)⟩
set_option maxRecDepth 8192 in
theorem rw_ruWT {K : Nat → Nat} {n : Nat} : aGho (fF K n) fa_T K n (fJX K n) ag_ruWT := by
  refine aGho_of ⟨rfl, rfl⟩ ?_
  intro p σ ρ hH hX hA hM
  have hG := aAG_of hA.1 (fun i e v he hv => (hA.2 i e v he hv).1)
  clear hA
  obtain ⟨v0, v1, v2, v3, v4, v5, v6, rfl, g0, g1, g2, g3, g4, g5, g6⟩ := fA_7 hG
  clear hG
  obtain ⟨x0, rfl, b0, d0⟩ := fG_ref (by decide) g0
  obtain ⟨x1, rfl, b1, d1⟩ := aG_int g1
  dsimp only at b1 d1
  obtain ⟨x2, rfl, b2, d2⟩ := aG_int g2
  dsimp only at b2 d2
  obtain ⟨x3, rfl, b3, d3⟩ := aG_int g3
  dsimp only at b3 d3
  obtain ⟨x4, rfl, b4, d4⟩ := aG_int g4
  dsimp only at b4 d4
  obtain ⟨x5, rfl, b5, d5⟩ := aG_int g5
  dsimp only at b5 d5
  obtain ⟨x6, rfl, b6, d6⟩ := fG_ref (by decide) g6
  obtain ⟨m1, m2, m3, m4⟩ := hM
  obtain ⟨a0, c0, fs0, w0, e1, s0, t0, e4⟩ := m1 (0, 3, 6) (List.mem_of_getElem? (i := 0) rfl)
  obtain rfl : x0 = a0 := Sum.inl.inj (Option.some.inj (Sum.inr.inj (Sum.inr.inj (Option.some.inj (show some (fR x0) = some _ from e1)))))
  obtain rfl : fR x6 = w0 := Option.some.inj (show some (fR x6) = some w0 from e4)
  clear e1 e4
  obtain ⟨a, mc0, ty0, gc0, ic0, e1, sc0, jc0, e4, e5⟩ := m2 (6, ([(2, 1)], 0), 4) (List.mem_of_getElem? (i := 0) rfl)
  obtain rfl : x6 = a := Sum.inl.inj (Option.some.inj (Sum.inr.inj (Sum.inr.inj (Option.some.inj (show some (fR x6) = some _ from e1)))))
  obtain ⟨gc0, rfl⟩ : ∃ g, gc0 = .inl g := by
    rcases gc0 with g | g
    · exact ⟨g, rfl⟩
    · exact absurd (show some (fI x4) = some (.inr (.inl (g ic0))) from e5) (fun h => by cases h)
  have sc0 : σ x6 = .inl (ty0, mc0, .inl gc0) := sc0
  have ec0 : x4 = gc0 ic0 := Sum.inl.inj (Option.some.inj (show some (fI x4) = some _ from e5))
  have kc0 : (ic0 : Int) = (1 * x2.toInt + 0) + 0 := by
    obtain ⟨z, e6, e7⟩ := e4
    obtain rfl : (1 * x2.toInt + 0) = z := Option.some.inj (show some (1 * x2.toInt + 0) = some z from e6)
    exact e7
  clear e1 e4 e5
  obtain rfl : ic0 = x2.toInt.toNat := by omega
  have l0 : 0 ≤ (1 * x5.toInt + (-1 * x3.toInt + 0)) + 1 := by
    obtain ⟨z, e6, e7⟩ := m3 ([(5, 1), (3, -1)], 1) (List.mem_of_getElem? (i := 0) rfl)
    obtain rfl : (1 * x5.toInt + (-1 * x3.toInt + 0)) = z := Option.some.inj (show some (1 * x5.toInt + (-1 * x3.toInt + 0)) = some z from e6)
    exact e7
  have l1 : 0 ≤ (-1 * x5.toInt + (1 * x3.toInt + 0)) + -1 := by
    obtain ⟨z, e6, e7⟩ := m3 ([(5, -1), (3, 1)], -1) (List.mem_of_getElem? (i := 1) rfl)
    obtain rfl : (-1 * x5.toInt + (1 * x3.toInt + 0)) = z := Option.some.inj (show some (-1 * x5.toInt + (1 * x3.toInt + 0)) = some z from e6)
    exact e7
  have f0 : fB K n p 70 [fR x0, fI x1, fI x2, fI x3] σ := by
    obtain ⟨w, e6, e7⟩ := m4 (1124, [0, 1, 2, 3]) (List.mem_of_getElem? (i := 0) rfl)
    obtain rfl : [fR x0, fI x1, fI x2, fI x3] = w := Option.some.inj (show some [fR x0, fI x1, fI x2, fI x3] = some w from e6)
    exact (fF_b (r := 1124) (by decide) rfl).mp e7
  clear m1 m2 m3 m4
  obtain ⟨a, hd, ls, len, N, t, h0, e, w, u1, N0, ⟨q, hq⟩, n1, n2, H, hs⟩ := f0
  cases e
  subst hq
  obtain rfl := fRo_c w.1 s0 t0 sc0
  have q0 : fB K n (.inl q) 69 [fR x0, fI x1, fI x4, fI x5] σ := by
    refine ⟨_, _, _, _, N, t, (t.1 x2.toInt.toNat).toInt.toNat, h0, rfl, w, u1, N0, ⟨q, rfl⟩, H, ?_, fun _ => by rw [ec0]; omega, by omega⟩
    rw [show x5.toInt.toNat = x3.toInt.toNat - 1 by omega]
    exact hs
  exact ⟨.inl q, fun _ => rfl, ⟨(fun q h => by cases h), fun q h => (by cases h), (fun f h => by cases h), (aAllc ⟨_, rfl, (fF_b (r := 1108) (by decide) rfl).mpr q0⟩ (fun f h => by cases h))⟩, [], List.mem_cons_self, fun f h => (by cases h)⟩
set_option maxRecDepth 8192 in
theorem rw_ruWE {K : Nat → Nat} {n : Nat} : aGho (fF K n) fa_T K n (fJX K n) ag_ruWE := by
  refine aGho_of ⟨rfl, rfl⟩ ?_
  intro p σ ρ hH hX hA hM
  have hG := aAG_of hA.1 (fun i e v he hv => (hA.2 i e v he hv).1)
  clear hA
  obtain ⟨v0, v1, v2, v3, v4, rfl, g0, g1, g2, g3, g4⟩ := fA_5 hG
  clear hG
  obtain ⟨x0, rfl, b0, d0⟩ := fG_ref (by decide) g0
  obtain ⟨x1, rfl, b1, d1⟩ := aG_int g1
  dsimp only at b1 d1
  obtain ⟨x2, rfl, b2, d2⟩ := aG_int g2
  dsimp only at b2 d2
  obtain ⟨x3, rfl, b3, d3⟩ := aG_int g3
  dsimp only at b3 d3
  obtain ⟨x4, rfl, b4, d4⟩ := fG_ref (by decide) g4
  obtain ⟨m1, m2, m3, m4⟩ := hM
  have l0 : 0 ≤ (-1 * x3.toInt + 0) + 0 := by
    obtain ⟨z, e6, e7⟩ := m3 ([(3, -1)], 0) (List.mem_of_getElem? (i := 0) rfl)
    obtain rfl : (-1 * x3.toInt + 0) = z := Option.some.inj (show some (-1 * x3.toInt + 0) = some z from e6)
    exact e7
  have f0 : fB K n p 1 [fR x4] σ := by
    obtain ⟨w, e6, e7⟩ := m4 (17, [4]) (List.mem_of_getElem? (i := 0) rfl)
    obtain rfl : [fR x4] = w := Option.some.inj (show some [fR x4] = some w from e6)
    exact (fF_b (r := 17) (by decide) rfl).mp e7
  have f1 : fB K n p 69 [fR x0, fI x1, fI x2, fI x3] σ := by
    obtain ⟨w, e6, e7⟩ := m4 (1108, [0, 1, 2, 3]) (List.mem_of_getElem? (i := 1) rfl)
    obtain rfl : [fR x0, fI x1, fI x2, fI x3] = w := Option.some.inj (show some [fR x0, fI x1, fI x2, fI x3] = some w from e6)
    exact (fF_b (r := 1108) (by decide) rfl).mp e7
  clear m1 m2 m3 m4
  obtain ⟨a9, e9, A, hg9, q9, hq9⟩ := f0
  cases e9
  obtain ⟨a, hd, ls, len, N, t, h, h0, e, w, u1, N0, ⟨q, hq⟩, H, hs, hl, l0⟩ := f1
  cases e
  subst hq
  obtain ⟨z1, z2, z3, z4, z5, z6⟩ := hs
  rw [show x3.toInt.toNat = 0 by omega] at z2
  rw [fUp_z] at z2
  subst z2
  have q0 : fB K n (.inl q) 116 [fR x0, fR x4, fI x1] σ := by
    exact ⟨_, _, _, N, t, q, rfl, w, u1, by omega, by omega, by omega, by rw [z6]; exact H, A⟩
  exact ⟨.inl q, fun _ => rfl, ⟨(fun q h => by cases h), fun q h => (by cases h), (fun f h => by cases h), (aAllc ⟨_, rfl, (fF_b (r := 1859) (by decide) rfl).mpr q0⟩ (fun f h => by cases h))⟩, [], List.mem_cons_self, fun f h => (by cases h)⟩
set_option maxRecDepth 8192 in
theorem rw_ruTW {K : Nat → Nat} {n : Nat} : aGho (fF K n) fa_T K n (fJX K n) ag_ruTW := by
  refine aGho_of ⟨rfl, rfl⟩ ?_
  intro p σ ρ hH hX hA hM
  have hG := aAG_of hA.1 (fun i e v he hv => (hA.2 i e v he hv).1)
  clear hA
  obtain ⟨v0, v1, v2, v3, v4, v5, rfl, g0, g1, g2, g3, g4, g5⟩ := fA_6 hG
  clear hG
  obtain ⟨x0, rfl, b0, d0⟩ := fG_ref (by decide) g0
  obtain ⟨x1, rfl, b1, d1⟩ := fG_ref (by decide) g1
  obtain ⟨x2, rfl, b2, d2⟩ := aG_int g2
  dsimp only at b2 d2
  obtain ⟨x3, rfl, b3, d3⟩ := aG_int g3
  dsimp only at b3 d3
  obtain ⟨x4, rfl, b4, d4⟩ := aG_int g4
  dsimp only at b4 d4
  obtain ⟨x5, rfl, b5, d5⟩ := fG_ref (by decide) g5
  obtain ⟨m1, m2, m3, m4⟩ := hM
  obtain ⟨a0, c0, fs0, w0, e1, s0, t0, e4⟩ := m1 (0, 5, 5) (List.mem_of_getElem? (i := 0) rfl)
  obtain rfl : x0 = a0 := Sum.inl.inj (Option.some.inj (Sum.inr.inj (Sum.inr.inj (Option.some.inj (show some (fR x0) = some _ from e1)))))
  obtain rfl : fR x5 = w0 := Option.some.inj (show some (fR x5) = some w0 from e4)
  clear e1 e4
  obtain ⟨a1, c1, fs1, w1, e1, s1, t1, e4⟩ := m1 (0, 1, 3) (List.mem_of_getElem? (i := 1) rfl)
  obtain rfl : x0 = a1 := Sum.inl.inj (Option.some.inj (Sum.inr.inj (Sum.inr.inj (Option.some.inj (show some (fR x0) = some _ from e1)))))
  obtain rfl : fI x3 = w1 := Option.some.inj (show some (fI x3) = some w1 from e4)
  clear e1 e4
  obtain ⟨a, mc0, ty0, gc0, ic0, e1, sc0, jc0, e4, e5⟩ := m2 (5, ([], 0), 4) (List.mem_of_getElem? (i := 0) rfl)
  obtain rfl : x5 = a := Sum.inl.inj (Option.some.inj (Sum.inr.inj (Sum.inr.inj (Option.some.inj (show some (fR x5) = some _ from e1)))))
  obtain ⟨gc0, rfl⟩ : ∃ g, gc0 = .inl g := by
    rcases gc0 with g | g
    · exact ⟨g, rfl⟩
    · exact absurd (show some (fI x4) = some (.inr (.inl (g ic0))) from e5) (fun h => by cases h)
  have sc0 : σ x5 = .inl (ty0, mc0, .inl gc0) := sc0
  have ec0 : x4 = gc0 ic0 := Sum.inl.inj (Option.some.inj (show some (fI x4) = some _ from e5))
  have kc0 : (ic0 : Int) = 0 + 0 := by
    obtain ⟨z, e6, e7⟩ := e4
    obtain rfl : 0 = z := Option.some.inj (show some 0 = some z from e6)
    exact e7
  clear e1 e4 e5
  have l0 : 0 ≤ (-1 * x2.toInt + 0) + 0 := by
    obtain ⟨z, e6, e7⟩ := m3 ([(2, -1)], 0) (List.mem_of_getElem? (i := 0) rfl)
    obtain rfl : (-1 * x2.toInt + 0) = z := Option.some.inj (show some (-1 * x2.toInt + 0) = some z from e6)
    exact e7
  have f0 : fB K n p 1 [fR x1] σ := by
    obtain ⟨w, e6, e7⟩ := m4 (17, [1]) (List.mem_of_getElem? (i := 0) rfl)
    obtain rfl : [fR x1] = w := Option.some.inj (show some [fR x1] = some w from e6)
    exact (fF_b (r := 17) (by decide) rfl).mp e7
  have f1 : fB K n p 61 [fR x0, fI x2, fI x3] σ := by
    obtain ⟨w, e6, e7⟩ := m4 (979, [0, 2, 3]) (List.mem_of_getElem? (i := 1) rfl)
    obtain rfl : [fR x0, fI x2, fI x3] = w := Option.some.inj (show some [fR x0, fI x2, fI x3] = some w from e6)
    exact (fF_b (r := 979) (by decide) rfl).mp e7
  clear m1 m2 m3 m4
  obtain ⟨a9, e9, A, hg9, q9, hq9⟩ := f0
  cases e9
  obtain ⟨a, h, N, t, e, w, h0, N0, ⟨q, hq⟩, H⟩ := f1
  cases e
  subst hq
  obtain rfl := fRo_c w.2.2.1 s0 t0 sc0
  obtain ⟨L, L1, L2, L3⟩ := fTk_ch H (k := 0) (Nat.zero_le _)
  rw [show (0 : Nat) = ic0 by omega, ← ec0] at L2
  obtain ⟨y1, y2, y3⟩ : 1 ≤ x4.toInt.toNat ∧ x4.toInt.toNat ≤ x3.toInt.toNat ∧ (t.1 x4.toInt.toNat).toInt = (0 : Nat) := by
    cases L with
    | nil => have h9 : x4.toInt = 0 := L2; exact absurd h9 (by omega)
    | cons c r =>
      have hc : x4.toInt = (c : Int) := L2.1
      rw [show x4.toInt.toNat = c by omega]
      exact L3 c List.mem_cons_self
  have q0 : fB K n (.inl q) 116 [fR x0, fR x1, fI x4] σ := by
    refine ⟨_, _, _, _, t, q, rfl, w, fFi_mk hH b0 d0 s1 t1, by omega, by omega, by omega, ?_, A⟩
    rw [y3, show ((0 : Nat) : Int).toNat = x2.toInt.toNat by omega]
    exact H
  have q1 : fB K n (.inl q) 104 [fR x0, fI x4, fI x2] σ := by
    exact ⟨_, _, _, _, t.1, rfl, w.1, fFi_mk hH b0 d0 s1 t1, by omega, by omega, fI0 (by omega)⟩
  exact ⟨.inl q, fun _ => rfl, ⟨(fun q h => by cases h), fun q h => (by cases h), (fun f h => by cases h), (aAllc ⟨_, rfl, (fF_b (r := 1859) (by decide) rfl).mpr q0⟩ (aAllc ⟨_, rfl, (fF_b (r := 1667) (by decide) rfl).mpr q1⟩ (fun f h => by cases h)))⟩, [], List.mem_cons_self, fun f h => (by cases h)⟩
set_option maxRecDepth 8192 in
theorem rw_ruTX {K : Nat → Nat} {n : Nat} : aGho (fF K n) fa_T K n (fJX K n) ag_ruTX := by
  refine aGho_of ⟨rfl, rfl⟩ ?_
  intro p σ ρ hH hX hA hM
  have hG := aAG_of hA.1 (fun i e v he hv => (hA.2 i e v he hv).1)
  clear hA
  obtain ⟨v0, v1, v2, v3, rfl, g0, g1, g2, g3⟩ := fA_4 hG
  clear hG
  obtain ⟨x0, rfl, b0, d0⟩ := fG_ref (by decide) g0
  obtain ⟨x1, rfl, b1, d1⟩ := fG_ref (by decide) g1
  obtain ⟨x2, rfl, b2, d2⟩ := aG_int g2
  dsimp only at b2 d2
  obtain ⟨x3, rfl, b3, d3⟩ := aG_int g3
  dsimp only at b3 d3
  obtain ⟨m1, m2, m3, m4⟩ := hM
  obtain ⟨a0, c0, fs0, w0, e1, s0, t0, e4⟩ := m1 (0, 0, 1) (List.mem_of_getElem? (i := 0) rfl)
  obtain rfl : x0 = a0 := Sum.inl.inj (Option.some.inj (Sum.inr.inj (Sum.inr.inj (Option.some.inj (show some (fR x0) = some _ from e1)))))
  obtain rfl : fR x1 = w0 := Option.some.inj (show some (fR x1) = some w0 from e4)
  clear e1 e4
  obtain ⟨a1, c1, fs1, w1, e1, s1, t1, e4⟩ := m1 (0, 2, 2) (List.mem_of_getElem? (i := 1) rfl)
  obtain rfl : x0 = a1 := Sum.inl.inj (Option.some.inj (Sum.inr.inj (Sum.inr.inj (Option.some.inj (show some (fR x0) = some _ from e1)))))
  obtain rfl : fI x2 = w1 := Option.some.inj (show some (fI x2) = some w1 from e4)
  clear e1 e4
  have f0 : fB K n p 116 [fR x0, fR x1, fI x3] σ := by
    obtain ⟨w, e6, e7⟩ := m4 (1859, [0, 1, 3]) (List.mem_of_getElem? (i := 0) rfl)
    obtain rfl : [fR x0, fR x1, fI x3] = w := Option.some.inj (show some [fR x0, fR x1, fI x3] = some w from e6)
    exact (fF_b (r := 1859) (by decide) rfl).mp e7
  have f1 : fB K n p 104 [fR x0, fI x3, fI x2] σ := by
    obtain ⟨w, e6, e7⟩ := m4 (1667, [0, 3, 2]) (List.mem_of_getElem? (i := 1) rfl)
    obtain rfl : [fR x0, fI x3, fI x2] = w := Option.some.inj (show some [fR x0, fI x3, fI x2] = some w from e6)
    exact (fF_b (r := 1667) (by decide) rfl).mp e7
  clear m1 m2 m3 m4
  obtain ⟨a, b, c, N, t, q, e, w, u1, l1, l2, l3, H, A⟩ := f0
  cases e
  obtain ⟨a4, c4, h4, N4, pa4, e4, w4, u4, l4a, l4b, p4⟩ := f1
  cases e4
  obtain rfl := fRo_u w4 w.1
  have q0 : fB K n (p) 100 [fR x0] σ := by
    refine ⟨_, _, _, N, t, q, rfl, w, fFi_mk hH b0 d0 s0 t0, u1, fFi_mk hH b0 d0 s1 t1, by omega, by omega, ?_, A⟩
    rw [p4] at H
    exact H
  exact ⟨p, fun _ => rfl, ⟨(fun q h => by cases h), fun q h => (by cases h), (fun f h => by cases h), (aAllc ⟨_, rfl, (fF_b (r := 1601) (by decide) rfl).mpr q0⟩ (fun f h => by cases h))⟩, [], List.mem_cons_self, fun f h => (by cases h)⟩
end
section
/-! rules of the reader: their proofs -/
set_option maxRecDepth 8192 in
theorem rw_ruRDo {K : Nat → Nat} {n : Nat} : aGho (fF K n) fa_T K n (fJX K n) ag_ruRDo := by
  refine aGho_of ⟨rfl, rfl⟩ ?_
  intro p σ ρ hH hX hA hM
  have hG := aAG_of hA.1 (fun i e v he hv => (hA.2 i e v he hv).1)
  clear hA
  obtain ⟨v0, v1, v2, v3, v4, v5, v6, rfl, g0, g1, g2, g3, g4, g5, g6⟩ := fA_7 hG
  clear hG
  obtain ⟨x0, rfl, b0, d0⟩ := fG_ref (by decide) g0
  obtain ⟨x1, rfl, b1, d1⟩ := fG_ref (by decide) g1
  obtain ⟨x2, rfl, b2, d2⟩ := aG_int g2
  dsimp only at b2 d2
  obtain ⟨x3, rfl, b3, d3⟩ := aG_int g3
  dsimp only at b3 d3
  obtain ⟨x4, rfl, b4, d4⟩ := aG_int g4
  dsimp only at b4 d4
  obtain ⟨x5, rfl, b5, d5⟩ := aG_int g5
  dsimp only at b5 d5
  obtain ⟨x6, rfl, b6, d6⟩ := fG_ref (by decide) g6
  obtain ⟨m1, m2, m3, m4⟩ := hM
  obtain ⟨a0, c0, fs0, w0, e1, s0, t0, e4⟩ := m1 (0, 9, 2) (List.mem_of_getElem? (i := 0) rfl)
  obtain rfl : x0 = a0 := Sum.inl.inj (Option.some.inj (Sum.inr.inj (Sum.inr.inj (Option.some.inj (show some (fR x0) = some _ from e1)))))
  obtain rfl : fI x2 = w0 := Option.some.inj (show some (fI x2) = some w0 from e4)
  clear e1 e4
  obtain ⟨a1, c1, fs1, w1, e1, s1, t1, e4⟩ := m1 (0, 10, 3) (List.mem_of_getElem? (i := 1) rfl)
  obtain rfl : x0 = a1 := Sum.inl.inj (Option.some.inj (Sum.inr.inj (Sum.inr.inj (Option.some.inj (show some (fR x0) = some _ from e1)))))
  obtain rfl : fI x3 = w1 := Option.some.inj (show some (fI x3) = some w1 from e4)
  clear e1 e4
  obtain ⟨a2, c2, fs2, w2, e1, s2, t2, e4⟩ := m1 (0, 11, 4) (List.mem_of_getElem? (i := 2) rfl)
  obtain rfl : x0 = a2 := Sum.inl.inj (Option.some.inj (Sum.inr.inj (Sum.inr.inj (Option.some.inj (show some (fR x0) = some _ from e1)))))
  obtain rfl : fI x4 = w2 := Option.some.inj (show some (fI x4) = some w2 from e4)
  clear e1 e4
  obtain ⟨a3, c3, fs3, w3, e1, s3, t3, e4⟩ := m1 (1, 1, 5) (List.mem_of_getElem? (i := 3) rfl)
  obtain rfl : x1 = a3 := Sum.inl.inj (Option.some.inj (Sum.inr.inj (Sum.inr.inj (Option.some.inj (show some (fR x1) = some _ from e1)))))
  obtain rfl : fI x5 = w3 := Option.some.inj (show some (fI x5) = some w3 from e4)
  clear e1 e4
  obtain ⟨a4, c4, fs4, w4, e1, s4, t4, e4⟩ := m1 (0, 2, 6) (List.mem_of_getElem? (i := 4) rfl)
  obtain rfl : x0 = a4 := Sum.inl.inj (Option.some.inj (Sum.inr.inj (Sum.inr.inj (Option.some.inj (show some (fR x0) = some _ from e1)))))
  obtain rfl : fR x6 = w4 := Option.some.inj (show some (fR x6) = some w4 from e4)
  clear e1 e4
  have f0 : fB K n p 121 [fR x0, fR x1] σ := by
    obtain ⟨w, e6, e7⟩ := m4 (1938, [0, 1]) (List.mem_of_getElem? (i := 0) rfl)
    obtain rfl : [fR x0, fR x1] = w := Option.some.inj (show some [fR x0, fR x1] = some w from e6)
    exact (fF_b (r := 1938) (by decide) rfl).mp e7
  clear m1 m2 m3 m4
  obtain ⟨g, a, e, hR⟩ := f0
  cases e
  obtain ⟨T, ⟨s, h, os, us, hs⟩, o, N, gg, oo, uN, ou, hj⟩ := hR.resolve_left (fun ⟨x, ox, hx⟩ => hx (by have h9 := fOb_i ox s0 t0; rw [← h9]; omega))
  obtain rfl := fOb_i os s1 t1
  obtain rfl := fOb_i oo s2 t2
  obtain rfl := fFi_i uN s3 t3
  have q0 : fB K n (p) 100 [fR x1] σ := by
    exact fTG_to T
  have q1 : fB K n (p) 122 [fR x0, fI x4, fI x5] σ := by
    exact ⟨_, _, _, gg, rfl, ou, hj⟩
  have q2 : fB K n (p) 123 [fR x1, fI x3] σ := by
    exact ⟨_, _, h, rfl, us, hs⟩
  exact ⟨p, fun _ => rfl, ⟨(fun q h => by cases h), fun q h => (by cases h), (fun f h => by cases h), (aAllc ⟨_, rfl, (fF_b (r := 1601) (by decide) rfl).mpr q0⟩ (aAllc ⟨_, rfl, (fF_b (r := 1955) (by decide) rfl).mpr q1⟩ (aAllc ⟨_, rfl, (fF_b (r := 1970) (by decide) rfl).mpr q2⟩ (fun f h => by cases h))))⟩, [], List.mem_cons_self, fun f h => (by cases h)⟩
set_option maxRecDepth 8192 in
theorem rw_ruRDf {K : Nat → Nat} {n : Nat} : aGho (fF K n) fa_T K n (fJX K n) ag_ruRDf := by
  refine aGho_of ⟨rfl, rfl⟩ ?_
  intro p σ ρ hH hX hA hM
  have hG := aAG_of hA.1 (fun i e v he hv => (hA.2 i e v he hv).1)
  clear hA
  obtain ⟨v0, v1, v2, rfl, g0, g1, g2⟩ := fA_3 hG
  clear hG
  obtain ⟨x0, rfl, b0, d0⟩ := fG_ref (by decide) g0
  obtain ⟨x1, rfl, b1, d1⟩ := fG_ref (by decide) g1
  obtain ⟨x2, rfl, b2, d2⟩ := aG_int g2
  dsimp only at b2 d2
  obtain ⟨m1, m2, m3, m4⟩ := hM
  obtain ⟨a0, c0, fs0, w0, e1, s0, t0, e4⟩ := m1 (0, 9, 2) (List.mem_of_getElem? (i := 0) rfl)
  obtain rfl : x0 = a0 := Sum.inl.inj (Option.some.inj (Sum.inr.inj (Sum.inr.inj (Option.some.inj (show some (fR x0) = some _ from e1)))))
  obtain rfl : fI x2 = w0 := Option.some.inj (show some (fI x2) = some w0 from e4)
  clear e1 e4
  clear m1 m2 m3 m4
  have q0 : fB K n (p) 121 [fR x0, fR x1] σ := by
    exact ⟨_, _, rfl, Or.inl ⟨x2, ⟨b0, d0, _, _, s0, t0⟩, by omega⟩⟩
  exact ⟨p, fun _ => rfl, ⟨(fun q h => by cases h), fun q h => (by cases h), (fun f h => by cases h), (aAllc ⟨_, rfl, (fF_b (r := 1938) (by decide) rfl).mpr q0⟩ (fun f h => by cases h))⟩, [], List.mem_cons_self, fun f h => (by cases h)⟩
set_option maxRecDepth 8192 in
theorem rw_ruRDc {K : Nat → Nat} {n : Nat} : aGho (fF K n) fa_T K n (fJX K n) ag_ruRDc := by
  refine aGho_of ⟨rfl, rfl⟩ ?_
  intro p σ ρ hH hX hA hM
  have hG := aAG_of hA.1 (fun i e v he hv => (hA.2 i e v he hv).1)
  clear hA
  obtain ⟨v0, v1, v2, v3, v4, v5, v6, v7, rfl, g0, g1, g2, g3, g4, g5, g6, g7⟩ := fA_8 hG
  clear hG
  obtain ⟨x0, rfl, b0, d0⟩ := fG_ref (by decide) g0
  obtain ⟨x1, rfl, b1, d1⟩ := fG_ref (by decide) g1
  obtain ⟨x2, rfl, b2, d2⟩ := aG_int g2
  dsimp only at b2 d2
  obtain ⟨x3, rfl, b3, d3⟩ := aG_int g3
  dsimp only at b3 d3
  obtain ⟨x4, rfl, b4, d4⟩ := aG_int g4
  dsimp only at b4 d4
  obtain ⟨x5, rfl, b5, d5⟩ := aG_int g5
  dsimp only at b5 d5
  obtain ⟨x6, rfl, b6, d6⟩ := aG_int g6
  dsimp only at b6 d6
  obtain ⟨x7, rfl, b7, d7⟩ := aG_int g7
  dsimp only at b7 d7
  obtain ⟨m1, m2, m3, m4⟩ := hM
  obtain ⟨a0, c0, fs0, w0, e1, s0, t0, e4⟩ := m1 (0, 10, 2) (List.mem_of_getElem? (i := 0) rfl)
  obtain rfl : x0 = a0 := Sum.inl.inj (Option.some.inj (Sum.inr.inj (Sum.inr.inj (Option.some.inj (show some (fR x0) = some _ from e1)))))
  obtain rfl : fI x2 = w0 := Option.some.inj (show some (fI x2) = some w0 from e4)
  clear e1 e4
  obtain ⟨a1, c1, fs1, w1, e1, s1, t1, e4⟩ := m1 (0, 11, 3) (List.mem_of_getElem? (i := 1) rfl)
  obtain rfl : x0 = a1 := Sum.inl.inj (Option.some.inj (Sum.inr.inj (Sum.inr.inj (Option.some.inj (show some (fR x0) = some _ from e1)))))
  obtain rfl : fI x3 = w1 := Option.some.inj (show some (fI x3) = some w1 from e4)
  clear e1 e4
  obtain ⟨a2, c2, fs2, w2, e1, s2, t2, e4⟩ := m1 (1, 1, 4) (List.mem_of_getElem? (i := 2) rfl)
  obtain rfl : x1 = a2 := Sum.inl.inj (Option.some.inj (Sum.inr.inj (Sum.inr.inj (Option.some.inj (show some (fR x1) = some _ from e1)))))
  obtain rfl : fI x4 = w2 := Option.some.inj (show some (fI x4) = some w2 from e4)
  clear e1 e4
  obtain ⟨a3, c3, fs3, w3, e1, s3, t3, e4⟩ := m1 (0, 9, 7) (List.mem_of_getElem? (i := 3) rfl)
  obtain rfl : x0 = a3 := Sum.inl.inj (Option.some.inj (Sum.inr.inj (Sum.inr.inj (Option.some.inj (show some (fR x0) = some _ from e1)))))
  obtain rfl : fI x7 = w3 := Option.some.inj (show some (fI x7) = some w3 from e4)
  clear e1 e4
  have l0 : 0 ≤ (1 * x5.toInt + (-1 * x3.toInt + 0)) + 0 := by
    obtain ⟨z, e6, e7⟩ := m3 ([(5, 1), (3, -1)], 0) (List.mem_of_getElem? (i := 0) rfl)
    obtain rfl : (1 * x5.toInt + (-1 * x3.toInt + 0)) = z := Option.some.inj (show some (1 * x5.toInt + (-1 * x3.toInt + 0)) = some z from e6)
    exact e7
  have l1 : 0 ≤ (1 * x4.toInt + (-1 * x6.toInt + 0)) + 0 := by
    obtain ⟨z, e6, e7⟩ := m3 ([(4, 1), (6, -1)], 0) (List.mem_of_getElem? (i := 1) rfl)
    obtain rfl : (1 * x4.toInt + (-1 * x6.toInt + 0)) = z := Option.some.inj (show some (1 * x4.toInt + (-1 * x6.toInt + 0)) = some z from e6)
    exact e7
  have f0 : fB K n p 100 [fR x1] σ := by
    obtain ⟨w, e6, e7⟩ := m4 (1601, [1]) (List.mem_of_getElem? (i := 0) rfl)
    obtain rfl : [fR x1] = w := Option.some.inj (show some [fR x1] = some w from e6)
    exact (fF_b (r := 1601) (by decide) rfl).mp e7
  have f1 : fB K n p 122 [fR x0, fI x5, fI x6] σ := by
    obtain ⟨w, e6, e7⟩ := m4 (1955, [0, 5, 6]) (List.mem_of_getElem? (i := 1) rfl)
    obtain rfl : [fR x0, fI x5, fI x6] = w := Option.some.inj (show some [fR x0, fI x5, fI x6] = some w from e6)
    exact (fF_b (r := 1955) (by decide) rfl).mp e7
  have f2 : fB K n p 123 [fR x1, fI x2] σ := by
    obtain ⟨w, e6, e7⟩ := m4 (1970, [1, 2]) (List.mem_of_getElem? (i := 2) rfl)
    obtain rfl : [fR x1, fI x2] = w := Option.some.inj (show some [fR x1, fI x2] = some w from e6)
    exact (fF_b (r := 1970) (by decide) rfl).mp e7
  clear m1 m2 m3 m4
  obtain ⟨g8, m8, k8, gg, e8, ou, hj⟩ := f1
  cases e8
  obtain ⟨a7, s7, h7, e7, u7, z7⟩ := f2
  cases e7
  have q0 : fB K n (p) 121 [fR x0, fR x1] σ := by
    exact ⟨_, _, rfl, Or.inr ⟨fTG_of f0, ⟨x2, h7, ⟨b0, d0, _, _, s0, t0⟩, u7, z7⟩, x3, x4, gg, ⟨b0, d0, _, _, s1, t1⟩, fFi_mk hH b1 d1 s2 t2, ou, fun j hj2 => by have h9 := hj j (by omega); omega⟩⟩
  exact ⟨p, fun _ => rfl, ⟨(fun q h => by cases h), fun q h => (by cases h), (fun f h => by cases h), (aAllc ⟨_, rfl, (fF_b (r := 1938) (by decide) rfl).mpr q0⟩ (fun f h => by cases h))⟩, [], List.mem_cons_self, fun f h => (by cases h)⟩
set_option maxRecDepth 8192 in
theorem rw_ruSH1 {K : Nat → Nat} {n : Nat} : aGho (fF K n) fa_T K n (fJX K n) ag_ruSH1 := by
  refine aGho_of ⟨rfl, rfl⟩ ?_
  intro p σ ρ hH hX hA hM
  have hG := aAG_of hA.1 (fun i e v he hv => (hA.2 i e v he hv).1)
  clear hA
  obtain ⟨v0, v1, v2, rfl, g0, g1, g2⟩ := fA_3 hG
  clear hG
  obtain ⟨x0, rfl, b0, d0⟩ := fG_ref (by decide) g0
  obtain ⟨x1, rfl, b1, d1⟩ := aG_int g1
  dsimp only at b1 d1
  obtain ⟨x2, rfl, b2, d2⟩ := aG_int g2
  dsimp only at b2 d2
  obtain ⟨m1, m2, m3, m4⟩ := hM
  obtain ⟨a0, c0, fs0, w0, e1, s0, t0, e4⟩ := m1 (0, 2, 2) (List.mem_of_getElem? (i := 0) rfl)
  obtain rfl : x0 = a0 := Sum.inl.inj (Option.some.inj (Sum.inr.inj (Sum.inr.inj (Option.some.inj (show some (fR x0) = some _ from e1)))))
  obtain rfl : fI x2 = w0 := Option.some.inj (show some (fI x2) = some w0 from e4)
  clear e1 e4
  clear m1 m2 m3 m4
  have q0 : fB K n (p) 123 [fR x0, fI x1] σ := by
    exact ⟨_, _, x2, rfl, fFi_mk hH b0 d0 s0 t0, fun _ _ => by omega⟩
  exact ⟨p, fun _ => rfl, ⟨(fun q h => by cases h), fun q h => (by cases h), (fun f h => by cases h), (aAllc ⟨_, rfl, (fF_b (r := 1970) (by decide) rfl).mpr q0⟩ (fun f h => by cases h))⟩, [], List.mem_cons_self, fun f h => (by cases h)⟩
set_option maxRecDepth 8192 in
theorem rw_ruSH0 {K : Nat → Nat} {n : Nat} : aGho (fF K n) fa_T K n (fJX K n) ag_ruSH0 := by
  refine aGho_of ⟨rfl, rfl⟩ ?_
  intro p σ ρ hH hX hA hM
  have hG := aAG_of hA.1 (fun i e v he hv => (hA.2 i e v he hv).1)
  clear hA
  obtain ⟨v0, v1, v2, rfl, g0, g1, g2⟩ := fA_3 hG
  clear hG
  obtain ⟨x0, rfl, b0, d0⟩ := fG_ref (by decide) g0
  obtain ⟨x1, rfl, b1, d1⟩ := aG_int g1
  dsimp only at b1 d1
  obtain ⟨x2, rfl, b2, d2⟩ := aG_int g2
  dsimp only at b2 d2
  obtain ⟨m1, m2, m3, m4⟩ := hM
  obtain ⟨a0, c0, fs0, w0, e1, s0, t0, e4⟩ := m1 (0, 2, 2) (List.mem_of_getElem? (i := 0) rfl)
  obtain rfl : x0 = a0 := Sum.inl.inj (Option.some.inj (Sum.inr.inj (Sum.inr.inj (Option.some.inj (show some (fR x0) = some _ from e1)))))
  obtain rfl : fI x2 = w0 := Option.some.inj (show some (fI x2) = some w0 from e4)
  clear e1 e4
  clear m1 m2 m3 m4
  have q0 : fB K n (p) 123 [fR x0, fI x1] σ := by
    exact ⟨_, _, x2, rfl, fFi_mk hH b0 d0 s0 t0, fun _ _ => by omega⟩
  exact ⟨p, fun _ => rfl, ⟨(fun q h => by cases h), fun q h => (by cases h), (fun f h => by cases h), (aAllc ⟨_, rfl, (fF_b (r := 1970) (by decide) rfl).mpr q0⟩ (fun f h => by cases h))⟩, [], List.mem_cons_self, fun f h => (by cases h)⟩
set_option maxRecDepth 8192 in
theorem rw_ruSH5 {K : Nat → Nat} {n : Nat} : aGho (fF K n) fa_T K n (fJX K n) ag_ruSH5 := by
  refine aGho_of ⟨rfl, rfl⟩ ?_
  intro p σ ρ hH hX hA hM
  have hG := aAG_of hA.1 (fun i e v he hv => (hA.2 i e v he hv).1)
  clear hA
  obtain ⟨v0, v1, v2, rfl, g0, g1, g2⟩ := fA_3 hG
  clear hG
  obtain ⟨x0, rfl, b0, d0⟩ := fG_ref (by decide) g0
  obtain ⟨x1, rfl, b1, d1⟩ := aG_int g1
  dsimp only at b1 d1
  obtain ⟨x2, rfl, b2, d2⟩ := aG_int g2
  dsimp only at b2 d2
  obtain ⟨m1, m2, m3, m4⟩ := hM
  obtain ⟨a0, c0, fs0, w0, e1, s0, t0, e4⟩ := m1 (0, 2, 2) (List.mem_of_getElem? (i := 0) rfl)
  obtain rfl : x0 = a0 := Sum.inl.inj (Option.some.inj (Sum.inr.inj (Sum.inr.inj (Option.some.inj (show some (fR x0) = some _ from e1)))))
  obtain rfl : fI x2 = w0 := Option.some.inj (show some (fI x2) = some w0 from e4)
  clear e1 e4
  clear m1 m2 m3 m4
  have q0 : fB K n (p) 123 [fR x0, fI x1] σ := by
    exact ⟨_, _, x2, rfl, fFi_mk hH b0 d0 s0 t0, fun _ _ => by omega⟩
  exact ⟨p, fun _ => rfl, ⟨(fun q h => by cases h), fun q h => (by cases h), (fun f h => by cases h), (aAllc ⟨_, rfl, (fF_b (r := 1970) (by decide) rfl).mpr q0⟩ (fun f h => by cases h))⟩, [], List.mem_cons_self, fun f h => (by cases h)⟩
set_option maxRecDepth 8192 in
theorem rw_ruSHk {K : Nat → Nat} {n : Nat} : aGho (fF K n) fa_T K n (fJX K n) ag_ruSHk := by
  refine aGho_of ⟨rfl, rfl⟩ ?_
  intro p σ ρ hH hX hA hM
  have hG := aAG_of hA.1 (fun i e v he hv => (hA.2 i e v he hv).1)
  clear hA
  obtain ⟨v0, v1, v2, rfl, g0, g1, g2⟩ := fA_3 hG
  clear hG
  obtain ⟨x0, rfl, b0, d0⟩ := fG_ref (by decide) g0
  obtain ⟨x1, rfl, b1, d1⟩ := aG_int g1
  dsimp only at b1 d1
  obtain ⟨x2, rfl, b2, d2⟩ := aG_int g2
  dsimp only at b2 d2
  obtain ⟨m1, m2, m3, m4⟩ := hM
  have f0 : fB K n p 123 [fR x0, fI x1] σ := by
    obtain ⟨w, e6, e7⟩ := m4 (1970, [0, 1]) (List.mem_of_getElem? (i := 0) rfl)
    obtain rfl : [fR x0, fI x1] = w := Option.some.inj (show some [fR x0, fI x1] = some w from e6)
    exact (fF_b (r := 1970) (by decide) rfl).mp e7
  clear m1 m2 m3 m4
  obtain ⟨a7, s7, h7, e7, u7, z7⟩ := f0
  cases e7
  have q0 : fB K n (p) 123 [fR x0, fI x2] σ := by
    exact ⟨_, _, h7, rfl, u7, fun _ _ => z7 (by omega) (by omega)⟩
  exact ⟨p, fun _ => rfl, ⟨(fun q h => by cases h), fun q h => (by cases h), (fun f h => by cases h), (aAllc ⟨_, rfl, (fF_b (r := 1970) (by decide) rfl).mpr q0⟩ (fun f h => by cases h))⟩, [], List.mem_cons_self, fun f h => (by cases h)⟩
set_option maxRecDepth 8192 in
theorem rw_ruSHh {K : Nat → Nat} {n : Nat} : aGho (fF K n) fa_T K n (fJX K n) ag_ruSHh := by
  refine aGho_of ⟨rfl, rfl⟩ ?_
  intro p σ ρ hH hX hA hM
  have hG := aAG_of hA.1 (fun i e v he hv => (hA.2 i e v he hv).1)
  clear hA
  obtain ⟨v0, v1, v2, rfl, g0, g1, g2⟩ := fA_3 hG
  clear hG
  obtain ⟨x0, rfl, b0, d0⟩ := fG_ref (by decide) g0
  obtain ⟨x1, rfl, b1, d1⟩ := aG_int g1
  dsimp only at b1 d1
  obtain ⟨x2, rfl, b2, d2⟩ := aG_int g2
  dsimp only at b2 d2
  obtain ⟨m1, m2, m3, m4⟩ := hM
  obtain ⟨a0, c0, fs0, w0, e1, s0, t0, e4⟩ := m1 (0, 2, 2) (List.mem_of_getElem? (i := 0) rfl)
  obtain rfl : x0 = a0 := Sum.inl.inj (Option.some.inj (Sum.inr.inj (Sum.inr.inj (Option.some.inj (show some (fR x0) = some _ from e1)))))
  obtain rfl : fI x2 = w0 := Option.some.inj (show some (fI x2) = some w0 from e4)
  clear e1 e4
  have f0 : fB K n p 123 [fR x0, fI x1] σ := by
    obtain ⟨w, e6, e7⟩ := m4 (1970, [0, 1]) (List.mem_of_getElem? (i := 0) rfl)
    obtain rfl : [fR x0, fI x1] = w := Option.some.inj (show some [fR x0, fI x1] = some w from e6)
    exact (fF_b (r := 1970) (by decide) rfl).mp e7
  clear m1 m2 m3 m4
  obtain ⟨a7, s7, h7, e7, u7, z7⟩ := f0
  cases e7
  obtain rfl := fFi_i u7 s0 t0
  have h9 := z7 (by omega) (by omega)
  have r0 : 0 ≤ (1 * x2.toInt + 0) + -1 := by
    omega
  exact ⟨p, fun _ => rfl, ⟨(fun q h => by cases h), fun q h => (by cases h), (aAllc ⟨_, rfl, r0⟩ (fun f h => by cases h)), (fun f h => by cases h)⟩, [], List.mem_cons_self, fun f h => (by cases h)⟩
set_option maxRecDepth 8192 in
theorem rw_ruSTx {K : Nat → Nat} {n : Nat} : aGho (fF K n) fa_T K n (fJX K n) ag_ruSTx := by
  refine aGho_of ⟨rfl, rfl⟩ ?_
  intro p σ ρ hH hX hA hM
  have hG := aAG_of hA.1 (fun i e v he hv => (hA.2 i e v he hv).1)
  clear hA
  obtain ⟨v0, v1, v2, v3, v4, v5, rfl, g0, g1, g2, g3, g4, g5⟩ := fA_6 hG
  clear hG
  obtain ⟨x0, rfl, b0, d0⟩ := fG_ref (by decide) g0
  obtain ⟨x1, rfl, b1, d1⟩ := aG_int g1
  dsimp only at b1 d1
  obtain ⟨x2, rfl, b2, d2⟩ := aG_int g2
  dsimp only at b2 d2
  obtain ⟨x3, rfl, b3, d3⟩ := aG_int g3
  dsimp only at b3 d3
  obtain ⟨x4, rfl, b4, d4⟩ := aG_int g4
  dsimp only at b4 d4
  obtain ⟨x5, rfl, b5, d5⟩ := fG_ref (by decide) g5
  obtain ⟨m1, m2, m3, m4⟩ := hM
  obtain ⟨a0, c0, fs0, w0, e1, s0, t0, e4⟩ := m1 (0, 2, 5) (List.mem_of_getElem? (i := 0) rfl)
  obtain rfl : x0 = a0 := Sum.inl.inj (Option.some.inj (Sum.inr.inj (Sum.inr.inj (Option.some.inj (show some (fR x0) = some _ from e1)))))
  obtain rfl : fR x5 = w0 := Option.some.inj (show some (fR x5) = some w0 from e4)
  clear e1 e4
  obtain ⟨a, mc0, ty0, gc0, ic0, e1, sc0, jc0, e4, e5⟩ := m2 (5, ([(3, 1)], 0), 4) (List.mem_of_getElem? (i := 0) rfl)
  obtain rfl : x5 = a := Sum.inl.inj (Option.some.inj (Sum.inr.inj (Sum.inr.inj (Option.some.inj (show some (fR x5) = some _ from e1)))))
  obtain ⟨gc0, rfl⟩ : ∃ g, gc0 = .inl g := by
    rcases gc0 with g | g
    · exact ⟨g, rfl⟩
    · exact absurd (show some (fI x4) = some (.inr (.inl (g ic0))) from e5) (fun h => by cases h)
  have sc0 : σ x5 = .inl (ty0, mc0, .inl gc0) := sc0
  have ec0 : x4 = gc0 ic0 := Sum.inl.inj (Option.some.inj (show some (fI x4) = some _ from e5))
  have kc0 : (ic0 : Int) = (1 * x3.toInt + 0) + 0 := by
    obtain ⟨z, e6, e7⟩ := e4
    obtain rfl : (1 * x3.toInt + 0) = z := Option.some.inj (show some (1 * x3.toInt + 0) = some z from e6)
    exact e7
  clear e1 e4 e5
  obtain rfl : ic0 = x3.toInt.toNat := by omega
  have l0 : 0 ≤ (1 * x1.toInt + (-1 * x3.toInt + 0)) + -1 := by
    obtain ⟨z, e6, e7⟩ := m3 ([(1, 1), (3, -1)], -1) (List.mem_of_getElem? (i := 0) rfl)
    obtain rfl : (1 * x1.toInt + (-1 * x3.toInt + 0)) = z := Option.some.inj (show some (1 * x1.toInt + (-1 * x3.toInt + 0)) = some z from e6)
    exact e7
  have f0 : fB K n p 122 [fR x0, fI x1, fI x2] σ := by
    obtain ⟨w, e6, e7⟩ := m4 (1955, [0, 1, 2]) (List.mem_of_getElem? (i := 0) rfl)
    obtain rfl : [fR x0, fI x1, fI x2] = w := Option.some.inj (show some [fR x0, fI x1, fI x2] = some w from e6)
    exact (fF_b (r := 1955) (by decide) rfl).mp e7
  clear m1 m2 m3 m4
  obtain ⟨g8, m8, k8, gg, e8, ou, hj⟩ := f0
  cases e8
  obtain rfl := fOu_c ou s0 t0 sc0
  have h9 := hj x3.toInt.toNat (by omega)
  rw [← ec0] at h9
  have r0 : 0 ≤ (1 * x4.toInt + 0) + -1 := by
    omega
  have r1 : 0 ≤ (1 * x2.toInt + (-1 * x4.toInt + 0)) + 0 := by
    omega
  exact ⟨p, fun _ => rfl, ⟨(fun q h => by cases h), fun q h => (by cases h), (aAllc ⟨_, rfl, r0⟩ (aAllc ⟨_, rfl, r1⟩ (fun f h => by cases h))), (fun f h => by cases h)⟩, [], List.mem_cons_self, fun f h => (by cases h)⟩
set_option maxRecDepth 8192 in
theorem rw_ruSTp {K : Nat → Nat} {n : Nat} : aGho (fF K n) fa_T K n (fJX K n) ag_ruSTp := by
  refine aGho_of ⟨rfl, rfl⟩ ?_
  intro p σ ρ hH hX hA hM
  have hG := aAG_of hA.1 (fun i e v he hv => (hA.2 i e v he hv).1)
  clear hA
  obtain ⟨v0, v1, v2, v3, v4, rfl, g0, g1, g2, g3, g4⟩ := fA_5 hG
  clear hG
  obtain ⟨x0, rfl, b0, d0⟩ := fG_ref (by decide) g0
  obtain ⟨x1, rfl, b1, d1⟩ := aG_int g1
  dsimp only at b1 d1
  obtain ⟨x2, rfl, b2, d2⟩ := aG_int g2
  dsimp only at b2 d2
  obtain ⟨x3, rfl, b3, d3⟩ := aG_int g3
  dsimp only at b3 d3
  obtain ⟨x4, rfl, b4, d4⟩ := fG_ref (by decide) g4
  obtain ⟨m1, m2, m3, m4⟩ := hM
  obtain ⟨a0, c0, fs0, w0, e1, s0, t0, e4⟩ := m1 (0, 2, 4) (List.mem_of_getElem? (i := 0) rfl)
  obtain rfl : x0 = a0 := Sum.inl.inj (Option.some.inj (Sum.inr.inj (Sum.inr.inj (Option.some.inj (show some (fR x0) = some _ from e1)))))
  obtain rfl : fR x4 = w0 := Option.some.inj (show some (fR x4) = some w0 from e4)
  clear e1 e4
  have l0 : 0 ≤ (1 * x2.toInt + (-1 * x3.toInt + 0)) + 0 := by
    obtain ⟨z, e6, e7⟩ := m3 ([(2, 1), (3, -1)], 0) (List.mem_of_getElem? (i := 0) rfl)
    obtain rfl : (1 * x2.toInt + (-1 * x3.toInt + 0)) = z := Option.some.inj (show some (1 * x2.toInt + (-1 * x3.toInt + 0)) = some z from e6)
    exact e7
  have f0 : fB K n p 122 [fR x0, fI x1, fI x2] σ := by
    obtain ⟨w, e6, e7⟩ := m4 (1955, [0, 1, 2]) (List.mem_of_getElem? (i := 0) rfl)
    obtain rfl : [fR x0, fI x1, fI x2] = w := Option.some.inj (show some [fR x0, fI x1, fI x2] = some w from e6)
    exact (fF_b (r := 1955) (by decide) rfl).mp e7
  clear m1 m2 m3 m4
  obtain ⟨g8, m8, k8, gg, e8, ou, hj⟩ := f0
  cases e8
  have q0 : fB K n (p) 129 [fR x0, fI x1, fI x2] (jup σ x4 (jsto (σ x4) x1.toNatClampNeg x3)) := by
    refine ⟨_, _, _, upd gg x1.toInt.toNat x3, rfl, fOu_st ou s0 t0, fun j hj2 => ?_⟩
    unfold upd
    split
    · omega
    · exact hj j (by omega)
  exact ⟨p, fun _ => rfl, ⟨(fun q h => by cases h), fun q h => (by cases h), (fun f h => by cases h), (aAllc ⟨_, rfl, fF_p (r := 2067) (by decide) (by decide) rfl q0⟩ (fun f h => by cases h))⟩, [], List.mem_cons_self, fun f h => (by cases h)⟩
set_option maxRecDepth 8192 in
theorem rw_ruSTy {K : Nat → Nat} {n : Nat} : aGho (fF K n) fa_T K n (fJX K n) ag_ruSTy := by
  refine aGho_of ⟨rfl, rfl⟩ ?_
  intro p σ ρ hH hX hA hM
  have hG := aAG_of hA.1 (fun i e v he hv => (hA.2 i e v he hv).1)
  clear hA
  obtain ⟨v0, v1, v2, v3, rfl, g0, g1, g2, g3⟩ := fA_4 hG
  clear hG
  obtain ⟨x0, rfl, b0, d0⟩ := fG_ref (by decide) g0
  obtain ⟨x1, rfl, b1, d1⟩ := aG_int g1
  dsimp only at b1 d1
  obtain ⟨x2, rfl, b2, d2⟩ := aG_int g2
  dsimp only at b2 d2
  obtain ⟨x3, rfl, b3, d3⟩ := aG_int g3
  dsimp only at b3 d3
  obtain ⟨m1, m2, m3, m4⟩ := hM
  have l0 : 0 ≤ (1 * x3.toInt + (-1 * x1.toInt + 0)) + -1 := by
    obtain ⟨z, e6, e7⟩ := m3 ([(3, 1), (1, -1)], -1) (List.mem_of_getElem? (i := 0) rfl)
    obtain rfl : (1 * x3.toInt + (-1 * x1.toInt + 0)) = z := Option.some.inj (show some (1 * x3.toInt + (-1 * x1.toInt + 0)) = some z from e6)
    exact e7
  have l1 : 0 ≤ (-1 * x3.toInt + (1 * x1.toInt + 0)) + 1 := by
    obtain ⟨z, e6, e7⟩ := m3 ([(3, -1), (1, 1)], 1) (List.mem_of_getElem? (i := 1) rfl)
    obtain rfl : (-1 * x3.toInt + (1 * x1.toInt + 0)) = z := Option.some.inj (show some (-1 * x3.toInt + (1 * x1.toInt + 0)) = some z from e6)
    exact e7
  have f0 : fB K n p 129 [fR x0, fI x1, fI x2] σ := by
    obtain ⟨w, e6, e7⟩ := m4 (2067, [0, 1, 2]) (List.mem_of_getElem? (i := 0) rfl)
    obtain rfl : [fR x0, fI x1, fI x2] = w := Option.some.inj (show some [fR x0, fI x1, fI x2] = some w from e6)
    exact (fF_b (r := 2067) (by decide) rfl).mp e7
  clear m1 m2 m3 m4
  obtain ⟨g8, m8, k8, gg, e8, ou, hj⟩ := f0
  cases e8
  have q0 : fB K n (p) 122 [fR x0, fI x3, fI x2] σ := by
    exact ⟨_, _, _, gg, rfl, ou, fun j hj2 => hj j (by omega)⟩
  exact ⟨p, fun _ => rfl, ⟨(fun q h => by cases h), fun q h => (by cases h), (fun f h => by cases h), (aAllc ⟨_, rfl, (fF_b (r := 1955) (by decide) rfl).mpr q0⟩ (fun f h => by cases h))⟩, [], List.mem_cons_self, fun f h => (by cases h)⟩
set_option maxRecDepth 8192 in
theorem rw_ruST0 {K : Nat → Nat} {n : Nat} : aGho (fF K n) fa_T K n (fJX K n) ag_ruST0 := by
  refine aGho_of ⟨rfl, rfl⟩ ?_
  intro p σ ρ hH hX hA hM
  have hG := aAG_of hA.1 (fun i e v he hv => (hA.2 i e v he hv).1)
  clear hA
  obtain ⟨v0, v1, v2, v3, rfl, g0, g1, g2, g3⟩ := fA_4 hG
  clear hG
  obtain ⟨x0, rfl, b0, d0⟩ := fG_ref (by decide) g0
  obtain ⟨x1, rfl, b1, d1⟩ := aG_int g1
  dsimp only at b1 d1
  obtain ⟨x2, rfl, b2, d2⟩ := aG_int g2
  dsimp only at b2 d2
  obtain ⟨x3, rfl, b3, d3⟩ := fG_ref (by decide) g3
  obtain ⟨m1, m2, m3, m4⟩ := hM
  obtain ⟨a0, c0, fs0, w0, e1, s0, t0, e4⟩ := m1 (0, 2, 3) (List.mem_of_getElem? (i := 0) rfl)
  obtain rfl : x0 = a0 := Sum.inl.inj (Option.some.inj (Sum.inr.inj (Sum.inr.inj (Option.some.inj (show some (fR x0) = some _ from e1)))))
  obtain rfl : fR x3 = w0 := Option.some.inj (show some (fR x3) = some w0 from e4)
  clear e1 e4
  clear m1 m2 m3 m4
  obtain ⟨gg, eg⟩ := fRow hH b3 d3 (q := (.int, 6, (0, 300), [])) rfl (by intro h; cases h)
  have q0 : fB K n (p) 122 [fR x0, fI x1, fI x2] σ := by
    exact ⟨_, _, _, gg, rfl, ⟨_, ⟨b0, d0, _, _, s0, t0⟩, b3, d3, eg⟩, fun j hj2 => by omega⟩
  exact ⟨p, fun _ => rfl, ⟨(fun q h => by cases h), fun q h => (by cases h), (fun f h => by cases h), (aAllc ⟨_, rfl, (fF_b (r := 1955) (by decide) rfl).mpr q0⟩ (fun f h => by cases h))⟩, [], List.mem_cons_self, fun f h => (by cases h)⟩
set_option maxRecDepth 8192 in
theorem rw_ruFZ {K : Nat → Nat} {n : Nat} : aGho (fF K n) fa_T K n (fJX K n) ag_ruFZ := by
  refine aGho_of ⟨rfl, rfl⟩ ?_
  intro p σ ρ hH hX hA hM
  have hG := aAG_of hA.1 (fun i e v he hv => (hA.2 i e v he hv).1)
  clear hA
  obtain ⟨v0, v1, rfl, g0, g1⟩ := fA_2 hG
  clear hG
  obtain ⟨x0, rfl, b0, d0⟩ := fG_ref (by decide) g0
  obtain ⟨x1, rfl, b1, d1⟩ := aG_int g1
  dsimp only at b1 d1
  obtain ⟨m1, m2, m3, m4⟩ := hM
  obtain ⟨a0, c0, fs0, w0, e1, s0, t0, e4⟩ := m1 (0, 1, 1) (List.mem_of_getElem? (i := 0) rfl)
  obtain rfl : x0 = a0 := Sum.inl.inj (Option.some.inj (Sum.inr.inj (Sum.inr.inj (Option.some.inj (show some (fR x0) = some _ from e1)))))
  obtain rfl : fI x1 = w0 := Option.some.inj (show some (fI x1) = some w0 from e4)
  clear e1 e4
  have f0 : fB K n p 100 [fR x0] σ := by
    obtain ⟨w, e6, e7⟩ := m4 (1601, [0]) (List.mem_of_getElem? (i := 0) rfl)
    obtain rfl : [fR x0] = w := Option.some.inj (show some [fR x0] = some w from e6)
    exact (fF_b (r := 1601) (by decide) rfl).mp e7
  clear m1 m2 m3 m4
  obtain ⟨b, h, N, t, q, w, u0, u1, u2, h0, N0, H, A⟩ := fTG_of f0
  obtain rfl := fFi_i u1 s0 t0
  have q0 : fB K n (p) 124 [fR x0] σ := by
    exact ⟨_, t.2.2.1, rfl, w.2.2.1, fTk_f0 H (by omega)⟩
  exact ⟨p, fun _ => rfl, ⟨(fun q h => by cases h), fun q h => (by cases h), (fun f h => by cases h), (aAllc ⟨_, rfl, (fF_b (r := 1985) (by decide) rfl).mpr q0⟩ (fun f h => by cases h))⟩, [], List.mem_cons_self, fun f h => (by cases h)⟩
set_option maxRecDepth 8192 in
theorem rw_ruFZc {K : Nat → Nat} {n : Nat} : aGho (fF K n) fa_T K n (fJX K n) ag_ruFZc := by
  refine aGho_of ⟨rfl, rfl⟩ ?_
  intro p σ ρ hH hX hA hM
  have hG := aAG_of hA.1 (fun i e v he hv => (hA.2 i e v he hv).1)
  clear hA
  obtain ⟨v0, v1, v2, rfl, g0, g1, g2⟩ := fA_3 hG
  clear hG
  obtain ⟨x0, rfl, b0, d0⟩ := fG_ref (by decide) g0
  obtain ⟨x1, rfl, b1, d1⟩ := fG_ref (by decide) g1
  obtain ⟨x2, rfl, b2, d2⟩ := aG_int g2
  dsimp only at b2 d2
  obtain ⟨m1, m2, m3, m4⟩ := hM
  obtain ⟨a0, c0, fs0, w0, e1, s0, t0, e4⟩ := m1 (0, 5, 1) (List.mem_of_getElem? (i := 0) rfl)
  obtain rfl : x0 = a0 := Sum.inl.inj (Option.some.inj (Sum.inr.inj (Sum.inr.inj (Option.some.inj (show some (fR x0) = some _ from e1)))))
  obtain rfl : fR x1 = w0 := Option.some.inj (show some (fR x1) = some w0 from e4)
  clear e1 e4
  obtain ⟨a, mc0, ty0, gc0, ic0, e1, sc0, jc0, e4, e5⟩ := m2 (1, ([], 0), 2) (List.mem_of_getElem? (i := 0) rfl)
  obtain rfl : x1 = a := Sum.inl.inj (Option.some.inj (Sum.inr.inj (Sum.inr.inj (Option.some.inj (show some (fR x1) = some _ from e1)))))
  obtain ⟨gc0, rfl⟩ : ∃ g, gc0 = .inl g := by
    rcases gc0 with g | g
    · exact ⟨g, rfl⟩
    · exact absurd (show some (fI x2) = some (.inr (.inl (g ic0))) from e5) (fun h => by cases h)
  have sc0 : σ x1 = .inl (ty0, mc0, .inl gc0) := sc0
  have ec0 : x2 = gc0 ic0 := Sum.inl.inj (Option.some.inj (show some (fI x2) = some _ from e5))
  have kc0 : (ic0 : Int) = 0 + 0 := by
    obtain ⟨z, e6, e7⟩ := e4
    obtain rfl : 0 = z := Option.some.inj (show some 0 = some z from e6)
    exact e7
  clear e1 e4 e5
  clear m1 m2 m3 m4
  obtain ⟨fi, wfi, efi⟩ := fRo_mk hH b0 d0 s0 t0 b1 d1 (q := ((0, 300), [])) rfl
  rw [sc0] at efi
  cases efi
  have q0 : fB K n (p) 124 [fR x0] σ := by
    exact ⟨_, gc0, rfl, wfi, by rw [show (0 : Nat) = ic0 by omega, ← ec0]; omega⟩
  exact ⟨p, fun _ => rfl, ⟨(fun q h => by cases h), fun q h => (by cases h), (fun f h => by cases h), (aAllc ⟨_, rfl, (fF_b (r := 1985) (by decide) rfl).mpr q0⟩ (fun f h => by cases h))⟩, [], List.mem_cons_self, fun f h => (by cases h)⟩
set_option maxRecDepth 8192 in
theorem rw_ruNEW {K : Nat → Nat} {n : Nat} : aGho (fF K n) fa_T K n (fJX K n) ag_ruNEW := by
  refine aGho_of ⟨rfl, rfl⟩ ?_
  intro p σ ρ hH hX hA hM
  have hG := aAG_of hA.1 (fun i e v he hv => (hA.2 i e v he hv).1)
  clear hA
  obtain ⟨v0, v1, v2, v3, v4, v5, v6, v7, v8, rfl, g0, g1, g2, g3, g4, g5, g6, g7, g8⟩ := fA_9 hG
  clear hG
  obtain ⟨x0, rfl, b0, d0⟩ := fG_ref (by decide) g0
  obtain ⟨x1, rfl, b1, d1⟩ := fG_ref (by decide) g1
  obtain ⟨x2, rfl, b2, d2⟩ := aG_int g2
  dsimp only at b2 d2
  obtain ⟨x3, rfl, b3, d3⟩ := aG_int g3
  dsimp only at b3 d3
  obtain ⟨x4, rfl, b4, d4⟩ := fG_ref (by decide) g4
  obtain ⟨x5, rfl, b5, d5⟩ := fG_ref (by decide) g5
  obtain ⟨x6, rfl, b6, d6⟩ := fG_ref (by decide) g6
  obtain ⟨x7, rfl, b7, d7⟩ := fG_ref (by decide) g7
  obtain ⟨x8, rfl, b8, d8⟩ := fG_ref (by decide) g8
  obtain ⟨m1, m2, m3, m4⟩ := hM
  obtain ⟨a0, c0, fs0, w0, e1, s0, t0, e4⟩ := m1 (0, 0, 1) (List.mem_of_getElem? (i := 0) rfl)
  obtain rfl : x0 = a0 := Sum.inl.inj (Option.some.inj (Sum.inr.inj (Sum.inr.inj (Option.some.inj (show some (fR x0) = some _ from e1)))))
  obtain rfl : fR x1 = w0 := Option.some.inj (show some (fR x1) = some w0 from e4)
  clear e1 e4
  obtain ⟨a1, c1, fs1, w1, e1, s1, t1, e4⟩ := m1 (0, 2, 2) (List.mem_of_getElem? (i := 1) rfl)
  obtain rfl : x0 = a1 := Sum.inl.inj (Option.some.inj (Sum.inr.inj (Sum.inr.inj (Option.some.inj (show some (fR x0) = some _ from e1)))))
  obtain rfl : fI x2 = w1 := Option.some.inj (show some (fI x2) = some w1 from e4)
  clear e1 e4
  obtain ⟨a2, c2, fs2, w2, e1, s2, t2, e4⟩ := m1 (0, 1, 3) (List.mem_of_getElem? (i := 2) rfl)
  obtain rfl : x0 = a2 := Sum.inl.inj (Option.some.inj (Sum.inr.inj (Sum.inr.inj (Option.some.inj (show some (fR x0) = some _ from e1)))))
  obtain rfl : fI x3 = w2 := Option.some.inj (show some (fI x3) = some w2 from e4)
  clear e1 e4
  obtain ⟨a3, c3, fs3, w3, e1, s3, t3, e4⟩ := m1 (0, 3, 4) (List.mem_of_getElem? (i := 3) rfl)
  obtain rfl : x0 = a3 := Sum.inl.inj (Option.some.inj (Sum.inr.inj (Sum.inr.inj (Option.some.inj (show some (fR x0) = some _ from e1)))))
  obtain rfl : fR x4 = w3 := Option.some.inj (show some (fR x4) = some w3 from e4)
  clear e1 e4
  obtain ⟨a4, c4, fs4, w4, e1, s4, t4, e4⟩ := m1 (0, 4, 5) (List.mem_of_getElem? (i := 4) rfl)
  obtain rfl : x0 = a4 := Sum.inl.inj (Option.some.inj (Sum.inr.inj (Sum.inr.inj (Option.some.inj (show some (fR x0) = some _ from e1)))))
  obtain rfl : fR x5 = w4 := Option.some.inj (show some (fR x5) = some w4 from e4)
  clear e1 e4
  obtain ⟨a5, c5, fs5, w5, e1, s5, t5, e4⟩ := m1 (0, 5, 6) (List.mem_of_getElem? (i := 5) rfl)
  obtain rfl : x0 = a5 := Sum.inl.inj (Option.some.inj (Sum.inr.inj (Sum.inr.inj (Option.some.inj (show some (fR x0) = some _ from e1)))))
  obtain rfl : fR x6 = w5 := Option.some.inj (show some (fR x6) = some w5 from e4)
  clear e1 e4
  obtain ⟨a6, c6, fs6, w6, e1, s6, t6, e4⟩ := m1 (0, 6, 7) (List.mem_of_getElem? (i := 6) rfl)
  obtain rfl : x0 = a6 := Sum.inl.inj (Option.some.inj (Sum.inr.inj (Sum.inr.inj (Option.some.inj (show some (fR x0) = some _ from e1)))))
  obtain rfl : fR x7 = w6 := Option.some.inj (show some (fR x7) = some w6 from e4)
  clear e1 e4
  obtain ⟨a7, c7, fs7, w7, e1, s7, t7, e4⟩ := m1 (0, 7, 8) (List.mem_of_getElem? (i := 7) rfl)
  obtain rfl : x0 = a7 := Sum.inl.inj (Option.some.inj (Sum.inr.inj (Sum.inr.inj (Option.some.inj (show some (fR x0) = some _ from e1)))))
  obtain rfl : fR x8 = w7 := Option.some.inj (show some (fR x8) = some w7 from e4)
  clear e1 e4
  have f0 : fB K n p 127 [fR x1] σ := by
    obtain ⟨w, e6, e7⟩ := m4 (2033, [1]) (List.mem_of_getElem? (i := 0) rfl)
    obtain rfl : [fR x1] = w := Option.some.inj (show some [fR x1] = some w from e6)
    exact (fF_b (r := 2033) (by decide) rfl).mp e7
  have f1 : fB K n p 124 [fR x0] σ := by
    obtain ⟨w, e6, e7⟩ := m4 (1985, [0]) (List.mem_of_getElem? (i := 1) rfl)
    obtain rfl : [fR x0] = w := Option.some.inj (show some [fR x0] = some w from e6)
    exact (fF_b (r := 1985) (by decide) rfl).mp e7
  clear m1 m2 m3 m4
  obtain ⟨b, e, q, A, hg, k0, k1⟩ := f0
  cases e
  obtain ⟨a9, fi9, e9, w9, z9⟩ := f1
  cases e9
  obtain ⟨pa, wpa, epa⟩ := fRo_mk hH b0 d0 s3 t3 b4 d4 (q := ((0, 300), [])) rfl
  obtain ⟨mv, wmv, emv⟩ := fRo_mk hH b0 d0 s4 t4 b5 d5 (q := ((0, 32767), [])) rfl
  obtain ⟨fi, wfi, efi⟩ := fRo_mk hH b0 d0 s5 t5 b6 d6 (q := ((0, 300), [])) rfl
  obtain ⟨af, waf, eaf⟩ := fRo_mk hH b0 d0 s6 t6 b7 d7 (q := ((0, 300), [])) rfl
  obtain ⟨un, wun⟩ := fRl_mk hH b0 d0 s7 t7 b8 d8
  obtain rfl := fRo_u w9 wfi
  have q0 : fB K n (p) 100 [fR x0] σ := by
    refine fTG_to ⟨_, x2, x3, (pa, mv, fi9, af, un), q, ⟨wpa, wmv, wfi, waf, wun⟩, fFi_mk hH b0 d0 s0 t0, fFi_mk hH b0 d0 s2 t2, fFi_mk hH b0 d0 s1 t1, by omega, by omega, ?_, A⟩
    rw [show x3.toInt.toNat = 0 by omega, show x2.toInt.toNat = 0 by omega]
    exact fTk_new hg k0 k1 z9
  exact ⟨p, fun _ => rfl, ⟨(fun q h => by cases h), fun q h => (by cases h), (fun f h => by cases h), (aAllc ⟨_, rfl, (fF_b (r := 1601) (by decide) rfl).mpr q0⟩ (fun f h => by cases h))⟩, [], List.mem_cons_self, fun f h => (by cases h)⟩
set_option maxRecDepth 8192 in
theorem rw_ruBF {K : Nat → Nat} {n : Nat} : aGho (fF K n) fa_T K n (fJX K n) ag_ruBF := by
  refine aGho_of ⟨rfl, rfl⟩ ?_
  intro p σ ρ hH hX hA hM
  have hG := aAG_of hA.1 (fun i e v he hv => (hA.2 i e v he hv).1)
  clear hA
  obtain ⟨v0, v1, rfl, g0, g1⟩ := fA_2 hG
  clear hG
  obtain ⟨x0, rfl, b0, d0⟩ := aG_int g0
  dsimp only at b0 d0
  obtain ⟨x1, rfl, b1, d1⟩ := fG_ref (by decide) g1
  obtain ⟨m1, m2, m3, m4⟩ := hM
  have f0 : fB K n p 128 [fI x0, fR x1] σ := by
    obtain ⟨w, e6, e7⟩ := m4 (2050, [0, 1]) (List.mem_of_getElem? (i := 0) rfl)
    obtain rfl : [fI x0, fR x1] = w := Option.some.inj (show some [fI x0, fR x1] = some w from e6)
    exact (fF_b (r := 2050) (by decide) rfl).mp e7
  clear m1 m2 m3 m4
  obtain ⟨x, b, e, h⟩ := f0
  cases e
  have q0 : fB K n (p) 127 [fR x1] σ := by
    exact ⟨_, rfl, h.resolve_left (fun h9 => h9 (by omega))⟩
  exact ⟨p, fun _ => rfl, ⟨(fun q h => by cases h), fun q h => (by cases h), (fun f h => by cases h), (aAllc ⟨_, rfl, (fF_b (r := 2033) (by decide) rfl).mpr q0⟩ (fun f h => by cases h))⟩, [], List.mem_cons_self, fun f h => (by cases h)⟩
set_option maxRecDepth 8192 in
theorem rw_ruT0f {K : Nat → Nat} {n : Nat} : aGho (fF K n) fa_T K n (fJX K n) ag_ruT0f := by
  refine aGho_of ⟨rfl, rfl⟩ ?_
  intro p σ ρ hH hX hA hM
  have hG := aAG_of hA.1 (fun i e v he hv => (hA.2 i e v he hv).1)
  clear hA
  obtain ⟨v0, v1, rfl, g0, g1⟩ := fA_2 hG
  clear hG
  obtain ⟨x0, rfl, b0, d0⟩ := aG_int g0
  dsimp only at b0 d0
  obtain ⟨x1, rfl, b1, d1⟩ := fG_ref (by decide) g1
  obtain ⟨m1, m2, m3, m4⟩ := hM
  clear m1 m2 m3 m4
  have q0 : fB K n (p) 125 [fI x0, fR x1] σ := by
    exact ⟨_, _, rfl, Or.inl (by omega)⟩
  exact ⟨p, fun _ => rfl, ⟨(fun q h => by cases h), fun q h => (by cases h), (fun f h => by cases h), (aAllc ⟨_, rfl, (fF_b (r := 2002) (by decide) rfl).mpr q0⟩ (fun f h => by cases h))⟩, [], List.mem_cons_self, fun f h => (by cases h)⟩
set_option maxRecDepth 8192 in
theorem rw_ruT0 {K : Nat → Nat} {n : Nat} : aGho (fF K n) fa_T K n (fJX K n) ag_ruT0 := by
  refine aGho_of ⟨rfl, rfl⟩ ?_
  intro p σ ρ hH hX hA hM
  have hG := aAG_of hA.1 (fun i e v he hv => (hA.2 i e v he hv).1)
  clear hA
  obtain ⟨v0, v1, rfl, g0, g1⟩ := fA_2 hG
  clear hG
  obtain ⟨x0, rfl, b0, d0⟩ := aG_int g0
  dsimp only at b0 d0
  obtain ⟨x1, rfl, b1, d1⟩ := fG_ref (by decide) g1
  obtain ⟨m1, m2, m3, m4⟩ := hM
  have f0 : fB K n p 100 [fR x1] σ := by
    obtain ⟨w, e6, e7⟩ := m4 (1601, [1]) (List.mem_of_getElem? (i := 0) rfl)
    obtain rfl : [fR x1] = w := Option.some.inj (show some [fR x1] = some w from e6)
    exact (fF_b (r := 1601) (by decide) rfl).mp e7
  clear m1 m2 m3 m4
  have q0 : fB K n (p) 125 [fI x0, fR x1] σ := by
    exact ⟨_, _, rfl, Or.inr (fTG_of f0)⟩
  exact ⟨p, fun _ => rfl, ⟨(fun q h => by cases h), fun q h => (by cases h), (fun f h => by cases h), (aAllc ⟨_, rfl, (fF_b (r := 2002) (by decide) rfl).mpr q0⟩ (fun f h => by cases h))⟩, [], List.mem_cons_self, fun f h => (by cases h)⟩
set_option maxRecDepth 8192 in
theorem rw_ruT0z {K : Nat → Nat} {n : Nat} : aGho (fF K n) fa_T K n (fJX K n) ag_ruT0z := by
  refine aGho_of ⟨rfl, rfl⟩ ?_
  intro p σ ρ hH hX hA hM
  have hG := aAG_of hA.1 (fun i e v he hv => (hA.2 i e v he hv).1)
  clear hA
  obtain ⟨v0, v1, rfl, g0, g1⟩ := fA_2 hG
  clear hG
  obtain ⟨x0, rfl, b0, d0⟩ := aG_int g0
  dsimp only at b0 d0
  obtain ⟨x1, rfl, b1, d1⟩ := fG_ref (by decide) g1
  obtain ⟨m1, m2, m3, m4⟩ := hM
  have f0 : fB K n p 125 [fI x0, fR x1] σ := by
    obtain ⟨w, e6, e7⟩ := m4 (2002, [0, 1]) (List.mem_of_getElem? (i := 0) rfl)
    obtain rfl : [fI x0, fR x1] = w := Option.some.inj (show some [fI x0, fR x1] = some w from e6)
    exact (fF_b (r := 2002) (by decide) rfl).mp e7
  clear m1 m2 m3 m4
  obtain ⟨x, a, e, h⟩ := f0
  cases e
  have q0 : fB K n (p) 100 [fR x1] σ := by
    exact fTG_to (h.resolve_left (fun h9 => h9 (by omega)))
  exact ⟨p, fun _ => rfl, ⟨(fun q h => by cases h), fun q h => (by cases h), (fun f h => by cases h), (aAllc ⟨_, rfl, (fF_b (r := 1601) (by decide) rfl).mpr q0⟩ (fun f h => by cases h))⟩, [], List.mem_cons_self, fun f h => (by cases h)⟩
set_option maxRecDepth 8192 in
theorem rw_ruSWn {K : Nat → Nat} {n : Nat} : aGho (fF K n) fa_T K n (fJX K n) ag_ruSWn := by
  refine aGho_of ⟨rfl, rfl⟩ ?_
  intro p σ ρ hH hX hA hM
  have hG := aAG_of hA.1 (fun i e v he hv => (hA.2 i e v he hv).1)
  clear hA
  obtain ⟨v0, v1, v2, rfl, g0, g1, g2⟩ := fA_3 hG
  clear hG
  obtain ⟨x0, rfl, b0, d0⟩ := fG_ref (by decide) g0
  obtain ⟨x1, rfl, b1⟩ := fG_any g1
  obtain ⟨x2, rfl, b2, d2⟩ := fG_ref (by decide) g2
  obtain ⟨m1, m2, m3, m4⟩ := hM
  obtain ⟨a0, c0, fs0, w0, e1, s0, t0, e4⟩ := m1 (0, 10, 1) (List.mem_of_getElem? (i := 0) rfl)
  obtain rfl : x0 = a0 := Sum.inl.inj (Option.some.inj (Sum.inr.inj (Sum.inr.inj (Option.some.inj (show some (fR x0) = some _ from e1)))))
  obtain rfl : fR x1 = w0 := Option.some.inj (show some (fR x1) = some w0 from e4)
  clear e1 e4
  obtain ⟨a1, c1, fs1, w1, e1, s1, t1, e4⟩ := m1 (0, 11, 2) (List.mem_of_getElem? (i := 1) rfl)
  obtain rfl : x0 = a1 := Sum.inl.inj (Option.some.inj (Sum.inr.inj (Sum.inr.inj (Option.some.inj (show some (fR x0) = some _ from e1)))))
  obtain rfl : fR x2 = w1 := Option.some.inj (show some (fR x2) = some w1 from e4)
  clear e1 e4
  clear m1 m2 m3 m4
  have q0 : fB K n (p) 126 [fR x0, fR x1, fR x2] σ := by
    exact ⟨_, _, _, rfl, Or.inl ⟨⟨b0, d0, _, _, s0, t0⟩, ⟨b0, d0, _, _, s1, t1⟩⟩⟩
  exact ⟨p, fun _ => rfl, ⟨(fun q h => by cases h), fun q h => (by cases h), (fun f h => by cases h), (aAllc ⟨_, rfl, (fF_b (r := 2019) (by decide) rfl).mpr q0⟩ (fun f h => by cases h))⟩, [], List.mem_cons_self, fun f h => (by cases h)⟩
set_option maxRecDepth 8192 in
theorem rw_ruSWy {K : Nat → Nat} {n : Nat} : aGho (fF K n) fa_T K n (fJX K n) ag_ruSWy := by
  refine aGho_of ⟨rfl, rfl⟩ ?_
  intro p σ ρ hH hX hA hM
  have hG := aAG_of hA.1 (fun i e v he hv => (hA.2 i e v he hv).1)
  clear hA
  obtain ⟨v0, v1, v2, rfl, g0, g1, g2⟩ := fA_3 hG
  clear hG
  obtain ⟨x0, rfl, b0, d0⟩ := fG_ref (by decide) g0
  obtain ⟨x1, rfl, b1⟩ := fG_any g1
  obtain ⟨x2, rfl, b2, d2⟩ := fG_ref (by decide) g2
  obtain ⟨m1, m2, m3, m4⟩ := hM
  obtain ⟨a0, c0, fs0, w0, e1, s0, t0, e4⟩ := m1 (0, 10, 2) (List.mem_of_getElem? (i := 0) rfl)
  obtain rfl : x0 = a0 := Sum.inl.inj (Option.some.inj (Sum.inr.inj (Sum.inr.inj (Option.some.inj (show some (fR x0) = some _ from e1)))))
  obtain rfl : fR x2 = w0 := Option.some.inj (show some (fR x2) = some w0 from e4)
  clear e1 e4
  obtain ⟨a1, c1, fs1, w1, e1, s1, t1, e4⟩ := m1 (0, 11, 1) (List.mem_of_getElem? (i := 1) rfl)
  obtain rfl : x0 = a1 := Sum.inl.inj (Option.some.inj (Sum.inr.inj (Sum.inr.inj (Option.some.inj (show some (fR x0) = some _ from e1)))))
  obtain rfl : fR x1 = w1 := Option.some.inj (show some (fR x1) = some w1 from e4)
  clear e1 e4
  have f0 : fB K n p 100 [fR x2] σ := by
    obtain ⟨w, e6, e7⟩ := m4 (1601, [2]) (List.mem_of_getElem? (i := 0) rfl)
    obtain rfl : [fR x2] = w := Option.some.inj (show some [fR x2] = some w from e6)
    exact (fF_b (r := 1601) (by decide) rfl).mp e7
  clear m1 m2 m3 m4
  have q0 : fB K n (p) 126 [fR x0, fR x1, fR x2] σ := by
    exact ⟨_, _, _, rfl, Or.inr ⟨⟨b0, d0, _, _, s0, t0⟩, ⟨b0, d0, _, _, s1, t1⟩, fTG_of f0⟩⟩
  exact ⟨p, fun _ => rfl, ⟨(fun q h => by cases h), fun q h => (by cases h), (fun f h => by cases h), (aAllc ⟨_, rfl, (fF_b (r := 2019) (by decide) rfl).mpr q0⟩ (fun f h => by cases h))⟩, [], List.mem_cons_self, fun f h => (by cases h)⟩
end
section
/-! rules of fen and tag: their proofs -/
set_option maxRecDepth 8192 in
theorem rw_ruM14 {K : Nat → Nat} {n : Nat} : aGho (fF K n) fa_T K n (fJX K n) ag_ruM14 := by
  refine aGho_of ⟨rfl, rfl⟩ ?_
  intro p σ ρ hH hX hA hM
  have hG := aAG_of hA.1 (fun i e v he hv => (hA.2 i e v he hv).1)
  clear hA
  obtain ⟨v0, v1, v2, v3, v4, rfl, g0, g1, g2, g3, g4⟩ := fA_5 hG
  clear hG
  obtain ⟨x0, rfl, b0, d0⟩ := fG_ref (by decide) g0
  obtain ⟨x1, rfl, b1, d1⟩ := aG_int g1
  dsimp only at b1 d1
  obtain ⟨x2, rfl, b2, d2⟩ := aG_int g2
  dsimp only at b2 d2
  obtain ⟨x3, rfl, b3, d3⟩ := aG_int g3
  dsimp only at b3 d3
  obtain ⟨x4, rfl, b4, d4⟩ := fG_ref (by decide) g4
  obtain ⟨m1, m2, m3, m4⟩ := hM
  obtain ⟨a0, c0, fs0, w0, e1, s0, t0, e4⟩ := m1 (0, 0, 4) (List.mem_of_getElem? (i := 0) rfl)
  obtain rfl : x0 = a0 := Sum.inl.inj (Option.some.inj (Sum.inr.inj (Sum.inr.inj (Option.some.inj (show some (fR x0) = some _ from e1)))))
  obtain rfl : fR x4 = w0 := Option.some.inj (show some (fR x4) = some w0 from e4)
  clear e1 e4
  obtain ⟨a, mc0, ty0, gc0, ic0, e1, sc0, jc0, e4, e5⟩ := m2 (4, ([(1, 8), (2, 1)], 0), 3) (List.mem_of_getElem? (i := 0) rfl)
  obtain rfl : x4 = a := Sum.inl.inj (Option.some.inj (Sum.inr.inj (Sum.inr.inj (Option.some.inj (show some (fR x4) = some _ from e1)))))
  obtain ⟨gc0, rfl⟩ : ∃ g, gc0 = .inl g := by
    rcases gc0 with g | g
    · exact ⟨g, rfl⟩
    · exact absurd (show some (fI x3) = some (.inr (.inl (g ic0))) from e5) (fun h => by cases h)
  have sc0 : σ x4 = .inl (ty0, mc0, .inl gc0) := sc0
  have ec0 : x3 = gc0 ic0 := Sum.inl.inj (Option.some.inj (show some (fI x3) = some _ from e5))
  have kc0 : (ic0 : Int) = (8 * x1.toInt + (1 * x2.toInt + 0)) + 0 := by
    obtain ⟨z, e6, e7⟩ := e4
    obtain rfl : (8 * x1.toInt + (1 * x2.toInt + 0)) = z := Option.some.inj (show some (8 * x1.toInt + (1 * x2.toInt + 0)) = some z from e6)
    exact e7
  clear e1 e4 e5
  have f0 : fB K n p 1 [fR x0] σ := by
    obtain ⟨w, e6, e7⟩ := m4 (17, [0]) (List.mem_of_getElem? (i := 0) rfl)
    obtain rfl : [fR x0] = w := Option.some.inj (show some [fR x0] = some w from e6)
    exact (fF_b (r := 17) (by decide) rfl).mp e7
  clear m1 m2 m3 m4
  obtain ⟨a9, e9, A, hg9, q9, hq9⟩ := f0
  cases e9
  obtain ⟨g9, hg, hm⟩ := (fAt_of A s0).1 _ t0
  rw [sc0] at hg
  cases hg
  have hx := hg9.2.2.2.2 ic0 (by omega)
  rw [← hm _ (by omega), ← ec0] at hx
  have r0 : 0 ≤ (-1 * x3.toInt + 0) + 14 := by
    omega
  exact ⟨p, fun _ => rfl, ⟨(fun q h => by cases h), fun q h => (by cases h), (aAllc ⟨_, rfl, r0⟩ (fun f h => by cases h)), (fun f h => by cases h)⟩, [], List.mem_cons_self, fun f h => (by cases h)⟩
set_option maxRecDepth 8192 in
theorem rw_ruCN0 {K : Nat → Nat} {n : Nat} : aGho (fF K n) fa_T K n (fJX K n) ag_ruCN0 := by
  refine aGho_of ⟨rfl, rfl⟩ ?_
  intro p σ ρ hH hX hA hM
  have hG := aAG_of hA.1 (fun i e v he hv => (hA.2 i e v he hv).1)
  clear hA
  obtain ⟨v0, v1, v2, v3, rfl, g0, g1, g2, g3⟩ := fA_4 hG
  clear hG
  obtain ⟨x0, rfl, b0, d0⟩ := fG_ref (by decide) g0
  obtain ⟨x1, rfl, b1, d1⟩ := aG_int g1
  dsimp only at b1 d1
  obtain ⟨x2, rfl, b2, d2⟩ := aG_int g2
  dsimp only at b2 d2
  obtain ⟨x3, rfl, b3, d3⟩ := fG_ref (by decide) g3
  obtain ⟨m1, m2, m3, m4⟩ := hM
  obtain ⟨a0, c0, fs0, w0, e1, s0, t0, e4⟩ := m1 (0, 4, 1) (List.mem_of_getElem? (i := 0) rfl)
  obtain rfl : x0 = a0 := Sum.inl.inj (Option.some.inj (Sum.inr.inj (Sum.inr.inj (Option.some.inj (show some (fR x0) = some _ from e1)))))
  obtain rfl : fI x1 = w0 := Option.some.inj (show some (fI x1) = some w0 from e4)
  clear e1 e4
  obtain ⟨a1, c1, fs1, w1, e1, s1, t1, e4⟩ := m1 (0, 3, 3) (List.mem_of_getElem? (i := 1) rfl)
  obtain rfl : x0 = a1 := Sum.inl.inj (Option.some.inj (Sum.inr.inj (Sum.inr.inj (Option.some.inj (show some (fR x0) = some _ from e1)))))
  obtain rfl : fR x3 = w1 := Option.some.inj (show some (fR x3) = some w1 from e4)
  clear e1 e4
  clear m1 m2 m3 m4
  obtain ⟨g, w, -⟩ := fWt_mk hH b0 d0 s1 t1 b3 d3
  have q0 : fB K n (p) 131 [fR x0, fI x1, fI x2] σ := by
    exact ⟨_, _, _, x1, g, rfl, w, ⟨b0, d0, _, _, s0, t0⟩, by omega, by omega, by rw [Nat.sub_self]; show x2.toInt = ((0 : Nat) : Int); omega⟩
  exact ⟨p, fun _ => rfl, ⟨(fun q h => by cases h), fun q h => (by cases h), (fun f h => by cases h), (aAllc ⟨_, rfl, (fF_b (r := 2099) (by decide) rfl).mpr q0⟩ (fun f h => by cases h))⟩, [], List.mem_cons_self, fun f h => (by cases h)⟩
set_option maxRecDepth 8192 in
theorem rw_ruTC {K : Nat → Nat} {n : Nat} : aGho (fF K n) fa_T K n (fJX K n) ag_ruTC := by
  refine aGho_of ⟨rfl, rfl⟩ ?_
  intro p σ ρ hH hX hA hM
  have hG := aAG_of hA.1 (fun i e v he hv => (hA.2 i e v he hv).1)
  clear hA
  obtain ⟨v0, v1, v2, v3, rfl, g0, g1, g2, g3⟩ := fA_4 hG
  clear hG
  obtain ⟨x0, rfl, b0, d0⟩ := fG_ref (by decide) g0
  obtain ⟨x1, rfl, b1, d1⟩ := aG_int g1
  dsimp only at b1 d1
  obtain ⟨x2, rfl, b2, d2⟩ := aG_int g2
  dsimp only at b2 d2
  obtain ⟨x3, rfl, b3, d3⟩ := fG_ref (by decide) g3
  obtain ⟨m1, m2, m3, m4⟩ := hM
  obtain ⟨a0, c0, fs0, w0, e1, s0, t0, e4⟩ := m1 (0, 3, 3) (List.mem_of_getElem? (i := 0) rfl)
  obtain rfl : x0 = a0 := Sum.inl.inj (Option.some.inj (Sum.inr.inj (Sum.inr.inj (Option.some.inj (show some (fR x0) = some _ from e1)))))
  obtain rfl : fR x3 = w0 := Option.some.inj (show some (fR x3) = some w0 from e4)
  clear e1 e4
  obtain ⟨a, mc0, ty0, gc0, ic0, e1, sc0, jc0, e4, e5⟩ := m2 (3, ([(1, 1)], 0), 2) (List.mem_of_getElem? (i := 0) rfl)
  obtain rfl : x3 = a := Sum.inl.inj (Option.some.inj (Sum.inr.inj (Sum.inr.inj (Option.some.inj (show some (fR x3) = some _ from e1)))))
  obtain ⟨gc0, rfl⟩ : ∃ g, gc0 = .inl g := by
    rcases gc0 with g | g
    · exact ⟨g, rfl⟩
    · exact absurd (show some (fI x2) = some (.inr (.inl (g ic0))) from e5) (fun h => by cases h)
  have sc0 : σ x3 = .inl (ty0, mc0, .inl gc0) := sc0
  have ec0 : x2 = gc0 ic0 := Sum.inl.inj (Option.some.inj (show some (fI x2) = some _ from e5))
  have kc0 : (ic0 : Int) = (1 * x1.toInt + 0) + 0 := by
    obtain ⟨z, e6, e7⟩ := e4
    obtain rfl : (1 * x1.toInt + 0) = z := Option.some.inj (show some (1 * x1.toInt + 0) = some z from e6)
    exact e7
  clear e1 e4 e5
  obtain rfl : ic0 = x1.toInt.toNat := by omega
  clear m1 m2 m3 m4
  obtain ⟨g, w, e⟩ := fWt_mk hH b0 d0 s0 t0 b3 d3
  rw [sc0] at e
  cases e
  have q0 : fB K n (p) 134 [fR x0, fI x1, fI x2] σ := by
    exact ⟨_, _, _, gc0, rfl, w, ec0.symm⟩
  exact ⟨p, fun _ => rfl, ⟨(fun q h => by cases h), fun q h => (by cases h), (fun f h => by cases h), (aAllc ⟨_, rfl, (fF_b (r := 2147) (by decide) rfl).mpr q0⟩ (fun f h => by cases h))⟩, [], List.mem_cons_self, fun f h => (by cases h)⟩
set_option maxRecDepth 8192 in
theorem rw_ruCNa {K : Nat → Nat} {n : Nat} : aGho (fF K n) fa_T K n (fJX K n) ag_ruCNa := by
  refine aGho_of ⟨rfl, rfl⟩ ?_
  intro p σ ρ hH hX hA hM
  have hG := aAG_of hA.1 (fun i e v he hv => (hA.2 i e v he hv).1)
  clear hA
  obtain ⟨v0, v1, v2, v3, v4, rfl, g0, g1, g2, g3, g4⟩ := fA_5 hG
  clear hG
  obtain ⟨x0, rfl, b0, d0⟩ := fG_ref (by decide) g0
  obtain ⟨x1, rfl, b1, d1⟩ := aG_int g1
  dsimp only at b1 d1
  obtain ⟨x2, rfl, b2, d2⟩ := aG_int g2
  dsimp only at b2 d2
  obtain ⟨x3, rfl, b3, d3⟩ := aG_int g3
  dsimp only at b3 d3
  obtain ⟨x4, rfl, b4, d4⟩ := aG_int g4
  dsimp only at b4 d4
  obtain ⟨m1, m2, m3, m4⟩ := hM
  have l0 : 0 ≤ (1 * x3.toInt + (-1 * x1.toInt + 0)) + -1 := by
    obtain ⟨z, e6, e7⟩ := m3 ([(3, 1), (1, -1)], -1) (List.mem_of_getElem? (i := 0) rfl)
    obtain rfl : (1 * x3.toInt + (-1 * x1.toInt + 0)) = z := Option.some.inj (show some (1 * x3.toInt + (-1 * x1.toInt + 0)) = some z from e6)
    exact e7
  have l1 : 0 ≤ (-1 * x3.toInt + (1 * x1.toInt + 0)) + 1 := by
    obtain ⟨z, e6, e7⟩ := m3 ([(3, -1), (1, 1)], 1) (List.mem_of_getElem? (i := 1) rfl)
    obtain rfl : (-1 * x3.toInt + (1 * x1.toInt + 0)) = z := Option.some.inj (show some (-1 * x3.toInt + (1 * x1.toInt + 0)) = some z from e6)
    exact e7
  have l2 : 0 ≤ (1 * x4.toInt + 0) + -33 := by
    obtain ⟨z, e6, e7⟩ := m3 ([(4, 1)], -33) (List.mem_of_getElem? (i := 2) rfl)
    obtain rfl : (1 * x4.toInt + 0) = z := Option.some.inj (show some (1 * x4.toInt + 0) = some z from e6)
    exact e7
  have f0 : fB K n p 131 [fR x0, fI x1, fI x2] σ := by
    obtain ⟨w, e6, e7⟩ := m4 (2099, [0, 1, 2]) (List.mem_of_getElem? (i := 0) rfl)
    obtain rfl : [fR x0, fI x1, fI x2] = w := Option.some.inj (show some [fR x0, fI x1, fI x2] = some w from e6)
    exact (fF_b (r := 2099) (by decide) rfl).mp e7
  have f1 : fB K n p 134 [fR x0, fI x1, fI x4] σ := by
    obtain ⟨w, e6, e7⟩ := m4 (2147, [0, 1, 4]) (List.mem_of_getElem? (i := 1) rfl)
    obtain rfl : [fR x0, fI x1, fI x4] = w := Option.some.inj (show some [fR x0, fI x1, fI x4] = some w from e6)
    exact (fF_b (r := 2147) (by decide) rfl).mp e7
  clear m1 m2 m3 m4
  obtain ⟨a, i, c, s, g, e, w, o, l0, l1, z⟩ := f0
  cases e
  obtain ⟨a2, i2, c2, g2, e2, w2, z2⟩ := f1
  cases e2
  obtain rfl := fWt_u w2 w
  have q0 : fB K n (p) 131 [fR x0, fI x3, fI x2] σ := by
    refine ⟨_, _, _, s, g2, rfl, w, o, l0, by omega, ?_⟩
    rw [show x3.toInt.toNat - s.toInt.toNat = (x1.toInt.toNat - s.toInt.toNat) + 1 by omega, fSn_s, show s.toInt.toNat + (x1.toInt.toNat - s.toInt.toNat) = x1.toInt.toNat by omega, z2, if_neg (by omega)]
    exact z
  exact ⟨p, fun _ => rfl, ⟨(fun q h => by cases h), fun q h => (by cases h), (fun f h => by cases h), (aAllc ⟨_, rfl, (fF_b (r := 2099) (by decide) rfl).mpr q0⟩ (fun f h => by cases h))⟩, [], List.mem_cons_self, fun f h => (by cases h)⟩
set_option maxRecDepth 8192 in
theorem rw_ruCNb {K : Nat → Nat} {n : Nat} : aGho (fF K n) fa_T K n (fJX K n) ag_ruCNb := by
  refine aGho_of ⟨rfl, rfl⟩ ?_
  intro p σ ρ hH hX hA hM
  have hG := aAG_of hA.1 (fun i e v he hv => (hA.2 i e v he hv).1)
  clear hA
  obtain ⟨v0, v1, v2, v3, v4, rfl, g0, g1, g2, g3, g4⟩ := fA_5 hG
  clear hG
  obtain ⟨x0, rfl, b0, d0⟩ := fG_ref (by decide) g0
  obtain ⟨x1, rfl, b1, d1⟩ := aG_int g1
  dsimp only at b1 d1
  obtain ⟨x2, rfl, b2, d2⟩ := aG_int g2
  dsimp only at b2 d2
  obtain ⟨x3, rfl, b3, d3⟩ := aG_int g3
  dsimp only at b3 d3
  obtain ⟨x4, rfl, b4, d4⟩ := aG_int g4
  dsimp only at b4 d4
  obtain ⟨m1, m2, m3, m4⟩ := hM
  have l0 : 0 ≤ (1 * x3.toInt + (-1 * x1.toInt + 0)) + -1 := by
    obtain ⟨z, e6, e7⟩ := m3 ([(3, 1), (1, -1)], -1) (List.mem_of_getElem? (i := 0) rfl)
    obtain rfl : (1 * x3.toInt + (-1 * x1.toInt + 0)) = z := Option.some.inj (show some (1 * x3.toInt + (-1 * x1.toInt + 0)) = some z from e6)
    exact e7
  have l1 : 0 ≤ (-1 * x3.toInt + (1 * x1.toInt + 0)) + 1 := by
    obtain ⟨z, e6, e7⟩ := m3 ([(3, -1), (1, 1)], 1) (List.mem_of_getElem? (i := 1) rfl)
    obtain rfl : (-1 * x3.toInt + (1 * x1.toInt + 0)) = z := Option.some.inj (show some (-1 * x3.toInt + (1 * x1.toInt + 0)) = some z from e6)
    exact e7
  have l2 : 0 ≤ (-1 * x4.toInt + 0) + 31 := by
    obtain ⟨z, e6, e7⟩ := m3 ([(4, -1)], 31) (List.mem_of_getElem? (i := 2) rfl)
    obtain rfl : (-1 * x4.toInt + 0) = z := Option.some.inj (show some (-1 * x4.toInt + 0) = some z from e6)
    exact e7
  have f0 : fB K n p 131 [fR x0, fI x1, fI x2] σ := by
    obtain ⟨w, e6, e7⟩ := m4 (2099, [0, 1, 2]) (List.mem_of_getElem? (i := 0) rfl)
    obtain rfl : [fR x0, fI x1, fI x2] = w := Option.some.inj (show some [fR x0, fI x1, fI x2] = some w from e6)
    exact (fF_b (r := 2099) (by decide) rfl).mp e7
  have f1 : fB K n p 134 [fR x0, fI x1, fI x4] σ := by
    obtain ⟨w, e6, e7⟩ := m4 (2147, [0, 1, 4]) (List.mem_of_getElem? (i := 1) rfl)
    obtain rfl : [fR x0, fI x1, fI x4] = w := Option.some.inj (show some [fR x0, fI x1, fI x4] = some w from e6)
    exact (fF_b (r := 2147) (by decide) rfl).mp e7
  clear m1 m2 m3 m4
  obtain ⟨a, i, c, s, g, e, w, o, l0, l1, z⟩ := f0
  cases e
  obtain ⟨a2, i2, c2, g2, e2, w2, z2⟩ := f1
  cases e2
  obtain rfl := fWt_u w2 w
  have q0 : fB K n (p) 131 [fR x0, fI x3, fI x2] σ := by
    refine ⟨_, _, _, s, g2, rfl, w, o, l0, by omega, ?_⟩
    rw [show x3.toInt.toNat - s.toInt.toNat = (x1.toInt.toNat - s.toInt.toNat) + 1 by omega, fSn_s, show s.toInt.toNat + (x1.toInt.toNat - s.toInt.toNat) = x1.toInt.toNat by omega, z2, if_neg (by omega)]
    exact z
  exact ⟨p, fun _ => rfl, ⟨(fun q h => by cases h), fun q h => (by cases h), (fun f h => by cases h), (aAllc ⟨_, rfl, (fF_b (r := 2099) (by decide) rfl).mpr q0⟩ (fun f h => by cases h))⟩, [], List.mem_cons_self, fun f h => (by cases h)⟩
set_option maxRecDepth 8192 in
theorem rw_ruCNc {K : Nat → Nat} {n : Nat} : aGho (fF K n) fa_T K n (fJX K n) ag_ruCNc := by
  refine aGho_of ⟨rfl, rfl⟩ ?_
  intro p σ ρ hH hX hA hM
  have hG := aAG_of hA.1 (fun i e v he hv => (hA.2 i e v he hv).1)
  clear hA
  obtain ⟨v0, v1, v2, v3, v4, v5, rfl, g0, g1, g2, g3, g4, g5⟩ := fA_6 hG
  clear hG
  obtain ⟨x0, rfl, b0, d0⟩ := fG_ref (by decide) g0
  obtain ⟨x1, rfl, b1, d1⟩ := aG_int g1
  dsimp only at b1 d1
  obtain ⟨x2, rfl, b2, d2⟩ := aG_int g2
  dsimp only at b2 d2
  obtain ⟨x3, rfl, b3, d3⟩ := aG_int g3
  dsimp only at b3 d3
  obtain ⟨x4, rfl, b4, d4⟩ := aG_int g4
  dsimp only at b4 d4
  obtain ⟨x5, rfl, b5, d5⟩ := aG_int g5
  dsimp only at b5 d5
  obtain ⟨m1, m2, m3, m4⟩ := hM
  have l0 : 0 ≤ (1 * x3.toInt + (-1 * x1.toInt + 0)) + -1 := by
    obtain ⟨z, e6, e7⟩ := m3 ([(3, 1), (1, -1)], -1) (List.mem_of_getElem? (i := 0) rfl)
    obtain rfl : (1 * x3.toInt + (-1 * x1.toInt + 0)) = z := Option.some.inj (show some (1 * x3.toInt + (-1 * x1.toInt + 0)) = some z from e6)
    exact e7
  have l1 : 0 ≤ (-1 * x3.toInt + (1 * x1.toInt + 0)) + 1 := by
    obtain ⟨z, e6, e7⟩ := m3 ([(3, -1), (1, 1)], 1) (List.mem_of_getElem? (i := 1) rfl)
    obtain rfl : (-1 * x3.toInt + (1 * x1.toInt + 0)) = z := Option.some.inj (show some (-1 * x3.toInt + (1 * x1.toInt + 0)) = some z from e6)
    exact e7
  have l2 : 0 ≤ (1 * x5.toInt + (-1 * x2.toInt + 0)) + -1 := by
    obtain ⟨z, e6, e7⟩ := m3 ([(5, 1), (2, -1)], -1) (List.mem_of_getElem? (i := 2) rfl)
    obtain rfl : (1 * x5.toInt + (-1 * x2.toInt + 0)) = z := Option.some.inj (show some (1 * x5.toInt + (-1 * x2.toInt + 0)) = some z from e6)
    exact e7
  have l3 : 0 ≤ (-1 * x5.toInt + (1 * x2.toInt + 0)) + 1 := by
    obtain ⟨z, e6, e7⟩ := m3 ([(5, -1), (2, 1)], 1) (List.mem_of_getElem? (i := 3) rfl)
    obtain rfl : (-1 * x5.toInt + (1 * x2.toInt + 0)) = z := Option.some.inj (show some (-1 * x5.toInt + (1 * x2.toInt + 0)) = some z from e6)
    exact e7
  have f0 : fB K n p 131 [fR x0, fI x1, fI x2] σ := by
    obtain ⟨w, e6, e7⟩ := m4 (2099, [0, 1, 2]) (List.mem_of_getElem? (i := 0) rfl)
    obtain rfl : [fR x0, fI x1, fI x2] = w := Option.some.inj (show some [fR x0, fI x1, fI x2] = some w from e6)
    exact (fF_b (r := 2099) (by decide) rfl).mp e7
  have f1 : fB K n p 134 [fR x0, fI x1, fI x4] σ := by
    obtain ⟨w, e6, e7⟩ := m4 (2147, [0, 1, 4]) (List.mem_of_getElem? (i := 1) rfl)
    obtain rfl : [fR x0, fI x1, fI x4] = w := Option.some.inj (show some [fR x0, fI x1, fI x4] = some w from e6)
    exact (fF_b (r := 2147) (by decide) rfl).mp e7
  clear m1 m2 m3 m4
  obtain ⟨a, i, c, s, g, e, w, o, l0, l1, z⟩ := f0
  cases e
  obtain ⟨a2, i2, c2, g2, e2, w2, z2⟩ := f1
  cases e2
  obtain rfl := fWt_u w2 w
  have q0 : fB K n (p) 131 [fR x0, fI x3, fI x5] σ := by
    refine ⟨_, _, _, s, g2, rfl, w, o, l0, by omega, ?_⟩
    rw [show x3.toInt.toNat - s.toInt.toNat = (x1.toInt.toNat - s.toInt.toNat) + 1 by omega, fSn_s, show s.toInt.toNat + (x1.toInt.toNat - s.toInt.toNat) = x1.toInt.toNat by omega, z2, if_pos (by omega)]
    omega
  exact ⟨p, fun _ => rfl, ⟨(fun q h => by cases h), fun q h => (by cases h), (fun f h => by cases h), (aAllc ⟨_, rfl, (fF_b (r := 2099) (by decide) rfl).mpr q0⟩ (fun f h => by cases h))⟩, [], List.mem_cons_self, fun f h => (by cases h)⟩
set_option maxRecDepth 8192 in
theorem rw_ruSPr1 {K : Nat → Nat} {n : Nat} : aGho (fF K n) fa_T K n (fJX K n) ag_ruSPr1 := by
  refine aGho_of ⟨rfl, rfl⟩ ?_
  intro p σ ρ hH hX hA hM
  have hG := aAG_of hA.1 (fun i e v he hv => (hA.2 i e v he hv).1)
  clear hA
  obtain ⟨v0, v1, v2, v3, v4, v5, rfl, g0, g1, g2, g3, g4, g5⟩ := fA_6 hG
  clear hG
  obtain ⟨x0, rfl, b0, d0⟩ := fG_ref (by decide) g0
  obtain ⟨x1, rfl, b1, d1⟩ := aG_int g1
  dsimp only at b1 d1
  obtain ⟨x2, rfl, b2, d2⟩ := aG_int g2
  dsimp only at b2 d2
  obtain ⟨x3, rfl, b3, d3⟩ := aG_int g3
  dsimp only at b3 d3
  obtain ⟨x4, rfl, b4, d4⟩ := aG_int g4
  dsimp only at b4 d4
  obtain ⟨x5, rfl, b5, d5⟩ := aG_int g5
  dsimp only at b5 d5
  obtain ⟨m1, m2, m3, m4⟩ := hM
  obtain ⟨a0, c0, fs0, w0, e1, s0, t0, e4⟩ := m1 (0, 2, 5) (List.mem_of_getElem? (i := 0) rfl)
  obtain rfl : x0 = a0 := Sum.inl.inj (Option.some.inj (Sum.inr.inj (Sum.inr.inj (Option.some.inj (show some (fR x0) = some _ from e1)))))
  obtain rfl : fI x5 = w0 := Option.some.inj (show some (fI x5) = some w0 from e4)
  clear e1 e4
  have l0 : 0 ≤ (1 * x2.toInt + 0) + 0 := by
    obtain ⟨z, e6, e7⟩ := m3 ([(2, 1)], 0) (List.mem_of_getElem? (i := 0) rfl)
    obtain rfl : (1 * x2.toInt + 0) = z := Option.some.inj (show some (1 * x2.toInt + 0) = some z from e6)
    exact e7
  have l1 : 0 ≤ (-1 * x2.toInt + 0) + 0 := by
    obtain ⟨z, e6, e7⟩ := m3 ([(2, -1)], 0) (List.mem_of_getElem? (i := 1) rfl)
    obtain rfl : (-1 * x2.toInt + 0) = z := Option.some.inj (show some (-1 * x2.toInt + 0) = some z from e6)
    exact e7
  have l2 : 0 ≤ (1 * x4.toInt + (-1 * x1.toInt + 0)) + -1 := by
    obtain ⟨z, e6, e7⟩ := m3 ([(4, 1), (1, -1)], -1) (List.mem_of_getElem? (i := 2) rfl)
    obtain rfl : (1 * x4.toInt + (-1 * x1.toInt + 0)) = z := Option.some.inj (show some (1 * x4.toInt + (-1 * x1.toInt + 0)) = some z from e6)
    exact e7
  have l3 : 0 ≤ (-1 * x4.toInt + (1 * x1.toInt + 0)) + 1 := by
    obtain ⟨z, e6, e7⟩ := m3 ([(4, -1), (1, 1)], 1) (List.mem_of_getElem? (i := 3) rfl)
    obtain rfl : (-1 * x4.toInt + (1 * x1.toInt + 0)) = z := Option.some.inj (show some (-1 * x4.toInt + (1 * x1.toInt + 0)) = some z from e6)
    exact e7
  have l4 : 0 ≤ (1 * x5.toInt + (-1 * x1.toInt + 0)) + -1 := by
    obtain ⟨z, e6, e7⟩ := m3 ([(5, 1), (1, -1)], -1) (List.mem_of_getElem? (i := 4) rfl)
    obtain rfl : (1 * x5.toInt + (-1 * x1.toInt + 0)) = z := Option.some.inj (show some (1 * x5.toInt + (-1 * x1.toInt + 0)) = some z from e6)
    exact e7
  have f0 : fB K n p 131 [fR x0, fI x1, fI x2] σ := by
    obtain ⟨w, e6, e7⟩ := m4 (2099, [0, 1, 2]) (List.mem_of_getElem? (i := 0) rfl)
    obtain rfl : [fR x0, fI x1, fI x2] = w := Option.some.inj (show some [fR x0, fI x1, fI x2] = some w from e6)
    exact (fF_b (r := 2099) (by decide) rfl).mp e7
  have f1 : fB K n p 134 [fR x0, fI x1, fI x3] σ := by
    obtain ⟨w, e6, e7⟩ := m4 (2147, [0, 1, 3]) (List.mem_of_getElem? (i := 1) rfl)
    obtain rfl : [fR x0, fI x1, fI x3] = w := Option.some.inj (show some [fR x0, fI x1, fI x3] = some w from e6)
    exact (fF_b (r := 2147) (by decide) rfl).mp e7
  clear m1 m2 m3 m4
  obtain ⟨a, i, c, s, g, e, w, o, l0, l1, z⟩ := f0
  cases e
  obtain ⟨a2, i2, c2, g2, e2, w2, z2⟩ := f1
  cases e2
  obtain rfl := fWt_u w2 w
  have q0 : fB K n (p) 132 [fR x0, fI x4] σ := by
    refine ⟨_, _, rfl, g2, s, x5, w, o, ⟨b0, d0, _, _, s0, t0⟩, l0, by omega, Or.inr ⟨by omega, by omega, ?_, ?_⟩⟩
    · rw [show x4.toInt.toNat - 1 = x1.toInt.toNat by omega, z2]; omega
    · rw [show x4.toInt.toNat - 1 - s.toInt.toNat = x1.toInt.toNat - s.toInt.toNat by omega]; omega
  exact ⟨p, fun _ => rfl, ⟨(fun q h => by cases h), fun q h => (by cases h), (fun f h => by cases h), (aAllc ⟨_, rfl, (fF_b (r := 2114) (by decide) rfl).mpr q0⟩ (fun f h => by cases h))⟩, [], List.mem_cons_self, fun f h => (by cases h)⟩
set_option maxRecDepth 8192 in
theorem rw_ruSPn1 {K : Nat → Nat} {n : Nat} : aGho (fF K n) fa_T K n (fJX K n) ag_ruSPn1 := by
  refine aGho_of ⟨rfl, rfl⟩ ?_
  intro p σ ρ hH hX hA hM
  have hG := aAG_of hA.1 (fun i e v he hv => (hA.2 i e v he hv).1)
  clear hA
  obtain ⟨v0, v1, v2, v3, v4, rfl, g0, g1, g2, g3, g4⟩ := fA_5 hG
  clear hG
  obtain ⟨x0, rfl, b0, d0⟩ := fG_ref (by decide) g0
  obtain ⟨x1, rfl, b1, d1⟩ := aG_int g1
  dsimp only at b1 d1
  obtain ⟨x2, rfl, b2, d2⟩ := aG_int g2
  dsimp only at b2 d2
  obtain ⟨x3, rfl, b3, d3⟩ := aG_int g3
  dsimp only at b3 d3
  obtain ⟨x4, rfl, b4, d4⟩ := aG_int g4
  dsimp only at b4 d4
  obtain ⟨m1, m2, m3, m4⟩ := hM
  obtain ⟨a0, c0, fs0, w0, e1, s0, t0, e4⟩ := m1 (0, 2, 4) (List.mem_of_getElem? (i := 0) rfl)
  obtain rfl : x0 = a0 := Sum.inl.inj (Option.some.inj (Sum.inr.inj (Sum.inr.inj (Option.some.inj (show some (fR x0) = some _ from e1)))))
  obtain rfl : fI x4 = w0 := Option.some.inj (show some (fI x4) = some w0 from e4)
  clear e1 e4
  have l0 : 0 ≤ (1 * x1.toInt + (-1 * x4.toInt + 0)) + 0 := by
    obtain ⟨z, e6, e7⟩ := m3 ([(1, 1), (4, -1)], 0) (List.mem_of_getElem? (i := 0) rfl)
    obtain rfl : (1 * x1.toInt + (-1 * x4.toInt + 0)) = z := Option.some.inj (show some (1 * x1.toInt + (-1 * x4.toInt + 0)) = some z from e6)
    exact e7
  have l1 : 0 ≤ (-1 * x1.toInt + (1 * x4.toInt + 0)) + 0 := by
    obtain ⟨z, e6, e7⟩ := m3 ([(1, -1), (4, 1)], 0) (List.mem_of_getElem? (i := 1) rfl)
    obtain rfl : (-1 * x1.toInt + (1 * x4.toInt + 0)) = z := Option.some.inj (show some (-1 * x1.toInt + (1 * x4.toInt + 0)) = some z from e6)
    exact e7
  have l2 : 0 ≤ (-1 * x2.toInt + 0) + 0 := by
    obtain ⟨z, e6, e7⟩ := m3 ([(2, -1)], 0) (List.mem_of_getElem? (i := 2) rfl)
    obtain rfl : (-1 * x2.toInt + 0) = z := Option.some.inj (show some (-1 * x2.toInt + 0) = some z from e6)
    exact e7
  have f0 : fB K n p 131 [fR x0, fI x1, fI x2] σ := by
    obtain ⟨w, e6, e7⟩ := m4 (2099, [0, 1, 2]) (List.mem_of_getElem? (i := 0) rfl)
    obtain rfl : [fR x0, fI x1, fI x2] = w := Option.some.inj (show some [fR x0, fI x1, fI x2] = some w from e6)
    exact (fF_b (r := 2099) (by decide) rfl).mp e7
  clear m1 m2 m3 m4
  obtain ⟨a, i, c, s, g, e, w, o, l0, l1, z⟩ := f0
  cases e
  have q0 : fB K n (p) 132 [fR x0, fI x3] σ := by
    refine ⟨_, _, rfl, g, s, x4, w, o, ⟨b0, d0, _, _, s0, t0⟩, l0, by omega, Or.inl ⟨by omega, by omega, ?_⟩⟩
    rw [show x4.toInt.toNat = x1.toInt.toNat by omega]; omega
  exact ⟨p, fun _ => rfl, ⟨(fun q h => by cases h), fun q h => (by cases h), (fun f h => by cases h), (aAllc ⟨_, rfl, (fF_b (r := 2114) (by decide) rfl).mpr q0⟩ (fun f h => by cases h))⟩, [], List.mem_cons_self, fun f h => (by cases h)⟩
set_option maxRecDepth 8192 in
theorem rw_ruSPr2 {K : Nat → Nat} {n : Nat} : aGho (fF K n) fa_T K n (fJX K n) ag_ruSPr2 := by
  refine aGho_of ⟨rfl, rfl⟩ ?_
  intro p σ ρ hH hX hA hM
  have hG := aAG_of hA.1 (fun i e v he hv => (hA.2 i e v he hv).1)
  clear hA
  obtain ⟨v0, v1, v2, v3, v4, v5, rfl, g0, g1, g2, g3, g4, g5⟩ := fA_6 hG
  clear hG
  obtain ⟨x0, rfl, b0, d0⟩ := fG_ref (by decide) g0
  obtain ⟨x1, rfl, b1, d1⟩ := aG_int g1
  dsimp only at b1 d1
  obtain ⟨x2, rfl, b2, d2⟩ := aG_int g2
  dsimp only at b2 d2
  obtain ⟨x3, rfl, b3, d3⟩ := aG_int g3
  dsimp only at b3 d3
  obtain ⟨x4, rfl, b4, d4⟩ := aG_int g4
  dsimp only at b4 d4
  obtain ⟨x5, rfl, b5, d5⟩ := aG_int g5
  dsimp only at b5 d5
  obtain ⟨m1, m2, m3, m4⟩ := hM
  obtain ⟨a0, c0, fs0, w0, e1, s0, t0, e4⟩ := m1 (0, 2, 5) (List.mem_of_getElem? (i := 0) rfl)
  obtain rfl : x0 = a0 := Sum.inl.inj (Option.some.inj (Sum.inr.inj (Sum.inr.inj (Option.some.inj (show some (fR x0) = some _ from e1)))))
  obtain rfl : fI x5 = w0 := Option.some.inj (show some (fI x5) = some w0 from e4)
  clear e1 e4
  have l0 : 0 ≤ (1 * x2.toInt + 0) + -1 := by
    obtain ⟨z, e6, e7⟩ := m3 ([(2, 1)], -1) (List.mem_of_getElem? (i := 0) rfl)
    obtain rfl : (1 * x2.toInt + 0) = z := Option.some.inj (show some (1 * x2.toInt + 0) = some z from e6)
    exact e7
  have l1 : 0 ≤ (-1 * x2.toInt + 0) + 1 := by
    obtain ⟨z, e6, e7⟩ := m3 ([(2, -1)], 1) (List.mem_of_getElem? (i := 1) rfl)
    obtain rfl : (-1 * x2.toInt + 0) = z := Option.some.inj (show some (-1 * x2.toInt + 0) = some z from e6)
    exact e7
  have l2 : 0 ≤ (1 * x4.toInt + (-1 * x1.toInt + 0)) + -1 := by
    obtain ⟨z, e6, e7⟩ := m3 ([(4, 1), (1, -1)], -1) (List.mem_of_getElem? (i := 2) rfl)
    obtain rfl : (1 * x4.toInt + (-1 * x1.toInt + 0)) = z := Option.some.inj (show some (1 * x4.toInt + (-1 * x1.toInt + 0)) = some z from e6)
    exact e7
  have l3 : 0 ≤ (-1 * x4.toInt + (1 * x1.toInt + 0)) + 1 := by
    obtain ⟨z, e6, e7⟩ := m3 ([(4, -1), (1, 1)], 1) (List.mem_of_getElem? (i := 3) rfl)
    obtain rfl : (-1 * x4.toInt + (1 * x1.toInt + 0)) = z := Option.some.inj (show some (-1 * x4.toInt + (1 * x1.toInt + 0)) = some z from e6)
    exact e7
  have l4 : 0 ≤ (1 * x5.toInt + (-1 * x1.toInt + 0)) + -1 := by
    obtain ⟨z, e6, e7⟩ := m3 ([(5, 1), (1, -1)], -1) (List.mem_of_getElem? (i := 4) rfl)
    obtain rfl : (1 * x5.toInt + (-1 * x1.toInt + 0)) = z := Option.some.inj (show some (1 * x5.toInt + (-1 * x1.toInt + 0)) = some z from e6)
    exact e7
  have f0 : fB K n p 131 [fR x0, fI x1, fI x2] σ := by
    obtain ⟨w, e6, e7⟩ := m4 (2099, [0, 1, 2]) (List.mem_of_getElem? (i := 0) rfl)
    obtain rfl : [fR x0, fI x1, fI x2] = w := Option.some.inj (show some [fR x0, fI x1, fI x2] = some w from e6)
    exact (fF_b (r := 2099) (by decide) rfl).mp e7
  have f1 : fB K n p 134 [fR x0, fI x1, fI x3] σ := by
    obtain ⟨w, e6, e7⟩ := m4 (2147, [0, 1, 3]) (List.mem_of_getElem? (i := 1) rfl)
    obtain rfl : [fR x0, fI x1, fI x3] = w := Option.some.inj (show some [fR x0, fI x1, fI x3] = some w from e6)
    exact (fF_b (r := 2147) (by decide) rfl).mp e7
  clear m1 m2 m3 m4
  obtain ⟨a, i, c, s, g, e, w, o, l0, l1, z⟩ := f0
  cases e
  obtain ⟨a2, i2, c2, g2, e2, w2, z2⟩ := f1
  cases e2
  obtain rfl := fWt_u w2 w
  have q0 : fB K n (p) 133 [fR x0, fI x4] σ := by
    refine ⟨_, _, rfl, g2, s, x5, w, o, ⟨b0, d0, _, _, s0, t0⟩, l0, by omega, Or.inr ⟨by omega, by omega, ?_, ?_⟩⟩
    · rw [show x4.toInt.toNat - 1 = x1.toInt.toNat by omega, z2]; omega
    · rw [show x4.toInt.toNat - 1 - s.toInt.toNat = x1.toInt.toNat - s.toInt.toNat by omega]; omega
  exact ⟨p, fun _ => rfl, ⟨(fun q h => by cases h), fun q h => (by cases h), (fun f h => by cases h), (aAllc ⟨_, rfl, (fF_b (r := 2130) (by decide) rfl).mpr q0⟩ (fun f h => by cases h))⟩, [], List.mem_cons_self, fun f h => (by cases h)⟩
set_option maxRecDepth 8192 in
theorem rw_ruSPn2 {K : Nat → Nat} {n : Nat} : aGho (fF K n) fa_T K n (fJX K n) ag_ruSPn2 := by
  refine aGho_of ⟨rfl, rfl⟩ ?_
  intro p σ ρ hH hX hA hM
  have hG := aAG_of hA.1 (fun i e v he hv => (hA.2 i e v he hv).1)
  clear hA
  obtain ⟨v0, v1, v2, v3, v4, rfl, g0, g1, g2, g3, g4⟩ := fA_5 hG
  clear hG
  obtain ⟨x0, rfl, b0, d0⟩ := fG_ref (by decide) g0
  obtain ⟨x1, rfl, b1, d1⟩ := aG_int g1
  dsimp only at b1 d1
  obtain ⟨x2, rfl, b2, d2⟩ := aG_int g2
  dsimp only at b2 d2
  obtain ⟨x3, rfl, b3, d3⟩ := aG_int g3
  dsimp only at b3 d3
  obtain ⟨x4, rfl, b4, d4⟩ := aG_int g4
  dsimp only at b4 d4
  obtain ⟨m1, m2, m3, m4⟩ := hM
  obtain ⟨a0, c0, fs0, w0, e1, s0, t0, e4⟩ := m1 (0, 2, 4) (List.mem_of_getElem? (i := 0) rfl)
  obtain rfl : x0 = a0 := Sum.inl.inj (Option.some.inj (Sum.inr.inj (Sum.inr.inj (Option.some.inj (show some (fR x0) = some _ from e1)))))
  obtain rfl : fI x4 = w0 := Option.some.inj (show some (fI x4) = some w0 from e4)
  clear e1 e4
  have l0 : 0 ≤ (1 * x1.toInt + (-1 * x4.toInt + 0)) + 0 := by
    obtain ⟨z, e6, e7⟩ := m3 ([(1, 1), (4, -1)], 0) (List.mem_of_getElem? (i := 0) rfl)
    obtain rfl : (1 * x1.toInt + (-1 * x4.toInt + 0)) = z := Option.some.inj (show some (1 * x1.toInt + (-1 * x4.toInt + 0)) = some z from e6)
    exact e7
  have l1 : 0 ≤ (-1 * x1.toInt + (1 * x4.toInt + 0)) + 0 := by
    obtain ⟨z, e6, e7⟩ := m3 ([(1, -1), (4, 1)], 0) (List.mem_of_getElem? (i := 1) rfl)
    obtain rfl : (-1 * x1.toInt + (1 * x4.toInt + 0)) = z := Option.some.inj (show some (-1 * x1.toInt + (1 * x4.toInt + 0)) = some z from e6)
    exact e7
  have l2 : 0 ≤ (-1 * x2.toInt + 0) + 1 := by
    obtain ⟨z, e6, e7⟩ := m3 ([(2, -1)], 1) (List.mem_of_getElem? (i := 2) rfl)
    obtain rfl : (-1 * x2.toInt + 0) = z := Option.some.inj (show some (-1 * x2.toInt + 0) = some z from e6)
    exact e7
  have f0 : fB K n p 131 [fR x0, fI x1, fI x2] σ := by
    obtain ⟨w, e6, e7⟩ := m4 (2099, [0, 1, 2]) (List.mem_of_getElem? (i := 0) rfl)
    obtain rfl : [fR x0, fI x1, fI x2] = w := Option.some.inj (show some [fR x0, fI x1, fI x2] = some w from e6)
    exact (fF_b (r := 2099) (by decide) rfl).mp e7
  clear m1 m2 m3 m4
  obtain ⟨a, i, c, s, g, e, w, o, l0, l1, z⟩ := f0
  cases e
  have q0 : fB K n (p) 133 [fR x0, fI x3] σ := by
    refine ⟨_, _, rfl, g, s, x4, w, o, ⟨b0, d0, _, _, s0, t0⟩, l0, by omega, Or.inl ⟨by omega, by omega, ?_⟩⟩
    rw [show x4.toInt.toNat = x1.toInt.toNat by omega]; omega
  exact ⟨p, fun _ => rfl, ⟨(fun q h => by cases h), fun q h => (by cases h), (fun f h => by cases h), (aAllc ⟨_, rfl, (fF_b (r := 2130) (by decide) rfl).mpr q0⟩ (fun f h => by cases h))⟩, [], List.mem_cons_self, fun f h => (by cases h)⟩
set_option maxRecDepth 8192 in
theorem rw_ruSPx {K : Nat → Nat} {n : Nat} : aGho (fF K n) fa_T K n (fJX K n) ag_ruSPx := by
  refine aGho_of ⟨rfl, rfl⟩ ?_
  intro p σ ρ hH hX hA hM
  have hG := aAG_of hA.1 (fun i e v he hv => (hA.2 i e v he hv).1)
  clear hA
  obtain ⟨v0, v1, v2, v3, rfl, g0, g1, g2, g3⟩ := fA_4 hG
  clear hG
  obtain ⟨x0, rfl, b0, d0⟩ := fG_ref (by decide) g0
  obtain ⟨x1, rfl, b1, d1⟩ := aG_int g1
  dsimp only at b1 d1
  obtain ⟨x2, rfl, b2, d2⟩ := aG_int g2
  dsimp only at b2 d2
  obtain ⟨x3, rfl, b3, d3⟩ := aG_int g3
  dsimp only at b3 d3
  obtain ⟨m1, m2, m3, m4⟩ := hM
  obtain ⟨a0, c0, fs0, w0, e1, s0, t0, e4⟩ := m1 (0, 2, 3) (List.mem_of_getElem? (i := 0) rfl)
  obtain rfl : x0 = a0 := Sum.inl.inj (Option.some.inj (Sum.inr.inj (Sum.inr.inj (Option.some.inj (show some (fR x0) = some _ from e1)))))
  obtain rfl : fI x3 = w0 := Option.some.inj (show some (fI x3) = some w0 from e4)
  clear e1 e4
  have f0 : fB K n p 132 [fR x0, fI x1] σ := by
    obtain ⟨w, e6, e7⟩ := m4 (2114, [0, 1]) (List.mem_of_getElem? (i := 0) rfl)
    obtain rfl : [fR x0, fI x1] = w := Option.some.inj (show some [fR x0, fI x1] = some w from e6)
    exact (fF_b (r := 2114) (by decide) rfl).mp e7
  have f1 : fB K n p 133 [fR x0, fI x2] σ := by
    obtain ⟨w, e6, e7⟩ := m4 (2130, [0, 2]) (List.mem_of_getElem? (i := 1) rfl)
    obtain rfl : [fR x0, fI x2] = w := Option.some.inj (show some [fR x0, fI x2] = some w from e6)
    exact (fF_b (r := 2130) (by decide) rfl).mp e7
  clear m1 m2 m3 m4
  obtain ⟨a1, r1, e1, g1, s1, p1, w1, o1, v1, y1, y2, h1⟩ := f0
  cases e1
  obtain ⟨a2, r2, e2, g2, s2, p2, w2, o2, v2, y3, y4, h2⟩ := f1
  cases e2
  obtain rfl := fWt_u w1 w2
  obtain rfl := fOb_v o1 o2
  obtain rfl := fOb_v v1 v2
  obtain rfl := fOb_i v1 s0 t0
  have key : 1 ≤ x1.toInt ∧ x1.toInt ≤ x2.toInt - 1 ∧ x2.toInt ≤ x3.toInt := by
    rcases h2 with h2 | ⟨k1, k2, k3, k4⟩
    · omega
    · have hm2 := fSn_mo g1 s2.toInt.toNat (k := x2.toInt.toNat - 1 - s2.toInt.toNat) (l := x3.toInt.toNat - s2.toInt.toNat) (by omega)
      rcases h1 with ⟨j1, j2, j3⟩ | ⟨j1, j2, j3, j4⟩
      · omega
      · refine ⟨by omega, ?_, by omega⟩
        apply Int.not_lt.mp
        intro hlt
        have hm := fSn_mo g1 s2.toInt.toNat (k := x2.toInt.toNat - 1 - s2.toInt.toNat) (l := x1.toInt.toNat - 1 - s2.toInt.toNat) (by omega)
        omega
  have r0 : 0 ≤ (1 * x1.toInt + 0) + -1 := by
    omega
  have r1 : 0 ≤ (1 * x2.toInt + (-1 * x1.toInt + 0)) + -1 := by
    omega
  have r2 : 0 ≤ (1 * x3.toInt + (-1 * x2.toInt + 0)) + 0 := by
    omega
  exact ⟨p, fun _ => rfl, ⟨(fun q h => by cases h), fun q h => (by cases h), (aAllc ⟨_, rfl, r0⟩ (aAllc ⟨_, rfl, r1⟩ (aAllc ⟨_, rfl, r2⟩ (fun f h => by cases h)))), (fun f h => by cases h)⟩, [], List.mem_cons_self, fun f h => (by cases h)⟩
end
