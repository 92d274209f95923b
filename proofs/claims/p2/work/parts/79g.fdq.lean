/-! facts look at what dep says: the tree -/
theorem fSm_row {vs : List jv} {k : Nat} {x : FieldType × vp_A} {c' : jcell} (h : aSm vs (k, [], none) (.inl x) c') : c' = .inl x := by
  rcases h with h | ⟨k, f1, f2, e1, -⟩ | ⟨ty, m, g1, g2, f, z, e1, -⟩
  · exact h
  · cases e1
  · cases e1
theorem fSm_obj {vs : List jv} {k c f : Nat} {F : List Nat} {fs : List jv} {c' : jcell} (h : aSm vs (k, F, none) (.inr (c, fs)) c') : ∃ fs', c' = .inr (c, fs') ∧ ∀ f ∈ F, fs'[f]? = fs[f]? := by
  rcases h with h | ⟨k, f1, f2, e1, e2, e3, e4⟩ | ⟨ty, m, g1, g2, f, z, e1, -⟩
  · exact ⟨fs, h, fun _ _ => rfl⟩
  · cases e1
    exact ⟨f2, e2, e4⟩
  · cases e1
abbrev fHd (K : Nat → Nat) (n : Nat) (vs : List jv) (σ σ' : Nat → jcell) (D : List aDe) : Prop := ∀ b, b < n → ∀ q ∈ D, q.1 = K b → aSm vs q (σ b) (σ' b)
theorem fRo_dp {K : Nat → Nat} {n : Nat} {σ σ' : Nat → jcell} {vs : List jv} {D : List aDe} (h : fHd K n vs σ σ' D) {a f k : Nat} {g : Nat → Int32} {F : List Nat} (m1 : ((25, F, none) : aDe) ∈ D) (hf : f ∈ F) (m2 : ((k, [], none) : aDe) ∈ D) (h0 : fRo K n σ a f k g) : fRo K n σ' a f k g := by
  obtain ⟨ha, hk, fs, r, e1, e2, l1, l2, l3⟩ := h0
  have h1 := h a ha _ m1 hk.symm
  rw [e1] at h1
  obtain ⟨fs', y1, y2⟩ := fSm_obj (f := f) h1
  have h2 := h r l1 _ m2 l2.symm
  rw [l3] at h2
  exact ⟨ha, hk, fs', r, y1, by rw [y2 f hf]; exact e2, l1, l2, fSm_row h2⟩
theorem fRl_dp {K : Nat → Nat} {n : Nat} {σ σ' : Nat → jcell} {vs : List jv} {D : List aDe} (h : fHd K n vs σ σ' D) {a : Nat} {g : Nat → Int64} {F : List Nat} (m1 : ((25, F, none) : aDe) ∈ D) (hf : 7 ∈ F) (m2 : ((42, [], none) : aDe) ∈ D) (h0 : fRl K n σ a g) : fRl K n σ' a g := by
  obtain ⟨ha, hk, fs, r, e1, e2, l1, l2, l3⟩ := h0
  have h1 := h a ha _ m1 hk.symm
  rw [e1] at h1
  obtain ⟨fs', y1, y2⟩ := fSm_obj (f := 7) h1
  have h2 := h r l1 _ m2 l2.symm
  rw [l3] at h2
  exact ⟨ha, hk, fs', r, y1, by rw [y2 7 hf]; exact e2, l1, l2, fSm_row h2⟩
theorem fFi_dp {K : Nat → Nat} {n : Nat} {σ σ' : Nat → jcell} {vs : List jv} {D : List aDe} (h : fHd K n vs σ σ' D) {a f : Nat} {v : jv} {F : List Nat} (m1 : ((25, F, none) : aDe) ∈ D) (hf : f ∈ F) (h0 : fFi K n σ a f v) : fFi K n σ' a f v := by
  obtain ⟨ha, hk, fs, e1, e2⟩ := h0
  have h1 := h a ha _ m1 hk.symm
  rw [e1] at h1
  obtain ⟨fs', y1, y2⟩ := fSm_obj (f := f) h1
  exact ⟨ha, hk, fs', y1, by rw [y2 f hf]; exact e2⟩
theorem fRo_ds {K : Nat → Nat} {n : Nat} {σ σ' : Nat → jcell} {vs : List jv} {D : List aDe} (h : fHd K n vs σ σ' D) {a f k : Nat} {g : Nat → Int32} {F : List Nat} {fm : aF} {N : Int} (m1 : ((25, F, none) : aDe) ∈ D) (hf : f ∈ F) (m2 : ((k, [], some fm) : aDe) ∈ D) (hz : ∀ z, aVa vs fm z → z = N) (h0 : fRo K n σ a f k g) : ∃ g', fRo K n σ' a f k g' ∧ ∀ i : Nat, (i : Int) < N → g' i = g i := by
  obtain ⟨ha, hk, fs, r, e1, e2, l1, l2, l3⟩ := h0
  have h1 := h a ha _ m1 hk.symm
  rw [e1] at h1
  obtain ⟨fs', y1, y2⟩ := fSm_obj (f := f) h1
  have h2 := h r l1 _ m2 l2.symm
  rw [l3] at h2
  rcases h2 with h2 | ⟨k, f1, f2, e1, -⟩ | ⟨ty, m, g1, g2, f, z, q1, q2, q3, q4, q5⟩
  · exact ⟨g, ⟨ha, hk, fs', r, y1, by rw [y2 _ hf]; exact e2, l1, l2, h2⟩, fun _ _ => rfl⟩
  · cases e1
  · cases q3
    obtain rfl := Option.some.inj q1
    exact ⟨g2, ⟨ha, hk, fs', r, y1, by rw [y2 _ hf]; exact e2, l1, l2, q4⟩, fun i hi => q5 i (by rw [hz z q2]; exact hi)⟩
theorem fTk_cg {N : Nat} {t t' : fTy} {q : fQ} {h : Nat} (H : fTk N t q h) (e1 : ∀ i : Nat, (i : Int) < N + 1 → t'.1 i = t.1 i) (e2 : ∀ i : Nat, (i : Int) < N + 1 → t'.2.1 i = t.2.1 i) (e3 : ∀ i : Nat, (i : Int) < N + 1 → t'.2.2.1 i = t.2.2.1 i) (e4 : ∀ i : Nat, (i : Int) < N + 1 → t'.2.2.2.1 i = t.2.2.2.1 i) (e5 : t'.2.2.2.2 = t.2.2.2.2) : fTk N t' q h := by
  obtain ⟨k1, k2, pos, S, L, hq, g1, g2, g3, g4, g5⟩ := H
  refine ⟨k1, k2, pos, S, L, hq, g1, fun k h1 h2 => ?_, g3, fun k hk => ?_, fun k hk => ?_⟩
  · rw [e1 k (by omega), e2 k (by omega)]
    exact g2 k h1 h2
  · obtain ⟨a1, a2, a3⟩ := g4 k hk
    rw [e1 k (by omega), e2 k (by omega), e5]
    exact ⟨a1, a2, a3⟩
  · obtain ⟨b1, b2, b3⟩ := g5 k hk
    rw [e3 k (by omega)]
    exact ⟨b1, fCn_cg (fun c hc => e4 c (by have := (b3 c hc).2.1; omega)) b2, fun c hc => by rw [e1 c (by have := (b3 c hc).2.1; omega)]; exact b3 c hc⟩
theorem fTw_dp {K : Nat → Nat} {n : Nat} {σ σ' : Nat → jcell} {vs : List jv} {D : List aDe} (h : fHd K n vs σ σ' D) {a : Nat} {t : fTy} {F : List Nat} (m1 : ((25, F, none) : aDe) ∈ D) (hf : ∀ f ∈ [3, 4, 5, 6, 7], f ∈ F) (m2 : ∀ k ∈ [38, 39, 40, 41, 42], ((k, [], none) : aDe) ∈ D) (w : fTw K n σ a t) : fTw K n σ' a t :=
  ⟨fRo_dp h m1 (hf _ (by decide)) (m2 _ (by decide)) w.1, fRo_dp h m1 (hf _ (by decide)) (m2 _ (by decide)) w.2.1, fRo_dp h m1 (hf _ (by decide)) (m2 _ (by decide)) w.2.2.1, fRo_dp h m1 (hf _ (by decide)) (m2 _ (by decide)) w.2.2.2.1, fRl_dp h m1 (hf _ (by decide)) (m2 _ (by decide)) w.2.2.2.2⟩
theorem fAt_dq {K : Nat → Nat} {n : Nat} {σ σ' : Nat → jcell} {vs : List jv} {D : List aDe} (h : fHd K n vs σ σ' D) (hs : ∀ q ∈ ([(26, [0, 2, 3, 4, 5, 8], none), (27, [], none), (30, [], none)] : List aDe), q ∈ D) {a : Nat} {men F : Nat → Int32} (h0 : fAt K n σ a men F) : fAt K n σ' a men F := fAt_dp (vs := vs) (fun b hb q hq hk => h b hb q (hs q hq) hk) h0
theorem fTw_ds {K : Nat → Nat} {n : Nat} {σ σ' : Nat → jcell} {ws : List jv} {j a : Nat} {h0 N : Int32} (h : fHd K n ws σ σ' [(25, [3, 4, 5, 6, 7], none), (38, [], some ([(2, 1)], 1)), (39, [], some ([(2, 1)], 1)), (40, [], some ([(2, 1)], 1)), (41, [], some ([(2, 1)], 1)), (42, [], none)]) (e : ws.take j = [fR a, fI h0, fI N]) {t : fTy} {q : fQ} {hh : Nat} (hN : 0 ≤ N.toInt) (w : fTw K n σ a t) : ∃ t', fTw K n σ' a t' ∧ t'.2.2.2.2 = t.2.2.2.2 ∧ ∀ i : Nat, (i : Int) < N.toInt + 1 → t'.1 i = t.1 i ∧ t'.2.1 i = t.2.1 i ∧ t'.2.2.1 i = t.2.2.1 i ∧ t'.2.2.2.1 i = t.2.2.2.1 i := by
  have hz : ∀ z, aVa ws ([(2, 1)], 1) z → z = N.toInt + 1 := fun z hz => fVa1 (x := N) hz (fTak (j := j) (by rw [e]; rfl))
  obtain ⟨g1, a1, b1⟩ := fRo_ds h (fm := ([(2, 1)], 1)) (List.mem_of_getElem? (i := 0) rfl) (by decide) (List.mem_of_getElem? (i := 1) rfl) hz w.1
  obtain ⟨g2, a2, b2⟩ := fRo_ds h (fm := ([(2, 1)], 1)) (List.mem_of_getElem? (i := 0) rfl) (by decide) (List.mem_of_getElem? (i := 2) rfl) hz w.2.1
  obtain ⟨g3, a3, b3⟩ := fRo_ds h (fm := ([(2, 1)], 1)) (List.mem_of_getElem? (i := 0) rfl) (by decide) (List.mem_of_getElem? (i := 3) rfl) hz w.2.2.1
  obtain ⟨g4, a4, b4⟩ := fRo_ds h (fm := ([(2, 1)], 1)) (List.mem_of_getElem? (i := 0) rfl) (by decide) (List.mem_of_getElem? (i := 4) rfl) hz w.2.2.2.1
  have a5 := fRl_dp h (List.mem_of_getElem? (i := 0) rfl) (by decide) (List.mem_of_getElem? (i := 5) rfl) w.2.2.2.2
  exact ⟨(g1, g2, g3, g4, t.2.2.2.2), ⟨a1, a2, a3, a4, a5⟩, rfl, fun i hi => ⟨b1 i hi, b2 i hi, b3 i hi, b4 i hi⟩⟩
theorem fEn_dp {K : Nat → Nat} {n : Nat} {σ σ' : Nat → jcell} {vs : List jv} {a : Nat} {P : Int → Prop} {Q : Int32 → Prop} {D : List aDe} {o : Option aF} (h : fHd K n vs σ σ' D) (m1 : ((24, [], o) : aDe) ∈ D) (hz : ∀ (fm : aF) (z : Int) (k : Nat), o = some fm → aVa vs fm z → P k → (k : Int) < z) (hk : K a = 24) (h0 : fLl K n σ a P Q) : fLl K n σ' a P Q := by
  obtain ⟨h1, h2, m, g, h3, h4⟩ := h0
  rcases h a h1 _ m1 hk.symm with e | ⟨k, f1, f2, e1, -⟩ | ⟨ty, m2, g1, g2, f, z, e1, e2, e3, e4, e5⟩
  · exact ⟨h1, h2, m, g, by rw [e]; exact h3, h4⟩
  · rw [h3] at e1; cases e1
  · rw [h3] at e3
    cases e3
    exact ⟨h1, h2, _, g2, e4, fun k hk => by rw [e5 k (hz f z k e1 e2 hk)]; exact h4 k hk⟩
theorem fPb_dp {K : Nat → Nat} {n : Nat} {σ σ' : Nat → jcell} {vs : List jv} {D : List aDe} (h : fHd K n vs σ σ' D) {a b : Nat} (m1 : ((19, [7], none) : aDe) ∈ D) (h0 : fPb K n σ a b) : fPb K n σ' a b := by
  obtain ⟨ha, hk, c, fs, e1, e2⟩ := h0
  have h1 := h a ha _ m1 hk.symm
  rw [e1] at h1
  obtain ⟨fs', y1, y2⟩ := fSm_obj (f := 7) h1
  exact ⟨ha, hk, c, fs', y1, by rw [y2 7 (by decide)]; exact e2⟩
theorem fOb_dp {K : Nat → Nat} {n : Nat} {σ σ' : Nat → jcell} {vs : List jv} {D : List aDe} (h : fHd K n vs σ σ' D) {a k f : Nat} {v : jv} {F : List Nat} (m1 : ((k, F, none) : aDe) ∈ D) (hf : f ∈ F) (h0 : fOb K n σ a k f v) : fOb K n σ' a k f v := by
  obtain ⟨ha, hk, c, fs, e1, e2⟩ := h0
  have h1 := h a ha _ m1 hk.symm
  rw [e1] at h1
  obtain ⟨fs', y1, y2⟩ := fSm_obj (f := f) h1
  exact ⟨ha, hk, c, fs', y1, by rw [y2 f hf]; exact e2⟩
theorem fOu_dp {K : Nat → Nat} {n : Nat} {σ σ' : Nat → jcell} {vs : List jv} {D : List aDe} (h : fHd K n vs σ σ' D) {a : Nat} {g : Nat → Int32} {F : List Nat} (m1 : ((11, F, none) : aDe) ∈ D) (hf : 2 ∈ F) (m2 : ((12, [], none) : aDe) ∈ D) (h0 : fOu K n σ a g) : fOu K n σ' a g := by
  obtain ⟨r, o, l1, l2, l3⟩ := h0
  have h2 := h r l1 _ m2 l2.symm
  rw [l3] at h2
  exact ⟨r, fOb_dp h m1 hf o, l1, l2, fSm_row h2⟩
theorem fTG_dp {K : Nat → Nat} {n : Nat} {σ σ' : Nat → jcell} {vs : List jv} {D : List aDe} (h : fHd K n vs σ σ' D) (hs : ∀ q ∈ ([(25, [3, 4, 5, 6, 7, 0, 1, 2], none), (38, [], none), (39, [], none), (40, [], none), (41, [], none), (42, [], none), (26, [0, 2, 3, 4, 5, 8], none), (27, [], none), (30, [], none)] : List aDe), q ∈ D) {a : Nat} (h0 : fTG K n σ a) : fTG K n σ' a := by
  have h : fHd K n vs σ σ' [(25, [3, 4, 5, 6, 7, 0, 1, 2], none), (38, [], none), (39, [], none), (40, [], none), (41, [], none), (42, [], none), (26, [0, 2, 3, 4, 5, 8], none), (27, [], none), (30, [], none)] := fun b hb q hq hk => h b hb q (hs q hq) hk
  obtain ⟨b, h0, N, t, q, w, u0, u1, u2, r1, r2, H, A⟩ := h0
  exact ⟨b, h0, N, t, q, fTw_dp h (List.mem_of_getElem? (i := 0) rfl) (by decide) (by decide) w, fFi_dp h (List.mem_of_getElem? (i := 0) rfl) (by decide) u0, fFi_dp h (List.mem_of_getElem? (i := 0) rfl) (by decide) u1, fFi_dp h (List.mem_of_getElem? (i := 0) rfl) (by decide) u2, r1, r2, H, fAt_dq h (by decide) A⟩
theorem fBf_dp {K : Nat → Nat} {n : Nat} {σ σ' : Nat → jcell} {vs : List jv} {D : List aDe} (h : fHd K n vs σ σ' D) (hs : ∀ q ∈ ([(26, [0, 2, 3, 4, 5, 8], none), (27, [], none), (30, [], none)] : List aDe), q ∈ D) {b : Nat} (h0 : fBf K n σ b) : fBf K n σ' b := by
  obtain ⟨q, A, g⟩ := h0
  exact ⟨q, fAt_dq h hs A, g⟩
theorem fWt_dp {K : Nat → Nat} {n : Nat} {σ σ' : Nat → jcell} {vs : List jv} {D : List aDe} (h : fHd K n vs σ σ' D) {a : Nat} {g : Nat → Int32} {F : List Nat} (m1 : ((6, F, none) : aDe) ∈ D) (hf : 3 ∈ F) (m2 : ((1, [], none) : aDe) ∈ D) (h0 : fWt K n σ a g) : fWt K n σ' a g := by
  obtain ⟨r, o, l1, l2, l3⟩ := h0
  have h2 := h r l1 _ m2 l2.symm
  rw [l3] at h2
  exact ⟨r, fOb_dp h m1 hf o, l1, l2, fSm_row h2⟩
theorem fSp_dp {K : Nat → Nat} {n : Nat} {σ σ' : Nat → jcell} {vs : List jv} (h : fHd K n vs σ σ' [(6, [3, 4, 2], none), (1, [], none)]) {a m : Nat} {r : Int32} (h0 : fSp K n σ a m r) : fSp K n σ' a m r := by
  obtain ⟨g, s, p, w, o1, o2, l⟩ := h0
  exact ⟨g, s, p, fWt_dp h (List.mem_of_getElem? (i := 0) rfl) (by decide) (List.mem_of_getElem? (i := 1) rfl) w, fOb_dp h (List.mem_of_getElem? (i := 0) rfl) (by decide) o1, fOb_dp h (List.mem_of_getElem? (i := 0) rfl) (by decide) o2, l⟩
theorem fMe_dp {K : Nat → Nat} {n : Nat} {σ σ' : Nat → jcell} {vs : List jv} {D : List aDe} (h : fHd K n vs σ σ' D) {a : Nat} {g : Nat → Int32} {F : List Nat} (m1 : ((26, F, none) : aDe) ∈ D) (hf : 0 ∈ F) (m2 : ((27, [], none) : aDe) ∈ D) (h0 : fMe K n σ a g) : fMe K n σ' a g := by
  obtain ⟨r, o, l1, l2, l3⟩ := h0
  have h2 := h r l1 _ m2 l2.symm
  rw [l3] at h2
  exact ⟨r, fOb_dp h m1 hf o, l1, l2, fSm_row h2⟩
theorem fWx_dp {K : Nat → Nat} {n : Nat} {σ σ' : Nat → jcell} {vs : List jv} {D : List aDe} (h : fHd K n vs σ σ' D) {a : Nat} {g : Nat → Int32} {F : List Nat} (m1 : ((26, F, none) : aDe) ∈ D) (hf : 8 ∈ F) (m2 : ((30, [], none) : aDe) ∈ D) (h0 : fWx K n σ a g) : fWx K n σ' a g := by
  obtain ⟨r0, r, w, o, l1, l2, l3, l4⟩ := h0
  have h2 := h r l1 _ m2 l2.symm
  rw [l3] at h2
  exact ⟨r0, r, w, fOb_dp h m1 hf o, l1, l2, fSm_row h2, l4⟩
theorem fRg_dp {K : Nat → Nat} {n : Nat} {σ σ' : Nat → jcell} {vs : List jv} (h : fHd K n vs σ σ' [(26, [0, 3], none), (27, [], none)]) {b : Nat} (h0 : fRg K n σ b) : fRg K n σ' b := by
  obtain ⟨g, R, w, o, l⟩ := h0
  exact ⟨g, R, fMe_dp h (List.mem_of_getElem? (i := 0) rfl) (by decide) (List.mem_of_getElem? (i := 1) rfl) w, fOb_dp h (List.mem_of_getElem? (i := 0) rfl) (by decide) o, l⟩
theorem fPs_dp {K : Nat → Nat} {n : Nat} {σ σ' : Nat → jcell} {vs : List jv} (h : fHd K n vs σ σ' [(26, [0, 4, 2], none), (27, [], none)]) {b : Nat} (h0 : fPs K n σ b) : fPs K n σ' b := by
  obtain ⟨g, P, S, w, o, o2, l⟩ := h0
  exact ⟨g, P, S, fMe_dp h (List.mem_of_getElem? (i := 0) rfl) (by decide) (List.mem_of_getElem? (i := 1) rfl) w, fOb_dp h (List.mem_of_getElem? (i := 0) rfl) (by decide) o, fOb_dp h (List.mem_of_getElem? (i := 0) rfl) (by decide) o2, l⟩
theorem fPc_dp {K : Nat → Nat} {n : Nat} {σ σ' : Nat → jcell} {vs : List jv} {D : List aDe} (h : fHd K n vs σ σ' D) {a : Nat} {g : Nat → Int32} {F : List Nat} (m1 : ((19, F, none) : aDe) ∈ D) (hf : 4 ∈ F) (m2 : ((20, [], none) : aDe) ∈ D) (h0 : fPc K n σ a g) : fPc K n σ' a g := by
  obtain ⟨r, o, l1, l2, l3⟩ := h0
  have h2 := h r l1 _ m2 l2.symm
  rw [l3] at h2
  exact ⟨r, fOb_dp h m1 hf o, l1, l2, fSm_row h2⟩
theorem fPu_dp {K : Nat → Nat} {n : Nat} {σ σ' : Nat → jcell} {vs : List jv} {D : List aDe} (h : fHd K n vs σ σ' D) {a : Nat} {g : Nat → Int64} {F : List Nat} (m1 : ((19, F, none) : aDe) ∈ D) (hf : 5 ∈ F) (m2 : ((21, [], none) : aDe) ∈ D) (h0 : fPu K n σ a g) : fPu K n σ' a g := by
  obtain ⟨r, o, l1, l2, l3⟩ := h0
  have h2 := h r l1 _ m2 l2.symm
  rw [l3] at h2
  exact ⟨r, fOb_dp h m1 hf o, l1, l2, fSm_row h2⟩
theorem fD16 : ∀ j, j < 33 → fg_dep.getD (160 + j) [] = [(26, [0], none), (27, [], none)]
  | 0, _ => rfl
  | 1, _ => rfl
  | 2, _ => rfl
  | 3, _ => rfl
  | 4, _ => rfl
  | 5, _ => rfl
  | 6, _ => rfl
  | 7, _ => rfl
  | 8, _ => rfl
  | 9, _ => rfl
  | 10, _ => rfl
  | 11, _ => rfl
  | 12, _ => rfl
  | 13, _ => rfl
  | 14, _ => rfl
  | 15, _ => rfl
  | 16, _ => rfl
  | 17, _ => rfl
  | 18, _ => rfl
  | 19, _ => rfl
  | 20, _ => rfl
  | 21, _ => rfl
  | 22, _ => rfl
  | 23, _ => rfl
  | 24, _ => rfl
  | 25, _ => rfl
  | 26, _ => rfl
  | 27, _ => rfl
  | 28, _ => rfl
  | 29, _ => rfl
  | 30, _ => rfl
  | 31, _ => rfl
  | 32, _ => rfl
  | j + 33, h => absurd h (by omega)
theorem fD160 (k : Nat) (h1 : k < 193) (h2 : 160 ≤ k) : fg_dep.getD k [] = [(26, [0], none), (27, [], none)] := by
  have h3 := fD16 (k - 160) (by omega)
  rw [show 160 + (k - 160) = k by omega] at h3
  exact h3
theorem fDeq : ∀ k, k < 60 → fg_dep.getD k [] = fb_dep.getD k []
  | 0, _ => rfl
  | 1, _ => rfl
  | 2, _ => rfl
  | 3, _ => rfl
  | 4, _ => rfl
  | 5, _ => rfl
  | 6, _ => rfl
  | 7, _ => rfl
  | 8, _ => rfl
  | 9, _ => rfl
  | 10, _ => rfl
  | 11, _ => rfl
  | 12, _ => rfl
  | 13, _ => rfl
  | 14, _ => rfl
  | 15, _ => rfl
  | 16, _ => rfl
  | 17, _ => rfl
  | 18, _ => rfl
  | 19, _ => rfl
  | 20, _ => rfl
  | 21, _ => rfl
  | 22, _ => rfl
  | 23, _ => rfl
  | 24, _ => rfl
  | 25, _ => rfl
  | 26, _ => rfl
  | 27, _ => rfl
  | 28, _ => rfl
  | 29, _ => rfl
  | 30, _ => rfl
  | 31, _ => rfl
  | 32, _ => rfl
  | 33, _ => rfl
  | 34, _ => rfl
  | 35, _ => rfl
  | 36, _ => rfl
  | 37, _ => rfl
  | 38, _ => rfl
  | 39, _ => rfl
  | 40, _ => rfl
  | 41, _ => rfl
  | 42, _ => rfl
  | 43, _ => rfl
  | 44, _ => rfl
  | 45, _ => rfl
  | 46, _ => rfl
  | 47, _ => rfl
  | 48, _ => rfl
  | 49, _ => rfl
  | 50, _ => rfl
  | 51, _ => rfl
  | 52, _ => rfl
  | 53, _ => rfl
  | 54, _ => rfl
  | 55, _ => rfl
  | 56, _ => rfl
  | 57, _ => rfl
  | 58, _ => rfl
  | 59, _ => rfl
  | k + 60, h => absurd h (by omega)
theorem fC_dp {K : Nat → Nat} {n : Nat} {k : Nat} {vs ws : List jv} {σ σ' : Nat → jcell} (hk : k < 200) (h : fHd K n ws σ σ' (fg_dep.getD k [])) (HV : ∀ (a b : jv), vs = [a, b] → ws[1]? = some b) (hb : fC K n k vs σ) : fC K n k vs σ' := by
  unfold fC at hb ⊢
  rw [if_neg (by omega)] at hb ⊢
  by_cases c : 160 ≤ k
  · rw [if_pos c] at hb ⊢
    obtain ⟨c2, b, g, e, w, l⟩ := hb
    rw [fD160 _ (by omega) c] at h
    exact ⟨c2, b, g, e, fMe_dp h (List.mem_of_getElem? (i := 0) rfl) (by decide) (List.mem_of_getElem? (i := 1) rfl) w, l⟩
  rw [if_neg c] at hb ⊢
  clear c hk
  unfold fC0 at hb
  split at hb
  · obtain ⟨a, b, h0, N, t, q, e, w, u0, u1, u2, r1, r2, H, A⟩ := hb
    exact ⟨a, b, h0, N, t, q, e, fTw_dp h (List.mem_of_getElem? (i := 0) rfl) (by decide) (by decide) w, fFi_dp h (List.mem_of_getElem? (i := 0) rfl) (by decide) u0, fFi_dp h (List.mem_of_getElem? (i := 0) rfl) (by decide) u1, fFi_dp h (List.mem_of_getElem? (i := 0) rfl) (by decide) u2, r1, r2, H, fAt_dq h (by decide) A⟩
  · obtain ⟨a, b, h0, N, t, q, e, w, u1, r1, r2, H, A⟩ := hb
    exact ⟨a, b, h0, N, t, q, e, fTw_dp h (List.mem_of_getElem? (i := 0) rfl) (by decide) (by decide) w, fFi_dp h (List.mem_of_getElem? (i := 0) rfl) (by decide) u1, r1, r2, H, fAt_dq h (by decide) A⟩
  · obtain ⟨a, l, x, N, pa, pt, e, ⟨wp, wt, un⟩, g⟩ := hb
    exact ⟨a, l, x, N, pa, pt, e, ⟨fRo_dp h (List.mem_of_getElem? (i := 0) rfl) (by decide) (List.mem_of_getElem? (i := 1) rfl) wp, fRo_dp h (List.mem_of_getElem? (i := 0) rfl) (by decide) (List.mem_of_getElem? (i := 2) rfl) wt, fFi_dp h (List.mem_of_getElem? (i := 0) rfl) (by decide) un⟩, g⟩
  · obtain ⟨a, l, x, N, pa, pt, e, ⟨wp, wt, un⟩, g⟩ := hb
    exact ⟨a, l, x, N, pa, pt, e, ⟨fRo_dp h (List.mem_of_getElem? (i := 0) rfl) (by decide) (List.mem_of_getElem? (i := 1) rfl) wp, fRo_dp h (List.mem_of_getElem? (i := 0) rfl) (by decide) (List.mem_of_getElem? (i := 2) rfl) wt, fFi_dp h (List.mem_of_getElem? (i := 0) rfl) (by decide) un⟩, g⟩
  · obtain ⟨a, l, N, pa, pt, e, ⟨wp, wt, un⟩, g⟩ := hb
    exact ⟨a, l, N, pa, pt, e, ⟨fRo_dp h (List.mem_of_getElem? (i := 0) rfl) (by decide) (List.mem_of_getElem? (i := 1) rfl) wp, fRo_dp h (List.mem_of_getElem? (i := 0) rfl) (by decide) (List.mem_of_getElem? (i := 2) rfl) wt, fFi_dp h (List.mem_of_getElem? (i := 0) rfl) (by decide) un⟩, g⟩
  · obtain ⟨a, c, h0, N, pa, e, w, u, g⟩ := hb
    exact ⟨a, c, h0, N, pa, e, fRo_dp h (List.mem_of_getElem? (i := 0) rfl) (by decide) (List.mem_of_getElem? (i := 1) rfl) w, fFi_dp h (List.mem_of_getElem? (i := 0) rfl) (by decide) u, g⟩
  · obtain ⟨a, c, h0, m, N, pa, mv, e, w, u, z, g⟩ := hb
    exact ⟨a, c, h0, m, N, pa, mv, e, fRo_dp h (List.mem_of_getElem? (i := 0) rfl) (by decide) (List.mem_of_getElem? (i := 1) rfl) w, fFi_dp h (List.mem_of_getElem? (i := 0) rfl) (by decide) u, fRo_dp h (List.mem_of_getElem? (i := 0) rfl) (by decide) (List.mem_of_getElem? (i := 2) rfl) z, g⟩
  · obtain ⟨a, c, h0, m, e, hb | ⟨N, pa, mv, w, u, z, g⟩⟩ := hb
    · exact ⟨a, c, h0, m, e, Or.inl hb⟩
    · exact ⟨a, c, h0, m, e, Or.inr ⟨N, pa, mv, fRo_dp h (List.mem_of_getElem? (i := 0) rfl) (by decide) (List.mem_of_getElem? (i := 1) rfl) w, fFi_dp h (List.mem_of_getElem? (i := 0) rfl) (by decide) u, fRo_dp h (List.mem_of_getElem? (i := 0) rfl) (by decide) (List.mem_of_getElem? (i := 2) rfl) z, g⟩⟩
  · obtain ⟨a, h0, c, i, N, pa, f1, af, L, e, w, y, z, u, g⟩ := hb
    exact ⟨a, h0, c, i, N, pa, f1, af, L, e, fRo_dp h (List.mem_of_getElem? (i := 0) rfl) (by decide) (List.mem_of_getElem? (i := 1) rfl) w, fRo_dp h (List.mem_of_getElem? (i := 0) rfl) (by decide) (List.mem_of_getElem? (i := 2) rfl) y, fRo_dp h (List.mem_of_getElem? (i := 0) rfl) (by decide) (List.mem_of_getElem? (i := 3) rfl) z, fFi_dp h (List.mem_of_getElem? (i := 0) rfl) (by decide) u, g⟩
  · obtain ⟨a, c, h0, m, t, e, w, g⟩ := hb
    exact ⟨a, c, h0, m, t, e, fTw_dp h (List.mem_of_getElem? (i := 0) rfl) (by decide) (by decide) w, g⟩
  · exact hb
  · exact hb
  · obtain ⟨a, c, v, af, e, w, g⟩ := hb
    exact ⟨a, c, v, af, e, fRo_dp h (List.mem_of_getElem? (i := 0) rfl) (by decide) (List.mem_of_getElem? (i := 1) rfl) w, g⟩
  · obtain ⟨a, b, e, g⟩ := hb
    exact ⟨a, b, e, fPb_dp h (List.mem_of_getElem? (i := 0) rfl) g⟩
  · obtain ⟨x, a, b, e, hb | g⟩ := hb
    · exact ⟨x, a, b, e, Or.inl hb⟩
    · exact ⟨x, a, b, e, Or.inr (fPb_dp h (List.mem_of_getElem? (i := 0) rfl) g)⟩
  · obtain ⟨a, b, c, N, t, q, e, w, u1, r1, r2, r3, H, A⟩ := hb
    exact ⟨a, b, c, N, t, q, e, fTw_dp h (List.mem_of_getElem? (i := 0) rfl) (by decide) (by decide) w, fFi_dp h (List.mem_of_getElem? (i := 0) rfl) (by decide) u1, r1, r2, r3, H, fAt_dq h (by decide) A⟩
  · obtain ⟨a, o, nd, N, pa, f1, af, M, e, w, y, z, u, g⟩ := hb
    exact ⟨a, o, nd, N, pa, f1, af, M, e, fRo_dp h (List.mem_of_getElem? (i := 0) rfl) (by decide) (List.mem_of_getElem? (i := 1) rfl) w, fRo_dp h (List.mem_of_getElem? (i := 0) rfl) (by decide) (List.mem_of_getElem? (i := 2) rfl) y, fRo_dp h (List.mem_of_getElem? (i := 0) rfl) (by decide) (List.mem_of_getElem? (i := 3) rfl) z, fFi_dp h (List.mem_of_getElem? (i := 0) rfl) (by decide) u, g⟩
  · obtain ⟨a, nd, x, pa, f1, e, w, y, g⟩ := hb
    exact ⟨a, nd, x, pa, f1, e, fRo_dp h (List.mem_of_getElem? (i := 0) rfl) (by decide) (List.mem_of_getElem? (i := 1) rfl) w, fRo_dp h (List.mem_of_getElem? (i := 0) rfl) (by decide) (List.mem_of_getElem? (i := 2) rfl) y, g⟩
  · obtain ⟨a, hd, nd, ls, len, N, pa, h1, h2, e, w, u, g⟩ := hb
    exact ⟨a, hd, nd, ls, len, N, pa, h1, h2, e, fRo_dp h (List.mem_of_getElem? (i := 0) rfl) (by decide) (List.mem_of_getElem? (i := 1) rfl) w, fFi_dp h (List.mem_of_getElem? (i := 0) rfl) (by decide) u, g⟩
  · obtain ⟨a, nd, x, e, hb | ⟨pa, f1, w, y, g⟩⟩ := hb
    · exact ⟨a, nd, x, e, Or.inl hb⟩
    · exact ⟨a, nd, x, e, Or.inr ⟨pa, f1, fRo_dp h (List.mem_of_getElem? (i := 0) rfl) (by decide) (List.mem_of_getElem? (i := 1) rfl) w, fRo_dp h (List.mem_of_getElem? (i := 0) rfl) (by decide) (List.mem_of_getElem? (i := 2) rfl) y, g⟩⟩
  · obtain ⟨g, a, e, ⟨x, o, hx⟩ | ⟨T, ⟨s, h0, os, us, hs⟩, o, N, gg, oo, uN, ou, hj⟩⟩ := hb
    · exact ⟨g, a, e, Or.inl ⟨x, fOb_dp h (List.mem_of_getElem? (i := 0) rfl) (by decide) o, hx⟩⟩
    · exact ⟨g, a, e, Or.inr ⟨fTG_dp h (by decide) T, ⟨s, h0, fOb_dp h (List.mem_of_getElem? (i := 0) rfl) (by decide) os, fFi_dp h (List.mem_of_getElem? (i := 2) rfl) (by decide) us, hs⟩, o, N, gg, fOb_dp h (List.mem_of_getElem? (i := 0) rfl) (by decide) oo, fFi_dp h (List.mem_of_getElem? (i := 2) rfl) (by decide) uN, fOu_dp h (List.mem_of_getElem? (i := 0) rfl) (by decide) (List.mem_of_getElem? (i := 1) rfl) ou, hj⟩⟩
  · obtain ⟨g, m, k, gg, e, ou, hj⟩ := hb
    exact ⟨g, m, k, gg, e, fOu_dp h (List.mem_of_getElem? (i := 0) rfl) (by decide) (List.mem_of_getElem? (i := 1) rfl) ou, hj⟩
  · obtain ⟨a, s, h0, e, u, hs⟩ := hb
    exact ⟨a, s, h0, e, fFi_dp h (List.mem_of_getElem? (i := 0) rfl) (by decide) u, hs⟩
  · obtain ⟨a, f1, e, w, g⟩ := hb
    exact ⟨a, f1, e, fRo_dp h (List.mem_of_getElem? (i := 0) rfl) (by decide) (List.mem_of_getElem? (i := 1) rfl) w, g⟩
  · obtain ⟨x, a, e, hb | hb⟩ := hb
    · exact ⟨x, a, e, Or.inl hb⟩
    · exact ⟨x, a, e, Or.inr (fTG_dp h (by decide) hb)⟩
  · obtain ⟨c, g, a, e, ⟨o1, o2⟩ | ⟨o1, o2, T⟩⟩ := hb
    · exact ⟨c, g, a, e, Or.inl ⟨fOb_dp h (List.mem_of_getElem? (i := 0) rfl) (by decide) o1, fOb_dp h (List.mem_of_getElem? (i := 0) rfl) (by decide) o2⟩⟩
    · exact ⟨c, g, a, e, Or.inr ⟨fOb_dp h (List.mem_of_getElem? (i := 0) rfl) (by decide) o1, fOb_dp h (List.mem_of_getElem? (i := 0) rfl) (by decide) o2, fTG_dp h (by decide) T⟩⟩
  · obtain ⟨b, e, g⟩ := hb
    exact ⟨b, e, fBf_dp h (by decide) g⟩
  · obtain ⟨x, b, e, hb | hb⟩ := hb
    · exact ⟨x, b, e, Or.inl hb⟩
    · exact ⟨x, b, e, Or.inr (fBf_dp h (by decide) hb)⟩
  · obtain ⟨g, m, k, gg, e, ou, hj⟩ := hb
    exact ⟨g, m, k, gg, e, fOu_dp h (List.mem_of_getElem? (i := 0) rfl) (by decide) (List.mem_of_getElem? (i := 1) rfl) ou, hj⟩
  · obtain ⟨a, i, c, s, g, e, w, o, l⟩ := hb
    exact ⟨a, i, c, s, g, e, fWt_dp h (List.mem_of_getElem? (i := 0) rfl) (by decide) (List.mem_of_getElem? (i := 1) rfl) w, fOb_dp h (List.mem_of_getElem? (i := 0) rfl) (by decide) o, l⟩
  · obtain ⟨a, r, e, g⟩ := hb
    exact ⟨a, r, e, fSp_dp h g⟩
  · obtain ⟨a, r, e, g⟩ := hb
    exact ⟨a, r, e, fSp_dp h g⟩
  · obtain ⟨a, i, c, g, e, w, l⟩ := hb
    exact ⟨a, i, c, g, e, fWt_dp h (List.mem_of_getElem? (i := 0) rfl) (by decide) (List.mem_of_getElem? (i := 1) rfl) w, l⟩
  · obtain ⟨r, i, g, e, l1, l2, l3, l4⟩ := hb
    have h2 := h r l1 _ (List.mem_of_getElem? (i := 0) rfl) l2.symm
    rcases h2 with h2 | ⟨k, f1, f2, e1, -⟩ | ⟨ty, m, g1, g2, f, z, q1, q2, q3, q4, q5⟩
    · exact ⟨r, i, g, e, l1, l2, by rw [h2]; exact l3, l4⟩
    · rw [l3] at e1; cases e1
    · rw [l3] at q3
      cases q3
      obtain rfl := Option.some.inj q1
      have hz : z = i.toInt := by have := fVa1 (x := i) (i := 1) (c := 0) q2 (HV _ _ e); omega
      exact ⟨r, i, g2, e, l1, l2, q4, fun j hj => by rw [q5 j (by omega)]; exact l4 j hj⟩
  · obtain ⟨r, i, g, e, l1, l2, l3, l4⟩ := hb
    exact ⟨r, i, g, e, l1, l2, fSm_row (l3 ▸ h r l1 _ (List.mem_of_getElem? (i := 0) rfl) l2.symm), l4⟩
  · obtain ⟨r, g, e, l1, l2, l3, l4⟩ := hb
    exact ⟨r, g, e, l1, l2, fSm_row (l3 ▸ h r l1 _ (List.mem_of_getElem? (i := 0) rfl) l2.symm), l4⟩
  · obtain ⟨b, g, e, w, l⟩ := hb
    exact ⟨b, g, e, fMe_dp h (List.mem_of_getElem? (i := 0) rfl) (by decide) (List.mem_of_getElem? (i := 1) rfl) w, l⟩
  · obtain ⟨b, s, v, g, e, w, l⟩ := hb
    exact ⟨b, s, v, g, e, fMe_dp h (List.mem_of_getElem? (i := 0) rfl) (by decide) (List.mem_of_getElem? (i := 1) rfl) w, l⟩
  · obtain ⟨b, s, v, g, e, w, l⟩ := hb
    exact ⟨b, s, v, g, e, fMe_dp h (List.mem_of_getElem? (i := 0) rfl) (by decide) (List.mem_of_getElem? (i := 1) rfl) w, l⟩
  · obtain ⟨b, e, g⟩ := hb
    exact ⟨b, e, fRg_dp h g⟩
  · obtain ⟨b, x, e, hb | hb⟩ := hb
    · exact ⟨b, x, e, Or.inl hb⟩
    · exact ⟨b, x, e, Or.inr (fRg_dp h hb)⟩
  · obtain ⟨b, e, g⟩ := hb
    exact ⟨b, e, fPs_dp h g⟩
  · obtain ⟨b, x, e, hb | hb⟩ := hb
    · exact ⟨b, x, e, Or.inl hb⟩
    · exact ⟨b, x, e, Or.inr (fPs_dp h hb)⟩
  · obtain ⟨b, g, R, e, w, o, l⟩ := hb
    exact ⟨b, g, R, e, fMe_dp h (List.mem_of_getElem? (i := 0) rfl) (by decide) (List.mem_of_getElem? (i := 1) rfl) w, fOb_dp h (List.mem_of_getElem? (i := 0) rfl) (by decide) o, l⟩
  · obtain ⟨b, g, R, e, w, o, l⟩ := hb
    exact ⟨b, g, R, e, fMe_dp h (List.mem_of_getElem? (i := 0) rfl) (by decide) (List.mem_of_getElem? (i := 1) rfl) w, fOb_dp h (List.mem_of_getElem? (i := 0) rfl) (by decide) o, l⟩
  · obtain ⟨b, g, R, e, w, o, l⟩ := hb
    exact ⟨b, g, R, e, fMe_dp h (List.mem_of_getElem? (i := 0) rfl) (by decide) (List.mem_of_getElem? (i := 1) rfl) w, fOb_dp h (List.mem_of_getElem? (i := 0) rfl) (by decide) o, l⟩
  · obtain ⟨b, g, R, e, w, o, l⟩ := hb
    exact ⟨b, g, R, e, fMe_dp h (List.mem_of_getElem? (i := 0) rfl) (by decide) (List.mem_of_getElem? (i := 1) rfl) w, fOb_dp h (List.mem_of_getElem? (i := 0) rfl) (by decide) o, l⟩
  · obtain ⟨b, x, R, e, o, l⟩ := hb
    exact ⟨b, x, R, e, fOb_dp h (List.mem_of_getElem? (i := 0) rfl) (by decide) o, l⟩
  · obtain ⟨b, x, R, e, o, l⟩ := hb
    exact ⟨b, x, R, e, fOb_dp h (List.mem_of_getElem? (i := 0) rfl) (by decide) o, l⟩
  · obtain ⟨b, x, R, e, o, l⟩ := hb
    exact ⟨b, x, R, e, fOb_dp h (List.mem_of_getElem? (i := 0) rfl) (by decide) o, l⟩
  · obtain ⟨b, x, R, e, o, l⟩ := hb
    exact ⟨b, x, R, e, fOb_dp h (List.mem_of_getElem? (i := 0) rfl) (by decide) o, l⟩
  · obtain ⟨b, g, e, w, u⟩ := hb
    exact ⟨b, g, e, fMe_dp h (List.mem_of_getElem? (i := 0) rfl) (by decide) (List.mem_of_getElem? (i := 1) rfl) w, fWx_dp h (List.mem_of_getElem? (i := 0) rfl) (by decide) (List.mem_of_getElem? (i := 2) rfl) u⟩
  · obtain ⟨b, s, g, e, w, l⟩ := hb
    exact ⟨b, s, g, e, fMe_dp h (List.mem_of_getElem? (i := 0) rfl) (by decide) (List.mem_of_getElem? (i := 1) rfl) w, l⟩
  · obtain ⟨b, s, g, e, w, l⟩ := hb
    exact ⟨b, s, g, e, fMe_dp h (List.mem_of_getElem? (i := 0) rfl) (by decide) (List.mem_of_getElem? (i := 1) rfl) w, l⟩
  · obtain ⟨b, r, f, g, e, w, l⟩ := hb
    exact ⟨b, r, f, g, e, fMe_dp h (List.mem_of_getElem? (i := 0) rfl) (by decide) (List.mem_of_getElem? (i := 1) rfl) w, l⟩
  · obtain ⟨b, i, g, e, w, l⟩ := hb
    exact ⟨b, i, g, e, fMe_dp h (List.mem_of_getElem? (i := 0) rfl) (by decide) (List.mem_of_getElem? (i := 1) rfl) w, l⟩
  · obtain ⟨b, i, g, w, l⟩ := hb
    exact ⟨b, i, g, fMe_dp h (List.mem_of_getElem? (i := 0) rfl) (by decide) (List.mem_of_getElem? (i := 1) rfl) w, l⟩
  · obtain ⟨r, g, e, l1, l2, l3, l4⟩ := hb
    exact ⟨r, g, e, l1, l2, fSm_row (l3 ▸ h r l1 _ (List.mem_of_getElem? (i := 0) rfl) l2.symm), l4⟩
  · obtain ⟨r, g, e, l1, l2, l3, l4⟩ := hb
    exact ⟨r, g, e, l1, l2, fSm_row (l3 ▸ h r l1 _ (List.mem_of_getElem? (i := 0) rfl) l2.symm), l4⟩
  · obtain ⟨a, c, m, mv, e, w, g⟩ := hb
    exact ⟨a, c, m, mv, e, fRo_dp h (List.mem_of_getElem? (i := 0) rfl) (by decide) (List.mem_of_getElem? (i := 1) rfl) w, g⟩
  · exact hb.elim
theorem fCv_dp {K : Nat → Nat} {n : Nat} {σ σ' : Nat → jcell} {vs : List jv} {a : Nat} {lo hi : Int} {S C : Int32 → Prop} {fm : aF} (h : fHd K n vs σ σ' [(9, [], some fm), (16, [], some fm), (22, [], some fm), (24, [], some fm)]) (hz : ∀ z : Int, aVa vs fm z → z = hi) (h0 : fCv K n σ a lo hi S C) : fCv K n σ' a lo hi S C := by
  obtain ⟨h1, h2, m, g, h3, h4, h5⟩ := h0
  have hq : aSm vs (K a, [], some fm) (σ a) (σ' a) := by
    have h2' := h2
    unfold fRw at h2'
    rcases h2' with e | e | e | e
    · rw [e]; exact h a h1 (9, [], some fm) (List.mem_of_getElem? (i := 0) rfl) e.symm
    · rw [e]; exact h a h1 (16, [], some fm) (List.mem_of_getElem? (i := 1) rfl) e.symm
    · rw [e]; exact h a h1 (22, [], some fm) (List.mem_of_getElem? (i := 2) rfl) e.symm
    · rw [e]; exact h a h1 (24, [], some fm) (List.mem_of_getElem? (i := 3) rfl) e.symm
  rcases hq with e | ⟨k, f1, f2, e1, -⟩ | ⟨ty, m2, g1, g2, f, z, e1, e2, e3, e4, e5⟩
  · exact ⟨h1, h2, m, g, by rw [e]; exact h3, h4, h5⟩
  · rw [h3] at e1; cases e1
  · obtain rfl : fm = f := Option.some.inj e1
    rw [h3] at e3
    cases e3
    have hh := hz z e2
    refine ⟨h1, h2, _, g2, e4, fun k hk hk2 => by rw [e5 k (by omega)]; exact h4 k hk hk2, fun x hx => ?_⟩
    obtain ⟨k, k1, k2, k3⟩ := h5 x hx
    exact ⟨k, k1, k2, by rw [e5 k (by omega)]; exact k3⟩
theorem fKg_dp {K : Nat → Nat} {n : Nat} {σ σ' : Nat → jcell} {vs : List jv} (h : fHd K n vs σ σ' [(26, [1, 2], none), (28, [], none)]) {a : Nat} {x : Int32} (h0 : fKg K n σ a x) : fKg K n σ' a x := by
  obtain ⟨r, g, s, o1, l1, l2, l3, o2, e⟩ := h0
  have h2 := h r l1 _ (List.mem_of_getElem? (i := 1) rfl) l2.symm
  rw [l3] at h2
  exact ⟨r, g, s, fOb_dp h (List.mem_of_getElem? (i := 0) rfl) (by decide) o1, l1, l2, fSm_row h2, fOb_dp h (List.mem_of_getElem? (i := 0) rfl) (by decide) o2, e⟩
theorem fEt_k {M F : Nat → Int32} {k : Nat} {rest : List jv} {lo hi : Int32} {S C : Int32 → Prop} (h : fEt M F k rest lo hi S C) : 77 ≤ k ∧ k ≤ 98 ∧ ¬ k = 96 := by
  unfold fEt at h
  split at h <;> first | decide | exact h.elim
theorem fDup : ∀ j, j < 22 → ¬ j = 19 → fg_dep.getD (77 + j) [] = (if fEc (77 + j) = 1 then [(9, [], some ([(2, 1)], 1)), (16, [], some ([(2, 1)], 1)), (22, [], some ([(2, 1)], 1)), (24, [], some ([(2, 1)], 1))] else [(9, [], some ([(2, 1)], 0)), (16, [], some ([(2, 1)], 0)), (22, [], some ([(2, 1)], 0)), (24, [], some ([(2, 1)], 0))])
  | 0, _, _ => rfl
  | 1, _, _ => rfl
  | 2, _, _ => rfl
  | 3, _, _ => rfl
  | 4, _, _ => rfl
  | 5, _, _ => rfl
  | 6, _, _ => rfl
  | 7, _, _ => rfl
  | 8, _, _ => rfl
  | 9, _, _ => rfl
  | 10, _, _ => rfl
  | 11, _, _ => rfl
  | 12, _, _ => rfl
  | 13, _, _ => rfl
  | 14, _, _ => rfl
  | 15, _, _ => rfl
  | 16, _, _ => rfl
  | 17, _, _ => rfl
  | 18, _, _ => rfl
  | 19, _, h => absurd rfl h
  | 20, _, _ => rfl
  | 21, _, _ => rfl
  | j + 22, h, _ => absurd h (by omega)
theorem fEl_dp {K : Nat → Nat} {n : Nat} {p : fP} {k j : Nat} {ws : List jv} {σ σ' : Nat → jcell} (h1 : 60 ≤ k) (h2 : k < 99) (h : fHd K n ws σ σ' (fg_dep.getD k [])) (hb : fEl K n p k (ws.take j) σ) : fEl K n p k (ws.take j) σ' := by
  unfold fEl at hb ⊢
  by_cases c : k = 60
  · subst c
    rw [if_pos rfl] at hb ⊢
    rcases hb with ⟨a, x, hk, hb⟩ | ⟨a, r, e, hb | ⟨x, hk, hb⟩⟩
    · exact Or.inl ⟨a, x, fKg_dp h hk, hb⟩
    · exact Or.inr ⟨a, r, e, Or.inl hb⟩
    · exact Or.inr ⟨a, r, e, Or.inr ⟨x, fKg_dp h hk, hb⟩⟩
  rw [if_neg c] at hb ⊢
  obtain ⟨a, lo, hi, rest, S, C, e, T, V⟩ := hb
  have hk := fEt_k T
  have hd := fDup (k - 77) (by omega) (by omega)
  rw [show 77 + (k - 77) = k by omega] at hd
  rw [hd] at h
  refine ⟨a, lo, hi, rest, S, C, e, T, ?_⟩
  have hv : ws[2]? = some (.inl hi) := fTak (j := j) (by rw [e]; rfl)
  have hc : fEc k = 1 ∨ fEc k = 0 := by
    unfold fEc
    split
    · exact Or.inl rfl
    · exact Or.inr rfl
  rcases hc with hc | hc
  · rw [if_pos hc] at h
    exact fCv_dp (fm := ([(2, 1)], 1)) h (fun z hz => by have := fVa1 (x := hi) hz hv; omega) V
  · rw [if_neg (by omega)] at h
    exact fCv_dp (fm := ([(2, 1)], 0)) h (fun z hz => by have := fVa1 (x := hi) hz hv; omega) V
theorem fB_dq {K : Nat → Nat} {n : Nat} {p : fP} {k j : Nat} {ws : List jv} {σ σ' : Nat → jcell} (hk : k < 200) (h : fHd K n ws σ σ' (fg_dep.getD k [])) (hb : fB K n p k (ws.take j) σ) : fB K n p k (ws.take j) σ' := by
  by_cases c0 : k < 60
  · rw [fDeq k c0] at h
    exact fB_dp c0 h hb
  by_cases c1 : k = 61
  · subst c1
    obtain ⟨a, h0, N, t, e, w, r1, r2, r3, H⟩ := hb
    obtain ⟨t', w', e5, es⟩ := fTw_ds (q := fq p) (hh := 0) h e r2 w
    exact ⟨a, h0, N, t', e, w', r1, r2, r3, fTk_cg H (fun i hi => (es i (by omega)).1) (fun i hi => (es i (by omega)).2.1) (fun i hi => (es i (by omega)).2.2.1) (fun i hi => (es i (by omega)).2.2.2) e5⟩
  by_cases c2 : k = 62
  · subst c2
    obtain ⟨a, h0, N, t, e, w, r1, r2, r3, r4, r5, H⟩ := hb
    obtain ⟨t', w', e5, es⟩ := fTw_ds (q := fq p) (hh := 0) h e (by omega) w
    have eh : t'.1 h0.toInt.toNat = t.1 h0.toInt.toNat := (es h0.toInt.toNat (by omega)).1
    exact ⟨a, h0, N, t', e, w', r1, r2, r3, by rw [eh]; exact r4, by rw [eh]; exact r5, by rw [eh]; exact fTk_cg H (fun i hi => (es i (by omega)).1) (fun i hi => (es i (by omega)).2.1) (fun i hi => (es i (by omega)).2.2.1) (fun i hi => (es i (by omega)).2.2.2) e5⟩
  by_cases c3 : k = 63
  · subst c3
    obtain ⟨a, h0, N, ab, nd, t, e, w, g⟩ := hb
    exact ⟨a, h0, N, ab, nd, t, e, fTw_dp h (List.mem_of_getElem? (i := 0) rfl) (by decide) (by decide) w, g⟩
  by_cases c4 : k = 64
  · subst c4
    obtain ⟨a, h0, N, ab, nd, t, e, w, g⟩ := hb
    exact ⟨a, h0, N, ab, nd, t, e, fTw_dp h (List.mem_of_getElem? (i := 0) rfl) (by decide) (by decide) w, g⟩
  by_cases c5 : k = 65
  · subst c5
    obtain ⟨a, hi, e, hk, g⟩ := hb
    exact ⟨a, hi, e, hk, fEn_dp h (List.mem_of_getElem? (i := 0) rfl) (fun fm z k ho => by cases ho) hk g⟩
  by_cases c6 : k = 66
  · subst c6
    obtain ⟨a, hi, e, hk, g⟩ := hb
    exact ⟨a, hi, e, hk, fEn_dp h (List.mem_of_getElem? (i := 0) rfl) (fun fm z k ho hv hp => by
      cases ho
      have := fVa1 (x := hi) hv (fTak (j := j) (by rw [e]; rfl))
      omega) hk g⟩
  by_cases d67 : k = 67
  · subst d67
    obtain ⟨a, hd, nd, ls, len, N, t, h1, h2, e, w, u, g⟩ := hb
    exact ⟨a, hd, nd, ls, len, N, t, h1, h2, e, fTw_dp h (List.mem_of_getElem? (i := 0) rfl) (by decide) (by decide) w, fFi_dp h (List.mem_of_getElem? (i := 0) rfl) (by decide) u, g⟩
  by_cases d68 : k = 68
  · subst d68
    obtain ⟨a, hd, nd, len, N, t, h2, e, w, u, g⟩ := hb
    exact ⟨a, hd, nd, len, N, t, h2, e, fTw_dp h (List.mem_of_getElem? (i := 0) rfl) (by decide) (by decide) w, fFi_dp h (List.mem_of_getElem? (i := 0) rfl) (by decide) u, g⟩
  by_cases d69 : k = 69
  · subst d69
    obtain ⟨a, hd, ls, len, N, t, h1, h2, e, w, u, g⟩ := hb
    exact ⟨a, hd, ls, len, N, t, h1, h2, e, fTw_dp h (List.mem_of_getElem? (i := 0) rfl) (by decide) (by decide) w, fFi_dp h (List.mem_of_getElem? (i := 0) rfl) (by decide) u, g⟩
  by_cases d70 : k = 70
  · subst d70
    obtain ⟨a, hd, ls, len, N, t, h2, e, w, u, g⟩ := hb
    exact ⟨a, hd, ls, len, N, t, h2, e, fTw_dp h (List.mem_of_getElem? (i := 0) rfl) (by decide) (by decide) w, fFi_dp h (List.mem_of_getElem? (i := 0) rfl) (by decide) u, g⟩
  by_cases d71 : k = 71
  · subst d71
    obtain ⟨a, lf, A, fd, g, e, w, o1, o2, l⟩ := hb
    exact ⟨a, lf, A, fd, g, e, fPc_dp h (List.mem_of_getElem? (i := 0) rfl) (by decide) (List.mem_of_getElem? (i := 1) rfl) w, fOb_dp h (List.mem_of_getElem? (i := 0) rfl) (by decide) o1, fOb_dp h (List.mem_of_getElem? (i := 0) rfl) (by decide) o2, l⟩
  by_cases d72 : k = 72
  · subst d72
    obtain ⟨a, i, A, g, e, w, o1, l⟩ := hb
    exact ⟨a, i, A, g, e, fPc_dp h (List.mem_of_getElem? (i := 0) rfl) (by decide) (List.mem_of_getElem? (i := 1) rfl) w, fOb_dp h (List.mem_of_getElem? (i := 0) rfl) (by decide) o1, l⟩
  by_cases d73 : k = 73
  · subst d73
    obtain ⟨a, m, g, e, w, l⟩ := hb
    exact ⟨a, m, g, e, fPu_dp h (List.mem_of_getElem? (i := 0) rfl) (by decide) (List.mem_of_getElem? (i := 1) rfl) w, l⟩
  by_cases d74 : k = 74
  · subst d74
    obtain ⟨a, m, g, e, w, l⟩ := hb
    exact ⟨a, m, g, e, fPu_dp h (List.mem_of_getElem? (i := 0) rfl) (by decide) (List.mem_of_getElem? (i := 1) rfl) w, l⟩
  by_cases d75 : k = 75
  · subst d75
    obtain ⟨a, m, g, e, w, l⟩ := hb
    exact ⟨a, m, g, e, fPu_dp h (List.mem_of_getElem? (i := 0) rfl) (by decide) (List.mem_of_getElem? (i := 1) rfl) w, l⟩
  by_cases d76 : k = 76
  · subst d76
    obtain ⟨a, m, g, e, w, l⟩ := hb
    exact ⟨a, m, g, e, fPu_dp h (List.mem_of_getElem? (i := 0) rfl) (by decide) (List.mem_of_getElem? (i := 1) rfl) w, l⟩
  rw [fB_def (by omega)] at hb ⊢
  unfold fD at hb ⊢
  rw [if_neg (by omega)] at hb ⊢
  by_cases c99 : k < 99
  · rw [if_pos c99] at hb ⊢
    exact fEl_dp (by omega) c99 h hb
  rw [if_neg c99, if_neg (by omega)] at hb ⊢
  exact fC_dp hk h (fun a b e => fTak (j := j) (by rw [e]; rfl)) hb
theorem fF_dpg {K : Nat → Nat} {n : Nat} : aDp (fF K n) K n fg_dep := by
  refine ⟨fun p r vs σ σ' hl h hf => ?_, fF_pd K n, fun h0 => absurd h0 (by decide)⟩
  have hl : r / 16 % 4096 < 200 := of_decide_eq_true hl
  unfold fF at hf ⊢
  unfold aDg at h
  by_cases c : r < 65536
  · rw [if_pos c] at hf h ⊢
    exact fB_dq (by omega) h hf
  · rw [if_neg c] at hf h ⊢
    by_cases c2 : r < 131072
    · rw [if_pos c2] at hf ⊢
      by_cases c3 : 3 ≤ r % 16
      · rw [if_pos c3] at hf ⊢
        split at hf
        next a x y l =>
          refine fB_dq (σ := jup σ a (jsto (σ a) x.toNatClampNeg y)) (by omega) ?_ hf
          rw [show (r - 65539) / 16 = r / 16 % 4096 by omega]
          exact fSm_jup (fSm_sto _ _) h
        next a x y l =>
          refine fB_dq (σ := jup σ a (jstl (σ a) x.toNatClampNeg y)) (by omega) ?_ hf
          rw [show (r - 65539) / 16 = r / 16 % 4096 by omega]
          exact fSm_jup (fSm_stl _ _) h
        next => exact hf.elim
      · rw [if_neg c3] at hf
        exact hf.elim
    · rw [if_neg c2] at hf ⊢
      by_cases c3 : 2 ≤ r % 16
      · rw [if_pos c3] at hf ⊢
        split at hf
        next a y l =>
          by_cases c4 : (r % 131072 - 2) / 16 < 200
          · refine fB_dq (σ := jup σ a (jstf (σ a) (r / 131072 - 1) y)) c4 ?_ hf
            rw [show (r % 131072 - 2) / 16 = r / 16 % 4096 by omega]
            exact fSm_jup (fSm_stf _ _) h
          · exact (fB_hi (show 1000 ≤ (r % 131072 - 2) / 16 by omega) hf).elim
        next => exact hf.elim
      · rw [if_neg c3] at hf
        exact hf.elim
theorem fDcf : ∀ k, k < 135 → fg_dep.getD k [] = ff_dep.getD k []
  | 0, _ => rfl
  | 1, _ => rfl
  | 2, _ => rfl
  | 3, _ => rfl
  | 4, _ => rfl
  | 5, _ => rfl
  | 6, _ => rfl
  | 7, _ => rfl
  | 8, _ => rfl
  | 9, _ => rfl
  | 10, _ => rfl
  | 11, _ => rfl
  | 12, _ => rfl
  | 13, _ => rfl
  | 14, _ => rfl
  | 15, _ => rfl
  | 16, _ => rfl
  | 17, _ => rfl
  | 18, _ => rfl
  | 19, _ => rfl
  | 20, _ => rfl
  | 21, _ => rfl
  | 22, _ => rfl
  | 23, _ => rfl
  | 24, _ => rfl
  | 25, _ => rfl
  | 26, _ => rfl
  | 27, _ => rfl
  | 28, _ => rfl
  | 29, _ => rfl
  | 30, _ => rfl
  | 31, _ => rfl
  | 32, _ => rfl
  | 33, _ => rfl
  | 34, _ => rfl
  | 35, _ => rfl
  | 36, _ => rfl
  | 37, _ => rfl
  | 38, _ => rfl
  | 39, _ => rfl
  | 40, _ => rfl
  | 41, _ => rfl
  | 42, _ => rfl
  | 43, _ => rfl
  | 44, _ => rfl
  | 45, _ => rfl
  | 46, _ => rfl
  | 47, _ => rfl
  | 48, _ => rfl
  | 49, _ => rfl
  | 50, _ => rfl
  | 51, _ => rfl
  | 52, _ => rfl
  | 53, _ => rfl
  | 54, _ => rfl
  | 55, _ => rfl
  | 56, _ => rfl
  | 57, _ => rfl
  | 58, _ => rfl
  | 59, _ => rfl
  | 60, _ => rfl
  | 61, _ => rfl
  | 62, _ => rfl
  | 63, _ => rfl
  | 64, _ => rfl
  | 65, _ => rfl
  | 66, _ => rfl
  | 67, _ => rfl
  | 68, _ => rfl
  | 69, _ => rfl
  | 70, _ => rfl
  | 71, _ => rfl
  | 72, _ => rfl
  | 73, _ => rfl
  | 74, _ => rfl
  | 75, _ => rfl
  | 76, _ => rfl
  | 77, _ => rfl
  | 78, _ => rfl
  | 79, _ => rfl
  | 80, _ => rfl
  | 81, _ => rfl
  | 82, _ => rfl
  | 83, _ => rfl
  | 84, _ => rfl
  | 85, _ => rfl
  | 86, _ => rfl
  | 87, _ => rfl
  | 88, _ => rfl
  | 89, _ => rfl
  | 90, _ => rfl
  | 91, _ => rfl
  | 92, _ => rfl
  | 93, _ => rfl
  | 94, _ => rfl
  | 95, _ => rfl
  | 96, _ => rfl
  | 97, _ => rfl
  | 98, _ => rfl
  | 99, _ => rfl
  | 100, _ => rfl
  | 101, _ => rfl
  | 102, _ => rfl
  | 103, _ => rfl
  | 104, _ => rfl
  | 105, _ => rfl
  | 106, _ => rfl
  | 107, _ => rfl
  | 108, _ => rfl
  | 109, _ => rfl
  | 110, _ => rfl
  | 111, _ => rfl
  | 112, _ => rfl
  | 113, _ => rfl
  | 114, _ => rfl
  | 115, _ => rfl
  | 116, _ => rfl
  | 117, _ => rfl
  | 118, _ => rfl
  | 119, _ => rfl
  | 120, _ => rfl
  | 121, _ => rfl
  | 122, _ => rfl
  | 123, _ => rfl
  | 124, _ => rfl
  | 125, _ => rfl
  | 126, _ => rfl
  | 127, _ => rfl
  | 128, _ => rfl
  | 129, _ => rfl
  | 130, _ => rfl
  | 131, _ => rfl
  | 132, _ => rfl
  | 133, _ => rfl
  | 134, _ => rfl
  | k + 135, h => absurd h (by omega)
theorem fF_dpf {K : Nat → Nat} {n : Nat} : aDp (fF K n) K n ff_dep := by
  refine ⟨fun p r vs σ σ' hl h hf => fF_dpg.1 p r vs σ σ' ?_ ?_ hf, fF_pd K n, fun h0 => absurd h0 (by decide)⟩
  · have h1 : r / 16 % 4096 < 135 := of_decide_eq_true hl
    exact decide_eq_true (show r / 16 % 4096 < 200 by omega)
  · have h1 : r / 16 % 4096 < 135 := of_decide_eq_true hl
    have e : aDg fg_dep r = aDg ff_dep r := by
      unfold aDg
      split
      · exact fDcf _ (by omega)
      · rw [fDcf _ h1]
    rw [e]
    exact h
theorem fDce : ∀ k, k < 130 → fg_dep.getD k [] = fe_dep.getD k []
  | 0, _ => rfl
  | 1, _ => rfl
  | 2, _ => rfl
  | 3, _ => rfl
  | 4, _ => rfl
  | 5, _ => rfl
  | 6, _ => rfl
  | 7, _ => rfl
  | 8, _ => rfl
  | 9, _ => rfl
  | 10, _ => rfl
  | 11, _ => rfl
  | 12, _ => rfl
  | 13, _ => rfl
  | 14, _ => rfl
  | 15, _ => rfl
  | 16, _ => rfl
  | 17, _ => rfl
  | 18, _ => rfl
  | 19, _ => rfl
  | 20, _ => rfl
  | 21, _ => rfl
  | 22, _ => rfl
  | 23, _ => rfl
  | 24, _ => rfl
  | 25, _ => rfl
  | 26, _ => rfl
  | 27, _ => rfl
  | 28, _ => rfl
  | 29, _ => rfl
  | 30, _ => rfl
  | 31, _ => rfl
  | 32, _ => rfl
  | 33, _ => rfl
  | 34, _ => rfl
  | 35, _ => rfl
  | 36, _ => rfl
  | 37, _ => rfl
  | 38, _ => rfl
  | 39, _ => rfl
  | 40, _ => rfl
  | 41, _ => rfl
  | 42, _ => rfl
  | 43, _ => rfl
  | 44, _ => rfl
  | 45, _ => rfl
  | 46, _ => rfl
  | 47, _ => rfl
  | 48, _ => rfl
  | 49, _ => rfl
  | 50, _ => rfl
  | 51, _ => rfl
  | 52, _ => rfl
  | 53, _ => rfl
  | 54, _ => rfl
  | 55, _ => rfl
  | 56, _ => rfl
  | 57, _ => rfl
  | 58, _ => rfl
  | 59, _ => rfl
  | 60, _ => rfl
  | 61, _ => rfl
  | 62, _ => rfl
  | 63, _ => rfl
  | 64, _ => rfl
  | 65, _ => rfl
  | 66, _ => rfl
  | 67, _ => rfl
  | 68, _ => rfl
  | 69, _ => rfl
  | 70, _ => rfl
  | 71, _ => rfl
  | 72, _ => rfl
  | 73, _ => rfl
  | 74, _ => rfl
  | 75, _ => rfl
  | 76, _ => rfl
  | 77, _ => rfl
  | 78, _ => rfl
  | 79, _ => rfl
  | 80, _ => rfl
  | 81, _ => rfl
  | 82, _ => rfl
  | 83, _ => rfl
  | 84, _ => rfl
  | 85, _ => rfl
  | 86, _ => rfl
  | 87, _ => rfl
  | 88, _ => rfl
  | 89, _ => rfl
  | 90, _ => rfl
  | 91, _ => rfl
  | 92, _ => rfl
  | 93, _ => rfl
  | 94, _ => rfl
  | 95, _ => rfl
  | 96, _ => rfl
  | 97, _ => rfl
  | 98, _ => rfl
  | 99, _ => rfl
  | 100, _ => rfl
  | 101, _ => rfl
  | 102, _ => rfl
  | 103, _ => rfl
  | 104, _ => rfl
  | 105, _ => rfl
  | 106, _ => rfl
  | 107, _ => rfl
  | 108, _ => rfl
  | 109, _ => rfl
  | 110, _ => rfl
  | 111, _ => rfl
  | 112, _ => rfl
  | 113, _ => rfl
  | 114, _ => rfl
  | 115, _ => rfl
  | 116, _ => rfl
  | 117, _ => rfl
  | 118, _ => rfl
  | 119, _ => rfl
  | 120, _ => rfl
  | 121, _ => rfl
  | 122, _ => rfl
  | 123, _ => rfl
  | 124, _ => rfl
  | 125, _ => rfl
  | 126, _ => rfl
  | 127, _ => rfl
  | 128, _ => rfl
  | 129, _ => rfl
  | k + 130, h => absurd h (by omega)
theorem fF_dpe {K : Nat → Nat} {n : Nat} : aDp (fF K n) K n fe_dep := by
  refine ⟨fun p r vs σ σ' hl h hf => fF_dpg.1 p r vs σ σ' ?_ ?_ hf, fF_pd K n, fun h0 => absurd h0 (by decide)⟩
  · have h1 : r / 16 % 4096 < 130 := of_decide_eq_true hl
    exact decide_eq_true (show r / 16 % 4096 < 200 by omega)
  · have h1 : r / 16 % 4096 < 130 := of_decide_eq_true hl
    have e : aDg fg_dep r = aDg fe_dep r := by
      unfold aDg
      split
      · exact fDce _ (by omega)
      · rw [fDce _ h1]
    rw [e]
    exact h
theorem fDcd : ∀ k, k < 121 → fg_dep.getD k [] = fd_dep.getD k []
  | 0, _ => rfl
  | 1, _ => rfl
  | 2, _ => rfl
  | 3, _ => rfl
  | 4, _ => rfl
  | 5, _ => rfl
  | 6, _ => rfl
  | 7, _ => rfl
  | 8, _ => rfl
  | 9, _ => rfl
  | 10, _ => rfl
  | 11, _ => rfl
  | 12, _ => rfl
  | 13, _ => rfl
  | 14, _ => rfl
  | 15, _ => rfl
  | 16, _ => rfl
  | 17, _ => rfl
  | 18, _ => rfl
  | 19, _ => rfl
  | 20, _ => rfl
  | 21, _ => rfl
  | 22, _ => rfl
  | 23, _ => rfl
  | 24, _ => rfl
  | 25, _ => rfl
  | 26, _ => rfl
  | 27, _ => rfl
  | 28, _ => rfl
  | 29, _ => rfl
  | 30, _ => rfl
  | 31, _ => rfl
  | 32, _ => rfl
  | 33, _ => rfl
  | 34, _ => rfl
  | 35, _ => rfl
  | 36, _ => rfl
  | 37, _ => rfl
  | 38, _ => rfl
  | 39, _ => rfl
  | 40, _ => rfl
  | 41, _ => rfl
  | 42, _ => rfl
  | 43, _ => rfl
  | 44, _ => rfl
  | 45, _ => rfl
  | 46, _ => rfl
  | 47, _ => rfl
  | 48, _ => rfl
  | 49, _ => rfl
  | 50, _ => rfl
  | 51, _ => rfl
  | 52, _ => rfl
  | 53, _ => rfl
  | 54, _ => rfl
  | 55, _ => rfl
  | 56, _ => rfl
  | 57, _ => rfl
  | 58, _ => rfl
  | 59, _ => rfl
  | 60, _ => rfl
  | 61, _ => rfl
  | 62, _ => rfl
  | 63, _ => rfl
  | 64, _ => rfl
  | 65, _ => rfl
  | 66, _ => rfl
  | 67, _ => rfl
  | 68, _ => rfl
  | 69, _ => rfl
  | 70, _ => rfl
  | 71, _ => rfl
  | 72, _ => rfl
  | 73, _ => rfl
  | 74, _ => rfl
  | 75, _ => rfl
  | 76, _ => rfl
  | 77, _ => rfl
  | 78, _ => rfl
  | 79, _ => rfl
  | 80, _ => rfl
  | 81, _ => rfl
  | 82, _ => rfl
  | 83, _ => rfl
  | 84, _ => rfl
  | 85, _ => rfl
  | 86, _ => rfl
  | 87, _ => rfl
  | 88, _ => rfl
  | 89, _ => rfl
  | 90, _ => rfl
  | 91, _ => rfl
  | 92, _ => rfl
  | 93, _ => rfl
  | 94, _ => rfl
  | 95, _ => rfl
  | 96, _ => rfl
  | 97, _ => rfl
  | 98, _ => rfl
  | 99, _ => rfl
  | 100, _ => rfl
  | 101, _ => rfl
  | 102, _ => rfl
  | 103, _ => rfl
  | 104, _ => rfl
  | 105, _ => rfl
  | 106, _ => rfl
  | 107, _ => rfl
  | 108, _ => rfl
  | 109, _ => rfl
  | 110, _ => rfl
  | 111, _ => rfl
  | 112, _ => rfl
  | 113, _ => rfl
  | 114, _ => rfl
  | 115, _ => rfl
  | 116, _ => rfl
  | 117, _ => rfl
  | 118, _ => rfl
  | 119, _ => rfl
  | 120, _ => rfl
  | k + 121, h => absurd h (by omega)
theorem fF_dpd {K : Nat → Nat} {n : Nat} : aDp (fF K n) K n fd_dep := by
  refine ⟨fun p r vs σ σ' hl h hf => fF_dpg.1 p r vs σ σ' ?_ ?_ hf, fF_pd K n, fun h0 => absurd h0 (by decide)⟩
  · have h1 : r / 16 % 4096 < 121 := of_decide_eq_true hl
    exact decide_eq_true (show r / 16 % 4096 < 200 by omega)
  · have h1 : r / 16 % 4096 < 121 := of_decide_eq_true hl
    have e : aDg fg_dep r = aDg fd_dep r := by
      unfold aDg
      split
      · exact fDcd _ (by omega)
      · rw [fDcd _ h1]
    rw [e]
    exact h
theorem fDcc : ∀ k, k < 116 → fg_dep.getD k [] = fc_dep.getD k []
  | 0, _ => rfl
  | 1, _ => rfl
  | 2, _ => rfl
  | 3, _ => rfl
  | 4, _ => rfl
  | 5, _ => rfl
  | 6, _ => rfl
  | 7, _ => rfl
  | 8, _ => rfl
  | 9, _ => rfl
  | 10, _ => rfl
  | 11, _ => rfl
  | 12, _ => rfl
  | 13, _ => rfl
  | 14, _ => rfl
  | 15, _ => rfl
  | 16, _ => rfl
  | 17, _ => rfl
  | 18, _ => rfl
  | 19, _ => rfl
  | 20, _ => rfl
  | 21, _ => rfl
  | 22, _ => rfl
  | 23, _ => rfl
  | 24, _ => rfl
  | 25, _ => rfl
  | 26, _ => rfl
  | 27, _ => rfl
  | 28, _ => rfl
  | 29, _ => rfl
  | 30, _ => rfl
  | 31, _ => rfl
  | 32, _ => rfl
  | 33, _ => rfl
  | 34, _ => rfl
  | 35, _ => rfl
  | 36, _ => rfl
  | 37, _ => rfl
  | 38, _ => rfl
  | 39, _ => rfl
  | 40, _ => rfl
  | 41, _ => rfl
  | 42, _ => rfl
  | 43, _ => rfl
  | 44, _ => rfl
  | 45, _ => rfl
  | 46, _ => rfl
  | 47, _ => rfl
  | 48, _ => rfl
  | 49, _ => rfl
  | 50, _ => rfl
  | 51, _ => rfl
  | 52, _ => rfl
  | 53, _ => rfl
  | 54, _ => rfl
  | 55, _ => rfl
  | 56, _ => rfl
  | 57, _ => rfl
  | 58, _ => rfl
  | 59, _ => rfl
  | 60, _ => rfl
  | 61, _ => rfl
  | 62, _ => rfl
  | 63, _ => rfl
  | 64, _ => rfl
  | 65, _ => rfl
  | 66, _ => rfl
  | 67, _ => rfl
  | 68, _ => rfl
  | 69, _ => rfl
  | 70, _ => rfl
  | 71, _ => rfl
  | 72, _ => rfl
  | 73, _ => rfl
  | 74, _ => rfl
  | 75, _ => rfl
  | 76, _ => rfl
  | 77, _ => rfl
  | 78, _ => rfl
  | 79, _ => rfl
  | 80, _ => rfl
  | 81, _ => rfl
  | 82, _ => rfl
  | 83, _ => rfl
  | 84, _ => rfl
  | 85, _ => rfl
  | 86, _ => rfl
  | 87, _ => rfl
  | 88, _ => rfl
  | 89, _ => rfl
  | 90, _ => rfl
  | 91, _ => rfl
  | 92, _ => rfl
  | 93, _ => rfl
  | 94, _ => rfl
  | 95, _ => rfl
  | 96, _ => rfl
  | 97, _ => rfl
  | 98, _ => rfl
  | 99, _ => rfl
  | 100, _ => rfl
  | 101, _ => rfl
  | 102, _ => rfl
  | 103, _ => rfl
  | 104, _ => rfl
  | 105, _ => rfl
  | 106, _ => rfl
  | 107, _ => rfl
  | 108, _ => rfl
  | 109, _ => rfl
  | 110, _ => rfl
  | 111, _ => rfl
  | 112, _ => rfl
  | 113, _ => rfl
  | 114, _ => rfl
  | 115, _ => rfl
  | k + 116, h => absurd h (by omega)
theorem fF_dpc {K : Nat → Nat} {n : Nat} : aDp (fF K n) K n fc_dep := by
  refine ⟨fun p r vs σ σ' hl h hf => fF_dpg.1 p r vs σ σ' ?_ ?_ hf, fF_pd K n, fun h0 => absurd h0 (by decide)⟩
  · have h1 : r / 16 % 4096 < 116 := of_decide_eq_true hl
    exact decide_eq_true (show r / 16 % 4096 < 200 by omega)
  · have h1 : r / 16 % 4096 < 116 := of_decide_eq_true hl
    have e : aDg fg_dep r = aDg fc_dep r := by
      unfold aDg
      split
      · exact fDcc _ (by omega)
      · rw [fDcc _ h1]
    rw [e]
    exact h

