section
/-! the law's helpers, over Z -/
theorem lI_i {x : Int32} : lI x.toInt = x := (lI_e rfl).symm
/-- the row in which the law keeps what has gone out -/
noncomputable def zuO (W : zW) (g : Nat → Int64) : zW := (W.1, W.2.1, W.2.2.1, W.2.2.2.1, va_up W.2.2.2.2 141 (.inl (.long, 1, .inr (.inl g))))
theorem zuO_l {W : zW} {g : Nat → Int64} : zlW zsh (zuO W g) = jup (zlW zsh W) 141 (.inl (.long, 1, .inr (.inl g))) := by
  funext b
  by_cases h : b = 141
  · subst h
    rw [jup_s]
    exact (show va_up W.2.2.2.2 141 (.inl (.long, 1, .inr (.inl g))) 141 = .inl (.long, 1, .inr (.inl g)) from if_pos rfl)
  · rw [jup_n h]
    have e9 : (zuO W g).2.2.2.2 b = W.2.2.2.2 b := va_up_ne _ _ h
    show zc (zsh b) (zuO W g) b = zc (zsh b) W b
    rcases zsh b with _ | (⟨t, len⟩ | ⟨c', ks⟩)
    · exact e9
    · cases t <;> rfl
    · show Sum.inr (c', zfs (zuO W g) b 0 ks) = Sum.inr (c', zfs W b 0 ks)
      rw [zfs_ext (W := zuO W g) (W2 := W) ks 0 (fun k q hk => ?_)]
      unfold zg
      split <;> rfl
theorem zuO_ok {W : zW} {g : Nat → Int64} (h : zWok W) : zWok (zuO W g) := h
theorem zlW_141 {W : zW} : zlW zsh W 141 = W.2.2.2.2 141 := rfl
theorem zOs_5 (v0 v1 v2 v3 v4 : Int32) {a : Option (Nat ⊕ Nat)} : zOs [.inr (.inr a), .inl v0.toInt, .inl v1.toInt, .inl v2.toInt, .inl v3.toInt, .inl v4.toInt] := fun v hv => by
  simp only [List.mem_cons, List.not_mem_nil, or_false] at hv
  rcases hv with rfl | rfl | rfl | rfl | rfl | rfl
  · trivial
  all_goals exact lI_r _
theorem zOs_1 (v0 : Int32) {a : Option (Nat ⊕ Nat)} : zOs [.inr (.inr a), .inl v0.toInt] := fun v hv => by
  simp only [List.mem_cons, List.not_mem_nil, or_false] at hv
  rcases hv with rfl | rfl
  · trivial
  · exact lI_r _
set_option maxRecDepth 100000 in
set_option maxHeartbeats 4000000 in
theorem cwz_feed (l : Launch) (E : jE) {W : zW} {n : Nat} {v0 v1 v2 v3 v4 : Int32} (hn : 142 ≤ n) (hW : zWok W) (hq : 0 ≤ W.1 0 12 ∧ W.1 0 12 ≤ 65516) : jMetW l E jcl jtb lw_tbl y_LA_feed [(0, 11, 14, 13)] { frames := 2, cells := 0, slots := 0, locals := 80 } [.inr (.inr (some (.inl 0))), .inl v0, .inl v1, .inl v2, .inl v3, .inl v4] (zlW zsh W) n (fun r σ' n' => r = some (.inl 0) ∧ n' = n ∧ ∃ V : zW, zWok V ∧ σ' = zlW zsh V ∧ zFr [(0, 12)] [1] W V ∧ V.1 0 12 = W.1 0 12 + 20 ∧ V.2.1 1 = yL5 (W.2.1 1) (W.1 0 12) v0.toInt v1.toInt v2.toInt v3.toInt v4.toInt) := by
  refine jMetW_of (hY := rfl) (by decide) (Nat.le_of_ble_eq_true rfl) [some (.inr (.inr (some (.inl 0)))), some (.inl v0), some (.inl v1), some (.inl v2), some (.inl v3), some (.inl v4), none] rfl ?_
  intro M hl hR X hr hTh hex
  have hM := (zk_CHfed (l := M.2.1) (E := E) hn).2 [.inr (.inr (some (.inl 0))), .inl v0.toInt, .inl v1.toInt, .inl v2.toInt, .inl v3.toInt, .inl v4.toInt] W (fun r V => r = none ∧ zFr [(0, 12)] [1] W V ∧ V.1 0 12 = W.1 0 12 + 20 ∧ V.2.1 1 = yL5 (W.2.1 1) (W.1 0 12) v0.toInt v1.toInt v2.toInt v3.toInt v4.toInt) (zOs_5 v0 v1 v2 v3 v4) hW ⟨_, _, _, _, _, rfl, ⟨⟨lI_r _, lI_r _, lI_r _, lI_r _, lI_r _⟩, hq⟩, fun V h => ⟨rfl, h⟩⟩
  rw [show zs [.inr (.inr (some (.inl 0))), .inl v0.toInt, .inl v1.toInt, .inl v2.toInt, .inl v3.toInt, .inl v4.toInt] = [.inr (.inr (some (.inl 0))), .inl v0, .inl v1, .inl v2, .inl v3, .inl v4] by show [_, Sum.inl (lI v0.toInt), Sum.inl (lI v1.toInt), Sum.inl (lI v2.toInt), Sum.inl (lI v3.toInt), Sum.inl (lI v4.toInt)] = _; simp only [lI_i]; rfl] at hM
  refine jrun_ok jC X k_LA_feed_0 0 _ _ _ o_LA_feed_0 ?_
  simp only [k_LA_feed_0, jrun, jstep, jldi, jldl, jlda, j1, j2, jl1, jl2, jli, ja1, jbr, jald, jast, jlald, jlast, jalen, jget, jput, jfit, jdup, jdupx, jdupx2, jdup2, jcat, jset1, jset2, jkill, List.getElem?_cons_zero, List.getElem?_cons_succ, List.set_cons_zero, List.set_cons_succ, List.length_cons, List.length_nil, Nat.reduceAdd, Nat.reduceLT, Int32.reduceToNatClampNeg, true_and, and_true, and_self, reduceCtorEq, not_false_eq_true, false_and, and_false, or_false, false_or, true_or, or_true]
  refine jk_Vg X hR d_LA_feed_8 q_LA_feed_8 m_CH_feed i_CH_feed e_CH_feed (ci := 0) (a := 0) rfl rfl (by omega) (fs := zfs W 0 0 [4, 5, 7, 9, 12, 18, 24, 28, 32, 35, 1, 1, 0, 0, 0]) rfl hM rfl rfl ⟨(Nat.le_of_ble_eq_true rfl), (Nat.le_of_ble_eq_true rfl)⟩ (c' := 0) rfl (s' := 0) rfl ⟨(Nat.le_of_ble_eq_true rfl), (Nat.le_of_ble_eq_true rfl)⟩ (Nat.le_of_ble_eq_true rfl) (pc' := 11) rfl ?_
  rintro _ _ _ ⟨hn2, v', V, rfl, -, hV, rfl, rfl, h1, h2, h3⟩
  obtain rfl : n = _ := hn2.symm
  simp only [Option.map_none, Option.toList_none, List.nil_append]
  refine jrun_ok jC X k_LA_feed_11 11 _ _ _ o_LA_feed_11 ?_
  simp only [k_LA_feed_11, jrun, jstep, jldi, jldl, jlda, j1, j2, jl1, jl2, jli, ja1, jbr, jald, jast, jlald, jlast, jalen, jget, jput, jfit, jdup, jdupx, jdupx2, jdup2, jcat, jset1, jset2, jkill, List.getElem?_cons_zero, List.getElem?_cons_succ, List.set_cons_zero, List.set_cons_succ, List.length_cons, List.length_nil, Nat.reduceAdd, Nat.reduceLT, Int32.reduceToNatClampNeg, true_and, and_true, and_self, reduceCtorEq, not_false_eq_true, false_and, and_false, or_false, false_or, true_or, or_true]
  refine jrun_ok jC X k_LA_feed_18 18 _ _ _ o_LA_feed_18 ?_
  simp only [k_LA_feed_18, jrun, jstep, jldi, jldl, jlda, j1, j2, jl1, jl2, jli, ja1, jbr, jald, jast, jlald, jlast, jalen, jget, jput, jfit, jdup, jdupx, jdupx2, jdup2, jcat, jset1, jset2, jkill, List.getElem?_cons_zero, List.getElem?_cons_succ, List.set_cons_zero, List.set_cons_succ, List.length_cons, List.length_nil, Nat.reduceAdd, Nat.reduceLT, Int32.reduceToNatClampNeg, true_and, and_true, and_self, reduceCtorEq, not_false_eq_true, false_and, and_false, or_false, false_or, true_or, or_true]
  exact jk_iret X d_LA_feed_19 hr rfl (Nat.le_refl _) (Nat.le_refl _) ⟨rfl, rfl, V, hV, rfl, h1, h2, h3⟩
set_option maxRecDepth 100000 in
set_option maxHeartbeats 4000000 in
theorem cwz_out (l : Launch) (E : jE) {W : zW} {n : Nat} {q : Int32} {G : Nat → Int64} (hn : 142 ≤ n) (hW : zWok W) (hq : 0 ≤ q.toInt ∧ q.toInt < W.1 2 1) (hb : yBn 65536 2 W) (hG : W.2.2.2.2 141 = .inl (.long, 1, .inr (.inl G))) : jMetW l E jcl jtb lw_tbl y_LA_out [(0, 9, 12, 24)] { frames := 2, cells := 0, slots := 0, locals := 80 } [.inr (.inr (some (.inl 0))), .inl q, .inr (.inr (some (.inl 141)))] (zlW zsh W) n (fun r σ' n' => r = some (.inl 0) ∧ n' = n ∧ ∃ G', σ' = zlW zsh (zuO W G')) := by
  refine jMetW_of (hY := rfl) (by decide) (Nat.le_of_ble_eq_true rfl) [some (.inr (.inr (some (.inl 0)))), some (.inl q), some (.inr (.inr (some (.inl 141)))), none] rfl ?_
  intro M hl hR X hr hTh hex
  have hM := (zk_CHout (l := M.2.1) (E := E) hn).2 [.inr (.inr (some (.inl 0))), .inl q.toInt] W (fun r V => (∃ x, r = some (.inl x)) ∧ V = W) (zOs_1 q) hW ⟨_, rfl, ⟨hq, hb⟩, fun r _ => ⟨⟨r, rfl⟩, rfl⟩⟩
  rw [show zs [.inr (.inr (some (.inl 0))), .inl q.toInt] = [.inr (.inr (some (.inl 0))), .inl q] by show [_, Sum.inl (lI q.toInt)] = _; simp only [lI_i]; rfl] at hM
  refine jrun_ok jC X k_LA_out_0 0 _ _ _ o_LA_out_0 ?_
  simp only [k_LA_out_0, jrun, jstep, jldi, jldl, jlda, j1, j2, jl1, jl2, jli, ja1, jbr, jald, jast, jlald, jlast, jalen, jget, jput, jfit, jdup, jdupx, jdupx2, jdup2, jcat, jset1, jset2, jkill, List.getElem?_cons_zero, List.getElem?_cons_succ, List.set_cons_zero, List.set_cons_succ, List.length_cons, List.length_nil, Nat.reduceAdd, Nat.reduceLT, Int32.reduceToNatClampNeg, true_and, and_true, and_self, reduceCtorEq, not_false_eq_true, false_and, and_false, or_false, false_or, true_or, or_true]
  refine jk_Vg X hR d_LA_out_4 q_LA_out_4 m_CH_out i_CH_out e_CH_out (ci := 0) (a := 0) rfl rfl (by omega) (fs := zfs W 0 0 [4, 5, 7, 9, 12, 18, 24, 28, 32, 35, 1, 1, 0, 0, 0]) rfl hM rfl rfl ⟨(Nat.le_of_ble_eq_true rfl), (Nat.le_of_ble_eq_true rfl)⟩ (c' := 0) rfl (s' := 0) rfl ⟨(Nat.le_of_ble_eq_true rfl), (Nat.le_of_ble_eq_true rfl)⟩ (Nat.le_of_ble_eq_true rfl) (pc' := 7) rfl ?_
  rintro _ _ _ ⟨hn2, v', V, rfl, -, hV, rfl, ⟨x, rfl⟩, rfl⟩
  obtain rfl : n = _ := hn2.symm
  have hoo : (141 < n) = True := eq_true (by omega)
  have z1 : vp_in 0 1 = True := eq_true (by unfold vp_in; decide)
  have hG2 : zlW zsh V 141 = .inl (.long, 1, .inr (.inl G)) := zlW_141.trans hG
  simp only [Option.map_some, zj, Option.toList_some, List.cons_append, List.nil_append]
  refine jrun_ok jC X k_LA_out_7 7 _ _ _ o_LA_out_7 ?_
  simp only [k_LA_out_7, jrun, jstep, jldi, jldl, jlda, j1, j2, jl1, jl2, jli, ja1, jbr, jald, jast, jlald, jlast, jalen, jget, jput, jfit, jdup, jdupx, jdupx2, jdup2, jcat, jset1, jset2, jkill, List.getElem?_cons_zero, List.getElem?_cons_succ, List.set_cons_zero, List.set_cons_succ, List.length_cons, List.length_nil, Nat.reduceAdd, Nat.reduceLT, Int32.reduceToNatClampNeg, true_and, and_true, and_self, reduceCtorEq, not_false_eq_true, false_and, and_false, or_false, false_or, true_or, or_true, hoo, hG2, z1]
  refine jrun_ok jC X k_LA_out_15 15 _ _ _ o_LA_out_15 ?_
  simp only [k_LA_out_15, jrun, jstep, jldi, jldl, jlda, j1, j2, jl1, jl2, jli, ja1, jbr, jald, jast, jlald, jlast, jalen, jget, jput, jfit, jdup, jdupx, jdupx2, jdup2, jcat, jset1, jset2, jkill, List.getElem?_cons_zero, List.getElem?_cons_succ, List.set_cons_zero, List.set_cons_succ, List.length_cons, List.length_nil, Nat.reduceAdd, Nat.reduceLT, Int32.reduceToNatClampNeg, true_and, and_true, and_self, reduceCtorEq, not_false_eq_true, false_and, and_false, or_false, false_or, true_or, or_true]
  exact jk_iret X d_LA_out_16 hr rfl (Nat.le_refl _) (Nat.le_refl _) ⟨rfl, rfl, _, zuO_l.symm⟩
set_option maxRecDepth 100000 in
set_option maxHeartbeats 4000000 in
theorem cwz_end (l : Launch) (E : jE) (hA : yPfA l E) {W : zW} {n L : Nat} {T : xT} {h : Int} {Gx : xG} {g : Nat} {R : Int → Int} {q : Int32} {G : Nat → Int64} (hn : 142 ≤ n) (hW : zWok W) (hg : g = 33 ∨ g = 60) (hc : yCn W g T R h Gx) (hN : yNI n W L) (hq : 0 ≤ q.toInt ∧ q.toInt ≤ W.1 0 12) (hfd : W.1 0 12 ≤ 65536) (hG : W.2.2.2.2 141 = .inl (.long, 1, .inr (.inl G))) : jMetW l E jcl jtb lw_tbl y_LA_end [(0, 9, 12, 19)] { frames := 62, cells := 5 - yUc W L, slots := 638976 - yUs W L, locals := 4200 } [.inr (.inr (some (.inl 0))), .inl q, .inr (.inr (some (.inl 141)))] (zlW zsh W) n (fun r σ' n' => r = some (.inl 0) ∧ ∃ (V : zW) (f : Int) (G' : Nat → Int64), zWok V ∧ yEpz n W L q.toInt T h Gx n' (some (.inl f)) V ∧ lRg f ∧ V.2.2.2.2 141 = W.2.2.2.2 141 ∧ G' 0 = (lI f).toInt64 ∧ σ' = zlW zsh (zuO V G')) := by
  refine jMetW_of (hY := rfl) (by decide) (Nat.le_of_ble_eq_true rfl) [some (.inr (.inr (some (.inl 0)))), some (.inl q), some (.inr (.inr (some (.inl 141)))), none] rfl ?_
  intro M hl hR X hr hTh hex
  have hM := zj_end (l := M.2.1) (E := E) (by rw [hl]; exact hA) hn hW hg hc hN hq hfd
  rw [show zs [.inr (.inr (some (.inl 0))), .inl q.toInt] = [.inr (.inr (some (.inl 0))), .inl q] by show [_, Sum.inl (lI q.toInt)] = _; simp only [lI_i]; rfl] at hM
  refine jrun_ok jC X k_LA_end_0 0 _ _ _ o_LA_end_0 ?_
  simp only [k_LA_end_0, jrun, jstep, jldi, jldl, jlda, j1, j2, jl1, jl2, jli, ja1, jbr, jald, jast, jlald, jlast, jalen, jget, jput, jfit, jdup, jdupx, jdupx2, jdup2, jcat, jset1, jset2, jkill, List.getElem?_cons_zero, List.getElem?_cons_succ, List.set_cons_zero, List.set_cons_succ, List.length_cons, List.length_nil, Nat.reduceAdd, Nat.reduceLT, Int32.reduceToNatClampNeg, true_and, and_true, and_self, reduceCtorEq, not_false_eq_true, false_and, and_false, or_false, false_or, true_or, or_true]
  refine jk_Vg X hR d_LA_end_4 q_LA_end_4 m_CH_end i_CH_end e_CH_end (ci := 0) (a := 0) rfl rfl (by omega) (fs := zfs W 0 0 [4, 5, 7, 9, 12, 18, 24, 28, 32, 35, 1, 1, 0, 0, 0]) rfl hM rfl rfl ⟨(Nat.le_of_ble_eq_true rfl), (Nat.le_of_ble_eq_true rfl)⟩ rfl rfl ⟨by show 0 + (5 - _) ≤ 5 - _; omega, by show 0 + (638976 - _) ≤ 638976 - _; omega⟩ (Nat.le_of_ble_eq_true rfl) (pc' := 7) rfl ?_
  rintro _ _ n2 ⟨v', V, rfl, hV, rfl, hp⟩
  have hp0 := hp
  obtain ⟨f, L', g', T', R', h', G1, x, rfl, k1, k2, i, k3⟩ := hp
  have hm : yNm n n2 W V L L' := k3.2.2.2.2.2.2.2
  have e41 : V.2.2.2.2 141 = W.2.2.2.2 141 := (hm.2.2.2.2 141 (by omega) (by omega) (fun z => by
    rcases hN.2.2.2.1 with ⟨-, y⟩ | ⟨-, a, u, y, y2, -⟩
    · rw [y] at z
      have := Sum.inl.inj (Option.some.inj z)
      omega
    · rw [y] at z
      have := Sum.inl.inj (Option.some.inj z)
      omega)).1
  have hn2 : n ≤ n2 := hm.1.1
  have hoo : (141 < n2) = True := eq_true (by omega)
  have z1 : vp_in 0 1 = True := eq_true (by unfold vp_in; decide)
  have hG2 : zlW zsh V 141 = .inl (.long, 1, .inr (.inl G)) := zlW_141.trans (e41.trans hG)
  simp only [Option.map_some, zj, Option.toList_some, List.cons_append, List.nil_append]
  refine jrun_ok jC X k_LA_end_7 7 _ _ _ o_LA_end_7 ?_
  simp only [k_LA_end_7, jrun, jstep, jldi, jldl, jlda, j1, j2, jl1, jl2, jli, ja1, jbr, jald, jast, jlald, jlast, jalen, jget, jput, jfit, jdup, jdupx, jdupx2, jdup2, jcat, jset1, jset2, jkill, List.getElem?_cons_zero, List.getElem?_cons_succ, List.set_cons_zero, List.set_cons_succ, List.length_cons, List.length_nil, Nat.reduceAdd, Nat.reduceLT, Int32.reduceToNatClampNeg, true_and, and_true, and_self, reduceCtorEq, not_false_eq_true, false_and, and_false, or_false, false_or, true_or, or_true, hoo, hG2, z1]
  refine jrun_ok jC X k_LA_end_15 15 _ _ _ o_LA_end_15 ?_
  simp only [k_LA_end_15, jrun, jstep, jldi, jldl, jlda, j1, j2, jl1, jl2, jli, ja1, jbr, jald, jast, jlald, jlast, jalen, jget, jput, jfit, jdup, jdupx, jdupx2, jdup2, jcat, jset1, jset2, jkill, List.getElem?_cons_zero, List.getElem?_cons_succ, List.set_cons_zero, List.set_cons_succ, List.length_cons, List.length_nil, Nat.reduceAdd, Nat.reduceLT, Int32.reduceToNatClampNeg, true_and, and_true, and_self, reduceCtorEq, not_false_eq_true, false_and, and_false, or_false, false_or, true_or, or_true]
  refine jk_iret X d_LA_end_16 hr rfl (by show 0 + (5 - _) ≤ 5 - _; omega) (by show 0 + (638976 - _) ≤ 638976 - _; omega) ⟨rfl, V, f, _, hV, hp0, ?_, e41, ?_, zuO_l.symm⟩
  · have k4 := k3.2.2.2.1
    unfold lRg
    omega
  · rfl
end
section
/-! what stands between two calls of the law -/
noncomputable def wLP (n L : Nat) (W : zW) : Prop := zWok W ∧ 142 ≤ n ∧ (∃ (T : xT) (h : Int) (G G' : xG) (g : Nat) (R : Int → Int), wLJ W T h G G' g R) ∧ yNI n W L ∧ eWo n W ∧ ∃ q : Nat → Int64, W.2.2.2.2 141 = .inl (.long, 1, .inr (.inl q))
noncomputable def wVc (k L : Nat) (W : zW) : Nat := 142 + 2 * k + 5 * yUc W L + (5 - eCc W)
noncomputable def wVs (k L : Nat) (W : zW) : Nat := 1030440 + 12 * k + 638976 * yUc W L + (327770 - eSs W)
theorem wLP_u {n L k : Nat} {W : zW} (h : wLP n L W) (hk : k ≤ 512) : wVc k L W ≤ 1196 ∧ wVs k L W ≤ 4559234 := by
  have u := yNI_u h.2.2.2.1
  unfold wVc wVs
  omega
noncomputable def zuW (W : zW) (r : Nat → jcell) : zW := (W.1, W.2.1, W.2.2.1, W.2.2.2.1, r)
theorem yNI_x {n n' L : Nat} {W : zW} {r : Nat → jcell} (h : yNI n W L) (hn : n ≤ n') (hr : ∀ a, 142 ≤ a → a < n → r a = W.2.2.2.2 a) : yNI n' (zuW W r) L := by
  obtain ⟨h3, h4, h5, h7, h9⟩ := h
  have k : ∀ f M, yNl n W f M → yNl n' (zuW W r) f M := fun f M z => by
    rcases z with z | ⟨a, u, z1, z2, z3, z4⟩
    · exact Or.inl z
    · exact Or.inr ⟨a, u, z1, ⟨z2.1, by omega⟩, (hr a z2.1 z2.2).trans z3, z4⟩
  refine ⟨k _ _ h3, k _ _ h4, k _ _ h5, ?_, h9⟩
  rcases h7 with z | ⟨z0, a, u, z1, z2, z3⟩
  · exact Or.inl z
  · exact Or.inr ⟨z0, a, u, z1, ⟨z2.1, by omega⟩, (hr a z2.1 z2.2).trans z3⟩
theorem eWo_x {n n' : Nat} {W : zW} {r : Nat → jcell} (h : eWo n W) (hn : n ≤ n') (hr : ∀ a, 142 ≤ a → a < n → r a = W.2.2.2.2 a) (hx : ∀ a, n ≤ a → a < n' → ∃ x, r a = .inl x) : eWo n' (zuW W r) := by
  rcases h with h | ⟨e, d1, d2, ⟨U, u1, u2, u3⟩, d4⟩
  · exact Or.inl h
  · refine Or.inr ⟨e, d1, ⟨d2.1, by omega⟩, ⟨U, u1, u2, fun k hk => (hr _ (by omega) (by omega)).trans (u3 k hk)⟩, fun a a1 a2 => ?_⟩
    by_cases c : a < n
    · obtain ⟨x, hx⟩ := d4 a a1 c
      exact ⟨x, (hr a (by omega) c).trans hx⟩
    · exact hx a (by omega) a2
theorem wLJ_x {W : zW} {r : Nat → jcell} {T : xT} {h : Int} {G G' : xG} {g : Nat} {R : Int → Int} (j : wLJ W T h G G' g R) : wLJ (zuW W r) T h G G' g R := j
theorem wLP_x {n n' L : Nat} {W : zW} {r : Nat → jcell} (h : wLP n L W) (hn : n ≤ n') (hr : ∀ a, 142 ≤ a → a < n → r a = W.2.2.2.2 a) (hx : ∀ a, n ≤ a → a < n' → ∃ x, r a = .inl x) (h1 : ∃ q : Nat → Int64, r 141 = .inl (.long, 1, .inr (.inl q))) : wLP n' L (zuW W r) := by
  obtain ⟨a1, a2, ⟨T, t, G, G', g, R, a3⟩, a4, a5, a6⟩ := h
  exact ⟨a1, Nat.le_trans a2 hn, ⟨T, t, G, G', g, R, wLJ_x a3⟩, yNI_x a4 hn hr, eWo_x a5 hn hr hx, h1⟩
theorem zuO_n {W : zW} {g : Nat → Int64} {a : Nat} (h : ¬ a = 141) : (zuO W g).2.2.2.2 a = W.2.2.2.2 a := va_up_ne _ _ h
theorem zuO_s {W : zW} {g : Nat → Int64} : (zuO W g).2.2.2.2 141 = .inl (.long, 1, .inr (.inl g)) := (show va_up W.2.2.2.2 141 (.inl (.long, 1, .inr (.inl g))) 141 = .inl (.long, 1, .inr (.inl g)) from if_pos rfl)
theorem wLP_O {n L : Nat} {W : zW} {g : Nat → Int64} (h : wLP n L W) : wLP n L (zuO W g) := wLP_x h (Nat.le_refl _) (fun a h1 _ => zuO_n (by omega)) (fun a h1 h2 => absurd h2 (Nat.not_lt.mpr h1)) ⟨g, zuO_s (W := W)⟩
/-- an object that a throw has made -/
noncomputable def zuJ (W : zW) (n : Nat) : zW := zuW W (va_up W.2.2.2.2 n jun)
theorem zuJ_l {W : zW} {n : Nat} (hn : 142 ≤ n) : zlW zsh (zuJ W n) = jup (zlW zsh W) n jun := by
  funext b
  by_cases h : b = n
  · subst h
    rw [jup_s]
    show zc (zsh b) (zuJ W b) b = _
    rw [zsh_n hn]
    exact (show va_up W.2.2.2.2 b jun b = jun from if_pos rfl)
  · rw [jup_n h]
    have e9 : (zuJ W n).2.2.2.2 b = W.2.2.2.2 b := va_up_ne _ _ h
    show zc (zsh b) (zuJ W n) b = zc (zsh b) W b
    rcases zsh b with _ | (⟨t, len⟩ | ⟨c', ks⟩)
    · exact e9
    · cases t <;> rfl
    · show Sum.inr (c', zfs (zuJ W n) b 0 ks) = Sum.inr (c', zfs W b 0 ks)
      rw [zfs_ext (W := zuJ W n) (W2 := W) ks 0 (fun k q hk => ?_)]
      unfold zg
      split <;> rfl
theorem wLP_J {n L : Nat} {W : zW} (h : wLP n L W) : wLP (n + 1) L (zuJ W n) := by
  have hn := h.2.1
  refine wLP_x h (by omega) (fun a h1 h2 => va_up_ne _ _ (by omega)) (fun a h1 h2 => ?_) ?_
  · obtain rfl : a = n := by omega
    exact ⟨_, if_pos rfl⟩
  · obtain ⟨q, hq⟩ := h.2.2.2.2.2
    exact ⟨q, (va_up_ne _ _ (by omega)).trans hq⟩
theorem wLP_r {n L : Nat} {W V : zW} (h : wLP n L W) (f : zFr [(87, 0)] [] W V) (hV : zWok V) : wLP n L V := by
  obtain ⟨a1, a2, ⟨T, t, G, G', g, R, a3⟩, a4, a5, a6⟩ := h
  exact ⟨hV, a2, ⟨T, t, G, G', g, R, wLJ_r a3 f⟩, yNI_k a4 (by rw [f.2.2]) (by rw [f.2.2]), eWo_2 a5 (by rw [f.2.2]) (by rw [f.2.2]), by rw [f.2.2]; exact a6⟩
theorem wLP_f {n L : Nat} {W V U : zW} {a b c d e : Int} (h : wLP n L W) (hl : W.1 0 12 ≤ 65516) (f : zFr [(0, 12)] [1] W V) (f1 : V.1 0 12 = W.1 0 12 + 20) (f2 : V.2.1 1 = yL5 (W.2.1 1) (W.1 0 12) a b c d e) (k : zFr [(87, 0), (87, 1)] [88] V U) (k1 : U.1 87 1 = V.1 87 1 + 20) (k2 : U.2.1 88 = yL5 (V.2.1 88) (V.1 87 1) a b c d e) (hU : zWok U) : wLP n L U := by
  obtain ⟨a1, a2, ⟨T, t, G, G', g, R, a3⟩, a4, a5, a6⟩ := h
  exact ⟨hU, a2, ⟨T, t, G, G', g, R, wLJ_f a3 hl f f1 f2 k k1 k2⟩, yNI_k a4 (by rw [k.2.2, f.2.2]) (by rw [k.2.2, f.2.2]), eWo_2 a5 (by rw [k.2.2, f.2.2]) (by rw [k.2.2, f.2.2]), by rw [k.2.2, f.2.2]; exact a6⟩
theorem zFr_u {W V : zW} {Fs : List (Nat × Nat)} {Rs : List Nat} {k L : Nat} (f : zFr Fs Rs W V) : wVc k L V = wVc k L W ∧ wVs k L V = wVs k L W := by
  unfold wVc wVs yUc eCc eSs
  rw [f.2.2]
  exact ⟨rfl, rfl⟩
/-- the out row written, on both sides of the class's end -/
theorem yEpz_O {n n' L : Nat} {W V : zW} {nn : Int} {T : xT} {h : Int} {G : xG} {v : Option zv} {g : Nat → Int64} (hn : 142 ≤ n) (p : yEpz n W L nn T h G n' v V) : yEpz n (zuO W g) L nn T h G n' v (zuO V g) := by
  obtain ⟨f, L', g', T', R', h', G1, x, k1, k2, k3, i, s1, s2, s3, s4, s5, s6, s7, m1, m2, m3, m4, m5⟩ := p
  have hn' := m1.1
  have el : ∀ a, ¬ a = 141 → zlW zsh (zuO V g) a = zlW zsh V a := fun a ha => by rw [zuO_l, jup_n ha]
  have el2 : ∀ a, ¬ a = 141 → zlW zsh (zuO W g) a = zlW zsh W a := fun a ha => by rw [zuO_l, jup_n ha]
  refine ⟨f, L', g', T', R', h', G1, x, k1, k2, k3, i, s1, s2, s3, s4, s5, s6, yNI_x s7 (Nat.le_refl _) (fun a h1 _ => zuO_n (by omega)), ⟨m1.1, m1.2.1, fun a a1 a2 => ?_, ?_⟩, m2, m3, fun a ha => ?_, fun a a1 a2 a3 => ?_⟩
  · rw [el a (by omega)]
    exact m1.2.2.1 a a1 a2
  · refine Nat.le_trans (Nat.le_of_eq ?_) m1.2.2.2
    congr 1
    refine List.map_congr_left (fun i hi => ?_)
    rw [el _ (by omega)]
  · by_cases c : a = 141
    · subst c
      rw [zuO_l, zuO_l, jup_s, jup_s]
      exact ⟨rfl, fun z => z⟩
    · rw [el a c, el2 a c]
      exact m4 a ha
  · by_cases c : a = 141
    · subst c
      refine ⟨?_, (m5 141 a1 a2 a3).2⟩
      rw [zuO_s, zuO_s]
    · rw [zuO_n c, zuO_n c]
      exact m5 a a1 a2 a3
theorem eCc_e {W V : zW} (h : V.2.2.2.1 87 7 = W.2.2.2.1 87 7) : eCc V = eCc W ∧ eSs V = eSs W := by
  unfold eCc eSs
  rw [h]
  exact ⟨rfl, rfl⟩
/-- one end in both -/
theorem wLP_e {n n' L : Nat} {W V : zW} {nn f : Int} {T : xT} {h : Int} {G G' : xG} {g : Nat} {R : Int → Int} (g' : Nat → Int64) (hn : 142 ≤ n) (j : wLJ W T h G G' g R) (hN : yNI n W L) (o : eWo n W) (hb : nn ≤ W.1 0 12) (p : yEpz n W L nn T h G n' (some (.inl f)) V) : (zHe (zuO V g') T h ∧ wTn (zuO V g') ((zuO V g').1 90 5) G' ∧ zVr (zuO V g') ∧ (∀ i, -128 ≤ (zuO V g').2.1 88 i ∧ (zuO V g').2.1 88 i ≤ 127) ∧ (zuO V g').1 87 1 = W.1 0 12 ∧ eWo n' (zuO V g') ∧ n ≤ n' ∧ eCc (zuO V g') = eCc W ∧ eSs (zuO V g') = eSs W) ∧ ∀ (n2 : Nat) (v2 : Option zv) (V2 : zW), zWok V2 → wFz n' (zuO V g') nn T h G' n2 v2 V2 → v2 = some (.inl f) ∧ V2.1 87 0 = 0 ∧ ∃ L', wLP n2 L' V2 ∧ V2.2.2.2.2 141 = .inl (.long, 1, .inr (.inl g')) ∧ yUc W L ≤ yUc V2 L' ∧ (¬ n' = n → yUc W L + 1 ≤ yUc V2 L') ∧ (n2 = n' → eCc V2 = eCc W ∧ eSs V2 = eSs W) ∧ (¬ n2 = n' → eCc W = 5 ∧ eSs W = 327770 ∧ eCc V2 = 0 ∧ eSs V2 = 0) := by
  have j1 : wLJ (zuO W g') T h G G' g R := wLJ_x j
  have p1 := yEpz_O (g := g') hn p
  have N1 : yNI n (zuO W g') L := yNI_x hN (Nat.le_refl _) (fun a h1 _ => zuO_n (by omega))
  have o1 : eWo n (zuO W g') := eWo_x o (Nat.le_refl _) (fun a h1 _ => zuO_n (by omega)) (fun a h1 h2 => absurd h2 (Nat.not_lt.mpr h1))
  have q := wLJ_e j1 p1
  have o2 : eWo n' (zuO V g') := by
    obtain ⟨f, L', g2, T', R', h', G1, x, k1, k2, k3, i, s⟩ := p1
    exact eWo_c o1 N1 s.2.2.2.2.2.2.2 s.2.2.2.2.2.1
  have hm : n ≤ n' := by
    obtain ⟨f, L', g2, T', R', h', G1, x, k1, k2, k3, i, s⟩ := p
    exact s.2.2.2.2.2.2.2.1.1
  have e7 : (zuO V g').2.2.2.1 87 7 = W.2.2.2.1 87 7 := by
    obtain ⟨f, L', g2, T', R', h', G1, x, k1, k2, k3, i, s⟩ := p
    show V.2.2.2.1 87 7 = _
    rw [(s.2.2.2.2.2.1 87 (by decide) (by decide)).2.2.2]
  have ec := eCc_e e7
  refine ⟨⟨q.1, q.2.2.1, q.2.2.2.1, q.2.2.2.2.1, q.2.2.2.2.2, o2, hm, ec.1, ec.2⟩, fun n2 v2 V2 hV2 p2 => ?_⟩
  obtain ⟨f', L', g2, T', R', h', G1, G2, k1, k2, k3, k4, k5, k6, k7, k8, k9⟩ := wLJ_2 j1 hb p1 p2
  obtain rfl : f = f' := Sum.inl.inj (Option.some.inj k1)
  have hn2 := eGn_l k9
  have c141 : V2.2.2.2.2 141 = .inl (.long, 1, .inr (.inl g')) := by
    refine (k7.2.2.2.2 141 (by omega) (fun e he => ?_)).trans zuO_s
    rcases o2 with z | ⟨e2, d1, d2, -⟩
    · rw [z] at he
      cases he
    · have e3 := d1.symm.trans he
      obtain rfl : e2 = e := Sum.inl.inj (Option.some.inj e3)
      omega
  have u29 : ∀ i, V2.2.2.2.1 29 i = (zuO V g').2.2.2.1 29 i := fun i => k7.2.2.2.1 29 i (by simp)
  have uc : yUc V2 L' = yUc (zuO V g') L' := by
    unfold yUc
    rw [u29, u29, u29]
  have t := k6.1
  have u0 := k6.2.1
  have uW : yUc (zuO W g') L = yUc W L := rfl
  refine ⟨k2, k4, L', ⟨hV2, by omega, ⟨T', h', G1, G2, g2, R', k3⟩, yNI_r k5 k7 o2 hn2, k8, ⟨g', c141⟩⟩, c141, by omega, fun hne => ?_, fun he => ?_, fun he => ?_⟩
  · have := t.2.1
    omega
  · rcases k9 with ⟨-, z⟩ | ⟨z, -⟩
    · exact eCc_e (z.trans e7)
    · omega
  · rcases k9 with ⟨z, -⟩ | ⟨-, z1, z2⟩
    · exact absurd z he
    · have z1 := e7.symm.trans z1
      unfold eCc eSs
      rw [z1, z2]
      exact ⟨rfl, rfl, rfl, rfl⟩
end
section
/-! the law over Z -/
noncomputable def kk_LW_0 : List jI := [(.new 8, 3, (0, 0, 0, 0, 0)), (.dup, 1, (0, 0, 0, 0, 0)), (.invokespecial 26, 3, (0, 0, 0, 0, 0)), (.astore_n 1, 1, (1, 0, 0, 0, 0)), (.new 27, 3, (0, 0, 0, 0, 0)), (.dup, 1, (0, 0, 0, 0, 0)), (.invokespecial 29, 3, (0, 0, 0, 0, 0)), (.astore_n 2, 1, (2, 0, 0, 0, 0)), (.iconst 1, 1, (0, 0, 0, 1, 0)), (.newarray .long, 2, (0, 0, 0, 0, 0)), (.astore_n 3, 1, (3, 0, 0, 0, 0)), (.iconst 0, 1, (0, 0, 0, 0, 0)), (.istore 4, 2, (4, 0, 0, 0, 0)), (.iload 4, 2, (4, 0, 0, 0, 0)), (.aload_n 0, 1, (0, 0, 0, 0, 0)), (.arraylength, 1, (0, 0, 0, 0, 0)), (.bipush 6, 2, (0, 0, 0, 6, 0)), (.isub, 1, (0, 0, 0, 0, 0)), (.if_icmp .gt 214, 3, (244, 0, 0, 0, 0)), (.aload_n 0, 1, (0, 0, 0, 0, 0)), (.iload 4, 2, (4, 0, 0, 0, 0)), (.iaload, 1, (0, 0, 0, 0, 0)), (.iconst 3, 1, (0, 0, 0, 3, 0)), (.iand, 1, (0, 0, 0, 0, 0)), (.tableswitch 199 0 3 #[29, 102, 158, 171], 29, (0, 0, 0, 0, 0)), (.aload_n 1, 1, (1, 0, 0, 0, 0)), (.aload_n 0, 1, (0, 0, 0, 0, 0)), (.iload 4, 2, (4, 0, 0, 0, 0)), (.iconst 1, 1, (0, 0, 0, 1, 0)), (.iadd, 1, (0, 0, 0, 0, 0)), (.iaload, 1, (0, 0, 0, 0, 0)), (.aload_n 0, 1, (0, 0, 0, 0, 0)), (.iload 4, 2, (4, 0, 0, 0, 0)), (.iconst 2, 1, (0, 0, 0, 2, 0)), (.iadd, 1, (0, 0, 0, 0, 0)), (.iaload, 1, (0, 0, 0, 0, 0)), (.aload_n 0, 1, (0, 0, 0, 0, 0)), (.iload 4, 2, (4, 0, 0, 0, 0)), (.iconst 3, 1, (0, 0, 0, 3, 0)), (.iadd, 1, (0, 0, 0, 0, 0)), (.iaload, 1, (0, 0, 0, 0, 0)), (.aload_n 0, 1, (0, 0, 0, 0, 0)), (.iload 4, 2, (4, 0, 0, 0, 0)), (.iconst 4, 1, (0, 0, 0, 4, 0)), (.iadd, 1, (0, 0, 0, 0, 0)), (.iaload, 1, (0, 0, 0, 0, 0)), (.aload_n 0, 1, (0, 0, 0, 0, 0)), (.iload 4, 2, (4, 0, 0, 0, 0)), (.iconst 5, 1, (0, 0, 0, 5, 0)), (.iadd, 1, (0, 0, 0, 0, 0)), (.iaload, 1, (0, 0, 0, 0, 0)), (.invokestatic 30, 3, (0, 0, 0, 0, 0)), (.istore 5, 2, (5, 0, 0, 0, 0)), (.aload_n 2, 1, (2, 0, 0, 0, 0)), (.aload_n 0, 1, (0, 0, 0, 0, 0)), (.iload 4, 2, (4, 0, 0, 0, 0)), (.iconst 1, 1, (0, 0, 0, 1, 0)), (.iadd, 1, (0, 0, 0, 0, 0)), (.iaload, 1, (0, 0, 0, 0, 0)), (.aload_n 0, 1, (0, 0, 0, 0, 0)), (.iload 4, 2, (4, 0, 0, 0, 0)), (.iconst 2, 1, (0, 0, 0, 2, 0)), (.iadd, 1, (0, 0, 0, 0, 0)), (.iaload, 1, (0, 0, 0, 0, 0)), (.aload_n 0, 1, (0, 0, 0, 0, 0)), (.iload 4, 2, (4, 0, 0, 0, 0)), (.iconst 3, 1, (0, 0, 0, 3, 0)), (.iadd, 1, (0, 0, 0, 0, 0)), (.iaload, 1, (0, 0, 0, 0, 0)), (.aload_n 0, 1, (0, 0, 0, 0, 0)), (.iload 4, 2, (4, 0, 0, 0, 0)), (.iconst 4, 1, (0, 0, 0, 4, 0)), (.iadd, 1, (0, 0, 0, 0, 0)), (.iaload, 1, (0, 0, 0, 0, 0)), (.aload_n 0, 1, (0, 0, 0, 0, 0)), (.iload 4, 2, (4, 0, 0, 0, 0)), (.iconst 5, 1, (0, 0, 0, 5, 0)), (.iadd, 1, (0, 0, 0, 0, 0)), (.iaload, 1, (0, 0, 0, 0, 0)), (.invokevirtual 35, 3, (0, 0, 0, 0, 0)), (.goto 100, 3, (238, 0, 0, 0, 0)), (.aload_n 1, 1, (1, 0, 0, 0, 0)), (.aload_n 0, 1, (0, 0, 0, 0, 0)), (.iload 4, 2, (4, 0, 0, 0, 0)), (.iconst 1, 1, (0, 0, 0, 1, 0)), (.iadd, 1, (0, 0, 0, 0, 0)), (.iaload, 1, (0, 0, 0, 0, 0)), (.aload_n 3, 1, (3, 0, 0, 0, 0)), (.invokestatic 36, 3, (0, 0, 0, 0, 0)), (.istore 5, 2, (5, 0, 0, 0, 0)), (.aload_n 2, 1, (2, 0, 0, 0, 0)), (.aload_n 0, 1, (0, 0, 0, 0, 0)), (.iload 4, 2, (4, 0, 0, 0, 0)), (.iconst 1, 1, (0, 0, 0, 1, 0)), (.iadd, 1, (0, 0, 0, 0, 0)), (.iaload, 1, (0, 0, 0, 0, 0)), (.invokevirtual 39, 3, (0, 0, 0, 0, 0)), (.istore 6, 2, (6, 0, 0, 0, 0)), (.aload_n 2, 1, (2, 0, 0, 0, 0)), (.invokevirtual 40, 3, (0, 0, 0, 0, 0))]
theorem oo_LW_0 : jokL "ChessHouseLaw" lw_tbl jcl jtb 7 false code 0 kk_LW_0 = true := by decide +kernel
noncomputable def kk_LW_170 : List jI := [(.iload 5, 2, (5, 0, 0, 0, 0)), (.if_icmp .eq 5, 3, (177, 0, 0, 0, 0)), (.iconst 0, 1, (0, 0, 0, 0, 0)), (.ireturn, 1, (0, 0, 0, 0, 0)), (.iload 5, 2, (5, 0, 0, 0, 0)), (.ifCond .ne 15, 3, (194, 0, 0, 0, 0)), (.aload_n 3, 1, (3, 0, 0, 0, 0)), (.iconst 0, 1, (0, 0, 0, 0, 0)), (.laload, 1, (0, 0, 0, 0, 0)), (.iload 6, 2, (6, 0, 0, 0, 0)), (.i2l, 1, (0, 0, 0, 0, 0)), (.lcmp, 1, (0, 0, 0, 0, 0)), (.ifCond .eq 5, 3, (194, 0, 0, 0, 0)), (.iconst 0, 1, (0, 0, 0, 0, 0)), (.ireturn, 1, (0, 0, 0, 0, 0)), (.goto 44, 3, (238, 0, 0, 0, 0)), (.aload_n 1, 1, (1, 0, 0, 0, 0)), (.invokevirtual 44, 3, (0, 0, 0, 0, 0)), (.pop, 1, (0, 0, 0, 0, 0)), (.aload_n 2, 1, (2, 0, 0, 0, 0)), (.invokevirtual 47, 3, (0, 0, 0, 0, 0)), (.pop, 1, (0, 0, 0, 0, 0)), (.goto 31, 3, (238, 0, 0, 0, 0)), (.aload_n 1, 1, (1, 0, 0, 0, 0)), (.aload_n 0, 1, (0, 0, 0, 0, 0)), (.iload 4, 2, (4, 0, 0, 0, 0)), (.iconst 1, 1, (0, 0, 0, 1, 0)), (.iadd, 1, (0, 0, 0, 0, 0)), (.iaload, 1, (0, 0, 0, 0, 0)), (.aload_n 3, 1, (3, 0, 0, 0, 0)), (.invokestatic 48, 3, (0, 0, 0, 0, 0)), (.istore 5, 2, (5, 0, 0, 0, 0)), (.aload_n 2, 1, (2, 0, 0, 0, 0)), (.aload_n 0, 1, (0, 0, 0, 0, 0)), (.iload 4, 2, (4, 0, 0, 0, 0)), (.iconst 1, 1, (0, 0, 0, 1, 0)), (.iadd, 1, (0, 0, 0, 0, 0)), (.iaload, 1, (0, 0, 0, 0, 0)), (.invokevirtual 50, 3, (0, 0, 0, 0, 0)), (.istore 6, 2, (6, 0, 0, 0, 0)), (.goto 3, 3, (238, 0, 0, 0, 0)), (.iinc 4 6, 3, (0, 0, 0, 6, 0)), (.goto (-218), 3, (23, 0, 0, 0, 0)), (.iconst 1, 1, (0, 0, 0, 1, 0)), (.ireturn, 1, (0, 0, 0, 0, 0))]
theorem oo_LW_170 : jokL "ChessHouseLaw" lw_tbl jcl jtb 7 false code 170 kk_LW_170 = true := by decide +kernel
noncomputable def k_LW_3 : List jI := [(.dup, 1, (0, 0, 0, 0, 0))]
theorem o_LW_3 : jokL "ChessHouseLaw" lw_tbl jcl jtb 7 false code 3 k_LW_3 = true := jok_sub oo_LW_0 1 1 rfl rfl
noncomputable def k_LW_7 : List jI := [(.astore_n 1, 1, (1, 0, 0, 0, 0))]
theorem o_LW_7 : jokL "ChessHouseLaw" lw_tbl jcl jtb 7 false code 7 k_LW_7 = true := jok_sub oo_LW_0 3 1 rfl rfl
noncomputable def k_LW_11 : List jI := [(.dup, 1, (0, 0, 0, 0, 0))]
theorem o_LW_11 : jokL "ChessHouseLaw" lw_tbl jcl jtb 7 false code 11 k_LW_11 = true := jok_sub oo_LW_0 5 1 rfl rfl
noncomputable def k_LW_15 : List jI := [(.astore_n 2, 1, (2, 0, 0, 0, 0)), (.iconst 1, 1, (0, 0, 0, 1, 0))]
theorem o_LW_15 : jokL "ChessHouseLaw" lw_tbl jcl jtb 7 false code 15 k_LW_15 = true := jok_sub oo_LW_0 7 2 rfl rfl
noncomputable def k_LW_19 : List jI := [(.astore_n 3, 1, (3, 0, 0, 0, 0)), (.iconst 0, 1, (0, 0, 0, 0, 0)), (.istore 4, 2, (4, 0, 0, 0, 0))]
theorem o_LW_19 : jokL "ChessHouseLaw" lw_tbl jcl jtb 7 false code 19 k_LW_19 = true := jok_sub oo_LW_0 10 3 rfl rfl
noncomputable def k_LW_23 : List jI := [(.iload 4, 2, (4, 0, 0, 0, 0)), (.aload_n 0, 1, (0, 0, 0, 0, 0))]
theorem o_LW_23 : jokL "ChessHouseLaw" lw_tbl jcl jtb 7 false code 23 k_LW_23 = true := jok_sub oo_LW_0 13 2 rfl rfl
noncomputable def k_LW_27 : List jI := [(.bipush 6, 2, (0, 0, 0, 6, 0)), (.isub, 1, (0, 0, 0, 0, 0)), (.if_icmp .gt 214, 3, (244, 0, 0, 0, 0)), (.aload_n 0, 1, (0, 0, 0, 0, 0)), (.iload 4, 2, (4, 0, 0, 0, 0))]
theorem o_LW_27 : jokL "ChessHouseLaw" lw_tbl jcl jtb 7 false code 27 k_LW_27 = true := jok_sub oo_LW_0 16 5 rfl rfl
noncomputable def k_LW_37 : List jI := [(.iconst 3, 1, (0, 0, 0, 3, 0)), (.iand, 1, (0, 0, 0, 0, 0))]
theorem o_LW_37 : jokL "ChessHouseLaw" lw_tbl jcl jtb 7 false code 37 k_LW_37 = true := jok_sub oo_LW_0 22 2 rfl rfl
noncomputable def k_LW_68 : List jI := [(.aload_n 1, 1, (1, 0, 0, 0, 0)), (.aload_n 0, 1, (0, 0, 0, 0, 0)), (.iload 4, 2, (4, 0, 0, 0, 0)), (.iconst 1, 1, (0, 0, 0, 1, 0)), (.iadd, 1, (0, 0, 0, 0, 0))]
theorem o_LW_68 : jokL "ChessHouseLaw" lw_tbl jcl jtb 7 false code 68 k_LW_68 = true := jok_sub oo_LW_0 25 5 rfl rfl
noncomputable def k_LW_75 : List jI := [(.aload_n 0, 1, (0, 0, 0, 0, 0)), (.iload 4, 2, (4, 0, 0, 0, 0)), (.iconst 2, 1, (0, 0, 0, 2, 0)), (.iadd, 1, (0, 0, 0, 0, 0))]
theorem o_LW_75 : jokL "ChessHouseLaw" lw_tbl jcl jtb 7 false code 75 k_LW_75 = true := jok_sub oo_LW_0 31 4 rfl rfl
noncomputable def k_LW_81 : List jI := [(.aload_n 0, 1, (0, 0, 0, 0, 0)), (.iload 4, 2, (4, 0, 0, 0, 0)), (.iconst 3, 1, (0, 0, 0, 3, 0)), (.iadd, 1, (0, 0, 0, 0, 0))]
theorem o_LW_81 : jokL "ChessHouseLaw" lw_tbl jcl jtb 7 false code 81 k_LW_81 = true := jok_sub oo_LW_0 36 4 rfl rfl
noncomputable def k_LW_87 : List jI := [(.aload_n 0, 1, (0, 0, 0, 0, 0)), (.iload 4, 2, (4, 0, 0, 0, 0)), (.iconst 4, 1, (0, 0, 0, 4, 0)), (.iadd, 1, (0, 0, 0, 0, 0))]
theorem o_LW_87 : jokL "ChessHouseLaw" lw_tbl jcl jtb 7 false code 87 k_LW_87 = true := jok_sub oo_LW_0 41 4 rfl rfl
noncomputable def k_LW_93 : List jI := [(.aload_n 0, 1, (0, 0, 0, 0, 0)), (.iload 4, 2, (4, 0, 0, 0, 0)), (.iconst 5, 1, (0, 0, 0, 5, 0)), (.iadd, 1, (0, 0, 0, 0, 0))]
theorem o_LW_93 : jokL "ChessHouseLaw" lw_tbl jcl jtb 7 false code 93 k_LW_93 = true := jok_sub oo_LW_0 46 4 rfl rfl
noncomputable def k_LW_102 : List jI := [(.istore 5, 2, (5, 0, 0, 0, 0)), (.aload_n 2, 1, (2, 0, 0, 0, 0)), (.aload_n 0, 1, (0, 0, 0, 0, 0)), (.iload 4, 2, (4, 0, 0, 0, 0)), (.iconst 1, 1, (0, 0, 0, 1, 0)), (.iadd, 1, (0, 0, 0, 0, 0))]
theorem o_LW_102 : jokL "ChessHouseLaw" lw_tbl jcl jtb 7 false code 102 k_LW_102 = true := jok_sub oo_LW_0 52 6 rfl rfl
noncomputable def k_LW_111 : List jI := [(.aload_n 0, 1, (0, 0, 0, 0, 0)), (.iload 4, 2, (4, 0, 0, 0, 0)), (.iconst 2, 1, (0, 0, 0, 2, 0)), (.iadd, 1, (0, 0, 0, 0, 0))]
theorem o_LW_111 : jokL "ChessHouseLaw" lw_tbl jcl jtb 7 false code 111 k_LW_111 = true := jok_sub oo_LW_0 59 4 rfl rfl
noncomputable def k_LW_117 : List jI := [(.aload_n 0, 1, (0, 0, 0, 0, 0)), (.iload 4, 2, (4, 0, 0, 0, 0)), (.iconst 3, 1, (0, 0, 0, 3, 0)), (.iadd, 1, (0, 0, 0, 0, 0))]
theorem o_LW_117 : jokL "ChessHouseLaw" lw_tbl jcl jtb 7 false code 117 k_LW_117 = true := jok_sub oo_LW_0 64 4 rfl rfl
noncomputable def k_LW_123 : List jI := [(.aload_n 0, 1, (0, 0, 0, 0, 0)), (.iload 4, 2, (4, 0, 0, 0, 0)), (.iconst 4, 1, (0, 0, 0, 4, 0)), (.iadd, 1, (0, 0, 0, 0, 0))]
theorem o_LW_123 : jokL "ChessHouseLaw" lw_tbl jcl jtb 7 false code 123 k_LW_123 = true := jok_sub oo_LW_0 69 4 rfl rfl
noncomputable def k_LW_129 : List jI := [(.aload_n 0, 1, (0, 0, 0, 0, 0)), (.iload 4, 2, (4, 0, 0, 0, 0)), (.iconst 5, 1, (0, 0, 0, 5, 0)), (.iadd, 1, (0, 0, 0, 0, 0))]
theorem o_LW_129 : jokL "ChessHouseLaw" lw_tbl jcl jtb 7 false code 129 k_LW_129 = true := jok_sub oo_LW_0 74 4 rfl rfl
noncomputable def k_LW_138 : List jI := [(.goto 100, 3, (238, 0, 0, 0, 0))]
theorem o_LW_138 : jokL "ChessHouseLaw" lw_tbl jcl jtb 7 false code 138 k_LW_138 = true := jok_sub oo_LW_0 80 1 rfl rfl
noncomputable def k_LW_141 : List jI := [(.aload_n 1, 1, (1, 0, 0, 0, 0)), (.aload_n 0, 1, (0, 0, 0, 0, 0)), (.iload 4, 2, (4, 0, 0, 0, 0)), (.iconst 1, 1, (0, 0, 0, 1, 0)), (.iadd, 1, (0, 0, 0, 0, 0))]
theorem o_LW_141 : jokL "ChessHouseLaw" lw_tbl jcl jtb 7 false code 141 k_LW_141 = true := jok_sub oo_LW_0 81 5 rfl rfl
noncomputable def k_LW_148 : List jI := [(.aload_n 3, 1, (3, 0, 0, 0, 0))]
theorem o_LW_148 : jokL "ChessHouseLaw" lw_tbl jcl jtb 7 false code 148 k_LW_148 = true := jok_sub oo_LW_0 87 1 rfl rfl
noncomputable def k_LW_152 : List jI := [(.istore 5, 2, (5, 0, 0, 0, 0)), (.aload_n 2, 1, (2, 0, 0, 0, 0)), (.aload_n 0, 1, (0, 0, 0, 0, 0)), (.iload 4, 2, (4, 0, 0, 0, 0)), (.iconst 1, 1, (0, 0, 0, 1, 0)), (.iadd, 1, (0, 0, 0, 0, 0))]
theorem o_LW_152 : jokL "ChessHouseLaw" lw_tbl jcl jtb 7 false code 152 k_LW_152 = true := jok_sub oo_LW_0 89 6 rfl rfl
noncomputable def k_LW_164 : List jI := [(.istore 6, 2, (6, 0, 0, 0, 0)), (.aload_n 2, 1, (2, 0, 0, 0, 0))]
theorem o_LW_164 : jokL "ChessHouseLaw" lw_tbl jcl jtb 7 false code 164 k_LW_164 = true := jok_sub oo_LW_0 97 2 rfl rfl
noncomputable def k_LW_170 : List jI := [(.iload 5, 2, (5, 0, 0, 0, 0)), (.if_icmp .eq 5, 3, (177, 0, 0, 0, 0)), (.iconst 0, 1, (0, 0, 0, 0, 0))]
theorem o_LW_170 : jokL "ChessHouseLaw" lw_tbl jcl jtb 7 false code 170 k_LW_170 = true := jok_sub oo_LW_170 0 3 rfl rfl
noncomputable def k_LW_177 : List jI := [(.iload 5, 2, (5, 0, 0, 0, 0)), (.ifCond .ne 15, 3, (194, 0, 0, 0, 0)), (.aload_n 3, 1, (3, 0, 0, 0, 0)), (.iconst 0, 1, (0, 0, 0, 0, 0)), (.laload, 1, (0, 0, 0, 0, 0)), (.iload 6, 2, (6, 0, 0, 0, 0)), (.i2l, 1, (0, 0, 0, 0, 0)), (.lcmp, 1, (0, 0, 0, 0, 0)), (.ifCond .eq 5, 3, (194, 0, 0, 0, 0)), (.iconst 0, 1, (0, 0, 0, 0, 0))]
theorem o_LW_177 : jokL "ChessHouseLaw" lw_tbl jcl jtb 7 false code 177 k_LW_177 = true := jok_sub oo_LW_170 4 10 rfl rfl
noncomputable def k_LW_194 : List jI := [(.goto 44, 3, (238, 0, 0, 0, 0))]
theorem o_LW_194 : jokL "ChessHouseLaw" lw_tbl jcl jtb 7 false code 194 k_LW_194 = true := jok_sub oo_LW_170 15 1 rfl rfl
noncomputable def k_LW_197 : List jI := [(.aload_n 1, 1, (1, 0, 0, 0, 0))]
theorem o_LW_197 : jokL "ChessHouseLaw" lw_tbl jcl jtb 7 false code 197 k_LW_197 = true := jok_sub oo_LW_170 16 1 rfl rfl
noncomputable def k_LW_201 : List jI := [(.pop, 1, (0, 0, 0, 0, 0)), (.aload_n 2, 1, (2, 0, 0, 0, 0))]
theorem o_LW_201 : jokL "ChessHouseLaw" lw_tbl jcl jtb 7 false code 201 k_LW_201 = true := jok_sub oo_LW_170 18 2 rfl rfl
noncomputable def k_LW_206 : List jI := [(.pop, 1, (0, 0, 0, 0, 0)), (.goto 31, 3, (238, 0, 0, 0, 0))]
theorem o_LW_206 : jokL "ChessHouseLaw" lw_tbl jcl jtb 7 false code 206 k_LW_206 = true := jok_sub oo_LW_170 21 2 rfl rfl
noncomputable def k_LW_210 : List jI := [(.aload_n 1, 1, (1, 0, 0, 0, 0)), (.aload_n 0, 1, (0, 0, 0, 0, 0)), (.iload 4, 2, (4, 0, 0, 0, 0)), (.iconst 1, 1, (0, 0, 0, 1, 0)), (.iadd, 1, (0, 0, 0, 0, 0))]
theorem o_LW_210 : jokL "ChessHouseLaw" lw_tbl jcl jtb 7 false code 210 k_LW_210 = true := jok_sub oo_LW_170 23 5 rfl rfl
noncomputable def k_LW_217 : List jI := [(.aload_n 3, 1, (3, 0, 0, 0, 0))]
theorem o_LW_217 : jokL "ChessHouseLaw" lw_tbl jcl jtb 7 false code 217 k_LW_217 = true := jok_sub oo_LW_170 29 1 rfl rfl
noncomputable def k_LW_221 : List jI := [(.istore 5, 2, (5, 0, 0, 0, 0)), (.aload_n 2, 1, (2, 0, 0, 0, 0)), (.aload_n 0, 1, (0, 0, 0, 0, 0)), (.iload 4, 2, (4, 0, 0, 0, 0)), (.iconst 1, 1, (0, 0, 0, 1, 0)), (.iadd, 1, (0, 0, 0, 0, 0))]
theorem o_LW_221 : jokL "ChessHouseLaw" lw_tbl jcl jtb 7 false code 221 k_LW_221 = true := jok_sub oo_LW_170 31 6 rfl rfl
noncomputable def k_LW_233 : List jI := [(.istore 6, 2, (6, 0, 0, 0, 0)), (.goto 3, 3, (238, 0, 0, 0, 0))]
theorem o_LW_233 : jokL "ChessHouseLaw" lw_tbl jcl jtb 7 false code 233 k_LW_233 = true := jok_sub oo_LW_170 39 2 rfl rfl
noncomputable def k_LW_238 : List jI := [(.iinc 4 6, 3, (0, 0, 0, 6, 0)), (.goto (-218), 3, (23, 0, 0, 0, 0))]
theorem o_LW_238 : jokL "ChessHouseLaw" lw_tbl jcl jtb 7 false code 238 k_LW_238 = true := jok_sub oo_LW_170 41 2 rfl rfl
noncomputable def k_LW_244 : List jI := [(.iconst 1, 1, (0, 0, 0, 1, 0))]
theorem o_LW_244 : jokL "ChessHouseLaw" lw_tbl jcl jtb 7 false code 244 k_LW_244 = true := jok_sub oo_LW_170 43 1 rfl rfl
theorem d_LW_0 : decode code 0 = .ok (.new 8, 3) := by decide +kernel
theorem d_LW_4 : decode code 4 = .ok (.invokespecial 26, 3) := by decide +kernel
theorem q_LW_4 : jlm lw_tbl 336 "ChessHouseLaw" 26 ⟨"ChessHouse", "<init>", "()V"⟩ = true := jlm_of (Or.inl (jtF_ok rfl))
theorem d_LW_8 : decode code 8 = .ok (.new 27, 3) := by decide +kernel
theorem d_LW_12 : decode code 12 = .ok (.invokespecial 29, 3) := by decide +kernel
theorem q_LW_12 : jlm lw_tbl 1903 "ChessHouseLaw" 29 ⟨"ChessHouseModel", "<init>", "()V"⟩ = true := jlm_of (Or.inl (jtF_ok rfl))
theorem d_LW_17 : decode code 17 = .ok (.newarray .long, 2) := by decide +kernel
theorem d_LW_26 : decode code 26 = .ok (.arraylength, 1) := by decide +kernel
theorem d_LW_36 : decode code 36 = .ok (.iaload, 1) := by decide +kernel
theorem d_LW_39 : decode code 39 = .ok (.tableswitch 199 0 3 #[29, 102, 158, 171], 29) := by decide +kernel
theorem d_LW_74 : decode code 74 = .ok (.iaload, 1) := by decide +kernel
theorem d_LW_80 : decode code 80 = .ok (.iaload, 1) := by decide +kernel
theorem d_LW_86 : decode code 86 = .ok (.iaload, 1) := by decide +kernel
theorem d_LW_92 : decode code 92 = .ok (.iaload, 1) := by decide +kernel
theorem d_LW_98 : decode code 98 = .ok (.iaload, 1) := by decide +kernel
theorem d_LW_99 : decode code 99 = .ok (.invokestatic 30, 3) := by decide +kernel
theorem d_LW_110 : decode code 110 = .ok (.iaload, 1) := by decide +kernel
theorem d_LW_116 : decode code 116 = .ok (.iaload, 1) := by decide +kernel
theorem d_LW_122 : decode code 122 = .ok (.iaload, 1) := by decide +kernel
theorem d_LW_128 : decode code 128 = .ok (.iaload, 1) := by decide +kernel
theorem d_LW_134 : decode code 134 = .ok (.iaload, 1) := by decide +kernel
theorem d_LW_135 : decode code 135 = .ok (.invokevirtual 35, 3) := by decide +kernel
theorem q_LW_135 : jlm lw_tbl 2364 "ChessHouseLaw" 35 ⟨"ChessHouseModel", "feed", "(IIIII)V"⟩ = true := jlm_of (Or.inl (jtF_ok rfl))
theorem d_LW_147 : decode code 147 = .ok (.iaload, 1) := by decide +kernel
theorem d_LW_149 : decode code 149 = .ok (.invokestatic 36, 3) := by decide +kernel
theorem d_LW_160 : decode code 160 = .ok (.iaload, 1) := by decide +kernel
theorem d_LW_161 : decode code 161 = .ok (.invokevirtual 39, 3) := by decide +kernel
theorem q_LW_161 : jlm lw_tbl 2372 "ChessHouseLaw" 39 ⟨"ChessHouseModel", "end", "(I)I"⟩ = true := jlm_of (Or.inl (jtF_ok rfl))
theorem d_LW_167 : decode code 167 = .ok (.invokevirtual 40, 3) := by decide +kernel
theorem q_LW_167 : jlm lw_tbl 2360 "ChessHouseLaw" 40 ⟨"ChessHouseModel", "thrown", "()I"⟩ = true := jlm_of (Or.inl (jtF_ok rfl))
theorem d_LW_198 : decode code 198 = .ok (.invokevirtual 44, 3) := by decide +kernel
theorem q_LW_198 : jlm lw_tbl 859 "ChessHouseLaw" 44 ⟨"ChessHouse", "size", "()I"⟩ = true := jlm_of (Or.inl (jtF_ok rfl))
theorem d_LW_203 : decode code 203 = .ok (.invokevirtual 47, 3) := by decide +kernel
theorem q_LW_203 : jlm lw_tbl 3289 "ChessHouseLaw" 47 ⟨"ChessHouseModel", "size", "()I"⟩ = true := jlm_of (Or.inl (jtF_ok rfl))
theorem d_LW_216 : decode code 216 = .ok (.iaload, 1) := by decide +kernel
theorem d_LW_218 : decode code 218 = .ok (.invokestatic 48, 3) := by decide +kernel
theorem d_LW_229 : decode code 229 = .ok (.iaload, 1) := by decide +kernel
theorem d_LW_230 : decode code 230 = .ok (.invokevirtual 50, 3) := by decide +kernel
theorem q_LW_230 : jlm lw_tbl 3293 "ChessHouseLaw" 50 ⟨"ChessHouseModel", "out", "(I)I"⟩ = true := jlm_of (Or.inl (jtF_ok rfl))
theorem wLP_b {n L : Nat} {W : zW} (h : wLP n L W) : 0 ≤ W.1 0 12 ∧ W.1 0 12 ≤ 65536 ∧ W.1 87 1 = W.1 0 12 ∧ (0 ≤ W.1 87 3 ∧ W.1 87 3 ≤ 65536) ∧ yBn 65536 2 W := by
  obtain ⟨-, -, ⟨T, t, G, G', g, R, -, hc, -, -, hO, -, -, hf, -⟩, -⟩ := h
  exact ⟨hf.1, hf.2.1, hf.2.2, hO, hc.2.2.2.2.1⟩
theorem lg_cmpr (x : Int64) : lg_cmp x x = 0 := by
  have h := aLc_c x x
  have e : (lg_cmp x x).toInt = 0 := by omega
  exact Int32.toInt_inj.mp (by rw [e]; rfl)
theorem lI_0z : lI 0 = 0 := rfl
theorem lI_1z : lI 1 = 1 := rfl
theorem zs_5 (v0 v1 v2 v3 v4 : Int32) {a : Option (Nat ⊕ Nat)} : zs [.inr (.inr a), .inl v0.toInt, .inl v1.toInt, .inl v2.toInt, .inl v3.toInt, .inl v4.toInt] = [.inr (.inr a), .inl v0, .inl v1, .inl v2, .inl v3, .inl v4] := by
  show [_, Sum.inl (lI v0.toInt), Sum.inl (lI v1.toInt), Sum.inl (lI v2.toInt), Sum.inl (lI v3.toInt), Sum.inl (lI v4.toInt)] = _
  simp only [lI_i]
  rfl
theorem zs_1 (v0 : Int32) {a : Option (Nat ⊕ Nat)} : zs [.inr (.inr a), .inl v0.toInt] = [.inr (.inr a), .inl v0] := by
  show [_, Sum.inl (lI v0.toInt)] = _
  simp only [lI_i]
  rfl
theorem zOs_0 {a : Option (Nat ⊕ Nat)} : zOs [.inr (.inr a)] := fun v hv => by
  simp only [List.mem_cons, List.not_mem_nil, or_false] at hv
  subst hv
  trivial
section LAW
variable {E : jE} {M : jM} {Q : State → Prop}
/-- the loop ends -/
theorem lw_cmp {L m : Nat} (hL : L ≤ 3072) (hm : m ≤ 6144) : (Int32.ofNat L - 6 < nI m) ↔ L < m + 6 := by
  have e1 : (Int32.ofNat L).toInt = L := nI_toInt (n := L) (by omega)
  have e2 : (nI m).toInt = m := nI_toInt (by omega)
  have e3 : (Int32.ofNat L - 6).toInt = (L : Int) - 6 := by
    rw [Int32.toInt_sub, e1, show (6 : Int32).toInt = 6 from rfl]
    exact Int.bmod_eq_of_le (by omega) (by omega)
  rw [Int32.lt_iff_toInt_lt, e2, e3]
  omega
set_option maxRecDepth 100000 in
set_option maxHeartbeats 8000000 in
theorem lw_feed (hlt : M.2.1.stackTraces = false) (hA : yPfA M.2.1 E) (X : jX E "ChessHouseLaw" lw_tbl jcl jtb 7 false code M) {Lx : Nat} {xs : Nat → Int32} (hX : va_X (E.2.2.1 99) Lx xs M.2.2.2.2.1 M.2.2.2.2.1.heap) (hbl : E.2.2.1 99 < E.2.2.2) (hR : M.2.2.2.1 = room_1) (hTh : jTh E M.2.2.2.2.1) (hL : Lx ≤ 3072) {k : Nat} (hk : 6 * k + 6 ≤ Lx) (kk : ∀ (n L : Nat) (W : zW) (o5 o6 : Option jv), wLP n L W → jJ E jcl 7 M Q n (wVc (k + 1) L W) (wVs (k + 1) L W) 238 [some (.inr (.inr (some (.inr 99)))), some (.inr (.inr (some (.inl (0))))), some (.inr (.inr (some (.inl (87))))), some (.inr (.inr (some (.inl (141))))), some (.inl (nI (6 * k))), o5, o6] [] (zlW zsh W)) {n L : Nat} {W : zW} (h : wLP n L W) (o5 o6 : Option jv) : jJ E jcl 7 M Q n (wVc k L W) (wVs k L W) 68 [some (.inr (.inr (some (.inr 99)))), some (.inr (.inr (some (.inl (0))))), some (.inr (.inr (some (.inl (87))))), some (.inr (.inr (some (.inl (141))))), some (.inl (nI (6 * k))), o5, o6] [] (zlW zsh W) := by
  have hb := wLP_u h (k := k) (by omega)
  have hW := h.1
  have hn := h.2.1
  obtain ⟨b0, b1, b2, b3, b4⟩ := wLP_b h
  have e1 : nI (6 * k) + 1 = nI (6 * k + 1) := by rw [show (1 : Int32) = nI 1 from rfl, nI_add]
  have e2 : nI (6 * k) + 2 = nI (6 * k + 2) := by rw [show (2 : Int32) = nI 2 from rfl, nI_add]
  have e3 : nI (6 * k) + 3 = nI (6 * k + 3) := by rw [show (3 : Int32) = nI 3 from rfl, nI_add]
  have e4 : nI (6 * k) + 4 = nI (6 * k + 4) := by rw [show (4 : Int32) = nI 4 from rfl, nI_add]
  have e5 : nI (6 * k) + 5 = nI (6 * k + 5) := by rw [show (5 : Int32) = nI 5 from rfl, nI_add]
  refine jrun_ok jC X k_LW_68 68 _ _ _ o_LW_68 ?_
  simp only [k_LW_68, jrun, jstep, jldi, jldl, jlda, j1, j2, jl1, jl2, jli, ja1, jbr, jald, jast, jlald, jlast, jalen, jget, jput, jfit, jdup, jdupx, jdupx2, jdup2, jcat, jset1, jset2, jkill, List.getElem?_cons_zero, List.getElem?_cons_succ, List.set_cons_zero, List.set_cons_succ, List.length_cons, List.length_nil, Nat.reduceAdd, Nat.reduceLT, Int32.reduceToNatClampNeg, true_and, and_true, and_self, reduceCtorEq, not_false_eq_true, false_and, and_false, or_false, false_or, true_or, or_true, e1]
  refine jk_sld X d_LW_74 hX hbl (i := nI (6 * k + 1)) (vp_in_nI (by omega) (by omega)) ?_
  refine jrun_ok jC X k_LW_75 75 _ _ _ o_LW_75 ?_
  simp only [k_LW_75, jrun, jstep, jldi, jldl, jlda, j1, j2, jl1, jl2, jli, ja1, jbr, jald, jast, jlald, jlast, jalen, jget, jput, jfit, jdup, jdupx, jdupx2, jdup2, jcat, jset1, jset2, jkill, List.getElem?_cons_zero, List.getElem?_cons_succ, List.set_cons_zero, List.set_cons_succ, List.length_cons, List.length_nil, Nat.reduceAdd, Nat.reduceLT, Int32.reduceToNatClampNeg, true_and, and_true, and_self, reduceCtorEq, not_false_eq_true, false_and, and_false, or_false, false_or, true_or, or_true, e2]
  refine jk_sld X d_LW_80 hX hbl (i := nI (6 * k + 2)) (vp_in_nI (by omega) (by omega)) ?_
  refine jrun_ok jC X k_LW_81 81 _ _ _ o_LW_81 ?_
  simp only [k_LW_81, jrun, jstep, jldi, jldl, jlda, j1, j2, jl1, jl2, jli, ja1, jbr, jald, jast, jlald, jlast, jalen, jget, jput, jfit, jdup, jdupx, jdupx2, jdup2, jcat, jset1, jset2, jkill, List.getElem?_cons_zero, List.getElem?_cons_succ, List.set_cons_zero, List.set_cons_succ, List.length_cons, List.length_nil, Nat.reduceAdd, Nat.reduceLT, Int32.reduceToNatClampNeg, true_and, and_true, and_self, reduceCtorEq, not_false_eq_true, false_and, and_false, or_false, false_or, true_or, or_true, e3]
  refine jk_sld X d_LW_86 hX hbl (i := nI (6 * k + 3)) (vp_in_nI (by omega) (by omega)) ?_
  refine jrun_ok jC X k_LW_87 87 _ _ _ o_LW_87 ?_
  simp only [k_LW_87, jrun, jstep, jldi, jldl, jlda, j1, j2, jl1, jl2, jli, ja1, jbr, jald, jast, jlald, jlast, jalen, jget, jput, jfit, jdup, jdupx, jdupx2, jdup2, jcat, jset1, jset2, jkill, List.getElem?_cons_zero, List.getElem?_cons_succ, List.set_cons_zero, List.set_cons_succ, List.length_cons, List.length_nil, Nat.reduceAdd, Nat.reduceLT, Int32.reduceToNatClampNeg, true_and, and_true, and_self, reduceCtorEq, not_false_eq_true, false_and, and_false, or_false, false_or, true_or, or_true, e4]
  refine jk_sld X d_LW_92 hX hbl (i := nI (6 * k + 4)) (vp_in_nI (by omega) (by omega)) ?_
  refine jrun_ok jC X k_LW_93 93 _ _ _ o_LW_93 ?_
  simp only [k_LW_93, jrun, jstep, jldi, jldl, jlda, j1, j2, jl1, jl2, jli, ja1, jbr, jald, jast, jlald, jlast, jalen, jget, jput, jfit, jdup, jdupx, jdupx2, jdup2, jcat, jset1, jset2, jkill, List.getElem?_cons_zero, List.getElem?_cons_succ, List.set_cons_zero, List.set_cons_succ, List.length_cons, List.length_nil, Nat.reduceAdd, Nat.reduceLT, Int32.reduceToNatClampNeg, true_and, and_true, and_self, reduceCtorEq, not_false_eq_true, false_and, and_false, or_false, false_or, true_or, or_true, e5]
  refine jk_sld X d_LW_98 hX hbl (i := nI (6 * k + 5)) (vp_in_nI (by omega) (by omega)) ?_
  have cont : ∀ (n1 : Nat) (W1 : zW) (kv : Int32) (c1 s1 : Nat), 142 ≤ n1 → zWok W1 → 0 ≤ W1.1 87 1 ∧ W1.1 87 1 ≤ 65536 → c1 ≤ 1198 → s1 ≤ 4559300 → (∀ U : zW, zWok U → ((65516 < W1.1 87 1 ∧ U = zuF W1 87 0 1) ∨ (W1.1 87 1 ≤ 65516 ∧ zFr [(87, 0), (87, 1)] [88] W1 U ∧ U.1 87 0 = 0 ∧ U.1 87 1 = W1.1 87 1 + 20 ∧ U.2.1 88 = yL5 (W1.2.1 88) (W1.1 87 1) (xs (nI (6 * k + 1)).toNatClampNeg).toInt (xs (nI (6 * k + 2)).toNatClampNeg).toInt (xs (nI (6 * k + 3)).toNatClampNeg).toInt (xs (nI (6 * k + 4)).toNatClampNeg).toInt (xs (nI (6 * k + 5)).toNatClampNeg).toInt)) → wLP n1 L U ∧ c1 ≤ wVc (k + 1) L U ∧ s1 ≤ wVs (k + 1) L U) → jJ E jcl 7 M Q n1 c1 s1 102 [some (.inr (.inr (some (.inr 99)))), some (.inr (.inr (some (.inl (0))))), some (.inr (.inr (some (.inl (87))))), some (.inr (.inr (some (.inl (141))))), some (.inl (nI (6 * k))), o5, o6] ((some (.inl kv)).toList ++ []) (zlW zsh W1) := by
    intro n1 W1 kv c1 s1 hn1 hW1 hf1 hc hs nx
    simp only [Option.toList_some, List.cons_append, List.nil_append]
    refine jrun_ok jC X k_LW_102 102 _ _ _ o_LW_102 ?_
    simp only [k_LW_102, jrun, jstep, jldi, jldl, jlda, j1, j2, jl1, jl2, jli, ja1, jbr, jald, jast, jlald, jlast, jalen, jget, jput, jfit, jdup, jdupx, jdupx2, jdup2, jcat, jset1, jset2, jkill, List.getElem?_cons_zero, List.getElem?_cons_succ, List.set_cons_zero, List.set_cons_succ, List.length_cons, List.length_nil, Nat.reduceAdd, Nat.reduceLT, Int32.reduceToNatClampNeg, true_and, and_true, and_self, reduceCtorEq, not_false_eq_true, false_and, and_false, or_false, false_or, true_or, or_true, e1]
    refine jk_sld X d_LW_110 hX hbl (i := nI (6 * k + 1)) (vp_in_nI (by omega) (by omega)) ?_
    refine jrun_ok jC X k_LW_111 111 _ _ _ o_LW_111 ?_
    simp only [k_LW_111, jrun, jstep, jldi, jldl, jlda, j1, j2, jl1, jl2, jli, ja1, jbr, jald, jast, jlald, jlast, jalen, jget, jput, jfit, jdup, jdupx, jdupx2, jdup2, jcat, jset1, jset2, jkill, List.getElem?_cons_zero, List.getElem?_cons_succ, List.set_cons_zero, List.set_cons_succ, List.length_cons, List.length_nil, Nat.reduceAdd, Nat.reduceLT, Int32.reduceToNatClampNeg, true_and, and_true, and_self, reduceCtorEq, not_false_eq_true, false_and, and_false, or_false, false_or, true_or, or_true, e2]
    refine jk_sld X d_LW_116 hX hbl (i := nI (6 * k + 2)) (vp_in_nI (by omega) (by omega)) ?_
    refine jrun_ok jC X k_LW_117 117 _ _ _ o_LW_117 ?_
    simp only [k_LW_117, jrun, jstep, jldi, jldl, jlda, j1, j2, jl1, jl2, jli, ja1, jbr, jald, jast, jlald, jlast, jalen, jget, jput, jfit, jdup, jdupx, jdupx2, jdup2, jcat, jset1, jset2, jkill, List.getElem?_cons_zero, List.getElem?_cons_succ, List.set_cons_zero, List.set_cons_succ, List.length_cons, List.length_nil, Nat.reduceAdd, Nat.reduceLT, Int32.reduceToNatClampNeg, true_and, and_true, and_self, reduceCtorEq, not_false_eq_true, false_and, and_false, or_false, false_or, true_or, or_true, e3]
    refine jk_sld X d_LW_122 hX hbl (i := nI (6 * k + 3)) (vp_in_nI (by omega) (by omega)) ?_
    refine jrun_ok jC X k_LW_123 123 _ _ _ o_LW_123 ?_
    simp only [k_LW_123, jrun, jstep, jldi, jldl, jlda, j1, j2, jl1, jl2, jli, ja1, jbr, jald, jast, jlald, jlast, jalen, jget, jput, jfit, jdup, jdupx, jdupx2, jdup2, jcat, jset1, jset2, jkill, List.getElem?_cons_zero, List.getElem?_cons_succ, List.set_cons_zero, List.set_cons_succ, List.length_cons, List.length_nil, Nat.reduceAdd, Nat.reduceLT, Int32.reduceToNatClampNeg, true_and, and_true, and_self, reduceCtorEq, not_false_eq_true, false_and, and_false, or_false, false_or, true_or, or_true, e4]
    refine jk_sld X d_LW_128 hX hbl (i := nI (6 * k + 4)) (vp_in_nI (by omega) (by omega)) ?_
    refine jrun_ok jC X k_LW_129 129 _ _ _ o_LW_129 ?_
    simp only [k_LW_129, jrun, jstep, jldi, jldl, jlda, j1, j2, jl1, jl2, jli, ja1, jbr, jald, jast, jlald, jlast, jalen, jget, jput, jfit, jdup, jdupx, jdupx2, jdup2, jcat, jset1, jset2, jkill, List.getElem?_cons_zero, List.getElem?_cons_succ, List.set_cons_zero, List.set_cons_succ, List.length_cons, List.length_nil, Nat.reduceAdd, Nat.reduceLT, Int32.reduceToNatClampNeg, true_and, and_true, and_self, reduceCtorEq, not_false_eq_true, false_and, and_false, or_false, false_or, true_or, or_true, e5]
    refine jk_sld X d_LW_134 hX hbl (i := nI (6 * k + 5)) (vp_in_nI (by omega) (by omega)) ?_
    have hM := (zk_MMfed (l := M.2.1) (E := E) hn1).2 [.inr (.inr (some (.inl 87))), .inl (xs (nI (6 * k + 1)).toNatClampNeg).toInt, .inl (xs (nI (6 * k + 2)).toNatClampNeg).toInt, .inl (xs (nI (6 * k + 3)).toNatClampNeg).toInt, .inl (xs (nI (6 * k + 4)).toNatClampNeg).toInt, .inl (xs (nI (6 * k + 5)).toNatClampNeg).toInt] W1 (fun r U => r = none ∧ ((65516 < W1.1 87 1 ∧ U = zuF W1 87 0 1) ∨ (W1.1 87 1 ≤ 65516 ∧ zFr [(87, 0), (87, 1)] [88] W1 U ∧ U.1 87 0 = 0 ∧ U.1 87 1 = W1.1 87 1 + 20 ∧ U.2.1 88 = yL5 (W1.2.1 88) (W1.1 87 1) (xs (nI (6 * k + 1)).toNatClampNeg).toInt (xs (nI (6 * k + 2)).toNatClampNeg).toInt (xs (nI (6 * k + 3)).toNatClampNeg).toInt (xs (nI (6 * k + 4)).toNatClampNeg).toInt (xs (nI (6 * k + 5)).toNatClampNeg).toInt))) (zOs_5 _ _ _ _ _) hW1 ⟨_, _, _, _, _, rfl, ⟨⟨lI_r _, lI_r _, lI_r _, lI_r _, lI_r _⟩, hf1⟩, fun U h9 => ⟨rfl, h9⟩⟩
    rw [zs_5] at hM
    refine jk_Vg X hR d_LW_135 q_LW_135 m_MM_feed i_MM_feed e_MM_feed (ci := 11) (a := 87) rfl rfl (by omega) rfl hM rfl rfl ⟨Nat.le_of_ble_eq_true rfl, Nat.le_of_ble_eq_true rfl⟩ (c' := c1) rfl (s' := s1) rfl ⟨Nat.le_trans hc (Nat.le_of_ble_eq_true rfl), Nat.le_trans hs (Nat.le_of_ble_eq_true rfl)⟩ (Nat.le_of_ble_eq_true rfl) (pc' := 138) rfl ?_
    rintro _ _ _ ⟨hn2, v', U, rfl, -, hU, rfl, rfl, hp⟩
    obtain rfl : n1 = _ := hn2.symm
    simp only [Option.map_none, Option.toList_none, List.nil_append]
    refine jrun_ok jC X k_LW_138 138 _ _ _ o_LW_138 ?_
    simp only [k_LW_138, jrun, jstep, jldi, jldl, jlda, j1, j2, jl1, jl2, jli, ja1, jbr, jald, jast, jlald, jlast, jalen, jget, jput, jfit, jdup, jdupx, jdupx2, jdup2, jcat, jset1, jset2, jkill, List.getElem?_cons_zero, List.getElem?_cons_succ, List.set_cons_zero, List.set_cons_succ, List.length_cons, List.length_nil, Nat.reduceAdd, Nat.reduceLT, Int32.reduceToNatClampNeg, true_and, and_true, and_self, reduceCtorEq, not_false_eq_true, false_and, and_false, or_false, false_or, true_or, or_true]
    obtain ⟨u1, u2, u3⟩ := nx U hU hp
    exact jJ_widen u2 u3 (kk n1 L U _ _ u1)
  by_cases hq : W.1 0 12 ≤ 65516
  · refine jk_SWg X hR hTh d_LW_99 (jTA_in (wi := 863) (jtF_ok rfl) rfl) w_LA_feed n_LA_feed ⟨by decide, by decide⟩ (k := 6) (by decide +kernel) s_LA_feed (cwz_feed M.2.1 E hn hW ⟨b0, hq⟩) rfl rfl ⟨Nat.le_of_ble_eq_true rfl, Nat.le_of_ble_eq_true rfl⟩ (c' := wVc k L W) rfl (s' := wVs k L W) rfl ⟨Nat.le_trans hb.1 (Nat.le_of_ble_eq_true rfl), Nat.le_trans hb.2 (Nat.le_of_ble_eq_true rfl)⟩ (Nat.le_of_ble_eq_true rfl) (pc' := 102) rfl ?_
    rintro _ _ _ ⟨rfl, hn2, V, hV, rfl, f, f1, f2⟩
    obtain rfl : n = _ := hn2.symm
    have e87 : V.1 87 1 = W.1 87 1 := zFr_f f 87 1
    refine cont n V 0 _ _ hn hV (by omega) (by omega) (by omega) (fun U hU hp => ?_)
    rcases hp with ⟨z, -⟩ | ⟨-, k0, -, k1, k2⟩
    · omega
    · have g1 := zFr_u (k := k + 1) (L := L) k0
      have g2 := zFr_u (k := k + 1) (L := L) f
      refine ⟨wLP_f h hq f f1 f2 k0 k1 k2 hU, ?_, ?_⟩
      · rw [g1.1, g2.1]
        unfold wVc
        omega
      · rw [g1.2, g2.2]
        unfold wVs
        omega
  · refine jk_SWg X hR hTh d_LW_99 (jTA_in (wi := 863) (jtF_ok rfl) rfl) w_LA_feed n_LA_feed ⟨by decide, by decide⟩ (k := 6) (by decide +kernel) s_LA_feed (cw_feedT M.2.1 E (K := fun _ => 0) (en := 0) hlt (by omega) (fs := zfs W 0 0 [4, 5, 7, 9, 12, 18, 24, 28, 32, 35, 1, 1, 0, 0, 0]) rfl (fd := lI (W.1 0 12)) rfl (fun h9 => by
      have h8 := Int32.le_iff_toInt_le.mp h9
      have r : lRg (W.1 0 12) := by unfold lRg; omega
      rw [show (20 : Int32) = lI 20 from rfl, lI_a r (by unfold lRg; omega) (by unfold lRg; omega), lI_t (by unfold lRg; omega), show (65536 : Int32).toInt = 65536 from rfl] at h8
      omega)) rfl rfl ⟨Nat.le_of_ble_eq_true rfl, Nat.le_of_ble_eq_true rfl⟩ (c' := wVc k L W + 1) rfl (s' := wVs k L W + 6) rfl ⟨Nat.le_trans (Nat.add_le_add_right hb.1 1) (Nat.le_of_ble_eq_true rfl), Nat.le_trans (Nat.add_le_add_right hb.2 6) (Nat.le_of_ble_eq_true rfl)⟩ (Nat.le_of_ble_eq_true rfl) (pc' := 102) rfl ?_
    rintro _ σ1 _ ⟨rfl, hn2, rfl⟩
    subst hn2
    rw [← zuJ_l hn]
    refine cont (n + 1) (zuJ W n) 1 _ _ (by omega) hW (by show 0 ≤ W.1 87 1 ∧ W.1 87 1 ≤ 65536; omega) (by omega) (by omega) (fun U hU hp => ?_)
    rcases hp with ⟨-, rfl⟩ | ⟨z, -⟩
    · refine ⟨wLP_r (wLP_J h) (zFr_F zFr_0 (by decide)) hU, ?_, ?_⟩
      · show _ ≤ wVc (k + 1) L W
        unfold wVc
        omega
      · show _ ≤ wVs (k + 1) L W
        unfold wVs
        omega
    · have z2 : W.1 87 1 ≤ 65516 := z
      omega
set_option maxRecDepth 100000 in
set_option maxHeartbeats 8000000 in
theorem lw_end1 (hlt : M.2.1.stackTraces = false) (hA : yPfA M.2.1 E) (X : jX E "ChessHouseLaw" lw_tbl jcl jtb 7 false code M) {Lx : Nat} {xs : Nat → Int32} (hX : va_X (E.2.2.1 99) Lx xs M.2.2.2.2.1 M.2.2.2.2.1.heap) (hbl : E.2.2.1 99 < E.2.2.2) (hR : M.2.2.2.1 = room_1) (hTh : jTh E M.2.2.2.2.1) (hL : Lx ≤ 3072) {k : Nat} (hk : 6 * k + 6 ≤ Lx) (kk : ∀ (n L : Nat) (W : zW) (o5 o6 : Option jv), wLP n L W → jJ E jcl 7 M Q n (wVc (k + 1) L W) (wVs (k + 1) L W) 238 [some (.inr (.inr (some (.inr 99)))), some (.inr (.inr (some (.inl (0))))), some (.inr (.inr (some (.inl (87))))), some (.inr (.inr (some (.inl (141))))), some (.inl (nI (6 * k))), o5, o6] [] (zlW zsh W)) {n L : Nat} {W : zW} (h : wLP n L W) (o5 o6 : Option jv) : jJ E jcl 7 M Q n (wVc k L W) (wVs k L W) 141 [some (.inr (.inr (some (.inr 99)))), some (.inr (.inr (some (.inl (0))))), some (.inr (.inr (some (.inl (87))))), some (.inr (.inr (some (.inl (141))))), some (.inl (nI (6 * k))), o5, o6] [] (zlW zsh W) := by
  have hb := wLP_u h (k := k) (by omega)
  have hW := h.1
  have hn := h.2.1
  obtain ⟨b0, b1, b2, b3, b4⟩ := wLP_b h
  have e1 : nI (6 * k) + 1 = nI (6 * k + 1) := by rw [show (1 : Int32) = nI 1 from rfl, nI_add]
  refine jrun_ok jC X k_LW_141 141 _ _ _ o_LW_141 ?_
  simp only [k_LW_141, jrun, jstep, jldi, jldl, jlda, j1, j2, jl1, jl2, jli, ja1, jbr, jald, jast, jlald, jlast, jalen, jget, jput, jfit, jdup, jdupx, jdupx2, jdup2, jcat, jset1, jset2, jkill, List.getElem?_cons_zero, List.getElem?_cons_succ, List.set_cons_zero, List.set_cons_succ, List.length_cons, List.length_nil, Nat.reduceAdd, Nat.reduceLT, Int32.reduceToNatClampNeg, true_and, and_true, and_self, reduceCtorEq, not_false_eq_true, false_and, and_false, or_false, false_or, true_or, or_true, e1]
  refine jk_sld X d_LW_147 hX hbl (i := nI (6 * k + 1)) (vp_in_nI (by omega) (by omega)) ?_
  refine jrun_ok jC X k_LW_148 148 _ _ _ o_LW_148 ?_
  simp only [k_LW_148, jrun, jstep, jldi, jldl, jlda, j1, j2, jl1, jl2, jli, ja1, jbr, jald, jast, jlald, jlast, jalen, jget, jput, jfit, jdup, jdupx, jdupx2, jdup2, jcat, jset1, jset2, jkill, List.getElem?_cons_zero, List.getElem?_cons_succ, List.set_cons_zero, List.set_cons_succ, List.length_cons, List.length_nil, Nat.reduceAdd, Nat.reduceLT, Int32.reduceToNatClampNeg, true_and, and_true, and_self, reduceCtorEq, not_false_eq_true, false_and, and_false, or_false, false_or, true_or, or_true]
  have hm := h.2.2.1
  obtain ⟨T, t, G, G', g, R, j⟩ := hm
  have hN := h.2.2.2.1
  have ho := h.2.2.2.2.1
  obtain ⟨q0, h141⟩ := h.2.2.2.2.2
  have yu := yNI_u hN
  by_cases hq : 0 ≤ (xs (nI (6 * k + 1)).toNatClampNeg).toInt ∧ (xs (nI (6 * k + 1)).toNatClampNeg).toInt ≤ W.1 0 12
  · refine jk_SWD X hR hTh d_LW_149 (jTA_in (wi := 938) (jtF_ok rfl) rfl) w_LA_end n_LA_end ⟨by decide, by decide⟩ (k := 3) (by decide +kernel) s_LA_end (vals := [.inr (.inr (some (.inl (0)))), .inl (xs (nI (6 * k + 1)).toNatClampNeg), .inr (.inr (some (.inl (141))))]) (r := []) (cwz_end M.2.1 E hA (L := L) (T := T) (h := t) (Gx := G) (g := g) (R := R) hn hW j.1 j.2.1 hN hq b1 h141) rfl rfl ⟨Nat.le_of_ble_eq_true rfl, Nat.le_of_ble_eq_true rfl⟩ ⟨?_, ?_⟩ (Nat.le_of_ble_eq_true rfl) ?_
    · show wVc k L W + (5 - yUc W L) ≤ 601024
      omega
    · show wVs k L W + (638976 - yUs W L) ≤ 7293034
      omega
    · rintro _ _ n1 ⟨rfl, V, f, g', hV, hp, hf, e141, hg0, rfl⟩
      obtain ⟨⟨k1, k2, k3, k4, k5, k6, k7, k8, k9⟩, nx⟩ := wLP_e g' hn j hN ho hq.2 hp
      have cont : ∀ (c1 s1 : Nat), c1 + eCc W ≤ 601024 → s1 + eSs W ≤ 7293034 → (∀ (n2 L2 : Nat) (V2 : zW), wLP n2 L2 V2 → yUc W L ≤ yUc V2 L2 → (¬ n1 = n → yUc W L + 1 ≤ yUc V2 L2) → (n2 = n1 → eCc V2 = eCc W ∧ eSs V2 = eSs W) → (¬ n2 = n1 → eCc W = 5 ∧ eSs W = 327770 ∧ eCc V2 = 0 ∧ eSs V2 = 0) → (n2 = n1 → c1 ≤ wVc (k + 1) L2 V2 ∧ s1 ≤ wVs (k + 1) L2 V2) ∧ (¬ n2 = n1 → c1 + eCc W ≤ wVc (k + 1) L2 V2 ∧ s1 + eSs W ≤ wVs (k + 1) L2 V2)) → jJ E jcl 7 M Q n1 c1 s1 152 [some (.inr (.inr (some (.inr 99)))), some (.inr (.inr (some (.inl (0))))), some (.inr (.inr (some (.inl (87))))), some (.inr (.inr (some (.inl (141))))), some (.inl (nI (6 * k))), o5, o6] ((some (.inl 0)).toList ++ []) (zlW zsh (zuO V g')) := by
        intro c1 s1 hc hs hgr
        simp only [Option.toList_some, List.cons_append, List.nil_append]
        refine jrun_ok jC X k_LW_152 152 _ _ _ o_LW_152 ?_
        simp only [k_LW_152, jrun, jstep, jldi, jldl, jlda, j1, j2, jl1, jl2, jli, ja1, jbr, jald, jast, jlald, jlast, jalen, jget, jput, jfit, jdup, jdupx, jdupx2, jdup2, jcat, jset1, jset2, jkill, List.getElem?_cons_zero, List.getElem?_cons_succ, List.set_cons_zero, List.set_cons_succ, List.length_cons, List.length_nil, Nat.reduceAdd, Nat.reduceLT, Int32.reduceToNatClampNeg, true_and, and_true, and_self, reduceCtorEq, not_false_eq_true, false_and, and_false, or_false, false_or, true_or, or_true, e1]
        refine jk_sld X d_LW_160 hX hbl (i := nI (6 * k + 1)) (vp_in_nI (by omega) (by omega)) ?_
        have hM := zj_MMend (l := M.2.1) (E := E) (by omega : 142 ≤ n1) (zuO_ok hV) k1 k2 k3 k4 (nn := (xs (nI (6 * k + 1)).toNatClampNeg).toInt) ⟨hq.1, by rw [k5]; exact hq.2⟩ (by rw [k5]; exact b1) k6
        rw [zs_1] at hM
        refine jk_callVD X hR d_LW_161 q_LW_161 m_MM_end i_MM_end e_MM_end (ci := 11) (a := 87) rfl rfl (by omega) rfl (vals := [.inl (xs (nI (6 * k + 1)).toNatClampNeg)]) (r := []) hM rfl rfl ⟨Nat.le_of_ble_eq_true rfl, Nat.le_of_ble_eq_true rfl⟩ ⟨?_, ?_⟩ (Nat.le_of_ble_eq_true rfl) ?_
        · show c1 + eCc (zuO V g') ≤ 601024
          rw [k8]
          exact hc
        · show s1 + eSs (zuO V g') ≤ 7293034
          rw [k9]
          exact hs
        · rintro _ _ n2 ⟨v2, V2, rfl, hV2, rfl, hp2⟩
          obtain ⟨rfl, t0, L2, hL2, c141, u1, u2, u3, u4⟩ := nx n2 v2 V2 hV2 hp2
          obtain ⟨r1, r2⟩ := hgr n2 L2 V2 hL2 u1 u2 u3 u4
          have hn2 := hL2.2.1
          have rest : ∀ (c2 s2 : Nat), c2 ≤ 601024 → s2 ≤ 7293034 → c2 ≤ wVc (k + 1) L2 V2 → s2 ≤ wVs (k + 1) L2 V2 → jJ E jcl 7 M Q n2 c2 s2 164 [some (.inr (.inr (some (.inr 99)))), some (.inr (.inr (some (.inl (0))))), some (.inr (.inr (some (.inl (87))))), some (.inr (.inr (some (.inl (141))))), some (.inl (nI (6 * k))), (some (.inl 0)), o6] ((Option.map zj (some (.inl f))).toList ++ []) (zlW zsh V2) := by
            intro c2 s2 hc2 hs2 hc3 hs3
            simp only [Option.map_some, zj, Option.toList_some, List.cons_append, List.nil_append]
            refine jrun_ok jC X k_LW_164 164 _ _ _ o_LW_164 ?_
            simp only [k_LW_164, jrun, jstep, jldi, jldl, jlda, j1, j2, jl1, jl2, jli, ja1, jbr, jald, jast, jlald, jlast, jalen, jget, jput, jfit, jdup, jdupx, jdupx2, jdup2, jcat, jset1, jset2, jkill, List.getElem?_cons_zero, List.getElem?_cons_succ, List.set_cons_zero, List.set_cons_succ, List.length_cons, List.length_nil, Nat.reduceAdd, Nat.reduceLT, Int32.reduceToNatClampNeg, true_and, and_true, and_self, reduceCtorEq, not_false_eq_true, false_and, and_false, or_false, false_or, true_or, or_true]
            have hM3 := (zk_MMthr (l := M.2.1) (E := E) hn2).2 [.inr (.inr (some (.inl 87)))] V2 (fun r U => r = some (.inl 0) ∧ U = V2) zOs_0 hV2 ⟨rfl, trivial, fun r hr => ⟨by rw [hr, t0], rfl⟩⟩
            refine jk_Vg X hR d_LW_167 q_LW_167 m_MM_thrown i_MM_thrown e_MM_thrown (ci := 11) (a := 87) rfl rfl (by omega) rfl hM3 rfl rfl ⟨Nat.le_of_ble_eq_true rfl, Nat.le_of_ble_eq_true rfl⟩ (c' := c2) rfl (s' := s2) rfl ⟨hc2, hs2⟩ (Nat.le_of_ble_eq_true rfl) (pc' := 170) rfl ?_
            rintro _ _ _ ⟨hn3, v', U, rfl, -, hU, rfl, rfl, rfl⟩
            obtain rfl : n2 = _ := hn3.symm
            simp only [Option.map_some, zj, Option.toList_some, List.cons_append, List.nil_append, lI_0z]
            refine jrun_ok jC X k_LW_170 170 _ _ _ o_LW_170 ?_
            simp only [k_LW_170, jrun, jstep, jldi, jldl, jlda, j1, j2, jl1, jl2, jli, ja1, jbr, jald, jast, jlald, jlast, jalen, jget, jput, jfit, jdup, jdupx, jdupx2, jdup2, jcat, jset1, jset2, jkill, List.getElem?_cons_zero, List.getElem?_cons_succ, List.set_cons_zero, List.set_cons_succ, List.length_cons, List.length_nil, Nat.reduceAdd, Nat.reduceLT, Int32.reduceToNatClampNeg, true_and, and_true, and_self, reduceCtorEq, not_false_eq_true, false_and, and_false, or_false, false_or, true_or, or_true, true_implies, not_true_eq_false, false_implies]
            have hoo : (141 < n2) = True := eq_true (by omega)
            have z1 : vp_in 0 1 = True := eq_true (by unfold vp_in; decide)
            have hG2 : zlW zsh U 141 = .inl (.long, 1, .inr (.inl g')) := zlW_141.trans c141
            refine jrun_ok jC X k_LW_177 177 _ _ _ o_LW_177 ?_
            simp only [k_LW_177, jrun, jstep, jldi, jldl, jlda, j1, j2, jl1, jl2, jli, ja1, jbr, jald, jast, jlald, jlast, jalen, jget, jput, jfit, jdup, jdupx, jdupx2, jdup2, jcat, jset1, jset2, jkill, List.getElem?_cons_zero, List.getElem?_cons_succ, List.set_cons_zero, List.set_cons_succ, List.length_cons, List.length_nil, Nat.reduceAdd, Nat.reduceLT, Int32.reduceToNatClampNeg, true_and, and_true, and_self, reduceCtorEq, not_false_eq_true, false_and, and_false, or_false, false_or, true_or, or_true, true_implies, not_true_eq_false, false_implies, hoo, hG2, z1, hg0, lg_cmpr]
            refine jrun_ok jC X k_LW_194 194 _ _ _ o_LW_194 ?_
            simp only [k_LW_194, jrun, jstep, jldi, jldl, jlda, j1, j2, jl1, jl2, jli, ja1, jbr, jald, jast, jlald, jlast, jalen, jget, jput, jfit, jdup, jdupx, jdupx2, jdup2, jcat, jset1, jset2, jkill, List.getElem?_cons_zero, List.getElem?_cons_succ, List.set_cons_zero, List.set_cons_succ, List.length_cons, List.length_nil, Nat.reduceAdd, Nat.reduceLT, Int32.reduceToNatClampNeg, true_and, and_true, and_self, reduceCtorEq, not_false_eq_true, false_and, and_false, or_false, false_or, true_or, or_true]
            exact jJ_widen hc3 hs3 (kk n2 L2 U _ _ hL2)
          refine ⟨fun en => ?_, fun en => ?_⟩
          · exact rest _ _ (by omega) (by omega) (r1 en).1 (r1 en).2
          · refine rest (c1 + eCc (zuO V g')) (s1 + eSs (zuO V g')) ?_ ?_ ?_ ?_
            · rw [k8]
              exact hc
            · rw [k9]
              exact hs
            · rw [k8]
              exact (r2 en).1
            · rw [k9]
              exact (r2 en).2
      have ce : eCc W ≤ 5 ∧ eSs W ≤ 327770 := by
        unfold eCc eSs
        have : eNb2 (W.2.2.2.1 87 7) ≤ 1 := by
          cases W.2.2.2.1 87 7 with
          | none => exact Nat.le_refl _
          | some _ => exact Nat.zero_le _
        omega
      refine ⟨fun en => ?_, fun en => ?_⟩
      · refine cont _ _ (by omega) (by omega) (fun n2 L2 V2 a1 a2 a3 a4 a5 => ⟨fun a6 => ?_, fun a6 => ?_⟩)
        · have := a4 a6
          unfold wVc wVs
          omega
        · have := a5 a6
          unfold wVc wVs
          omega
      · refine cont (wVc k L W + (5 - yUc W L)) (wVs k L W + (638976 - yUs W L)) (by omega) (by omega) (fun n2 L2 V2 a1 a2 a3 a4 a5 => ⟨fun a6 => ?_, fun a6 => ?_⟩)
        · have := a4 a6
          have := a3 en
          unfold wVc wVs
          omega
        · have := a5 a6
          have := a3 en
          unfold wVc wVs
          omega
  · have hq3 : (xs (nI (6 * k + 1)).toNatClampNeg).toInt < 0 ∨ W.1 0 12 < (xs (nI (6 * k + 1)).toNatClampNeg).toInt := by omega
    have r12 : lRg (W.1 0 12) := by unfold lRg; omega
    refine jk_SWg X hR hTh d_LW_149 (jTA_in (wi := 938) (jtF_ok rfl) rfl) w_LA_end n_LA_end ⟨by decide, by decide⟩ (k := 3) (by decide +kernel) s_LA_end (cw_endT M.2.1 E (K := fun _ => 0) (en := 0) (o := 141) hlt (by omega) (fs := zfs W 0 0 [4, 5, 7, 9, 12, 18, 24, 28, 32, 35, 1, 1, 0, 0, 0]) rfl (fd := lI (W.1 0 12)) rfl (by
      rcases hq3 with z | z
      · exact Or.inl (Int32.lt_iff_toInt_lt.mpr z)
      · refine Or.inr (fun h9 => ?_)
        have h8 := Int32.le_iff_toInt_le.mp h9
        rw [lI_t r12] at h8
        omega)) rfl rfl ⟨Nat.le_of_ble_eq_true rfl, Nat.le_of_ble_eq_true rfl⟩ (c' := wVc k L W + 1) rfl (s' := wVs k L W + 6) rfl ⟨Nat.le_trans (Nat.add_le_add_right hb.1 1) (Nat.le_of_ble_eq_true rfl), Nat.le_trans (Nat.add_le_add_right hb.2 6) (Nat.le_of_ble_eq_true rfl)⟩ (Nat.le_of_ble_eq_true rfl) (pc' := 152) rfl ?_
    rintro _ σ1 _ ⟨rfl, hn2, rfl⟩
    subst hn2
    rw [← zuJ_l hn]
    simp only [Option.toList_some, List.cons_append, List.nil_append]
    refine jrun_ok jC X k_LW_152 152 _ _ _ o_LW_152 ?_
    simp only [k_LW_152, jrun, jstep, jldi, jldl, jlda, j1, j2, jl1, jl2, jli, ja1, jbr, jald, jast, jlald, jlast, jalen, jget, jput, jfit, jdup, jdupx, jdupx2, jdup2, jcat, jset1, jset2, jkill, List.getElem?_cons_zero, List.getElem?_cons_succ, List.set_cons_zero, List.set_cons_succ, List.length_cons, List.length_nil, Nat.reduceAdd, Nat.reduceLT, Int32.reduceToNatClampNeg, true_and, and_true, and_self, reduceCtorEq, not_false_eq_true, false_and, and_false, or_false, false_or, true_or, or_true, e1]
    refine jk_sld X d_LW_160 hX hbl (i := nI (6 * k + 1)) (vp_in_nI (by omega) (by omega)) ?_
    have hn1 : 142 ≤ n + 1 := by omega
    have hM := (zk_MMenT (l := M.2.1) (E := E) hn1).2 [.inr (.inr (some (.inl 87))), .inl (xs (nI (6 * k + 1)).toNatClampNeg).toInt] (zuJ W n) (fun r U => r = some (.inl 0) ∧ U = zuF (zuJ W n) 87 0 1) (zOs_1 _) hW ⟨_, rfl, (by show _ ∨ W.1 87 1 < _; omega), fun r U h9 => ⟨by rw [h9.1], h9.2⟩⟩
    rw [zs_1] at hM
    refine jk_Vg X hR d_LW_161 q_LW_161 m_MM_end i_MM_end e_MM_end (ci := 11) (a := 87) rfl rfl (by omega) rfl hM rfl rfl ⟨Nat.le_of_ble_eq_true rfl, Nat.le_of_ble_eq_true rfl⟩ (c' := wVc k L W + 1) rfl (s' := wVs k L W + 6) rfl ⟨Nat.le_trans (Nat.add_le_add_right hb.1 1) (Nat.le_of_ble_eq_true rfl), Nat.le_trans (Nat.add_le_add_right hb.2 6) (Nat.le_of_ble_eq_true rfl)⟩ (Nat.le_of_ble_eq_true rfl) (pc' := 164) rfl ?_
    rintro _ _ _ ⟨hn3, v', U, rfl, -, hU, rfl, rfl, hUe⟩
    obtain rfl : n + 1 = _ := hn3.symm
    simp only [Option.map_some, zj, Option.toList_some, List.cons_append, List.nil_append, lI_0z]
    refine jrun_ok jC X k_LW_164 164 _ _ _ o_LW_164 ?_
    simp only [k_LW_164, jrun, jstep, jldi, jldl, jlda, j1, j2, jl1, jl2, jli, ja1, jbr, jald, jast, jlald, jlast, jalen, jget, jput, jfit, jdup, jdupx, jdupx2, jdup2, jcat, jset1, jset2, jkill, List.getElem?_cons_zero, List.getElem?_cons_succ, List.set_cons_zero, List.set_cons_succ, List.length_cons, List.length_nil, Nat.reduceAdd, Nat.reduceLT, Int32.reduceToNatClampNeg, true_and, and_true, and_self, reduceCtorEq, not_false_eq_true, false_and, and_false, or_false, false_or, true_or, or_true]
    have hM3 := (zk_MMthr (l := M.2.1) (E := E) hn1).2 [.inr (.inr (some (.inl 87)))] U (fun r U9 => r = some (.inl 1) ∧ U9 = U) zOs_0 hU ⟨rfl, trivial, fun r hr => ⟨by rw [hr, hUe]; rfl, rfl⟩⟩
    refine jk_Vg X hR d_LW_167 q_LW_167 m_MM_thrown i_MM_thrown e_MM_thrown (ci := 11) (a := 87) rfl rfl (by omega) rfl hM3 rfl rfl ⟨Nat.le_of_ble_eq_true rfl, Nat.le_of_ble_eq_true rfl⟩ (c' := wVc k L W + 1) rfl (s' := wVs k L W + 6) rfl ⟨Nat.le_trans (Nat.add_le_add_right hb.1 1) (Nat.le_of_ble_eq_true rfl), Nat.le_trans (Nat.add_le_add_right hb.2 6) (Nat.le_of_ble_eq_true rfl)⟩ (Nat.le_of_ble_eq_true rfl) (pc' := 170) rfl ?_
    rintro _ _ _ ⟨hn4, v', U9, rfl, -, hU9, rfl, rfl, rfl⟩
    obtain rfl : n + 1 = _ := hn4.symm
    simp only [Option.map_some, zj, Option.toList_some, List.cons_append, List.nil_append, lI_1z]
    have h10 : ((1 : Int32) = 0) = False := eq_false (by decide)
    refine jrun_ok jC X k_LW_170 170 _ _ _ o_LW_170 ?_
    simp only [k_LW_170, jrun, jstep, jldi, jldl, jlda, j1, j2, jl1, jl2, jli, ja1, jbr, jald, jast, jlald, jlast, jalen, jget, jput, jfit, jdup, jdupx, jdupx2, jdup2, jcat, jset1, jset2, jkill, List.getElem?_cons_zero, List.getElem?_cons_succ, List.set_cons_zero, List.set_cons_succ, List.length_cons, List.length_nil, Nat.reduceAdd, Nat.reduceLT, Int32.reduceToNatClampNeg, true_and, and_true, and_self, reduceCtorEq, not_false_eq_true, false_and, and_false, or_false, false_or, true_or, or_true, true_implies, not_true_eq_false, false_implies]
    refine jrun_ok jC X k_LW_177 177 _ _ _ o_LW_177 ?_
    simp only [k_LW_177, jrun, jstep, jldi, jldl, jlda, j1, j2, jl1, jl2, jli, ja1, jbr, jald, jast, jlald, jlast, jalen, jget, jput, jfit, jdup, jdupx, jdupx2, jdup2, jcat, jset1, jset2, jkill, List.getElem?_cons_zero, List.getElem?_cons_succ, List.set_cons_zero, List.set_cons_succ, List.length_cons, List.length_nil, Nat.reduceAdd, Nat.reduceLT, Int32.reduceToNatClampNeg, true_and, and_true, and_self, reduceCtorEq, not_false_eq_true, false_and, and_false, or_false, false_or, true_or, or_true, true_implies, not_true_eq_false, false_implies, h10, not_false_eq_true]
    refine jrun_ok jC X k_LW_194 194 _ _ _ o_LW_194 ?_
    simp only [k_LW_194, jrun, jstep, jldi, jldl, jlda, j1, j2, jl1, jl2, jli, ja1, jbr, jald, jast, jlald, jlast, jalen, jget, jput, jfit, jdup, jdupx, jdupx2, jdup2, jcat, jset1, jset2, jkill, List.getElem?_cons_zero, List.getElem?_cons_succ, List.set_cons_zero, List.set_cons_succ, List.length_cons, List.length_nil, Nat.reduceAdd, Nat.reduceLT, Int32.reduceToNatClampNeg, true_and, and_true, and_self, reduceCtorEq, not_false_eq_true, false_and, and_false, or_false, false_or, true_or, or_true]
    refine jJ_widen ?_ ?_ (kk (n + 1) L U9 _ _ (wLP_r (wLP_J h) (by rw [hUe]; exact zFr_F zFr_0 (by decide)) hU9))
    · rw [hUe]
      show _ ≤ wVc (k + 1) L W
      unfold wVc
      omega
    · rw [hUe]
      show _ ≤ wVs (k + 1) L W
      unfold wVs
      omega
set_option maxRecDepth 100000 in
set_option maxHeartbeats 8000000 in
theorem lw_size (hlt : M.2.1.stackTraces = false) (hA : yPfA M.2.1 E) (X : jX E "ChessHouseLaw" lw_tbl jcl jtb 7 false code M) {Lx : Nat} {xs : Nat → Int32} (hX : va_X (E.2.2.1 99) Lx xs M.2.2.2.2.1 M.2.2.2.2.1.heap) (hbl : E.2.2.1 99 < E.2.2.2) (hR : M.2.2.2.1 = room_1) (hTh : jTh E M.2.2.2.2.1) (hL : Lx ≤ 3072) {k : Nat} (hk : 6 * k + 6 ≤ Lx) (kk : ∀ (n L : Nat) (W : zW) (o5 o6 : Option jv), wLP n L W → jJ E jcl 7 M Q n (wVc (k + 1) L W) (wVs (k + 1) L W) 238 [some (.inr (.inr (some (.inr 99)))), some (.inr (.inr (some (.inl (0))))), some (.inr (.inr (some (.inl (87))))), some (.inr (.inr (some (.inl (141))))), some (.inl (nI (6 * k))), o5, o6] [] (zlW zsh W)) {n L : Nat} {W : zW} (h : wLP n L W) (o5 o6 : Option jv) : jJ E jcl 7 M Q n (wVc k L W) (wVs k L W) 197 [some (.inr (.inr (some (.inr 99)))), some (.inr (.inr (some (.inl (0))))), some (.inr (.inr (some (.inl (87))))), some (.inr (.inr (some (.inl (141))))), some (.inl (nI (6 * k))), o5, o6] [] (zlW zsh W) := by
  have hb := wLP_u h (k := k) (by omega)
  have hW := h.1
  have hn := h.2.1
  obtain ⟨b0, b1, b2, b3, b4⟩ := wLP_b h
  refine jrun_ok jC X k_LW_197 197 _ _ _ o_LW_197 ?_
  simp only [k_LW_197, jrun, jstep, jldi, jldl, jlda, j1, j2, jl1, jl2, jli, ja1, jbr, jald, jast, jlald, jlast, jalen, jget, jput, jfit, jdup, jdupx, jdupx2, jdup2, jcat, jset1, jset2, jkill, List.getElem?_cons_zero, List.getElem?_cons_succ, List.set_cons_zero, List.set_cons_succ, List.length_cons, List.length_nil, Nat.reduceAdd, Nat.reduceLT, Int32.reduceToNatClampNeg, true_and, and_true, and_self, reduceCtorEq, not_false_eq_true, false_and, and_false, or_false, false_or, true_or, or_true]
  have hM := (zk_CHsiz (l := M.2.1) (E := E) hn).2 [.inr (.inr (some (.inl 0)))] W (fun r U => (∃ x, r = some (.inl x)) ∧ U = W) zOs_0 hW ⟨rfl, trivial, fun r _ => ⟨⟨r, rfl⟩, rfl⟩⟩
  refine jk_Vg X hR d_LW_198 q_LW_198 m_CH_size i_CH_size e_CH_size (ci := 0) (a := 0) rfl rfl (by omega) (fs := zfs W 0 0 [4, 5, 7, 9, 12, 18, 24, 28, 32, 35, 1, 1, 0, 0, 0]) rfl hM rfl rfl ⟨Nat.le_of_ble_eq_true rfl, Nat.le_of_ble_eq_true rfl⟩ (c' := wVc k L W) rfl (s' := wVs k L W) rfl ⟨Nat.le_trans hb.1 (Nat.le_of_ble_eq_true rfl), Nat.le_trans hb.2 (Nat.le_of_ble_eq_true rfl)⟩ (Nat.le_of_ble_eq_true rfl) (pc' := 201) rfl ?_
  rintro _ _ _ ⟨hn2, v', U, rfl, -, hU, rfl, ⟨x, rfl⟩, rfl⟩
  obtain rfl : n = _ := hn2.symm
  simp only [Option.map_some, zj, Option.toList_some, List.cons_append, List.nil_append]
  refine jrun_ok jC X k_LW_201 201 _ _ _ o_LW_201 ?_
  simp only [k_LW_201, jrun, jstep, jldi, jldl, jlda, j1, j2, jl1, jl2, jli, ja1, jbr, jald, jast, jlald, jlast, jalen, jget, jput, jfit, jdup, jdupx, jdupx2, jdup2, jcat, jset1, jset2, jkill, List.getElem?_cons_zero, List.getElem?_cons_succ, List.set_cons_zero, List.set_cons_succ, List.length_cons, List.length_nil, Nat.reduceAdd, Nat.reduceLT, Int32.reduceToNatClampNeg, true_and, and_true, and_self, reduceCtorEq, not_false_eq_true, false_and, and_false, or_false, false_or, true_or, or_true]
  have hM2 := (zk_MMsiz (l := M.2.1) (E := E) hn).2 [.inr (.inr (some (.inl 87)))] U (fun r U9 => (∃ x, r = some (.inl x)) ∧ U9 = zuF U 87 0 0) zOs_0 hU ⟨rfl, trivial, fun r U9 h9 => ⟨⟨r, rfl⟩, h9.2⟩⟩
  refine jk_Vg X hR d_LW_203 q_LW_203 m_MM_size i_MM_size e_MM_size (ci := 11) (a := 87) rfl rfl (by omega) rfl hM2 rfl rfl ⟨Nat.le_of_ble_eq_true rfl, Nat.le_of_ble_eq_true rfl⟩ (c' := wVc k L U) rfl (s' := wVs k L U) rfl ⟨Nat.le_trans hb.1 (Nat.le_of_ble_eq_true rfl), Nat.le_trans hb.2 (Nat.le_of_ble_eq_true rfl)⟩ (Nat.le_of_ble_eq_true rfl) (pc' := 206) rfl ?_
  rintro _ _ _ ⟨hn3, v', U9, rfl, -, hU9, rfl, ⟨x2, rfl⟩, hUe⟩
  obtain rfl : n = _ := hn3.symm
  simp only [Option.map_some, zj, Option.toList_some, List.cons_append, List.nil_append]
  refine jrun_ok jC X k_LW_206 206 _ _ _ o_LW_206 ?_
  simp only [k_LW_206, jrun, jstep, jldi, jldl, jlda, j1, j2, jl1, jl2, jli, ja1, jbr, jald, jast, jlald, jlast, jalen, jget, jput, jfit, jdup, jdupx, jdupx2, jdup2, jcat, jset1, jset2, jkill, List.getElem?_cons_zero, List.getElem?_cons_succ, List.set_cons_zero, List.set_cons_succ, List.length_cons, List.length_nil, Nat.reduceAdd, Nat.reduceLT, Int32.reduceToNatClampNeg, true_and, and_true, and_self, reduceCtorEq, not_false_eq_true, false_and, and_false, or_false, false_or, true_or, or_true]
  refine jJ_widen ?_ ?_ (kk n L U9 _ _ (wLP_r h (by rw [hUe]; exact zFr_F zFr_0 (by decide)) hU9))
  · rw [hUe]
    show _ ≤ wVc (k + 1) L U
    unfold wVc
    omega
  · rw [hUe]
    show _ ≤ wVs (k + 1) L U
    unfold wVs
    omega
set_option maxRecDepth 100000 in
set_option maxHeartbeats 8000000 in
theorem lw_out (hlt : M.2.1.stackTraces = false) (hA : yPfA M.2.1 E) (X : jX E "ChessHouseLaw" lw_tbl jcl jtb 7 false code M) {Lx : Nat} {xs : Nat → Int32} (hX : va_X (E.2.2.1 99) Lx xs M.2.2.2.2.1 M.2.2.2.2.1.heap) (hbl : E.2.2.1 99 < E.2.2.2) (hR : M.2.2.2.1 = room_1) (hTh : jTh E M.2.2.2.2.1) (hL : Lx ≤ 3072) {k : Nat} (hk : 6 * k + 6 ≤ Lx) (kk : ∀ (n L : Nat) (W : zW) (o5 o6 : Option jv), wLP n L W → jJ E jcl 7 M Q n (wVc (k + 1) L W) (wVs (k + 1) L W) 238 [some (.inr (.inr (some (.inr 99)))), some (.inr (.inr (some (.inl (0))))), some (.inr (.inr (some (.inl (87))))), some (.inr (.inr (some (.inl (141))))), some (.inl (nI (6 * k))), o5, o6] [] (zlW zsh W)) {n L : Nat} {W : zW} (h : wLP n L W) (o5 o6 : Option jv) : jJ E jcl 7 M Q n (wVc k L W) (wVs k L W) 210 [some (.inr (.inr (some (.inr 99)))), some (.inr (.inr (some (.inl (0))))), some (.inr (.inr (some (.inl (87))))), some (.inr (.inr (some (.inl (141))))), some (.inl (nI (6 * k))), o5, o6] [] (zlW zsh W) := by
  have hb := wLP_u h (k := k) (by omega)
  have hW := h.1
  have hn := h.2.1
  obtain ⟨b0, b1, b2, b3, b4⟩ := wLP_b h
  have e1 : nI (6 * k) + 1 = nI (6 * k + 1) := by rw [show (1 : Int32) = nI 1 from rfl, nI_add]
  refine jrun_ok jC X k_LW_210 210 _ _ _ o_LW_210 ?_
  simp only [k_LW_210, jrun, jstep, jldi, jldl, jlda, j1, j2, jl1, jl2, jli, ja1, jbr, jald, jast, jlald, jlast, jalen, jget, jput, jfit, jdup, jdupx, jdupx2, jdup2, jcat, jset1, jset2, jkill, List.getElem?_cons_zero, List.getElem?_cons_succ, List.set_cons_zero, List.set_cons_succ, List.length_cons, List.length_nil, Nat.reduceAdd, Nat.reduceLT, Int32.reduceToNatClampNeg, true_and, and_true, and_self, reduceCtorEq, not_false_eq_true, false_and, and_false, or_false, false_or, true_or, or_true, e1]
  refine jk_sld X d_LW_216 hX hbl (i := nI (6 * k + 1)) (vp_in_nI (by omega) (by omega)) ?_
  refine jrun_ok jC X k_LW_217 217 _ _ _ o_LW_217 ?_
  simp only [k_LW_217, jrun, jstep, jldi, jldl, jlda, j1, j2, jl1, jl2, jli, ja1, jbr, jald, jast, jlald, jlast, jalen, jget, jput, jfit, jdup, jdupx, jdupx2, jdup2, jcat, jset1, jset2, jkill, List.getElem?_cons_zero, List.getElem?_cons_succ, List.set_cons_zero, List.set_cons_succ, List.length_cons, List.length_nil, Nat.reduceAdd, Nat.reduceLT, Int32.reduceToNatClampNeg, true_and, and_true, and_self, reduceCtorEq, not_false_eq_true, false_and, and_false, or_false, false_or, true_or, or_true]
  obtain ⟨q0, h141⟩ := h.2.2.2.2.2
  have cont : ∀ (n1 : Nat) (W1 : zW) (kv : Int32) (c1 s1 : Nat), wLP n1 L W1 → c1 ≤ 1198 → s1 ≤ 4559300 → c1 ≤ wVc (k + 1) L W1 → s1 ≤ wVs (k + 1) L W1 → jJ E jcl 7 M Q n1 c1 s1 221 [some (.inr (.inr (some (.inr 99)))), some (.inr (.inr (some (.inl (0))))), some (.inr (.inr (some (.inl (87))))), some (.inr (.inr (some (.inl (141))))), some (.inl (nI (6 * k))), o5, o6] ((some (.inl kv)).toList ++ []) (zlW zsh W1) := by
    intro n1 W1 kv c1 s1 h1 hc hs hc2 hs2
    have hW1 := h1.1
    have hn1 := h1.2.1
    obtain ⟨-, -, -, d3, -⟩ := wLP_b h1
    simp only [Option.toList_some, List.cons_append, List.nil_append]
    refine jrun_ok jC X k_LW_221 221 _ _ _ o_LW_221 ?_
    simp only [k_LW_221, jrun, jstep, jldi, jldl, jlda, j1, j2, jl1, jl2, jli, ja1, jbr, jald, jast, jlald, jlast, jalen, jget, jput, jfit, jdup, jdupx, jdupx2, jdup2, jcat, jset1, jset2, jkill, List.getElem?_cons_zero, List.getElem?_cons_succ, List.set_cons_zero, List.set_cons_succ, List.length_cons, List.length_nil, Nat.reduceAdd, Nat.reduceLT, Int32.reduceToNatClampNeg, true_and, and_true, and_self, reduceCtorEq, not_false_eq_true, false_and, and_false, or_false, false_or, true_or, or_true, e1]
    refine jk_sld X d_LW_229 hX hbl (i := nI (6 * k + 1)) (vp_in_nI (by omega) (by omega)) ?_
    have hM := (zk_MMout (l := M.2.1) (E := E) hn1).2 [.inr (.inr (some (.inl 87))), .inl (xs (nI (6 * k + 1)).toNatClampNeg).toInt] W1 (fun r U => (∃ x, r = some (.inl x)) ∧ ∃ y, U = zuF W1 87 0 y) (zOs_1 _) hW1 ⟨_, rfl, d3, fun r U h9 => ⟨⟨r, rfl⟩, by
      rcases h9 with z | z
      · exact ⟨_, z.2.2⟩
      · exact ⟨_, z.2⟩⟩⟩
    rw [zs_1] at hM
    refine jk_Vg X hR d_LW_230 q_LW_230 m_MM_out i_MM_out e_MM_out (ci := 11) (a := 87) rfl rfl (by omega) rfl hM rfl rfl ⟨Nat.le_of_ble_eq_true rfl, Nat.le_of_ble_eq_true rfl⟩ (c' := c1) rfl (s' := s1) rfl ⟨Nat.le_trans hc (Nat.le_of_ble_eq_true rfl), Nat.le_trans hs (Nat.le_of_ble_eq_true rfl)⟩ (Nat.le_of_ble_eq_true rfl) (pc' := 233) rfl ?_
    rintro _ _ _ ⟨hn2, v', U, rfl, -, hU, rfl, ⟨x, rfl⟩, y, hUe⟩
    obtain rfl : n1 = _ := hn2.symm
    simp only [Option.map_some, zj, Option.toList_some, List.cons_append, List.nil_append]
    refine jrun_ok jC X k_LW_233 233 _ _ _ o_LW_233 ?_
    simp only [k_LW_233, jrun, jstep, jldi, jldl, jlda, j1, j2, jl1, jl2, jli, ja1, jbr, jald, jast, jlald, jlast, jalen, jget, jput, jfit, jdup, jdupx, jdupx2, jdup2, jcat, jset1, jset2, jkill, List.getElem?_cons_zero, List.getElem?_cons_succ, List.set_cons_zero, List.set_cons_succ, List.length_cons, List.length_nil, Nat.reduceAdd, Nat.reduceLT, Int32.reduceToNatClampNeg, true_and, and_true, and_self, reduceCtorEq, not_false_eq_true, false_and, and_false, or_false, false_or, true_or, or_true]
    refine jJ_widen ?_ ?_ (kk n1 L U _ _ (wLP_r h1 (by rw [hUe]; exact zFr_F zFr_0 (by decide)) hU))
    · rw [hUe]
      exact hc2
    · rw [hUe]
      exact hs2
  by_cases hq : 0 ≤ (xs (nI (6 * k + 1)).toNatClampNeg).toInt ∧ (xs (nI (6 * k + 1)).toNatClampNeg).toInt < W.1 2 1
  · refine jk_SWg X hR hTh d_LW_218 (jTA_in (wi := 1878) (jtF_ok rfl) rfl) w_LA_out n_LA_out ⟨by decide, by decide⟩ (k := 3) (by decide +kernel) s_LA_out (cwz_out M.2.1 E hn hW hq b4 h141) rfl rfl ⟨Nat.le_of_ble_eq_true rfl, Nat.le_of_ble_eq_true rfl⟩ (c' := wVc k L W) rfl (s' := wVs k L W) rfl ⟨Nat.le_trans hb.1 (Nat.le_of_ble_eq_true rfl), Nat.le_trans hb.2 (Nat.le_of_ble_eq_true rfl)⟩ (Nat.le_of_ble_eq_true rfl) (pc' := 221) rfl ?_
    rintro _ _ _ ⟨rfl, hn2, G', rfl⟩
    obtain rfl : n = _ := hn2.symm
    refine cont n (zuO W G') 0 _ _ (wLP_O h) (by omega) (by omega) ?_ ?_
    · show _ ≤ wVc (k + 1) L W
      unfold wVc
      omega
    · show _ ≤ wVs (k + 1) L W
      unfold wVs
      omega
  · have hq3 : (xs (nI (6 * k + 1)).toNatClampNeg).toInt < 0 ∨ W.1 2 1 ≤ (xs (nI (6 * k + 1)).toNatClampNeg).toInt := by omega
    have r12 : lRg (W.1 2 1) := by unfold yBn at b4; unfold lRg; omega
    refine jk_SWg X hR hTh d_LW_218 (jTA_in (wi := 1878) (jtF_ok rfl) rfl) w_LA_out n_LA_out ⟨by decide, by decide⟩ (k := 3) (by decide +kernel) s_LA_out (cw_outT M.2.1 E (K := fun _ => 0) (en := 0) (o := 141) hlt (by omega) (fs := zfs W 0 0 [4, 5, 7, 9, 12, 18, 24, 28, 32, 35, 1, 1, 0, 0, 0]) rfl (b := 2) rfl (by omega) rfl (ln := lI (W.1 2 1)) rfl (by
      rcases hq3 with z | z
      · exact Or.inl (Int32.lt_iff_toInt_lt.mpr z)
      · refine Or.inr (fun h9 => ?_)
        have h8 := Int32.lt_iff_toInt_lt.mp h9
        rw [lI_t r12] at h8
        omega)) rfl rfl ⟨Nat.le_of_ble_eq_true rfl, Nat.le_of_ble_eq_true rfl⟩ (c' := wVc k L W + 1) rfl (s' := wVs k L W + 6) rfl ⟨Nat.le_trans (Nat.add_le_add_right hb.1 1) (Nat.le_of_ble_eq_true rfl), Nat.le_trans (Nat.add_le_add_right hb.2 6) (Nat.le_of_ble_eq_true rfl)⟩ (Nat.le_of_ble_eq_true rfl) (pc' := 221) rfl ?_
    rintro _ σ1 _ ⟨rfl, hn2, rfl⟩
    subst hn2
    rw [← zuJ_l hn]
    refine cont (n + 1) (zuJ W n) 1 _ _ (wLP_J h) (by omega) (by omega) ?_ ?_
    · show _ ≤ wVc (k + 1) L W
      unfold wVc
      omega
    · show _ ≤ wVs (k + 1) L W
      unfold wVs
      omega
set_option maxRecDepth 100000 in
set_option maxHeartbeats 4000000 in
theorem lw_loop (hlt : M.2.1.stackTraces = false) (hA : yPfA M.2.1 E) (X : jX E "ChessHouseLaw" lw_tbl jcl jtb 7 false code M) {Lx : Nat} {xs : Nat → Int32} (hX : va_X (E.2.2.1 99) Lx xs M.2.2.2.2.1 M.2.2.2.2.1.heap) (hbl : E.2.2.1 99 < E.2.2.2) (hR : M.2.2.2.1 = room_1) (hTh : jTh E M.2.2.2.2.1) (hL : Lx ≤ 3072) (hret : ∀ (n cells slots : Nat) (lv : List (Option jv)) (σ : Nat → jcell), cells ≤ 1196 → slots ≤ 4559234 → jJ E jcl 7 M Q n cells slots 245 lv [.inl 1] σ) : ∀ (u k : Nat), Lx < 6 * (k + u) + 6 → k ≤ 512 → ∀ (n L : Nat) (W : zW) (o5 o6 : Option jv), wLP n L W → jJ E jcl 7 M Q n (wVc k L W) (wVs k L W) 23 [some (.inr (.inr (some (.inr 99)))), some (.inr (.inr (some (.inl (0))))), some (.inr (.inr (some (.inl (87))))), some (.inr (.inr (some (.inl (141))))), some (.inl (nI (6 * k))), o5, o6] [] (zlW zsh W) := by
  intro u
  induction u with
  | zero =>
    intro k hk hk5 n L W o5 o6 h
    have hb := wLP_u h hk5
    have hgt : (Int32.ofNat Lx - 6 < nI (6 * k)) = True := eq_true ((lw_cmp hL (by omega)).mpr (by omega))
    refine jrun_ok jC X k_LW_23 23 _ _ _ o_LW_23 ?_
    simp only [k_LW_23, jrun, jstep, jldi, jldl, jlda, j1, j2, jl1, jl2, jli, ja1, jbr, jald, jast, jlald, jlast, jalen, jget, jput, jfit, jdup, jdupx, jdupx2, jdup2, jcat, jset1, jset2, jkill, List.getElem?_cons_zero, List.getElem?_cons_succ, List.set_cons_zero, List.set_cons_succ, List.length_cons, List.length_nil, Nat.reduceAdd, Nat.reduceLT, Int32.reduceToNatClampNeg, true_and, and_true, and_self, reduceCtorEq, not_false_eq_true, false_and, and_false, or_false, false_or, true_or, or_true]
    refine jk_slen X d_LW_26 hX hbl ?_
    refine jrun_ok jC X k_LW_27 27 _ _ _ o_LW_27 ?_
    simp only [k_LW_27, jrun, jstep, jldi, jldl, jlda, j1, j2, jl1, jl2, jli, ja1, jbr, jald, jast, jlald, jlast, jalen, jget, jput, jfit, jdup, jdupx, jdupx2, jdup2, jcat, jset1, jset2, jkill, List.getElem?_cons_zero, List.getElem?_cons_succ, List.set_cons_zero, List.set_cons_succ, List.length_cons, List.length_nil, Nat.reduceAdd, Nat.reduceLT, Int32.reduceToNatClampNeg, true_and, and_true, and_self, reduceCtorEq, not_false_eq_true, false_and, and_false, or_false, false_or, true_or, or_true, hgt, false_implies, true_implies, not_true_eq_false]
    refine jrun_ok jC X k_LW_244 244 _ _ _ o_LW_244 ?_
    simp only [k_LW_244, jrun, jstep, jldi, jldl, jlda, j1, j2, jl1, jl2, jli, ja1, jbr, jald, jast, jlald, jlast, jalen, jget, jput, jfit, jdup, jdupx, jdupx2, jdup2, jcat, jset1, jset2, jkill, List.getElem?_cons_zero, List.getElem?_cons_succ, List.set_cons_zero, List.set_cons_succ, List.length_cons, List.length_nil, Nat.reduceAdd, Nat.reduceLT, Int32.reduceToNatClampNeg, true_and, and_true, and_self, reduceCtorEq, not_false_eq_true, false_and, and_false, or_false, false_or, true_or, or_true]
    exact hret _ _ _ _ _ hb.1 hb.2
  | succ u ih =>
    intro k hk hk5 n L W o5 o6 h
    have hb := wLP_u h hk5
    by_cases hgo : 6 * k + 6 ≤ Lx
    · have hgt : (Int32.ofNat Lx - 6 < nI (6 * k)) = False := eq_false (fun h9 => by
        have := (lw_cmp hL (by omega)).mp h9
        omega)
      have next : ∀ (n L : Nat) (W : zW) (o5 o6 : Option jv), wLP n L W → jJ E jcl 7 M Q n (wVc (k + 1) L W) (wVs (k + 1) L W) 238 [some (.inr (.inr (some (.inr 99)))), some (.inr (.inr (some (.inl (0))))), some (.inr (.inr (some (.inl (87))))), some (.inr (.inr (some (.inl (141))))), some (.inl (nI (6 * k))), o5, o6] [] (zlW zsh W) := by
        intro n L W o5 o6 h9
        have e6 : nI (6 * k) + 6 = nI (6 * (k + 1)) := by
          rw [show (6 : Int32) = nI 6 from rfl, nI_add]
          rfl
        refine jrun_ok jC X k_LW_238 238 _ _ _ o_LW_238 ?_
        simp only [k_LW_238, jrun, jstep, jldi, jldl, jlda, j1, j2, jl1, jl2, jli, ja1, jbr, jald, jast, jlald, jlast, jalen, jget, jput, jfit, jdup, jdupx, jdupx2, jdup2, jcat, jset1, jset2, jkill, List.getElem?_cons_zero, List.getElem?_cons_succ, List.set_cons_zero, List.set_cons_succ, List.length_cons, List.length_nil, Nat.reduceAdd, Nat.reduceLT, Int32.reduceToNatClampNeg, true_and, and_true, and_self, reduceCtorEq, not_false_eq_true, false_and, and_false, or_false, false_or, true_or, or_true, e6]
        exact ih (k + 1) (by omega) (by omega) n L W o5 o6 h9
      refine jrun_ok jC X k_LW_23 23 _ _ _ o_LW_23 ?_
      simp only [k_LW_23, jrun, jstep, jldi, jldl, jlda, j1, j2, jl1, jl2, jli, ja1, jbr, jald, jast, jlald, jlast, jalen, jget, jput, jfit, jdup, jdupx, jdupx2, jdup2, jcat, jset1, jset2, jkill, List.getElem?_cons_zero, List.getElem?_cons_succ, List.set_cons_zero, List.set_cons_succ, List.length_cons, List.length_nil, Nat.reduceAdd, Nat.reduceLT, Int32.reduceToNatClampNeg, true_and, and_true, and_self, reduceCtorEq, not_false_eq_true, false_and, and_false, or_false, false_or, true_or, or_true]
      refine jk_slen X d_LW_26 hX hbl ?_
      refine jrun_ok jC X k_LW_27 27 _ _ _ o_LW_27 ?_
      simp only [k_LW_27, jrun, jstep, jldi, jldl, jlda, j1, j2, jl1, jl2, jli, ja1, jbr, jald, jast, jlald, jlast, jalen, jget, jput, jfit, jdup, jdupx, jdupx2, jdup2, jcat, jset1, jset2, jkill, List.getElem?_cons_zero, List.getElem?_cons_succ, List.set_cons_zero, List.set_cons_succ, List.length_cons, List.length_nil, Nat.reduceAdd, Nat.reduceLT, Int32.reduceToNatClampNeg, true_and, and_true, and_self, reduceCtorEq, not_false_eq_true, false_and, and_false, or_false, false_or, true_or, or_true, hgt, false_implies, true_implies, not_false_eq_true]
      refine jk_sld X d_LW_36 hX hbl (i := nI (6 * k)) (vp_in_nI (by omega) (by omega)) ?_
      refine jrun_ok jC X k_LW_37 37 _ _ _ o_LW_37 ?_
      simp only [k_LW_37, jrun, jstep, jldi, jldl, jlda, j1, j2, jl1, jl2, jli, ja1, jbr, jald, jast, jlald, jlast, jalen, jget, jput, jfit, jdup, jdupx, jdupx2, jdup2, jcat, jset1, jset2, jkill, List.getElem?_cons_zero, List.getElem?_cons_succ, List.set_cons_zero, List.set_cons_succ, List.length_cons, List.length_nil, Nat.reduceAdd, Nat.reduceLT, Int32.reduceToNatClampNeg, true_and, and_true, and_self, reduceCtorEq, not_false_eq_true, false_and, and_false, or_false, false_or, true_or, or_true]
      refine jk_tab X d_LW_39 [68, 141, 197, 210] (by decide) (by decide) (td := 238) (by decide) (fun _ => jJ_widen (by unfold wVc; omega) (by unfold wVs; omega) (next n L W o5 o6 h)) ?_
      intro i t hi _
      match i, hi with
      | 0, hi => cases hi; exact lw_feed hlt hA X hX hbl hR hTh hL hgo next h o5 o6
      | 1, hi => cases hi; exact lw_end1 hlt hA X hX hbl hR hTh hL hgo next h o5 o6
      | 2, hi => cases hi; exact lw_size hlt hA X hX hbl hR hTh hL hgo next h o5 o6
      | 3, hi => cases hi; exact lw_out hlt hA X hX hbl hR hTh hL hgo next h o5 o6
      | i + 4, hi => cases hi
    · have hgt : (Int32.ofNat Lx - 6 < nI (6 * k)) = True := eq_true ((lw_cmp hL (by omega)).mpr (by omega))
      refine jrun_ok jC X k_LW_23 23 _ _ _ o_LW_23 ?_
      simp only [k_LW_23, jrun, jstep, jldi, jldl, jlda, j1, j2, jl1, jl2, jli, ja1, jbr, jald, jast, jlald, jlast, jalen, jget, jput, jfit, jdup, jdupx, jdupx2, jdup2, jcat, jset1, jset2, jkill, List.getElem?_cons_zero, List.getElem?_cons_succ, List.set_cons_zero, List.set_cons_succ, List.length_cons, List.length_nil, Nat.reduceAdd, Nat.reduceLT, Int32.reduceToNatClampNeg, true_and, and_true, and_self, reduceCtorEq, not_false_eq_true, false_and, and_false, or_false, false_or, true_or, or_true]
      refine jk_slen X d_LW_26 hX hbl ?_
      refine jrun_ok jC X k_LW_27 27 _ _ _ o_LW_27 ?_
      simp only [k_LW_27, jrun, jstep, jldi, jldl, jlda, j1, j2, jl1, jl2, jli, ja1, jbr, jald, jast, jlald, jlast, jalen, jget, jput, jfit, jdup, jdupx, jdupx2, jdup2, jcat, jset1, jset2, jkill, List.getElem?_cons_zero, List.getElem?_cons_succ, List.set_cons_zero, List.set_cons_succ, List.length_cons, List.length_nil, Nat.reduceAdd, Nat.reduceLT, Int32.reduceToNatClampNeg, true_and, and_true, and_self, reduceCtorEq, not_false_eq_true, false_and, and_false, or_false, false_or, true_or, or_true, hgt, false_implies, true_implies, not_true_eq_false]
      refine jrun_ok jC X k_LW_244 244 _ _ _ o_LW_244 ?_
      simp only [k_LW_244, jrun, jstep, jldi, jldl, jlda, j1, j2, jl1, jl2, jli, ja1, jbr, jald, jast, jlald, jlast, jalen, jget, jput, jfit, jdup, jdupx, jdupx2, jdup2, jcat, jset1, jset2, jkill, List.getElem?_cons_zero, List.getElem?_cons_succ, List.set_cons_zero, List.set_cons_succ, List.length_cons, List.length_nil, Nat.reduceAdd, Nat.reduceLT, Int32.reduceToNatClampNeg, true_and, and_true, and_self, reduceCtorEq, not_false_eq_true, false_and, and_false, or_false, false_or, true_or, or_true]
      exact hret _ _ _ _ _ hb.1 hb.2
end LAW
end
section
/-! a heap that is only half built: the places lo .. hi - 1 alone are known -/
noncomputable def zsR (lo hi : Nat) (a : Nat) : zS := bif Nat.ble lo a && Nat.blt a hi then zsh a else none
theorem zsR_n {lo hi a : Nat} (h : a < lo ∨ hi ≤ a) : zsR lo hi a = none := by
  unfold zsR
  have : (Nat.ble lo a && Nat.blt a hi) = false := by
    rcases h with h | h
    · have : Nat.ble lo a = false := by
        cases e : Nat.ble lo a with
        | false => rfl
        | true => exact absurd (Nat.le_of_ble_eq_true e) (by omega)
      rw [this]
      rfl
    · have : Nat.blt a hi = false := by
        cases e : Nat.blt a hi with
        | false => rfl
        | true => exact absurd (Nat.le_of_ble_eq_true e) (by omega)
      rw [this, Bool.and_false]
  rw [this]
  rfl
end
section
/-! copies over the places 34 .. 46 alone -/
set_option maxRecDepth 8000 in
theorem zp_BOput34_0_r {n K : Nat} {W : zW} {post : zPo} {s m : Int}  (hK : 68 ≤ K) (hn : 46 ≤ n) (h : (0 ≤ s ∧ s < 64) ∧ (-2147483648 ≤ s ∧ s ≤ 2147483647) ∧ ∀ t0 : Int, t0 = s / 16 → (0 ≤ t0 ∧ t0 < 4) ∧ (0 ≤ s ∧ s ≤ 2147483647) ∧ ∀ t1 : Int, t1 = s % 16 → (0 ≤ t1 ∧ t1 * 4 ≤ 2147483647) ∧ ∀ t2 : Int, t2 = t1 * 4 → (0 ≤ t0 ∧ t0 < 4) ∧ (-2147483648 ≤ m ∧ m ≤ 2147483647) ∧ ∀ t3 : Int, t3 = m / 8 → (0 ≤ t3 ∧ t3 < 2) ∧ (0 ≤ m ∧ m * 64 ≤ 2147483647) ∧ ∀ t4 : Int, t4 = m * 64 → (0 ≤ t4 ∧ t4 ≤ 2147483647 ∧ t4 % 64 = 0 ∧ 0 ≤ s ∧ s < 64) ∧ ∀ t5 : Int, t5 = t4 + s → (0 ≤ t5 ∧ t5 < 1024) ∧ (0 ≤ t3 ∧ t3 < 2) ∧ (0 ≤ m ∧ m < 16) ∧ (-2147483648 ≤ (W.2.1 39 m) + 1 ∧ (W.2.1 39 m) + 1 ≤ 2147483647) ∧ (0 ≤ m ∧ m < 16) ∧ (0 ≤ m ∧ m ≤ 2147483647) ∧ ∀ t6 : Int, t6 = m % 8 → (¬ t6 = 3 → (0 ≤ m ∧ m ≤ 2147483647) ∧ ∀ t7 : Int, t7 = m % 8 → (¬ t7 = 6 → post none (zuR (zuR (zuL (zuR W 35 s m) 37 t0.toNat (((zuR W 35 s m).2.2.1 37 t0.toNat) ^^^ (((lI m).toInt64) <<< ((lI t2).toInt64 &&& 63)))) 38 t3 ((lI (W.2.1 38 t3) + lI (W.2.1 41 t5)).toInt)) 39 m ((W.2.1 39 m) + 1))) ∧ (t7 = 6 → (-2147483648 ≤ m ∧ m ≤ 2147483647) ∧ ∀ t8 : Int, t8 = m / 8 → (0 ≤ t8 ∧ t8 < 2) ∧ post none (zuR (zuR (zuR (zuL (zuR W 35 s m) 37 t0.toNat (((zuR W 35 s m).2.2.1 37 t0.toNat) ^^^ (((lI m).toInt64) <<< ((lI t2).toInt64 &&& 63)))) 38 t3 ((lI (W.2.1 38 t3) + lI (W.2.1 41 t5)).toInt)) 39 m ((W.2.1 39 m) + 1)) 36 t8 s))) ∧ (t6 = 3 → (-2147483648 ≤ s ∧ s ≤ 2147483647) ∧ ∀ t9 : Int, t9 = s / 8 → (0 ≤ ((lI s ^^^ lI t9).toInt) ∧ ((lI s ^^^ lI t9).toInt) ≤ 2147483647) ∧ ∀ t10 : Int, t10 = ((lI s ^^^ lI t9).toInt) % 2 → (0 ≤ t10 ∧ t10 < 2) ∧ (0 ≤ t10 ∧ t10 < 2) ∧ post none (zuR (zuR (zuR (zuL (zuR W 35 s m) 37 t0.toNat (((zuR W 35 s m).2.2.1 37 t0.toNat) ^^^ (((lI m).toInt64) <<< ((lI t2).toInt64 &&& 63)))) 38 t3 ((lI (W.2.1 38 t3) + lI (W.2.1 41 t5)).toInt)) 39 m ((W.2.1 39 m) + 1)) 40 t10 ((lI (W.2.1 40 t10) + lI 1).toInt)))) : zwp jtb (zsR 34 46) n zm_BOput34 post K (lGo ak_ZBOput34 0) 0 [some (.inr (.inr (some (.inl 34)))), some (.inl (s)), some (.inl (m))] [] W := by
  obtain ⟨kk__, rfl⟩ : ∃ kk__, K = kk__ + 68 := ⟨K - 68, by omega⟩
  exact (show 34 < n ∧ 10 = 10 ∧ 35 < n ∧ FieldType.int = FieldType.int ∧ (0 ≤ s ∧ s < 64) ∧ True ∧ 34 < n ∧ 10 = 10 ∧ 37 < n ∧ (0 ≤ ((lI s >>> (lI 4 &&& 31)).toInt) ∧ ((lI s >>> (lI 4 &&& 31)).toInt) < 4) ∧ 37 < n ∧ (0 ≤ ((lI s >>> (lI 4 &&& 31)).toInt) ∧ ((lI s >>> (lI 4 &&& 31)).toInt) < 4) ∧ 34 < n ∧ 10 = 10 ∧ 38 < n ∧ FieldType.int = FieldType.int ∧ (0 ≤ ((lI m >>> (lI 3 &&& 31)).toInt) ∧ ((lI m >>> (lI 3 &&& 31)).toInt) < 2) ∧ 34 < n ∧ 10 = 10 ∧ 41 < n ∧ FieldType.int = FieldType.int ∧ (0 ≤ ((lI ((lI m <<< (lI 6 &&& 31)).toInt) ||| lI s).toInt) ∧ ((lI ((lI m <<< (lI 6 &&& 31)).toInt) ||| lI s).toInt) < 1024) ∧ 38 < n ∧ FieldType.int = FieldType.int ∧ (0 ≤ ((lI m >>> (lI 3 &&& 31)).toInt) ∧ ((lI m >>> (lI 3 &&& 31)).toInt) < 2) ∧ True ∧ 34 < n ∧ 10 = 10 ∧ 39 < n ∧ FieldType.int = FieldType.int ∧ (0 ≤ m ∧ m < 16) ∧ (-2147483648 ≤ (W.2.1 39 m) + 1 ∧ (W.2.1 39 m) + 1 ≤ 2147483647) ∧ 39 < n ∧ FieldType.int = FieldType.int ∧ (0 ≤ m ∧ m < 16) ∧ True ∧ (¬ ((lI m &&& lI 7).toInt) = 3 → (¬ ((lI m &&& lI 7).toInt) = 6 → 1 = 1 ∧ (none : Option FieldType) = none ∧ post none (zuR (zuR (zuL (zuR W 35 s m) 37 ((lI s >>> (lI 4 &&& 31)).toInt).toNat (((zuR W 35 s m).2.2.1 37 ((lI s >>> (lI 4 &&& 31)).toInt).toNat) ^^^ (((lI m).toInt64) <<< ((lI ((lI ((lI s &&& lI 15).toInt) <<< (lI 2 &&& 31)).toInt)).toInt64 &&& 63)))) 38 ((lI m >>> (lI 3 &&& 31)).toInt) ((lI (W.2.1 38 ((lI m >>> (lI 3 &&& 31)).toInt)) + lI (W.2.1 41 ((lI ((lI m <<< (lI 6 &&& 31)).toInt) ||| lI s).toInt))).toInt)) 39 m ((W.2.1 39 m) + 1))) ∧ (((lI m &&& lI 7).toInt) = 6 → 34 < n ∧ 10 = 10 ∧ 36 < n ∧ FieldType.int = FieldType.int ∧ (0 ≤ ((lI m >>> (lI 3 &&& 31)).toInt) ∧ ((lI m >>> (lI 3 &&& 31)).toInt) < 2) ∧ True ∧ 1 = 1 ∧ (none : Option FieldType) = none ∧ post none (zuR (zuR (zuR (zuL (zuR W 35 s m) 37 ((lI s >>> (lI 4 &&& 31)).toInt).toNat (((zuR W 35 s m).2.2.1 37 ((lI s >>> (lI 4 &&& 31)).toInt).toNat) ^^^ (((lI m).toInt64) <<< ((lI ((lI ((lI s &&& lI 15).toInt) <<< (lI 2 &&& 31)).toInt)).toInt64 &&& 63)))) 38 ((lI m >>> (lI 3 &&& 31)).toInt) ((lI (W.2.1 38 ((lI m >>> (lI 3 &&& 31)).toInt)) + lI (W.2.1 41 ((lI ((lI m <<< (lI 6 &&& 31)).toInt) ||| lI s).toInt))).toInt)) 39 m ((W.2.1 39 m) + 1)) 36 ((lI m >>> (lI 3 &&& 31)).toInt) s))) ∧ (((lI m &&& lI 7).toInt) = 3 → 34 < n ∧ 10 = 10 ∧ 40 < n ∧ FieldType.int = FieldType.int ∧ (0 ≤ ((lI ((lI s ^^^ lI ((lI s >>> (lI 3 &&& 31)).toInt)).toInt) &&& lI 1).toInt) ∧ ((lI ((lI s ^^^ lI ((lI s >>> (lI 3 &&& 31)).toInt)).toInt) &&& lI 1).toInt) < 2) ∧ 40 < n ∧ FieldType.int = FieldType.int ∧ (0 ≤ ((lI ((lI s ^^^ lI ((lI s >>> (lI 3 &&& 31)).toInt)).toInt) &&& lI 1).toInt) ∧ ((lI ((lI s ^^^ lI ((lI s >>> (lI 3 &&& 31)).toInt)).toInt) &&& lI 1).toInt) < 2) ∧ True ∧ 1 = 1 ∧ (none : Option FieldType) = none ∧ post none (zuR (zuR (zuR (zuL (zuR W 35 s m) 37 ((lI s >>> (lI 4 &&& 31)).toInt).toNat (((zuR W 35 s m).2.2.1 37 ((lI s >>> (lI 4 &&& 31)).toInt).toNat) ^^^ (((lI m).toInt64) <<< ((lI ((lI ((lI s &&& lI 15).toInt) <<< (lI 2 &&& 31)).toInt)).toInt64 &&& 63)))) 38 ((lI m >>> (lI 3 &&& 31)).toInt) ((lI (W.2.1 38 ((lI m >>> (lI 3 &&& 31)).toInt)) + lI (W.2.1 41 ((lI ((lI m <<< (lI 6 &&& 31)).toInt) ||| lI s).toInt))).toInt)) 39 m ((W.2.1 39 m) + 1)) 40 ((lI ((lI s ^^^ lI ((lI s >>> (lI 3 &&& 31)).toInt)).toInt) &&& lI 1).toInt) ((lI (W.2.1 40 ((lI ((lI s ^^^ lI ((lI s >>> (lI 3 &&& 31)).toInt)).toInt) &&& lI 1).toInt)) + lI 1).toInt))) from ⟨(Nat.lt_of_lt_of_le (by decide) hn), rfl, ⟨(Nat.lt_of_lt_of_le (by decide) hn), rfl, (h).1, trivial, ⟨(Nat.lt_of_lt_of_le (by decide) hn), rfl, (have h := (((h).2).2 _ (z_sr4 ((h).2).1)); ⟨(Nat.lt_of_lt_of_le (by decide) hn), (h).1, (have h := (((h).2).2 _ (z_an15 ((h).2).1)); ⟨(Nat.lt_of_lt_of_le (by decide) hn), (((h).2 _ (z_sl2 (h).1))).1, (have h := (((h).2 _ (z_sl2 (h).1))).2; ⟨(Nat.lt_of_lt_of_le (by decide) hn), rfl, ⟨(Nat.lt_of_lt_of_le (by decide) hn), rfl, (((h).2 _ (z_sr3 (h).1))).1, (have h := (((h).2 _ (z_sr3 (h).1))).2; ⟨(Nat.lt_of_lt_of_le (by decide) hn), rfl, (have h := ((((h).2 _ (z_sl6 (h).1))).2 _ (z_or6 (((h).2 _ (z_sl6 (h).1))).1)); ⟨(Nat.lt_of_lt_of_le (by decide) hn), rfl, (h).1, ⟨(Nat.lt_of_lt_of_le (by decide) hn), rfl, ((h).2).1, trivial, ⟨(Nat.lt_of_lt_of_le (by decide) hn), rfl, ⟨(Nat.lt_of_lt_of_le (by decide) hn), rfl, (((h).2).2).1, ⟨((((h).2).2).2).1, ⟨(Nat.lt_of_lt_of_le (by decide) hn), rfl, (((((h).2).2).2).2).1, trivial, (have h := (((((((h).2).2).2).2).2).2 _ (z_an7 ((((((h).2).2).2).2).2).1)); ⟨fun c64_51 => (have h := ((((h).1 c64_51)).2 _ (z_an7 (((h).1 c64_51)).1)); ⟨fun c92_56 => ⟨rfl, rfl, ((h).1 c92_56)⟩, fun c92_56 => ⟨(Nat.lt_of_lt_of_le (by decide) hn), rfl, (have h := ((((h).2 c92_56)).2 _ (z_sr3 (((h).2 c92_56)).1)); ⟨(Nat.lt_of_lt_of_le (by decide) hn), rfl, (h).1, trivial, ⟨rfl, rfl, (h).2⟩⟩)⟩⟩), fun c64_51 => ⟨(Nat.lt_of_lt_of_le (by decide) hn), rfl, (have h := ((((h).2 c64_51)).2 _ (z_sr3 (((h).2 c64_51)).1)); ⟨(Nat.lt_of_lt_of_le (by decide) hn), rfl, (((h).2 _ (z_an1 (h).1))).1, (have h := (((h).2 _ (z_an1 (h).1))).2; ⟨(Nat.lt_of_lt_of_le (by decide) hn), rfl, (h).1, trivial, ⟨rfl, rfl, (h).2⟩⟩)⟩)⟩⟩)⟩⟩⟩⟩⟩⟩)⟩)⟩⟩)⟩)⟩)⟩⟩⟩)
theorem zk_BOput34_r {l : Launch} {E : jE} {n : Nat} (hn : 46 ≤ n) : zHas l E jcl jtb lw_tbl (zsR 34 46) n (y_BO_put, false, 3, 10, { frames := 0, cells := 0, slots := 0, locals := 0 }, zc_BOput34) := by
  refine ⟨⟨rfl, rfl, ⟨show 1 ≤ 3 by decide, m_BO_put, i_BO_put, e_BO_put, fun _ => ⟨_, rfl, rfl⟩⟩⟩, ?_⟩
  rintro vz W po hO hW ⟨s, m, rfl, hq, hp⟩
  refine zmet (m := zm_BOput34) rfl (by decide) (fun _ _ => jtF_ok) lo_BO ao_ZBOput34 jC (fun q h => by cases h) (fun q h => by cases h) (fun q h => by cases h) (Nat.le_of_ble_eq_true rfl) hO hW (120) ?_
  obtain ⟨hs, hm, hc⟩ := hq
  exact zp_BOput34_0_r (by omega) hn ⟨(by omega), ⟨(by omega), fun t0 e0 => ⟨(by omega), ⟨(by omega), fun t1 e1 => ⟨(by omega), fun t2 e2 => ⟨(by omega), ⟨(by omega), fun t3 e3 => ⟨(by omega), ⟨(by omega), fun t4 e4 => ⟨(by omega), fun t5 e5 => ⟨(by omega), ⟨(by omega), ⟨(by omega), ⟨(by omega), ⟨(by omega), ⟨(by omega), fun t6 e6 => ⟨fun c64 => ⟨(by omega), fun t7 e7 => ⟨fun c92 => (hp _ ⟨(zFy_R (zFy_R (zFy_L (zFy_R zFy_0 (by decide)) (by decide)) (by decide)) (by decide)), by first | rfl | (rw [if_neg (by omega)]; rfl) | (rw [if_pos (by omega), ← e8]; rfl), by first | rfl | (rw [if_neg (by omega)]; rfl) | (rw [if_pos (by omega), ← e8]; rfl), by first | rfl | (rw [if_neg (by omega)]; rfl) | (rw [if_pos (by omega), ← e8]; rfl), by rw [show 64 * m + s = t5 by omega, show m / 8 = t3 by omega]; rfl⟩), fun c92 => ⟨(by omega), fun t8 e8 => ⟨(by omega), (hp _ ⟨(zFy_R (zFy_R (zFy_R (zFy_L (zFy_R zFy_0 (by decide)) (by decide)) (by decide)) (by decide)) (by decide)), by first | rfl | (rw [if_neg (by omega)]; rfl) | (rw [if_pos (by omega), ← e8]; rfl), by first | rfl | (rw [if_neg (by omega)]; rfl) | (rw [if_pos (by omega), ← e8]; rfl), by first | rfl | (rw [if_neg (by omega)]; rfl) | (rw [if_pos (by omega), ← e8]; rfl), by rw [show 64 * m + s = t5 by omega, show m / 8 = t3 by omega]; rfl⟩)⟩⟩⟩⟩, fun c64 => ⟨(by omega), fun t9 e9 => ⟨(cx3 (by omega)), fun t10 e10 => ⟨(by omega), ⟨(by omega), (hp _ ⟨(zFy_R (zFy_R (zFy_R (zFy_L (zFy_R zFy_0 (by decide)) (by decide)) (by decide)) (by decide)) (by decide)), by first | rfl | (rw [if_neg (by omega)]; rfl) | (rw [if_pos (by omega), ← e8]; rfl), by first | rfl | (rw [if_neg (by omega)]; rfl) | (rw [if_pos (by omega), ← e8]; rfl), by first | rfl | (rw [if_neg (by omega)]; rfl) | (rw [if_pos (by omega), ← e8]; rfl), by rw [show 64 * m + s = t5 by omega, show m / 8 = t3 by omega]; rfl⟩)⟩⟩⟩⟩⟩⟩⟩⟩⟩⟩⟩⟩⟩⟩⟩⟩⟩⟩⟩⟩⟩
set_option maxRecDepth 8000 in
theorem zp_ARfi35_0_r {n K : Nat} {W : zW} {post : zPo} {x : Int} {u2 u3 : Option zv} (hK : 5 ≤ K) (hn : 46 ≤ n) (h : zwp jtb (zsR 34 46) n zm_ARfi35 post (K - 5) (lGo ak_ZARfi35 5) 5 [some (.inr (.inr (some (.inl 35)))), some (.inl (x)), some (.inl (0)), some (.inl (64))] [] W) : zwp jtb (zsR 34 46) n zm_ARfi35 post K (lGo ak_ZARfi35 0) 0 [some (.inr (.inr (some (.inl 35)))), some (.inl (x)), u2, u3] [] W := by
  obtain ⟨kk__, rfl⟩ : ∃ kk__, K = kk__ + 5 := ⟨K - 5, by omega⟩
  exact (show 35 < n ∧ FieldType.int ∈ jtys ∧ 64 ≤ 2147483647 ∧ zwp jtb (zsR 34 46) n zm_ARfi35 post (kk__ + 0) (lGo ak_ZARfi35 5) 5 [some (.inr (.inr (some (.inl 35)))), some (.inl (x)), some (.inl (0)), some (.inl (64))] [] W from ⟨(Nat.lt_of_lt_of_le (by decide) hn), (by decide), (by decide), h⟩)
set_option maxRecDepth 8000 in
theorem zp_ARfi35_5_r {n K : Nat} {V : zW} {post : zPo} {x i : Int}  (hK : 9 ≤ K) (hn : 46 ≤ n) (h : (64 ≤ i → post none V) ∧ (¬ 64 ≤ i → (0 ≤ i ∧ i < 64) ∧ (-2147483648 ≤ i + 1 ∧ i + 1 ≤ 2147483647) ∧ zwp jtb (zsR 34 46) n zm_ARfi35 post (K - 9) (lGo ak_ZARfi35 5) 5 [some (.inr (.inr (some (.inl 35)))), some (.inl (x)), some (.inl (i + 1)), some (.inl (64))] [] (zuR V 35 i x))) : zwp jtb (zsR 34 46) n zm_ARfi35 post K (lGo ak_ZARfi35 5) 5 [some (.inr (.inr (some (.inl 35)))), some (.inl (x)), some (.inl (i)), some (.inl (64))] [] V := by
  obtain ⟨kk__, rfl⟩ : ∃ kk__, K = kk__ + 9 := ⟨K - 9, by omega⟩
  exact (show (64 ≤ i → 1 = 1 ∧ (none : Option FieldType) = none ∧ post none V) ∧ (¬ 64 ≤ i → 35 < n ∧ FieldType.int = FieldType.int ∧ (0 ≤ i ∧ i < 64) ∧ True ∧ (-2147483648 ≤ i + 1 ∧ i + 1 ≤ 2147483647) ∧ zwp jtb (zsR 34 46) n zm_ARfi35 post (kk__ + 0) (lGo ak_ZARfi35 5) 5 [some (.inr (.inr (some (.inl 35)))), some (.inl (x)), some (.inl (i + 1)), some (.inl (64))] [] (zuR V 35 i x)) from ⟨fun c7_2 => ⟨rfl, rfl, ((h).1 c7_2)⟩, fun c7_2 => ⟨(Nat.lt_of_lt_of_le (by decide) hn), rfl, (((h).2 c7_2)).1, trivial, ⟨((((h).2 c7_2)).2).1, ((((h).2 c7_2)).2).2⟩⟩⟩)
theorem zk_ARfi35_r {l : Launch} {E : jE} {n : Nat} (hn : 46 ≤ n) : zHas l E jcl jtb lw_tbl (zsR 34 46) n (y_AR_fill2, true, 2, 0, { frames := 0, cells := 0, slots := 0, locals := 0 }, zc_ARfi35) := by
  refine ⟨⟨rfl, rfl, ⟨m_AR_fill2, s_AR_fill2⟩⟩, ?_⟩
  rintro vz W po hO hW ⟨x, rfl, hq, hp⟩
  refine zmet (m := zm_ARfi35) rfl (by decide) (fun _ _ => jtF_ok) lo_AR ao_ZARfi35 jC (fun q h => by cases h) (fun q h => by cases h) (fun q h => by cases h) (Nat.le_of_ble_eq_true rfl) hO hW (4000) ?_
  have h5 : ∀ (m K : Nat) (V : zW) (i : Int), 20 * m + 20 ≤ K → (64 - i < m ∧ 0 ≤ i ∧ i ≤ 64) → zFr [] [35] W V → (∀ j, V.2.1 35 j = (if 0 ≤ j ∧ j < i then x else W.2.1 35 j)) → zwp jtb (zsR 34 46) n zm_ARfi35 po K (lGo ak_ZARfi35 5) 5 [some (.inr (.inr (some (.inl 35)))), some (.inl x), some (.inl i), some (.inl 64)] [] V := by
    intro m
    induction m with
    | zero => intro K V i hK hm; omega
    | succ m ih =>
      intro K V i hK hm hF hV
      exact zp_ARfi35_5_r (by omega) hn ⟨fun c7 => (hp _ ⟨hF, fun j => by rw [hV j, show i = 64 by omega]⟩), fun c7 => ⟨(by omega), ⟨(by omega), (ih _ _ (i + 1) (by omega) (by omega) (zFr_R hF List.mem_cons_self) (fun j => by rw [zuR_2]; by_cases c : j = i; (rw [if_pos ⟨rfl, c⟩, if_pos (by omega)]); (rw [if_neg (fun z => c z.2), hV j]; by_cases d : 0 ≤ j ∧ j < i; (rw [if_pos d, if_pos (by omega)]); (rw [if_neg d, if_neg (by omega)]))))⟩⟩⟩
  exact zp_ARfi35_0_r (by omega) hn (h5 65 _ W 0 (by omega) (by omega) zFr_0 (fun j => by rw [if_neg (by omega)]))
set_option maxRecDepth 8000 in
theorem zp_ARfi36_0_r {n K : Nat} {W : zW} {post : zPo} {x : Int} {u2 u3 : Option zv} (hK : 5 ≤ K) (hn : 46 ≤ n) (h : zwp jtb (zsR 34 46) n zm_ARfi36 post (K - 5) (lGo ak_ZARfi36 5) 5 [some (.inr (.inr (some (.inl 36)))), some (.inl (x)), some (.inl (0)), some (.inl (2))] [] W) : zwp jtb (zsR 34 46) n zm_ARfi36 post K (lGo ak_ZARfi36 0) 0 [some (.inr (.inr (some (.inl 36)))), some (.inl (x)), u2, u3] [] W := by
  obtain ⟨kk__, rfl⟩ : ∃ kk__, K = kk__ + 5 := ⟨K - 5, by omega⟩
  exact (show 36 < n ∧ FieldType.int ∈ jtys ∧ 2 ≤ 2147483647 ∧ zwp jtb (zsR 34 46) n zm_ARfi36 post (kk__ + 0) (lGo ak_ZARfi36 5) 5 [some (.inr (.inr (some (.inl 36)))), some (.inl (x)), some (.inl (0)), some (.inl (2))] [] W from ⟨(Nat.lt_of_lt_of_le (by decide) hn), (by decide), (by decide), h⟩)
set_option maxRecDepth 8000 in
theorem zp_ARfi36_5_r {n K : Nat} {V : zW} {post : zPo} {x i : Int}  (hK : 9 ≤ K) (hn : 46 ≤ n) (h : (2 ≤ i → post none V) ∧ (¬ 2 ≤ i → (0 ≤ i ∧ i < 2) ∧ (-2147483648 ≤ i + 1 ∧ i + 1 ≤ 2147483647) ∧ zwp jtb (zsR 34 46) n zm_ARfi36 post (K - 9) (lGo ak_ZARfi36 5) 5 [some (.inr (.inr (some (.inl 36)))), some (.inl (x)), some (.inl (i + 1)), some (.inl (2))] [] (zuR V 36 i x))) : zwp jtb (zsR 34 46) n zm_ARfi36 post K (lGo ak_ZARfi36 5) 5 [some (.inr (.inr (some (.inl 36)))), some (.inl (x)), some (.inl (i)), some (.inl (2))] [] V := by
  obtain ⟨kk__, rfl⟩ : ∃ kk__, K = kk__ + 9 := ⟨K - 9, by omega⟩
  exact (show (2 ≤ i → 1 = 1 ∧ (none : Option FieldType) = none ∧ post none V) ∧ (¬ 2 ≤ i → 36 < n ∧ FieldType.int = FieldType.int ∧ (0 ≤ i ∧ i < 2) ∧ True ∧ (-2147483648 ≤ i + 1 ∧ i + 1 ≤ 2147483647) ∧ zwp jtb (zsR 34 46) n zm_ARfi36 post (kk__ + 0) (lGo ak_ZARfi36 5) 5 [some (.inr (.inr (some (.inl 36)))), some (.inl (x)), some (.inl (i + 1)), some (.inl (2))] [] (zuR V 36 i x)) from ⟨fun c7_2 => ⟨rfl, rfl, ((h).1 c7_2)⟩, fun c7_2 => ⟨(Nat.lt_of_lt_of_le (by decide) hn), rfl, (((h).2 c7_2)).1, trivial, ⟨((((h).2 c7_2)).2).1, ((((h).2 c7_2)).2).2⟩⟩⟩)
theorem zk_ARfi36_r {l : Launch} {E : jE} {n : Nat} (hn : 46 ≤ n) : zHas l E jcl jtb lw_tbl (zsR 34 46) n (y_AR_fill2, true, 2, 0, { frames := 0, cells := 0, slots := 0, locals := 0 }, zc_ARfi36) := by
  refine ⟨⟨rfl, rfl, ⟨m_AR_fill2, s_AR_fill2⟩⟩, ?_⟩
  rintro vz W po hO hW ⟨x, rfl, hq, hp⟩
  refine zmet (m := zm_ARfi36) rfl (by decide) (fun _ _ => jtF_ok) lo_AR ao_ZARfi36 jC (fun q h => by cases h) (fun q h => by cases h) (fun q h => by cases h) (Nat.le_of_ble_eq_true rfl) hO hW (4000) ?_
  have h5 : ∀ (m K : Nat) (V : zW) (i : Int), 20 * m + 20 ≤ K → (2 - i < m ∧ 0 ≤ i ∧ i ≤ 2) → zFr [] [36] W V → (∀ j, V.2.1 36 j = (if 0 ≤ j ∧ j < i then x else W.2.1 36 j)) → zwp jtb (zsR 34 46) n zm_ARfi36 po K (lGo ak_ZARfi36 5) 5 [some (.inr (.inr (some (.inl 36)))), some (.inl x), some (.inl i), some (.inl 2)] [] V := by
    intro m
    induction m with
    | zero => intro K V i hK hm; omega
    | succ m ih =>
      intro K V i hK hm hF hV
      exact zp_ARfi36_5_r (by omega) hn ⟨fun c7 => (hp _ ⟨hF, fun j => by rw [hV j, show i = 2 by omega]⟩), fun c7 => ⟨(by omega), ⟨(by omega), (ih _ _ (i + 1) (by omega) (by omega) (zFr_R hF List.mem_cons_self) (fun j => by rw [zuR_2]; by_cases c : j = i; (rw [if_pos ⟨rfl, c⟩, if_pos (by omega)]); (rw [if_neg (fun z => c z.2), hV j]; by_cases d : 0 ≤ j ∧ j < i; (rw [if_pos d, if_pos (by omega)]); (rw [if_neg d, if_neg (by omega)]))))⟩⟩⟩
  exact zp_ARfi36_0_r (by omega) hn (h5 3 _ W 0 (by omega) (by omega) zFr_0 (fun j => by rw [if_neg (by omega)]))
set_option maxRecDepth 8000 in
theorem zp_ARfi38_0_r {n K : Nat} {W : zW} {post : zPo} {x : Int} {u2 u3 : Option zv} (hK : 5 ≤ K) (hn : 46 ≤ n) (h : zwp jtb (zsR 34 46) n zm_ARfi38 post (K - 5) (lGo ak_ZARfi38 5) 5 [some (.inr (.inr (some (.inl 38)))), some (.inl (x)), some (.inl (0)), some (.inl (2))] [] W) : zwp jtb (zsR 34 46) n zm_ARfi38 post K (lGo ak_ZARfi38 0) 0 [some (.inr (.inr (some (.inl 38)))), some (.inl (x)), u2, u3] [] W := by
  obtain ⟨kk__, rfl⟩ : ∃ kk__, K = kk__ + 5 := ⟨K - 5, by omega⟩
  exact (show 38 < n ∧ FieldType.int ∈ jtys ∧ 2 ≤ 2147483647 ∧ zwp jtb (zsR 34 46) n zm_ARfi38 post (kk__ + 0) (lGo ak_ZARfi38 5) 5 [some (.inr (.inr (some (.inl 38)))), some (.inl (x)), some (.inl (0)), some (.inl (2))] [] W from ⟨(Nat.lt_of_lt_of_le (by decide) hn), (by decide), (by decide), h⟩)
set_option maxRecDepth 8000 in
theorem zp_ARfi38_5_r {n K : Nat} {V : zW} {post : zPo} {x i : Int}  (hK : 9 ≤ K) (hn : 46 ≤ n) (h : (2 ≤ i → post none V) ∧ (¬ 2 ≤ i → (0 ≤ i ∧ i < 2) ∧ (-2147483648 ≤ i + 1 ∧ i + 1 ≤ 2147483647) ∧ zwp jtb (zsR 34 46) n zm_ARfi38 post (K - 9) (lGo ak_ZARfi38 5) 5 [some (.inr (.inr (some (.inl 38)))), some (.inl (x)), some (.inl (i + 1)), some (.inl (2))] [] (zuR V 38 i x))) : zwp jtb (zsR 34 46) n zm_ARfi38 post K (lGo ak_ZARfi38 5) 5 [some (.inr (.inr (some (.inl 38)))), some (.inl (x)), some (.inl (i)), some (.inl (2))] [] V := by
  obtain ⟨kk__, rfl⟩ : ∃ kk__, K = kk__ + 9 := ⟨K - 9, by omega⟩
  exact (show (2 ≤ i → 1 = 1 ∧ (none : Option FieldType) = none ∧ post none V) ∧ (¬ 2 ≤ i → 38 < n ∧ FieldType.int = FieldType.int ∧ (0 ≤ i ∧ i < 2) ∧ True ∧ (-2147483648 ≤ i + 1 ∧ i + 1 ≤ 2147483647) ∧ zwp jtb (zsR 34 46) n zm_ARfi38 post (kk__ + 0) (lGo ak_ZARfi38 5) 5 [some (.inr (.inr (some (.inl 38)))), some (.inl (x)), some (.inl (i + 1)), some (.inl (2))] [] (zuR V 38 i x)) from ⟨fun c7_2 => ⟨rfl, rfl, ((h).1 c7_2)⟩, fun c7_2 => ⟨(Nat.lt_of_lt_of_le (by decide) hn), rfl, (((h).2 c7_2)).1, trivial, ⟨((((h).2 c7_2)).2).1, ((((h).2 c7_2)).2).2⟩⟩⟩)
theorem zk_ARfi38_r {l : Launch} {E : jE} {n : Nat} (hn : 46 ≤ n) : zHas l E jcl jtb lw_tbl (zsR 34 46) n (y_AR_fill2, true, 2, 0, { frames := 0, cells := 0, slots := 0, locals := 0 }, zc_ARfi38) := by
  refine ⟨⟨rfl, rfl, ⟨m_AR_fill2, s_AR_fill2⟩⟩, ?_⟩
  rintro vz W po hO hW ⟨x, rfl, hq, hp⟩
  refine zmet (m := zm_ARfi38) rfl (by decide) (fun _ _ => jtF_ok) lo_AR ao_ZARfi38 jC (fun q h => by cases h) (fun q h => by cases h) (fun q h => by cases h) (Nat.le_of_ble_eq_true rfl) hO hW (4000) ?_
  have h5 : ∀ (m K : Nat) (V : zW) (i : Int), 20 * m + 20 ≤ K → (2 - i < m ∧ 0 ≤ i ∧ i ≤ 2) → zFr [] [38] W V → (∀ j, V.2.1 38 j = (if 0 ≤ j ∧ j < i then x else W.2.1 38 j)) → zwp jtb (zsR 34 46) n zm_ARfi38 po K (lGo ak_ZARfi38 5) 5 [some (.inr (.inr (some (.inl 38)))), some (.inl x), some (.inl i), some (.inl 2)] [] V := by
    intro m
    induction m with
    | zero => intro K V i hK hm; omega
    | succ m ih =>
      intro K V i hK hm hF hV
      exact zp_ARfi38_5_r (by omega) hn ⟨fun c7 => (hp _ ⟨hF, fun j => by rw [hV j, show i = 2 by omega]⟩), fun c7 => ⟨(by omega), ⟨(by omega), (ih _ _ (i + 1) (by omega) (by omega) (zFr_R hF List.mem_cons_self) (fun j => by rw [zuR_2]; by_cases c : j = i; (rw [if_pos ⟨rfl, c⟩, if_pos (by omega)]); (rw [if_neg (fun z => c z.2), hV j]; by_cases d : 0 ≤ j ∧ j < i; (rw [if_pos d, if_pos (by omega)]); (rw [if_neg d, if_neg (by omega)]))))⟩⟩⟩
  exact zp_ARfi38_0_r (by omega) hn (h5 3 _ W 0 (by omega) (by omega) zFr_0 (fun j => by rw [if_neg (by omega)]))
set_option maxRecDepth 8000 in
theorem zp_ARfi39_0_r {n K : Nat} {W : zW} {post : zPo} {x : Int} {u2 u3 : Option zv} (hK : 5 ≤ K) (hn : 46 ≤ n) (h : zwp jtb (zsR 34 46) n zm_ARfi39 post (K - 5) (lGo ak_ZARfi39 5) 5 [some (.inr (.inr (some (.inl 39)))), some (.inl (x)), some (.inl (0)), some (.inl (16))] [] W) : zwp jtb (zsR 34 46) n zm_ARfi39 post K (lGo ak_ZARfi39 0) 0 [some (.inr (.inr (some (.inl 39)))), some (.inl (x)), u2, u3] [] W := by
  obtain ⟨kk__, rfl⟩ : ∃ kk__, K = kk__ + 5 := ⟨K - 5, by omega⟩
  exact (show 39 < n ∧ FieldType.int ∈ jtys ∧ 16 ≤ 2147483647 ∧ zwp jtb (zsR 34 46) n zm_ARfi39 post (kk__ + 0) (lGo ak_ZARfi39 5) 5 [some (.inr (.inr (some (.inl 39)))), some (.inl (x)), some (.inl (0)), some (.inl (16))] [] W from ⟨(Nat.lt_of_lt_of_le (by decide) hn), (by decide), (by decide), h⟩)
set_option maxRecDepth 8000 in
theorem zp_ARfi39_5_r {n K : Nat} {V : zW} {post : zPo} {x i : Int}  (hK : 9 ≤ K) (hn : 46 ≤ n) (h : (16 ≤ i → post none V) ∧ (¬ 16 ≤ i → (0 ≤ i ∧ i < 16) ∧ (-2147483648 ≤ i + 1 ∧ i + 1 ≤ 2147483647) ∧ zwp jtb (zsR 34 46) n zm_ARfi39 post (K - 9) (lGo ak_ZARfi39 5) 5 [some (.inr (.inr (some (.inl 39)))), some (.inl (x)), some (.inl (i + 1)), some (.inl (16))] [] (zuR V 39 i x))) : zwp jtb (zsR 34 46) n zm_ARfi39 post K (lGo ak_ZARfi39 5) 5 [some (.inr (.inr (some (.inl 39)))), some (.inl (x)), some (.inl (i)), some (.inl (16))] [] V := by
  obtain ⟨kk__, rfl⟩ : ∃ kk__, K = kk__ + 9 := ⟨K - 9, by omega⟩
  exact (show (16 ≤ i → 1 = 1 ∧ (none : Option FieldType) = none ∧ post none V) ∧ (¬ 16 ≤ i → 39 < n ∧ FieldType.int = FieldType.int ∧ (0 ≤ i ∧ i < 16) ∧ True ∧ (-2147483648 ≤ i + 1 ∧ i + 1 ≤ 2147483647) ∧ zwp jtb (zsR 34 46) n zm_ARfi39 post (kk__ + 0) (lGo ak_ZARfi39 5) 5 [some (.inr (.inr (some (.inl 39)))), some (.inl (x)), some (.inl (i + 1)), some (.inl (16))] [] (zuR V 39 i x)) from ⟨fun c7_2 => ⟨rfl, rfl, ((h).1 c7_2)⟩, fun c7_2 => ⟨(Nat.lt_of_lt_of_le (by decide) hn), rfl, (((h).2 c7_2)).1, trivial, ⟨((((h).2 c7_2)).2).1, ((((h).2 c7_2)).2).2⟩⟩⟩)
theorem zk_ARfi39_r {l : Launch} {E : jE} {n : Nat} (hn : 46 ≤ n) : zHas l E jcl jtb lw_tbl (zsR 34 46) n (y_AR_fill2, true, 2, 0, { frames := 0, cells := 0, slots := 0, locals := 0 }, zc_ARfi39) := by
  refine ⟨⟨rfl, rfl, ⟨m_AR_fill2, s_AR_fill2⟩⟩, ?_⟩
  rintro vz W po hO hW ⟨x, rfl, hq, hp⟩
  refine zmet (m := zm_ARfi39) rfl (by decide) (fun _ _ => jtF_ok) lo_AR ao_ZARfi39 jC (fun q h => by cases h) (fun q h => by cases h) (fun q h => by cases h) (Nat.le_of_ble_eq_true rfl) hO hW (4000) ?_
  have h5 : ∀ (m K : Nat) (V : zW) (i : Int), 20 * m + 20 ≤ K → (16 - i < m ∧ 0 ≤ i ∧ i ≤ 16) → zFr [] [39] W V → (∀ j, V.2.1 39 j = (if 0 ≤ j ∧ j < i then x else W.2.1 39 j)) → zwp jtb (zsR 34 46) n zm_ARfi39 po K (lGo ak_ZARfi39 5) 5 [some (.inr (.inr (some (.inl 39)))), some (.inl x), some (.inl i), some (.inl 16)] [] V := by
    intro m
    induction m with
    | zero => intro K V i hK hm; omega
    | succ m ih =>
      intro K V i hK hm hF hV
      exact zp_ARfi39_5_r (by omega) hn ⟨fun c7 => (hp _ ⟨hF, fun j => by rw [hV j, show i = 16 by omega]⟩), fun c7 => ⟨(by omega), ⟨(by omega), (ih _ _ (i + 1) (by omega) (by omega) (zFr_R hF List.mem_cons_self) (fun j => by rw [zuR_2]; by_cases c : j = i; (rw [if_pos ⟨rfl, c⟩, if_pos (by omega)]); (rw [if_neg (fun z => c z.2), hV j]; by_cases d : 0 ≤ j ∧ j < i; (rw [if_pos d, if_pos (by omega)]); (rw [if_neg d, if_neg (by omega)]))))⟩⟩⟩
  exact zp_ARfi39_0_r (by omega) hn (h5 17 _ W 0 (by omega) (by omega) zFr_0 (fun j => by rw [if_neg (by omega)]))
set_option maxRecDepth 8000 in
theorem zp_ARfi40_0_r {n K : Nat} {W : zW} {post : zPo} {x : Int} {u2 u3 : Option zv} (hK : 5 ≤ K) (hn : 46 ≤ n) (h : zwp jtb (zsR 34 46) n zm_ARfi40 post (K - 5) (lGo ak_ZARfi40 5) 5 [some (.inr (.inr (some (.inl 40)))), some (.inl (x)), some (.inl (0)), some (.inl (2))] [] W) : zwp jtb (zsR 34 46) n zm_ARfi40 post K (lGo ak_ZARfi40 0) 0 [some (.inr (.inr (some (.inl 40)))), some (.inl (x)), u2, u3] [] W := by
  obtain ⟨kk__, rfl⟩ : ∃ kk__, K = kk__ + 5 := ⟨K - 5, by omega⟩
  exact (show 40 < n ∧ FieldType.int ∈ jtys ∧ 2 ≤ 2147483647 ∧ zwp jtb (zsR 34 46) n zm_ARfi40 post (kk__ + 0) (lGo ak_ZARfi40 5) 5 [some (.inr (.inr (some (.inl 40)))), some (.inl (x)), some (.inl (0)), some (.inl (2))] [] W from ⟨(Nat.lt_of_lt_of_le (by decide) hn), (by decide), (by decide), h⟩)
set_option maxRecDepth 8000 in
theorem zp_ARfi40_5_r {n K : Nat} {V : zW} {post : zPo} {x i : Int}  (hK : 9 ≤ K) (hn : 46 ≤ n) (h : (2 ≤ i → post none V) ∧ (¬ 2 ≤ i → (0 ≤ i ∧ i < 2) ∧ (-2147483648 ≤ i + 1 ∧ i + 1 ≤ 2147483647) ∧ zwp jtb (zsR 34 46) n zm_ARfi40 post (K - 9) (lGo ak_ZARfi40 5) 5 [some (.inr (.inr (some (.inl 40)))), some (.inl (x)), some (.inl (i + 1)), some (.inl (2))] [] (zuR V 40 i x))) : zwp jtb (zsR 34 46) n zm_ARfi40 post K (lGo ak_ZARfi40 5) 5 [some (.inr (.inr (some (.inl 40)))), some (.inl (x)), some (.inl (i)), some (.inl (2))] [] V := by
  obtain ⟨kk__, rfl⟩ : ∃ kk__, K = kk__ + 9 := ⟨K - 9, by omega⟩
  exact (show (2 ≤ i → 1 = 1 ∧ (none : Option FieldType) = none ∧ post none V) ∧ (¬ 2 ≤ i → 40 < n ∧ FieldType.int = FieldType.int ∧ (0 ≤ i ∧ i < 2) ∧ True ∧ (-2147483648 ≤ i + 1 ∧ i + 1 ≤ 2147483647) ∧ zwp jtb (zsR 34 46) n zm_ARfi40 post (kk__ + 0) (lGo ak_ZARfi40 5) 5 [some (.inr (.inr (some (.inl 40)))), some (.inl (x)), some (.inl (i + 1)), some (.inl (2))] [] (zuR V 40 i x)) from ⟨fun c7_2 => ⟨rfl, rfl, ((h).1 c7_2)⟩, fun c7_2 => ⟨(Nat.lt_of_lt_of_le (by decide) hn), rfl, (((h).2 c7_2)).1, trivial, ⟨((((h).2 c7_2)).2).1, ((((h).2 c7_2)).2).2⟩⟩⟩)
theorem zk_ARfi40_r {l : Launch} {E : jE} {n : Nat} (hn : 46 ≤ n) : zHas l E jcl jtb lw_tbl (zsR 34 46) n (y_AR_fill2, true, 2, 0, { frames := 0, cells := 0, slots := 0, locals := 0 }, zc_ARfi40) := by
  refine ⟨⟨rfl, rfl, ⟨m_AR_fill2, s_AR_fill2⟩⟩, ?_⟩
  rintro vz W po hO hW ⟨x, rfl, hq, hp⟩
  refine zmet (m := zm_ARfi40) rfl (by decide) (fun _ _ => jtF_ok) lo_AR ao_ZARfi40 jC (fun q h => by cases h) (fun q h => by cases h) (fun q h => by cases h) (Nat.le_of_ble_eq_true rfl) hO hW (4000) ?_
  have h5 : ∀ (m K : Nat) (V : zW) (i : Int), 20 * m + 20 ≤ K → (2 - i < m ∧ 0 ≤ i ∧ i ≤ 2) → zFr [] [40] W V → (∀ j, V.2.1 40 j = (if 0 ≤ j ∧ j < i then x else W.2.1 40 j)) → zwp jtb (zsR 34 46) n zm_ARfi40 po K (lGo ak_ZARfi40 5) 5 [some (.inr (.inr (some (.inl 40)))), some (.inl x), some (.inl i), some (.inl 2)] [] V := by
    intro m
    induction m with
    | zero => intro K V i hK hm; omega
    | succ m ih =>
      intro K V i hK hm hF hV
      exact zp_ARfi40_5_r (by omega) hn ⟨fun c7 => (hp _ ⟨hF, fun j => by rw [hV j, show i = 2 by omega]⟩), fun c7 => ⟨(by omega), ⟨(by omega), (ih _ _ (i + 1) (by omega) (by omega) (zFr_R hF List.mem_cons_self) (fun j => by rw [zuR_2]; by_cases c : j = i; (rw [if_pos ⟨rfl, c⟩, if_pos (by omega)]); (rw [if_neg (fun z => c z.2), hV j]; by_cases d : 0 ≤ j ∧ j < i; (rw [if_pos d, if_pos (by omega)]); (rw [if_neg d, if_neg (by omega)]))))⟩⟩⟩
  exact zp_ARfi40_0_r (by omega) hn (h5 3 _ W 0 (by omega) (by omega) zFr_0 (fun j => by rw [if_neg (by omega)]))
set_option maxRecDepth 8000 in
theorem zp_ARfl37_0_r {n K : Nat} {W : zW} {post : zPo} {x : Int64} {u3 u4 : Option zv} (hK : 5 ≤ K) (hn : 46 ≤ n) (h : zwp jtb (zsR 34 46) n zm_ARfl37 post (K - 5) (lGo ak_ZARfl37 6) 6 [some (.inr (.inr (some (.inl 37)))), some (.inr (.inl (x))), none, some (.inl (0)), some (.inl (4))] [] W) : zwp jtb (zsR 34 46) n zm_ARfl37 post K (lGo ak_ZARfl37 0) 0 [some (.inr (.inr (some (.inl 37)))), some (.inr (.inl (x))), none, u3, u4] [] W := by
  obtain ⟨kk__, rfl⟩ : ∃ kk__, K = kk__ + 5 := ⟨K - 5, by omega⟩
  exact (show 37 < n ∧ FieldType.long ∈ jtys ∧ 4 ≤ 2147483647 ∧ zwp jtb (zsR 34 46) n zm_ARfl37 post (kk__ + 0) (lGo ak_ZARfl37 6) 6 [some (.inr (.inr (some (.inl 37)))), some (.inr (.inl (x))), none, some (.inl (0)), some (.inl (4))] [] W from ⟨(Nat.lt_of_lt_of_le (by decide) hn), (by decide), (by decide), h⟩)
set_option maxRecDepth 8000 in
theorem zp_ARfl37_6_r {n K : Nat} {V : zW} {post : zPo} {i : Int} {x : Int64}  (hK : 9 ≤ K) (hn : 46 ≤ n) (h : (4 ≤ i → post none V) ∧ (¬ 4 ≤ i → (0 ≤ i ∧ i < 4) ∧ (-2147483648 ≤ i + 1 ∧ i + 1 ≤ 2147483647) ∧ zwp jtb (zsR 34 46) n zm_ARfl37 post (K - 9) (lGo ak_ZARfl37 6) 6 [some (.inr (.inr (some (.inl 37)))), some (.inr (.inl (x))), none, some (.inl (i + 1)), some (.inl (4))] [] (zuL V 37 i.toNat x))) : zwp jtb (zsR 34 46) n zm_ARfl37 post K (lGo ak_ZARfl37 6) 6 [some (.inr (.inr (some (.inl 37)))), some (.inr (.inl (x))), none, some (.inl (i)), some (.inl (4))] [] V := by
  obtain ⟨kk__, rfl⟩ : ∃ kk__, K = kk__ + 9 := ⟨K - 9, by omega⟩
  exact (show (4 ≤ i → 1 = 1 ∧ (none : Option FieldType) = none ∧ post none V) ∧ (¬ 4 ≤ i → 37 < n ∧ (0 ≤ i ∧ i < 4) ∧ (-2147483648 ≤ i + 1 ∧ i + 1 ≤ 2147483647) ∧ zwp jtb (zsR 34 46) n zm_ARfl37 post (kk__ + 0) (lGo ak_ZARfl37 6) 6 [some (.inr (.inr (some (.inl 37)))), some (.inr (.inl (x))), none, some (.inl (i + 1)), some (.inl (4))] [] (zuL V 37 i.toNat x)) from ⟨fun c9_2 => ⟨rfl, rfl, ((h).1 c9_2)⟩, fun c9_2 => ⟨(Nat.lt_of_lt_of_le (by decide) hn), (((h).2 c9_2)).1, ⟨((((h).2 c9_2)).2).1, ((((h).2 c9_2)).2).2⟩⟩⟩)
theorem zk_ARfl37_r {l : Launch} {E : jE} {n : Nat} (hn : 46 ≤ n) : zHas l E jcl jtb lw_tbl (zsR 34 46) n (y_AR_fill3, true, 2, 0, { frames := 0, cells := 0, slots := 0, locals := 0 }, zc_ARfl37) := by
  refine ⟨⟨rfl, rfl, ⟨m_AR_fill3, s_AR_fill3⟩⟩, ?_⟩
  rintro vz W po hO hW ⟨x, rfl, hq, hp⟩
  refine zmet (m := zm_ARfl37) rfl (by decide) (fun _ _ => jtF_ok) lo_AR ao_ZARfl37 jC (fun q h => by cases h) (fun q h => by cases h) (fun q h => by cases h) (Nat.le_of_ble_eq_true rfl) hO hW (400) ?_
  have h6 : ∀ (m K : Nat) (V : zW) (i : Int), 20 * m + 20 ≤ K → (4 - i < m ∧ 0 ≤ i ∧ i ≤ 4) → zFy [] [] [37] W V → zwp jtb (zsR 34 46) n zm_ARfl37 po K (lGo ak_ZARfl37 6) 6 [some (.inr (.inr (some (.inl 37)))), some (.inr (.inl x)), none, some (.inl i), some (.inl 4)] [] V := by
    intro m
    induction m with
    | zero => intro K V i hK hm; omega
    | succ m ih =>
      intro K V i hK hm hF
      exact zp_ARfl37_6_r (by omega) hn ⟨fun c9 => (hp _ hF), fun c9 => ⟨(by omega), ⟨(by omega), (ih _ _ (i + 1) (by omega) (by omega) (zFy_L hF (by decide)))⟩⟩⟩
  exact zp_ARfl37_0_r (by omega) hn (h6 5 _ W 0 (by omega) (by omega) zFy_0)
set_option maxRecDepth 8000 in
theorem zp_BOclr34_0_r {n K : Nat} {W : zW} {post : zPo}  (hK : 43 ≤ K) (hn : 46 ≤ n) (h : (0 ≤ (0 : Int)) ∧ ∀ W5 : zW, (zFr [] [35] W W5 ∧ ∀ i, W5.2.1 35 i = (if 0 ≤ i ∧ i < 64 then (0 : Int) else W.2.1 35 i)) → (0 ≤ (0 : Int)) ∧ ∀ W13 : zW, (zFr [] [36] W5 W13 ∧ ∀ i, W13.2.1 36 i = (if 0 ≤ i ∧ i < 2 then (0 : Int) else W5.2.1 36 i)) → (True) ∧ ∀ W21 : zW, (zFy [] [] [37] W13 W21) → (0 ≤ (0 : Int)) ∧ ∀ W29 : zW, (zFr [] [38] W21 W29 ∧ ∀ i, W29.2.1 38 i = (if 0 ≤ i ∧ i < 2 then (0 : Int) else W21.2.1 38 i)) → (0 ≤ (0 : Int)) ∧ ∀ W37 : zW, (zFr [] [39] W29 W37 ∧ ∀ i, W37.2.1 39 i = (if 0 ≤ i ∧ i < 16 then (0 : Int) else W29.2.1 39 i)) → (0 ≤ (0 : Int)) ∧ ∀ W45 : zW, (zFr [] [40] W37 W45 ∧ ∀ i, W45.2.1 40 i = (if 0 ≤ i ∧ i < 2 then (0 : Int) else W37.2.1 40 i)) → post none (zuF (zuF (zuF (zuF (zuF (zuF W45 34 2 0) 34 3 0) 34 4 (-1)) 34 5 0) 34 6 1) 34 16 0)) : zwp jtb (zsR 34 46) n zm_BOclr34 post K (lGo ak_ZBOclr34 0) 0 [some (.inr (.inr (some (.inl 34))))] [] W := by
  obtain ⟨kk__, rfl⟩ : ∃ kk__, K = kk__ + 43 := ⟨K - 43, by omega⟩
  exact (show 34 < n ∧ 10 = 10 ∧ 3 = 3 ∧ true = true ∧ jin3 71 648 0 zm_BOclr34.2.2.1.1 = true ∧ lRm zm_BOclr34.2.1 { frames := 0, cells := 0, slots := 0, locals := 0 } 4 = true ∧ Nat.ble 2 2 = true ∧ Nat.ble 0 8 = true ∧ zc_ARfi35 [.inr (.inr (some (.inl 35))), .inl (0)] W (fun vv__ WW__ => zwp jtb (zsR 34 46) n zm_BOclr34 post (kk__ + 39) (lGo ak_ZBOclr34 8) 8 [some (.inr (.inr (some (.inl 34))))] (vv__.toList ++ []) WW__) from ⟨(Nat.lt_of_lt_of_le (by decide) hn), rfl, ⟨rfl, rfl, rfl, rfl, rfl, rfl, 0, rfl, (h).1, fun W5 hr5 => (show 34 < n ∧ 10 = 10 ∧ 3 = 3 ∧ true = true ∧ jin3 71 648 1 zm_BOclr34.2.2.1.1 = true ∧ lRm zm_BOclr34.2.1 { frames := 0, cells := 0, slots := 0, locals := 0 } 4 = true ∧ Nat.ble 2 2 = true ∧ Nat.ble 0 8 = true ∧ zc_ARfi36 [.inr (.inr (some (.inl 36))), .inl (0)] W5 (fun vv__ WW__ => zwp jtb (zsR 34 46) n zm_BOclr34 post (kk__ + 35) (lGo ak_ZBOclr34 16) 16 [some (.inr (.inr (some (.inl 34))))] (vv__.toList ++ []) WW__) from ⟨(Nat.lt_of_lt_of_le (by decide) hn), rfl, ⟨rfl, rfl, rfl, rfl, rfl, rfl, 0, rfl, (((h).2 W5 hr5)).1, fun W13 hr13 => (show 34 < n ∧ 10 = 10 ∧ 3 = 3 ∧ true = true ∧ jin3 74 651 2 zm_BOclr34.2.2.1.1 = true ∧ lRm zm_BOclr34.2.1 { frames := 0, cells := 0, slots := 0, locals := 0 } 5 = true ∧ Nat.ble 2 2 = true ∧ Nat.ble 0 8 = true ∧ zc_ARfl37 [.inr (.inr (some (.inl 37))), .inr (.inl (0))] W13 (fun vv__ WW__ => zwp jtb (zsR 34 46) n zm_BOclr34 post (kk__ + 31) (lGo ak_ZBOclr34 24) 24 [some (.inr (.inr (some (.inl 34))))] (vv__.toList ++ []) WW__) from (have h := ((((h).2 W5 hr5)).2 W13 hr13); ⟨(Nat.lt_of_lt_of_le (by decide) hn), rfl, ⟨rfl, rfl, rfl, rfl, rfl, rfl, 0, rfl, (h).1, fun W21 hr21 => (show 34 < n ∧ 10 = 10 ∧ 3 = 3 ∧ true = true ∧ jin3 71 648 3 zm_BOclr34.2.2.1.1 = true ∧ lRm zm_BOclr34.2.1 { frames := 0, cells := 0, slots := 0, locals := 0 } 4 = true ∧ Nat.ble 2 2 = true ∧ Nat.ble 0 8 = true ∧ zc_ARfi38 [.inr (.inr (some (.inl 38))), .inl (0)] W21 (fun vv__ WW__ => zwp jtb (zsR 34 46) n zm_BOclr34 post (kk__ + 27) (lGo ak_ZBOclr34 32) 32 [some (.inr (.inr (some (.inl 34))))] (vv__.toList ++ []) WW__) from ⟨(Nat.lt_of_lt_of_le (by decide) hn), rfl, ⟨rfl, rfl, rfl, rfl, rfl, rfl, 0, rfl, (((h).2 W21 hr21)).1, fun W29 hr29 => (show 34 < n ∧ 10 = 10 ∧ 3 = 3 ∧ true = true ∧ jin3 71 648 4 zm_BOclr34.2.2.1.1 = true ∧ lRm zm_BOclr34.2.1 { frames := 0, cells := 0, slots := 0, locals := 0 } 4 = true ∧ Nat.ble 2 2 = true ∧ Nat.ble 0 8 = true ∧ zc_ARfi39 [.inr (.inr (some (.inl 39))), .inl (0)] W29 (fun vv__ WW__ => zwp jtb (zsR 34 46) n zm_BOclr34 post (kk__ + 23) (lGo ak_ZBOclr34 40) 40 [some (.inr (.inr (some (.inl 34))))] (vv__.toList ++ []) WW__) from (have h := ((((h).2 W21 hr21)).2 W29 hr29); ⟨(Nat.lt_of_lt_of_le (by decide) hn), rfl, ⟨rfl, rfl, rfl, rfl, rfl, rfl, 0, rfl, (h).1, fun W37 hr37 => (show 34 < n ∧ 10 = 10 ∧ 3 = 3 ∧ true = true ∧ jin3 71 648 5 zm_BOclr34.2.2.1.1 = true ∧ lRm zm_BOclr34.2.1 { frames := 0, cells := 0, slots := 0, locals := 0 } 4 = true ∧ Nat.ble 2 2 = true ∧ Nat.ble 0 8 = true ∧ zc_ARfi40 [.inr (.inr (some (.inl 40))), .inl (0)] W37 (fun vv__ WW__ => zwp jtb (zsR 34 46) n zm_BOclr34 post (kk__ + 19) (lGo ak_ZBOclr34 48) 48 [some (.inr (.inr (some (.inl 34))))] (vv__.toList ++ []) WW__) from ⟨(Nat.lt_of_lt_of_le (by decide) hn), rfl, ⟨rfl, rfl, rfl, rfl, rfl, rfl, 0, rfl, (((h).2 W37 hr37)).1, fun W45 hr45 => (show 34 < n ∧ 10 = 10 ∧ (some 0 : Option Nat) = some 0 ∧ ((0 : Nat) = 0 ∨ ((0 : Nat) = 1 ∧ ((0 : Int) = 0 ∨ (0 : Int) = 1))) ∧ 34 < n ∧ 10 = 10 ∧ (some 0 : Option Nat) = some 0 ∧ ((0 : Nat) = 0 ∨ ((0 : Nat) = 1 ∧ ((0 : Int) = 0 ∨ (0 : Int) = 1))) ∧ 34 < n ∧ 10 = 10 ∧ (some 0 : Option Nat) = some 0 ∧ ((0 : Nat) = 0 ∨ ((0 : Nat) = 1 ∧ ((-1 : Int) = 0 ∨ (-1 : Int) = 1))) ∧ 34 < n ∧ 10 = 10 ∧ (some 0 : Option Nat) = some 0 ∧ ((0 : Nat) = 0 ∨ ((0 : Nat) = 1 ∧ ((0 : Int) = 0 ∨ (0 : Int) = 1))) ∧ 34 < n ∧ 10 = 10 ∧ (some 0 : Option Nat) = some 0 ∧ ((0 : Nat) = 0 ∨ ((0 : Nat) = 1 ∧ ((1 : Int) = 0 ∨ (1 : Int) = 1))) ∧ 34 < n ∧ 10 = 10 ∧ (some 0 : Option Nat) = some 0 ∧ ((0 : Nat) = 0 ∨ ((0 : Nat) = 1 ∧ ((0 : Int) = 0 ∨ (0 : Int) = 1))) ∧ 1 = 1 ∧ (none : Option FieldType) = none ∧ post none (zuF (zuF (zuF (zuF (zuF (zuF W45 34 2 0) 34 3 0) 34 4 (-1)) 34 5 0) 34 6 1) 34 16 0) from (have h := ((((h).2 W37 hr37)).2 W45 hr45); ⟨(Nat.lt_of_lt_of_le (by decide) hn), rfl, rfl, (Or.inl rfl), ⟨(Nat.lt_of_lt_of_le (by decide) hn), rfl, rfl, (Or.inl rfl), ⟨(Nat.lt_of_lt_of_le (by decide) hn), rfl, rfl, (Or.inl rfl), ⟨(Nat.lt_of_lt_of_le (by decide) hn), rfl, rfl, (Or.inl rfl), ⟨(Nat.lt_of_lt_of_le (by decide) hn), rfl, rfl, (Or.inl rfl), ⟨(Nat.lt_of_lt_of_le (by decide) hn), rfl, rfl, (Or.inl rfl), ⟨rfl, rfl, h⟩⟩⟩⟩⟩⟩⟩))⟩⟩)⟩⟩))⟩⟩)⟩⟩))⟩⟩)⟩⟩)
theorem zk_BOclr34_r {l : Launch} {E : jE} {n : Nat} (hn : 46 ≤ n) : zHas l E jcl jtb lw_tbl (zsR 34 46) n (y_BO_clear, false, 1, 10, { frames := 1, cells := 0, slots := 0, locals := 24 }, zc_BOclr34) := by
  refine ⟨⟨rfl, rfl, ⟨show 1 ≤ 1 by decide, m_BO_clear, i_BO_clear, e_BO_clear, fun _ => ⟨_, rfl, rfl⟩⟩⟩, ?_⟩
  rintro vz W po hO hW ⟨rfl, hq, hp⟩
  refine zmet (m := zm_BOclr34) rfl (by decide) (fun _ _ => jtF_ok) lo_BO ao_ZBOclr34 jC (fun q h => by cases h) (aAllc (fun G h => by obtain rfl := Option.some.inj h; exact ql_BO_71) (aAllc (fun G h => by obtain rfl := Option.some.inj h; exact ql_BO_71) (aAllc (fun G h => by obtain rfl := Option.some.inj h; exact ql_BO_74) (aAllc (fun G h => by obtain rfl := Option.some.inj h; exact ql_BO_71) (aAllc (fun G h => by obtain rfl := Option.some.inj h; exact ql_BO_71) (aAllc (fun G h => by obtain rfl := Option.some.inj h; exact ql_BO_71) (fun q h => by cases h))))))) (aAllc (zk_ARfi35_r hn) (aAllc (zk_ARfi36_r hn) (aAllc (zk_ARfl37_r hn) (aAllc (zk_ARfi38_r hn) (aAllc (zk_ARfi39_r hn) (aAllc (zk_ARfi40_r hn) (fun q h => by cases h))))))) (Nat.le_of_ble_eq_true rfl) hO hW (80) ?_
  exact zp_BOclr34_0_r (by omega) hn ⟨(by omega), fun W5 hr5 => ⟨(by omega), fun W13 hr13 => ⟨trivial, fun W21 hr21 => ⟨(by omega), fun W29 hr29 => ⟨(by omega), fun W37 hr37 => ⟨(by omega), fun W45 hr45 => (hp _ ⟨(zFy_F (zFy_F (zFy_F (zFy_F (zFy_F (zFy_F (zFy_t (zFy_t (zFy_t (zFy_t (zFy_t (zFy_t zFy_0 (zFy_w (zFr_x (Ls := []) hr5.1) (fun _ z => by cases z) (by decide) (by decide))) (zFy_w (zFr_x (Ls := []) hr13.1) (fun _ z => by cases z) (by decide) (by decide))) (zFy_w hr21 (fun _ z => by cases z) (by decide) (by decide))) (zFy_w (zFr_x (Ls := []) hr29.1) (fun _ z => by cases z) (by decide) (by decide))) (zFy_w (zFr_x (Ls := []) hr37.1) (fun _ z => by cases z) (by decide) (by decide))) (zFy_w (zFr_x (Ls := []) hr45.1) (fun _ z => by cases z) (by decide) (by decide))) (by decide)) (by decide)) (by decide)) (by decide)) (by decide)) (by decide)), (fun i i0 i1 => by show W45.2.1 35 i = 0; rw [zFr_r hr45.1 35, zFr_r hr37.1 35, zFr_r hr29.1 35, zFy_r hr21 35, zFr_r hr13.1 35, hr5.2 i, if_pos ⟨i0, i1⟩]), (fun i i0 i1 => by show W45.2.1 39 i = 0; rw [zFr_r hr45.1 39, hr37.2 i, if_pos ⟨i0, i1⟩]), rfl, rfl, rfl, rfl, rfl, rfl, (fun c hc => by show W45.2.1 38 c = 0; rw [zFr_r hr45.1 38, zFr_r hr37.1 38, hr29.2 c, if_pos (by omega)])⟩)⟩⟩⟩⟩⟩⟩
set_option maxRecDepth 8000 in
theorem zp_BOsfi34_0_r {n K : Nat} {W : zW} {post : zPo} {u1 : Option zv} (hK : 4 ≤ K) (hn : 46 ≤ n) (h : (True) ∧ ∀ W1 : zW, (zFy [(34, 2), (34, 3), (34, 4), (34, 5), (34, 6), (34, 16)] [35, 36, 38, 39, 40] [37] W W1 ∧ zCb 34 W1) → zwp jtb (zsR 34 46) n zm_BOsfi34 post (K - 4) (lGo ak_ZBOsfi34 6) 6 [some (.inr (.inr (some (.inl 34)))), some (.inl (0))] [] W1) : zwp jtb (zsR 34 46) n zm_BOsfi34 post K (lGo ak_ZBOsfi34 0) 0 [some (.inr (.inr (some (.inl 34)))), u1] [] W := by
  obtain ⟨kk__, rfl⟩ : ∃ kk__, K = kk__ + 4 := ⟨K - 4, by omega⟩
  exact (show 3 = 3 ∧ false = false ∧ jin3 96 644 0 zm_BOsfi34.2.2.1.1 = true ∧ lRm zm_BOsfi34.2.1 { frames := 1, cells := 0, slots := 0, locals := 24 } 1 = true ∧ Nat.ble 1 1 = true ∧ Nat.ble 0 8 = true ∧ 34 < n ∧ 10 = 10 ∧ Nat.ble 1000 10 = false ∧ zc_BOclr34 [.inr (.inr (some (.inl 34)))] W (fun vv__ WW__ => zwp jtb (zsR 34 46) n zm_BOsfi34 post (kk__ + 2) (lGo ak_ZBOsfi34 4) 4 [some (.inr (.inr (some (.inl 34)))), u1] (vv__.toList ++ []) WW__) from ⟨rfl, rfl, rfl, rfl, rfl, rfl, (Nat.lt_of_lt_of_le (by decide) hn), rfl, rfl, rfl, (h).1, fun W1 hr1 => (show zwp jtb (zsR 34 46) n zm_BOsfi34 post (kk__ + 0) (lGo ak_ZBOsfi34 6) 6 [some (.inr (.inr (some (.inl 34)))), some (.inl (0))] [] W1 from ((h).2 W1 hr1))⟩)
set_option maxRecDepth 8000 in
theorem zp_BOsfi34_6_r {n K : Nat} {V : zW} {post : zPo} {f : Int}  (hK : 33 ≤ K) (hn : 46 ≤ n) (h : (8 ≤ f → post none (zuF V 34 3 15)) ∧ (¬ 8 ≤ f → (0 ≤ f ∧ f < 8) ∧ ((0 ≤ f ∧ f < 64) ∧ (0 ≤ ((tv_1.getD f.toNat 0).toInt) ∧ ((tv_1.getD f.toNat 0).toInt) < 16) ∧ (-1000 ≤ V.2.1 39 ((tv_1.getD f.toNat 0).toInt) ∧ V.2.1 39 ((tv_1.getD f.toNat 0).toInt) ≤ 1000)) ∧ ∀ W19 : zW, (zPu 34 V W19 f ((tv_1.getD f.toNat 0).toInt)) → (-2147483648 ≤ 8 + f ∧ 8 + f ≤ 2147483647) ∧ ((0 ≤ (8 + f) ∧ (8 + f) < 64) ∧ (0 ≤ (1 : Int) ∧ (1 : Int) < 16) ∧ (-1000 ≤ W19.2.1 39 (1 : Int) ∧ W19.2.1 39 (1 : Int) ≤ 1000)) ∧ ∀ W28 : zW, (zPu 34 W19 W28 (8 + f) (1 : Int)) → (-2147483648 ≤ 48 + f ∧ 48 + f ≤ 2147483647) ∧ ((0 ≤ (48 + f) ∧ (48 + f) < 64) ∧ (0 ≤ (9 : Int) ∧ (9 : Int) < 16) ∧ (-1000 ≤ W28.2.1 39 (9 : Int) ∧ W28.2.1 39 (9 : Int) ≤ 1000)) ∧ ∀ W38 : zW, (zPu 34 W28 W38 (48 + f) (9 : Int)) → (-2147483648 ≤ 56 + f ∧ 56 + f ≤ 2147483647) ∧ (0 ≤ f ∧ f < 8) ∧ (-2147483648 ≤ 8 + ((tv_1.getD f.toNat 0).toInt) ∧ 8 + ((tv_1.getD f.toNat 0).toInt) ≤ 2147483647) ∧ ((0 ≤ (56 + f) ∧ (56 + f) < 64) ∧ (0 ≤ (8 + ((tv_1.getD f.toNat 0).toInt)) ∧ (8 + ((tv_1.getD f.toNat 0).toInt)) < 16) ∧ (-1000 ≤ W38.2.1 39 (8 + ((tv_1.getD f.toNat 0).toInt)) ∧ W38.2.1 39 (8 + ((tv_1.getD f.toNat 0).toInt)) ≤ 1000)) ∧ ∀ W54 : zW, (zPu 34 W38 W54 (56 + f) (8 + ((tv_1.getD f.toNat 0).toInt))) → (-2147483648 ≤ f + 1 ∧ f + 1 ≤ 2147483647) ∧ zwp jtb (zsR 34 46) n zm_BOsfi34 post (K - 33) (lGo ak_ZBOsfi34 6) 6 [some (.inr (.inr (some (.inl 34)))), some (.inl (f + 1))] [] W54)) : zwp jtb (zsR 34 46) n zm_BOsfi34 post K (lGo ak_ZBOsfi34 6) 6 [some (.inr (.inr (some (.inl 34)))), some (.inl (f))] [] V := by
  obtain ⟨kk__, rfl⟩ : ∃ kk__, K = kk__ + 33 := ⟨K - 33, by omega⟩
  exact (show (8 ≤ f → 34 < n ∧ 10 = 10 ∧ (some 0 : Option Nat) = some 0 ∧ ((0 : Nat) = 0 ∨ ((0 : Nat) = 1 ∧ ((15 : Int) = 0 ∨ (15 : Int) = 1))) ∧ 1 = 1 ∧ (none : Option FieldType) = none ∧ post none (zuF V 34 3 15)) ∧ (¬ 8 ≤ f → FieldType.int = FieldType.int ∧ (0 ≤ f ∧ f < 8) ∧ 3 = 3 ∧ false = false ∧ jin3 102 656 1 zm_BOsfi34.2.2.1.1 = true ∧ lRm zm_BOsfi34.2.1 { frames := 0, cells := 0, slots := 0, locals := 0 } 3 = true ∧ Nat.ble 3 3 = true ∧ Nat.ble 0 8 = true ∧ 34 < n ∧ 10 = 10 ∧ Nat.ble 1000 10 = false ∧ zc_BOput34 [.inr (.inr (some (.inl 34))), .inl (f), .inl ((tv_1.getD f.toNat 0).toInt)] V (fun vv__ WW__ => zwp jtb (zsR 34 46) n zm_BOsfi34 post (kk__ + 24) (lGo ak_ZBOsfi34 22) 22 [some (.inr (.inr (some (.inl 34)))), some (.inl (f))] (vv__.toList ++ []) WW__)) from ⟨fun c9_2 => ⟨(Nat.lt_of_lt_of_le (by decide) hn), rfl, rfl, (Or.inl rfl), ⟨rfl, rfl, ((h).1 c9_2)⟩⟩, fun c9_2 => ⟨rfl, (((h).2 c9_2)).1, ⟨rfl, rfl, rfl, rfl, rfl, rfl, (Nat.lt_of_lt_of_le (by decide) hn), rfl, rfl, f, (tv_1.getD f.toNat 0).toInt, rfl, ((((h).2 c9_2)).2).1, fun W19 hr19 => (show (-2147483648 ≤ 8 + f ∧ 8 + f ≤ 2147483647) ∧ 3 = 3 ∧ false = false ∧ jin3 102 656 1 zm_BOsfi34.2.2.1.1 = true ∧ lRm zm_BOsfi34.2.1 { frames := 0, cells := 0, slots := 0, locals := 0 } 3 = true ∧ Nat.ble 3 3 = true ∧ Nat.ble 0 8 = true ∧ 34 < n ∧ 10 = 10 ∧ Nat.ble 1000 10 = false ∧ zc_BOput34 [.inr (.inr (some (.inl 34))), .inl (8 + f), .inl (1)] W19 (fun vv__ WW__ => zwp jtb (zsR 34 46) n zm_BOsfi34 post (kk__ + 18) (lGo ak_ZBOsfi34 31) 31 [some (.inr (.inr (some (.inl 34)))), some (.inl (f))] (vv__.toList ++ []) WW__) from (have h := (((((h).2 c9_2)).2).2 W19 hr19); ⟨(h).1, ⟨rfl, rfl, rfl, rfl, rfl, rfl, (Nat.lt_of_lt_of_le (by decide) hn), rfl, rfl, 8 + f, 1, rfl, ((h).2).1, fun W28 hr28 => (show (-2147483648 ≤ 48 + f ∧ 48 + f ≤ 2147483647) ∧ 3 = 3 ∧ false = false ∧ jin3 102 656 1 zm_BOsfi34.2.2.1.1 = true ∧ lRm zm_BOsfi34.2.1 { frames := 0, cells := 0, slots := 0, locals := 0 } 3 = true ∧ Nat.ble 3 3 = true ∧ Nat.ble 0 8 = true ∧ 34 < n ∧ 10 = 10 ∧ Nat.ble 1000 10 = false ∧ zc_BOput34 [.inr (.inr (some (.inl 34))), .inl (48 + f), .inl (9)] W28 (fun vv__ WW__ => zwp jtb (zsR 34 46) n zm_BOsfi34 post (kk__ + 12) (lGo ak_ZBOsfi34 41) 41 [some (.inr (.inr (some (.inl 34)))), some (.inl (f))] (vv__.toList ++ []) WW__) from ⟨((((h).2).2 W28 hr28)).1, ⟨rfl, rfl, rfl, rfl, rfl, rfl, (Nat.lt_of_lt_of_le (by decide) hn), rfl, rfl, 48 + f, 9, rfl, (((((h).2).2 W28 hr28)).2).1, fun W38 hr38 => (show (-2147483648 ≤ 56 + f ∧ 56 + f ≤ 2147483647) ∧ FieldType.int = FieldType.int ∧ (0 ≤ f ∧ f < 8) ∧ (-2147483648 ≤ 8 + ((tv_1.getD f.toNat 0).toInt) ∧ 8 + ((tv_1.getD f.toNat 0).toInt) ≤ 2147483647) ∧ 3 = 3 ∧ false = false ∧ jin3 102 656 1 zm_BOsfi34.2.2.1.1 = true ∧ lRm zm_BOsfi34.2.1 { frames := 0, cells := 0, slots := 0, locals := 0 } 3 = true ∧ Nat.ble 3 3 = true ∧ Nat.ble 0 8 = true ∧ 34 < n ∧ 10 = 10 ∧ Nat.ble 1000 10 = false ∧ zc_BOput34 [.inr (.inr (some (.inl 34))), .inl (56 + f), .inl (8 + ((tv_1.getD f.toNat 0).toInt))] W38 (fun vv__ WW__ => zwp jtb (zsR 34 46) n zm_BOsfi34 post (kk__ + 2) (lGo ak_ZBOsfi34 57) 57 [some (.inr (.inr (some (.inl 34)))), some (.inl (f))] (vv__.toList ++ []) WW__) from (have h := ((((((h).2).2 W28 hr28)).2).2 W38 hr38); ⟨(h).1, ⟨rfl, ((h).2).1, ⟨(((h).2).2).1, ⟨rfl, rfl, rfl, rfl, rfl, rfl, (Nat.lt_of_lt_of_le (by decide) hn), rfl, rfl, 56 + f, 8 + ((tv_1.getD f.toNat 0).toInt), rfl, ((((h).2).2).2).1, fun W54 hr54 => (show (-2147483648 ≤ f + 1 ∧ f + 1 ≤ 2147483647) ∧ zwp jtb (zsR 34 46) n zm_BOsfi34 post (kk__ + 0) (lGo ak_ZBOsfi34 6) 6 [some (.inr (.inr (some (.inl 34)))), some (.inl (f + 1))] [] W54 from (have h := (((((h).2).2).2).2 W54 hr54); ⟨(h).1, (h).2⟩))⟩⟩⟩⟩))⟩⟩)⟩⟩))⟩⟩⟩)
theorem zk_BOsfi34_r {l : Launch} {E : jE} {n : Nat} (hn : 46 ≤ n) : zHas l E jcl jtb lw_tbl (zsR 34 46) n (y_BO_setFirst, false, 1, 10, { frames := 2, cells := 0, slots := 0, locals := 44 }, zc_BOsfi34) := by
  refine ⟨⟨rfl, rfl, ⟨show 1 ≤ 1 by decide, m_BO_setFirst, i_BO_setFirst, e_BO_setFirst, fun _ => ⟨_, rfl, rfl⟩⟩⟩, ?_⟩
  rintro vz W po hO hW ⟨rfl, hq, hp⟩
  refine zmet (m := zm_BOsfi34) rfl (by decide) (fun _ _ => jtF_ok) lo_BO ao_ZBOsfi34 jC (fun q h => by cases h) (aAllc (fun G h => by obtain rfl := Option.some.inj h; exact ql_BO_96) (aAllc (fun G h => by obtain rfl := Option.some.inj h; exact ql_BO_102) (fun q h => by cases h))) (aAllc (zk_BOclr34_r hn) (aAllc (zk_BOput34_r hn) (fun q h => by cases h))) (Nat.le_of_ble_eq_true rfl) hO hW (1200) ?_
  have h6 : ∀ W1 : zW, zFy [(34, 2), (34, 3), (34, 4), (34, 5), (34, 6), (34, 16)] [35, 36, 38, 39, 40] [37] W W1 → zCb 34 W1 → ∀ (m K : Nat) (V : zW) (f : Int), 90 * m + 60 ≤ K → (8 - f < m ∧ 0 ≤ f ∧ f ≤ 8) → zMs 34 W1 V (cFi f) → zwp jtb (zsR 34 46) n zm_BOsfi34 po K (lGo ak_ZBOsfi34 6) 6 [some (.inr (.inr (some (.inl 34)))), some (.inl f)] [] V := by
    intro W1 hF1 hC m
    induction m with
    | zero => intro K V f hK hm; omega
    | succ m ih =>
      intro K V f hK hm hV
      have fin : 8 ≤ f → zFy [(34, 2), (34, 3), (34, 4), (34, 5), (34, 6), (34, 16)] [35, 36, 38, 39, 40] [37] W (zuF V 34 3 15) ∧ zBo (zuF V 34 3 15) 34 (uM, 0, 15, -1) ∧ (zuF V 34 3 15).1 34 5 = 0 ∧ (zuF V 34 3 15).1 34 6 = 1 ∧ (zuF V 34 3 15).1 34 16 = 0 := by
        intro z
        have hF : zFy [(34, 2), (34, 3), (34, 4), (34, 5), (34, 6), (34, 16)] [35, 36, 38, 39, 40] [37] W V := zFy_t hF1 (zFy_w hV.1 (fun _ z => by cases z) (fun _ z => z) (fun _ z => z))
        refine ⟨zFy_F hF (by decide), ⟨zBt_x hq.1 (zFy_r hF 42) (zFy_r hF 43), fun s s0 s1 => ?_, (zFy_f hV.1 34 2).trans hC.2.2.1, rfl, (zFy_f hV.1 34 4).trans hC.2.2.2.2.1, hV.2.2⟩, (zFy_f hV.1 34 5).trans hC.2.2.2.2.2.1, (zFy_f hV.1 34 6).trans hC.2.2.2.2.2.2.1, (zFy_f hV.1 34 16).trans hC.2.2.2.2.2.2.2.1⟩
        refine (hV.2.1 s s0 s1).trans ?_
        unfold cFi
        rw [if_pos (by omega)]
      have eF : f < 8 → (tv_1.getD f.toNat 0).toInt = uB f := fun z => cT1 ⟨hm.2.1, z⟩
      have rF := uB_q (f := f)
      have c0 : ∀ j : Int, j % 8 = f → cFi f j = 0 := fun j z => by unfold cFi; rw [if_neg (by omega)]
      by_cases f8 : f < 8
      · have eF := eF f8
        have p1 : ∀ U : zW, zPu 34 V U f (tv_1.getD f.toNat 0).toInt → zMs 34 W1 U (fun j => if j = f then (tv_1.getD f.toNat 0).toInt else cFi f j) := fun U h => zMs_p hV h (by omega) (c0 f (by omega)) (by omega) (fun z j j0 j1 e => (cFi_k ⟨hm.2.1, f8⟩ j0 j1 (by omega)).1 (by omega))
        have p2 : ∀ U X : zW, zPu 34 V U f (tv_1.getD f.toNat 0).toInt → zPu 34 U X (8 + f) 1 → zMs 34 W1 X (fun j => if j = 8 + f then 1 else if j = f then (tv_1.getD f.toNat 0).toInt else cFi f j) := fun U X h h2 => zMs_p (p1 U h) h2 (by omega) (by show (if 8 + f = f then (tv_1.getD f.toNat 0).toInt else cFi f (8 + f)) = 0; rw [if_neg (by omega)]; exact c0 _ (by omega)) (by omega) (fun z => by omega)
        have p3 : ∀ U X Y : zW, zPu 34 V U f (tv_1.getD f.toNat 0).toInt → zPu 34 U X (8 + f) 1 → zPu 34 X Y (48 + f) 9 → zMs 34 W1 Y (fun j => if j = 48 + f then 9 else if j = 8 + f then 1 else if j = f then (tv_1.getD f.toNat 0).toInt else cFi f j) := fun U X Y h h2 h3 => zMs_p (p2 U X h h2) h3 (by omega) (by show (if 48 + f = 8 + f then 1 else if 48 + f = f then (tv_1.getD f.toNat 0).toInt else cFi f (48 + f)) = 0; rw [if_neg (by omega), if_neg (by omega)]; exact c0 _ (by omega)) (by omega) (fun z => by omega)
        have p4 : ∀ U X Y T : zW, zPu 34 V U f (tv_1.getD f.toNat 0).toInt → zPu 34 U X (8 + f) 1 → zPu 34 X Y (48 + f) 9 → zPu 34 Y T (56 + f) (8 + (tv_1.getD f.toNat 0).toInt) → zMs 34 W1 T (cFi (f + 1)) := by
          intro U X Y T h h2 h3 h4
          refine zMs_c (zMs_p (p3 U X Y h h2 h3) h4 (by omega) ?_ (by omega) (fun z j j0 j1 e => ?_)) (fun j j0 j1 => ?_)
          · show (if 56 + f = 48 + f then 9 else if 56 + f = 8 + f then 1 else if 56 + f = f then (tv_1.getD f.toNat 0).toInt else cFi f (56 + f)) = 0
            rw [if_neg (by omega), if_neg (by omega), if_neg (by omega)]; exact c0 _ (by omega)
          · have u6 : uB f = 6 := by omega
            have k := (cFi_k ⟨hm.2.1, f8⟩ j0 j1 u6).2
            by_cases d1 : j = 48 + f
            · rw [if_pos d1] at e; omega
            · rw [if_neg d1] at e
              by_cases d2 : j = 8 + f
              · rw [if_pos d2] at e; omega
              · rw [if_neg d2] at e
                by_cases d3 : j = f
                · rw [if_pos d3] at e; omega
                · rw [if_neg d3] at e; exact k (by omega)
          · rw [eF]
            exact cFi_s ⟨hm.2.1, f8⟩ j0 j1
        exact zp_BOsfi34_6_r (by omega) hn ⟨fun c9 => (hp _ (fin (by omega))), fun c9 => ⟨(by omega), ⟨⟨by omega, by omega, zMs_n hV (by omega)⟩, fun W19 hr19 => ⟨(by omega), ⟨⟨by omega, by omega, zMs_n (p1 _ hr19) (by omega)⟩, fun W28 hr28 => ⟨(by omega), ⟨⟨by omega, by omega, zMs_n (p2 _ _ hr19 hr28) (by omega)⟩, fun W38 hr38 => ⟨(by omega), ⟨(by omega), ⟨(by omega), ⟨⟨by omega, by omega, zMs_n (p3 _ _ _ hr19 hr28 hr38) (by omega)⟩, fun W54 hr54 => ⟨(by omega), (ih _ _ (f + 1) (by omega) (by omega) (p4 _ _ _ _ hr19 hr28 hr38 hr54))⟩⟩⟩⟩⟩⟩⟩⟩⟩⟩⟩⟩
      · exact zp_BOsfi34_6_r (by omega) hn ⟨fun c9 => (hp _ (fin (by omega))), fun z => absurd z (by omega)⟩
  exact zp_BOsfi34_0_r (by omega) hn ⟨trivial, fun W1 hr1 => (h6 W1 hr1.1 hr1.2 9 _ W1 0 (by omega) (by omega) ⟨zFy_0, fun s s0 s1 => by rw [hr1.2.1 s s0 s1]; unfold cFi; rw [if_neg (by omega)], zCb_i hr1.2 (fun i i0 i1 => by show 0 ≤ W1.2.1 41 i ∧ W1.2.1 41 i ≤ 1100; rw [zFy_r hr1.1 41]; exact hq.2 i i0 i1)⟩)⟩
end
section
/-! copies over the places 61 .. 73 alone -/
set_option maxRecDepth 8000 in
theorem zp_BOput61_0_r {n K : Nat} {W : zW} {post : zPo} {s m : Int}  (hK : 68 ≤ K) (hn : 73 ≤ n) (h : (0 ≤ s ∧ s < 64) ∧ (-2147483648 ≤ s ∧ s ≤ 2147483647) ∧ ∀ t0 : Int, t0 = s / 16 → (0 ≤ t0 ∧ t0 < 4) ∧ (0 ≤ s ∧ s ≤ 2147483647) ∧ ∀ t1 : Int, t1 = s % 16 → (0 ≤ t1 ∧ t1 * 4 ≤ 2147483647) ∧ ∀ t2 : Int, t2 = t1 * 4 → (0 ≤ t0 ∧ t0 < 4) ∧ (-2147483648 ≤ m ∧ m ≤ 2147483647) ∧ ∀ t3 : Int, t3 = m / 8 → (0 ≤ t3 ∧ t3 < 2) ∧ (0 ≤ m ∧ m * 64 ≤ 2147483647) ∧ ∀ t4 : Int, t4 = m * 64 → (0 ≤ t4 ∧ t4 ≤ 2147483647 ∧ t4 % 64 = 0 ∧ 0 ≤ s ∧ s < 64) ∧ ∀ t5 : Int, t5 = t4 + s → (0 ≤ t5 ∧ t5 < 1024) ∧ (0 ≤ t3 ∧ t3 < 2) ∧ (0 ≤ m ∧ m < 16) ∧ (-2147483648 ≤ (W.2.1 66 m) + 1 ∧ (W.2.1 66 m) + 1 ≤ 2147483647) ∧ (0 ≤ m ∧ m < 16) ∧ (0 ≤ m ∧ m ≤ 2147483647) ∧ ∀ t6 : Int, t6 = m % 8 → (¬ t6 = 3 → (0 ≤ m ∧ m ≤ 2147483647) ∧ ∀ t7 : Int, t7 = m % 8 → (¬ t7 = 6 → post none (zuR (zuR (zuL (zuR W 62 s m) 64 t0.toNat (((zuR W 62 s m).2.2.1 64 t0.toNat) ^^^ (((lI m).toInt64) <<< ((lI t2).toInt64 &&& 63)))) 65 t3 ((lI (W.2.1 65 t3) + lI (W.2.1 68 t5)).toInt)) 66 m ((W.2.1 66 m) + 1))) ∧ (t7 = 6 → (-2147483648 ≤ m ∧ m ≤ 2147483647) ∧ ∀ t8 : Int, t8 = m / 8 → (0 ≤ t8 ∧ t8 < 2) ∧ post none (zuR (zuR (zuR (zuL (zuR W 62 s m) 64 t0.toNat (((zuR W 62 s m).2.2.1 64 t0.toNat) ^^^ (((lI m).toInt64) <<< ((lI t2).toInt64 &&& 63)))) 65 t3 ((lI (W.2.1 65 t3) + lI (W.2.1 68 t5)).toInt)) 66 m ((W.2.1 66 m) + 1)) 63 t8 s))) ∧ (t6 = 3 → (-2147483648 ≤ s ∧ s ≤ 2147483647) ∧ ∀ t9 : Int, t9 = s / 8 → (0 ≤ ((lI s ^^^ lI t9).toInt) ∧ ((lI s ^^^ lI t9).toInt) ≤ 2147483647) ∧ ∀ t10 : Int, t10 = ((lI s ^^^ lI t9).toInt) % 2 → (0 ≤ t10 ∧ t10 < 2) ∧ (0 ≤ t10 ∧ t10 < 2) ∧ post none (zuR (zuR (zuR (zuL (zuR W 62 s m) 64 t0.toNat (((zuR W 62 s m).2.2.1 64 t0.toNat) ^^^ (((lI m).toInt64) <<< ((lI t2).toInt64 &&& 63)))) 65 t3 ((lI (W.2.1 65 t3) + lI (W.2.1 68 t5)).toInt)) 66 m ((W.2.1 66 m) + 1)) 67 t10 ((lI (W.2.1 67 t10) + lI 1).toInt)))) : zwp jtb (zsR 61 73) n zm_BOput61 post K (lGo ak_ZBOput61 0) 0 [some (.inr (.inr (some (.inl 61)))), some (.inl (s)), some (.inl (m))] [] W := by
  obtain ⟨kk__, rfl⟩ : ∃ kk__, K = kk__ + 68 := ⟨K - 68, by omega⟩
  exact (show 61 < n ∧ 10 = 10 ∧ 62 < n ∧ FieldType.int = FieldType.int ∧ (0 ≤ s ∧ s < 64) ∧ True ∧ 61 < n ∧ 10 = 10 ∧ 64 < n ∧ (0 ≤ ((lI s >>> (lI 4 &&& 31)).toInt) ∧ ((lI s >>> (lI 4 &&& 31)).toInt) < 4) ∧ 64 < n ∧ (0 ≤ ((lI s >>> (lI 4 &&& 31)).toInt) ∧ ((lI s >>> (lI 4 &&& 31)).toInt) < 4) ∧ 61 < n ∧ 10 = 10 ∧ 65 < n ∧ FieldType.int = FieldType.int ∧ (0 ≤ ((lI m >>> (lI 3 &&& 31)).toInt) ∧ ((lI m >>> (lI 3 &&& 31)).toInt) < 2) ∧ 61 < n ∧ 10 = 10 ∧ 68 < n ∧ FieldType.int = FieldType.int ∧ (0 ≤ ((lI ((lI m <<< (lI 6 &&& 31)).toInt) ||| lI s).toInt) ∧ ((lI ((lI m <<< (lI 6 &&& 31)).toInt) ||| lI s).toInt) < 1024) ∧ 65 < n ∧ FieldType.int = FieldType.int ∧ (0 ≤ ((lI m >>> (lI 3 &&& 31)).toInt) ∧ ((lI m >>> (lI 3 &&& 31)).toInt) < 2) ∧ True ∧ 61 < n ∧ 10 = 10 ∧ 66 < n ∧ FieldType.int = FieldType.int ∧ (0 ≤ m ∧ m < 16) ∧ (-2147483648 ≤ (W.2.1 66 m) + 1 ∧ (W.2.1 66 m) + 1 ≤ 2147483647) ∧ 66 < n ∧ FieldType.int = FieldType.int ∧ (0 ≤ m ∧ m < 16) ∧ True ∧ (¬ ((lI m &&& lI 7).toInt) = 3 → (¬ ((lI m &&& lI 7).toInt) = 6 → 1 = 1 ∧ (none : Option FieldType) = none ∧ post none (zuR (zuR (zuL (zuR W 62 s m) 64 ((lI s >>> (lI 4 &&& 31)).toInt).toNat (((zuR W 62 s m).2.2.1 64 ((lI s >>> (lI 4 &&& 31)).toInt).toNat) ^^^ (((lI m).toInt64) <<< ((lI ((lI ((lI s &&& lI 15).toInt) <<< (lI 2 &&& 31)).toInt)).toInt64 &&& 63)))) 65 ((lI m >>> (lI 3 &&& 31)).toInt) ((lI (W.2.1 65 ((lI m >>> (lI 3 &&& 31)).toInt)) + lI (W.2.1 68 ((lI ((lI m <<< (lI 6 &&& 31)).toInt) ||| lI s).toInt))).toInt)) 66 m ((W.2.1 66 m) + 1))) ∧ (((lI m &&& lI 7).toInt) = 6 → 61 < n ∧ 10 = 10 ∧ 63 < n ∧ FieldType.int = FieldType.int ∧ (0 ≤ ((lI m >>> (lI 3 &&& 31)).toInt) ∧ ((lI m >>> (lI 3 &&& 31)).toInt) < 2) ∧ True ∧ 1 = 1 ∧ (none : Option FieldType) = none ∧ post none (zuR (zuR (zuR (zuL (zuR W 62 s m) 64 ((lI s >>> (lI 4 &&& 31)).toInt).toNat (((zuR W 62 s m).2.2.1 64 ((lI s >>> (lI 4 &&& 31)).toInt).toNat) ^^^ (((lI m).toInt64) <<< ((lI ((lI ((lI s &&& lI 15).toInt) <<< (lI 2 &&& 31)).toInt)).toInt64 &&& 63)))) 65 ((lI m >>> (lI 3 &&& 31)).toInt) ((lI (W.2.1 65 ((lI m >>> (lI 3 &&& 31)).toInt)) + lI (W.2.1 68 ((lI ((lI m <<< (lI 6 &&& 31)).toInt) ||| lI s).toInt))).toInt)) 66 m ((W.2.1 66 m) + 1)) 63 ((lI m >>> (lI 3 &&& 31)).toInt) s))) ∧ (((lI m &&& lI 7).toInt) = 3 → 61 < n ∧ 10 = 10 ∧ 67 < n ∧ FieldType.int = FieldType.int ∧ (0 ≤ ((lI ((lI s ^^^ lI ((lI s >>> (lI 3 &&& 31)).toInt)).toInt) &&& lI 1).toInt) ∧ ((lI ((lI s ^^^ lI ((lI s >>> (lI 3 &&& 31)).toInt)).toInt) &&& lI 1).toInt) < 2) ∧ 67 < n ∧ FieldType.int = FieldType.int ∧ (0 ≤ ((lI ((lI s ^^^ lI ((lI s >>> (lI 3 &&& 31)).toInt)).toInt) &&& lI 1).toInt) ∧ ((lI ((lI s ^^^ lI ((lI s >>> (lI 3 &&& 31)).toInt)).toInt) &&& lI 1).toInt) < 2) ∧ True ∧ 1 = 1 ∧ (none : Option FieldType) = none ∧ post none (zuR (zuR (zuR (zuL (zuR W 62 s m) 64 ((lI s >>> (lI 4 &&& 31)).toInt).toNat (((zuR W 62 s m).2.2.1 64 ((lI s >>> (lI 4 &&& 31)).toInt).toNat) ^^^ (((lI m).toInt64) <<< ((lI ((lI ((lI s &&& lI 15).toInt) <<< (lI 2 &&& 31)).toInt)).toInt64 &&& 63)))) 65 ((lI m >>> (lI 3 &&& 31)).toInt) ((lI (W.2.1 65 ((lI m >>> (lI 3 &&& 31)).toInt)) + lI (W.2.1 68 ((lI ((lI m <<< (lI 6 &&& 31)).toInt) ||| lI s).toInt))).toInt)) 66 m ((W.2.1 66 m) + 1)) 67 ((lI ((lI s ^^^ lI ((lI s >>> (lI 3 &&& 31)).toInt)).toInt) &&& lI 1).toInt) ((lI (W.2.1 67 ((lI ((lI s ^^^ lI ((lI s >>> (lI 3 &&& 31)).toInt)).toInt) &&& lI 1).toInt)) + lI 1).toInt))) from ⟨(Nat.lt_of_lt_of_le (by decide) hn), rfl, ⟨(Nat.lt_of_lt_of_le (by decide) hn), rfl, (h).1, trivial, ⟨(Nat.lt_of_lt_of_le (by decide) hn), rfl, (have h := (((h).2).2 _ (z_sr4 ((h).2).1)); ⟨(Nat.lt_of_lt_of_le (by decide) hn), (h).1, (have h := (((h).2).2 _ (z_an15 ((h).2).1)); ⟨(Nat.lt_of_lt_of_le (by decide) hn), (((h).2 _ (z_sl2 (h).1))).1, (have h := (((h).2 _ (z_sl2 (h).1))).2; ⟨(Nat.lt_of_lt_of_le (by decide) hn), rfl, ⟨(Nat.lt_of_lt_of_le (by decide) hn), rfl, (((h).2 _ (z_sr3 (h).1))).1, (have h := (((h).2 _ (z_sr3 (h).1))).2; ⟨(Nat.lt_of_lt_of_le (by decide) hn), rfl, (have h := ((((h).2 _ (z_sl6 (h).1))).2 _ (z_or6 (((h).2 _ (z_sl6 (h).1))).1)); ⟨(Nat.lt_of_lt_of_le (by decide) hn), rfl, (h).1, ⟨(Nat.lt_of_lt_of_le (by decide) hn), rfl, ((h).2).1, trivial, ⟨(Nat.lt_of_lt_of_le (by decide) hn), rfl, ⟨(Nat.lt_of_lt_of_le (by decide) hn), rfl, (((h).2).2).1, ⟨((((h).2).2).2).1, ⟨(Nat.lt_of_lt_of_le (by decide) hn), rfl, (((((h).2).2).2).2).1, trivial, (have h := (((((((h).2).2).2).2).2).2 _ (z_an7 ((((((h).2).2).2).2).2).1)); ⟨fun c64_51 => (have h := ((((h).1 c64_51)).2 _ (z_an7 (((h).1 c64_51)).1)); ⟨fun c92_56 => ⟨rfl, rfl, ((h).1 c92_56)⟩, fun c92_56 => ⟨(Nat.lt_of_lt_of_le (by decide) hn), rfl, (have h := ((((h).2 c92_56)).2 _ (z_sr3 (((h).2 c92_56)).1)); ⟨(Nat.lt_of_lt_of_le (by decide) hn), rfl, (h).1, trivial, ⟨rfl, rfl, (h).2⟩⟩)⟩⟩), fun c64_51 => ⟨(Nat.lt_of_lt_of_le (by decide) hn), rfl, (have h := ((((h).2 c64_51)).2 _ (z_sr3 (((h).2 c64_51)).1)); ⟨(Nat.lt_of_lt_of_le (by decide) hn), rfl, (((h).2 _ (z_an1 (h).1))).1, (have h := (((h).2 _ (z_an1 (h).1))).2; ⟨(Nat.lt_of_lt_of_le (by decide) hn), rfl, (h).1, trivial, ⟨rfl, rfl, (h).2⟩⟩)⟩)⟩⟩)⟩⟩⟩⟩⟩⟩)⟩)⟩⟩)⟩)⟩)⟩⟩⟩)
theorem zk_BOput61_r {l : Launch} {E : jE} {n : Nat} (hn : 73 ≤ n) : zHas l E jcl jtb lw_tbl (zsR 61 73) n (y_BO_put, false, 3, 10, { frames := 0, cells := 0, slots := 0, locals := 0 }, zc_BOput61) := by
  refine ⟨⟨rfl, rfl, ⟨show 1 ≤ 3 by decide, m_BO_put, i_BO_put, e_BO_put, fun _ => ⟨_, rfl, rfl⟩⟩⟩, ?_⟩
  rintro vz W po hO hW ⟨s, m, rfl, hq, hp⟩
  refine zmet (m := zm_BOput61) rfl (by decide) (fun _ _ => jtF_ok) lo_BO ao_ZBOput61 jC (fun q h => by cases h) (fun q h => by cases h) (fun q h => by cases h) (Nat.le_of_ble_eq_true rfl) hO hW (120) ?_
  obtain ⟨hs, hm, hc⟩ := hq
  exact zp_BOput61_0_r (by omega) hn ⟨(by omega), ⟨(by omega), fun t0 e0 => ⟨(by omega), ⟨(by omega), fun t1 e1 => ⟨(by omega), fun t2 e2 => ⟨(by omega), ⟨(by omega), fun t3 e3 => ⟨(by omega), ⟨(by omega), fun t4 e4 => ⟨(by omega), fun t5 e5 => ⟨(by omega), ⟨(by omega), ⟨(by omega), ⟨(by omega), ⟨(by omega), ⟨(by omega), fun t6 e6 => ⟨fun c64 => ⟨(by omega), fun t7 e7 => ⟨fun c92 => (hp _ ⟨(zFy_R (zFy_R (zFy_L (zFy_R zFy_0 (by decide)) (by decide)) (by decide)) (by decide)), by first | rfl | (rw [if_neg (by omega)]; rfl) | (rw [if_pos (by omega), ← e8]; rfl), by first | rfl | (rw [if_neg (by omega)]; rfl) | (rw [if_pos (by omega), ← e8]; rfl), by first | rfl | (rw [if_neg (by omega)]; rfl) | (rw [if_pos (by omega), ← e8]; rfl), by rw [show 64 * m + s = t5 by omega, show m / 8 = t3 by omega]; rfl⟩), fun c92 => ⟨(by omega), fun t8 e8 => ⟨(by omega), (hp _ ⟨(zFy_R (zFy_R (zFy_R (zFy_L (zFy_R zFy_0 (by decide)) (by decide)) (by decide)) (by decide)) (by decide)), by first | rfl | (rw [if_neg (by omega)]; rfl) | (rw [if_pos (by omega), ← e8]; rfl), by first | rfl | (rw [if_neg (by omega)]; rfl) | (rw [if_pos (by omega), ← e8]; rfl), by first | rfl | (rw [if_neg (by omega)]; rfl) | (rw [if_pos (by omega), ← e8]; rfl), by rw [show 64 * m + s = t5 by omega, show m / 8 = t3 by omega]; rfl⟩)⟩⟩⟩⟩, fun c64 => ⟨(by omega), fun t9 e9 => ⟨(cx3 (by omega)), fun t10 e10 => ⟨(by omega), ⟨(by omega), (hp _ ⟨(zFy_R (zFy_R (zFy_R (zFy_L (zFy_R zFy_0 (by decide)) (by decide)) (by decide)) (by decide)) (by decide)), by first | rfl | (rw [if_neg (by omega)]; rfl) | (rw [if_pos (by omega), ← e8]; rfl), by first | rfl | (rw [if_neg (by omega)]; rfl) | (rw [if_pos (by omega), ← e8]; rfl), by first | rfl | (rw [if_neg (by omega)]; rfl) | (rw [if_pos (by omega), ← e8]; rfl), by rw [show 64 * m + s = t5 by omega, show m / 8 = t3 by omega]; rfl⟩)⟩⟩⟩⟩⟩⟩⟩⟩⟩⟩⟩⟩⟩⟩⟩⟩⟩⟩⟩⟩⟩
set_option maxRecDepth 8000 in
theorem zp_ARfi62_0_r {n K : Nat} {W : zW} {post : zPo} {x : Int} {u2 u3 : Option zv} (hK : 5 ≤ K) (hn : 73 ≤ n) (h : zwp jtb (zsR 61 73) n zm_ARfi62 post (K - 5) (lGo ak_ZARfi62 5) 5 [some (.inr (.inr (some (.inl 62)))), some (.inl (x)), some (.inl (0)), some (.inl (64))] [] W) : zwp jtb (zsR 61 73) n zm_ARfi62 post K (lGo ak_ZARfi62 0) 0 [some (.inr (.inr (some (.inl 62)))), some (.inl (x)), u2, u3] [] W := by
  obtain ⟨kk__, rfl⟩ : ∃ kk__, K = kk__ + 5 := ⟨K - 5, by omega⟩
  exact (show 62 < n ∧ FieldType.int ∈ jtys ∧ 64 ≤ 2147483647 ∧ zwp jtb (zsR 61 73) n zm_ARfi62 post (kk__ + 0) (lGo ak_ZARfi62 5) 5 [some (.inr (.inr (some (.inl 62)))), some (.inl (x)), some (.inl (0)), some (.inl (64))] [] W from ⟨(Nat.lt_of_lt_of_le (by decide) hn), (by decide), (by decide), h⟩)
set_option maxRecDepth 8000 in
theorem zp_ARfi62_5_r {n K : Nat} {V : zW} {post : zPo} {x i : Int}  (hK : 9 ≤ K) (hn : 73 ≤ n) (h : (64 ≤ i → post none V) ∧ (¬ 64 ≤ i → (0 ≤ i ∧ i < 64) ∧ (-2147483648 ≤ i + 1 ∧ i + 1 ≤ 2147483647) ∧ zwp jtb (zsR 61 73) n zm_ARfi62 post (K - 9) (lGo ak_ZARfi62 5) 5 [some (.inr (.inr (some (.inl 62)))), some (.inl (x)), some (.inl (i + 1)), some (.inl (64))] [] (zuR V 62 i x))) : zwp jtb (zsR 61 73) n zm_ARfi62 post K (lGo ak_ZARfi62 5) 5 [some (.inr (.inr (some (.inl 62)))), some (.inl (x)), some (.inl (i)), some (.inl (64))] [] V := by
  obtain ⟨kk__, rfl⟩ : ∃ kk__, K = kk__ + 9 := ⟨K - 9, by omega⟩
  exact (show (64 ≤ i → 1 = 1 ∧ (none : Option FieldType) = none ∧ post none V) ∧ (¬ 64 ≤ i → 62 < n ∧ FieldType.int = FieldType.int ∧ (0 ≤ i ∧ i < 64) ∧ True ∧ (-2147483648 ≤ i + 1 ∧ i + 1 ≤ 2147483647) ∧ zwp jtb (zsR 61 73) n zm_ARfi62 post (kk__ + 0) (lGo ak_ZARfi62 5) 5 [some (.inr (.inr (some (.inl 62)))), some (.inl (x)), some (.inl (i + 1)), some (.inl (64))] [] (zuR V 62 i x)) from ⟨fun c7_2 => ⟨rfl, rfl, ((h).1 c7_2)⟩, fun c7_2 => ⟨(Nat.lt_of_lt_of_le (by decide) hn), rfl, (((h).2 c7_2)).1, trivial, ⟨((((h).2 c7_2)).2).1, ((((h).2 c7_2)).2).2⟩⟩⟩)
theorem zk_ARfi62_r {l : Launch} {E : jE} {n : Nat} (hn : 73 ≤ n) : zHas l E jcl jtb lw_tbl (zsR 61 73) n (y_AR_fill2, true, 2, 0, { frames := 0, cells := 0, slots := 0, locals := 0 }, zc_ARfi62) := by
  refine ⟨⟨rfl, rfl, ⟨m_AR_fill2, s_AR_fill2⟩⟩, ?_⟩
  rintro vz W po hO hW ⟨x, rfl, hq, hp⟩
  refine zmet (m := zm_ARfi62) rfl (by decide) (fun _ _ => jtF_ok) lo_AR ao_ZARfi62 jC (fun q h => by cases h) (fun q h => by cases h) (fun q h => by cases h) (Nat.le_of_ble_eq_true rfl) hO hW (4000) ?_
  have h5 : ∀ (m K : Nat) (V : zW) (i : Int), 20 * m + 20 ≤ K → (64 - i < m ∧ 0 ≤ i ∧ i ≤ 64) → zFr [] [62] W V → (∀ j, V.2.1 62 j = (if 0 ≤ j ∧ j < i then x else W.2.1 62 j)) → zwp jtb (zsR 61 73) n zm_ARfi62 po K (lGo ak_ZARfi62 5) 5 [some (.inr (.inr (some (.inl 62)))), some (.inl x), some (.inl i), some (.inl 64)] [] V := by
    intro m
    induction m with
    | zero => intro K V i hK hm; omega
    | succ m ih =>
      intro K V i hK hm hF hV
      exact zp_ARfi62_5_r (by omega) hn ⟨fun c7 => (hp _ ⟨hF, fun j => by rw [hV j, show i = 64 by omega]⟩), fun c7 => ⟨(by omega), ⟨(by omega), (ih _ _ (i + 1) (by omega) (by omega) (zFr_R hF List.mem_cons_self) (fun j => by rw [zuR_2]; by_cases c : j = i; (rw [if_pos ⟨rfl, c⟩, if_pos (by omega)]); (rw [if_neg (fun z => c z.2), hV j]; by_cases d : 0 ≤ j ∧ j < i; (rw [if_pos d, if_pos (by omega)]); (rw [if_neg d, if_neg (by omega)]))))⟩⟩⟩
  exact zp_ARfi62_0_r (by omega) hn (h5 65 _ W 0 (by omega) (by omega) zFr_0 (fun j => by rw [if_neg (by omega)]))
set_option maxRecDepth 8000 in
theorem zp_ARfi63_0_r {n K : Nat} {W : zW} {post : zPo} {x : Int} {u2 u3 : Option zv} (hK : 5 ≤ K) (hn : 73 ≤ n) (h : zwp jtb (zsR 61 73) n zm_ARfi63 post (K - 5) (lGo ak_ZARfi63 5) 5 [some (.inr (.inr (some (.inl 63)))), some (.inl (x)), some (.inl (0)), some (.inl (2))] [] W) : zwp jtb (zsR 61 73) n zm_ARfi63 post K (lGo ak_ZARfi63 0) 0 [some (.inr (.inr (some (.inl 63)))), some (.inl (x)), u2, u3] [] W := by
  obtain ⟨kk__, rfl⟩ : ∃ kk__, K = kk__ + 5 := ⟨K - 5, by omega⟩
  exact (show 63 < n ∧ FieldType.int ∈ jtys ∧ 2 ≤ 2147483647 ∧ zwp jtb (zsR 61 73) n zm_ARfi63 post (kk__ + 0) (lGo ak_ZARfi63 5) 5 [some (.inr (.inr (some (.inl 63)))), some (.inl (x)), some (.inl (0)), some (.inl (2))] [] W from ⟨(Nat.lt_of_lt_of_le (by decide) hn), (by decide), (by decide), h⟩)
set_option maxRecDepth 8000 in
theorem zp_ARfi63_5_r {n K : Nat} {V : zW} {post : zPo} {x i : Int}  (hK : 9 ≤ K) (hn : 73 ≤ n) (h : (2 ≤ i → post none V) ∧ (¬ 2 ≤ i → (0 ≤ i ∧ i < 2) ∧ (-2147483648 ≤ i + 1 ∧ i + 1 ≤ 2147483647) ∧ zwp jtb (zsR 61 73) n zm_ARfi63 post (K - 9) (lGo ak_ZARfi63 5) 5 [some (.inr (.inr (some (.inl 63)))), some (.inl (x)), some (.inl (i + 1)), some (.inl (2))] [] (zuR V 63 i x))) : zwp jtb (zsR 61 73) n zm_ARfi63 post K (lGo ak_ZARfi63 5) 5 [some (.inr (.inr (some (.inl 63)))), some (.inl (x)), some (.inl (i)), some (.inl (2))] [] V := by
  obtain ⟨kk__, rfl⟩ : ∃ kk__, K = kk__ + 9 := ⟨K - 9, by omega⟩
  exact (show (2 ≤ i → 1 = 1 ∧ (none : Option FieldType) = none ∧ post none V) ∧ (¬ 2 ≤ i → 63 < n ∧ FieldType.int = FieldType.int ∧ (0 ≤ i ∧ i < 2) ∧ True ∧ (-2147483648 ≤ i + 1 ∧ i + 1 ≤ 2147483647) ∧ zwp jtb (zsR 61 73) n zm_ARfi63 post (kk__ + 0) (lGo ak_ZARfi63 5) 5 [some (.inr (.inr (some (.inl 63)))), some (.inl (x)), some (.inl (i + 1)), some (.inl (2))] [] (zuR V 63 i x)) from ⟨fun c7_2 => ⟨rfl, rfl, ((h).1 c7_2)⟩, fun c7_2 => ⟨(Nat.lt_of_lt_of_le (by decide) hn), rfl, (((h).2 c7_2)).1, trivial, ⟨((((h).2 c7_2)).2).1, ((((h).2 c7_2)).2).2⟩⟩⟩)
theorem zk_ARfi63_r {l : Launch} {E : jE} {n : Nat} (hn : 73 ≤ n) : zHas l E jcl jtb lw_tbl (zsR 61 73) n (y_AR_fill2, true, 2, 0, { frames := 0, cells := 0, slots := 0, locals := 0 }, zc_ARfi63) := by
  refine ⟨⟨rfl, rfl, ⟨m_AR_fill2, s_AR_fill2⟩⟩, ?_⟩
  rintro vz W po hO hW ⟨x, rfl, hq, hp⟩
  refine zmet (m := zm_ARfi63) rfl (by decide) (fun _ _ => jtF_ok) lo_AR ao_ZARfi63 jC (fun q h => by cases h) (fun q h => by cases h) (fun q h => by cases h) (Nat.le_of_ble_eq_true rfl) hO hW (4000) ?_
  have h5 : ∀ (m K : Nat) (V : zW) (i : Int), 20 * m + 20 ≤ K → (2 - i < m ∧ 0 ≤ i ∧ i ≤ 2) → zFr [] [63] W V → (∀ j, V.2.1 63 j = (if 0 ≤ j ∧ j < i then x else W.2.1 63 j)) → zwp jtb (zsR 61 73) n zm_ARfi63 po K (lGo ak_ZARfi63 5) 5 [some (.inr (.inr (some (.inl 63)))), some (.inl x), some (.inl i), some (.inl 2)] [] V := by
    intro m
    induction m with
    | zero => intro K V i hK hm; omega
    | succ m ih =>
      intro K V i hK hm hF hV
      exact zp_ARfi63_5_r (by omega) hn ⟨fun c7 => (hp _ ⟨hF, fun j => by rw [hV j, show i = 2 by omega]⟩), fun c7 => ⟨(by omega), ⟨(by omega), (ih _ _ (i + 1) (by omega) (by omega) (zFr_R hF List.mem_cons_self) (fun j => by rw [zuR_2]; by_cases c : j = i; (rw [if_pos ⟨rfl, c⟩, if_pos (by omega)]); (rw [if_neg (fun z => c z.2), hV j]; by_cases d : 0 ≤ j ∧ j < i; (rw [if_pos d, if_pos (by omega)]); (rw [if_neg d, if_neg (by omega)]))))⟩⟩⟩
  exact zp_ARfi63_0_r (by omega) hn (h5 3 _ W 0 (by omega) (by omega) zFr_0 (fun j => by rw [if_neg (by omega)]))
set_option maxRecDepth 8000 in
theorem zp_ARfi65_0_r {n K : Nat} {W : zW} {post : zPo} {x : Int} {u2 u3 : Option zv} (hK : 5 ≤ K) (hn : 73 ≤ n) (h : zwp jtb (zsR 61 73) n zm_ARfi65 post (K - 5) (lGo ak_ZARfi65 5) 5 [some (.inr (.inr (some (.inl 65)))), some (.inl (x)), some (.inl (0)), some (.inl (2))] [] W) : zwp jtb (zsR 61 73) n zm_ARfi65 post K (lGo ak_ZARfi65 0) 0 [some (.inr (.inr (some (.inl 65)))), some (.inl (x)), u2, u3] [] W := by
  obtain ⟨kk__, rfl⟩ : ∃ kk__, K = kk__ + 5 := ⟨K - 5, by omega⟩
  exact (show 65 < n ∧ FieldType.int ∈ jtys ∧ 2 ≤ 2147483647 ∧ zwp jtb (zsR 61 73) n zm_ARfi65 post (kk__ + 0) (lGo ak_ZARfi65 5) 5 [some (.inr (.inr (some (.inl 65)))), some (.inl (x)), some (.inl (0)), some (.inl (2))] [] W from ⟨(Nat.lt_of_lt_of_le (by decide) hn), (by decide), (by decide), h⟩)
set_option maxRecDepth 8000 in
theorem zp_ARfi65_5_r {n K : Nat} {V : zW} {post : zPo} {x i : Int}  (hK : 9 ≤ K) (hn : 73 ≤ n) (h : (2 ≤ i → post none V) ∧ (¬ 2 ≤ i → (0 ≤ i ∧ i < 2) ∧ (-2147483648 ≤ i + 1 ∧ i + 1 ≤ 2147483647) ∧ zwp jtb (zsR 61 73) n zm_ARfi65 post (K - 9) (lGo ak_ZARfi65 5) 5 [some (.inr (.inr (some (.inl 65)))), some (.inl (x)), some (.inl (i + 1)), some (.inl (2))] [] (zuR V 65 i x))) : zwp jtb (zsR 61 73) n zm_ARfi65 post K (lGo ak_ZARfi65 5) 5 [some (.inr (.inr (some (.inl 65)))), some (.inl (x)), some (.inl (i)), some (.inl (2))] [] V := by
  obtain ⟨kk__, rfl⟩ : ∃ kk__, K = kk__ + 9 := ⟨K - 9, by omega⟩
  exact (show (2 ≤ i → 1 = 1 ∧ (none : Option FieldType) = none ∧ post none V) ∧ (¬ 2 ≤ i → 65 < n ∧ FieldType.int = FieldType.int ∧ (0 ≤ i ∧ i < 2) ∧ True ∧ (-2147483648 ≤ i + 1 ∧ i + 1 ≤ 2147483647) ∧ zwp jtb (zsR 61 73) n zm_ARfi65 post (kk__ + 0) (lGo ak_ZARfi65 5) 5 [some (.inr (.inr (some (.inl 65)))), some (.inl (x)), some (.inl (i + 1)), some (.inl (2))] [] (zuR V 65 i x)) from ⟨fun c7_2 => ⟨rfl, rfl, ((h).1 c7_2)⟩, fun c7_2 => ⟨(Nat.lt_of_lt_of_le (by decide) hn), rfl, (((h).2 c7_2)).1, trivial, ⟨((((h).2 c7_2)).2).1, ((((h).2 c7_2)).2).2⟩⟩⟩)
theorem zk_ARfi65_r {l : Launch} {E : jE} {n : Nat} (hn : 73 ≤ n) : zHas l E jcl jtb lw_tbl (zsR 61 73) n (y_AR_fill2, true, 2, 0, { frames := 0, cells := 0, slots := 0, locals := 0 }, zc_ARfi65) := by
  refine ⟨⟨rfl, rfl, ⟨m_AR_fill2, s_AR_fill2⟩⟩, ?_⟩
  rintro vz W po hO hW ⟨x, rfl, hq, hp⟩
  refine zmet (m := zm_ARfi65) rfl (by decide) (fun _ _ => jtF_ok) lo_AR ao_ZARfi65 jC (fun q h => by cases h) (fun q h => by cases h) (fun q h => by cases h) (Nat.le_of_ble_eq_true rfl) hO hW (4000) ?_
  have h5 : ∀ (m K : Nat) (V : zW) (i : Int), 20 * m + 20 ≤ K → (2 - i < m ∧ 0 ≤ i ∧ i ≤ 2) → zFr [] [65] W V → (∀ j, V.2.1 65 j = (if 0 ≤ j ∧ j < i then x else W.2.1 65 j)) → zwp jtb (zsR 61 73) n zm_ARfi65 po K (lGo ak_ZARfi65 5) 5 [some (.inr (.inr (some (.inl 65)))), some (.inl x), some (.inl i), some (.inl 2)] [] V := by
    intro m
    induction m with
    | zero => intro K V i hK hm; omega
    | succ m ih =>
      intro K V i hK hm hF hV
      exact zp_ARfi65_5_r (by omega) hn ⟨fun c7 => (hp _ ⟨hF, fun j => by rw [hV j, show i = 2 by omega]⟩), fun c7 => ⟨(by omega), ⟨(by omega), (ih _ _ (i + 1) (by omega) (by omega) (zFr_R hF List.mem_cons_self) (fun j => by rw [zuR_2]; by_cases c : j = i; (rw [if_pos ⟨rfl, c⟩, if_pos (by omega)]); (rw [if_neg (fun z => c z.2), hV j]; by_cases d : 0 ≤ j ∧ j < i; (rw [if_pos d, if_pos (by omega)]); (rw [if_neg d, if_neg (by omega)]))))⟩⟩⟩
  exact zp_ARfi65_0_r (by omega) hn (h5 3 _ W 0 (by omega) (by omega) zFr_0 (fun j => by rw [if_neg (by omega)]))
set_option maxRecDepth 8000 in
theorem zp_ARfi66_0_r {n K : Nat} {W : zW} {post : zPo} {x : Int} {u2 u3 : Option zv} (hK : 5 ≤ K) (hn : 73 ≤ n) (h : zwp jtb (zsR 61 73) n zm_ARfi66 post (K - 5) (lGo ak_ZARfi66 5) 5 [some (.inr (.inr (some (.inl 66)))), some (.inl (x)), some (.inl (0)), some (.inl (16))] [] W) : zwp jtb (zsR 61 73) n zm_ARfi66 post K (lGo ak_ZARfi66 0) 0 [some (.inr (.inr (some (.inl 66)))), some (.inl (x)), u2, u3] [] W := by
  obtain ⟨kk__, rfl⟩ : ∃ kk__, K = kk__ + 5 := ⟨K - 5, by omega⟩
  exact (show 66 < n ∧ FieldType.int ∈ jtys ∧ 16 ≤ 2147483647 ∧ zwp jtb (zsR 61 73) n zm_ARfi66 post (kk__ + 0) (lGo ak_ZARfi66 5) 5 [some (.inr (.inr (some (.inl 66)))), some (.inl (x)), some (.inl (0)), some (.inl (16))] [] W from ⟨(Nat.lt_of_lt_of_le (by decide) hn), (by decide), (by decide), h⟩)
set_option maxRecDepth 8000 in
theorem zp_ARfi66_5_r {n K : Nat} {V : zW} {post : zPo} {x i : Int}  (hK : 9 ≤ K) (hn : 73 ≤ n) (h : (16 ≤ i → post none V) ∧ (¬ 16 ≤ i → (0 ≤ i ∧ i < 16) ∧ (-2147483648 ≤ i + 1 ∧ i + 1 ≤ 2147483647) ∧ zwp jtb (zsR 61 73) n zm_ARfi66 post (K - 9) (lGo ak_ZARfi66 5) 5 [some (.inr (.inr (some (.inl 66)))), some (.inl (x)), some (.inl (i + 1)), some (.inl (16))] [] (zuR V 66 i x))) : zwp jtb (zsR 61 73) n zm_ARfi66 post K (lGo ak_ZARfi66 5) 5 [some (.inr (.inr (some (.inl 66)))), some (.inl (x)), some (.inl (i)), some (.inl (16))] [] V := by
  obtain ⟨kk__, rfl⟩ : ∃ kk__, K = kk__ + 9 := ⟨K - 9, by omega⟩
  exact (show (16 ≤ i → 1 = 1 ∧ (none : Option FieldType) = none ∧ post none V) ∧ (¬ 16 ≤ i → 66 < n ∧ FieldType.int = FieldType.int ∧ (0 ≤ i ∧ i < 16) ∧ True ∧ (-2147483648 ≤ i + 1 ∧ i + 1 ≤ 2147483647) ∧ zwp jtb (zsR 61 73) n zm_ARfi66 post (kk__ + 0) (lGo ak_ZARfi66 5) 5 [some (.inr (.inr (some (.inl 66)))), some (.inl (x)), some (.inl (i + 1)), some (.inl (16))] [] (zuR V 66 i x)) from ⟨fun c7_2 => ⟨rfl, rfl, ((h).1 c7_2)⟩, fun c7_2 => ⟨(Nat.lt_of_lt_of_le (by decide) hn), rfl, (((h).2 c7_2)).1, trivial, ⟨((((h).2 c7_2)).2).1, ((((h).2 c7_2)).2).2⟩⟩⟩)
theorem zk_ARfi66_r {l : Launch} {E : jE} {n : Nat} (hn : 73 ≤ n) : zHas l E jcl jtb lw_tbl (zsR 61 73) n (y_AR_fill2, true, 2, 0, { frames := 0, cells := 0, slots := 0, locals := 0 }, zc_ARfi66) := by
  refine ⟨⟨rfl, rfl, ⟨m_AR_fill2, s_AR_fill2⟩⟩, ?_⟩
  rintro vz W po hO hW ⟨x, rfl, hq, hp⟩
  refine zmet (m := zm_ARfi66) rfl (by decide) (fun _ _ => jtF_ok) lo_AR ao_ZARfi66 jC (fun q h => by cases h) (fun q h => by cases h) (fun q h => by cases h) (Nat.le_of_ble_eq_true rfl) hO hW (4000) ?_
  have h5 : ∀ (m K : Nat) (V : zW) (i : Int), 20 * m + 20 ≤ K → (16 - i < m ∧ 0 ≤ i ∧ i ≤ 16) → zFr [] [66] W V → (∀ j, V.2.1 66 j = (if 0 ≤ j ∧ j < i then x else W.2.1 66 j)) → zwp jtb (zsR 61 73) n zm_ARfi66 po K (lGo ak_ZARfi66 5) 5 [some (.inr (.inr (some (.inl 66)))), some (.inl x), some (.inl i), some (.inl 16)] [] V := by
    intro m
    induction m with
    | zero => intro K V i hK hm; omega
    | succ m ih =>
      intro K V i hK hm hF hV
      exact zp_ARfi66_5_r (by omega) hn ⟨fun c7 => (hp _ ⟨hF, fun j => by rw [hV j, show i = 16 by omega]⟩), fun c7 => ⟨(by omega), ⟨(by omega), (ih _ _ (i + 1) (by omega) (by omega) (zFr_R hF List.mem_cons_self) (fun j => by rw [zuR_2]; by_cases c : j = i; (rw [if_pos ⟨rfl, c⟩, if_pos (by omega)]); (rw [if_neg (fun z => c z.2), hV j]; by_cases d : 0 ≤ j ∧ j < i; (rw [if_pos d, if_pos (by omega)]); (rw [if_neg d, if_neg (by omega)]))))⟩⟩⟩
  exact zp_ARfi66_0_r (by omega) hn (h5 17 _ W 0 (by omega) (by omega) zFr_0 (fun j => by rw [if_neg (by omega)]))
set_option maxRecDepth 8000 in
theorem zp_ARfi67_0_r {n K : Nat} {W : zW} {post : zPo} {x : Int} {u2 u3 : Option zv} (hK : 5 ≤ K) (hn : 73 ≤ n) (h : zwp jtb (zsR 61 73) n zm_ARfi67 post (K - 5) (lGo ak_ZARfi67 5) 5 [some (.inr (.inr (some (.inl 67)))), some (.inl (x)), some (.inl (0)), some (.inl (2))] [] W) : zwp jtb (zsR 61 73) n zm_ARfi67 post K (lGo ak_ZARfi67 0) 0 [some (.inr (.inr (some (.inl 67)))), some (.inl (x)), u2, u3] [] W := by
  obtain ⟨kk__, rfl⟩ : ∃ kk__, K = kk__ + 5 := ⟨K - 5, by omega⟩
  exact (show 67 < n ∧ FieldType.int ∈ jtys ∧ 2 ≤ 2147483647 ∧ zwp jtb (zsR 61 73) n zm_ARfi67 post (kk__ + 0) (lGo ak_ZARfi67 5) 5 [some (.inr (.inr (some (.inl 67)))), some (.inl (x)), some (.inl (0)), some (.inl (2))] [] W from ⟨(Nat.lt_of_lt_of_le (by decide) hn), (by decide), (by decide), h⟩)
set_option maxRecDepth 8000 in
theorem zp_ARfi67_5_r {n K : Nat} {V : zW} {post : zPo} {x i : Int}  (hK : 9 ≤ K) (hn : 73 ≤ n) (h : (2 ≤ i → post none V) ∧ (¬ 2 ≤ i → (0 ≤ i ∧ i < 2) ∧ (-2147483648 ≤ i + 1 ∧ i + 1 ≤ 2147483647) ∧ zwp jtb (zsR 61 73) n zm_ARfi67 post (K - 9) (lGo ak_ZARfi67 5) 5 [some (.inr (.inr (some (.inl 67)))), some (.inl (x)), some (.inl (i + 1)), some (.inl (2))] [] (zuR V 67 i x))) : zwp jtb (zsR 61 73) n zm_ARfi67 post K (lGo ak_ZARfi67 5) 5 [some (.inr (.inr (some (.inl 67)))), some (.inl (x)), some (.inl (i)), some (.inl (2))] [] V := by
  obtain ⟨kk__, rfl⟩ : ∃ kk__, K = kk__ + 9 := ⟨K - 9, by omega⟩
  exact (show (2 ≤ i → 1 = 1 ∧ (none : Option FieldType) = none ∧ post none V) ∧ (¬ 2 ≤ i → 67 < n ∧ FieldType.int = FieldType.int ∧ (0 ≤ i ∧ i < 2) ∧ True ∧ (-2147483648 ≤ i + 1 ∧ i + 1 ≤ 2147483647) ∧ zwp jtb (zsR 61 73) n zm_ARfi67 post (kk__ + 0) (lGo ak_ZARfi67 5) 5 [some (.inr (.inr (some (.inl 67)))), some (.inl (x)), some (.inl (i + 1)), some (.inl (2))] [] (zuR V 67 i x)) from ⟨fun c7_2 => ⟨rfl, rfl, ((h).1 c7_2)⟩, fun c7_2 => ⟨(Nat.lt_of_lt_of_le (by decide) hn), rfl, (((h).2 c7_2)).1, trivial, ⟨((((h).2 c7_2)).2).1, ((((h).2 c7_2)).2).2⟩⟩⟩)
theorem zk_ARfi67_r {l : Launch} {E : jE} {n : Nat} (hn : 73 ≤ n) : zHas l E jcl jtb lw_tbl (zsR 61 73) n (y_AR_fill2, true, 2, 0, { frames := 0, cells := 0, slots := 0, locals := 0 }, zc_ARfi67) := by
  refine ⟨⟨rfl, rfl, ⟨m_AR_fill2, s_AR_fill2⟩⟩, ?_⟩
  rintro vz W po hO hW ⟨x, rfl, hq, hp⟩
  refine zmet (m := zm_ARfi67) rfl (by decide) (fun _ _ => jtF_ok) lo_AR ao_ZARfi67 jC (fun q h => by cases h) (fun q h => by cases h) (fun q h => by cases h) (Nat.le_of_ble_eq_true rfl) hO hW (4000) ?_
  have h5 : ∀ (m K : Nat) (V : zW) (i : Int), 20 * m + 20 ≤ K → (2 - i < m ∧ 0 ≤ i ∧ i ≤ 2) → zFr [] [67] W V → (∀ j, V.2.1 67 j = (if 0 ≤ j ∧ j < i then x else W.2.1 67 j)) → zwp jtb (zsR 61 73) n zm_ARfi67 po K (lGo ak_ZARfi67 5) 5 [some (.inr (.inr (some (.inl 67)))), some (.inl x), some (.inl i), some (.inl 2)] [] V := by
    intro m
    induction m with
    | zero => intro K V i hK hm; omega
    | succ m ih =>
      intro K V i hK hm hF hV
      exact zp_ARfi67_5_r (by omega) hn ⟨fun c7 => (hp _ ⟨hF, fun j => by rw [hV j, show i = 2 by omega]⟩), fun c7 => ⟨(by omega), ⟨(by omega), (ih _ _ (i + 1) (by omega) (by omega) (zFr_R hF List.mem_cons_self) (fun j => by rw [zuR_2]; by_cases c : j = i; (rw [if_pos ⟨rfl, c⟩, if_pos (by omega)]); (rw [if_neg (fun z => c z.2), hV j]; by_cases d : 0 ≤ j ∧ j < i; (rw [if_pos d, if_pos (by omega)]); (rw [if_neg d, if_neg (by omega)]))))⟩⟩⟩
  exact zp_ARfi67_0_r (by omega) hn (h5 3 _ W 0 (by omega) (by omega) zFr_0 (fun j => by rw [if_neg (by omega)]))
set_option maxRecDepth 8000 in
theorem zp_ARfl64_0_r {n K : Nat} {W : zW} {post : zPo} {x : Int64} {u3 u4 : Option zv} (hK : 5 ≤ K) (hn : 73 ≤ n) (h : zwp jtb (zsR 61 73) n zm_ARfl64 post (K - 5) (lGo ak_ZARfl64 6) 6 [some (.inr (.inr (some (.inl 64)))), some (.inr (.inl (x))), none, some (.inl (0)), some (.inl (4))] [] W) : zwp jtb (zsR 61 73) n zm_ARfl64 post K (lGo ak_ZARfl64 0) 0 [some (.inr (.inr (some (.inl 64)))), some (.inr (.inl (x))), none, u3, u4] [] W := by
  obtain ⟨kk__, rfl⟩ : ∃ kk__, K = kk__ + 5 := ⟨K - 5, by omega⟩
  exact (show 64 < n ∧ FieldType.long ∈ jtys ∧ 4 ≤ 2147483647 ∧ zwp jtb (zsR 61 73) n zm_ARfl64 post (kk__ + 0) (lGo ak_ZARfl64 6) 6 [some (.inr (.inr (some (.inl 64)))), some (.inr (.inl (x))), none, some (.inl (0)), some (.inl (4))] [] W from ⟨(Nat.lt_of_lt_of_le (by decide) hn), (by decide), (by decide), h⟩)
set_option maxRecDepth 8000 in
theorem zp_ARfl64_6_r {n K : Nat} {V : zW} {post : zPo} {i : Int} {x : Int64}  (hK : 9 ≤ K) (hn : 73 ≤ n) (h : (4 ≤ i → post none V) ∧ (¬ 4 ≤ i → (0 ≤ i ∧ i < 4) ∧ (-2147483648 ≤ i + 1 ∧ i + 1 ≤ 2147483647) ∧ zwp jtb (zsR 61 73) n zm_ARfl64 post (K - 9) (lGo ak_ZARfl64 6) 6 [some (.inr (.inr (some (.inl 64)))), some (.inr (.inl (x))), none, some (.inl (i + 1)), some (.inl (4))] [] (zuL V 64 i.toNat x))) : zwp jtb (zsR 61 73) n zm_ARfl64 post K (lGo ak_ZARfl64 6) 6 [some (.inr (.inr (some (.inl 64)))), some (.inr (.inl (x))), none, some (.inl (i)), some (.inl (4))] [] V := by
  obtain ⟨kk__, rfl⟩ : ∃ kk__, K = kk__ + 9 := ⟨K - 9, by omega⟩
  exact (show (4 ≤ i → 1 = 1 ∧ (none : Option FieldType) = none ∧ post none V) ∧ (¬ 4 ≤ i → 64 < n ∧ (0 ≤ i ∧ i < 4) ∧ (-2147483648 ≤ i + 1 ∧ i + 1 ≤ 2147483647) ∧ zwp jtb (zsR 61 73) n zm_ARfl64 post (kk__ + 0) (lGo ak_ZARfl64 6) 6 [some (.inr (.inr (some (.inl 64)))), some (.inr (.inl (x))), none, some (.inl (i + 1)), some (.inl (4))] [] (zuL V 64 i.toNat x)) from ⟨fun c9_2 => ⟨rfl, rfl, ((h).1 c9_2)⟩, fun c9_2 => ⟨(Nat.lt_of_lt_of_le (by decide) hn), (((h).2 c9_2)).1, ⟨((((h).2 c9_2)).2).1, ((((h).2 c9_2)).2).2⟩⟩⟩)
theorem zk_ARfl64_r {l : Launch} {E : jE} {n : Nat} (hn : 73 ≤ n) : zHas l E jcl jtb lw_tbl (zsR 61 73) n (y_AR_fill3, true, 2, 0, { frames := 0, cells := 0, slots := 0, locals := 0 }, zc_ARfl64) := by
  refine ⟨⟨rfl, rfl, ⟨m_AR_fill3, s_AR_fill3⟩⟩, ?_⟩
  rintro vz W po hO hW ⟨x, rfl, hq, hp⟩
  refine zmet (m := zm_ARfl64) rfl (by decide) (fun _ _ => jtF_ok) lo_AR ao_ZARfl64 jC (fun q h => by cases h) (fun q h => by cases h) (fun q h => by cases h) (Nat.le_of_ble_eq_true rfl) hO hW (400) ?_
  have h6 : ∀ (m K : Nat) (V : zW) (i : Int), 20 * m + 20 ≤ K → (4 - i < m ∧ 0 ≤ i ∧ i ≤ 4) → zFy [] [] [64] W V → zwp jtb (zsR 61 73) n zm_ARfl64 po K (lGo ak_ZARfl64 6) 6 [some (.inr (.inr (some (.inl 64)))), some (.inr (.inl x)), none, some (.inl i), some (.inl 4)] [] V := by
    intro m
    induction m with
    | zero => intro K V i hK hm; omega
    | succ m ih =>
      intro K V i hK hm hF
      exact zp_ARfl64_6_r (by omega) hn ⟨fun c9 => (hp _ hF), fun c9 => ⟨(by omega), ⟨(by omega), (ih _ _ (i + 1) (by omega) (by omega) (zFy_L hF (by decide)))⟩⟩⟩
  exact zp_ARfl64_0_r (by omega) hn (h6 5 _ W 0 (by omega) (by omega) zFy_0)
set_option maxRecDepth 8000 in
theorem zp_BOclr61_0_r {n K : Nat} {W : zW} {post : zPo}  (hK : 43 ≤ K) (hn : 73 ≤ n) (h : (0 ≤ (0 : Int)) ∧ ∀ W5 : zW, (zFr [] [62] W W5 ∧ ∀ i, W5.2.1 62 i = (if 0 ≤ i ∧ i < 64 then (0 : Int) else W.2.1 62 i)) → (0 ≤ (0 : Int)) ∧ ∀ W13 : zW, (zFr [] [63] W5 W13 ∧ ∀ i, W13.2.1 63 i = (if 0 ≤ i ∧ i < 2 then (0 : Int) else W5.2.1 63 i)) → (True) ∧ ∀ W21 : zW, (zFy [] [] [64] W13 W21) → (0 ≤ (0 : Int)) ∧ ∀ W29 : zW, (zFr [] [65] W21 W29 ∧ ∀ i, W29.2.1 65 i = (if 0 ≤ i ∧ i < 2 then (0 : Int) else W21.2.1 65 i)) → (0 ≤ (0 : Int)) ∧ ∀ W37 : zW, (zFr [] [66] W29 W37 ∧ ∀ i, W37.2.1 66 i = (if 0 ≤ i ∧ i < 16 then (0 : Int) else W29.2.1 66 i)) → (0 ≤ (0 : Int)) ∧ ∀ W45 : zW, (zFr [] [67] W37 W45 ∧ ∀ i, W45.2.1 67 i = (if 0 ≤ i ∧ i < 2 then (0 : Int) else W37.2.1 67 i)) → post none (zuF (zuF (zuF (zuF (zuF (zuF W45 61 2 0) 61 3 0) 61 4 (-1)) 61 5 0) 61 6 1) 61 16 0)) : zwp jtb (zsR 61 73) n zm_BOclr61 post K (lGo ak_ZBOclr61 0) 0 [some (.inr (.inr (some (.inl 61))))] [] W := by
  obtain ⟨kk__, rfl⟩ : ∃ kk__, K = kk__ + 43 := ⟨K - 43, by omega⟩
  exact (show 61 < n ∧ 10 = 10 ∧ 3 = 3 ∧ true = true ∧ jin3 71 648 0 zm_BOclr61.2.2.1.1 = true ∧ lRm zm_BOclr61.2.1 { frames := 0, cells := 0, slots := 0, locals := 0 } 4 = true ∧ Nat.ble 2 2 = true ∧ Nat.ble 0 8 = true ∧ zc_ARfi62 [.inr (.inr (some (.inl 62))), .inl (0)] W (fun vv__ WW__ => zwp jtb (zsR 61 73) n zm_BOclr61 post (kk__ + 39) (lGo ak_ZBOclr61 8) 8 [some (.inr (.inr (some (.inl 61))))] (vv__.toList ++ []) WW__) from ⟨(Nat.lt_of_lt_of_le (by decide) hn), rfl, ⟨rfl, rfl, rfl, rfl, rfl, rfl, 0, rfl, (h).1, fun W5 hr5 => (show 61 < n ∧ 10 = 10 ∧ 3 = 3 ∧ true = true ∧ jin3 71 648 1 zm_BOclr61.2.2.1.1 = true ∧ lRm zm_BOclr61.2.1 { frames := 0, cells := 0, slots := 0, locals := 0 } 4 = true ∧ Nat.ble 2 2 = true ∧ Nat.ble 0 8 = true ∧ zc_ARfi63 [.inr (.inr (some (.inl 63))), .inl (0)] W5 (fun vv__ WW__ => zwp jtb (zsR 61 73) n zm_BOclr61 post (kk__ + 35) (lGo ak_ZBOclr61 16) 16 [some (.inr (.inr (some (.inl 61))))] (vv__.toList ++ []) WW__) from ⟨(Nat.lt_of_lt_of_le (by decide) hn), rfl, ⟨rfl, rfl, rfl, rfl, rfl, rfl, 0, rfl, (((h).2 W5 hr5)).1, fun W13 hr13 => (show 61 < n ∧ 10 = 10 ∧ 3 = 3 ∧ true = true ∧ jin3 74 651 2 zm_BOclr61.2.2.1.1 = true ∧ lRm zm_BOclr61.2.1 { frames := 0, cells := 0, slots := 0, locals := 0 } 5 = true ∧ Nat.ble 2 2 = true ∧ Nat.ble 0 8 = true ∧ zc_ARfl64 [.inr (.inr (some (.inl 64))), .inr (.inl (0))] W13 (fun vv__ WW__ => zwp jtb (zsR 61 73) n zm_BOclr61 post (kk__ + 31) (lGo ak_ZBOclr61 24) 24 [some (.inr (.inr (some (.inl 61))))] (vv__.toList ++ []) WW__) from (have h := ((((h).2 W5 hr5)).2 W13 hr13); ⟨(Nat.lt_of_lt_of_le (by decide) hn), rfl, ⟨rfl, rfl, rfl, rfl, rfl, rfl, 0, rfl, (h).1, fun W21 hr21 => (show 61 < n ∧ 10 = 10 ∧ 3 = 3 ∧ true = true ∧ jin3 71 648 3 zm_BOclr61.2.2.1.1 = true ∧ lRm zm_BOclr61.2.1 { frames := 0, cells := 0, slots := 0, locals := 0 } 4 = true ∧ Nat.ble 2 2 = true ∧ Nat.ble 0 8 = true ∧ zc_ARfi65 [.inr (.inr (some (.inl 65))), .inl (0)] W21 (fun vv__ WW__ => zwp jtb (zsR 61 73) n zm_BOclr61 post (kk__ + 27) (lGo ak_ZBOclr61 32) 32 [some (.inr (.inr (some (.inl 61))))] (vv__.toList ++ []) WW__) from ⟨(Nat.lt_of_lt_of_le (by decide) hn), rfl, ⟨rfl, rfl, rfl, rfl, rfl, rfl, 0, rfl, (((h).2 W21 hr21)).1, fun W29 hr29 => (show 61 < n ∧ 10 = 10 ∧ 3 = 3 ∧ true = true ∧ jin3 71 648 4 zm_BOclr61.2.2.1.1 = true ∧ lRm zm_BOclr61.2.1 { frames := 0, cells := 0, slots := 0, locals := 0 } 4 = true ∧ Nat.ble 2 2 = true ∧ Nat.ble 0 8 = true ∧ zc_ARfi66 [.inr (.inr (some (.inl 66))), .inl (0)] W29 (fun vv__ WW__ => zwp jtb (zsR 61 73) n zm_BOclr61 post (kk__ + 23) (lGo ak_ZBOclr61 40) 40 [some (.inr (.inr (some (.inl 61))))] (vv__.toList ++ []) WW__) from (have h := ((((h).2 W21 hr21)).2 W29 hr29); ⟨(Nat.lt_of_lt_of_le (by decide) hn), rfl, ⟨rfl, rfl, rfl, rfl, rfl, rfl, 0, rfl, (h).1, fun W37 hr37 => (show 61 < n ∧ 10 = 10 ∧ 3 = 3 ∧ true = true ∧ jin3 71 648 5 zm_BOclr61.2.2.1.1 = true ∧ lRm zm_BOclr61.2.1 { frames := 0, cells := 0, slots := 0, locals := 0 } 4 = true ∧ Nat.ble 2 2 = true ∧ Nat.ble 0 8 = true ∧ zc_ARfi67 [.inr (.inr (some (.inl 67))), .inl (0)] W37 (fun vv__ WW__ => zwp jtb (zsR 61 73) n zm_BOclr61 post (kk__ + 19) (lGo ak_ZBOclr61 48) 48 [some (.inr (.inr (some (.inl 61))))] (vv__.toList ++ []) WW__) from ⟨(Nat.lt_of_lt_of_le (by decide) hn), rfl, ⟨rfl, rfl, rfl, rfl, rfl, rfl, 0, rfl, (((h).2 W37 hr37)).1, fun W45 hr45 => (show 61 < n ∧ 10 = 10 ∧ (some 0 : Option Nat) = some 0 ∧ ((0 : Nat) = 0 ∨ ((0 : Nat) = 1 ∧ ((0 : Int) = 0 ∨ (0 : Int) = 1))) ∧ 61 < n ∧ 10 = 10 ∧ (some 0 : Option Nat) = some 0 ∧ ((0 : Nat) = 0 ∨ ((0 : Nat) = 1 ∧ ((0 : Int) = 0 ∨ (0 : Int) = 1))) ∧ 61 < n ∧ 10 = 10 ∧ (some 0 : Option Nat) = some 0 ∧ ((0 : Nat) = 0 ∨ ((0 : Nat) = 1 ∧ ((-1 : Int) = 0 ∨ (-1 : Int) = 1))) ∧ 61 < n ∧ 10 = 10 ∧ (some 0 : Option Nat) = some 0 ∧ ((0 : Nat) = 0 ∨ ((0 : Nat) = 1 ∧ ((0 : Int) = 0 ∨ (0 : Int) = 1))) ∧ 61 < n ∧ 10 = 10 ∧ (some 0 : Option Nat) = some 0 ∧ ((0 : Nat) = 0 ∨ ((0 : Nat) = 1 ∧ ((1 : Int) = 0 ∨ (1 : Int) = 1))) ∧ 61 < n ∧ 10 = 10 ∧ (some 0 : Option Nat) = some 0 ∧ ((0 : Nat) = 0 ∨ ((0 : Nat) = 1 ∧ ((0 : Int) = 0 ∨ (0 : Int) = 1))) ∧ 1 = 1 ∧ (none : Option FieldType) = none ∧ post none (zuF (zuF (zuF (zuF (zuF (zuF W45 61 2 0) 61 3 0) 61 4 (-1)) 61 5 0) 61 6 1) 61 16 0) from (have h := ((((h).2 W37 hr37)).2 W45 hr45); ⟨(Nat.lt_of_lt_of_le (by decide) hn), rfl, rfl, (Or.inl rfl), ⟨(Nat.lt_of_lt_of_le (by decide) hn), rfl, rfl, (Or.inl rfl), ⟨(Nat.lt_of_lt_of_le (by decide) hn), rfl, rfl, (Or.inl rfl), ⟨(Nat.lt_of_lt_of_le (by decide) hn), rfl, rfl, (Or.inl rfl), ⟨(Nat.lt_of_lt_of_le (by decide) hn), rfl, rfl, (Or.inl rfl), ⟨(Nat.lt_of_lt_of_le (by decide) hn), rfl, rfl, (Or.inl rfl), ⟨rfl, rfl, h⟩⟩⟩⟩⟩⟩⟩))⟩⟩)⟩⟩))⟩⟩)⟩⟩))⟩⟩)⟩⟩)
theorem zk_BOclr61_r {l : Launch} {E : jE} {n : Nat} (hn : 73 ≤ n) : zHas l E jcl jtb lw_tbl (zsR 61 73) n (y_BO_clear, false, 1, 10, { frames := 1, cells := 0, slots := 0, locals := 24 }, zc_BOclr61) := by
  refine ⟨⟨rfl, rfl, ⟨show 1 ≤ 1 by decide, m_BO_clear, i_BO_clear, e_BO_clear, fun _ => ⟨_, rfl, rfl⟩⟩⟩, ?_⟩
  rintro vz W po hO hW ⟨rfl, hq, hp⟩
  refine zmet (m := zm_BOclr61) rfl (by decide) (fun _ _ => jtF_ok) lo_BO ao_ZBOclr61 jC (fun q h => by cases h) (aAllc (fun G h => by obtain rfl := Option.some.inj h; exact ql_BO_71) (aAllc (fun G h => by obtain rfl := Option.some.inj h; exact ql_BO_71) (aAllc (fun G h => by obtain rfl := Option.some.inj h; exact ql_BO_74) (aAllc (fun G h => by obtain rfl := Option.some.inj h; exact ql_BO_71) (aAllc (fun G h => by obtain rfl := Option.some.inj h; exact ql_BO_71) (aAllc (fun G h => by obtain rfl := Option.some.inj h; exact ql_BO_71) (fun q h => by cases h))))))) (aAllc (zk_ARfi62_r hn) (aAllc (zk_ARfi63_r hn) (aAllc (zk_ARfl64_r hn) (aAllc (zk_ARfi65_r hn) (aAllc (zk_ARfi66_r hn) (aAllc (zk_ARfi67_r hn) (fun q h => by cases h))))))) (Nat.le_of_ble_eq_true rfl) hO hW (80) ?_
  exact zp_BOclr61_0_r (by omega) hn ⟨(by omega), fun W5 hr5 => ⟨(by omega), fun W13 hr13 => ⟨trivial, fun W21 hr21 => ⟨(by omega), fun W29 hr29 => ⟨(by omega), fun W37 hr37 => ⟨(by omega), fun W45 hr45 => (hp _ ⟨(zFy_F (zFy_F (zFy_F (zFy_F (zFy_F (zFy_F (zFy_t (zFy_t (zFy_t (zFy_t (zFy_t (zFy_t zFy_0 (zFy_w (zFr_x (Ls := []) hr5.1) (fun _ z => by cases z) (by decide) (by decide))) (zFy_w (zFr_x (Ls := []) hr13.1) (fun _ z => by cases z) (by decide) (by decide))) (zFy_w hr21 (fun _ z => by cases z) (by decide) (by decide))) (zFy_w (zFr_x (Ls := []) hr29.1) (fun _ z => by cases z) (by decide) (by decide))) (zFy_w (zFr_x (Ls := []) hr37.1) (fun _ z => by cases z) (by decide) (by decide))) (zFy_w (zFr_x (Ls := []) hr45.1) (fun _ z => by cases z) (by decide) (by decide))) (by decide)) (by decide)) (by decide)) (by decide)) (by decide)) (by decide)), (fun i i0 i1 => by show W45.2.1 62 i = 0; rw [zFr_r hr45.1 62, zFr_r hr37.1 62, zFr_r hr29.1 62, zFy_r hr21 62, zFr_r hr13.1 62, hr5.2 i, if_pos ⟨i0, i1⟩]), (fun i i0 i1 => by show W45.2.1 66 i = 0; rw [zFr_r hr45.1 66, hr37.2 i, if_pos ⟨i0, i1⟩]), rfl, rfl, rfl, rfl, rfl, rfl, (fun c hc => by show W45.2.1 65 c = 0; rw [zFr_r hr45.1 65, zFr_r hr37.1 65, hr29.2 c, if_pos (by omega)])⟩)⟩⟩⟩⟩⟩⟩
set_option maxRecDepth 8000 in
theorem zp_BOsfi61_0_r {n K : Nat} {W : zW} {post : zPo} {u1 : Option zv} (hK : 4 ≤ K) (hn : 73 ≤ n) (h : (True) ∧ ∀ W1 : zW, (zFy [(61, 2), (61, 3), (61, 4), (61, 5), (61, 6), (61, 16)] [62, 63, 65, 66, 67] [64] W W1 ∧ zCb 61 W1) → zwp jtb (zsR 61 73) n zm_BOsfi61 post (K - 4) (lGo ak_ZBOsfi61 6) 6 [some (.inr (.inr (some (.inl 61)))), some (.inl (0))] [] W1) : zwp jtb (zsR 61 73) n zm_BOsfi61 post K (lGo ak_ZBOsfi61 0) 0 [some (.inr (.inr (some (.inl 61)))), u1] [] W := by
  obtain ⟨kk__, rfl⟩ : ∃ kk__, K = kk__ + 4 := ⟨K - 4, by omega⟩
  exact (show 3 = 3 ∧ false = false ∧ jin3 96 644 0 zm_BOsfi61.2.2.1.1 = true ∧ lRm zm_BOsfi61.2.1 { frames := 1, cells := 0, slots := 0, locals := 24 } 1 = true ∧ Nat.ble 1 1 = true ∧ Nat.ble 0 8 = true ∧ 61 < n ∧ 10 = 10 ∧ Nat.ble 1000 10 = false ∧ zc_BOclr61 [.inr (.inr (some (.inl 61)))] W (fun vv__ WW__ => zwp jtb (zsR 61 73) n zm_BOsfi61 post (kk__ + 2) (lGo ak_ZBOsfi61 4) 4 [some (.inr (.inr (some (.inl 61)))), u1] (vv__.toList ++ []) WW__) from ⟨rfl, rfl, rfl, rfl, rfl, rfl, (Nat.lt_of_lt_of_le (by decide) hn), rfl, rfl, rfl, (h).1, fun W1 hr1 => (show zwp jtb (zsR 61 73) n zm_BOsfi61 post (kk__ + 0) (lGo ak_ZBOsfi61 6) 6 [some (.inr (.inr (some (.inl 61)))), some (.inl (0))] [] W1 from ((h).2 W1 hr1))⟩)
set_option maxRecDepth 8000 in
theorem zp_BOsfi61_6_r {n K : Nat} {V : zW} {post : zPo} {f : Int}  (hK : 33 ≤ K) (hn : 73 ≤ n) (h : (8 ≤ f → post none (zuF V 61 3 15)) ∧ (¬ 8 ≤ f → (0 ≤ f ∧ f < 8) ∧ ((0 ≤ f ∧ f < 64) ∧ (0 ≤ ((tv_1.getD f.toNat 0).toInt) ∧ ((tv_1.getD f.toNat 0).toInt) < 16) ∧ (-1000 ≤ V.2.1 66 ((tv_1.getD f.toNat 0).toInt) ∧ V.2.1 66 ((tv_1.getD f.toNat 0).toInt) ≤ 1000)) ∧ ∀ W19 : zW, (zPu 61 V W19 f ((tv_1.getD f.toNat 0).toInt)) → (-2147483648 ≤ 8 + f ∧ 8 + f ≤ 2147483647) ∧ ((0 ≤ (8 + f) ∧ (8 + f) < 64) ∧ (0 ≤ (1 : Int) ∧ (1 : Int) < 16) ∧ (-1000 ≤ W19.2.1 66 (1 : Int) ∧ W19.2.1 66 (1 : Int) ≤ 1000)) ∧ ∀ W28 : zW, (zPu 61 W19 W28 (8 + f) (1 : Int)) → (-2147483648 ≤ 48 + f ∧ 48 + f ≤ 2147483647) ∧ ((0 ≤ (48 + f) ∧ (48 + f) < 64) ∧ (0 ≤ (9 : Int) ∧ (9 : Int) < 16) ∧ (-1000 ≤ W28.2.1 66 (9 : Int) ∧ W28.2.1 66 (9 : Int) ≤ 1000)) ∧ ∀ W38 : zW, (zPu 61 W28 W38 (48 + f) (9 : Int)) → (-2147483648 ≤ 56 + f ∧ 56 + f ≤ 2147483647) ∧ (0 ≤ f ∧ f < 8) ∧ (-2147483648 ≤ 8 + ((tv_1.getD f.toNat 0).toInt) ∧ 8 + ((tv_1.getD f.toNat 0).toInt) ≤ 2147483647) ∧ ((0 ≤ (56 + f) ∧ (56 + f) < 64) ∧ (0 ≤ (8 + ((tv_1.getD f.toNat 0).toInt)) ∧ (8 + ((tv_1.getD f.toNat 0).toInt)) < 16) ∧ (-1000 ≤ W38.2.1 66 (8 + ((tv_1.getD f.toNat 0).toInt)) ∧ W38.2.1 66 (8 + ((tv_1.getD f.toNat 0).toInt)) ≤ 1000)) ∧ ∀ W54 : zW, (zPu 61 W38 W54 (56 + f) (8 + ((tv_1.getD f.toNat 0).toInt))) → (-2147483648 ≤ f + 1 ∧ f + 1 ≤ 2147483647) ∧ zwp jtb (zsR 61 73) n zm_BOsfi61 post (K - 33) (lGo ak_ZBOsfi61 6) 6 [some (.inr (.inr (some (.inl 61)))), some (.inl (f + 1))] [] W54)) : zwp jtb (zsR 61 73) n zm_BOsfi61 post K (lGo ak_ZBOsfi61 6) 6 [some (.inr (.inr (some (.inl 61)))), some (.inl (f))] [] V := by
  obtain ⟨kk__, rfl⟩ : ∃ kk__, K = kk__ + 33 := ⟨K - 33, by omega⟩
  exact (show (8 ≤ f → 61 < n ∧ 10 = 10 ∧ (some 0 : Option Nat) = some 0 ∧ ((0 : Nat) = 0 ∨ ((0 : Nat) = 1 ∧ ((15 : Int) = 0 ∨ (15 : Int) = 1))) ∧ 1 = 1 ∧ (none : Option FieldType) = none ∧ post none (zuF V 61 3 15)) ∧ (¬ 8 ≤ f → FieldType.int = FieldType.int ∧ (0 ≤ f ∧ f < 8) ∧ 3 = 3 ∧ false = false ∧ jin3 102 656 1 zm_BOsfi61.2.2.1.1 = true ∧ lRm zm_BOsfi61.2.1 { frames := 0, cells := 0, slots := 0, locals := 0 } 3 = true ∧ Nat.ble 3 3 = true ∧ Nat.ble 0 8 = true ∧ 61 < n ∧ 10 = 10 ∧ Nat.ble 1000 10 = false ∧ zc_BOput61 [.inr (.inr (some (.inl 61))), .inl (f), .inl ((tv_1.getD f.toNat 0).toInt)] V (fun vv__ WW__ => zwp jtb (zsR 61 73) n zm_BOsfi61 post (kk__ + 24) (lGo ak_ZBOsfi61 22) 22 [some (.inr (.inr (some (.inl 61)))), some (.inl (f))] (vv__.toList ++ []) WW__)) from ⟨fun c9_2 => ⟨(Nat.lt_of_lt_of_le (by decide) hn), rfl, rfl, (Or.inl rfl), ⟨rfl, rfl, ((h).1 c9_2)⟩⟩, fun c9_2 => ⟨rfl, (((h).2 c9_2)).1, ⟨rfl, rfl, rfl, rfl, rfl, rfl, (Nat.lt_of_lt_of_le (by decide) hn), rfl, rfl, f, (tv_1.getD f.toNat 0).toInt, rfl, ((((h).2 c9_2)).2).1, fun W19 hr19 => (show (-2147483648 ≤ 8 + f ∧ 8 + f ≤ 2147483647) ∧ 3 = 3 ∧ false = false ∧ jin3 102 656 1 zm_BOsfi61.2.2.1.1 = true ∧ lRm zm_BOsfi61.2.1 { frames := 0, cells := 0, slots := 0, locals := 0 } 3 = true ∧ Nat.ble 3 3 = true ∧ Nat.ble 0 8 = true ∧ 61 < n ∧ 10 = 10 ∧ Nat.ble 1000 10 = false ∧ zc_BOput61 [.inr (.inr (some (.inl 61))), .inl (8 + f), .inl (1)] W19 (fun vv__ WW__ => zwp jtb (zsR 61 73) n zm_BOsfi61 post (kk__ + 18) (lGo ak_ZBOsfi61 31) 31 [some (.inr (.inr (some (.inl 61)))), some (.inl (f))] (vv__.toList ++ []) WW__) from (have h := (((((h).2 c9_2)).2).2 W19 hr19); ⟨(h).1, ⟨rfl, rfl, rfl, rfl, rfl, rfl, (Nat.lt_of_lt_of_le (by decide) hn), rfl, rfl, 8 + f, 1, rfl, ((h).2).1, fun W28 hr28 => (show (-2147483648 ≤ 48 + f ∧ 48 + f ≤ 2147483647) ∧ 3 = 3 ∧ false = false ∧ jin3 102 656 1 zm_BOsfi61.2.2.1.1 = true ∧ lRm zm_BOsfi61.2.1 { frames := 0, cells := 0, slots := 0, locals := 0 } 3 = true ∧ Nat.ble 3 3 = true ∧ Nat.ble 0 8 = true ∧ 61 < n ∧ 10 = 10 ∧ Nat.ble 1000 10 = false ∧ zc_BOput61 [.inr (.inr (some (.inl 61))), .inl (48 + f), .inl (9)] W28 (fun vv__ WW__ => zwp jtb (zsR 61 73) n zm_BOsfi61 post (kk__ + 12) (lGo ak_ZBOsfi61 41) 41 [some (.inr (.inr (some (.inl 61)))), some (.inl (f))] (vv__.toList ++ []) WW__) from ⟨((((h).2).2 W28 hr28)).1, ⟨rfl, rfl, rfl, rfl, rfl, rfl, (Nat.lt_of_lt_of_le (by decide) hn), rfl, rfl, 48 + f, 9, rfl, (((((h).2).2 W28 hr28)).2).1, fun W38 hr38 => (show (-2147483648 ≤ 56 + f ∧ 56 + f ≤ 2147483647) ∧ FieldType.int = FieldType.int ∧ (0 ≤ f ∧ f < 8) ∧ (-2147483648 ≤ 8 + ((tv_1.getD f.toNat 0).toInt) ∧ 8 + ((tv_1.getD f.toNat 0).toInt) ≤ 2147483647) ∧ 3 = 3 ∧ false = false ∧ jin3 102 656 1 zm_BOsfi61.2.2.1.1 = true ∧ lRm zm_BOsfi61.2.1 { frames := 0, cells := 0, slots := 0, locals := 0 } 3 = true ∧ Nat.ble 3 3 = true ∧ Nat.ble 0 8 = true ∧ 61 < n ∧ 10 = 10 ∧ Nat.ble 1000 10 = false ∧ zc_BOput61 [.inr (.inr (some (.inl 61))), .inl (56 + f), .inl (8 + ((tv_1.getD f.toNat 0).toInt))] W38 (fun vv__ WW__ => zwp jtb (zsR 61 73) n zm_BOsfi61 post (kk__ + 2) (lGo ak_ZBOsfi61 57) 57 [some (.inr (.inr (some (.inl 61)))), some (.inl (f))] (vv__.toList ++ []) WW__) from (have h := ((((((h).2).2 W28 hr28)).2).2 W38 hr38); ⟨(h).1, ⟨rfl, ((h).2).1, ⟨(((h).2).2).1, ⟨rfl, rfl, rfl, rfl, rfl, rfl, (Nat.lt_of_lt_of_le (by decide) hn), rfl, rfl, 56 + f, 8 + ((tv_1.getD f.toNat 0).toInt), rfl, ((((h).2).2).2).1, fun W54 hr54 => (show (-2147483648 ≤ f + 1 ∧ f + 1 ≤ 2147483647) ∧ zwp jtb (zsR 61 73) n zm_BOsfi61 post (kk__ + 0) (lGo ak_ZBOsfi61 6) 6 [some (.inr (.inr (some (.inl 61)))), some (.inl (f + 1))] [] W54 from (have h := (((((h).2).2).2).2 W54 hr54); ⟨(h).1, (h).2⟩))⟩⟩⟩⟩))⟩⟩)⟩⟩))⟩⟩⟩)
theorem zk_BOsfi61_r {l : Launch} {E : jE} {n : Nat} (hn : 73 ≤ n) : zHas l E jcl jtb lw_tbl (zsR 61 73) n (y_BO_setFirst, false, 1, 10, { frames := 2, cells := 0, slots := 0, locals := 44 }, zc_BOsfi61) := by
  refine ⟨⟨rfl, rfl, ⟨show 1 ≤ 1 by decide, m_BO_setFirst, i_BO_setFirst, e_BO_setFirst, fun _ => ⟨_, rfl, rfl⟩⟩⟩, ?_⟩
  rintro vz W po hO hW ⟨rfl, hq, hp⟩
  refine zmet (m := zm_BOsfi61) rfl (by decide) (fun _ _ => jtF_ok) lo_BO ao_ZBOsfi61 jC (fun q h => by cases h) (aAllc (fun G h => by obtain rfl := Option.some.inj h; exact ql_BO_96) (aAllc (fun G h => by obtain rfl := Option.some.inj h; exact ql_BO_102) (fun q h => by cases h))) (aAllc (zk_BOclr61_r hn) (aAllc (zk_BOput61_r hn) (fun q h => by cases h))) (Nat.le_of_ble_eq_true rfl) hO hW (1200) ?_
  have h6 : ∀ W1 : zW, zFy [(61, 2), (61, 3), (61, 4), (61, 5), (61, 6), (61, 16)] [62, 63, 65, 66, 67] [64] W W1 → zCb 61 W1 → ∀ (m K : Nat) (V : zW) (f : Int), 90 * m + 60 ≤ K → (8 - f < m ∧ 0 ≤ f ∧ f ≤ 8) → zMs 61 W1 V (cFi f) → zwp jtb (zsR 61 73) n zm_BOsfi61 po K (lGo ak_ZBOsfi61 6) 6 [some (.inr (.inr (some (.inl 61)))), some (.inl f)] [] V := by
    intro W1 hF1 hC m
    induction m with
    | zero => intro K V f hK hm; omega
    | succ m ih =>
      intro K V f hK hm hV
      have fin : 8 ≤ f → zFy [(61, 2), (61, 3), (61, 4), (61, 5), (61, 6), (61, 16)] [62, 63, 65, 66, 67] [64] W (zuF V 61 3 15) ∧ zBo (zuF V 61 3 15) 61 (uM, 0, 15, -1) ∧ (zuF V 61 3 15).1 61 5 = 0 ∧ (zuF V 61 3 15).1 61 6 = 1 ∧ (zuF V 61 3 15).1 61 16 = 0 := by
        intro z
        have hF : zFy [(61, 2), (61, 3), (61, 4), (61, 5), (61, 6), (61, 16)] [62, 63, 65, 66, 67] [64] W V := zFy_t hF1 (zFy_w hV.1 (fun _ z => by cases z) (fun _ z => z) (fun _ z => z))
        refine ⟨zFy_F hF (by decide), ⟨zBt_x hq.1 (zFy_r hF 69) (zFy_r hF 70), fun s s0 s1 => ?_, (zFy_f hV.1 61 2).trans hC.2.2.1, rfl, (zFy_f hV.1 61 4).trans hC.2.2.2.2.1, hV.2.2⟩, (zFy_f hV.1 61 5).trans hC.2.2.2.2.2.1, (zFy_f hV.1 61 6).trans hC.2.2.2.2.2.2.1, (zFy_f hV.1 61 16).trans hC.2.2.2.2.2.2.2.1⟩
        refine (hV.2.1 s s0 s1).trans ?_
        unfold cFi
        rw [if_pos (by omega)]
      have eF : f < 8 → (tv_1.getD f.toNat 0).toInt = uB f := fun z => cT1 ⟨hm.2.1, z⟩
      have rF := uB_q (f := f)
      have c0 : ∀ j : Int, j % 8 = f → cFi f j = 0 := fun j z => by unfold cFi; rw [if_neg (by omega)]
      by_cases f8 : f < 8
      · have eF := eF f8
        have p1 : ∀ U : zW, zPu 61 V U f (tv_1.getD f.toNat 0).toInt → zMs 61 W1 U (fun j => if j = f then (tv_1.getD f.toNat 0).toInt else cFi f j) := fun U h => zMs_p hV h (by omega) (c0 f (by omega)) (by omega) (fun z j j0 j1 e => (cFi_k ⟨hm.2.1, f8⟩ j0 j1 (by omega)).1 (by omega))
        have p2 : ∀ U X : zW, zPu 61 V U f (tv_1.getD f.toNat 0).toInt → zPu 61 U X (8 + f) 1 → zMs 61 W1 X (fun j => if j = 8 + f then 1 else if j = f then (tv_1.getD f.toNat 0).toInt else cFi f j) := fun U X h h2 => zMs_p (p1 U h) h2 (by omega) (by show (if 8 + f = f then (tv_1.getD f.toNat 0).toInt else cFi f (8 + f)) = 0; rw [if_neg (by omega)]; exact c0 _ (by omega)) (by omega) (fun z => by omega)
        have p3 : ∀ U X Y : zW, zPu 61 V U f (tv_1.getD f.toNat 0).toInt → zPu 61 U X (8 + f) 1 → zPu 61 X Y (48 + f) 9 → zMs 61 W1 Y (fun j => if j = 48 + f then 9 else if j = 8 + f then 1 else if j = f then (tv_1.getD f.toNat 0).toInt else cFi f j) := fun U X Y h h2 h3 => zMs_p (p2 U X h h2) h3 (by omega) (by show (if 48 + f = 8 + f then 1 else if 48 + f = f then (tv_1.getD f.toNat 0).toInt else cFi f (48 + f)) = 0; rw [if_neg (by omega), if_neg (by omega)]; exact c0 _ (by omega)) (by omega) (fun z => by omega)
        have p4 : ∀ U X Y T : zW, zPu 61 V U f (tv_1.getD f.toNat 0).toInt → zPu 61 U X (8 + f) 1 → zPu 61 X Y (48 + f) 9 → zPu 61 Y T (56 + f) (8 + (tv_1.getD f.toNat 0).toInt) → zMs 61 W1 T (cFi (f + 1)) := by
          intro U X Y T h h2 h3 h4
          refine zMs_c (zMs_p (p3 U X Y h h2 h3) h4 (by omega) ?_ (by omega) (fun z j j0 j1 e => ?_)) (fun j j0 j1 => ?_)
          · show (if 56 + f = 48 + f then 9 else if 56 + f = 8 + f then 1 else if 56 + f = f then (tv_1.getD f.toNat 0).toInt else cFi f (56 + f)) = 0
            rw [if_neg (by omega), if_neg (by omega), if_neg (by omega)]; exact c0 _ (by omega)
          · have u6 : uB f = 6 := by omega
            have k := (cFi_k ⟨hm.2.1, f8⟩ j0 j1 u6).2
            by_cases d1 : j = 48 + f
            · rw [if_pos d1] at e; omega
            · rw [if_neg d1] at e
              by_cases d2 : j = 8 + f
              · rw [if_pos d2] at e; omega
              · rw [if_neg d2] at e
                by_cases d3 : j = f
                · rw [if_pos d3] at e; omega
                · rw [if_neg d3] at e; exact k (by omega)
          · rw [eF]
            exact cFi_s ⟨hm.2.1, f8⟩ j0 j1
        exact zp_BOsfi61_6_r (by omega) hn ⟨fun c9 => (hp _ (fin (by omega))), fun c9 => ⟨(by omega), ⟨⟨by omega, by omega, zMs_n hV (by omega)⟩, fun W19 hr19 => ⟨(by omega), ⟨⟨by omega, by omega, zMs_n (p1 _ hr19) (by omega)⟩, fun W28 hr28 => ⟨(by omega), ⟨⟨by omega, by omega, zMs_n (p2 _ _ hr19 hr28) (by omega)⟩, fun W38 hr38 => ⟨(by omega), ⟨(by omega), ⟨(by omega), ⟨⟨by omega, by omega, zMs_n (p3 _ _ _ hr19 hr28 hr38) (by omega)⟩, fun W54 hr54 => ⟨(by omega), (ih _ _ (f + 1) (by omega) (by omega) (p4 _ _ _ _ hr19 hr28 hr38 hr54))⟩⟩⟩⟩⟩⟩⟩⟩⟩⟩⟩⟩
      · exact zp_BOsfi61_6_r (by omega) hn ⟨fun c9 => (hp _ (fin (by omega))), fun z => absurd z (by omega)⟩
  exact zp_BOsfi61_0_r (by omega) hn ⟨trivial, fun W1 hr1 => (h6 W1 hr1.1 hr1.2 9 _ W1 0 (by omega) (by omega) ⟨zFy_0, fun s s0 s1 => by rw [hr1.2.1 s s0 s1]; unfold cFi; rw [if_neg (by omega)], zCb_i hr1.2 (fun i i0 i1 => by show 0 ≤ W1.2.1 68 i ∧ W1.2.1 68 i ≤ 1100; rw [zFy_r hr1.1 68]; exact hq.2 i i0 i1)⟩)⟩
end
