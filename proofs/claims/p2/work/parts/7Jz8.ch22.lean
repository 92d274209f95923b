/-! throws of the class, and the law's own helpers, in any world -/
section JFX
variable {E : jE} {own : String} {Ts : List Jvm.Cond} {cl : List vw_C} {tb : jTb} {nL : Nat} {ini : Bool} {cc : ByteArray} {M : jM} {Q : State → Prop} {n : Nat}
theorem jf_iadd (X : jX E own Ts cl tb nL ini cc M) {pc : Nat} (hd : decode cc pc = .ok (.iadd, 1)) {lv : List (Option jv)} {r : List jv} {σ : Nat → jcell} {x y : Int32} (k : jF E cl nL M Q n (pc + 1) lv (.inl (x + y) :: r) σ) : jF E cl nL M Q n pc lv (.inl y :: .inl x :: r) σ := by
  obtain ⟨hx, hb, -⟩ := X
  exact fun ls hW hL => lv_iadd (x := x) (y := y) hx hb hd (k ls hW hL)
theorem jf_bipush (X : jX E own Ts cl tb nL ini cc M) {pc : Nat} {i : Int} {v : Int32} (hd : decode cc pc = .ok (.bipush i, 2)) (hv : (Int8.ofInt i).toInt32 = v) {lv : List (Option jv)} {r : List jv} {σ : Nat → jcell} (k : jF E cl nL M Q n (pc + 2) lv (.inl v :: r) σ) : jF E cl nL M Q n pc lv r σ := by
  obtain ⟨hx, hb, -⟩ := X
  exact fun ls hW hL => lv_bipush hx hb hd hv (k ls hW hL)
theorem jf_ldc (X : jX E own Ts cl tb nL ini cc M) {pc i wi : Nat} {v : Int32} (hd : decode cc pc = .ok (.ldc i, 2)) (hw : Ts[wi]? = some (Jvm.Cond.constant own i v)) {lv : List (Option jv)} {r : List jv} {σ : Nat → jcell} (k : jF E cl nL M Q n (pc + 2) lv (.inl v :: r) σ) : jF E cl nL M Q n pc lv r σ := by
  obtain ⟨hx, hb, -, ho, hts, -⟩ := X
  exact fun ls hW hL => lv_ldc hx hb ho (hts _ (jTA_in hw rfl)) hd (k ls hW hL)
end JFX
theorem tw_uoe : jTw lw_tbl "ChessHouse" 95 "java/lang/UnsupportedOperationException" ["java/lang/RuntimeException", "java/lang/Exception"] := jTw_of [317, 893, 902, 906, 909, 911, 894, 895, 340, 341, 896, 901, 907, 923, 883, 924, 885, 925, 887, 897, 899, 889, 913, 914, 915, 916, 916, 917, 918, 919, 919, 920, 921, 894, 912, 872, 880, 881, 882, 884, 886, 888, 892, 891, 890] (by decide +kernel) (by decide +kernel)
set_option maxRecDepth 100000 in
set_option maxHeartbeats 4000000 in
theorem ct_CH_end (l : Launch) (E : jE) {σ : Nat → jcell} {n ch : Nat} {fs : List jv} (hlt : l.stackTraces = false) (hc : ch < n) (hs : σ ch = .inr (0, fs)) {fd q : Int32} (hf : fs[12]? = some (.inl fd)) (hq : q < 0 ∨ ¬ q ≤ fd) : jMetT l E jcl jtb lw_tbl y_CH_end { frames := 6, cells := 1, slots := 6, locals := 81 } [.inr (.inr (some (.inl ch))), .inl q] σ n "java/lang/IllegalArgumentException" := by
  refine jMetT_of (hY := rfl) (by decide) (Nat.le_of_ble_eq_true rfl) [some (.inr (.inr (some (.inl ch)))), some (.inl q), none, none, none] rfl ?_
  intro M hl hR X hTh hex
  have thr : jF E jcl 5 M (jQT E jcl M "java/lang/IllegalArgumentException" σ n) n 12 [some (.inr (.inr (some (.inl ch)))), some (.inl q), none, none, none] [] σ := jf_thr0 X hR (by rw [hl]; exact hlt) hTh hex d_CH_end_12 (by decide +kernel) d_CH_end_16 d_CH_end_19 (jTA_in (wi := 946) (jtF_ok rfl) rfl) (jTA_in (wi := 947) (jtF_ok rfl) rfl) (jTA_in (wi := 321) (jtF_ok rfl) rfl) (by decide +kernel) (by decide +kernel) tw_iae (by decide)
  refine jf_iload_n X (i := 1) (by decide +kernel) rfl ?_
  refine jf_iflt X (tg := 12) (z := 11) (by decide +kernel) rfl (fun _ => thr) (fun h0 => ?_)
  refine jf_iload_n X (i := 1) (by decide +kernel) rfl ?_
  refine jf_aload_n X (i := 0) (by decide +kernel) rfl ?_
  refine jf_get jC X (ci := 0) (f := 12) (i := 89) (wi := 825) (by decide +kernel) rfl (by decide) (by decide +kernel) hc hs hf ?_
  exact jf_icle X (tg := 20) (z := 11) (by decide +kernel) rfl (fun h1 => (hq.elim (fun h9 => absurd h9 h0) (fun h9 => absurd h1 h9))) (fun _ => thr)
set_option maxRecDepth 100000 in
set_option maxHeartbeats 4000000 in
theorem ct_CH_out (l : Launch) (E : jE) {σ : Nat → jcell} {n ch : Nat} {fs : List jv} (hlt : l.stackTraces = false) (hc : ch < n) (hs : σ ch = .inr (0, fs)) {b : Nat} {fb : List jv} {ln q : Int32} (h1 : fs[1]? = some (.inr (.inr (some (.inl b))))) (hb : b < n) (hbs : σ b = .inr (1, fb)) (hln : fb[1]? = some (.inl ln)) (hq : q < 0 ∨ ¬ q < ln) : jMetT l E jcl jtb lw_tbl y_CH_out { frames := 6, cells := 1, slots := 6, locals := 81 } [.inr (.inr (some (.inl ch))), .inl q] σ n "java/lang/IndexOutOfBoundsException" := by
  refine jMetT_of (hY := rfl) (by decide) (Nat.le_of_ble_eq_true rfl) [some (.inr (.inr (some (.inl ch)))), some (.inl q)] rfl ?_
  intro M hl hR X hTh hex
  have thr : jF E jcl 2 M (jQT E jcl M "java/lang/IndexOutOfBoundsException" σ n) n 15 [some (.inr (.inr (some (.inl ch)))), some (.inl q)] [] σ := jf_thr0 X hR (by rw [hl]; exact hlt) hTh hex d_CH_out_15 (by decide +kernel) d_CH_out_19 d_CH_out_22 (jTA_in (wi := 1886) (jtF_ok rfl) rfl) (jTA_in (wi := 1887) (jtF_ok rfl) rfl) (jTA_in (wi := 333) (jtF_ok rfl) rfl) (by decide +kernel) (by decide +kernel) tw_iob (by decide)
  refine jf_iload_n X (i := 1) (by decide +kernel) rfl ?_
  refine jf_iflt X (tg := 15) (z := 14) (by decide +kernel) rfl (fun _ => thr) (fun h0 => ?_)
  refine jf_iload_n X (i := 1) (by decide +kernel) rfl ?_
  refine jf_aload_n X (i := 0) (by decide +kernel) rfl ?_
  refine jf_get jC X (ci := 0) (f := 1) (i := 20) (wi := 814) (by decide +kernel) rfl (by decide) (by decide +kernel) hc hs h1 ?_
  refine jf_get jC X (ci := 1) (f := 1) (i := 123) (wi := 355) (by decide +kernel) rfl (by decide) (by decide +kernel) hb hbs hln ?_
  exact jf_iclt X (tg := 23) (z := 11) (by decide +kernel) rfl (fun h2 => (hq.elim (fun h9 => absurd h9 h0) (fun h9 => absurd h2 h9))) (fun _ => thr)
set_option maxRecDepth 100000 in
set_option maxHeartbeats 4000000 in
theorem ct_CH_feed (l : Launch) (E : jE) {σ : Nat → jcell} {n ch : Nat} {fs : List jv} (hlt : l.stackTraces = false) (hc : ch < n) (hs : σ ch = .inr (0, fs)) {fd v0 v1 v2 v3 v4 : Int32} (hf : fs[12]? = some (.inl fd)) (hq : ¬ fd + 20 ≤ 65536) : jMetT l E jcl jtb lw_tbl y_CH_feed { frames := 6, cells := 1, slots := 6, locals := 81 } [.inr (.inr (some (.inl ch))), .inl v0, .inl v1, .inl v2, .inl v3, .inl v4] σ n "java/lang/UnsupportedOperationException" := by
  refine jMetT_of (hY := rfl) (by decide) (Nat.le_of_ble_eq_true rfl) [some (.inr (.inr (some (.inl ch)))), some (.inl v0), some (.inl v1), some (.inl v2), some (.inl v3), some (.inl v4)] rfl ?_
  intro M hl hR X hTh hex
  have thr : jF E jcl 6 M (jQT E jcl M "java/lang/UnsupportedOperationException" σ n) n 12 [some (.inr (.inr (some (.inl ch)))), some (.inl v0), some (.inl v1), some (.inl v2), some (.inl v3), some (.inl v4)] [] σ := jf_thr0 X hR (by rw [hl]; exact hlt) hTh hex d_CH_feed_12 (by decide +kernel) d_CH_feed_16 d_CH_feed_19 (jTA_in (wi := 871) (jtF_ok rfl) rfl) (jTA_in (wi := 872) (jtF_ok rfl) rfl) (jTA_in (wi := 320) (jtF_ok rfl) rfl) (by decide +kernel) (by decide +kernel) tw_uoe (by decide)
  refine jf_aload_n X (i := 0) (by decide +kernel) rfl ?_
  refine jf_get jC X (ci := 0) (f := 12) (i := 89) (wi := 825) (by decide +kernel) rfl (by decide) (by decide +kernel) hc hs hf ?_
  refine jf_bipush X (i := 20) (v := 20) (by decide +kernel) (by decide) ?_
  refine jf_iadd X (by decide +kernel) ?_
  refine jf_ldc X (i := 16) (wi := 345) (v := 65536) (by decide +kernel) (jtF_ok rfl) ?_
  exact jf_icle X (tg := 20) (z := 11) (by decide +kernel) rfl (fun h1 => absurd h1 hq) (fun _ => thr)
set_option maxRecDepth 100000 in
set_option maxHeartbeats 4000000 in
theorem cw_feed (l : Launch) (E : jE) {K : Nat → Nat} {σ : Nat → jcell} {n ch en : Nat} {fs : List jv} {fd v0 v1 v2 v3 v4 : Int32} (hi : cI K n σ ch en) (hs : σ ch = .inr (0, fs)) (hf : fs[12]? = some (.inl fd)) (hq : fd.toInt ≤ 65516) : jMetW l E jcl jtb lw_tbl y_LA_feed [(0, 11, 14, 13)] { frames := 2, cells := 0, slots := 0, locals := 80 } [.inr (.inr (some (.inl ch))), .inl v0, .inl v1, .inl v2, .inl v3, .inl v4] σ n (fun r σ' n' => r = some (.inl 0) ∧ n' = n ∧ cI K n σ' ch en ∧ fS K n σ σ' ∧ ∃ (fs' : List jv) (fd' : Int32), σ' ch = .inr (0, fs') ∧ fs'[12]? = some (.inl fd') ∧ fd'.toInt = fd.toInt + 20) := by
  refine jMetW_of (hY := rfl) (by decide) (Nat.le_of_ble_eq_true rfl) [some (.inr (.inr (some (.inl ch)))), some (.inl v0), some (.inl v1), some (.inl v2), some (.inl v3), some (.inl v4), none] rfl ?_
  intro M hl hR X hr hTh hex
  obtain ⟨w, fd9, nx, fa, -, -, -, c12, -, -, tf, -⟩ := ch_f hi.1 hi.2.2.2.2.2.2.1 hi.2.2.2.2.2.2.2.1 hs
  rw [hf] at c12
  cases c12
  have hM := zc_CHfeed (l := M.2.1) (E := E) K n bP0 σ [.inr (.inr (some (.inl ch))), .inl v0, .inl v1, .inl v2, .inl v3, .inl v4, .inl fd] hi.1 hi.2.2.1 ⟨rfl, fun i e v he hv => by
    match i, he, hv with
    | 0, he, hv => cases he; cases hv; exact ⟨⟨hi.2.2.2.2.2.2.1, Or.inl hi.2.2.2.2.2.2.2.1⟩, trivial⟩
    | 1, he, hv => cases he; cases hv; exact ⟨aIn_32 _, trivial⟩
    | 2, he, hv => cases he; cases hv; exact ⟨aIn_32 _, trivial⟩
    | 3, he, hv => cases he; cases hv; exact ⟨aIn_32 _, trivial⟩
    | 4, he, hv => cases he; cases hv; exact ⟨aIn_32 _, trivial⟩
    | 5, he, hv => cases he; cases hv; exact ⟨aIn_32 _, trivial⟩
    | 6, he, hv => cases he; cases hv; exact ⟨⟨tf.1, hq⟩, trivial⟩
    | i + 7, he, _ => cases he⟩ ⟨aAllc ⟨ch, 0, fs, _, rfl, hs, hf, rfl⟩ (fun q hq => by cases hq), fun q hq => (by cases hq), fun q hq => (by cases hq), fun q hq => (by cases hq)⟩
  refine jrun_ok jC X k_LA_feed_0 0 _ _ _ o_LA_feed_0 ?_
  simp only [k_LA_feed_0, jrun, jstep, jldi, jldl, jlda, j1, j2, jl1, jl2, jli, ja1, jbr, jald, jast, jlald, jlast, jalen, jget, jput, jfit, jdup, jdupx, jdupx2, jdup2, jcat, jset1, jset2, jkill, List.getElem?_cons_zero, List.getElem?_cons_succ, List.set_cons_zero, List.set_cons_succ, List.length_cons, List.length_nil, Nat.reduceAdd, Nat.reduceLT, Int32.reduceToNatClampNeg, true_and, and_true, and_self, reduceCtorEq, not_false_eq_true, false_and, and_false, or_false, false_or, true_or, or_true]
  refine jk_Vg X hR d_LA_feed_8 q_LA_feed_8 m_CH_feed i_CH_feed e_CH_feed (ci := 0) rfl rfl hi.2.2.2.2.2.2.1 hs hM rfl rfl ⟨(Nat.le_of_ble_eq_true rfl), (Nat.le_of_ble_eq_true rfl)⟩ (c' := 0) rfl (s' := 0) rfl ⟨(Nat.le_of_ble_eq_true rfl), (Nat.le_of_ble_eq_true rfl)⟩ (Nat.le_of_ble_eq_true rfl) (pc' := 11) rfl ?_
  rintro r σ2 n2 ⟨hn2, p1, p2, p3, p4, p5, xs, p6, p7, A, hA, hAf⟩
  obtain rfl : n = _ := hn2.symm
  obtain rfl : r = none := by
    cases r with
    | none => rfl
    | some v => cases p5
  obtain ⟨j1, j2⟩ := cI_fr2 hi p1 p2 p3 p4 (by decide +kernel) (by decide +kernel)
  obtain ⟨a1, c1, fs2, v1, z1, z2, z3, z4⟩ := p7.1 (0, 12, 7) (List.mem_of_getElem? (i := 0) rfl)
  cases z1
  obtain ⟨fs3, k1, -⟩ := p3 ch hi.2.2.2.2.2.2.1 0 fs hs
  rw [k1] at z2
  obtain ⟨rfl, rfl⟩ := Prod.mk.inj (Sum.inr.inj z2)
  obtain ⟨fd', rfl, t7⟩ := aG_int (p6.2 7 _ v1 rfl z4).1
  have q1 := p7.2.2.1 ([(7, 1), (6, -1)], -20) (List.mem_of_getElem? (i := 0) rfl)
  have q2 := p7.2.2.1 ([(7, -1), (6, 1)], 20) (List.mem_of_getElem? (i := 1) rfl)
  have hfd : fd'.toInt = fd.toInt + 20 := by
    obtain ⟨w1, w2, w3⟩ := q1
    obtain ⟨y1, y2, y3⟩ := q2
    have z4' : ([.inr (.inr (some (.inl ch))), .inl v0, .inl v1, .inl v2, .inl v3, .inl v4, .inl fd] ++ ((none : Option jv).toList ++ xs))[7]? = some (.inl fd') := z4
    have z6 : ([.inr (.inr (some (.inl ch))), .inl v0, .inl v1, .inl v2, .inl v3, .inl v4, .inl fd] ++ ((none : Option jv).toList ++ xs))[6]? = some (.inl fd) := rfl
    simp only [aEv, z4', z6, aI, Option.some.injEq] at w2 y2
    omega
  simp only [Option.toList_none, List.nil_append]
  refine jrun_ok jC X k_LA_feed_11 11 _ _ _ o_LA_feed_11 ?_
  simp only [k_LA_feed_11, jrun, jstep, jldi, jldl, jlda, j1, j2, jl1, jl2, jli, ja1, jbr, jald, jast, jlald, jlast, jalen, jget, jput, jfit, jdup, jdupx, jdupx2, jdup2, jcat, jset1, jset2, jkill, List.getElem?_cons_zero, List.getElem?_cons_succ, List.set_cons_zero, List.set_cons_succ, List.length_cons, List.length_nil, Nat.reduceAdd, Nat.reduceLT, Int32.reduceToNatClampNeg, true_and, and_true, and_self, reduceCtorEq, not_false_eq_true, false_and, and_false, or_false, false_or, true_or, or_true]
  refine jrun_ok jC X k_LA_feed_18 18 _ _ _ o_LA_feed_18 ?_
  simp only [k_LA_feed_18, jrun, jstep, jldi, jldl, jlda, j1, j2, jl1, jl2, jli, ja1, jbr, jald, jast, jlald, jlast, jalen, jget, jput, jfit, jdup, jdupx, jdupx2, jdup2, jcat, jset1, jset2, jkill, List.getElem?_cons_zero, List.getElem?_cons_succ, List.set_cons_zero, List.set_cons_succ, List.length_cons, List.length_nil, Nat.reduceAdd, Nat.reduceLT, Int32.reduceToNatClampNeg, true_and, and_true, and_self, reduceCtorEq, not_false_eq_true, false_and, and_false, or_false, false_or, true_or, or_true]
  exact jk_iret X d_LA_feed_19 hr rfl (Nat.le_refl _) (Nat.le_refl _) ⟨rfl, rfl, j1, j2, fs3, fd', k1, z3, hfd⟩
set_option maxRecDepth 100000 in
set_option maxHeartbeats 4000000 in
theorem cw_feedT (l : Launch) (E : jE) {K : Nat → Nat} {σ : Nat → jcell} {n ch en : Nat} {fs : List jv} {fd v0 v1 v2 v3 v4 : Int32} (hlt : l.stackTraces = false) (hc : ch < n) (hs : σ ch = .inr (0, fs)) (hf : fs[12]? = some (.inl fd)) (hq : ¬ fd + 20 ≤ 65536) : jMetW l E jcl jtb lw_tbl y_LA_feed [(0, 11, 14, 13)] { frames := 8, cells := 1, slots := 6, locals := 140 } [.inr (.inr (some (.inl ch))), .inl v0, .inl v1, .inl v2, .inl v3, .inl v4] σ n (fun r σ' n' => r = some (.inl 1) ∧ n' = n + 1 ∧ σ' = jup σ n jun) := by
  refine jMetW_of (hY := rfl) (by decide) (Nat.le_of_ble_eq_true rfl) [some (.inr (.inr (some (.inl ch)))), some (.inl v0), some (.inl v1), some (.inl v2), some (.inl v3), some (.inl v4), none] rfl ?_
  intro M hl hR X hr hTh hex
  refine jrun_ok jC X k_LA_feed_0 0 _ _ _ o_LA_feed_0 ?_
  simp only [k_LA_feed_0, jrun, jstep, jldi, jldl, jlda, j1, j2, jl1, jl2, jli, ja1, jbr, jald, jast, jlald, jlast, jalen, jget, jput, jfit, jdup, jdupx, jdupx2, jdup2, jcat, jset1, jset2, jkill, List.getElem?_cons_zero, List.getElem?_cons_succ, List.set_cons_zero, List.set_cons_succ, List.length_cons, List.length_nil, Nat.reduceAdd, Nat.reduceLT, Int32.reduceToNatClampNeg, true_and, and_true, and_self, reduceCtorEq, not_false_eq_true, false_and, and_false, or_false, false_or, true_or, or_true]
  refine jk_VT X hR hTh d_LA_feed_8 (jTA_in (wi := 867) (jtF_ok rfl) rfl) m_CH_feed i_CH_feed e_CH_feed (ci := 0) rfl rfl hc hs (ct_CH_feed M.2.1 E (by rw [hl]; exact hlt) hc hs hf hq) rfl rfl (by decide) (by decide) (Nat.le_of_ble_eq_true rfl) _ (jtab1 hex) (by decide) (by decide) (jTA_in (wi := 866) (jtF_ok rfl) rfl) (by simp [jTx, jtw]) ?_
  refine jrun_ok jC X k_LA_feed_14 14 _ _ _ o_LA_feed_14 ?_
  simp only [k_LA_feed_14, jrun, jstep, jldi, jldl, jlda, j1, j2, jl1, jl2, jli, ja1, jbr, jald, jast, jlald, jlast, jalen, jget, jput, jfit, jdup, jdupx, jdupx2, jdup2, jcat, jset1, jset2, jkill, List.getElem?_cons_zero, List.getElem?_cons_succ, List.set_cons_zero, List.set_cons_succ, List.length_cons, List.length_nil, Nat.reduceAdd, Nat.reduceLT, Int32.reduceToNatClampNeg, true_and, and_true, and_self, reduceCtorEq, not_false_eq_true, false_and, and_false, or_false, false_or, true_or, or_true]
  exact jk_iret X d_LA_feed_17 hr rfl (Nat.le_refl _) (Nat.le_refl _) ⟨rfl, rfl, rfl⟩
set_option maxRecDepth 100000 in
set_option maxHeartbeats 4000000 in
theorem cw_endT (l : Launch) (E : jE) {K : Nat → Nat} {σ : Nat → jcell} {n ch en : Nat} {fs : List jv} {fd q : Int32} {o : Nat} (hlt : l.stackTraces = false) (hc : ch < n) (hs : σ ch = .inr (0, fs)) (hf : fs[12]? = some (.inl fd)) (hq : q < 0 ∨ ¬ q ≤ fd) : jMetW l E jcl jtb lw_tbl y_LA_end [(0, 9, 12, 19)] { frames := 8, cells := 1, slots := 6, locals := 140 } [.inr (.inr (some (.inl ch))), .inl q, .inr (.inr (some (.inl o)))] σ n (fun r σ' n' => r = some (.inl 1) ∧ n' = n + 1 ∧ σ' = jup σ n jun) := by
  refine jMetW_of (hY := rfl) (by decide) (Nat.le_of_ble_eq_true rfl) [some (.inr (.inr (some (.inl ch)))), some (.inl q), some (.inr (.inr (some (.inl o)))), none] rfl ?_
  intro M hl hR X hr hTh hex
  refine jrun_ok jC X k_LA_end_0 0 _ _ _ o_LA_end_0 ?_
  simp only [k_LA_end_0, jrun, jstep, jldi, jldl, jlda, j1, j2, jl1, jl2, jli, ja1, jbr, jald, jast, jlald, jlast, jalen, jget, jput, jfit, jdup, jdupx, jdupx2, jdup2, jcat, jset1, jset2, jkill, List.getElem?_cons_zero, List.getElem?_cons_succ, List.set_cons_zero, List.set_cons_succ, List.length_cons, List.length_nil, Nat.reduceAdd, Nat.reduceLT, Int32.reduceToNatClampNeg, true_and, and_true, and_self, reduceCtorEq, not_false_eq_true, false_and, and_false, or_false, false_or, true_or, or_true]
  refine jk_VT X hR hTh d_LA_end_4 (jTA_in (wi := 942) (jtF_ok rfl) rfl) m_CH_end i_CH_end e_CH_end (ci := 0) rfl rfl hc hs (ct_CH_end M.2.1 E (by rw [hl]; exact hlt) hc hs hf hq) rfl rfl (by decide) (by decide) (Nat.le_of_ble_eq_true rfl) _ (jtab1 hex) (by decide) (by decide) (jTA_in (wi := 941) (jtF_ok rfl) rfl) (by simp [jTx, jtw]) ?_
  refine jrun_ok jC X k_LA_end_12 12 _ _ _ o_LA_end_12 ?_
  simp only [k_LA_end_12, jrun, jstep, jldi, jldl, jlda, j1, j2, jl1, jl2, jli, ja1, jbr, jald, jast, jlald, jlast, jalen, jget, jput, jfit, jdup, jdupx, jdupx2, jdup2, jcat, jset1, jset2, jkill, List.getElem?_cons_zero, List.getElem?_cons_succ, List.set_cons_zero, List.set_cons_succ, List.length_cons, List.length_nil, Nat.reduceAdd, Nat.reduceLT, Int32.reduceToNatClampNeg, true_and, and_true, and_self, reduceCtorEq, not_false_eq_true, false_and, and_false, or_false, false_or, true_or, or_true]
  exact jk_iret X d_LA_end_14 hr rfl (Nat.le_refl _) (Nat.le_refl _) ⟨rfl, rfl, rfl⟩
set_option maxRecDepth 100000 in
set_option maxHeartbeats 4000000 in
theorem cw_outT (l : Launch) (E : jE) {K : Nat → Nat} {σ : Nat → jcell} {n ch en : Nat} {fs : List jv} {b : Nat} {fb : List jv} {ln q : Int32} {o : Nat} (hlt : l.stackTraces = false) (hc : ch < n) (hs : σ ch = .inr (0, fs)) (h1 : fs[1]? = some (.inr (.inr (some (.inl b))))) (hb : b < n) (hbs : σ b = .inr (1, fb)) (hln : fb[1]? = some (.inl ln)) (hq : q < 0 ∨ ¬ q < ln) : jMetW l E jcl jtb lw_tbl y_LA_out [(0, 9, 12, 24)] { frames := 8, cells := 1, slots := 6, locals := 140 } [.inr (.inr (some (.inl ch))), .inl q, .inr (.inr (some (.inl o)))] σ n (fun r σ' n' => r = some (.inl 1) ∧ n' = n + 1 ∧ σ' = jup σ n jun) := by
  refine jMetW_of (hY := rfl) (by decide) (Nat.le_of_ble_eq_true rfl) [some (.inr (.inr (some (.inl ch)))), some (.inl q), some (.inr (.inr (some (.inl o)))), none] rfl ?_
  intro M hl hR X hr hTh hex
  refine jrun_ok jC X k_LA_out_0 0 _ _ _ o_LA_out_0 ?_
  simp only [k_LA_out_0, jrun, jstep, jldi, jldl, jlda, j1, j2, jl1, jl2, jli, ja1, jbr, jald, jast, jlald, jlast, jalen, jget, jput, jfit, jdup, jdupx, jdupx2, jdup2, jcat, jset1, jset2, jkill, List.getElem?_cons_zero, List.getElem?_cons_succ, List.set_cons_zero, List.set_cons_succ, List.length_cons, List.length_nil, Nat.reduceAdd, Nat.reduceLT, Int32.reduceToNatClampNeg, true_and, and_true, and_self, reduceCtorEq, not_false_eq_true, false_and, and_false, or_false, false_or, true_or, or_true]
  refine jk_VT X hR hTh d_LA_out_4 (jTA_in (wi := 1882) (jtF_ok rfl) rfl) m_CH_out i_CH_out e_CH_out (ci := 0) rfl rfl hc hs (ct_CH_out M.2.1 E (by rw [hl]; exact hlt) hc hs h1 hb hbs hln hq) rfl rfl (by decide) (by decide) (Nat.le_of_ble_eq_true rfl) _ (jtab1 hex) (by decide) (by decide) (jTA_in (wi := 1881) (jtF_ok rfl) rfl) (by simp [jTx, jtw]) ?_
  refine jrun_ok jC X k_LA_out_12 12 _ _ _ o_LA_out_12 ?_
  simp only [k_LA_out_12, jrun, jstep, jldi, jldl, jlda, j1, j2, jl1, jl2, jli, ja1, jbr, jald, jast, jlald, jlast, jalen, jget, jput, jfit, jdup, jdupx, jdupx2, jdup2, jcat, jset1, jset2, jkill, List.getElem?_cons_zero, List.getElem?_cons_succ, List.set_cons_zero, List.set_cons_succ, List.length_cons, List.length_nil, Nat.reduceAdd, Nat.reduceLT, Int32.reduceToNatClampNeg, true_and, and_true, and_self, reduceCtorEq, not_false_eq_true, false_and, and_false, or_false, false_or, true_or, or_true]
  exact jk_iret X d_LA_out_14 hr rfl (Nat.le_refl _) (Nat.le_refl _) ⟨rfl, rfl, rfl⟩
noncomputable def hRm (K : Nat → Nat) (n : Nat) : Room := { frames := 16, cells := 5 - tC K n, slots := 638976 - tS K n, locals := 480 }
/-- what nobody but the law touches -/
noncomputable def fSo (K : Nat → Nat) (n o : Nat) (σ σ' : Nat → jcell) : Prop := ∀ a, a < n → a ≠ o → fo1 (K a) → ¬ gk (K a) → σ' a = σ a
set_option maxRecDepth 100000 in
set_option maxHeartbeats 4000000 in
theorem cw_end (l : Launch) (E : jE) {K : Nat → Nat} {σ : Nat → jcell} {n ch en : Nat} {fs : List jv} {w o : Nat} {q fd : Int32} {G : Nat → Int64} (hi : cI K n σ ch en) (hu : uW K n w) (hs : σ ch = .inr (0, fs)) (hf : fs[12]? = some (.inl fd)) (hq0 : 0 ≤ q.toInt) (hq1 : q.toInt ≤ fd.toInt) (ho : o < n) (hok : K o = 999) (hG : σ o = .inl (.long, 1, .inr (.inl G))) : jMetW l E jcl jtb lw_tbl y_LA_end [(0, 9, 12, 19)] (hRm K n) [.inr (.inr (some (.inl ch))), .inl q, .inr (.inr (some (.inl o)))] σ n (fun r σ' n' => r = some (.inl 0) ∧ ∃ K', wR K n K' n' ∧ cI K' n' σ' ch en ∧ fSo K n o σ σ' ∧ (∃ G', σ' o = .inl (.long, 1, .inr (.inl G'))) ∧ ∃ (fs' : List jv) (fd' : Int32), σ' ch = .inr (0, fs') ∧ fs'[12]? = some (.inl fd') ∧ fd'.toInt = 0) := by
  refine jMetW_of (hY := rfl) (by decide) (Nat.le_of_ble_eq_true rfl) [some (.inr (.inr (some (.inl ch)))), some (.inl q), some (.inr (.inr (some (.inl o)))), none] rfl ?_
  intro M hl hR X hr hTh hex
  refine jrun_ok jC X k_LA_end_0 0 _ _ _ o_LA_end_0 ?_
  simp only [k_LA_end_0, jrun, jstep, jldi, jldl, jlda, j1, j2, jl1, jl2, jli, ja1, jbr, jald, jast, jlald, jlast, jalen, jget, jput, jfit, jdup, jdupx, jdupx2, jdup2, jcat, jset1, jset2, jkill, List.getElem?_cons_zero, List.getElem?_cons_succ, List.set_cons_zero, List.set_cons_succ, List.length_cons, List.length_nil, Nat.reduceAdd, Nat.reduceLT, Int32.reduceToNatClampNeg, true_and, and_true, and_self, reduceCtorEq, not_false_eq_true, false_and, and_false, or_false, false_or, true_or, or_true]
  refine jk_Vg X hR d_LA_end_4 q_LA_end_4 m_CH_end i_CH_end e_CH_end (ci := 0) rfl rfl hi.2.2.2.2.2.2.1 hs (cz_end (l := M.2.1) (E := E) hi hu hs hf hq0 hq1) rfl rfl ⟨(Nat.le_of_ble_eq_true rfl), (Nat.le_of_ble_eq_true rfl)⟩ rfl rfl ⟨by show 0 + (5 - _) ≤ 5 - _; omega, by show 0 + (638976 - _) ≤ 638976 - _; omega⟩ (Nat.le_of_ble_eq_true rfl) (pc' := 7) rfl ?_
  rintro _ σ2 n2 ⟨⟨v, rfl⟩, K2, w2, i2, f2, fs2, fd2, d1, d2, d3⟩
  have hog : ¬ gk (K o) := by rw [hok]; unfold gk; omega
  have hok2 : K2 o = 999 := (w2.2.1 o ho hog).trans hok
  have ho2 : o < n2 := Nat.lt_of_lt_of_le ho w2.1
  have hoo : (o < n2) = True := eq_true ho2
  have hcl : σ2 o = .inl (.long, 1, .inr (.inl G)) := (f2 o ho (by rw [hok]; unfold fo1; omega) hog).trans hG
  have z1 : vp_in 0 1 = True := eq_true (by unfold vp_in; decide)
  have hne : ch ≠ o := fun e => by
    rw [e, hG] at hs
    cases hs
  simp only [Option.toList_some, List.cons_append, List.nil_append]
  refine jrun_ok jC X k_LA_end_7 7 _ _ _ o_LA_end_7 ?_
  simp only [k_LA_end_7, jrun, jstep, jldi, jldl, jlda, j1, j2, jl1, jl2, jli, ja1, jbr, jald, jast, jlald, jlast, jalen, jget, jput, jfit, jdup, jdupx, jdupx2, jdup2, jcat, jset1, jset2, jkill, List.getElem?_cons_zero, List.getElem?_cons_succ, List.set_cons_zero, List.set_cons_succ, List.length_cons, List.length_nil, Nat.reduceAdd, Nat.reduceLT, Int32.reduceToNatClampNeg, true_and, and_true, and_self, reduceCtorEq, not_false_eq_true, false_and, and_false, or_false, false_or, true_or, or_true, hoo, hcl, z1]
  refine jrun_ok jC X k_LA_end_15 15 _ _ _ o_LA_end_15 ?_
  simp only [k_LA_end_15, jrun, jstep, jldi, jldl, jlda, j1, j2, jl1, jl2, jli, ja1, jbr, jald, jast, jlald, jlast, jalen, jget, jput, jfit, jdup, jdupx, jdupx2, jdup2, jcat, jset1, jset2, jkill, List.getElem?_cons_zero, List.getElem?_cons_succ, List.set_cons_zero, List.set_cons_succ, List.length_cons, List.length_nil, Nat.reduceAdd, Nat.reduceLT, Int32.reduceToNatClampNeg, true_and, and_true, and_self, reduceCtorEq, not_false_eq_true, false_and, and_false, or_false, false_or, true_or, or_true]
  refine jk_iret X d_LA_end_16 hr rfl (by show 0 + (5 - _) ≤ 5 - _; omega) (by show 0 + (638976 - _) ≤ 638976 - _; omega) ⟨rfl, K2, w2, cI_up i2 ho2 hok2 trivial, fun a ha hne h1 h2 => (jup_n hne).trans (f2 a ha h1 h2), ⟨_, jup_s⟩, fs2, fd2, (jup_n hne).trans d1, d2, d3⟩
set_option maxRecDepth 100000 in
set_option maxHeartbeats 4000000 in
theorem cw_out (l : Launch) (E : jE) {K : Nat → Nat} {σ : Nat → jcell} {n ch en : Nat} {fs : List jv} {b o : Nat} {fb : List jv} {q ln : Int32} {G : Nat → Int64} (hi : cI K n σ ch en) (hs : σ ch = .inr (0, fs)) (h1 : fs[1]? = some (.inr (.inr (some (.inl b))))) (hb : b < n) (hbk : K b = 2) (hbs : σ b = .inr (1, fb)) (hln : fb[1]? = some (.inl ln)) (hl9 : ln.toInt ≤ 65536) (hq0 : 0 ≤ q.toInt) (hq1 : q.toInt < ln.toInt) (ho : o < n) (hok : K o = 999) (hG : σ o = .inl (.long, 1, .inr (.inl G))) : jMetW l E jcl jtb lw_tbl y_LA_out [(0, 9, 12, 24)] { frames := 2, cells := 0, slots := 0, locals := 80 } [.inr (.inr (some (.inl ch))), .inl q, .inr (.inr (some (.inl o)))] σ n (fun r σ' n' => r = some (.inl 0) ∧ n' = n ∧ ∃ G', σ' = jup σ o (.inl (.long, 1, .inr (.inl G')))) := by
  refine jMetW_of (hY := rfl) (by decide) (Nat.le_of_ble_eq_true rfl) [some (.inr (.inr (some (.inl ch)))), some (.inl q), some (.inr (.inr (some (.inl o)))), none] rfl ?_
  intro M hl hR X hr hTh hex
  have hM := zc_CHout (l := M.2.1) (E := E) K n bP0 σ [.inr (.inr (some (.inl ch))), .inl q, .inr (.inr (some (.inl b))), .inl ln] hi.1 hi.2.2.1 ⟨rfl, fun i e v he hv => by
    match i, he, hv with
    | 0, he, hv => cases he; cases hv; exact ⟨⟨hi.2.2.2.2.2.2.1, Or.inl hi.2.2.2.2.2.2.2.1⟩, trivial⟩
    | 1, he, hv => cases he; cases hv; exact ⟨⟨hq0, by show q.toInt ≤ 65536; omega⟩, trivial⟩
    | 2, he, hv => cases he; cases hv; exact ⟨⟨hb, Or.inl hbk⟩, trivial⟩
    | 3, he, hv => cases he; cases hv; exact ⟨⟨by show 0 ≤ ln.toInt; omega, hl9⟩, trivial⟩
    | i + 4, he, _ => cases he⟩ ⟨aAllc ⟨ch, 0, fs, _, rfl, hs, h1, rfl⟩ (aAllc ⟨b, 1, fb, _, rfl, hbs, hln, rfl⟩ (fun q hq => by cases hq)), fun q hq => (by cases hq), aAllc ⟨_, rfl, by show 0 ≤ 1 * ln.toInt + (-1 * q.toInt + 0) + -1; omega⟩ (fun q hq => by cases hq), fun q hq => (by cases hq)⟩
  refine jrun_ok jC X k_LA_out_0 0 _ _ _ o_LA_out_0 ?_
  simp only [k_LA_out_0, jrun, jstep, jldi, jldl, jlda, j1, j2, jl1, jl2, jli, ja1, jbr, jald, jast, jlald, jlast, jalen, jget, jput, jfit, jdup, jdupx, jdupx2, jdup2, jcat, jset1, jset2, jkill, List.getElem?_cons_zero, List.getElem?_cons_succ, List.set_cons_zero, List.set_cons_succ, List.length_cons, List.length_nil, Nat.reduceAdd, Nat.reduceLT, Int32.reduceToNatClampNeg, true_and, and_true, and_self, reduceCtorEq, not_false_eq_true, false_and, and_false, or_false, false_or, true_or, or_true]
  refine jk_Vg X hR d_LA_out_4 q_LA_out_4 m_CH_out i_CH_out e_CH_out (ci := 0) rfl rfl hi.2.2.2.2.2.2.1 hs hM rfl rfl ⟨(Nat.le_of_ble_eq_true rfl), (Nat.le_of_ble_eq_true rfl)⟩ (c' := 0) rfl (s' := 0) rfl ⟨(Nat.le_of_ble_eq_true rfl), (Nat.le_of_ble_eq_true rfl)⟩ (Nat.le_of_ble_eq_true rfl) (pc' := 7) rfl ?_
  rintro r σ2 n2 ⟨hn2, p1, p2, p3, p4, p5, xs, p6, -⟩
  obtain rfl : n = _ := hn2.symm
  have hsame : ∀ a, a < n → σ2 a = σ a := fun a ha => zPl_eq p3 p4 ha (hi.2.2.2.2.2.1 a ha) (fun q hq => by cases hq) (fun q hq => by cases hq)
  cases r with
  | none => cases p5
  | some v =>
    obtain ⟨x, rfl, -⟩ := aG_int (p6.2 4 _ v rfl rfl).1
    refine jJ_congr (σ2 := σ) (fun a ha => hsame a ha) ?_
    have hoo : (o < n) = True := eq_true ho
    have z1 : vp_in 0 1 = True := eq_true (by unfold vp_in; decide)
    simp only [Option.toList_some, List.cons_append, List.nil_append]
    refine jrun_ok jC X k_LA_out_7 7 _ _ _ o_LA_out_7 ?_
    simp only [k_LA_out_7, jrun, jstep, jldi, jldl, jlda, j1, j2, jl1, jl2, jli, ja1, jbr, jald, jast, jlald, jlast, jalen, jget, jput, jfit, jdup, jdupx, jdupx2, jdup2, jcat, jset1, jset2, jkill, List.getElem?_cons_zero, List.getElem?_cons_succ, List.set_cons_zero, List.set_cons_succ, List.length_cons, List.length_nil, Nat.reduceAdd, Nat.reduceLT, Int32.reduceToNatClampNeg, true_and, and_true, and_self, reduceCtorEq, not_false_eq_true, false_and, and_false, or_false, false_or, true_or, or_true, hoo, hG, z1]
    refine jrun_ok jC X k_LA_out_15 15 _ _ _ o_LA_out_15 ?_
    simp only [k_LA_out_15, jrun, jstep, jldi, jldl, jlda, j1, j2, jl1, jl2, jli, ja1, jbr, jald, jast, jlald, jlast, jalen, jget, jput, jfit, jdup, jdupx, jdupx2, jdup2, jcat, jset1, jset2, jkill, List.getElem?_cons_zero, List.getElem?_cons_succ, List.set_cons_zero, List.set_cons_succ, List.length_cons, List.length_nil, Nat.reduceAdd, Nat.reduceLT, Int32.reduceToNatClampNeg, true_and, and_true, and_self, reduceCtorEq, not_false_eq_true, false_and, and_false, or_false, false_or, true_or, or_true]
    exact jk_iret X d_LA_out_16 hr rfl (Nat.le_refl _) (Nat.le_refl _) ⟨rfl, rfl, _, rfl⟩
