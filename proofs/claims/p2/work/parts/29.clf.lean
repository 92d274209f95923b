/-! the words of a throw, the roads that throw, and the law's own helpers -/
theorem jTw_of {Ts : List Jvm.Cond} {own cls : String} {ic : Nat} {names : List String} (is : List Nat) (h : is.map (fun i => Ts[i]?) = ((Bundle.ownAtoms0 own ic cls names).filter (fun a => !decide (a ∈ jTx))).map some) (hg : ((Bundle.ownAtoms0 own ic cls names).filter (fun a => !decide (a ∈ jTx))).all jgood = true) : jTw Ts own ic cls names := by
  intro a ha
  by_cases hn : a ∈ jTx
  · exact Or.inr hn
  · left
    have h0 : a ∈ (Bundle.ownAtoms0 own ic cls names).filter (fun a => !decide (a ∈ jTx)) := List.mem_filter.mpr ⟨ha, by simp [hn]⟩
    have h1 : some a ∈ is.map (fun i => Ts[i]?) := by rw [h]; exact List.mem_map.mpr ⟨a, h0, rfl⟩
    obtain ⟨i, -, hi⟩ := List.mem_map.mp h1
    exact List.mem_filter.mpr ⟨List.mem_of_getElem? hi, List.all_eq_true.mp hg a h0⟩
theorem jtab1 {l : List ExceptionTableEntry} {a b c d : Nat} (h : l.map (fun h => (h.startPc, h.endPc, h.handlerPc, h.catchType)) = [(a, b, c, d)]) : l = [⟨a, b, c, d⟩] := by
  match l, h with
  | [x], h =>
    obtain ⟨x1, x2, x3, x4⟩ := x
    simp only [List.map_cons, List.map_nil, List.cons.injEq, Prod.mk.injEq, and_true] at h
    obtain ⟨rfl, rfl, rfl, rfl⟩ := h
    rfl
theorem tw_iae : jTw lw_tbl "ChessHouse" 101 "java/lang/IllegalArgumentException" ["java/lang/RuntimeException", "java/lang/Exception"] := jTw_of [317, 893, 902, 906, 909, 911, 894, 895, 340, 341, 896, 901, 907, 923, 883, 924, 885, 925, 887, 897, 899, 889, 956, 957, 958, 916, 916, 917, 918, 919, 919, 920, 921, 894, 955, 947, 949, 904, 950, 951, 952, 953, 892, 891, 954] (by decide +kernel) (by decide +kernel)
theorem tw_iob : jTw lw_tbl "ChessHouse" 128 "java/lang/IndexOutOfBoundsException" ["java/lang/RuntimeException", "java/lang/Exception"] := jTw_of [317, 893, 902, 906, 909, 911, 894, 895, 340, 341, 896, 901, 907, 923, 883, 924, 885, 925, 887, 897, 899, 889, 1896, 1897, 1898, 916, 916, 917, 918, 919, 919, 920, 921, 894, 1895, 1887, 1889, 905, 1890, 1891, 1892, 1893, 892, 891, 1894] (by decide +kernel) (by decide +kernel)
set_option maxRecDepth 100000 in
set_option maxHeartbeats 4000000 in
theorem c_CH_end_T (l : Launch) (E : jE) (σ : Nat → jcell) (n : Nat) (a n0 : Nat) (hab : a < n0) (hn0 : n0 + 86 ≤ n) (F : Nat → Int32) (g w : jv) (T D : Nat → Int32) (ln : Int32) (hlt : l.stackTraces = false) (hF : F 12 = 0) (q : Int32) (hq : q ≠ 0) : jMetT l E jcl jtb lw_tbl y_CH_end { frames := 6, cells := 1, slots := 6, locals := 81 } [.inr (.inr (some (.inl (a)))), .inl q] (chP σ a n0 F g w T D ln) n "java/lang/IllegalArgumentException" := by
  refine jMetT_of (hY := rfl) (by decide) (Nat.le_of_ble_eq_true rfl) [some (.inr (.inr (some (.inl (a))))), some (.inl q), none, none, none] rfl ?_
  intro M hl hR X hTh hex
  have thr : jF E jcl 5 M (jQT E jcl M "java/lang/IllegalArgumentException" (chP σ a n0 F g w T D ln) n) n 12 [some (.inr (.inr (some (.inl (a))))), some (.inl q), none, none, none] [] (chP σ a n0 F g w T D ln) := jf_thr0 X hR (by rw [hl]; exact hlt) hTh hex d_CH_end_12 (by decide +kernel) d_CH_end_16 d_CH_end_19 (jTA_in (wi := 946) (by decide +kernel) rfl) (jTA_in (wi := 947) (by decide +kernel) rfl) (jTA_in (wi := 321) (by decide +kernel) rfl) (by decide +kernel) (by decide +kernel) tw_iae (by decide)
  refine jf_iload_n X (i := 1) (by decide +kernel) rfl ?_
  refine jf_iflt X (tg := 12) (z := 11) (by decide +kernel) rfl (fun _ => thr) (fun h0 => ?_)
  refine jf_iload_n X (i := 1) (by decide +kernel) rfl ?_
  refine jf_aload_n X (i := 0) (by decide +kernel) rfl ?_
  refine jf_get jC X (ci := 0) (f := 12) (i := 89) (wi := 825) (by decide +kernel) rfl (by decide) (by decide +kernel) (by omega) ch_a ch_f12 ?_
  refine jf_icle X (tg := 20) (z := 11) (by decide +kernel) rfl (fun h1 => ?_) (fun _ => thr)
  rw [hF] at h1
  exact absurd (Int32.le_antisymm h1 (Int32.not_lt.mp h0)) hq
set_option maxRecDepth 100000 in
set_option maxHeartbeats 4000000 in
theorem c_CH_out_T (l : Launch) (E : jE) (σ : Nat → jcell) (n : Nat) (a n0 : Nat) (hab : a < n0) (hn0 : n0 + 86 ≤ n) (F : Nat → Int32) (g w : jv) (T D : Nat → Int32) (ln : Int32) (hlt : l.stackTraces = false) (hln : ln = 0) (q : Int32) : jMetT l E jcl jtb lw_tbl y_CH_out { frames := 6, cells := 1, slots := 6, locals := 81 } [.inr (.inr (some (.inl (a)))), .inl q] (chP σ a n0 F g w T D ln) n "java/lang/IndexOutOfBoundsException" := by
  refine jMetT_of (hY := rfl) (by decide) (Nat.le_of_ble_eq_true rfl) [some (.inr (.inr (some (.inl (a))))), some (.inl q)] rfl ?_
  intro M hl hR X hTh hex
  have thr : jF E jcl 2 M (jQT E jcl M "java/lang/IndexOutOfBoundsException" (chP σ a n0 F g w T D ln) n) n 15 [some (.inr (.inr (some (.inl (a))))), some (.inl q)] [] (chP σ a n0 F g w T D ln) := jf_thr0 X hR (by rw [hl]; exact hlt) hTh hex d_CH_out_15 (by decide +kernel) d_CH_out_19 d_CH_out_22 (jTA_in (wi := 1886) (by decide +kernel) rfl) (jTA_in (wi := 1887) (by decide +kernel) rfl) (jTA_in (wi := 333) (by decide +kernel) rfl) (by decide +kernel) (by decide +kernel) tw_iob (by decide)
  refine jf_iload_n X (i := 1) (by decide +kernel) rfl ?_
  refine jf_iflt X (tg := 15) (z := 14) (by decide +kernel) rfl (fun _ => thr) (fun h0 => ?_)
  refine jf_iload_n X (i := 1) (by decide +kernel) rfl ?_
  refine jf_aload_n X (i := 0) (by decide +kernel) rfl ?_
  refine jf_get jC X (ci := 0) (f := 1) (i := 20) (wi := 814) (by decide +kernel) rfl (by decide) (by decide +kernel) (by omega) ch_a ch_f1 ?_
  refine jf_get jC X (ci := 1) (f := 1) (i := 123) (wi := 355) (by decide +kernel) rfl (by decide) (by decide +kernel) (by omega) (ch_b hab) rfl ?_
  refine jf_iclt X (tg := 23) (z := 11) (by decide +kernel) rfl (fun h1 => ?_) (fun _ => thr)
  rw [hln] at h1
  exact absurd h1 h0
def y_LA_feed : jY := (⟨"ChessHouseLaw", "feed", "(LChessHouse;IIIII)I"⟩, method_3_code, 7, (some .int))
theorem w_LA_feed : Jvm.Cond.codeWith y_LA_feed.1 y_LA_feed.2.1 y_LA_feed.2.2.1 y_LA_feed.2.2.2 [(0, 11, 14, 13)] ∈ jTA lw_tbl := jTA_in (wi := 865) (by decide +kernel) rfl
theorem n_LA_feed : Jvm.Cond.initialized y_LA_feed.1.cls ∈ jTA lw_tbl := jTA_in (wi := 301) (by decide +kernel) rfl
theorem s_LA_feed : Jvm.Cond.static y_LA_feed.1 ∈ jTA lw_tbl := jTA_in (wi := 864) (by decide +kernel) rfl
def kk_LA_feed_0 : List jI := [(.aload_n 0, 1, (0, 0, 0, 0, 0)), (.iload_n 1, 1, (1, 0, 0, 0, 0)), (.iload_n 2, 1, (2, 0, 0, 0, 0)), (.iload_n 3, 1, (3, 0, 0, 0, 0)), (.iload 4, 2, (4, 0, 0, 0, 0)), (.iload 5, 2, (5, 0, 0, 0, 0)), (.invokevirtual 7, 3, (0, 0, 0, 0, 0)), (.goto 7, 3, (18, 0, 0, 0, 0)), (.astore 6, 2, (6, 0, 0, 0, 0)), (.iconst 1, 1, (0, 0, 0, 1, 0)), (.ireturn, 1, (0, 0, 0, 0, 0)), (.iconst 0, 1, (0, 0, 0, 0, 0)), (.ireturn, 1, (0, 0, 0, 0, 0))]
theorem oo_LA_feed_0 : jokL "ChessHouseLaw" lw_tbl jcl jtb 7 false method_3_code 0 kk_LA_feed_0 = true := by decide +kernel
def k_LA_feed_0 : List jI := [(.aload_n 0, 1, (0, 0, 0, 0, 0)), (.iload_n 1, 1, (1, 0, 0, 0, 0)), (.iload_n 2, 1, (2, 0, 0, 0, 0)), (.iload_n 3, 1, (3, 0, 0, 0, 0)), (.iload 4, 2, (4, 0, 0, 0, 0)), (.iload 5, 2, (5, 0, 0, 0, 0))]
theorem o_LA_feed_0 : jokL "ChessHouseLaw" lw_tbl jcl jtb 7 false method_3_code 0 k_LA_feed_0 = true := jok_sub oo_LA_feed_0 0 6 rfl rfl
def k_LA_feed_11 : List jI := [(.goto 7, 3, (18, 0, 0, 0, 0))]
theorem o_LA_feed_11 : jokL "ChessHouseLaw" lw_tbl jcl jtb 7 false method_3_code 11 k_LA_feed_11 = true := jok_sub oo_LA_feed_0 7 1 rfl rfl
def k_LA_feed_14 : List jI := [(.astore 6, 2, (6, 0, 0, 0, 0)), (.iconst 1, 1, (0, 0, 0, 1, 0))]
theorem o_LA_feed_14 : jokL "ChessHouseLaw" lw_tbl jcl jtb 7 false method_3_code 14 k_LA_feed_14 = true := jok_sub oo_LA_feed_0 8 2 rfl rfl
def k_LA_feed_18 : List jI := [(.iconst 0, 1, (0, 0, 0, 0, 0))]
theorem o_LA_feed_18 : jokL "ChessHouseLaw" lw_tbl jcl jtb 7 false method_3_code 18 k_LA_feed_18 = true := jok_sub oo_LA_feed_0 11 1 rfl rfl
theorem d_LA_feed_8 : decode method_3_code 8 = .ok (.invokevirtual 7, 3) := by decide +kernel
theorem q_LA_feed_8 : jlm lw_tbl 867 "ChessHouseLaw" 7 ⟨"ChessHouse", "feed", "(IIIII)V"⟩ = true := by decide +kernel
theorem d_LA_feed_17 : decode method_3_code 17 = .ok (.ireturn, 1) := by decide +kernel
theorem d_LA_feed_19 : decode method_3_code 19 = .ok (.ireturn, 1) := by decide +kernel
def y_LA_end : jY := (⟨"ChessHouseLaw", "end", "(LChessHouse;I[J)I"⟩, method_4_code, 4, (some .int))
theorem w_LA_end : Jvm.Cond.codeWith y_LA_end.1 y_LA_end.2.1 y_LA_end.2.2.1 y_LA_end.2.2.2 [(0, 9, 12, 19)] ∈ jTA lw_tbl := jTA_in (wi := 940) (by decide +kernel) rfl
theorem n_LA_end : Jvm.Cond.initialized y_LA_end.1.cls ∈ jTA lw_tbl := jTA_in (wi := 301) (by decide +kernel) rfl
theorem s_LA_end : Jvm.Cond.static y_LA_end.1 ∈ jTA lw_tbl := jTA_in (wi := 939) (by decide +kernel) rfl
def kk_LA_end_0 : List jI := [(.aload_n 2, 1, (2, 0, 0, 0, 0)), (.iconst 0, 1, (0, 0, 0, 0, 0)), (.aload_n 0, 1, (0, 0, 0, 0, 0)), (.iload_n 1, 1, (1, 0, 0, 0, 0)), (.invokevirtual 15, 3, (0, 0, 0, 0, 0)), (.i2l, 1, (0, 0, 0, 0, 0)), (.lastore, 1, (0, 0, 0, 0, 0)), (.goto 6, 3, (15, 0, 0, 0, 0)), (.astore_n 3, 1, (3, 0, 0, 0, 0)), (.iconst 1, 1, (0, 0, 0, 1, 0)), (.ireturn, 1, (0, 0, 0, 0, 0)), (.iconst 0, 1, (0, 0, 0, 0, 0)), (.ireturn, 1, (0, 0, 0, 0, 0))]
theorem oo_LA_end_0 : jokL "ChessHouseLaw" lw_tbl jcl jtb 4 false method_4_code 0 kk_LA_end_0 = true := by decide +kernel
def k_LA_end_0 : List jI := [(.aload_n 2, 1, (2, 0, 0, 0, 0)), (.iconst 0, 1, (0, 0, 0, 0, 0)), (.aload_n 0, 1, (0, 0, 0, 0, 0)), (.iload_n 1, 1, (1, 0, 0, 0, 0))]
theorem o_LA_end_0 : jokL "ChessHouseLaw" lw_tbl jcl jtb 4 false method_4_code 0 k_LA_end_0 = true := jok_sub oo_LA_end_0 0 4 rfl rfl
def k_LA_end_7 : List jI := [(.i2l, 1, (0, 0, 0, 0, 0)), (.lastore, 1, (0, 0, 0, 0, 0)), (.goto 6, 3, (15, 0, 0, 0, 0))]
theorem o_LA_end_7 : jokL "ChessHouseLaw" lw_tbl jcl jtb 4 false method_4_code 7 k_LA_end_7 = true := jok_sub oo_LA_end_0 5 3 rfl rfl
def k_LA_end_12 : List jI := [(.astore_n 3, 1, (3, 0, 0, 0, 0)), (.iconst 1, 1, (0, 0, 0, 1, 0))]
theorem o_LA_end_12 : jokL "ChessHouseLaw" lw_tbl jcl jtb 4 false method_4_code 12 k_LA_end_12 = true := jok_sub oo_LA_end_0 8 2 rfl rfl
def k_LA_end_15 : List jI := [(.iconst 0, 1, (0, 0, 0, 0, 0))]
theorem o_LA_end_15 : jokL "ChessHouseLaw" lw_tbl jcl jtb 4 false method_4_code 15 k_LA_end_15 = true := jok_sub oo_LA_end_0 11 1 rfl rfl
theorem d_LA_end_4 : decode method_4_code 4 = .ok (.invokevirtual 15, 3) := by decide +kernel
theorem q_LA_end_4 : jlm lw_tbl 942 "ChessHouseLaw" 15 ⟨"ChessHouse", "end", "(I)I"⟩ = true := by decide +kernel
theorem d_LA_end_14 : decode method_4_code 14 = .ok (.ireturn, 1) := by decide +kernel
theorem d_LA_end_16 : decode method_4_code 16 = .ok (.ireturn, 1) := by decide +kernel
def y_LA_out : jY := (⟨"ChessHouseLaw", "out", "(LChessHouse;I[J)I"⟩, method_5_code, 4, (some .int))
theorem w_LA_out : Jvm.Cond.codeWith y_LA_out.1 y_LA_out.2.1 y_LA_out.2.2.1 y_LA_out.2.2.2 [(0, 9, 12, 24)] ∈ jTA lw_tbl := jTA_in (wi := 1880) (by decide +kernel) rfl
theorem n_LA_out : Jvm.Cond.initialized y_LA_out.1.cls ∈ jTA lw_tbl := jTA_in (wi := 301) (by decide +kernel) rfl
theorem s_LA_out : Jvm.Cond.static y_LA_out.1 ∈ jTA lw_tbl := jTA_in (wi := 1879) (by decide +kernel) rfl
def kk_LA_out_0 : List jI := [(.aload_n 2, 1, (2, 0, 0, 0, 0)), (.iconst 0, 1, (0, 0, 0, 0, 0)), (.aload_n 0, 1, (0, 0, 0, 0, 0)), (.iload_n 1, 1, (1, 0, 0, 0, 0)), (.invokevirtual 21, 3, (0, 0, 0, 0, 0)), (.i2l, 1, (0, 0, 0, 0, 0)), (.lastore, 1, (0, 0, 0, 0, 0)), (.goto 6, 3, (15, 0, 0, 0, 0)), (.astore_n 3, 1, (3, 0, 0, 0, 0)), (.iconst 1, 1, (0, 0, 0, 1, 0)), (.ireturn, 1, (0, 0, 0, 0, 0)), (.iconst 0, 1, (0, 0, 0, 0, 0)), (.ireturn, 1, (0, 0, 0, 0, 0))]
theorem oo_LA_out_0 : jokL "ChessHouseLaw" lw_tbl jcl jtb 4 false method_5_code 0 kk_LA_out_0 = true := by decide +kernel
def k_LA_out_0 : List jI := [(.aload_n 2, 1, (2, 0, 0, 0, 0)), (.iconst 0, 1, (0, 0, 0, 0, 0)), (.aload_n 0, 1, (0, 0, 0, 0, 0)), (.iload_n 1, 1, (1, 0, 0, 0, 0))]
theorem o_LA_out_0 : jokL "ChessHouseLaw" lw_tbl jcl jtb 4 false method_5_code 0 k_LA_out_0 = true := jok_sub oo_LA_out_0 0 4 rfl rfl
def k_LA_out_7 : List jI := [(.i2l, 1, (0, 0, 0, 0, 0)), (.lastore, 1, (0, 0, 0, 0, 0)), (.goto 6, 3, (15, 0, 0, 0, 0))]
theorem o_LA_out_7 : jokL "ChessHouseLaw" lw_tbl jcl jtb 4 false method_5_code 7 k_LA_out_7 = true := jok_sub oo_LA_out_0 5 3 rfl rfl
def k_LA_out_12 : List jI := [(.astore_n 3, 1, (3, 0, 0, 0, 0)), (.iconst 1, 1, (0, 0, 0, 1, 0))]
theorem o_LA_out_12 : jokL "ChessHouseLaw" lw_tbl jcl jtb 4 false method_5_code 12 k_LA_out_12 = true := jok_sub oo_LA_out_0 8 2 rfl rfl
def k_LA_out_15 : List jI := [(.iconst 0, 1, (0, 0, 0, 0, 0))]
theorem o_LA_out_15 : jokL "ChessHouseLaw" lw_tbl jcl jtb 4 false method_5_code 15 k_LA_out_15 = true := jok_sub oo_LA_out_0 11 1 rfl rfl
theorem d_LA_out_4 : decode method_5_code 4 = .ok (.invokevirtual 21, 3) := by decide +kernel
theorem q_LA_out_4 : jlm lw_tbl 1882 "ChessHouseLaw" 21 ⟨"ChessHouse", "out", "(I)I"⟩ = true := by decide +kernel
theorem d_LA_out_14 : decode method_5_code 14 = .ok (.ireturn, 1) := by decide +kernel
theorem d_LA_out_16 : decode method_5_code 16 = .ok (.ireturn, 1) := by decide +kernel
set_option maxRecDepth 100000 in
set_option maxHeartbeats 4000000 in
theorem c_LA_feed (l : Launch) (E : jE) (σ : Nat → jcell) (n : Nat) (a n0 : Nat) (hab : a < n0) (hn0 : n0 + 86 ≤ n) (F : Nat → Int32) (g w : jv) (T D : Nat → Int32) (ln : Int32) (k : Nat) (hk : k + 20 ≤ 65536) (hF : F 12 = nI k) (v0 v1 v2 v3 v4 : Int32) : jMetW l E jcl jtb lw_tbl y_LA_feed [(0, 11, 14, 13)] { frames := 2, cells := 0, slots := 0, locals := 80 } [.inr (.inr (some (.inl (a)))), .inl v0, .inl v1, .inl v2, .inl v3, .inl v4] (chP σ a n0 F g w T D ln) n (fun r σ' n' => r = some (.inl 0) ∧ n' = n ∧ σ' = (chP σ a n0 (va_up F 12 (nI (k + 20))) g w (lay20 T k v0 v1 v2 v3 v4) D ln)) := by
  refine jMetW_of (hY := rfl) (by decide) (Nat.le_of_ble_eq_true rfl) [some (.inr (.inr (some (.inl (a))))), some (.inl v0), some (.inl v1), some (.inl v2), some (.inl v3), some (.inl v4), none] rfl ?_
  intro M hl hR X hr hTh hex
  have haa : (a < n) = True := eq_true (by omega)
  refine jrun_ok jC X k_LA_feed_0 0 _ _ _ o_LA_feed_0 ?_
  simp only [k_LA_feed_0, jrun, jstep, jldi, jldl, jlda, j1, j2, jl1, jl2, jli, ja1, jbr, jald, jast, jlald, jlast, jalen, jget, jput, jfit, jdup, jdupx, jdupx2, jdup2, jcat, jset1, jset2, jkill, List.getElem?_cons_zero, List.getElem?_cons_succ, List.set_cons_zero, List.set_cons_succ, List.length_cons, List.length_nil, Nat.reduceAdd, Nat.reduceLT, Int32.reduceToNatClampNeg, true_and, and_true, and_self, reduceCtorEq, not_false_eq_true, false_and, and_false, or_false, false_or, true_or, or_true]
  refine jk_Vg X hR d_LA_feed_8 q_LA_feed_8 m_CH_feed i_CH_feed e_CH_feed (ci := 0) rfl rfl (by omega) ch_a (c_CH_feed M.2.1 E _ _ _ _ hab hn0 _ _ _ _ _ _ k hk hF _ _ _ _ _) rfl rfl ⟨Nat.le_of_ble_eq_true rfl, Nat.le_of_ble_eq_true rfl⟩ (c' := 0) rfl (s' := 0) rfl ⟨Nat.le_of_ble_eq_true rfl, Nat.le_of_ble_eq_true rfl⟩ (Nat.le_of_ble_eq_true rfl) (pc' := 11) rfl ?_
  rintro _ _ _ ⟨rfl, hn2, rfl⟩
  obtain rfl : n = _ := hn2.symm
  simp only [Option.toList_none, List.nil_append]
  refine jrun_ok jC X k_LA_feed_11 11 _ _ _ o_LA_feed_11 ?_
  simp only [k_LA_feed_11, jrun, jstep, jldi, jldl, jlda, j1, j2, jl1, jl2, jli, ja1, jbr, jald, jast, jlald, jlast, jalen, jget, jput, jfit, jdup, jdupx, jdupx2, jdup2, jcat, jset1, jset2, jkill, List.getElem?_cons_zero, List.getElem?_cons_succ, List.set_cons_zero, List.set_cons_succ, List.length_cons, List.length_nil, Nat.reduceAdd, Nat.reduceLT, Int32.reduceToNatClampNeg, true_and, and_true, and_self, reduceCtorEq, not_false_eq_true, false_and, and_false, or_false, false_or, true_or, or_true]
  refine jrun_ok jC X k_LA_feed_18 18 _ _ _ o_LA_feed_18 ?_
  simp only [k_LA_feed_18, jrun, jstep, jldi, jldl, jlda, j1, j2, jl1, jl2, jli, ja1, jbr, jald, jast, jlald, jlast, jalen, jget, jput, jfit, jdup, jdupx, jdupx2, jdup2, jcat, jset1, jset2, jkill, List.getElem?_cons_zero, List.getElem?_cons_succ, List.set_cons_zero, List.set_cons_succ, List.length_cons, List.length_nil, Nat.reduceAdd, Nat.reduceLT, Int32.reduceToNatClampNeg, true_and, and_true, and_self, reduceCtorEq, not_false_eq_true, false_and, and_false, or_false, false_or, true_or, or_true]
  exact jk_iret X d_LA_feed_19 hr rfl (Nat.le_refl _) (Nat.le_refl _) ⟨rfl, rfl, rfl⟩
set_option maxRecDepth 100000 in
set_option maxHeartbeats 4000000 in
theorem c_LA_end_0 (l : Launch) (E : jE) (σ : Nat → jcell) (n : Nat) (a n0 : Nat) (hab : a < n0) (hn0 : n0 + 86 ≤ n) (F : Nat → Int32) (g w : jv) (T D : Nat → Int32) (ln : Int32) (hF : F 12 = 0) (o : Nat) (ho : o < n) (o1 : o ≠ a) (o2 : o ≠ n0) (o3 : o ≠ n0 + 1) (o4 : o ≠ n0 + 2) (G : Nat → Int64) (hG : σ o = .inl (.long, 1, .inr (.inl G))) : jMetW l E jcl jtb lw_tbl y_LA_end [(0, 9, 12, 19)] { frames := 2, cells := 0, slots := 0, locals := 80 } [.inr (.inr (some (.inl (a)))), .inl 0, .inr (.inr (some (.inl (o))))] (chP σ a n0 F g w T D ln) n (fun r σ' n' => r = some (.inl 0) ∧ n' = n ∧ σ' = jup (chP σ a n0 (va_up (va_up (va_up F 14 0) 13 0) 12 0) g w (upd T 0 10) D 0) o (.inl (.long, 1, .inr (.inl (vp_updL G 0 (Int32.toInt64 0)))))) := by
  refine jMetW_of (hY := rfl) (by decide) (Nat.le_of_ble_eq_true rfl) [some (.inr (.inr (some (.inl (a))))), some (.inl 0), some (.inr (.inr (some (.inl (o))))), none] rfl ?_
  intro M hl hR X hr hTh hex
  have haa : (a < n) = True := eq_true (by omega)
  have hoo : (o < n) = True := eq_true ho
  have hcl : chP σ a n0 (va_up (va_up (va_up F 14 0) 13 0) 12 0) g w (upd T 0 10) D 0 o = .inl (.long, 1, .inr (.inl G)) := by rw [ch_lo o1 o2 o3 o4]; exact hG
  have z1 : vp_in 0 1 = True := eq_true (by unfold vp_in; decide)
  refine jrun_ok jC X k_LA_end_0 0 _ _ _ o_LA_end_0 ?_
  simp only [k_LA_end_0, jrun, jstep, jldi, jldl, jlda, j1, j2, jl1, jl2, jli, ja1, jbr, jald, jast, jlald, jlast, jalen, jget, jput, jfit, jdup, jdupx, jdupx2, jdup2, jcat, jset1, jset2, jkill, List.getElem?_cons_zero, List.getElem?_cons_succ, List.set_cons_zero, List.set_cons_succ, List.length_cons, List.length_nil, Nat.reduceAdd, Nat.reduceLT, Int32.reduceToNatClampNeg, true_and, and_true, and_self, reduceCtorEq, not_false_eq_true, false_and, and_false, or_false, false_or, true_or, or_true]
  refine jk_Vg X hR d_LA_end_4 q_LA_end_4 m_CH_end i_CH_end e_CH_end (ci := 0) rfl rfl (by omega) ch_a (c_CH_end_0 M.2.1 E _ _ _ _ hab hn0 _ _ _ _ _ _ hF) rfl rfl ⟨Nat.le_of_ble_eq_true rfl, Nat.le_of_ble_eq_true rfl⟩ (c' := 0) rfl (s' := 0) rfl ⟨Nat.le_of_ble_eq_true rfl, Nat.le_of_ble_eq_true rfl⟩ (Nat.le_of_ble_eq_true rfl) (pc' := 7) rfl ?_
  rintro _ _ _ ⟨rfl, hn2, rfl⟩
  obtain rfl : n = _ := hn2.symm
  simp only [Option.toList_some, List.cons_append, List.nil_append]
  refine jrun_ok jC X k_LA_end_7 7 _ _ _ o_LA_end_7 ?_
  simp only [k_LA_end_7, jrun, jstep, jldi, jldl, jlda, j1, j2, jl1, jl2, jli, ja1, jbr, jald, jast, jlald, jlast, jalen, jget, jput, jfit, jdup, jdupx, jdupx2, jdup2, jcat, jset1, jset2, jkill, List.getElem?_cons_zero, List.getElem?_cons_succ, List.set_cons_zero, List.set_cons_succ, List.length_cons, List.length_nil, Nat.reduceAdd, Nat.reduceLT, Int32.reduceToNatClampNeg, true_and, and_true, and_self, reduceCtorEq, not_false_eq_true, false_and, and_false, or_false, false_or, true_or, or_true, hoo, hcl, z1]
  refine jrun_ok jC X k_LA_end_15 15 _ _ _ o_LA_end_15 ?_
  simp only [k_LA_end_15, jrun, jstep, jldi, jldl, jlda, j1, j2, jl1, jl2, jli, ja1, jbr, jald, jast, jlald, jlast, jalen, jget, jput, jfit, jdup, jdupx, jdupx2, jdup2, jcat, jset1, jset2, jkill, List.getElem?_cons_zero, List.getElem?_cons_succ, List.set_cons_zero, List.set_cons_succ, List.length_cons, List.length_nil, Nat.reduceAdd, Nat.reduceLT, Int32.reduceToNatClampNeg, true_and, and_true, and_self, reduceCtorEq, not_false_eq_true, false_and, and_false, or_false, false_or, true_or, or_true]
  exact jk_iret X d_LA_end_16 hr rfl (Nat.le_refl _) (Nat.le_refl _) ⟨rfl, rfl, rfl⟩
set_option maxRecDepth 100000 in
set_option maxHeartbeats 4000000 in
theorem c_LA_end_T (l : Launch) (E : jE) (σ : Nat → jcell) (n : Nat) (a n0 : Nat) (hab : a < n0) (hn0 : n0 + 86 ≤ n) (F : Nat → Int32) (g w : jv) (T D : Nat → Int32) (ln : Int32) (hlt : l.stackTraces = false) (hF : F 12 = 0) (q : Int32) (hq : q ≠ 0) (o : Nat) : jMetW l E jcl jtb lw_tbl y_LA_end [(0, 9, 12, 19)] { frames := 8, cells := 1, slots := 6, locals := 140 } [.inr (.inr (some (.inl (a)))), .inl q, .inr (.inr (some (.inl (o))))] (chP σ a n0 F g w T D ln) n (fun r σ' n' => r = some (.inl 1) ∧ n' = n + 1 ∧ σ' = jup (chP σ a n0 F g w T D ln) n jun) := by
  refine jMetW_of (hY := rfl) (by decide) (Nat.le_of_ble_eq_true rfl) [some (.inr (.inr (some (.inl (a))))), some (.inl q), some (.inr (.inr (some (.inl (o))))), none] rfl ?_
  intro M hl hR X hr hTh hex
  have haa : (a < n) = True := eq_true (by omega)
  refine jrun_ok jC X k_LA_end_0 0 _ _ _ o_LA_end_0 ?_
  simp only [k_LA_end_0, jrun, jstep, jldi, jldl, jlda, j1, j2, jl1, jl2, jli, ja1, jbr, jald, jast, jlald, jlast, jalen, jget, jput, jfit, jdup, jdupx, jdupx2, jdup2, jcat, jset1, jset2, jkill, List.getElem?_cons_zero, List.getElem?_cons_succ, List.set_cons_zero, List.set_cons_succ, List.length_cons, List.length_nil, Nat.reduceAdd, Nat.reduceLT, Int32.reduceToNatClampNeg, true_and, and_true, and_self, reduceCtorEq, not_false_eq_true, false_and, and_false, or_false, false_or, true_or, or_true]
  refine jk_VT X hR hTh d_LA_end_4 (jTA_in (wi := 942) (by decide +kernel) rfl) m_CH_end i_CH_end e_CH_end (ci := 0) rfl rfl (by omega) ch_a (c_CH_end_T M.2.1 E _ _ _ _ hab hn0 _ _ _ _ _ _ (by rw [hl]; exact hlt) hF q hq) rfl rfl (by decide) (by decide) (Nat.le_of_ble_eq_true rfl) _ (jtab1 hex) (by decide) (by decide) (jTA_in (wi := 941) (by decide +kernel) rfl) (by simp [jTx, jtw]) ?_
  refine jrun_ok jC X k_LA_end_12 12 _ _ _ o_LA_end_12 ?_
  simp only [k_LA_end_12, jrun, jstep, jldi, jldl, jlda, j1, j2, jl1, jl2, jli, ja1, jbr, jald, jast, jlald, jlast, jalen, jget, jput, jfit, jdup, jdupx, jdupx2, jdup2, jcat, jset1, jset2, jkill, List.getElem?_cons_zero, List.getElem?_cons_succ, List.set_cons_zero, List.set_cons_succ, List.length_cons, List.length_nil, Nat.reduceAdd, Nat.reduceLT, Int32.reduceToNatClampNeg, true_and, and_true, and_self, reduceCtorEq, not_false_eq_true, false_and, and_false, or_false, false_or, true_or, or_true]
  exact jk_iret X d_LA_end_14 hr rfl (Nat.le_refl _) (Nat.le_refl _) ⟨rfl, rfl, rfl⟩
set_option maxRecDepth 100000 in
set_option maxHeartbeats 4000000 in
theorem c_LA_out_T (l : Launch) (E : jE) (σ : Nat → jcell) (n : Nat) (a n0 : Nat) (hab : a < n0) (hn0 : n0 + 86 ≤ n) (F : Nat → Int32) (g w : jv) (T D : Nat → Int32) (ln : Int32) (hlt : l.stackTraces = false) (hln : ln = 0) (q : Int32) (o : Nat) : jMetW l E jcl jtb lw_tbl y_LA_out [(0, 9, 12, 24)] { frames := 8, cells := 1, slots := 6, locals := 140 } [.inr (.inr (some (.inl (a)))), .inl q, .inr (.inr (some (.inl (o))))] (chP σ a n0 F g w T D ln) n (fun r σ' n' => r = some (.inl 1) ∧ n' = n + 1 ∧ σ' = jup (chP σ a n0 F g w T D ln) n jun) := by
  refine jMetW_of (hY := rfl) (by decide) (Nat.le_of_ble_eq_true rfl) [some (.inr (.inr (some (.inl (a))))), some (.inl q), some (.inr (.inr (some (.inl (o))))), none] rfl ?_
  intro M hl hR X hr hTh hex
  have haa : (a < n) = True := eq_true (by omega)
  refine jrun_ok jC X k_LA_out_0 0 _ _ _ o_LA_out_0 ?_
  simp only [k_LA_out_0, jrun, jstep, jldi, jldl, jlda, j1, j2, jl1, jl2, jli, ja1, jbr, jald, jast, jlald, jlast, jalen, jget, jput, jfit, jdup, jdupx, jdupx2, jdup2, jcat, jset1, jset2, jkill, List.getElem?_cons_zero, List.getElem?_cons_succ, List.set_cons_zero, List.set_cons_succ, List.length_cons, List.length_nil, Nat.reduceAdd, Nat.reduceLT, Int32.reduceToNatClampNeg, true_and, and_true, and_self, reduceCtorEq, not_false_eq_true, false_and, and_false, or_false, false_or, true_or, or_true]
  refine jk_VT X hR hTh d_LA_out_4 (jTA_in (wi := 1882) (by decide +kernel) rfl) m_CH_out i_CH_out e_CH_out (ci := 0) rfl rfl (by omega) ch_a (c_CH_out_T M.2.1 E _ _ _ _ hab hn0 _ _ _ _ _ _ (by rw [hl]; exact hlt) hln q) rfl rfl (by decide) (by decide) (Nat.le_of_ble_eq_true rfl) _ (jtab1 hex) (by decide) (by decide) (jTA_in (wi := 1881) (by decide +kernel) rfl) (by simp [jTx, jtw]) ?_
  refine jrun_ok jC X k_LA_out_12 12 _ _ _ o_LA_out_12 ?_
  simp only [k_LA_out_12, jrun, jstep, jldi, jldl, jlda, j1, j2, jl1, jl2, jli, ja1, jbr, jald, jast, jlald, jlast, jalen, jget, jput, jfit, jdup, jdupx, jdupx2, jdup2, jcat, jset1, jset2, jkill, List.getElem?_cons_zero, List.getElem?_cons_succ, List.set_cons_zero, List.set_cons_succ, List.length_cons, List.length_nil, Nat.reduceAdd, Nat.reduceLT, Int32.reduceToNatClampNeg, true_and, and_true, and_self, reduceCtorEq, not_false_eq_true, false_and, and_false, or_false, false_or, true_or, or_true]
  exact jk_iret X d_LA_out_14 hr rfl (Nat.le_refl _) (Nat.le_refl _) ⟨rfl, rfl, rfl⟩

