/-! the program's own object as a picture: its numbers F by field, its two games, its tape T and its answers D (ln of them) -/
def ch_fl (n : Nat) (F : Nat → Int32) (g w : jv) : List jv := [.inr (.inr (some (.inl (n)))), .inr (.inr (some (.inl (n + 1)))), .inr (.inr (some (.inl (n + 3)))), .inr (.inr (some (.inl (n + 5)))), .inr (.inr (some (.inl (n + 8)))), .inr (.inr (some (.inl (n + 14)))), .inr (.inr (some (.inl (n + 20)))), .inr (.inr (some (.inl (n + 24)))), .inr (.inr (some (.inl (n + 28)))), .inr (.inr (some (.inl (n + 31)))), g, w, .inl (F 12), .inl (F 13), .inl (F 14)]
def chP (σ : Nat → jcell) (a n : Nat) (F : Nat → Int32) (g w : jv) (T D : Nat → Int32) (ln : Int32) : Nat → jcell := fun p => if p = a then .inr (0, ch_fl n F g w) else if p = n then .inl (.byte, 65537, .inl T) else if p = n + 1 then .inr (1, [.inr (.inr (some (.inl (n + 2)))), .inl ln]) else if p = n + 2 then .inl (.byte, 65536, .inl D) else σ p
section CHP
variable {σ : Nat → jcell} {a n : Nat} {F : Nat → Int32} {g w : jv} {T D : Nat → Int32} {ln : Int32}
theorem ch_a : chP σ a n F g w T D ln a = .inr (0, ch_fl n F g w) := if_pos rfl
theorem ch_t (h : a < n) : chP σ a n F g w T D ln n = .inl (.byte, 65537, .inl T) := by
  unfold chP
  rw [if_neg (by omega), if_pos rfl]
theorem ch_b (h : a < n) : chP σ a n F g w T D ln (n + 1) = .inr (1, [.inr (.inr (some (.inl (n + 2)))), .inl ln]) := by
  unfold chP
  rw [if_neg (by omega), if_neg (by omega), if_pos rfl]
theorem ch_d (h : a < n) : chP σ a n F g w T D ln (n + 2) = .inl (.byte, 65536, .inl D) := by
  unfold chP
  rw [if_neg (by omega), if_neg (by omega), if_neg (by omega), if_pos rfl]
theorem ch_lo {p : Nat} (h1 : p ≠ a) (h2 : p ≠ n) (h3 : p ≠ n + 1) (h4 : p ≠ n + 2) : chP σ a n F g w T D ln p = σ p := by
  unfold chP
  rw [if_neg h1, if_neg h2, if_neg h3, if_neg h4]
theorem ch_ua {F' : Nat → Int32} {g' w' : jv} : jup (chP σ a n F g w T D ln) a (.inr (0, ch_fl n F' g' w')) = chP σ a n F' g' w' T D ln := by
  funext p
  by_cases h : p = a
  · subst h
    rw [jup_s, ch_a]
  · rw [jup_n h]
    unfold chP
    rw [if_neg h, if_neg h]
theorem ch_ut {T' : Nat → Int32} (ha : a < n) : jup (chP σ a n F g w T D ln) n (.inl (.byte, 65537, .inl T')) = chP σ a n F g w T' D ln := by
  funext p
  by_cases h : p = n
  · subst h
    rw [jup_s, ch_t ha]
  · rw [jup_n h]
    unfold chP
    rw [if_neg h, if_neg h]
theorem ch_ub {l' : Int32} (ha : a < n) : jup (chP σ a n F g w T D ln) (n + 1) (.inr (1, [.inr (.inr (some (.inl (n + 2)))), .inl l'])) = chP σ a n F g w T D l' := by
  funext p
  by_cases h : p = n + 1
  · subst h
    rw [jup_s, ch_b ha]
  · rw [jup_n h]
    unfold chP
    rw [if_neg h, if_neg h]
theorem ch_id (ha : a < n) (h1 : σ a = .inr (0, ch_fl n F g w)) (h2 : σ n = .inl (.byte, 65537, .inl T)) (h3 : σ (n + 1) = .inr (1, [.inr (.inr (some (.inl (n + 2)))), .inl ln])) (h4 : σ (n + 2) = .inl (.byte, 65536, .inl D)) : chP σ a n F g w T D ln = σ := by
  funext p
  unfold chP
  split
  · next h => rw [h, h1]
  · split
    · next h => rw [h, h2]
    · split
      · next h => rw [h, h3]
      · split
        · next h => rw [h, h4]
        · rfl
theorem ch_f12 : (ch_fl n F g w)[12]? = some (.inl (F 12)) := rfl
theorem ch_s12 {x : Int32} : (ch_fl n F g w).set 12 (.inl x) = ch_fl n (va_up F 12 x) g w := by
  simp [ch_fl, va_up]
theorem ch_f13 : (ch_fl n F g w)[13]? = some (.inl (F 13)) := rfl
theorem ch_s13 {x : Int32} : (ch_fl n F g w).set 13 (.inl x) = ch_fl n (va_up F 13 x) g w := by
  simp [ch_fl, va_up]
theorem ch_f14 : (ch_fl n F g w)[14]? = some (.inl (F 14)) := rfl
theorem ch_s14 {x : Int32} : (ch_fl n F g w).set 14 (.inl x) = ch_fl n (va_up F 14 x) g w := by
  simp [ch_fl, va_up]
theorem ch_f0 : (ch_fl n F g w)[0]? = some (.inr (.inr (some (.inl (n))))) := rfl
theorem ch_f1 : (ch_fl n F g w)[1]? = some (.inr (.inr (some (.inl (n + 1))))) := rfl
theorem ch_f2 : (ch_fl n F g w)[2]? = some (.inr (.inr (some (.inl (n + 3))))) := rfl
theorem ch_f3 : (ch_fl n F g w)[3]? = some (.inr (.inr (some (.inl (n + 5))))) := rfl
theorem ch_f4 : (ch_fl n F g w)[4]? = some (.inr (.inr (some (.inl (n + 8))))) := rfl
theorem ch_f5 : (ch_fl n F g w)[5]? = some (.inr (.inr (some (.inl (n + 14))))) := rfl
theorem ch_f6 : (ch_fl n F g w)[6]? = some (.inr (.inr (some (.inl (n + 20))))) := rfl
theorem ch_f7 : (ch_fl n F g w)[7]? = some (.inr (.inr (some (.inl (n + 24))))) := rfl
theorem ch_f8 : (ch_fl n F g w)[8]? = some (.inr (.inr (some (.inl (n + 28))))) := rfl
theorem ch_f9 : (ch_fl n F g w)[9]? = some (.inr (.inr (some (.inl (n + 31))))) := rfl
theorem ch_l : (ch_fl n F g w).length = 15 := rfl
end CHP
set_option maxRecDepth 100000 in
set_option maxHeartbeats 4000000 in
theorem c_CH_size (l : Launch) (E : jE) (σ : Nat → jcell) (n : Nat) (a n0 : Nat) (hab : a < n0) (hn0 : n0 + 86 ≤ n) (F : Nat → Int32) (g w : jv) (T D : Nat → Int32) (ln : Int32) : jMet l E jcl jtb lw_tbl y_CH_size { frames := 0, cells := 0, slots := 0, locals := 0 } [.inr (.inr (some (.inl (a))))] (chP σ a n0 F g w T D ln) n (fun r σ' n' => r = some (.inl ln) ∧ n' = n ∧ σ' = (chP σ a n0 F g w T D ln)) := by
  refine jMet_of (hY := rfl) false (fun h => by cases h) (by decide) (Nat.le_of_ble_eq_true rfl) [some (.inr (.inr (some (.inl (a)))))] rfl ?_
  intro M hl hR X hr
  have haa : (a < n) = True := eq_true (by omega)
  have ht : (n0 < n) = True := eq_true (by omega)
  have h1n : (n0 + 1 < n) = True := eq_true (by omega)
  have h2n : (n0 + 2 < n) = True := eq_true (by omega)
  refine jrun_ok jC X k_CH_size_0 0 _ _ _ o_CH_size_0 ?_
  simp only [k_CH_size_0, jrun, jstep, jldi, jldl, jlda, j1, j2, jl1, jl2, jli, ja1, jbr, jald, jast, jlald, jlast, jalen, jget, jput, jfit, jdup, jdupx, jdupx2, jdup2, jcat, jset1, jset2, jkill, List.getElem?_cons_zero, List.getElem?_cons_succ, List.set_cons_zero, List.set_cons_succ, List.length_cons, List.length_nil, Nat.reduceAdd, Nat.reduceLT, Int32.reduceToNatClampNeg, true_and, and_true, and_self, reduceCtorEq, not_false_eq_true, false_and, and_false, or_false, false_or, true_or, or_true, ch_a, ch_t hab, ch_b hab, ch_d hab, ch_ua, ch_ut hab, ch_ub hab, ch_l, haa, ht, h1n, h2n, ch_f12, ch_f13, ch_f14, ch_f0, ch_f1, ch_f2, ch_f3, ch_f4, ch_f5, ch_f6, ch_f7, ch_f8, ch_f9, ch_s12, ch_s13, ch_s14]
  exact jk_iret X d_CH_size_7 hr rfl (Nat.le_refl _) (Nat.le_refl _) ⟨rfl, rfl, rfl⟩
set_option maxRecDepth 100000 in
set_option maxHeartbeats 4000000 in
theorem c_CH_takeFour (l : Launch) (E : jE) (σ : Nat → jcell) (n : Nat) (a n0 : Nat) (hab : a < n0) (hn0 : n0 + 86 ≤ n) (F : Nat → Int32) (g w : jv) (T D : Nat → Int32) (ln : Int32) (k : Nat) (hk : k + 4 ≤ 65536) (hF : F 12 = nI k) (v : Int32) : jMet l E jcl jtb lw_tbl y_CH_takeFour { frames := 0, cells := 0, slots := 0, locals := 0 } [.inr (.inr (some (.inl (a)))), .inl v] (chP σ a n0 F g w T D ln) n (fun r σ' n' => r = none ∧ n' = n ∧ σ' = (chP σ a n0 (va_up F 12 (nI (k + 4))) g w (lay4 T k v) D ln)) := by
  refine jMet_of (hY := rfl) false (fun h => by cases h) (by decide) (Nat.le_of_ble_eq_true rfl) [some (.inr (.inr (some (.inl (a))))), some (.inl v), none] rfl ?_
  intro M hl hR X hr
  have haa : (a < n) = True := eq_true (by omega)
  have ht : (n0 < n) = True := eq_true (by omega)
  have h1n : (n0 + 1 < n) = True := eq_true (by omega)
  have h2n : (n0 + 2 < n) = True := eq_true (by omega)
  have it : ∀ (Q : State → Prop) (k : Nat) (hk : k < 65536) (sh sh' : Int32) (hsh : ¬ sh < 0) (hs' : sh + -8 = sh') (F T : Nat → Int32) (hF : F 12 = nI k), jJ E jcl 3 M Q n 0 0 3 [some (.inr (.inr (some (.inl (a))))), some (.inl v), some (.inl sh')] [] (chP σ a n0 (va_up F 12 (nI (k + 1))) g w (upd T k (bt v sh)) D ln) → jJ E jcl 3 M Q n 0 0 3 [some (.inr (.inr (some (.inl (a))))), some (.inl v), some (.inl sh)] [] (chP σ a n0 F g w T D ln) := by
    intro Q k hk sh sh' hsh hs' F T hF hJ
    have hc : (nI k).toNatClampNeg = k := nI_clamp (by omega)
    refine jrun_ok jC X k_CH_takeFour_3 3 _ _ _ o_CH_takeFour_3 ?_
    simp only [k_CH_takeFour_3, jrun, jstep, jldi, jldl, jlda, j1, j2, jl1, jl2, jli, ja1, jbr, jald, jast, jlald, jlast, jalen, jget, jput, jfit, jdup, jdupx, jdupx2, jdup2, jcat, jset1, jset2, jkill, List.getElem?_cons_zero, List.getElem?_cons_succ, List.set_cons_zero, List.set_cons_succ, List.length_cons, List.length_nil, Nat.reduceAdd, Nat.reduceLT, Int32.reduceToNatClampNeg, true_and, and_true, and_self, reduceCtorEq, not_false_eq_true, false_and, and_false, or_false, false_or, true_or, or_true, ch_a, ch_t hab, ch_b hab, ch_d hab, ch_ua, ch_ut hab, ch_ub hab, ch_l, haa, ht, h1n, h2n, ch_f12, ch_f13, ch_f14, ch_f0, ch_f1, ch_f2, ch_f3, ch_f4, ch_f5, ch_f6, ch_f7, ch_f8, ch_f9, ch_s12, ch_s13, ch_s14, hF, hc, nI_1, hs', if_true, ite_true]
    exact ⟨fun h => absurd h hsh, fun _ => ⟨vp_in_nI (by omega) (by omega), hJ⟩⟩
  refine jrun_ok jC X k_CH_takeFour_0 0 _ _ _ o_CH_takeFour_0 ?_
  simp only [k_CH_takeFour_0, jrun, jstep, jldi, jldl, jlda, j1, j2, jl1, jl2, jli, ja1, jbr, jald, jast, jlald, jlast, jalen, jget, jput, jfit, jdup, jdupx, jdupx2, jdup2, jcat, jset1, jset2, jkill, List.getElem?_cons_zero, List.getElem?_cons_succ, List.set_cons_zero, List.set_cons_succ, List.length_cons, List.length_nil, Nat.reduceAdd, Nat.reduceLT, Int32.reduceToNatClampNeg, true_and, and_true, and_self, reduceCtorEq, not_false_eq_true, false_and, and_false, or_false, false_or, true_or, or_true]
  refine it _ k (by omega) 24 16 (by decide) (by decide) _ _ hF ?_
  refine it _ (k + 1) (by omega) 16 8 (by decide) (by decide) _ _ (va_us _ _ _) ?_
  refine it _ (k + 2) (by omega) 8 0 (by decide) (by decide) _ _ (va_us _ _ _) ?_
  refine it _ (k + 3) (by omega) 0 (-8) (by decide) (by decide) _ _ (va_us _ _ _) ?_
  refine jrun_ok jC X k_CH_takeFour_3 3 _ _ _ o_CH_takeFour_3 ?_
  simp only [k_CH_takeFour_3, jrun, jstep, jldi, jldl, jlda, j1, j2, jl1, jl2, jli, ja1, jbr, jald, jast, jlald, jlast, jalen, jget, jput, jfit, jdup, jdupx, jdupx2, jdup2, jcat, jset1, jset2, jkill, List.getElem?_cons_zero, List.getElem?_cons_succ, List.set_cons_zero, List.set_cons_succ, List.length_cons, List.length_nil, Nat.reduceAdd, Nat.reduceLT, Int32.reduceToNatClampNeg, true_and, and_true, and_self, reduceCtorEq, not_false_eq_true, false_and, and_false, or_false, false_or, true_or, or_true, ch_a, ch_t hab, ch_b hab, ch_d hab, ch_ua, ch_ut hab, ch_ub hab, ch_l, haa, ht, h1n, h2n, ch_f12, ch_f13, ch_f14, ch_f0, ch_f1, ch_f2, ch_f3, ch_f4, ch_f5, ch_f6, ch_f7, ch_f8, ch_f9, ch_s12, ch_s13, ch_s14]
  refine ⟨fun _ => ?_, fun h => absurd (by decide) h⟩
  rw [va_uu, va_uu, va_uu]
  exact jk_vret X d_CH_takeFour_36 hr (Nat.le_refl _) (Nat.le_refl _) ⟨rfl, rfl, rfl⟩
set_option maxRecDepth 100000 in
set_option maxHeartbeats 4000000 in
theorem c_CH_feed (l : Launch) (E : jE) (σ : Nat → jcell) (n : Nat) (a n0 : Nat) (hab : a < n0) (hn0 : n0 + 86 ≤ n) (F : Nat → Int32) (g w : jv) (T D : Nat → Int32) (ln : Int32) (k : Nat) (hk : k + 20 ≤ 65536) (hF : F 12 = nI k) (v0 v1 v2 v3 v4 : Int32) : jMet l E jcl jtb lw_tbl y_CH_feed { frames := 1, cells := 0, slots := 0, locals := 40 } [.inr (.inr (some (.inl (a)))), .inl v0, .inl v1, .inl v2, .inl v3, .inl v4] (chP σ a n0 F g w T D ln) n (fun r σ' n' => r = none ∧ n' = n ∧ σ' = (chP σ a n0 (va_up F 12 (nI (k + 20))) g w (lay20 T k v0 v1 v2 v3 v4) D ln)) := by
  refine jMet_of (hY := rfl) false (fun h => by cases h) (by decide) (Nat.le_of_ble_eq_true rfl) [some (.inr (.inr (some (.inl (a))))), some (.inl v0), some (.inl v1), some (.inl v2), some (.inl v3), some (.inl v4)] rfl ?_
  intro M hl hR X hr
  have haa : (a < n) = True := eq_true (by omega)
  have ht : (n0 < n) = True := eq_true (by omega)
  have h1n : (n0 + 1 < n) = True := eq_true (by omega)
  have h2n : (n0 + 2 < n) = True := eq_true (by omega)
  have hle : (nI k + 20 ≤ (65536 : Int32)) = (k + 20 ≤ 65536) := by
    rw [show (20 : Int32) = nI 20 from rfl, nI_add, show (65536 : Int32) = nI 65536 from rfl, nI_leI (by omega) (by omega)]
  refine jrun_ok jC X k_CH_feed_0 0 _ _ _ o_CH_feed_0 ?_
  simp only [k_CH_feed_0, jrun, jstep, jldi, jldl, jlda, j1, j2, jl1, jl2, jli, ja1, jbr, jald, jast, jlald, jlast, jalen, jget, jput, jfit, jdup, jdupx, jdupx2, jdup2, jcat, jset1, jset2, jkill, List.getElem?_cons_zero, List.getElem?_cons_succ, List.set_cons_zero, List.set_cons_succ, List.length_cons, List.length_nil, Nat.reduceAdd, Nat.reduceLT, Int32.reduceToNatClampNeg, true_and, and_true, and_self, reduceCtorEq, not_false_eq_true, false_and, and_false, or_false, false_or, true_or, or_true, ch_a, ch_t hab, ch_b hab, ch_d hab, ch_ua, ch_ut hab, ch_ub hab, ch_l, haa, ht, h1n, h2n, ch_f12, ch_f13, ch_f14, ch_f0, ch_f1, ch_f2, ch_f3, ch_f4, ch_f5, ch_f6, ch_f7, ch_f8, ch_f9, ch_s12, ch_s13, ch_s14, hF, hle]
  refine ⟨fun _ => ?_, fun h => absurd hk h⟩
  refine jrun_ok jC X k_CH_feed_20 20 _ _ _ o_CH_feed_20 ?_
  simp only [k_CH_feed_20, jrun, jstep, jldi, jldl, jlda, j1, j2, jl1, jl2, jli, ja1, jbr, jald, jast, jlald, jlast, jalen, jget, jput, jfit, jdup, jdupx, jdupx2, jdup2, jcat, jset1, jset2, jkill, List.getElem?_cons_zero, List.getElem?_cons_succ, List.set_cons_zero, List.set_cons_succ, List.length_cons, List.length_nil, Nat.reduceAdd, Nat.reduceLT, Int32.reduceToNatClampNeg, true_and, and_true, and_self, reduceCtorEq, not_false_eq_true, false_and, and_false, or_false, false_or, true_or, or_true]
  refine jk_Vg X hR d_CH_feed_22 q_CH_feed_22 m_CH_takeFour i_CH_takeFour e_CH_takeFour (ci := 0) rfl rfl (by omega) ch_a (c_CH_takeFour M.2.1 E _ _ _ _ hab hn0 _ _ _ _ _ _ k (by omega) hF _) rfl rfl ⟨Nat.le_of_ble_eq_true rfl, Nat.le_of_ble_eq_true rfl⟩ (c' := 0) rfl (s' := 0) rfl ⟨Nat.le_of_ble_eq_true rfl, Nat.le_of_ble_eq_true rfl⟩ (Nat.le_of_ble_eq_true rfl) (pc' := 25) rfl ?_
  rintro _ _ _ ⟨rfl, hn2, rfl⟩
  obtain rfl : n = _ := hn2.symm
  simp only [Option.toList_none, List.nil_append, va_uu, Nat.add_assoc, Nat.reduceAdd]
  refine jrun_ok jC X k_CH_feed_25 25 _ _ _ o_CH_feed_25 ?_
  simp only [k_CH_feed_25, jrun, jstep, jldi, jldl, jlda, j1, j2, jl1, jl2, jli, ja1, jbr, jald, jast, jlald, jlast, jalen, jget, jput, jfit, jdup, jdupx, jdupx2, jdup2, jcat, jset1, jset2, jkill, List.getElem?_cons_zero, List.getElem?_cons_succ, List.set_cons_zero, List.set_cons_succ, List.length_cons, List.length_nil, Nat.reduceAdd, Nat.reduceLT, Int32.reduceToNatClampNeg, true_and, and_true, and_self, reduceCtorEq, not_false_eq_true, false_and, and_false, or_false, false_or, true_or, or_true]
  refine jk_Vg X hR d_CH_feed_27 q_CH_feed_27 m_CH_takeFour i_CH_takeFour e_CH_takeFour (ci := 0) rfl rfl (by omega) ch_a (c_CH_takeFour M.2.1 E _ _ _ _ hab hn0 _ _ _ _ _ _ (k + 4) (by omega) (va_us _ _ _) _) rfl rfl ⟨Nat.le_of_ble_eq_true rfl, Nat.le_of_ble_eq_true rfl⟩ (c' := 0) rfl (s' := 0) rfl ⟨Nat.le_of_ble_eq_true rfl, Nat.le_of_ble_eq_true rfl⟩ (Nat.le_of_ble_eq_true rfl) (pc' := 30) rfl ?_
  rintro _ _ _ ⟨rfl, hn2, rfl⟩
  obtain rfl : n = _ := hn2.symm
  simp only [Option.toList_none, List.nil_append, va_uu, Nat.add_assoc, Nat.reduceAdd]
  refine jrun_ok jC X k_CH_feed_30 30 _ _ _ o_CH_feed_30 ?_
  simp only [k_CH_feed_30, jrun, jstep, jldi, jldl, jlda, j1, j2, jl1, jl2, jli, ja1, jbr, jald, jast, jlald, jlast, jalen, jget, jput, jfit, jdup, jdupx, jdupx2, jdup2, jcat, jset1, jset2, jkill, List.getElem?_cons_zero, List.getElem?_cons_succ, List.set_cons_zero, List.set_cons_succ, List.length_cons, List.length_nil, Nat.reduceAdd, Nat.reduceLT, Int32.reduceToNatClampNeg, true_and, and_true, and_self, reduceCtorEq, not_false_eq_true, false_and, and_false, or_false, false_or, true_or, or_true]
  refine jk_Vg X hR d_CH_feed_32 q_CH_feed_32 m_CH_takeFour i_CH_takeFour e_CH_takeFour (ci := 0) rfl rfl (by omega) ch_a (c_CH_takeFour M.2.1 E _ _ _ _ hab hn0 _ _ _ _ _ _ (k + 8) (by omega) (va_us _ _ _) _) rfl rfl ⟨Nat.le_of_ble_eq_true rfl, Nat.le_of_ble_eq_true rfl⟩ (c' := 0) rfl (s' := 0) rfl ⟨Nat.le_of_ble_eq_true rfl, Nat.le_of_ble_eq_true rfl⟩ (Nat.le_of_ble_eq_true rfl) (pc' := 35) rfl ?_
  rintro _ _ _ ⟨rfl, hn2, rfl⟩
  obtain rfl : n = _ := hn2.symm
  simp only [Option.toList_none, List.nil_append, va_uu, Nat.add_assoc, Nat.reduceAdd]
  refine jrun_ok jC X k_CH_feed_35 35 _ _ _ o_CH_feed_35 ?_
  simp only [k_CH_feed_35, jrun, jstep, jldi, jldl, jlda, j1, j2, jl1, jl2, jli, ja1, jbr, jald, jast, jlald, jlast, jalen, jget, jput, jfit, jdup, jdupx, jdupx2, jdup2, jcat, jset1, jset2, jkill, List.getElem?_cons_zero, List.getElem?_cons_succ, List.set_cons_zero, List.set_cons_succ, List.length_cons, List.length_nil, Nat.reduceAdd, Nat.reduceLT, Int32.reduceToNatClampNeg, true_and, and_true, and_self, reduceCtorEq, not_false_eq_true, false_and, and_false, or_false, false_or, true_or, or_true]
  refine jk_Vg X hR d_CH_feed_38 q_CH_feed_38 m_CH_takeFour i_CH_takeFour e_CH_takeFour (ci := 0) rfl rfl (by omega) ch_a (c_CH_takeFour M.2.1 E _ _ _ _ hab hn0 _ _ _ _ _ _ (k + 12) (by omega) (va_us _ _ _) _) rfl rfl ⟨Nat.le_of_ble_eq_true rfl, Nat.le_of_ble_eq_true rfl⟩ (c' := 0) rfl (s' := 0) rfl ⟨Nat.le_of_ble_eq_true rfl, Nat.le_of_ble_eq_true rfl⟩ (Nat.le_of_ble_eq_true rfl) (pc' := 41) rfl ?_
  rintro _ _ _ ⟨rfl, hn2, rfl⟩
  obtain rfl : n = _ := hn2.symm
  simp only [Option.toList_none, List.nil_append, va_uu, Nat.add_assoc, Nat.reduceAdd]
  refine jrun_ok jC X k_CH_feed_41 41 _ _ _ o_CH_feed_41 ?_
  simp only [k_CH_feed_41, jrun, jstep, jldi, jldl, jlda, j1, j2, jl1, jl2, jli, ja1, jbr, jald, jast, jlald, jlast, jalen, jget, jput, jfit, jdup, jdupx, jdupx2, jdup2, jcat, jset1, jset2, jkill, List.getElem?_cons_zero, List.getElem?_cons_succ, List.set_cons_zero, List.set_cons_succ, List.length_cons, List.length_nil, Nat.reduceAdd, Nat.reduceLT, Int32.reduceToNatClampNeg, true_and, and_true, and_self, reduceCtorEq, not_false_eq_true, false_and, and_false, or_false, false_or, true_or, or_true]
  refine jk_Vg X hR d_CH_feed_44 q_CH_feed_44 m_CH_takeFour i_CH_takeFour e_CH_takeFour (ci := 0) rfl rfl (by omega) ch_a (c_CH_takeFour M.2.1 E _ _ _ _ hab hn0 _ _ _ _ _ _ (k + 16) (by omega) (va_us _ _ _) _) rfl rfl ⟨Nat.le_of_ble_eq_true rfl, Nat.le_of_ble_eq_true rfl⟩ (c' := 0) rfl (s' := 0) rfl ⟨Nat.le_of_ble_eq_true rfl, Nat.le_of_ble_eq_true rfl⟩ (Nat.le_of_ble_eq_true rfl) (pc' := 47) rfl ?_
  rintro _ _ _ ⟨rfl, hn2, rfl⟩
  obtain rfl : n = _ := hn2.symm
  simp only [Option.toList_none, List.nil_append, va_uu, Nat.add_assoc, Nat.reduceAdd]
  exact jk_vret X d_CH_feed_47 hr (Nat.le_refl _) (Nat.le_refl _) ⟨rfl, rfl, rfl⟩
set_option maxRecDepth 100000 in
set_option maxHeartbeats 4000000 in
theorem c_BY_clear (l : Launch) (E : jE) (σ : Nat → jcell) (n : Nat) (a n0 : Nat) (hab : a < n0) (hn0 : n0 + 86 ≤ n) (F : Nat → Int32) (g w : jv) (T D : Nat → Int32) (ln : Int32) : jMet l E jcl jtb lw_tbl y_BY_clear { frames := 0, cells := 0, slots := 0, locals := 0 } [.inr (.inr (some (.inl (n0 + 1))))] (chP σ a n0 F g w T D ln) n (fun r σ' n' => r = none ∧ n' = n ∧ σ' = (chP σ a n0 F g w T D 0)) := by
  refine jMet_of (hY := rfl) false (fun h => by cases h) (by decide) (Nat.le_of_ble_eq_true rfl) [some (.inr (.inr (some (.inl (n0 + 1)))))] rfl ?_
  intro M hl hR X hr
  have haa : (a < n) = True := eq_true (by omega)
  have ht : (n0 < n) = True := eq_true (by omega)
  have h1n : (n0 + 1 < n) = True := eq_true (by omega)
  have h2n : (n0 + 2 < n) = True := eq_true (by omega)
  refine jrun_ok jC X k_BY_clear_0 0 _ _ _ o_BY_clear_0 ?_
  simp only [k_BY_clear_0, jrun, jstep, jldi, jldl, jlda, j1, j2, jl1, jl2, jli, ja1, jbr, jald, jast, jlald, jlast, jalen, jget, jput, jfit, jdup, jdupx, jdupx2, jdup2, jcat, jset1, jset2, jkill, List.getElem?_cons_zero, List.getElem?_cons_succ, List.set_cons_zero, List.set_cons_succ, List.length_cons, List.length_nil, Nat.reduceAdd, Nat.reduceLT, Int32.reduceToNatClampNeg, true_and, and_true, and_self, reduceCtorEq, not_false_eq_true, false_and, and_false, or_false, false_or, true_or, or_true, ch_a, ch_t hab, ch_b hab, ch_d hab, ch_ua, ch_ut hab, ch_ub hab, ch_l, haa, ht, h1n, h2n, ch_f12, ch_f13, ch_f14, ch_f0, ch_f1, ch_f2, ch_f3, ch_f4, ch_f5, ch_f6, ch_f7, ch_f8, ch_f9, ch_s12, ch_s13, ch_s14]
  exact jk_vret X d_BY_clear_5 hr (Nat.le_refl _) (Nat.le_refl _) ⟨rfl, rfl, rfl⟩
set_option maxRecDepth 100000 in
set_option maxHeartbeats 4000000 in
theorem c_CH_end_0 (l : Launch) (E : jE) (σ : Nat → jcell) (n : Nat) (a n0 : Nat) (hab : a < n0) (hn0 : n0 + 86 ≤ n) (F : Nat → Int32) (g w : jv) (T D : Nat → Int32) (ln : Int32) (hF : F 12 = 0) : jMet l E jcl jtb lw_tbl y_CH_end { frames := 1, cells := 0, slots := 0, locals := 40 } [.inr (.inr (some (.inl (a)))), .inl 0] (chP σ a n0 F g w T D ln) n (fun r σ' n' => r = some (.inl 0) ∧ n' = n ∧ σ' = (chP σ a n0 (va_up (va_up (va_up F 14 0) 13 0) 12 0) g w (upd T 0 10) D 0)) := by
  refine jMet_of (hY := rfl) false (fun h => by cases h) (by decide) (Nat.le_of_ble_eq_true rfl) [some (.inr (.inr (some (.inl (a))))), some (.inl 0), none, none, none] rfl ?_
  intro M hl hR X hr
  have haa : (a < n) = True := eq_true (by omega)
  have ht : (n0 < n) = True := eq_true (by omega)
  have h1n : (n0 + 1 < n) = True := eq_true (by omega)
  have h2n : (n0 + 2 < n) = True := eq_true (by omega)
  have z0 : vp_in 0 65537 = True := eq_true (by unfold vp_in; decide)
  have zn : vp_nar .byte 10 = 10 := by decide
  refine jrun_ok jC X k_CH_end_0 0 _ _ _ o_CH_end_0 ?_
  simp only [k_CH_end_0, jrun, jstep, jldi, jldl, jlda, j1, j2, jl1, jl2, jli, ja1, jbr, jald, jast, jlald, jlast, jalen, jget, jput, jfit, jdup, jdupx, jdupx2, jdup2, jcat, jset1, jset2, jkill, List.getElem?_cons_zero, List.getElem?_cons_succ, List.set_cons_zero, List.set_cons_succ, List.length_cons, List.length_nil, Nat.reduceAdd, Nat.reduceLT, Int32.reduceToNatClampNeg, true_and, and_true, and_self, reduceCtorEq, not_false_eq_true, false_and, and_false, or_false, false_or, true_or, or_true, ch_a, ch_t hab, ch_b hab, ch_d hab, ch_ua, ch_ut hab, ch_ub hab, ch_l, haa, ht, h1n, h2n, ch_f12, ch_f13, ch_f14, ch_f0, ch_f1, ch_f2, ch_f3, ch_f4, ch_f5, ch_f6, ch_f7, ch_f8, ch_f9, ch_s12, ch_s13, ch_s14, hF]
  refine ⟨fun h => absurd h (by decide), fun _ => ⟨fun _ => ?_, fun h => absurd (by decide) h⟩⟩
  refine jrun_ok jC X k_CH_end_20 20 _ _ _ o_CH_end_20 ?_
  simp only [k_CH_end_20, jrun, jstep, jldi, jldl, jlda, j1, j2, jl1, jl2, jli, ja1, jbr, jald, jast, jlald, jlast, jalen, jget, jput, jfit, jdup, jdupx, jdupx2, jdup2, jcat, jset1, jset2, jkill, List.getElem?_cons_zero, List.getElem?_cons_succ, List.set_cons_zero, List.set_cons_succ, List.length_cons, List.length_nil, Nat.reduceAdd, Nat.reduceLT, Int32.reduceToNatClampNeg, true_and, and_true, and_self, reduceCtorEq, not_false_eq_true, false_and, and_false, or_false, false_or, true_or, or_true, ch_a, ch_t hab, ch_b hab, ch_d hab, ch_ua, ch_ut hab, ch_ub hab, ch_l, haa, ht, h1n, h2n, ch_f12, ch_f13, ch_f14, ch_f0, ch_f1, ch_f2, ch_f3, ch_f4, ch_f5, ch_f6, ch_f7, ch_f8, ch_f9, ch_s12, ch_s13, ch_s14]
  refine jk_Vg X hR d_CH_end_24 q_CH_end_24 m_BY_clear i_BY_clear e_BY_clear (ci := 1) rfl rfl (by omega) (ch_b hab) (c_BY_clear M.2.1 E _ _ _ _ hab hn0 _ _ _ _ _ _) rfl rfl ⟨Nat.le_of_ble_eq_true rfl, Nat.le_of_ble_eq_true rfl⟩ (c' := 0) rfl (s' := 0) rfl ⟨Nat.le_of_ble_eq_true rfl, Nat.le_of_ble_eq_true rfl⟩ (Nat.le_of_ble_eq_true rfl) (pc' := 27) rfl ?_
  rintro _ _ _ ⟨rfl, hn2, rfl⟩
  obtain rfl : n = _ := hn2.symm
  simp only [Option.toList_none, List.nil_append]
  refine jrun_ok jC X k_CH_end_27 27 _ _ _ o_CH_end_27 ?_
  simp only [k_CH_end_27, jrun, jstep, jldi, jldl, jlda, j1, j2, jl1, jl2, jli, ja1, jbr, jald, jast, jlald, jlast, jalen, jget, jput, jfit, jdup, jdupx, jdupx2, jdup2, jcat, jset1, jset2, jkill, List.getElem?_cons_zero, List.getElem?_cons_succ, List.set_cons_zero, List.set_cons_succ, List.length_cons, List.length_nil, Nat.reduceAdd, Nat.reduceLT, Int32.reduceToNatClampNeg, true_and, and_true, and_self, reduceCtorEq, not_false_eq_true, false_and, and_false, or_false, false_or, true_or, or_true, ch_a, ch_t hab, ch_b hab, ch_d hab, ch_ua, ch_ut hab, ch_ub hab, ch_l, haa, ht, h1n, h2n, ch_f12, ch_f13, ch_f14, ch_f0, ch_f1, ch_f2, ch_f3, ch_f4, ch_f5, ch_f6, ch_f7, ch_f8, ch_f9, ch_s12, ch_s13, ch_s14, if_true, ite_true, z0, zn]
  refine jrun_ok jC X k_CH_end_47 47 _ _ _ o_CH_end_47 ?_
  simp only [k_CH_end_47, jrun, jstep, jldi, jldl, jlda, j1, j2, jl1, jl2, jli, ja1, jbr, jald, jast, jlald, jlast, jalen, jget, jput, jfit, jdup, jdupx, jdupx2, jdup2, jcat, jset1, jset2, jkill, List.getElem?_cons_zero, List.getElem?_cons_succ, List.set_cons_zero, List.set_cons_succ, List.length_cons, List.length_nil, Nat.reduceAdd, Nat.reduceLT, Int32.reduceToNatClampNeg, true_and, and_true, and_self, reduceCtorEq, not_false_eq_true, false_and, and_false, or_false, false_or, true_or, or_true, ch_a, ch_t hab, ch_b hab, ch_d hab, ch_ua, ch_ut hab, ch_ub hab, ch_l, haa, ht, h1n, h2n, ch_f12, ch_f13, ch_f14, ch_f0, ch_f1, ch_f2, ch_f3, ch_f4, ch_f5, ch_f6, ch_f7, ch_f8, ch_f9, ch_s12, ch_s13, ch_s14]
  refine ⟨fun _ => ?_, fun h => absurd (by decide) h⟩
  refine jrun_ok jC X k_CH_end_111 111 _ _ _ o_CH_end_111 ?_
  simp only [k_CH_end_111, jrun, jstep, jldi, jldl, jlda, j1, j2, jl1, jl2, jli, ja1, jbr, jald, jast, jlald, jlast, jalen, jget, jput, jfit, jdup, jdupx, jdupx2, jdup2, jcat, jset1, jset2, jkill, List.getElem?_cons_zero, List.getElem?_cons_succ, List.set_cons_zero, List.set_cons_succ, List.length_cons, List.length_nil, Nat.reduceAdd, Nat.reduceLT, Int32.reduceToNatClampNeg, true_and, and_true, and_self, reduceCtorEq, not_false_eq_true, false_and, and_false, or_false, false_or, true_or, or_true, ch_a, ch_t hab, ch_b hab, ch_d hab, ch_ua, ch_ut hab, ch_ub hab, ch_l, haa, ht, h1n, h2n, ch_f12, ch_f13, ch_f14, ch_f0, ch_f1, ch_f2, ch_f3, ch_f4, ch_f5, ch_f6, ch_f7, ch_f8, ch_f9, ch_s12, ch_s13, ch_s14]
  have e14 : va_up (va_up (va_up F 14 0) 13 0) 12 0 14 = 0 := by simp [va_up]
  rw [e14]
  exact jk_iret X d_CH_end_120 hr rfl (Nat.le_refl _) (Nat.le_refl _) ⟨rfl, rfl, rfl⟩

