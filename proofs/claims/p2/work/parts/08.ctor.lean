section
set_option maxRecDepth 100000 in
set_option maxHeartbeats 4000000 in
theorem c_BY_init (l : Launch) (E : jE) (σ : Nat → jcell) (n : Nat) (a : Nat) (ha : a < n) (h : σ a = .inr (1, [.inr (.inr none), .inl 0])) (q : Nat) (hq : q < 2 ^ 20) : jMet l E jcl jtb lw_tbl y_BY_init { frames := 1, cells := 1, slots := q, locals := 20 } [.inr (.inr (some (.inl (a)))), .inl (nI q)] σ n (fun r σ' n' => r = none ∧ n' = n + 1 ∧ σ' = jmk σ a n (.inr (1, [.inr (.inr (some (.inl n))), .inl 0])) [.inl (.byte, q, .inl fun _ => 0)]) := by
  refine jMet_of (hY := rfl) true (fun h => rfl) (by decide) (Nat.le_of_ble_eq_true rfl) [some (.inr (.inr (some (.inl (a))))), some (.inl (nI q))] rfl ?_
  intro M hl hR X hr
  have hak : ∀ k, (a < n + k) = True := fun k => eq_true (by omega)
  have hak0 : (a < n) = True := eq_true ha
  refine jmk_in h ?_
  refine jrun_ok jC X k_BY_init_0 0 _ _ _ o_BY_init_0 ?_
  simp only [k_BY_init_0, jrun, jstep, jldi, jldl, jlda, j1, j2, jl1, jl2, jli, ja1, jbr, jald, jast, jlald, jlast, jalen, jget, jput, jfit, jdup, jdupx, jdupx2, jdup2, jcat, jset1, jset2, jkill, List.getElem?_cons_zero, List.getElem?_cons_succ, List.set_cons_zero, List.set_cons_succ, List.length_cons, List.length_nil, Nat.reduceAdd, Nat.reduceLT, Int32.reduceToNatClampNeg, true_and, and_true, and_self, reduceCtorEq, not_false_eq_true, false_and, and_false, or_false, false_or, true_or, or_true, jmk_a, jmk_put, hak, hak0]
  refine jk_oi X hR (w1 := 349) (w2 := 340) (w3 := 341) d_BY_init_1 (by decide +kernel) (by decide +kernel) (by decide +kernel) (Nat.le_of_ble_eq_true rfl) (Nat.le_of_ble_eq_true rfl) (pc' := 4) rfl ?_
  refine jrun_ok jC X k_BY_init_4 4 _ _ _ o_BY_init_4 ?_
  simp only [k_BY_init_4, jrun, jstep, jldi, jldl, jlda, j1, j2, jl1, jl2, jli, ja1, jbr, jald, jast, jlald, jlast, jalen, jget, jput, jfit, jdup, jdupx, jdupx2, jdup2, jcat, jset1, jset2, jkill, List.getElem?_cons_zero, List.getElem?_cons_succ, List.set_cons_zero, List.set_cons_succ, List.length_cons, List.length_nil, Nat.reduceAdd, Nat.reduceLT, Int32.reduceToNatClampNeg, true_and, and_true, and_self, reduceCtorEq, not_false_eq_true, false_and, and_false, or_false, false_or, true_or, or_true, jmk_a, jmk_put, hak, hak0]
  refine jc_na X hR (w1 := 361) d_BY_init_6 rfl (by decide +kernel) (by decide) (nI_pos (by omega)) q (nI_clamp (by omega)) (by omega) rfl [.inl (.byte, q, .inl fun _ => 0)] ha rfl rfl (n' := n + 1) rfl (c' := 1) rfl (s' := q) (Nat.zero_add _) ⟨Nat.le_of_ble_eq_true rfl, Nat.le_refl _⟩ (pc' := 8) rfl ?_
  refine jrun_ok jC X k_BY_init_8 8 _ _ _ o_BY_init_8 ?_
  simp only [k_BY_init_8, jrun, jstep, jldi, jldl, jlda, j1, j2, jl1, jl2, jli, ja1, jbr, jald, jast, jlald, jlast, jalen, jget, jput, jfit, jdup, jdupx, jdupx2, jdup2, jcat, jset1, jset2, jkill, List.getElem?_cons_zero, List.getElem?_cons_succ, List.set_cons_zero, List.set_cons_succ, List.length_cons, List.length_nil, Nat.reduceAdd, Nat.reduceLT, Int32.reduceToNatClampNeg, true_and, and_true, and_self, reduceCtorEq, not_false_eq_true, false_and, and_false, or_false, false_or, true_or, or_true, jmk_a, jmk_put, hak, hak0]
  exact jk_vret X d_BY_init_11 hr (Nat.le_refl _) (Nat.le_refl _) ⟨rfl, rfl, rfl⟩
set_option maxRecDepth 100000 in
set_option maxHeartbeats 4000000 in
theorem c_WO_init (l : Launch) (E : jE) (σ : Nat → jcell) (n : Nat) (a : Nat) (ha : a < n) (h : σ a = .inr (2, [.inr (.inr none), .inl 0, .inl 0, .inr (.inr none), .inl 0])) : jMet l E jcl jtb lw_tbl y_WO_init { frames := 1, cells := 1, slots := 8, locals := 20 } [.inr (.inr (some (.inl (a))))] σ n (fun r σ' n' => r = none ∧ n' = n + 1 ∧ σ' = jmk σ a n (.inr (2, [.inr (.inr (some (.inl n))), .inl 0, .inl 0, .inr (.inr none), .inl 0])) [.inl (.int, 8, .inl fun _ => 0)]) := by
  refine jMet_of (hY := rfl) true (fun h => rfl) (by decide) (Nat.le_of_ble_eq_true rfl) [some (.inr (.inr (some (.inl (a)))))] rfl ?_
  intro M hl hR X hr
  have hak : ∀ k, (a < n + k) = True := fun k => eq_true (by omega)
  have hak0 : (a < n) = True := eq_true ha
  refine jmk_in h ?_
  refine jrun_ok jC X k_WO_init_0 0 _ _ _ o_WO_init_0 ?_
  simp only [k_WO_init_0, jrun, jstep, jldi, jldl, jlda, j1, j2, jl1, jl2, jli, ja1, jbr, jald, jast, jlald, jlast, jalen, jget, jput, jfit, jdup, jdupx, jdupx2, jdup2, jcat, jset1, jset2, jkill, List.getElem?_cons_zero, List.getElem?_cons_succ, List.set_cons_zero, List.set_cons_succ, List.length_cons, List.length_nil, Nat.reduceAdd, Nat.reduceLT, Int32.reduceToNatClampNeg, true_and, and_true, and_self, reduceCtorEq, not_false_eq_true, false_and, and_false, or_false, false_or, true_or, or_true, jmk_a, jmk_put, hak, hak0]
  refine jk_oi X hR (w1 := 367) (w2 := 340) (w3 := 341) d_WO_init_1 (by decide +kernel) (by decide +kernel) (by decide +kernel) (Nat.le_of_ble_eq_true rfl) (Nat.le_of_ble_eq_true rfl) (pc' := 4) rfl ?_
  refine jrun_ok jC X k_WO_init_4 4 _ _ _ o_WO_init_4 ?_
  simp only [k_WO_init_4, jrun, jstep, jldi, jldl, jlda, j1, j2, jl1, jl2, jli, ja1, jbr, jald, jast, jlald, jlast, jalen, jget, jput, jfit, jdup, jdupx, jdupx2, jdup2, jcat, jset1, jset2, jkill, List.getElem?_cons_zero, List.getElem?_cons_succ, List.set_cons_zero, List.set_cons_succ, List.length_cons, List.length_nil, Nat.reduceAdd, Nat.reduceLT, Int32.reduceToNatClampNeg, true_and, and_true, and_self, reduceCtorEq, not_false_eq_true, false_and, and_false, or_false, false_or, true_or, or_true, jmk_a, jmk_put, hak, hak0]
  refine jc_na X hR (w1 := 387) d_WO_init_7 rfl (by decide +kernel) (by decide) (by decide) 8 (by decide) (by decide) rfl [.inl (.int, 8, .inl fun _ => 0)] ha rfl rfl (n' := n + 1) rfl (c' := 1) rfl (s' := 8) rfl ⟨Nat.le_of_ble_eq_true rfl, Nat.le_of_ble_eq_true rfl⟩ (pc' := 9) rfl ?_
  refine jrun_ok jC X k_WO_init_9 9 _ _ _ o_WO_init_9 ?_
  simp only [k_WO_init_9, jrun, jstep, jldi, jldl, jlda, j1, j2, jl1, jl2, jli, ja1, jbr, jald, jast, jlald, jlast, jalen, jget, jput, jfit, jdup, jdupx, jdupx2, jdup2, jcat, jset1, jset2, jkill, List.getElem?_cons_zero, List.getElem?_cons_succ, List.set_cons_zero, List.set_cons_succ, List.length_cons, List.length_nil, Nat.reduceAdd, Nat.reduceLT, Int32.reduceToNatClampNeg, true_and, and_true, and_self, reduceCtorEq, not_false_eq_true, false_and, and_false, or_false, false_or, true_or, or_true, jmk_a, jmk_put, hak, hak0]
  exact jk_vret X d_WO_init_12 hr (Nat.le_refl _) (Nat.le_refl _) ⟨rfl, rfl, rfl⟩
set_option maxRecDepth 100000 in
set_option maxHeartbeats 4000000 in
theorem c_SI_init (l : Launch) (E : jE) (σ : Nat → jcell) (n : Nat) (a : Nat) (ha : a < n) (h : σ a = .inr (3, [.inr (.inr none), .inr (.inr none), .inl 0, .inl 0, .inl 0, .inl 0, .inl 0, .inl 0, .inl 0, .inl 0, .inl 0])) : jMet l E jcl jtb lw_tbl y_SI_init { frames := 1, cells := 2, slots := 3463, locals := 20 } [.inr (.inr (some (.inl (a))))] σ n (fun r σ' n' => r = none ∧ n' = n + 2 ∧ σ' = jmk σ a n (.inr (3, [.inr (.inr (some (.inl n))), .inr (.inr (some (.inl (n + 1)))), .inl 0, .inl 0, .inl 0, .inl 0, .inl 0, .inl 0, .inl 0, .inl 0, .inl 0])) [.inl (.int, 3456, .inl fun _ => 0), .inl (.int, 7, .inl fun _ => 0)]) := by
  refine jMet_of (hY := rfl) true (fun h => rfl) (by decide) (Nat.le_of_ble_eq_true rfl) [some (.inr (.inr (some (.inl (a)))))] rfl ?_
  intro M hl hR X hr
  have hak : ∀ k, (a < n + k) = True := fun k => eq_true (by omega)
  have hak0 : (a < n) = True := eq_true ha
  refine jmk_in h ?_
  refine jrun_ok jC X k_SI_init_0 0 _ _ _ o_SI_init_0 ?_
  simp only [k_SI_init_0, jrun, jstep, jldi, jldl, jlda, j1, j2, jl1, jl2, jli, ja1, jbr, jald, jast, jlald, jlast, jalen, jget, jput, jfit, jdup, jdupx, jdupx2, jdup2, jcat, jset1, jset2, jkill, List.getElem?_cons_zero, List.getElem?_cons_succ, List.set_cons_zero, List.set_cons_succ, List.length_cons, List.length_nil, Nat.reduceAdd, Nat.reduceLT, Int32.reduceToNatClampNeg, true_and, and_true, and_self, reduceCtorEq, not_false_eq_true, false_and, and_false, or_false, false_or, true_or, or_true, jmk_a, jmk_put, hak, hak0]
  refine jk_oi X hR (w1 := 393) (w2 := 340) (w3 := 341) d_SI_init_1 (by decide +kernel) (by decide +kernel) (by decide +kernel) (Nat.le_of_ble_eq_true rfl) (Nat.le_of_ble_eq_true rfl) (pc' := 4) rfl ?_
  refine jrun_ok jC X k_SI_init_4 4 _ _ _ o_SI_init_4 ?_
  simp only [k_SI_init_4, jrun, jstep, jldi, jldl, jlda, j1, j2, jl1, jl2, jli, ja1, jbr, jald, jast, jlald, jlast, jalen, jget, jput, jfit, jdup, jdupx, jdupx2, jdup2, jcat, jset1, jset2, jkill, List.getElem?_cons_zero, List.getElem?_cons_succ, List.set_cons_zero, List.set_cons_succ, List.length_cons, List.length_nil, Nat.reduceAdd, Nat.reduceLT, Int32.reduceToNatClampNeg, true_and, and_true, and_self, reduceCtorEq, not_false_eq_true, false_and, and_false, or_false, false_or, true_or, or_true, jmk_a, jmk_put, hak, hak0]
  refine jc_na X hR (w1 := 387) d_SI_init_8 rfl (by decide +kernel) (by decide) (by decide) 3456 (by decide) (by decide) rfl [.inl (.int, 3456, .inl fun _ => 0)] ha rfl rfl (n' := n + 1) rfl (c' := 1) rfl (s' := 3456) rfl ⟨Nat.le_of_ble_eq_true rfl, Nat.le_of_ble_eq_true rfl⟩ (pc' := 10) rfl ?_
  refine jrun_ok jC X k_SI_init_10 10 _ _ _ o_SI_init_10 ?_
  simp only [k_SI_init_10, jrun, jstep, jldi, jldl, jlda, j1, j2, jl1, jl2, jli, ja1, jbr, jald, jast, jlald, jlast, jalen, jget, jput, jfit, jdup, jdupx, jdupx2, jdup2, jcat, jset1, jset2, jkill, List.getElem?_cons_zero, List.getElem?_cons_succ, List.set_cons_zero, List.set_cons_succ, List.length_cons, List.length_nil, Nat.reduceAdd, Nat.reduceLT, Int32.reduceToNatClampNeg, true_and, and_true, and_self, reduceCtorEq, not_false_eq_true, false_and, and_false, or_false, false_or, true_or, or_true, jmk_a, jmk_put, hak, hak0]
  refine jc_na X hR (w1 := 387) d_SI_init_16 rfl (by decide +kernel) (by decide) (by decide) 7 (by decide) (by decide) rfl [.inl (.int, 3456, .inl fun _ => 0), .inl (.int, 7, .inl fun _ => 0)] ha rfl rfl (n' := n + 2) rfl (c' := 2) rfl (s' := 3463) rfl ⟨Nat.le_of_ble_eq_true rfl, Nat.le_of_ble_eq_true rfl⟩ (pc' := 18) rfl ?_
  refine jrun_ok jC X k_SI_init_18 18 _ _ _ o_SI_init_18 ?_
  simp only [k_SI_init_18, jrun, jstep, jldi, jldl, jlda, j1, j2, jl1, jl2, jli, ja1, jbr, jald, jast, jlald, jlast, jalen, jget, jput, jfit, jdup, jdupx, jdupx2, jdup2, jcat, jset1, jset2, jkill, List.getElem?_cons_zero, List.getElem?_cons_succ, List.set_cons_zero, List.set_cons_succ, List.length_cons, List.length_nil, Nat.reduceAdd, Nat.reduceLT, Int32.reduceToNatClampNeg, true_and, and_true, and_self, reduceCtorEq, not_false_eq_true, false_and, and_false, or_false, false_or, true_or, or_true, jmk_a, jmk_put, hak, hak0]
  exact jk_vret X d_SI_init_21 hr (Nat.le_refl _) (Nat.le_refl _) ⟨rfl, rfl, rfl⟩
set_option maxRecDepth 100000 in
set_option maxHeartbeats 4000000 in
theorem c_GR_init (l : Launch) (E : jE) (σ : Nat → jcell) (n : Nat) (a : Nat) (ha : a < n) (h : σ a = .inr (4, [.inl 0, .inr (.inr none), .inr (.inr none), .inr (.inr none), .inr (.inr none), .inr (.inr none), .inl 0, .inl 0, .inl 0, .inl 0, .inl 0, .inl 0])) : jMet l E jcl jtb lw_tbl y_GR_init { frames := 2, cells := 5, slots := 3576, locals := 40 } [.inr (.inr (some (.inl (a))))] σ n (fun r σ' n' => r = none ∧ n' = n + 5 ∧ σ' = jmk σ a n (.inr (4, [.inl 0, .inr (.inr (some (.inl n))), .inr (.inr (some (.inl (n + 3)))), .inr (.inr (some (.inl (n + 4)))), .inr (.inr none), .inr (.inr none), .inl 0, .inl 0, .inl 0, .inl 0, .inl 0, .inl 0])) [.inr (3, [.inr (.inr (some (.inl (n + 1)))), .inr (.inr (some (.inl (n + 2)))), .inl 0, .inl 0, .inl 0, .inl 0, .inl 0, .inl 0, .inl 0, .inl 0, .inl 0]), .inl (.int, 3456, .inl fun _ => 0), .inl (.int, 7, .inl fun _ => 0), .inl (.int, 6, .inl fun _ => 0), .inl (.byte, 96, .inl fun _ => 0)]) := by
  refine jMet_of (hY := rfl) true (fun h => rfl) (by decide) (Nat.le_of_ble_eq_true rfl) [some (.inr (.inr (some (.inl (a)))))] rfl ?_
  intro M hl hR X hr
  have hak : ∀ k, (a < n + k) = True := fun k => eq_true (by omega)
  have hak0 : (a < n) = True := eq_true ha
  refine jmk_in h ?_
  refine jrun_ok jC X k_GR_init_0 0 _ _ _ o_GR_init_0 ?_
  simp only [k_GR_init_0, jrun, jstep, jldi, jldl, jlda, j1, j2, jl1, jl2, jli, ja1, jbr, jald, jast, jlald, jlast, jalen, jget, jput, jfit, jdup, jdupx, jdupx2, jdup2, jcat, jset1, jset2, jkill, List.getElem?_cons_zero, List.getElem?_cons_succ, List.set_cons_zero, List.set_cons_succ, List.length_cons, List.length_nil, Nat.reduceAdd, Nat.reduceLT, Int32.reduceToNatClampNeg, true_and, and_true, and_self, reduceCtorEq, not_false_eq_true, false_and, and_false, or_false, false_or, true_or, or_true, jmk_a, jmk_put, hak, hak0]
  refine jk_oi X hR (w1 := 433) (w2 := 340) (w3 := 341) d_GR_init_1 (by decide +kernel) (by decide +kernel) (by decide +kernel) (Nat.le_of_ble_eq_true rfl) (Nat.le_of_ble_eq_true rfl) (pc' := 4) rfl ?_
  refine jrun_ok jC X k_GR_init_4 4 _ _ _ o_GR_init_4 ?_
  simp only [k_GR_init_4, jrun, jstep, jldi, jldl, jlda, j1, j2, jl1, jl2, jli, ja1, jbr, jald, jast, jlald, jlast, jalen, jget, jput, jfit, jdup, jdupx, jdupx2, jdup2, jcat, jset1, jset2, jkill, List.getElem?_cons_zero, List.getElem?_cons_succ, List.set_cons_zero, List.set_cons_succ, List.length_cons, List.length_nil, Nat.reduceAdd, Nat.reduceLT, Int32.reduceToNatClampNeg, true_and, and_true, and_self, reduceCtorEq, not_false_eq_true, false_and, and_false, or_false, false_or, true_or, or_true, jmk_a, jmk_put, hak, hak0]
  refine jc_nw jC X hR (w1 := 434) (w2 := 389) (w3 := 305) (ci := 3) d_GR_init_5 (q := ("ChessHouse$Signs", F_SI, 11)) rfl (by decide +kernel) (by decide +kernel) (by decide +kernel) (by decide +kernel) (fs := [.inr (.inr none), .inr (.inr none), .inl 0, .inl 0, .inl 0, .inl 0, .inl 0, .inl 0, .inl 0, .inl 0, .inl 0]) (by decide +kernel) ha rfl (n' := n + 1) rfl (c' := 1) rfl (s' := 11) rfl ⟨Nat.le_of_ble_eq_true rfl, Nat.le_of_ble_eq_true rfl⟩ (pc' := 8) rfl ?_
  refine jrun_ok jC X k_GR_init_8 8 _ _ _ o_GR_init_8 ?_
  simp only [k_GR_init_8, jrun, jstep, jldi, jldl, jlda, j1, j2, jl1, jl2, jli, ja1, jbr, jald, jast, jlald, jlast, jalen, jget, jput, jfit, jdup, jdupx, jdupx2, jdup2, jcat, jset1, jset2, jkill, List.getElem?_cons_zero, List.getElem?_cons_succ, List.set_cons_zero, List.set_cons_succ, List.length_cons, List.length_nil, Nat.reduceAdd, Nat.reduceLT, Int32.reduceToNatClampNeg, true_and, and_true, and_self, reduceCtorEq, not_false_eq_true, false_and, and_false, or_false, false_or, true_or, or_true, jmk_a, jmk_put, hak, hak0]
  refine jk_Ig X hR d_GR_init_9 q_GR_init_9 m_SI_init i_SI_init rfl rfl (vals := []) (r := [.inr (.inr (some (.inl n))), .inr (.inr (some (.inl (a))))]) (c_SI_init M.2.1 E (jmk σ a n (.inr (4, [.inl 0, .inr (.inr none), .inr (.inr none), .inr (.inr none), .inr (.inr none), .inr (.inr none), .inl 0, .inl 0, .inl 0, .inl 0, .inl 0, .inl 0])) ([] ++ [.inr (3, [.inr (.inr none), .inr (.inr none), .inl 0, .inl 0, .inl 0, .inl 0, .inl 0, .inl 0, .inl 0, .inl 0, .inl 0])])) (n + 1) (n) (by omega) (jmk_at (k := 0) ha (by rfl))) rfl rfl ⟨Nat.le_of_ble_eq_true rfl, Nat.le_of_ble_eq_true rfl⟩ (c' := 3) rfl (s' := 3474) rfl ⟨Nat.le_of_ble_eq_true rfl, Nat.le_of_ble_eq_true rfl⟩ (Nat.le_of_ble_eq_true rfl) (pc' := 12) rfl ?_
  rintro _ _ _ ⟨rfl, rfl, rfl⟩
  rw [jmk_nest (a := a) (n := n) (b := n) (m := n + 1) (cs := []) ha rfl rfl]
  show jJ E jcl 1 M _ (n + 3) 3 (3474) 12 [some (.inr (.inr (some (.inl (a)))))] [.inr (.inr (some (.inl n))), .inr (.inr (some (.inl (a))))] (jmk σ a n (.inr (4, [.inl 0, .inr (.inr none), .inr (.inr none), .inr (.inr none), .inr (.inr none), .inr (.inr none), .inl 0, .inl 0, .inl 0, .inl 0, .inl 0, .inl 0])) [.inr (3, [.inr (.inr (some (.inl (n + 1)))), .inr (.inr (some (.inl (n + 2)))), .inl 0, .inl 0, .inl 0, .inl 0, .inl 0, .inl 0, .inl 0, .inl 0, .inl 0]), .inl (.int, 3456, .inl fun _ => 0), .inl (.int, 7, .inl fun _ => 0)])
  refine jrun_ok jC X k_GR_init_12 12 _ _ _ o_GR_init_12 ?_
  simp only [k_GR_init_12, jrun, jstep, jldi, jldl, jlda, j1, j2, jl1, jl2, jli, ja1, jbr, jald, jast, jlald, jlast, jalen, jget, jput, jfit, jdup, jdupx, jdupx2, jdup2, jcat, jset1, jset2, jkill, List.getElem?_cons_zero, List.getElem?_cons_succ, List.set_cons_zero, List.set_cons_succ, List.length_cons, List.length_nil, Nat.reduceAdd, Nat.reduceLT, Int32.reduceToNatClampNeg, true_and, and_true, and_self, reduceCtorEq, not_false_eq_true, false_and, and_false, or_false, false_or, true_or, or_true, jmk_a, jmk_put, hak, hak0]
  refine jc_na X hR (w1 := 387) d_GR_init_18 rfl (by decide +kernel) (by decide) (by decide) 6 (by decide) (by decide) rfl [.inr (3, [.inr (.inr (some (.inl (n + 1)))), .inr (.inr (some (.inl (n + 2)))), .inl 0, .inl 0, .inl 0, .inl 0, .inl 0, .inl 0, .inl 0, .inl 0, .inl 0]), .inl (.int, 3456, .inl fun _ => 0), .inl (.int, 7, .inl fun _ => 0), .inl (.int, 6, .inl fun _ => 0)] ha rfl rfl (n' := n + 4) rfl (c' := 4) rfl (s' := 3480) rfl ⟨Nat.le_of_ble_eq_true rfl, Nat.le_of_ble_eq_true rfl⟩ (pc' := 20) rfl ?_
  refine jrun_ok jC X k_GR_init_20 20 _ _ _ o_GR_init_20 ?_
  simp only [k_GR_init_20, jrun, jstep, jldi, jldl, jlda, j1, j2, jl1, jl2, jli, ja1, jbr, jald, jast, jlald, jlast, jalen, jget, jput, jfit, jdup, jdupx, jdupx2, jdup2, jcat, jset1, jset2, jkill, List.getElem?_cons_zero, List.getElem?_cons_succ, List.set_cons_zero, List.set_cons_succ, List.length_cons, List.length_nil, Nat.reduceAdd, Nat.reduceLT, Int32.reduceToNatClampNeg, true_and, and_true, and_self, reduceCtorEq, not_false_eq_true, false_and, and_false, or_false, false_or, true_or, or_true, jmk_a, jmk_put, hak, hak0]
  refine jc_na X hR (w1 := 361) d_GR_init_26 rfl (by decide +kernel) (by decide) (by decide) 96 (by decide) (by decide) rfl [.inr (3, [.inr (.inr (some (.inl (n + 1)))), .inr (.inr (some (.inl (n + 2)))), .inl 0, .inl 0, .inl 0, .inl 0, .inl 0, .inl 0, .inl 0, .inl 0, .inl 0]), .inl (.int, 3456, .inl fun _ => 0), .inl (.int, 7, .inl fun _ => 0), .inl (.int, 6, .inl fun _ => 0), .inl (.byte, 96, .inl fun _ => 0)] ha rfl rfl (n' := n + 5) rfl (c' := 5) rfl (s' := 3576) rfl ⟨Nat.le_of_ble_eq_true rfl, Nat.le_of_ble_eq_true rfl⟩ (pc' := 28) rfl ?_
  refine jrun_ok jC X k_GR_init_28 28 _ _ _ o_GR_init_28 ?_
  simp only [k_GR_init_28, jrun, jstep, jldi, jldl, jlda, j1, j2, jl1, jl2, jli, ja1, jbr, jald, jast, jlald, jlast, jalen, jget, jput, jfit, jdup, jdupx, jdupx2, jdup2, jcat, jset1, jset2, jkill, List.getElem?_cons_zero, List.getElem?_cons_succ, List.set_cons_zero, List.set_cons_succ, List.length_cons, List.length_nil, Nat.reduceAdd, Nat.reduceLT, Int32.reduceToNatClampNeg, true_and, and_true, and_self, reduceCtorEq, not_false_eq_true, false_and, and_false, or_false, false_or, true_or, or_true, jmk_a, jmk_put, hak, hak0]
  exact jk_vret X d_GR_init_31 hr (Nat.le_refl _) (Nat.le_refl _) ⟨rfl, rfl, rfl⟩
set_option maxRecDepth 100000 in
set_option maxHeartbeats 4000000 in
theorem c_GW_init (l : Launch) (E : jE) (σ : Nat → jcell) (n : Nat) (a : Nat) (ha : a < n) (h : σ a = .inr (5, [.inr (.inr none), .inr (.inr none), .inr (.inr none)])) : jMet l E jcl jtb lw_tbl y_GW_init { frames := 2, cells := 5, slots := 134548, locals := 41 } [.inr (.inr (some (.inl (a))))] σ n (fun r σ' n' => r = none ∧ n' = n + 5 ∧ σ' = jmk σ a n (.inr (5, [.inr (.inr (some (.inl n))), .inr (.inr (some (.inl (n + 2)))), .inr (.inr none)])) [.inr (1, [.inr (.inr (some (.inl (n + 1)))), .inl 0]), .inl (.byte, 131072, .inl fun _ => 0), .inr (3, [.inr (.inr (some (.inl (n + 3)))), .inr (.inr (some (.inl (n + 4)))), .inl 0, .inl 0, .inl 0, .inl 0, .inl 0, .inl 0, .inl 0, .inl 0, .inl 0]), .inl (.int, 3456, .inl fun _ => 0), .inl (.int, 7, .inl fun _ => 0)]) := by
  refine jMet_of (hY := rfl) true (fun h => rfl) (by decide) (Nat.le_of_ble_eq_true rfl) [some (.inr (.inr (some (.inl (a)))))] rfl ?_
  intro M hl hR X hr
  have hak : ∀ k, (a < n + k) = True := fun k => eq_true (by omega)
  have hak0 : (a < n) = True := eq_true ha
  refine jmk_in h ?_
  refine jrun_ok jC X k_GW_init_0 0 _ _ _ o_GW_init_0 ?_
  simp only [k_GW_init_0, jrun, jstep, jldi, jldl, jlda, j1, j2, jl1, jl2, jli, ja1, jbr, jald, jast, jlald, jlast, jalen, jget, jput, jfit, jdup, jdupx, jdupx2, jdup2, jcat, jset1, jset2, jkill, List.getElem?_cons_zero, List.getElem?_cons_succ, List.set_cons_zero, List.set_cons_succ, List.length_cons, List.length_nil, Nat.reduceAdd, Nat.reduceLT, Int32.reduceToNatClampNeg, true_and, and_true, and_self, reduceCtorEq, not_false_eq_true, false_and, and_false, or_false, false_or, true_or, or_true, jmk_a, jmk_put, hak, hak0]
  refine jk_oi X hR (w1 := 479) (w2 := 340) (w3 := 341) d_GW_init_1 (by decide +kernel) (by decide +kernel) (by decide +kernel) (Nat.le_of_ble_eq_true rfl) (Nat.le_of_ble_eq_true rfl) (pc' := 4) rfl ?_
  refine jrun_ok jC X k_GW_init_4 4 _ _ _ o_GW_init_4 ?_
  simp only [k_GW_init_4, jrun, jstep, jldi, jldl, jlda, j1, j2, jl1, jl2, jli, ja1, jbr, jald, jast, jlald, jlast, jalen, jget, jput, jfit, jdup, jdupx, jdupx2, jdup2, jcat, jset1, jset2, jkill, List.getElem?_cons_zero, List.getElem?_cons_succ, List.set_cons_zero, List.set_cons_succ, List.length_cons, List.length_nil, Nat.reduceAdd, Nat.reduceLT, Int32.reduceToNatClampNeg, true_and, and_true, and_self, reduceCtorEq, not_false_eq_true, false_and, and_false, or_false, false_or, true_or, or_true, jmk_a, jmk_put, hak, hak0]
  refine jc_nw jC X hR (w1 := 480) (w2 := 344) (w3 := 303) (ci := 1) d_GW_init_5 (q := ("ChessHouse$Bytes", F_BY, 2)) rfl (by decide +kernel) (by decide +kernel) (by decide +kernel) (by decide +kernel) (fs := [.inr (.inr none), .inl 0]) (by decide +kernel) ha rfl (n' := n + 1) rfl (c' := 1) rfl (s' := 2) rfl ⟨Nat.le_of_ble_eq_true rfl, Nat.le_of_ble_eq_true rfl⟩ (pc' := 8) rfl ?_
  refine jrun_ok jC X k_GW_init_8 8 _ _ _ o_GW_init_8 ?_
  simp only [k_GW_init_8, jrun, jstep, jldi, jldl, jlda, j1, j2, jl1, jl2, jli, ja1, jbr, jald, jast, jlald, jlast, jalen, jget, jput, jfit, jdup, jdupx, jdupx2, jdup2, jcat, jset1, jset2, jkill, List.getElem?_cons_zero, List.getElem?_cons_succ, List.set_cons_zero, List.set_cons_succ, List.length_cons, List.length_nil, Nat.reduceAdd, Nat.reduceLT, Int32.reduceToNatClampNeg, true_and, and_true, and_self, reduceCtorEq, not_false_eq_true, false_and, and_false, or_false, false_or, true_or, or_true, jmk_a, jmk_put, hak, hak0]
  refine jk_Ig X hR d_GW_init_11 q_GW_init_11 m_BY_init i_BY_init rfl rfl (vals := [.inl 131072]) (r := [.inr (.inr (some (.inl n))), .inr (.inr (some (.inl (a))))]) (c_BY_init M.2.1 E (jmk σ a n (.inr (5, [.inr (.inr none), .inr (.inr none), .inr (.inr none)])) ([] ++ [.inr (1, [.inr (.inr none), .inl 0])])) (n + 1) (n) (by omega) (jmk_at (k := 0) ha (by rfl)) 131072 (by decide)) rfl rfl ⟨Nat.le_of_ble_eq_true rfl, Nat.le_of_ble_eq_true rfl⟩ (c' := 2) rfl (s' := 131074) rfl ⟨Nat.le_of_ble_eq_true rfl, Nat.le_of_ble_eq_true rfl⟩ (Nat.le_of_ble_eq_true rfl) (pc' := 14) rfl ?_
  rintro _ _ _ ⟨rfl, rfl, rfl⟩
  rw [jmk_nest (a := a) (n := n) (b := n) (m := n + 1) (cs := []) ha rfl rfl]
  show jJ E jcl 1 M _ (n + 2) 2 (131074) 14 [some (.inr (.inr (some (.inl (a)))))] [.inr (.inr (some (.inl n))), .inr (.inr (some (.inl (a))))] (jmk σ a n (.inr (5, [.inr (.inr none), .inr (.inr none), .inr (.inr none)])) [.inr (1, [.inr (.inr (some (.inl (n + 1)))), .inl 0]), .inl (.byte, 131072, .inl fun _ => 0)])
  refine jrun_ok jC X k_GW_init_14 14 _ _ _ o_GW_init_14 ?_
  simp only [k_GW_init_14, jrun, jstep, jldi, jldl, jlda, j1, j2, jl1, jl2, jli, ja1, jbr, jald, jast, jlald, jlast, jalen, jget, jput, jfit, jdup, jdupx, jdupx2, jdup2, jcat, jset1, jset2, jkill, List.getElem?_cons_zero, List.getElem?_cons_succ, List.set_cons_zero, List.set_cons_succ, List.length_cons, List.length_nil, Nat.reduceAdd, Nat.reduceLT, Int32.reduceToNatClampNeg, true_and, and_true, and_self, reduceCtorEq, not_false_eq_true, false_and, and_false, or_false, false_or, true_or, or_true, jmk_a, jmk_put, hak, hak0]
  refine jc_nw jC X hR (w1 := 483) (w2 := 389) (w3 := 305) (ci := 3) d_GW_init_18 (q := ("ChessHouse$Signs", F_SI, 11)) rfl (by decide +kernel) (by decide +kernel) (by decide +kernel) (by decide +kernel) (fs := [.inr (.inr none), .inr (.inr none), .inl 0, .inl 0, .inl 0, .inl 0, .inl 0, .inl 0, .inl 0, .inl 0, .inl 0]) (by decide +kernel) ha rfl (n' := n + 3) rfl (c' := 3) rfl (s' := 131085) rfl ⟨Nat.le_of_ble_eq_true rfl, Nat.le_of_ble_eq_true rfl⟩ (pc' := 21) rfl ?_
  refine jrun_ok jC X k_GW_init_21 21 _ _ _ o_GW_init_21 ?_
  simp only [k_GW_init_21, jrun, jstep, jldi, jldl, jlda, j1, j2, jl1, jl2, jli, ja1, jbr, jald, jast, jlald, jlast, jalen, jget, jput, jfit, jdup, jdupx, jdupx2, jdup2, jcat, jset1, jset2, jkill, List.getElem?_cons_zero, List.getElem?_cons_succ, List.set_cons_zero, List.set_cons_succ, List.length_cons, List.length_nil, Nat.reduceAdd, Nat.reduceLT, Int32.reduceToNatClampNeg, true_and, and_true, and_self, reduceCtorEq, not_false_eq_true, false_and, and_false, or_false, false_or, true_or, or_true, jmk_a, jmk_put, hak, hak0]
  refine jk_Ig X hR d_GW_init_22 q_GW_init_22 m_SI_init i_SI_init rfl rfl (vals := []) (r := [.inr (.inr (some (.inl (n + 2)))), .inr (.inr (some (.inl (a))))]) (c_SI_init M.2.1 E (jmk σ a n (.inr (5, [.inr (.inr (some (.inl n))), .inr (.inr none), .inr (.inr none)])) ([.inr (1, [.inr (.inr (some (.inl (n + 1)))), .inl 0]), .inl (.byte, 131072, .inl fun _ => 0)] ++ [.inr (3, [.inr (.inr none), .inr (.inr none), .inl 0, .inl 0, .inl 0, .inl 0, .inl 0, .inl 0, .inl 0, .inl 0, .inl 0])])) (n + 3) (n + 2) (by omega) (jmk_at (k := 2) ha (by rfl))) rfl rfl ⟨Nat.le_of_ble_eq_true rfl, Nat.le_of_ble_eq_true rfl⟩ (c' := 5) rfl (s' := 134548) rfl ⟨Nat.le_of_ble_eq_true rfl, Nat.le_of_ble_eq_true rfl⟩ (Nat.le_of_ble_eq_true rfl) (pc' := 25) rfl ?_
  rintro _ _ _ ⟨rfl, rfl, rfl⟩
  rw [jmk_nest (a := a) (n := n) (b := n + 2) (m := n + 3) (cs := [.inr (1, [.inr (.inr (some (.inl (n + 1)))), .inl 0]), .inl (.byte, 131072, .inl fun _ => 0)]) ha rfl rfl]
  show jJ E jcl 1 M _ (n + 5) 5 (134548) 25 [some (.inr (.inr (some (.inl (a)))))] [.inr (.inr (some (.inl (n + 2)))), .inr (.inr (some (.inl (a))))] (jmk σ a n (.inr (5, [.inr (.inr (some (.inl n))), .inr (.inr none), .inr (.inr none)])) [.inr (1, [.inr (.inr (some (.inl (n + 1)))), .inl 0]), .inl (.byte, 131072, .inl fun _ => 0), .inr (3, [.inr (.inr (some (.inl (n + 3)))), .inr (.inr (some (.inl (n + 4)))), .inl 0, .inl 0, .inl 0, .inl 0, .inl 0, .inl 0, .inl 0, .inl 0, .inl 0]), .inl (.int, 3456, .inl fun _ => 0), .inl (.int, 7, .inl fun _ => 0)])
  refine jrun_ok jC X k_GW_init_25 25 _ _ _ o_GW_init_25 ?_
  simp only [k_GW_init_25, jrun, jstep, jldi, jldl, jlda, j1, j2, jl1, jl2, jli, ja1, jbr, jald, jast, jlald, jlast, jalen, jget, jput, jfit, jdup, jdupx, jdupx2, jdup2, jcat, jset1, jset2, jkill, List.getElem?_cons_zero, List.getElem?_cons_succ, List.set_cons_zero, List.set_cons_succ, List.length_cons, List.length_nil, Nat.reduceAdd, Nat.reduceLT, Int32.reduceToNatClampNeg, true_and, and_true, and_self, reduceCtorEq, not_false_eq_true, false_and, and_false, or_false, false_or, true_or, or_true, jmk_a, jmk_put, hak, hak0]
  exact jk_vret X d_GW_init_28 hr (Nat.le_refl _) (Nat.le_refl _) ⟨rfl, rfl, rfl⟩
set_option maxRecDepth 100000 in
set_option maxHeartbeats 4000000 in
theorem c_SE_init (l : Launch) (E : jE) (σ : Nat → jcell) (n : Nat) (a : Nat) (ha : a < n) (h : σ a = .inr (6, [.inl 0, .inr (.inr none), .inr (.inr none), .inr (.inr none), .inl 0, .inr (.inr none), .inl 0])) : jMet l E jcl jtb lw_tbl y_SE_init { frames := 1, cells := 3, slots := 20752, locals := 20 } [.inr (.inr (some (.inl (a))))] σ n (fun r σ' n' => r = none ∧ n' = n + 3 ∧ σ' = jmk σ a n (.inr (6, [.inl 0, .inr (.inr (some (.inl n))), .inr (.inr (some (.inl (n + 1)))), .inr (.inr (some (.inl (n + 2)))), .inl 0, .inr (.inr none), .inl 0])) [.inl (.int, 20736, .inl fun _ => 0), .inl (.int, 8, .inl fun _ => 0), .inl (.long, 8, .inr (.inl fun _ => 0))]) := by
  refine jMet_of (hY := rfl) true (fun h => rfl) (by decide) (Nat.le_of_ble_eq_true rfl) [some (.inr (.inr (some (.inl (a)))))] rfl ?_
  intro M hl hR X hr
  have hak : ∀ k, (a < n + k) = True := fun k => eq_true (by omega)
  have hak0 : (a < n) = True := eq_true ha
  refine jmk_in h ?_
  refine jrun_ok jC X k_SE_init_0 0 _ _ _ o_SE_init_0 ?_
  simp only [k_SE_init_0, jrun, jstep, jldi, jldl, jlda, j1, j2, jl1, jl2, jli, ja1, jbr, jald, jast, jlald, jlast, jalen, jget, jput, jfit, jdup, jdupx, jdupx2, jdup2, jcat, jset1, jset2, jkill, List.getElem?_cons_zero, List.getElem?_cons_succ, List.set_cons_zero, List.set_cons_succ, List.length_cons, List.length_nil, Nat.reduceAdd, Nat.reduceLT, Int32.reduceToNatClampNeg, true_and, and_true, and_self, reduceCtorEq, not_false_eq_true, false_and, and_false, or_false, false_or, true_or, or_true, jmk_a, jmk_put, hak, hak0]
  refine jk_oi X hR (w1 := 500) (w2 := 340) (w3 := 341) d_SE_init_1 (by decide +kernel) (by decide +kernel) (by decide +kernel) (Nat.le_of_ble_eq_true rfl) (Nat.le_of_ble_eq_true rfl) (pc' := 4) rfl ?_
  refine jrun_ok jC X k_SE_init_4 4 _ _ _ o_SE_init_4 ?_
  simp only [k_SE_init_4, jrun, jstep, jldi, jldl, jlda, j1, j2, jl1, jl2, jli, ja1, jbr, jald, jast, jlald, jlast, jalen, jget, jput, jfit, jdup, jdupx, jdupx2, jdup2, jcat, jset1, jset2, jkill, List.getElem?_cons_zero, List.getElem?_cons_succ, List.set_cons_zero, List.set_cons_succ, List.length_cons, List.length_nil, Nat.reduceAdd, Nat.reduceLT, Int32.reduceToNatClampNeg, true_and, and_true, and_self, reduceCtorEq, not_false_eq_true, false_and, and_false, or_false, false_or, true_or, or_true, jmk_a, jmk_put, hak, hak0]
  refine jc_na X hR (w1 := 387) d_SE_init_8 rfl (by decide +kernel) (by decide) (by decide) 20736 (by decide) (by decide) rfl [.inl (.int, 20736, .inl fun _ => 0)] ha rfl rfl (n' := n + 1) rfl (c' := 1) rfl (s' := 20736) rfl ⟨Nat.le_of_ble_eq_true rfl, Nat.le_of_ble_eq_true rfl⟩ (pc' := 10) rfl ?_
  refine jrun_ok jC X k_SE_init_10 10 _ _ _ o_SE_init_10 ?_
  simp only [k_SE_init_10, jrun, jstep, jldi, jldl, jlda, j1, j2, jl1, jl2, jli, ja1, jbr, jald, jast, jlald, jlast, jalen, jget, jput, jfit, jdup, jdupx, jdupx2, jdup2, jcat, jset1, jset2, jkill, List.getElem?_cons_zero, List.getElem?_cons_succ, List.set_cons_zero, List.set_cons_succ, List.length_cons, List.length_nil, Nat.reduceAdd, Nat.reduceLT, Int32.reduceToNatClampNeg, true_and, and_true, and_self, reduceCtorEq, not_false_eq_true, false_and, and_false, or_false, false_or, true_or, or_true, jmk_a, jmk_put, hak, hak0]
  refine jc_na X hR (w1 := 387) d_SE_init_16 rfl (by decide +kernel) (by decide) (by decide) 8 (by decide) (by decide) rfl [.inl (.int, 20736, .inl fun _ => 0), .inl (.int, 8, .inl fun _ => 0)] ha rfl rfl (n' := n + 2) rfl (c' := 2) rfl (s' := 20744) rfl ⟨Nat.le_of_ble_eq_true rfl, Nat.le_of_ble_eq_true rfl⟩ (pc' := 18) rfl ?_
  refine jrun_ok jC X k_SE_init_18 18 _ _ _ o_SE_init_18 ?_
  simp only [k_SE_init_18, jrun, jstep, jldi, jldl, jlda, j1, j2, jl1, jl2, jli, ja1, jbr, jald, jast, jlald, jlast, jalen, jget, jput, jfit, jdup, jdupx, jdupx2, jdup2, jcat, jset1, jset2, jkill, List.getElem?_cons_zero, List.getElem?_cons_succ, List.set_cons_zero, List.set_cons_succ, List.length_cons, List.length_nil, Nat.reduceAdd, Nat.reduceLT, Int32.reduceToNatClampNeg, true_and, and_true, and_self, reduceCtorEq, not_false_eq_true, false_and, and_false, or_false, false_or, true_or, or_true, jmk_a, jmk_put, hak, hak0]
  refine jc_na X hR (w1 := 524) d_SE_init_24 rfl (by decide +kernel) (by decide) (by decide) 8 (by decide) (by decide) rfl [.inl (.int, 20736, .inl fun _ => 0), .inl (.int, 8, .inl fun _ => 0), .inl (.long, 8, .inr (.inl fun _ => 0))] ha rfl rfl (n' := n + 3) rfl (c' := 3) rfl (s' := 20752) rfl ⟨Nat.le_of_ble_eq_true rfl, Nat.le_of_ble_eq_true rfl⟩ (pc' := 26) rfl ?_
  refine jrun_ok jC X k_SE_init_26 26 _ _ _ o_SE_init_26 ?_
  simp only [k_SE_init_26, jrun, jstep, jldi, jldl, jlda, j1, j2, jl1, jl2, jli, ja1, jbr, jald, jast, jlald, jlast, jalen, jget, jput, jfit, jdup, jdupx, jdupx2, jdup2, jcat, jset1, jset2, jkill, List.getElem?_cons_zero, List.getElem?_cons_succ, List.set_cons_zero, List.set_cons_succ, List.length_cons, List.length_nil, Nat.reduceAdd, Nat.reduceLT, Int32.reduceToNatClampNeg, true_and, and_true, and_self, reduceCtorEq, not_false_eq_true, false_and, and_false, or_false, false_or, true_or, or_true, jmk_a, jmk_put, hak, hak0]
  exact jk_vret X d_SE_init_29 hr (Nat.le_refl _) (Nat.le_refl _) ⟨rfl, rfl, rfl⟩
set_option maxRecDepth 100000 in
set_option maxHeartbeats 4000000 in
theorem c_PR_init (l : Launch) (E : jE) (σ : Nat → jcell) (n : Nat) (a : Nat) (ha : a < n) (h : σ a = .inr (7, [.inl 0, .inl 0, .inl 0, .inl 0, .inr (.inr none), .inr (.inr none), .inr (.inr none), .inr (.inr none), .inl 0, .inl 0])) : jMet l E jcl jtb lw_tbl y_PR_init { frames := 1, cells := 3, slots := 13832, locals := 20 } [.inr (.inr (some (.inl (a))))] σ n (fun r σ' n' => r = none ∧ n' = n + 3 ∧ σ' = jmk σ a n (.inr (7, [.inl 0, .inl 0, .inl 0, .inl 0, .inr (.inr (some (.inl n))), .inr (.inr (some (.inl (n + 1)))), .inr (.inr (some (.inl (n + 2)))), .inr (.inr none), .inl 0, .inl 0])) [.inl (.int, 4, .inl fun _ => 0), .inl (.long, 4, .inr (.inl fun _ => 0)), .inl (.int, 13824, .inl fun _ => 0)]) := by
  refine jMet_of (hY := rfl) true (fun h => rfl) (by decide) (Nat.le_of_ble_eq_true rfl) [some (.inr (.inr (some (.inl (a)))))] rfl ?_
  intro M hl hR X hr
  have hak : ∀ k, (a < n + k) = True := fun k => eq_true (by omega)
  have hak0 : (a < n) = True := eq_true ha
  refine jmk_in h ?_
  refine jrun_ok jC X k_PR_init_0 0 _ _ _ o_PR_init_0 ?_
  simp only [k_PR_init_0, jrun, jstep, jldi, jldl, jlda, j1, j2, jl1, jl2, jli, ja1, jbr, jald, jast, jlald, jlast, jalen, jget, jput, jfit, jdup, jdupx, jdupx2, jdup2, jcat, jset1, jset2, jkill, List.getElem?_cons_zero, List.getElem?_cons_succ, List.set_cons_zero, List.set_cons_succ, List.length_cons, List.length_nil, Nat.reduceAdd, Nat.reduceLT, Int32.reduceToNatClampNeg, true_and, and_true, and_self, reduceCtorEq, not_false_eq_true, false_and, and_false, or_false, false_or, true_or, or_true, jmk_a, jmk_put, hak, hak0]
  refine jk_oi X hR (w1 := 530) (w2 := 340) (w3 := 341) d_PR_init_1 (by decide +kernel) (by decide +kernel) (by decide +kernel) (Nat.le_of_ble_eq_true rfl) (Nat.le_of_ble_eq_true rfl) (pc' := 4) rfl ?_
  refine jrun_ok jC X k_PR_init_4 4 _ _ _ o_PR_init_4 ?_
  simp only [k_PR_init_4, jrun, jstep, jldi, jldl, jlda, j1, j2, jl1, jl2, jli, ja1, jbr, jald, jast, jlald, jlast, jalen, jget, jput, jfit, jdup, jdupx, jdupx2, jdup2, jcat, jset1, jset2, jkill, List.getElem?_cons_zero, List.getElem?_cons_succ, List.set_cons_zero, List.set_cons_succ, List.length_cons, List.length_nil, Nat.reduceAdd, Nat.reduceLT, Int32.reduceToNatClampNeg, true_and, and_true, and_self, reduceCtorEq, not_false_eq_true, false_and, and_false, or_false, false_or, true_or, or_true, jmk_a, jmk_put, hak, hak0]
  refine jc_na X hR (w1 := 387) d_PR_init_6 rfl (by decide +kernel) (by decide) (by decide) 4 (by decide) (by decide) rfl [.inl (.int, 4, .inl fun _ => 0)] ha rfl rfl (n' := n + 1) rfl (c' := 1) rfl (s' := 4) rfl ⟨Nat.le_of_ble_eq_true rfl, Nat.le_of_ble_eq_true rfl⟩ (pc' := 8) rfl ?_
  refine jrun_ok jC X k_PR_init_8 8 _ _ _ o_PR_init_8 ?_
  simp only [k_PR_init_8, jrun, jstep, jldi, jldl, jlda, j1, j2, jl1, jl2, jli, ja1, jbr, jald, jast, jlald, jlast, jalen, jget, jput, jfit, jdup, jdupx, jdupx2, jdup2, jcat, jset1, jset2, jkill, List.getElem?_cons_zero, List.getElem?_cons_succ, List.set_cons_zero, List.set_cons_succ, List.length_cons, List.length_nil, Nat.reduceAdd, Nat.reduceLT, Int32.reduceToNatClampNeg, true_and, and_true, and_self, reduceCtorEq, not_false_eq_true, false_and, and_false, or_false, false_or, true_or, or_true, jmk_a, jmk_put, hak, hak0]
  refine jc_na X hR (w1 := 524) d_PR_init_13 rfl (by decide +kernel) (by decide) (by decide) 4 (by decide) (by decide) rfl [.inl (.int, 4, .inl fun _ => 0), .inl (.long, 4, .inr (.inl fun _ => 0))] ha rfl rfl (n' := n + 2) rfl (c' := 2) rfl (s' := 8) rfl ⟨Nat.le_of_ble_eq_true rfl, Nat.le_of_ble_eq_true rfl⟩ (pc' := 15) rfl ?_
  refine jrun_ok jC X k_PR_init_15 15 _ _ _ o_PR_init_15 ?_
  simp only [k_PR_init_15, jrun, jstep, jldi, jldl, jlda, j1, j2, jl1, jl2, jli, ja1, jbr, jald, jast, jlald, jlast, jalen, jget, jput, jfit, jdup, jdupx, jdupx2, jdup2, jcat, jset1, jset2, jkill, List.getElem?_cons_zero, List.getElem?_cons_succ, List.set_cons_zero, List.set_cons_succ, List.length_cons, List.length_nil, Nat.reduceAdd, Nat.reduceLT, Int32.reduceToNatClampNeg, true_and, and_true, and_self, reduceCtorEq, not_false_eq_true, false_and, and_false, or_false, false_or, true_or, or_true, jmk_a, jmk_put, hak, hak0]
  refine jc_na X hR (w1 := 387) d_PR_init_22 rfl (by decide +kernel) (by decide) (by decide) 13824 (by decide) (by decide) rfl [.inl (.int, 4, .inl fun _ => 0), .inl (.long, 4, .inr (.inl fun _ => 0)), .inl (.int, 13824, .inl fun _ => 0)] ha rfl rfl (n' := n + 3) rfl (c' := 3) rfl (s' := 13832) rfl ⟨Nat.le_of_ble_eq_true rfl, Nat.le_of_ble_eq_true rfl⟩ (pc' := 24) rfl ?_
  refine jrun_ok jC X k_PR_init_24 24 _ _ _ o_PR_init_24 ?_
  simp only [k_PR_init_24, jrun, jstep, jldi, jldl, jlda, j1, j2, jl1, jl2, jli, ja1, jbr, jald, jast, jlald, jlast, jalen, jget, jput, jfit, jdup, jdupx, jdupx2, jdup2, jcat, jset1, jset2, jkill, List.getElem?_cons_zero, List.getElem?_cons_succ, List.set_cons_zero, List.set_cons_succ, List.length_cons, List.length_nil, Nat.reduceAdd, Nat.reduceLT, Int32.reduceToNatClampNeg, true_and, and_true, and_self, reduceCtorEq, not_false_eq_true, false_and, and_false, or_false, false_or, true_or, or_true, jmk_a, jmk_put, hak, hak0]
  exact jk_vret X d_PR_init_27 hr (Nat.le_refl _) (Nat.le_refl _) ⟨rfl, rfl, rfl⟩
set_option maxRecDepth 100000 in
set_option maxHeartbeats 4000000 in
theorem c_EN_init (l : Launch) (E : jE) (σ : Nat → jcell) (n : Nat) (a : Nat) (ha : a < n) (h : σ a = .inr (8, [.inl 0, .inl 0, .inr (.inr none), .inr (.inr none), .inr (.inr none), .inr (.inr none), .inr (.inr none), .inr (.inr none), .inl 0, .inl 0])) : jMet l E jcl jtb lw_tbl y_EN_init { frames := 1, cells := 2, slots := 1728, locals := 20 } [.inr (.inr (some (.inl (a))))] σ n (fun r σ' n' => r = none ∧ n' = n + 2 ∧ σ' = jmk σ a n (.inr (8, [.inl 0, .inl 0, .inr (.inr (some (.inl n))), .inr (.inr none), .inr (.inr none), .inr (.inr none), .inr (.inr none), .inr (.inr (some (.inl (n + 1)))), .inl 0, .inl 0])) [.inl (.int, 1728, .inl fun _ => 0), .inl (.int, 0, .inl fun _ => 0)]) := by
  refine jMet_of (hY := rfl) true (fun h => rfl) (by decide) (Nat.le_of_ble_eq_true rfl) [some (.inr (.inr (some (.inl (a)))))] rfl ?_
  intro M hl hR X hr
  have hak : ∀ k, (a < n + k) = True := fun k => eq_true (by omega)
  have hak0 : (a < n) = True := eq_true ha
  refine jmk_in h ?_
  refine jrun_ok jC X k_EN_init_0 0 _ _ _ o_EN_init_0 ?_
  simp only [k_EN_init_0, jrun, jstep, jldi, jldl, jlda, j1, j2, jl1, jl2, jli, ja1, jbr, jald, jast, jlald, jlast, jalen, jget, jput, jfit, jdup, jdupx, jdupx2, jdup2, jcat, jset1, jset2, jkill, List.getElem?_cons_zero, List.getElem?_cons_succ, List.set_cons_zero, List.set_cons_succ, List.length_cons, List.length_nil, Nat.reduceAdd, Nat.reduceLT, Int32.reduceToNatClampNeg, true_and, and_true, and_self, reduceCtorEq, not_false_eq_true, false_and, and_false, or_false, false_or, true_or, or_true, jmk_a, jmk_put, hak, hak0]
  refine jk_oi X hR (w1 := 573) (w2 := 340) (w3 := 341) d_EN_init_1 (by decide +kernel) (by decide +kernel) (by decide +kernel) (Nat.le_of_ble_eq_true rfl) (Nat.le_of_ble_eq_true rfl) (pc' := 4) rfl ?_
  refine jrun_ok jC X k_EN_init_4 4 _ _ _ o_EN_init_4 ?_
  simp only [k_EN_init_4, jrun, jstep, jldi, jldl, jlda, j1, j2, jl1, jl2, jli, ja1, jbr, jald, jast, jlald, jlast, jalen, jget, jput, jfit, jdup, jdupx, jdupx2, jdup2, jcat, jset1, jset2, jkill, List.getElem?_cons_zero, List.getElem?_cons_succ, List.set_cons_zero, List.set_cons_succ, List.length_cons, List.length_nil, Nat.reduceAdd, Nat.reduceLT, Int32.reduceToNatClampNeg, true_and, and_true, and_self, reduceCtorEq, not_false_eq_true, false_and, and_false, or_false, false_or, true_or, or_true, jmk_a, jmk_put, hak, hak0]
  refine jc_na X hR (w1 := 387) d_EN_init_8 rfl (by decide +kernel) (by decide) (by decide) 1728 (by decide) (by decide) rfl [.inl (.int, 1728, .inl fun _ => 0)] ha rfl rfl (n' := n + 1) rfl (c' := 1) rfl (s' := 1728) rfl ⟨Nat.le_of_ble_eq_true rfl, Nat.le_of_ble_eq_true rfl⟩ (pc' := 10) rfl ?_
  refine jrun_ok jC X k_EN_init_10 10 _ _ _ o_EN_init_10 ?_
  simp only [k_EN_init_10, jrun, jstep, jldi, jldl, jlda, j1, j2, jl1, jl2, jli, ja1, jbr, jald, jast, jlald, jlast, jalen, jget, jput, jfit, jdup, jdupx, jdupx2, jdup2, jcat, jset1, jset2, jkill, List.getElem?_cons_zero, List.getElem?_cons_succ, List.set_cons_zero, List.set_cons_succ, List.length_cons, List.length_nil, Nat.reduceAdd, Nat.reduceLT, Int32.reduceToNatClampNeg, true_and, and_true, and_self, reduceCtorEq, not_false_eq_true, false_and, and_false, or_false, false_or, true_or, or_true, jmk_a, jmk_put, hak, hak0]
  refine jc_na X hR (w1 := 387) d_EN_init_15 rfl (by decide +kernel) (by decide) (by decide) 0 (by decide) (by decide) rfl [.inl (.int, 1728, .inl fun _ => 0), .inl (.int, 0, .inl fun _ => 0)] ha rfl rfl (n' := n + 2) rfl (c' := 2) rfl (s' := 1728) rfl ⟨Nat.le_of_ble_eq_true rfl, Nat.le_of_ble_eq_true rfl⟩ (pc' := 17) rfl ?_
  refine jrun_ok jC X k_EN_init_17 17 _ _ _ o_EN_init_17 ?_
  simp only [k_EN_init_17, jrun, jstep, jldi, jldl, jlda, j1, j2, jl1, jl2, jli, ja1, jbr, jald, jast, jlald, jlast, jalen, jget, jput, jfit, jdup, jdupx, jdupx2, jdup2, jcat, jset1, jset2, jkill, List.getElem?_cons_zero, List.getElem?_cons_succ, List.set_cons_zero, List.set_cons_succ, List.length_cons, List.length_nil, Nat.reduceAdd, Nat.reduceLT, Int32.reduceToNatClampNeg, true_and, and_true, and_self, reduceCtorEq, not_false_eq_true, false_and, and_false, or_false, false_or, true_or, or_true, jmk_a, jmk_put, hak, hak0]
  exact jk_vret X d_EN_init_20 hr (Nat.le_refl _) (Nat.le_refl _) ⟨rfl, rfl, rfl⟩
set_option maxRecDepth 100000 in
set_option maxHeartbeats 4000000 in
theorem c_MB_init (l : Launch) (E : jE) (σ : Nat → jcell) (n : Nat) (a : Nat) (ha : a < n) (h : σ a = .inr (13, [.inl 0, .inr (.inr none), .inr (.inr none), .inl 0, .inl 0, .inl 0, .inl 0, .inl 0, .inl 0, .inr (.inr none), .inr (.inr none), .inr (.inr none), .inr (.inr none), .inr (.inr none), .inr (.inr none), .inr (.inr none), .inr (.inr none), .inr (.inr none), .inr (.inr none), .inr (.inr none), .inr (.inr none), .inr (.inr none), .inr (.inr none), .inl 0, .inl 0, .inl 0, .inl 0, .inl 0, .inr (.inr none), .inl 0, .inr (.inr none), .inl 0, .inl 0, .inr (.inr none), .inr (.inr none), .inr (.inr none), .inl 0])) : jMet l E jcl jtb lw_tbl y_MB_init { frames := 1, cells := 20, slots := 109261, locals := 20 } [.inr (.inr (some (.inl (a))))] σ n (fun r σ' n' => r = none ∧ n' = n + 20 ∧ σ' = jmk σ a n (.inr (13, [.inl 0, .inr (.inr (some (.inl n))), .inr (.inr (some (.inl (n + 1)))), .inl 0, .inl 0, .inl (-1), .inl 0, .inl 0, .inl 0, .inr (.inr (some (.inl (n + 2)))), .inr (.inr (some (.inl (n + 3)))), .inr (.inr (some (.inl (n + 4)))), .inr (.inr (some (.inl (n + 5)))), .inr (.inr (some (.inl (n + 6)))), .inr (.inr (some (.inl (n + 7)))), .inr (.inr (some (.inl (n + 8)))), .inr (.inr (some (.inl (n + 9)))), .inr (.inr (some (.inl (n + 10)))), .inr (.inr (some (.inl (n + 11)))), .inr (.inr (some (.inl (n + 12)))), .inr (.inr (some (.inl (n + 13)))), .inr (.inr (some (.inl (n + 14)))), .inr (.inr (some (.inl (n + 15)))), .inl 0, .inl 0, .inl 0, .inl 0, .inl 0, .inr (.inr (some (.inl (n + 16)))), .inl 0, .inr (.inr (some (.inl (n + 17)))), .inl 0, .inl 0, .inr (.inr (some (.inl (n + 18)))), .inr (.inr (some (.inl (n + 19)))), .inr (.inr none), .inl 0])) [.inl (.char, 65536, .inl fun _ => 0), .inl (.int, 64, .inl fun _ => 0), .inl (.int, 19520, .inl fun _ => 0), .inl (.int, 305, .inl fun _ => 0), .inl (.int, 305, .inl fun _ => 0), .inl (.int, 305, .inl fun _ => 0), .inl (.int, 305, .inl fun _ => 0), .inl (.int, 305, .inl fun _ => 0), .inl (.int, 11, .inl fun _ => 0), .inl (.int, 11, .inl fun _ => 0), .inl (.int, 11, .inl fun _ => 0), .inl (.int, 11, .inl fun _ => 0), .inl (.int, 11, .inl fun _ => 0), .inl (.int, 11, .inl fun _ => 0), .inl (.int, 20480, .inl fun _ => 0), .inl (.int, 10, .inl fun _ => 0), .inl (.int, 4, .inl fun _ => 0), .inl (.int, 2048, .inl fun _ => 0), .inl (.int, 4, .inl fun _ => 0), .inl (.int, 4, .inl fun _ => 0)]) := by
  refine jMet_of (hY := rfl) true (fun h => rfl) (by decide) (Nat.le_of_ble_eq_true rfl) [some (.inr (.inr (some (.inl (a)))))] rfl ?_
  intro M hl hR X hr
  have hak : ∀ k, (a < n + k) = True := fun k => eq_true (by omega)
  have hak0 : (a < n) = True := eq_true ha
  refine jmk_in h ?_
  refine jrun_ok jC X k_MB_init_0 0 _ _ _ o_MB_init_0 ?_
  simp only [k_MB_init_0, jrun, jstep, jldi, jldl, jlda, j1, j2, jl1, jl2, jli, ja1, jbr, jald, jast, jlald, jlast, jalen, jget, jput, jfit, jdup, jdupx, jdupx2, jdup2, jcat, jset1, jset2, jkill, List.getElem?_cons_zero, List.getElem?_cons_succ, List.set_cons_zero, List.set_cons_succ, List.length_cons, List.length_nil, Nat.reduceAdd, Nat.reduceLT, Int32.reduceToNatClampNeg, true_and, and_true, and_self, reduceCtorEq, not_false_eq_true, false_and, and_false, or_false, false_or, true_or, or_true, jmk_a, jmk_put, hak, hak0]
  refine jk_oi X hR (w1 := 2168) (w2 := 340) (w3 := 341) d_MB_init_1 (by decide +kernel) (by decide +kernel) (by decide +kernel) (Nat.le_of_ble_eq_true rfl) (Nat.le_of_ble_eq_true rfl) (pc' := 4) rfl ?_
  refine jrun_ok jC X k_MB_init_4 4 _ _ _ o_MB_init_4 ?_
  simp only [k_MB_init_4, jrun, jstep, jldi, jldl, jlda, j1, j2, jl1, jl2, jli, ja1, jbr, jald, jast, jlald, jlast, jalen, jget, jput, jfit, jdup, jdupx, jdupx2, jdup2, jcat, jset1, jset2, jkill, List.getElem?_cons_zero, List.getElem?_cons_succ, List.set_cons_zero, List.set_cons_succ, List.length_cons, List.length_nil, Nat.reduceAdd, Nat.reduceLT, Int32.reduceToNatClampNeg, true_and, and_true, and_self, reduceCtorEq, not_false_eq_true, false_and, and_false, or_false, false_or, true_or, or_true, jmk_a, jmk_put, hak, hak0]
  refine jc_na X hR (w1 := 2162) d_MB_init_7 rfl (by decide +kernel) (by decide) (by decide) 65536 (by decide) (by decide) rfl [.inl (.char, 65536, .inl fun _ => 0)] ha rfl rfl (n' := n + 1) rfl (c' := 1) rfl (s' := 65536) rfl ⟨Nat.le_of_ble_eq_true rfl, Nat.le_of_ble_eq_true rfl⟩ (pc' := 9) rfl ?_
  refine jrun_ok jC X k_MB_init_9 9 _ _ _ o_MB_init_9 ?_
  simp only [k_MB_init_9, jrun, jstep, jldi, jldl, jlda, j1, j2, jl1, jl2, jli, ja1, jbr, jald, jast, jlald, jlast, jalen, jget, jput, jfit, jdup, jdupx, jdupx2, jdup2, jcat, jset1, jset2, jkill, List.getElem?_cons_zero, List.getElem?_cons_succ, List.set_cons_zero, List.set_cons_succ, List.length_cons, List.length_nil, Nat.reduceAdd, Nat.reduceLT, Int32.reduceToNatClampNeg, true_and, and_true, and_self, reduceCtorEq, not_false_eq_true, false_and, and_false, or_false, false_or, true_or, or_true, jmk_a, jmk_put, hak, hak0]
  refine jc_na X hR (w1 := 387) d_MB_init_15 rfl (by decide +kernel) (by decide) (by decide) 64 (by decide) (by decide) rfl [.inl (.char, 65536, .inl fun _ => 0), .inl (.int, 64, .inl fun _ => 0)] ha rfl rfl (n' := n + 2) rfl (c' := 2) rfl (s' := 65600) rfl ⟨Nat.le_of_ble_eq_true rfl, Nat.le_of_ble_eq_true rfl⟩ (pc' := 17) rfl ?_
  refine jrun_ok jC X k_MB_init_17 17 _ _ _ o_MB_init_17 ?_
  simp only [k_MB_init_17, jrun, jstep, jldi, jldl, jlda, j1, j2, jl1, jl2, jli, ja1, jbr, jald, jast, jlald, jlast, jalen, jget, jput, jfit, jdup, jdupx, jdupx2, jdup2, jcat, jset1, jset2, jkill, List.getElem?_cons_zero, List.getElem?_cons_succ, List.set_cons_zero, List.set_cons_succ, List.length_cons, List.length_nil, Nat.reduceAdd, Nat.reduceLT, Int32.reduceToNatClampNeg, true_and, and_true, and_self, reduceCtorEq, not_false_eq_true, false_and, and_false, or_false, false_or, true_or, or_true, jmk_a, jmk_put, hak, hak0]
  refine jc_na X hR (w1 := 387) d_MB_init_29 rfl (by decide +kernel) (by decide) (by decide) 19520 (by decide) (by decide) rfl [.inl (.char, 65536, .inl fun _ => 0), .inl (.int, 64, .inl fun _ => 0), .inl (.int, 19520, .inl fun _ => 0)] ha rfl rfl (n' := n + 3) rfl (c' := 3) rfl (s' := 85120) rfl ⟨Nat.le_of_ble_eq_true rfl, Nat.le_of_ble_eq_true rfl⟩ (pc' := 31) rfl ?_
  refine jrun_ok jC X k_MB_init_31 31 _ _ _ o_MB_init_31 ?_
  simp only [k_MB_init_31, jrun, jstep, jldi, jldl, jlda, j1, j2, jl1, jl2, jli, ja1, jbr, jald, jast, jlald, jlast, jalen, jget, jput, jfit, jdup, jdupx, jdupx2, jdup2, jcat, jset1, jset2, jkill, List.getElem?_cons_zero, List.getElem?_cons_succ, List.set_cons_zero, List.set_cons_succ, List.length_cons, List.length_nil, Nat.reduceAdd, Nat.reduceLT, Int32.reduceToNatClampNeg, true_and, and_true, and_self, reduceCtorEq, not_false_eq_true, false_and, and_false, or_false, false_or, true_or, or_true, jmk_a, jmk_put, hak, hak0]
  refine jc_na X hR (w1 := 387) d_MB_init_38 rfl (by decide +kernel) (by decide) (by decide) 305 (by decide) (by decide) rfl [.inl (.char, 65536, .inl fun _ => 0), .inl (.int, 64, .inl fun _ => 0), .inl (.int, 19520, .inl fun _ => 0), .inl (.int, 305, .inl fun _ => 0)] ha rfl rfl (n' := n + 4) rfl (c' := 4) rfl (s' := 85425) rfl ⟨Nat.le_of_ble_eq_true rfl, Nat.le_of_ble_eq_true rfl⟩ (pc' := 40) rfl ?_
  refine jrun_ok jC X k_MB_init_40 40 _ _ _ o_MB_init_40 ?_
  simp only [k_MB_init_40, jrun, jstep, jldi, jldl, jlda, j1, j2, jl1, jl2, jli, ja1, jbr, jald, jast, jlald, jlast, jalen, jget, jput, jfit, jdup, jdupx, jdupx2, jdup2, jcat, jset1, jset2, jkill, List.getElem?_cons_zero, List.getElem?_cons_succ, List.set_cons_zero, List.set_cons_succ, List.length_cons, List.length_nil, Nat.reduceAdd, Nat.reduceLT, Int32.reduceToNatClampNeg, true_and, and_true, and_self, reduceCtorEq, not_false_eq_true, false_and, and_false, or_false, false_or, true_or, or_true, jmk_a, jmk_put, hak, hak0]
  refine jc_na X hR (w1 := 387) d_MB_init_47 rfl (by decide +kernel) (by decide) (by decide) 305 (by decide) (by decide) rfl [.inl (.char, 65536, .inl fun _ => 0), .inl (.int, 64, .inl fun _ => 0), .inl (.int, 19520, .inl fun _ => 0), .inl (.int, 305, .inl fun _ => 0), .inl (.int, 305, .inl fun _ => 0)] ha rfl rfl (n' := n + 5) rfl (c' := 5) rfl (s' := 85730) rfl ⟨Nat.le_of_ble_eq_true rfl, Nat.le_of_ble_eq_true rfl⟩ (pc' := 49) rfl ?_
  refine jrun_ok jC X k_MB_init_49 49 _ _ _ o_MB_init_49 ?_
  simp only [k_MB_init_49, jrun, jstep, jldi, jldl, jlda, j1, j2, jl1, jl2, jli, ja1, jbr, jald, jast, jlald, jlast, jalen, jget, jput, jfit, jdup, jdupx, jdupx2, jdup2, jcat, jset1, jset2, jkill, List.getElem?_cons_zero, List.getElem?_cons_succ, List.set_cons_zero, List.set_cons_succ, List.length_cons, List.length_nil, Nat.reduceAdd, Nat.reduceLT, Int32.reduceToNatClampNeg, true_and, and_true, and_self, reduceCtorEq, not_false_eq_true, false_and, and_false, or_false, false_or, true_or, or_true, jmk_a, jmk_put, hak, hak0]
  refine jc_na X hR (w1 := 387) d_MB_init_56 rfl (by decide +kernel) (by decide) (by decide) 305 (by decide) (by decide) rfl [.inl (.char, 65536, .inl fun _ => 0), .inl (.int, 64, .inl fun _ => 0), .inl (.int, 19520, .inl fun _ => 0), .inl (.int, 305, .inl fun _ => 0), .inl (.int, 305, .inl fun _ => 0), .inl (.int, 305, .inl fun _ => 0)] ha rfl rfl (n' := n + 6) rfl (c' := 6) rfl (s' := 86035) rfl ⟨Nat.le_of_ble_eq_true rfl, Nat.le_of_ble_eq_true rfl⟩ (pc' := 58) rfl ?_
  refine jrun_ok jC X k_MB_init_58 58 _ _ _ o_MB_init_58 ?_
  simp only [k_MB_init_58, jrun, jstep, jldi, jldl, jlda, j1, j2, jl1, jl2, jli, ja1, jbr, jald, jast, jlald, jlast, jalen, jget, jput, jfit, jdup, jdupx, jdupx2, jdup2, jcat, jset1, jset2, jkill, List.getElem?_cons_zero, List.getElem?_cons_succ, List.set_cons_zero, List.set_cons_succ, List.length_cons, List.length_nil, Nat.reduceAdd, Nat.reduceLT, Int32.reduceToNatClampNeg, true_and, and_true, and_self, reduceCtorEq, not_false_eq_true, false_and, and_false, or_false, false_or, true_or, or_true, jmk_a, jmk_put, hak, hak0]
  refine jc_na X hR (w1 := 387) d_MB_init_65 rfl (by decide +kernel) (by decide) (by decide) 305 (by decide) (by decide) rfl [.inl (.char, 65536, .inl fun _ => 0), .inl (.int, 64, .inl fun _ => 0), .inl (.int, 19520, .inl fun _ => 0), .inl (.int, 305, .inl fun _ => 0), .inl (.int, 305, .inl fun _ => 0), .inl (.int, 305, .inl fun _ => 0), .inl (.int, 305, .inl fun _ => 0)] ha rfl rfl (n' := n + 7) rfl (c' := 7) rfl (s' := 86340) rfl ⟨Nat.le_of_ble_eq_true rfl, Nat.le_of_ble_eq_true rfl⟩ (pc' := 67) rfl ?_
  refine jrun_ok jC X k_MB_init_67 67 _ _ _ o_MB_init_67 ?_
  simp only [k_MB_init_67, jrun, jstep, jldi, jldl, jlda, j1, j2, jl1, jl2, jli, ja1, jbr, jald, jast, jlald, jlast, jalen, jget, jput, jfit, jdup, jdupx, jdupx2, jdup2, jcat, jset1, jset2, jkill, List.getElem?_cons_zero, List.getElem?_cons_succ, List.set_cons_zero, List.set_cons_succ, List.length_cons, List.length_nil, Nat.reduceAdd, Nat.reduceLT, Int32.reduceToNatClampNeg, true_and, and_true, and_self, reduceCtorEq, not_false_eq_true, false_and, and_false, or_false, false_or, true_or, or_true, jmk_a, jmk_put, hak, hak0]
  refine jc_na X hR (w1 := 387) d_MB_init_74 rfl (by decide +kernel) (by decide) (by decide) 305 (by decide) (by decide) rfl [.inl (.char, 65536, .inl fun _ => 0), .inl (.int, 64, .inl fun _ => 0), .inl (.int, 19520, .inl fun _ => 0), .inl (.int, 305, .inl fun _ => 0), .inl (.int, 305, .inl fun _ => 0), .inl (.int, 305, .inl fun _ => 0), .inl (.int, 305, .inl fun _ => 0), .inl (.int, 305, .inl fun _ => 0)] ha rfl rfl (n' := n + 8) rfl (c' := 8) rfl (s' := 86645) rfl ⟨Nat.le_of_ble_eq_true rfl, Nat.le_of_ble_eq_true rfl⟩ (pc' := 76) rfl ?_
  refine jrun_ok jC X k_MB_init_76 76 _ _ _ o_MB_init_76 ?_
  simp only [k_MB_init_76, jrun, jstep, jldi, jldl, jlda, j1, j2, jl1, jl2, jli, ja1, jbr, jald, jast, jlald, jlast, jalen, jget, jput, jfit, jdup, jdupx, jdupx2, jdup2, jcat, jset1, jset2, jkill, List.getElem?_cons_zero, List.getElem?_cons_succ, List.set_cons_zero, List.set_cons_succ, List.length_cons, List.length_nil, Nat.reduceAdd, Nat.reduceLT, Int32.reduceToNatClampNeg, true_and, and_true, and_self, reduceCtorEq, not_false_eq_true, false_and, and_false, or_false, false_or, true_or, or_true, jmk_a, jmk_put, hak, hak0]
  refine jc_na X hR (w1 := 387) d_MB_init_82 rfl (by decide +kernel) (by decide) (by decide) 11 (by decide) (by decide) rfl [.inl (.char, 65536, .inl fun _ => 0), .inl (.int, 64, .inl fun _ => 0), .inl (.int, 19520, .inl fun _ => 0), .inl (.int, 305, .inl fun _ => 0), .inl (.int, 305, .inl fun _ => 0), .inl (.int, 305, .inl fun _ => 0), .inl (.int, 305, .inl fun _ => 0), .inl (.int, 305, .inl fun _ => 0), .inl (.int, 11, .inl fun _ => 0)] ha rfl rfl (n' := n + 9) rfl (c' := 9) rfl (s' := 86656) rfl ⟨Nat.le_of_ble_eq_true rfl, Nat.le_of_ble_eq_true rfl⟩ (pc' := 84) rfl ?_
  refine jrun_ok jC X k_MB_init_84 84 _ _ _ o_MB_init_84 ?_
  simp only [k_MB_init_84, jrun, jstep, jldi, jldl, jlda, j1, j2, jl1, jl2, jli, ja1, jbr, jald, jast, jlald, jlast, jalen, jget, jput, jfit, jdup, jdupx, jdupx2, jdup2, jcat, jset1, jset2, jkill, List.getElem?_cons_zero, List.getElem?_cons_succ, List.set_cons_zero, List.set_cons_succ, List.length_cons, List.length_nil, Nat.reduceAdd, Nat.reduceLT, Int32.reduceToNatClampNeg, true_and, and_true, and_self, reduceCtorEq, not_false_eq_true, false_and, and_false, or_false, false_or, true_or, or_true, jmk_a, jmk_put, hak, hak0]
  refine jc_na X hR (w1 := 387) d_MB_init_90 rfl (by decide +kernel) (by decide) (by decide) 11 (by decide) (by decide) rfl [.inl (.char, 65536, .inl fun _ => 0), .inl (.int, 64, .inl fun _ => 0), .inl (.int, 19520, .inl fun _ => 0), .inl (.int, 305, .inl fun _ => 0), .inl (.int, 305, .inl fun _ => 0), .inl (.int, 305, .inl fun _ => 0), .inl (.int, 305, .inl fun _ => 0), .inl (.int, 305, .inl fun _ => 0), .inl (.int, 11, .inl fun _ => 0), .inl (.int, 11, .inl fun _ => 0)] ha rfl rfl (n' := n + 10) rfl (c' := 10) rfl (s' := 86667) rfl ⟨Nat.le_of_ble_eq_true rfl, Nat.le_of_ble_eq_true rfl⟩ (pc' := 92) rfl ?_
  refine jrun_ok jC X k_MB_init_92 92 _ _ _ o_MB_init_92 ?_
  simp only [k_MB_init_92, jrun, jstep, jldi, jldl, jlda, j1, j2, jl1, jl2, jli, ja1, jbr, jald, jast, jlald, jlast, jalen, jget, jput, jfit, jdup, jdupx, jdupx2, jdup2, jcat, jset1, jset2, jkill, List.getElem?_cons_zero, List.getElem?_cons_succ, List.set_cons_zero, List.set_cons_succ, List.length_cons, List.length_nil, Nat.reduceAdd, Nat.reduceLT, Int32.reduceToNatClampNeg, true_and, and_true, and_self, reduceCtorEq, not_false_eq_true, false_and, and_false, or_false, false_or, true_or, or_true, jmk_a, jmk_put, hak, hak0]
  refine jc_na X hR (w1 := 387) d_MB_init_98 rfl (by decide +kernel) (by decide) (by decide) 11 (by decide) (by decide) rfl [.inl (.char, 65536, .inl fun _ => 0), .inl (.int, 64, .inl fun _ => 0), .inl (.int, 19520, .inl fun _ => 0), .inl (.int, 305, .inl fun _ => 0), .inl (.int, 305, .inl fun _ => 0), .inl (.int, 305, .inl fun _ => 0), .inl (.int, 305, .inl fun _ => 0), .inl (.int, 305, .inl fun _ => 0), .inl (.int, 11, .inl fun _ => 0), .inl (.int, 11, .inl fun _ => 0), .inl (.int, 11, .inl fun _ => 0)] ha rfl rfl (n' := n + 11) rfl (c' := 11) rfl (s' := 86678) rfl ⟨Nat.le_of_ble_eq_true rfl, Nat.le_of_ble_eq_true rfl⟩ (pc' := 100) rfl ?_
  refine jrun_ok jC X k_MB_init_100 100 _ _ _ o_MB_init_100 ?_
  simp only [k_MB_init_100, jrun, jstep, jldi, jldl, jlda, j1, j2, jl1, jl2, jli, ja1, jbr, jald, jast, jlald, jlast, jalen, jget, jput, jfit, jdup, jdupx, jdupx2, jdup2, jcat, jset1, jset2, jkill, List.getElem?_cons_zero, List.getElem?_cons_succ, List.set_cons_zero, List.set_cons_succ, List.length_cons, List.length_nil, Nat.reduceAdd, Nat.reduceLT, Int32.reduceToNatClampNeg, true_and, and_true, and_self, reduceCtorEq, not_false_eq_true, false_and, and_false, or_false, false_or, true_or, or_true, jmk_a, jmk_put, hak, hak0]
  refine jc_na X hR (w1 := 387) d_MB_init_106 rfl (by decide +kernel) (by decide) (by decide) 11 (by decide) (by decide) rfl [.inl (.char, 65536, .inl fun _ => 0), .inl (.int, 64, .inl fun _ => 0), .inl (.int, 19520, .inl fun _ => 0), .inl (.int, 305, .inl fun _ => 0), .inl (.int, 305, .inl fun _ => 0), .inl (.int, 305, .inl fun _ => 0), .inl (.int, 305, .inl fun _ => 0), .inl (.int, 305, .inl fun _ => 0), .inl (.int, 11, .inl fun _ => 0), .inl (.int, 11, .inl fun _ => 0), .inl (.int, 11, .inl fun _ => 0), .inl (.int, 11, .inl fun _ => 0)] ha rfl rfl (n' := n + 12) rfl (c' := 12) rfl (s' := 86689) rfl ⟨Nat.le_of_ble_eq_true rfl, Nat.le_of_ble_eq_true rfl⟩ (pc' := 108) rfl ?_
  refine jrun_ok jC X k_MB_init_108 108 _ _ _ o_MB_init_108 ?_
  simp only [k_MB_init_108, jrun, jstep, jldi, jldl, jlda, j1, j2, jl1, jl2, jli, ja1, jbr, jald, jast, jlald, jlast, jalen, jget, jput, jfit, jdup, jdupx, jdupx2, jdup2, jcat, jset1, jset2, jkill, List.getElem?_cons_zero, List.getElem?_cons_succ, List.set_cons_zero, List.set_cons_succ, List.length_cons, List.length_nil, Nat.reduceAdd, Nat.reduceLT, Int32.reduceToNatClampNeg, true_and, and_true, and_self, reduceCtorEq, not_false_eq_true, false_and, and_false, or_false, false_or, true_or, or_true, jmk_a, jmk_put, hak, hak0]
  refine jc_na X hR (w1 := 387) d_MB_init_114 rfl (by decide +kernel) (by decide) (by decide) 11 (by decide) (by decide) rfl [.inl (.char, 65536, .inl fun _ => 0), .inl (.int, 64, .inl fun _ => 0), .inl (.int, 19520, .inl fun _ => 0), .inl (.int, 305, .inl fun _ => 0), .inl (.int, 305, .inl fun _ => 0), .inl (.int, 305, .inl fun _ => 0), .inl (.int, 305, .inl fun _ => 0), .inl (.int, 305, .inl fun _ => 0), .inl (.int, 11, .inl fun _ => 0), .inl (.int, 11, .inl fun _ => 0), .inl (.int, 11, .inl fun _ => 0), .inl (.int, 11, .inl fun _ => 0), .inl (.int, 11, .inl fun _ => 0)] ha rfl rfl (n' := n + 13) rfl (c' := 13) rfl (s' := 86700) rfl ⟨Nat.le_of_ble_eq_true rfl, Nat.le_of_ble_eq_true rfl⟩ (pc' := 116) rfl ?_
  refine jrun_ok jC X k_MB_init_116 116 _ _ _ o_MB_init_116 ?_
  simp only [k_MB_init_116, jrun, jstep, jldi, jldl, jlda, j1, j2, jl1, jl2, jli, ja1, jbr, jald, jast, jlald, jlast, jalen, jget, jput, jfit, jdup, jdupx, jdupx2, jdup2, jcat, jset1, jset2, jkill, List.getElem?_cons_zero, List.getElem?_cons_succ, List.set_cons_zero, List.set_cons_succ, List.length_cons, List.length_nil, Nat.reduceAdd, Nat.reduceLT, Int32.reduceToNatClampNeg, true_and, and_true, and_self, reduceCtorEq, not_false_eq_true, false_and, and_false, or_false, false_or, true_or, or_true, jmk_a, jmk_put, hak, hak0]
  refine jc_na X hR (w1 := 387) d_MB_init_122 rfl (by decide +kernel) (by decide) (by decide) 11 (by decide) (by decide) rfl [.inl (.char, 65536, .inl fun _ => 0), .inl (.int, 64, .inl fun _ => 0), .inl (.int, 19520, .inl fun _ => 0), .inl (.int, 305, .inl fun _ => 0), .inl (.int, 305, .inl fun _ => 0), .inl (.int, 305, .inl fun _ => 0), .inl (.int, 305, .inl fun _ => 0), .inl (.int, 305, .inl fun _ => 0), .inl (.int, 11, .inl fun _ => 0), .inl (.int, 11, .inl fun _ => 0), .inl (.int, 11, .inl fun _ => 0), .inl (.int, 11, .inl fun _ => 0), .inl (.int, 11, .inl fun _ => 0), .inl (.int, 11, .inl fun _ => 0)] ha rfl rfl (n' := n + 14) rfl (c' := 14) rfl (s' := 86711) rfl ⟨Nat.le_of_ble_eq_true rfl, Nat.le_of_ble_eq_true rfl⟩ (pc' := 124) rfl ?_
  refine jrun_ok jC X k_MB_init_124 124 _ _ _ o_MB_init_124 ?_
  simp only [k_MB_init_124, jrun, jstep, jldi, jldl, jlda, j1, j2, jl1, jl2, jli, ja1, jbr, jald, jast, jlald, jlast, jalen, jget, jput, jfit, jdup, jdupx, jdupx2, jdup2, jcat, jset1, jset2, jkill, List.getElem?_cons_zero, List.getElem?_cons_succ, List.set_cons_zero, List.set_cons_succ, List.length_cons, List.length_nil, Nat.reduceAdd, Nat.reduceLT, Int32.reduceToNatClampNeg, true_and, and_true, and_self, reduceCtorEq, not_false_eq_true, false_and, and_false, or_false, false_or, true_or, or_true, jmk_a, jmk_put, hak, hak0]
  refine jc_na X hR (w1 := 387) d_MB_init_131 rfl (by decide +kernel) (by decide) (by decide) 20480 (by decide) (by decide) rfl [.inl (.char, 65536, .inl fun _ => 0), .inl (.int, 64, .inl fun _ => 0), .inl (.int, 19520, .inl fun _ => 0), .inl (.int, 305, .inl fun _ => 0), .inl (.int, 305, .inl fun _ => 0), .inl (.int, 305, .inl fun _ => 0), .inl (.int, 305, .inl fun _ => 0), .inl (.int, 305, .inl fun _ => 0), .inl (.int, 11, .inl fun _ => 0), .inl (.int, 11, .inl fun _ => 0), .inl (.int, 11, .inl fun _ => 0), .inl (.int, 11, .inl fun _ => 0), .inl (.int, 11, .inl fun _ => 0), .inl (.int, 11, .inl fun _ => 0), .inl (.int, 20480, .inl fun _ => 0)] ha rfl rfl (n' := n + 15) rfl (c' := 15) rfl (s' := 107191) rfl ⟨Nat.le_of_ble_eq_true rfl, Nat.le_of_ble_eq_true rfl⟩ (pc' := 133) rfl ?_
  refine jrun_ok jC X k_MB_init_133 133 _ _ _ o_MB_init_133 ?_
  simp only [k_MB_init_133, jrun, jstep, jldi, jldl, jlda, j1, j2, jl1, jl2, jli, ja1, jbr, jald, jast, jlald, jlast, jalen, jget, jput, jfit, jdup, jdupx, jdupx2, jdup2, jcat, jset1, jset2, jkill, List.getElem?_cons_zero, List.getElem?_cons_succ, List.set_cons_zero, List.set_cons_succ, List.length_cons, List.length_nil, Nat.reduceAdd, Nat.reduceLT, Int32.reduceToNatClampNeg, true_and, and_true, and_self, reduceCtorEq, not_false_eq_true, false_and, and_false, or_false, false_or, true_or, or_true, jmk_a, jmk_put, hak, hak0]
  refine jc_na X hR (w1 := 387) d_MB_init_139 rfl (by decide +kernel) (by decide) (by decide) 10 (by decide) (by decide) rfl [.inl (.char, 65536, .inl fun _ => 0), .inl (.int, 64, .inl fun _ => 0), .inl (.int, 19520, .inl fun _ => 0), .inl (.int, 305, .inl fun _ => 0), .inl (.int, 305, .inl fun _ => 0), .inl (.int, 305, .inl fun _ => 0), .inl (.int, 305, .inl fun _ => 0), .inl (.int, 305, .inl fun _ => 0), .inl (.int, 11, .inl fun _ => 0), .inl (.int, 11, .inl fun _ => 0), .inl (.int, 11, .inl fun _ => 0), .inl (.int, 11, .inl fun _ => 0), .inl (.int, 11, .inl fun _ => 0), .inl (.int, 11, .inl fun _ => 0), .inl (.int, 20480, .inl fun _ => 0), .inl (.int, 10, .inl fun _ => 0)] ha rfl rfl (n' := n + 16) rfl (c' := 16) rfl (s' := 107201) rfl ⟨Nat.le_of_ble_eq_true rfl, Nat.le_of_ble_eq_true rfl⟩ (pc' := 141) rfl ?_
  refine jrun_ok jC X k_MB_init_141 141 _ _ _ o_MB_init_141 ?_
  simp only [k_MB_init_141, jrun, jstep, jldi, jldl, jlda, j1, j2, jl1, jl2, jli, ja1, jbr, jald, jast, jlald, jlast, jalen, jget, jput, jfit, jdup, jdupx, jdupx2, jdup2, jcat, jset1, jset2, jkill, List.getElem?_cons_zero, List.getElem?_cons_succ, List.set_cons_zero, List.set_cons_succ, List.length_cons, List.length_nil, Nat.reduceAdd, Nat.reduceLT, Int32.reduceToNatClampNeg, true_and, and_true, and_self, reduceCtorEq, not_false_eq_true, false_and, and_false, or_false, false_or, true_or, or_true, jmk_a, jmk_put, hak, hak0]
  refine jc_na X hR (w1 := 387) d_MB_init_146 rfl (by decide +kernel) (by decide) (by decide) 4 (by decide) (by decide) rfl [.inl (.char, 65536, .inl fun _ => 0), .inl (.int, 64, .inl fun _ => 0), .inl (.int, 19520, .inl fun _ => 0), .inl (.int, 305, .inl fun _ => 0), .inl (.int, 305, .inl fun _ => 0), .inl (.int, 305, .inl fun _ => 0), .inl (.int, 305, .inl fun _ => 0), .inl (.int, 305, .inl fun _ => 0), .inl (.int, 11, .inl fun _ => 0), .inl (.int, 11, .inl fun _ => 0), .inl (.int, 11, .inl fun _ => 0), .inl (.int, 11, .inl fun _ => 0), .inl (.int, 11, .inl fun _ => 0), .inl (.int, 11, .inl fun _ => 0), .inl (.int, 20480, .inl fun _ => 0), .inl (.int, 10, .inl fun _ => 0), .inl (.int, 4, .inl fun _ => 0)] ha rfl rfl (n' := n + 17) rfl (c' := 17) rfl (s' := 107205) rfl ⟨Nat.le_of_ble_eq_true rfl, Nat.le_of_ble_eq_true rfl⟩ (pc' := 148) rfl ?_
  refine jrun_ok jC X k_MB_init_148 148 _ _ _ o_MB_init_148 ?_
  simp only [k_MB_init_148, jrun, jstep, jldi, jldl, jlda, j1, j2, jl1, jl2, jli, ja1, jbr, jald, jast, jlald, jlast, jalen, jget, jput, jfit, jdup, jdupx, jdupx2, jdup2, jcat, jset1, jset2, jkill, List.getElem?_cons_zero, List.getElem?_cons_succ, List.set_cons_zero, List.set_cons_succ, List.length_cons, List.length_nil, Nat.reduceAdd, Nat.reduceLT, Int32.reduceToNatClampNeg, true_and, and_true, and_self, reduceCtorEq, not_false_eq_true, false_and, and_false, or_false, false_or, true_or, or_true, jmk_a, jmk_put, hak, hak0]
  refine jc_na X hR (w1 := 387) d_MB_init_155 rfl (by decide +kernel) (by decide) (by decide) 2048 (by decide) (by decide) rfl [.inl (.char, 65536, .inl fun _ => 0), .inl (.int, 64, .inl fun _ => 0), .inl (.int, 19520, .inl fun _ => 0), .inl (.int, 305, .inl fun _ => 0), .inl (.int, 305, .inl fun _ => 0), .inl (.int, 305, .inl fun _ => 0), .inl (.int, 305, .inl fun _ => 0), .inl (.int, 305, .inl fun _ => 0), .inl (.int, 11, .inl fun _ => 0), .inl (.int, 11, .inl fun _ => 0), .inl (.int, 11, .inl fun _ => 0), .inl (.int, 11, .inl fun _ => 0), .inl (.int, 11, .inl fun _ => 0), .inl (.int, 11, .inl fun _ => 0), .inl (.int, 20480, .inl fun _ => 0), .inl (.int, 10, .inl fun _ => 0), .inl (.int, 4, .inl fun _ => 0), .inl (.int, 2048, .inl fun _ => 0)] ha rfl rfl (n' := n + 18) rfl (c' := 18) rfl (s' := 109253) rfl ⟨Nat.le_of_ble_eq_true rfl, Nat.le_of_ble_eq_true rfl⟩ (pc' := 157) rfl ?_
  refine jrun_ok jC X k_MB_init_157 157 _ _ _ o_MB_init_157 ?_
  simp only [k_MB_init_157, jrun, jstep, jldi, jldl, jlda, j1, j2, jl1, jl2, jli, ja1, jbr, jald, jast, jlald, jlast, jalen, jget, jput, jfit, jdup, jdupx, jdupx2, jdup2, jcat, jset1, jset2, jkill, List.getElem?_cons_zero, List.getElem?_cons_succ, List.set_cons_zero, List.set_cons_succ, List.length_cons, List.length_nil, Nat.reduceAdd, Nat.reduceLT, Int32.reduceToNatClampNeg, true_and, and_true, and_self, reduceCtorEq, not_false_eq_true, false_and, and_false, or_false, false_or, true_or, or_true, jmk_a, jmk_put, hak, hak0]
  refine jc_na X hR (w1 := 387) d_MB_init_162 rfl (by decide +kernel) (by decide) (by decide) 4 (by decide) (by decide) rfl [.inl (.char, 65536, .inl fun _ => 0), .inl (.int, 64, .inl fun _ => 0), .inl (.int, 19520, .inl fun _ => 0), .inl (.int, 305, .inl fun _ => 0), .inl (.int, 305, .inl fun _ => 0), .inl (.int, 305, .inl fun _ => 0), .inl (.int, 305, .inl fun _ => 0), .inl (.int, 305, .inl fun _ => 0), .inl (.int, 11, .inl fun _ => 0), .inl (.int, 11, .inl fun _ => 0), .inl (.int, 11, .inl fun _ => 0), .inl (.int, 11, .inl fun _ => 0), .inl (.int, 11, .inl fun _ => 0), .inl (.int, 11, .inl fun _ => 0), .inl (.int, 20480, .inl fun _ => 0), .inl (.int, 10, .inl fun _ => 0), .inl (.int, 4, .inl fun _ => 0), .inl (.int, 2048, .inl fun _ => 0), .inl (.int, 4, .inl fun _ => 0)] ha rfl rfl (n' := n + 19) rfl (c' := 19) rfl (s' := 109257) rfl ⟨Nat.le_of_ble_eq_true rfl, Nat.le_of_ble_eq_true rfl⟩ (pc' := 164) rfl ?_
  refine jrun_ok jC X k_MB_init_164 164 _ _ _ o_MB_init_164 ?_
  simp only [k_MB_init_164, jrun, jstep, jldi, jldl, jlda, j1, j2, jl1, jl2, jli, ja1, jbr, jald, jast, jlald, jlast, jalen, jget, jput, jfit, jdup, jdupx, jdupx2, jdup2, jcat, jset1, jset2, jkill, List.getElem?_cons_zero, List.getElem?_cons_succ, List.set_cons_zero, List.set_cons_succ, List.length_cons, List.length_nil, Nat.reduceAdd, Nat.reduceLT, Int32.reduceToNatClampNeg, true_and, and_true, and_self, reduceCtorEq, not_false_eq_true, false_and, and_false, or_false, false_or, true_or, or_true, jmk_a, jmk_put, hak, hak0]
  refine jc_na X hR (w1 := 387) d_MB_init_169 rfl (by decide +kernel) (by decide) (by decide) 4 (by decide) (by decide) rfl [.inl (.char, 65536, .inl fun _ => 0), .inl (.int, 64, .inl fun _ => 0), .inl (.int, 19520, .inl fun _ => 0), .inl (.int, 305, .inl fun _ => 0), .inl (.int, 305, .inl fun _ => 0), .inl (.int, 305, .inl fun _ => 0), .inl (.int, 305, .inl fun _ => 0), .inl (.int, 305, .inl fun _ => 0), .inl (.int, 11, .inl fun _ => 0), .inl (.int, 11, .inl fun _ => 0), .inl (.int, 11, .inl fun _ => 0), .inl (.int, 11, .inl fun _ => 0), .inl (.int, 11, .inl fun _ => 0), .inl (.int, 11, .inl fun _ => 0), .inl (.int, 20480, .inl fun _ => 0), .inl (.int, 10, .inl fun _ => 0), .inl (.int, 4, .inl fun _ => 0), .inl (.int, 2048, .inl fun _ => 0), .inl (.int, 4, .inl fun _ => 0), .inl (.int, 4, .inl fun _ => 0)] ha rfl rfl (n' := n + 20) rfl (c' := 20) rfl (s' := 109261) rfl ⟨Nat.le_of_ble_eq_true rfl, Nat.le_of_ble_eq_true rfl⟩ (pc' := 171) rfl ?_
  refine jrun_ok jC X k_MB_init_171 171 _ _ _ o_MB_init_171 ?_
  simp only [k_MB_init_171, jrun, jstep, jldi, jldl, jlda, j1, j2, jl1, jl2, jli, ja1, jbr, jald, jast, jlald, jlast, jalen, jget, jput, jfit, jdup, jdupx, jdupx2, jdup2, jcat, jset1, jset2, jkill, List.getElem?_cons_zero, List.getElem?_cons_succ, List.set_cons_zero, List.set_cons_succ, List.length_cons, List.length_nil, Nat.reduceAdd, Nat.reduceLT, Int32.reduceToNatClampNeg, true_and, and_true, and_self, reduceCtorEq, not_false_eq_true, false_and, and_false, or_false, false_or, true_or, or_true, jmk_a, jmk_put, hak, hak0]
  exact jk_vret X d_MB_init_174 hr (Nat.le_refl _) (Nat.le_refl _) ⟨rfl, rfl, rfl⟩
end
section
/-! the Texts as a picture that moves: five scalars and the count of moves, the men, what is kept, the list -/
abbrev txp : Type := Nat × Nat × Nat × Nat × Nat
theorem vp_nar_int32 (x : Int32) : vp_nar .int x = x := rfl
section TXS
variable {σ : Nat → jcell} {P : txp} {g : List jv} {n : Nat} {sd ri pa cl nu mv : Int32} {men km kr li : Nat → Int32}
end TXS
end
section
/-! the whole of the Texts as a picture: its numbers F by field, its rows A in the order in which they were made -/
noncomputable def ta_ty (j : Nat) : FieldType := if j ∈ [0, 1, 10, 15, 17, 24] then .char else .int
noncomputable def ta_len (j : Nat) : Nat := [65536, 80000, 2, 602, 602, 602, 602, 602, 2408, 602, 120400, 128, 10, 2, 16, 192, 16, 1536, 2, 64, 64, 5, 2048, 301, 16].getD j 0
noncomputable def ta_fl (n : Nat) (F : Nat → Int32) : List jv := [.inl (F 0), .inl (F 1), .inr (.inr (some (.inl (n)))), .inl (F 3), .inr (.inr (some (.inl (n + 1)))), .inl (F 5), .inl (F 6), .inr (.inr (some (.inl (n + 2)))), .inr (.inr (some (.inl (n + 3)))), .inr (.inr (some (.inl (n + 4)))), .inr (.inr (some (.inl (n + 5)))), .inr (.inr (some (.inl (n + 6)))), .inr (.inr (some (.inl (n + 7)))), .inr (.inr (some (.inl (n + 8)))), .inr (.inr (some (.inl (n + 9)))), .inr (.inr (some (.inl (n + 10)))), .inr (.inr (some (.inl (n + 11)))), .inr (.inr (some (.inl (n + 12)))), .inr (.inr (some (.inl (n + 13)))), .inr (.inr (some (.inl (n + 14)))), .inr (.inr (some (.inl (n + 15)))), .inr (.inr (some (.inl (n + 16)))), .inr (.inr (some (.inl (n + 17)))), .inr (.inr (some (.inl (n + 18)))), .inr (.inr (some (.inl (n + 19)))), .inl (F 25), .inl (F 26), .inl (F 27), .inl (F 28), .inl (F 29), .inr (.inr (some (.inl (n + 20)))), .inr (.inr (some (.inl (n + 21)))), .inr (.inr (some (.inl (n + 22)))), .inl (F 33), .inr (.inr (some (.inl (n + 23)))), .inr (.inr (some (.inl (n + 24)))), .inl (F 36), .inl (F 37), .inl (F 38), .inl (F 39)]
noncomputable def txA (σ : Nat → jcell) (a n : Nat) (F : Nat → Int32) (A : Nat → Nat → Int32) : Nat → jcell := fun p => if p = a then .inr (12, ta_fl n F) else if n ≤ p ∧ p < n + 25 then .inl (ta_ty (p - n), ta_len (p - n), .inl (A (p - n))) else σ p
section TXA
variable {σ : Nat → jcell} {a n : Nat} {F : Nat → Int32} {A : Nat → Nat → Int32}
theorem ta_a : txA σ a n F A a = .inr (12, ta_fl n F) := if_pos rfl
theorem ta_g {j : Nat} (ha : a < n) (hj : j < 25) : txA σ a n F A (n + j) = .inl (ta_ty j, ta_len j, .inl (A j)) := by
  unfold txA
  rw [if_neg (by omega), if_pos ⟨by omega, by omega⟩, Nat.add_sub_cancel_left]
theorem ta_f5 : (ta_fl n F)[5]? = some (.inl (F 5)) := rfl
theorem ta_f6 : (ta_fl n F)[6]? = some (.inl (F 6)) := rfl
end TXA
end
section
theorem tx_jmk {σ : Nat → jcell} {a n : Nat} {F : Nat → Int32} {A : Nat → Nat → Int32} (ha : a < n) {fs : List jv} {cs : List jcell} (hf : fs = ta_fl n F) (hc : cs = (List.range 25).map fun j => (.inl (ta_ty j, ta_len j, .inl (A j)) : jcell)) (k : Nat) (hk : k < n + 25) : jmk σ a n (.inr (12, fs)) cs k = txA σ a n F A k := by
  subst hf; subst hc
  unfold jmk txA
  by_cases h1 : k = a
  · rw [if_pos h1, if_pos h1]
  · rw [if_neg h1, if_neg h1]
    by_cases h2 : k < n
    · rw [if_pos h2, if_neg (by omega)]
    · rw [if_neg h2, if_pos ⟨by omega, hk⟩]
      simp only [List.getD, List.getElem?_map]
      rw [List.getElem?_range (by omega)]
      rfl
end
section
/-! switches by a table; a picture put twice -/
theorem jup_id {σ : Nat → jcell} {p : Nat} {c : jcell} (h : σ p = c) : jup σ p c = σ := by
  funext j
  by_cases hj : j = p
  · subst hj; rw [jup_s, h]
  · rw [jup_n hj]
theorem jup_jup {σ : Nat → jcell} {p : Nat} {c d : jcell} : jup (jup σ p c) p d = jup σ p d := by
  funext j
  by_cases hj : j = p
  · subst hj; rw [jup_s, jup_s]
  · rw [jup_n hj, jup_n hj, jup_n hj]
section JSW
variable {E : jE} {own : String} {Ts : List Jvm.Cond} {cl : List vw_C} {tb : jTb} {nL : Nat} {ini : Bool} {cc : ByteArray} {M : jM} {Q : State → Prop} {n cells slots : Nat}
theorem jk_tab (X : jX E own Ts cl tb nL ini cc M) {pc len td : Nat} {dflt lo hi : Int} {offs : Array Int} (hd : decode cc pc = .ok (.tableswitch dflt lo hi offs, len)) (tgs : List Nat) (hsz : hi - lo + 1 = (tgs.length : Int)) (hts : offs.toList.map (fun o => (pc : Int) + o) = tgs.map (fun t : Nat => (t : Int))) (htd : (pc : Int) + dflt = (td : Int)) {lv : List (Option jv)} {r : List jv} {σ : Nat → jcell} {x : Int32}
    (ko : (x.toInt < lo ∨ hi < x.toInt) → jJ E cl nL M Q n cells slots td lv r σ) (ki : ∀ (i t : Nat), tgs[i]? = some t → x.toInt = lo + i → jJ E cl nL M Q n cells slots t lv r σ) : jJ E cl nL M Q n cells slots pc lv (.inl x :: r) σ := by
  obtain ⟨hx, hb, -⟩ := X
  intro H locs ls hW hS hL
  by_cases h : x.toInt < lo ∨ hi < x.toInt
  · exact lv_tableOut hx hb hd h htd (ko h H locs ls hW hS hL)
  · have h1 : ¬ x.toInt < lo := fun q => h (Or.inl q)
    have h2 : ¬ hi < x.toInt := fun q => h (Or.inr q)
    have hi' : (x.toInt - lo).toNat < tgs.length := by omega
    obtain ⟨t, ht⟩ : ∃ t, tgs[(x.toInt - lo).toNat]? = some t := ⟨_, List.getElem?_eq_getElem hi'⟩
    have hm : (offs.toList.map (fun o => (pc : Int) + o))[(x.toInt - lo).toNat]? = some (t : Int) := by
      rw [hts, List.getElem?_map, ht]; rfl
    rw [List.getElem?_map] at hm
    obtain ⟨off, ho, he⟩ := Option.map_eq_some_iff.mp hm
    have ho2 : offs[(x.toInt - lo).toNat]? = some off := by
      rw [← Array.getElem?_toList]; exact ho
    exact lv_tableIn hx hb hd h1 h2 ho2 he (ki _ t ht (by omega) H locs ls hW hS hL)
end JSW
end
section
set_option maxRecDepth 100000 in
set_option maxHeartbeats 4000000 in
theorem c_AR_rangeCheck (l : Launch) (E : jE) (σ : Nat → jcell) (n : Nat) (x y z : Int32) (h1 : y ≤ z) (h2 : 0 ≤ y) (h3 : z ≤ x) : jMet l E jcl jtb lw_tbl y_AR_rangeCheck { frames := 0, cells := 0, slots := 0, locals := 0 } [.inl x, .inl y, .inl z] σ n (fun r σ' n' => r = none ∧ n' = n ∧ σ' = σ) := by
  refine jMet_of (hY := rfl) false (fun h => by cases h) (by decide) (Nat.le_of_ble_eq_true rfl) [some (.inl x), some (.inl y), some (.inl z)] rfl ?_
  intro M hl hR X hr
  refine jrun_ok jC X k_AR_rangeCheck_0 0 _ _ _ o_AR_rangeCheck_0 ?_
  simp only [k_AR_rangeCheck_0, jrun, jstep, jldi, jldl, jlda, j1, j2, jl1, jl2, jli, ja1, jbr, jald, jast, jlald, jlast, jalen, jget, jput, jfit, jdup, jdupx, jdupx2, jdup2, jcat, jset1, jset2, jkill, List.getElem?_cons_zero, List.getElem?_cons_succ, List.set_cons_zero, List.set_cons_succ, List.length_cons, List.length_nil, Nat.reduceAdd, Nat.reduceLT, Int32.reduceToNatClampNeg, true_and, and_true, and_self, reduceCtorEq, not_false_eq_true, false_and, and_false, or_false, false_or, true_or, or_true]
  refine ⟨fun _ => ?_, fun h => absurd h1 h⟩
  refine jrun_ok jC X k_AR_rangeCheck_46 46 _ _ _ o_AR_rangeCheck_46 ?_
  simp only [k_AR_rangeCheck_46, jrun, jstep, jldi, jldl, jlda, j1, j2, jl1, jl2, jli, ja1, jbr, jald, jast, jlald, jlast, jalen, jget, jput, jfit, jdup, jdupx, jdupx2, jdup2, jcat, jset1, jset2, jkill, List.getElem?_cons_zero, List.getElem?_cons_succ, List.set_cons_zero, List.set_cons_succ, List.length_cons, List.length_nil, Nat.reduceAdd, Nat.reduceLT, Int32.reduceToNatClampNeg, true_and, and_true, and_self, reduceCtorEq, not_false_eq_true, false_and, and_false, or_false, false_or, true_or, or_true]
  refine ⟨fun _ => ?_, fun h => absurd h2 h⟩
  refine jrun_ok jC X k_AR_rangeCheck_59 59 _ _ _ o_AR_rangeCheck_59 ?_
  simp only [k_AR_rangeCheck_59, jrun, jstep, jldi, jldl, jlda, j1, j2, jl1, jl2, jli, ja1, jbr, jald, jast, jlald, jlast, jalen, jget, jput, jfit, jdup, jdupx, jdupx2, jdup2, jcat, jset1, jset2, jkill, List.getElem?_cons_zero, List.getElem?_cons_succ, List.set_cons_zero, List.set_cons_succ, List.length_cons, List.length_nil, Nat.reduceAdd, Nat.reduceLT, Int32.reduceToNatClampNeg, true_and, and_true, and_self, reduceCtorEq, not_false_eq_true, false_and, and_false, or_false, false_or, true_or, or_true]
  refine ⟨fun _ => ?_, fun h => absurd h3 h⟩
  exact jk_vret X d_AR_rangeCheck_73 hr (Nat.le_refl _) (Nat.le_refl _) ⟨rfl, rfl, rfl⟩
theorem upd_s {f : Nat → Int32} {i : Nat} {v : Int32} : upd f i v i = v := by simp [upd]
theorem upd_o {f : Nat → Int32} {i j : Nat} {v : Int32} (h : j ≠ i) : upd f i v j = f j := by simp [upd, h]
set_option maxRecDepth 100000 in
set_option maxHeartbeats 4000000 in
theorem c_AR_fill (l : Launch) (E : jE) (σ : Nat → jcell) (n : Nat) (p : Nat) (hp : p < n) (len : Nat) (hl2 : len < 2 ^ 31) (f : Nat → Int32) (h : σ p = .inl (.int, len, .inl f)) (a b : Nat) (hab : a ≤ b) (hb : b ≤ len) (v : Int32) : jMet l E jcl jtb lw_tbl y_AR_fill { frames := 1, cells := 0, slots := 0, locals := 40 } [.inr (.inr (some (.inl (p)))), .inl (nI a), .inl (nI b), .inl v] σ n (fun r σ' n' => ∃ g : Nat → Int32, r = none ∧ n' = n ∧ σ' = jup σ p (.inl (.int, len, .inl g)) ∧ ∀ j, g j = if a ≤ j ∧ j < b then v else f j) := by
  refine jMet_of (hY := rfl) false (fun h => by cases h) (by decide) (Nat.le_of_ble_eq_true rfl) [some (.inr (.inr (some (.inl (p))))), some (.inl (nI a)), some (.inl (nI b)), some (.inl v), none] rfl ?_
  intro M hl hR X hr
  have hpn : (p < n) = True := eq_true hp
  have hj2 : (FieldType.int ∈ jtys) = True := eq_true (by decide)
  have hloop : ∀ (u i : Nat) (g : Nat → Int32), a ≤ i → i + u = b → (∀ j, g j = if a ≤ j ∧ j < i then v else f j) → jJ E jcl 5 M (jQ E jcl M (fun r σ' n' => ∃ g : Nat → Int32, r = none ∧ n' = n ∧ σ' = jup σ p (.inl (.int, len, .inl g)) ∧ ∀ j, g j = if a ≤ j ∧ j < b then v else f j) 0 0) n 0 0 10 [some (.inr (.inr (some (.inl (p))))), some (.inl (nI a)), some (.inl (nI b)), some (.inl v), some (.inl (nI i))] [] (jup σ p (.inl (.int, len, .inl g))) := by
    intro u
    induction u with
    | zero =>
      intro i g ha hi hg
      obtain rfl : i = b := by omega
      refine jrun_ok jC X k_AR_fill_10 10 _ _ _ o_AR_fill_10 ?_
      simp only [k_AR_fill_10, jrun, jstep, jldi, jldl, jlda, j1, j2, jl1, jl2, jli, ja1, jbr, jald, jast, jlald, jlast, jalen, jget, jput, jfit, jdup, jdupx, jdupx2, jdup2, jcat, jset1, jset2, jkill, List.getElem?_cons_zero, List.getElem?_cons_succ, List.set_cons_zero, List.set_cons_succ, List.length_cons, List.length_nil, Nat.reduceAdd, Nat.reduceLT, Int32.reduceToNatClampNeg, true_and, and_true, and_self, reduceCtorEq, not_false_eq_true, false_and, and_false, or_false, false_or, true_or, or_true, jup_s, jup_jup, hpn, vp_nar_int32]
      refine ⟨fun _ => ?_, fun h => absurd (nI_le (Nat.le_refl _) (by omega)) h⟩
      exact jk_vret X d_AR_fill_27 hr (Nat.le_refl _) (Nat.le_refl _) ⟨g, rfl, rfl, rfl, hg⟩
    | succ u ih =>
      intro i g ha hi hg
      have hc : (nI i).toNatClampNeg = i := nI_clamp (by omega)
      refine jrun_ok jC X k_AR_fill_10 10 _ _ _ o_AR_fill_10 ?_
      simp only [k_AR_fill_10, jrun, jstep, jldi, jldl, jlda, j1, j2, jl1, jl2, jli, ja1, jbr, jald, jast, jlald, jlast, jalen, jget, jput, jfit, jdup, jdupx, jdupx2, jdup2, jcat, jset1, jset2, jkill, List.getElem?_cons_zero, List.getElem?_cons_succ, List.set_cons_zero, List.set_cons_succ, List.length_cons, List.length_nil, Nat.reduceAdd, Nat.reduceLT, Int32.reduceToNatClampNeg, true_and, and_true, and_self, reduceCtorEq, not_false_eq_true, false_and, and_false, or_false, false_or, true_or, or_true, jup_s, jup_jup, hpn, vp_nar_int32, hc, nI_1]
      refine ⟨fun h => absurd h (nI_ge (by omega) (by omega)), fun _ => ⟨vp_in_nI (by omega) hl2, ?_⟩⟩
      exact ih (i + 1) _ (by omega) (by omega) (by
        intro j
        by_cases hji : j = i
        · subst hji; rw [upd_s, if_pos ⟨ha, by omega⟩]
        · rw [upd_o hji, hg j]
          by_cases h9 : a ≤ j ∧ j < i
          · rw [if_pos h9, if_pos ⟨h9.1, by omega⟩]
          · rw [if_neg h9, if_neg (by omega)])
  refine jrun_ok jC X k_AR_fill_0 0 _ _ _ o_AR_fill_0 ?_
  simp only [k_AR_fill_0, jrun, jstep, jldi, jldl, jlda, j1, j2, jl1, jl2, jli, ja1, jbr, jald, jast, jlald, jlast, jalen, jget, jput, jfit, jdup, jdupx, jdupx2, jdup2, jcat, jset1, jset2, jkill, List.getElem?_cons_zero, List.getElem?_cons_succ, List.set_cons_zero, List.set_cons_succ, List.length_cons, List.length_nil, Nat.reduceAdd, Nat.reduceLT, Int32.reduceToNatClampNeg, true_and, and_true, and_self, reduceCtorEq, not_false_eq_true, false_and, and_false, or_false, false_or, true_or, or_true, h, hpn, hj2]
  refine jk_Sg X hR d_AR_fill_4 q_AR_fill_4 m_AR_rangeCheck s_AR_rangeCheck (r := []) (c_AR_rangeCheck M.2.1 E _ _ (nI len) (nI a) (nI b) (nI_le hab (by omega)) (nI_pos' (by omega)) (nI_le hb hl2)) rfl rfl ⟨Nat.le_of_ble_eq_true rfl, Nat.le_of_ble_eq_true rfl⟩ (c' := 0) rfl (s' := 0) rfl ⟨Nat.le_of_ble_eq_true rfl, Nat.le_of_ble_eq_true rfl⟩ (Nat.le_of_ble_eq_true rfl) (pc' := 7) rfl ?_
  rintro _ _ _ ⟨rfl, hn2, rfl⟩
  obtain rfl : n = _ := hn2.symm
  simp only [Option.toList_none, List.nil_append]
  refine jrun_ok jC X k_AR_fill_7 7 _ _ _ o_AR_fill_7 ?_
  simp only [k_AR_fill_7, jrun, jstep, jldi, jldl, jlda, j1, j2, jl1, jl2, jli, ja1, jbr, jald, jast, jlald, jlast, jalen, jget, jput, jfit, jdup, jdupx, jdupx2, jdup2, jcat, jset1, jset2, jkill, List.getElem?_cons_zero, List.getElem?_cons_succ, List.set_cons_zero, List.set_cons_succ, List.length_cons, List.length_nil, Nat.reduceAdd, Nat.reduceLT, Int32.reduceToNatClampNeg, true_and, and_true, and_self, reduceCtorEq, not_false_eq_true, false_and, and_false, or_false, false_or, true_or, or_true]
  have hh := hloop (b - a) a f (Nat.le_refl _) (by omega) (fun j => by rw [if_neg (by omega)])
  rw [jup_id h] at hh
  exact hh
end
section
noncomputable def bd_lg (j : Nat) : Bool := [false, false, true, false, false, false, false, false, false, true, false].getD j false
noncomputable def bd_ty (j : Nat) : FieldType := [.int, .int, .long, .int, .int, .int, .int, .int, .int, .long, .int].getD j .int
noncomputable def bd_len (j : Nat) : Nat := [64, 2, 4, 2, 16, 2, 1024, 512, 512, 1280, 320].getD j 0
noncomputable def bd_c (A : Nat → Nat → Int32) (L : Nat → Nat → Int64) (j : Nat) : jcell := bif bd_lg j then .inl (.long, bd_len j, .inr (.inl (L j))) else .inl (bd_ty j, bd_len j, .inl (A j))
noncomputable def bd_fl (n : Nat) (F : Nat → Int32) : List jv := [.inr (.inr (some (.inl (n)))), .inr (.inr (some (.inl (n + 1)))), .inl (F 2), .inl (F 3), .inl (F 4), .inl (F 5), .inl (F 6), .inr (.inr (some (.inl (n + 2)))), .inr (.inr (some (.inl (n + 3)))), .inr (.inr (some (.inl (n + 4)))), .inr (.inr (some (.inl (n + 5)))), .inr (.inr (some (.inl (n + 6)))), .inr (.inr (some (.inl (n + 7)))), .inr (.inr (some (.inl (n + 8)))), .inr (.inr (some (.inl (n + 9)))), .inr (.inr (some (.inl (n + 10)))), .inl (F 16)]
noncomputable def bdP (σ : Nat → jcell) (a n : Nat) (F : Nat → Int32) (A : Nat → Nat → Int32) (L : Nat → Nat → Int64) : Nat → jcell := fun p => if p = a then .inr (10, bd_fl n F) else if n ≤ p ∧ p < n + 11 then bd_c A L (p - n) else σ p
section PICbd
variable {σ : Nat → jcell} {a n : Nat} {F : Nat → Int32} {A : Nat → Nat → Int32} {L : Nat → Nat → Int64}
theorem bd_a : bdP σ a n F A L a = .inr (10, bd_fl n F) := if_pos rfl
theorem bd_g {j : Nat} (ha : a < n) (hj : j < 11) : bdP σ a n F A L (n + j) = bd_c A L j := by
  unfold bdP
  rw [if_neg (by omega), if_pos ⟨by omega, by omega⟩, Nat.add_sub_cancel_left]
theorem bd_ug {j : Nat} {f : Nat → Int32} (ha : a < n) (hj : j < 11) (hl : bd_lg j = false) : jup (bdP σ a n F A L) (n + j) (.inl (bd_ty j, bd_len j, .inl f)) = bdP σ a n F (va_up A j f) L := by
  funext p
  by_cases h : p = n + j
  · subst h
    rw [jup_s, bd_g ha hj]
    simp [bd_c, va_up, hl]
  · rw [jup_n h]
    unfold bdP
    by_cases h1 : p = a
    · rw [if_pos h1, if_pos h1]
    · rw [if_neg h1, if_neg h1]
      by_cases h2 : n ≤ p ∧ p < n + 11
      · rw [if_pos h2, if_pos h2]
        have h3 : ¬ p - n = j := by omega
        simp [bd_c, va_up, h3]
      · rw [if_neg h2, if_neg h2]
theorem bd_ul {j : Nat} {f : Nat → Int64} (ha : a < n) (hj : j < 11) (hl : bd_lg j = true) : jup (bdP σ a n F A L) (n + j) (.inl (.long, bd_len j, .inr (.inl f))) = bdP σ a n F A (va_up L j f) := by
  funext p
  by_cases h : p = n + j
  · subst h
    rw [jup_s, bd_g ha hj]
    simp [bd_c, va_up, hl]
  · rw [jup_n h]
    unfold bdP
    by_cases h1 : p = a
    · rw [if_pos h1, if_pos h1]
    · rw [if_neg h1, if_neg h1]
      by_cases h2 : n ≤ p ∧ p < n + 11
      · rw [if_pos h2, if_pos h2]
        have h3 : ¬ p - n = j := by omega
        simp [bd_c, va_up, h3]
      · rw [if_neg h2, if_neg h2]
theorem bd_ua {F' : Nat → Int32} : jup (bdP σ a n F A L) a (.inr (10, bd_fl n F')) = bdP σ a n F' A L := by
  funext p
  by_cases h : p = a
  · subst h
    rw [jup_s, bd_a]
  · rw [jup_n h]
    unfold bdP
    rw [if_neg h, if_neg h]
theorem bd_jmk (ha : a < n) {fs : List jv} {cs : List jcell} (hf : fs = bd_fl n F) (hc : cs = (List.range 11).map (bd_c A L)) (k : Nat) (hk : k < n + 11) : jmk σ a n (.inr (10, fs)) cs k = bdP σ a n F A L k := by
  subst hf; subst hc
  unfold jmk bdP
  by_cases h1 : k = a
  · rw [if_pos h1, if_pos h1]
  · rw [if_neg h1, if_neg h1]
    by_cases h2 : k < n
    · rw [if_pos h2, if_neg (by omega)]
    · rw [if_neg h2, if_pos ⟨by omega, hk⟩]
      simp only [List.getD, List.getElem?_map]
      rw [List.getElem?_range (by omega)]
      rfl
theorem bd_r0 (ha : a < n) : bdP σ a n F A L (n) = .inl (.int, 64, .inl (A 0)) := bd_g (j := 0) ha (by decide)
theorem bd_u0 {f : Nat → Int32} (ha : a < n) : jup (bdP σ a n F A L) (n) (.inl (.int, 64, .inl f)) = bdP σ a n F (va_up A 0 f) L := bd_ug (j := 0) ha (by decide) rfl
theorem bd_r1 (ha : a < n) : bdP σ a n F A L (n + 1) = .inl (.int, 2, .inl (A 1)) := bd_g (j := 1) ha (by decide)
theorem bd_u1 {f : Nat → Int32} (ha : a < n) : jup (bdP σ a n F A L) (n + 1) (.inl (.int, 2, .inl f)) = bdP σ a n F (va_up A 1 f) L := bd_ug (j := 1) ha (by decide) rfl
theorem bd_r2 (ha : a < n) : bdP σ a n F A L (n + 2) = .inl (.long, 4, .inr (.inl (L 2))) := bd_g (j := 2) ha (by decide)
theorem bd_u2 {f : Nat → Int64} (ha : a < n) : jup (bdP σ a n F A L) (n + 2) (.inl (.long, 4, .inr (.inl f))) = bdP σ a n F A (va_up L 2 f) := bd_ul (j := 2) ha (by decide) rfl
theorem bd_r3 (ha : a < n) : bdP σ a n F A L (n + 3) = .inl (.int, 2, .inl (A 3)) := bd_g (j := 3) ha (by decide)
theorem bd_u3 {f : Nat → Int32} (ha : a < n) : jup (bdP σ a n F A L) (n + 3) (.inl (.int, 2, .inl f)) = bdP σ a n F (va_up A 3 f) L := bd_ug (j := 3) ha (by decide) rfl
theorem bd_r4 (ha : a < n) : bdP σ a n F A L (n + 4) = .inl (.int, 16, .inl (A 4)) := bd_g (j := 4) ha (by decide)
theorem bd_u4 {f : Nat → Int32} (ha : a < n) : jup (bdP σ a n F A L) (n + 4) (.inl (.int, 16, .inl f)) = bdP σ a n F (va_up A 4 f) L := bd_ug (j := 4) ha (by decide) rfl
theorem bd_r5 (ha : a < n) : bdP σ a n F A L (n + 5) = .inl (.int, 2, .inl (A 5)) := bd_g (j := 5) ha (by decide)
theorem bd_u5 {f : Nat → Int32} (ha : a < n) : jup (bdP σ a n F A L) (n + 5) (.inl (.int, 2, .inl f)) = bdP σ a n F (va_up A 5 f) L := bd_ug (j := 5) ha (by decide) rfl
theorem bd_r6 (ha : a < n) : bdP σ a n F A L (n + 6) = .inl (.int, 1024, .inl (A 6)) := bd_g (j := 6) ha (by decide)
theorem bd_u6 {f : Nat → Int32} (ha : a < n) : jup (bdP σ a n F A L) (n + 6) (.inl (.int, 1024, .inl f)) = bdP σ a n F (va_up A 6 f) L := bd_ug (j := 6) ha (by decide) rfl
theorem bd_r7 (ha : a < n) : bdP σ a n F A L (n + 7) = .inl (.int, 512, .inl (A 7)) := bd_g (j := 7) ha (by decide)
theorem bd_u7 {f : Nat → Int32} (ha : a < n) : jup (bdP σ a n F A L) (n + 7) (.inl (.int, 512, .inl f)) = bdP σ a n F (va_up A 7 f) L := bd_ug (j := 7) ha (by decide) rfl
theorem bd_r8 (ha : a < n) : bdP σ a n F A L (n + 8) = .inl (.int, 512, .inl (A 8)) := bd_g (j := 8) ha (by decide)
theorem bd_u8 {f : Nat → Int32} (ha : a < n) : jup (bdP σ a n F A L) (n + 8) (.inl (.int, 512, .inl f)) = bdP σ a n F (va_up A 8 f) L := bd_ug (j := 8) ha (by decide) rfl
theorem bd_r9 (ha : a < n) : bdP σ a n F A L (n + 9) = .inl (.long, 1280, .inr (.inl (L 9))) := bd_g (j := 9) ha (by decide)
theorem bd_u9 {f : Nat → Int64} (ha : a < n) : jup (bdP σ a n F A L) (n + 9) (.inl (.long, 1280, .inr (.inl f))) = bdP σ a n F A (va_up L 9 f) := bd_ul (j := 9) ha (by decide) rfl
theorem bd_r10 (ha : a < n) : bdP σ a n F A L (n + 10) = .inl (.int, 320, .inl (A 10)) := bd_g (j := 10) ha (by decide)
theorem bd_u10 {f : Nat → Int32} (ha : a < n) : jup (bdP σ a n F A L) (n + 10) (.inl (.int, 320, .inl f)) = bdP σ a n F (va_up A 10 f) L := bd_ug (j := 10) ha (by decide) rfl
theorem bd_f2 : (bd_fl n F)[2]? = some (.inl (F 2)) := rfl
theorem bd_s2 {x : Int32} : (bd_fl n F).set 2 (.inl x) = bd_fl n (va_up F 2 x) := by
  simp [bd_fl, va_up]
theorem bd_f3 : (bd_fl n F)[3]? = some (.inl (F 3)) := rfl
theorem bd_s3 {x : Int32} : (bd_fl n F).set 3 (.inl x) = bd_fl n (va_up F 3 x) := by
  simp [bd_fl, va_up]
theorem bd_f4 : (bd_fl n F)[4]? = some (.inl (F 4)) := rfl
theorem bd_s4 {x : Int32} : (bd_fl n F).set 4 (.inl x) = bd_fl n (va_up F 4 x) := by
  simp [bd_fl, va_up]
theorem bd_f5 : (bd_fl n F)[5]? = some (.inl (F 5)) := rfl
theorem bd_s5 {x : Int32} : (bd_fl n F).set 5 (.inl x) = bd_fl n (va_up F 5 x) := by
  simp [bd_fl, va_up]
theorem bd_f6 : (bd_fl n F)[6]? = some (.inl (F 6)) := rfl
theorem bd_s6 {x : Int32} : (bd_fl n F).set 6 (.inl x) = bd_fl n (va_up F 6 x) := by
  simp [bd_fl, va_up]
theorem bd_f16 : (bd_fl n F)[16]? = some (.inl (F 16)) := rfl
theorem bd_s16 {x : Int32} : (bd_fl n F).set 16 (.inl x) = bd_fl n (va_up F 16 x) := by
  simp [bd_fl, va_up]
theorem bd_f0 : (bd_fl n F)[0]? = some (.inr (.inr (some (.inl (n))))) := rfl
theorem bd_f1 : (bd_fl n F)[1]? = some (.inr (.inr (some (.inl (n + 1))))) := rfl
theorem bd_f7 : (bd_fl n F)[7]? = some (.inr (.inr (some (.inl (n + 2))))) := rfl
theorem bd_f8 : (bd_fl n F)[8]? = some (.inr (.inr (some (.inl (n + 3))))) := rfl
theorem bd_f9 : (bd_fl n F)[9]? = some (.inr (.inr (some (.inl (n + 4))))) := rfl
theorem bd_f10 : (bd_fl n F)[10]? = some (.inr (.inr (some (.inl (n + 5))))) := rfl
theorem bd_f11 : (bd_fl n F)[11]? = some (.inr (.inr (some (.inl (n + 6))))) := rfl
theorem bd_f12 : (bd_fl n F)[12]? = some (.inr (.inr (some (.inl (n + 7))))) := rfl
theorem bd_f13 : (bd_fl n F)[13]? = some (.inr (.inr (some (.inl (n + 8))))) := rfl
theorem bd_f14 : (bd_fl n F)[14]? = some (.inr (.inr (some (.inl (n + 9))))) := rfl
theorem bd_f15 : (bd_fl n F)[15]? = some (.inr (.inr (some (.inl (n + 10))))) := rfl
theorem bd_l : (bd_fl n F).length = 17 := rfl
end PICbd
theorem bd_p1 : ∀ s, s < 64 → vp_in (nI s >>> (4 &&& 31)) 4 ∧ vp_in ((nI s ^^^ nI s >>> (3 &&& 31)) &&& 1) 2 := by
  unfold vp_in
  decide +kernel
theorem bd_p2 : ∀ m, m < 16 → vp_in (nI m >>> (3 &&& 31)) 2 := by
  unfold vp_in
  decide +kernel
theorem bd_p3 : ∀ m, m < 16 → ∀ s, s < 64 → vp_in (nI m <<< (6 &&& 31) ||| nI s) 1024 := by
  unfold vp_in
  decide +kernel
end
section
theorem jtb_0 : jtb 0 = some ("ChessHouse$Board", "STEPS", "[I", .int, 8, fun i => tv_0.getD i 0) := rfl
noncomputable def hop5 (x y : Int32) : Int32 := ((y &&& (7 : Int32)) - (x &&& (7 : Int32))) * ((y &&& (7 : Int32)) - (x &&& (7 : Int32))) + (y >>> ((3 : Int32) &&& 31) - x >>> ((3 : Int32) &&& 31)) * (y >>> ((3 : Int32) &&& 31) - x >>> ((3 : Int32) &&& 31))
noncomputable def hopc (x : Int32) : Nat → Nat
  | 0 => 0
  | t + 1 => hopc x t + if hop5 x (nI t) = 5 then 1 else 0
theorem hopc_8 : ∀ s, s < 64 → hopc (nI s) 64 ≤ 8 := by decide +kernel
theorem hopc_mono (x : Int32) (t u : Nat) : hopc x t ≤ hopc x (t + u) := by
  induction u with
  | zero => exact Nat.le_refl _
  | succ u ih =>
    show hopc x t ≤ hopc x (t + u) + _
    omega
end
section
/-! throws: a method that ends in an exception of its own, and a call of one that is caught -/
/-- a cell of which nothing is known -/
noncomputable def jun : jcell := .inl (.float, 0, .inl fun _ => 0)
theorem jun_kn : ¬ jkn jun := by
  show ¬ (FieldType.float ∈ jtys)
  decide
/-- a static field and the reference or null that it holds -/
noncomputable def jrf (v : Value) : Prop := v = .null ∨ ∃ a, v = .ref a
noncomputable def jLs (C n d : String) (A : Nat → Prop) (U : State) (H : Heap) : Prop := ∃ (c : ClassId) (kf : Class) (fi : Nat) (f : Field) (a : Nat) (cell : Cell) (v : Value), U.vm.findClass C = some c ∧ U.fieldFound? C n d = some (c, kf, fi, f) ∧ f.isStatic = true ∧ kf.statics = some a ∧ H[a]? = some cell ∧ cell.vm.isStatics = true ∧ cell.cls = c ∧ f.slot < cell.slots.size ∧ kf.staticTypes[f.slot]? = some f.type ∧ cell.slots[f.slot]? = some v ∧ jrf v ∧ ¬ A a
theorem jLs.moved {C n d : String} {A : Nat → Prop} {u U : State} {H : Heap} (hvm : u.vm.Alike U.vm) (h : jLs C n d A u H) : jLs C n d A U H := by
  obtain ⟨c, kf, fi, f, a, cell, v, h0, h1, h2, h3, h4, h5, h6, h7, h8, h9⟩ := h
  obtain ⟨k', hi', he⟩ := State.fieldFound?_setVm hvm h1
  exact ⟨c, k', fi, f, a, cell, v, by rw [hvm.findClass]; exact h0, hi', h2, by rw [he]; exact h3, h4, h5, h6, h7, by rw [he]; exact h8, h9⟩
theorem jLs.kept {C n d : String} {A : Nat → Prop} {U : State} {H H1 : Heap} (h : jLs C n d A U H) (hq : ∀ a : Nat, a < H.size → ¬ A a → H1[a]? = H[a]?) : jLs C n d A U H1 := by
  obtain ⟨c, kf, fi, f, a, cell, v, h0, h1, h2, h3, h4, h5, h6, h7, h8, h9, h10, h11⟩ := h
  exact ⟨c, kf, fi, f, a, cell, v, h0, h1, h2, h3, by rw [hq a (Array.getElem?_eq_some_iff.mp h4).1 h11]; exact h4, h5, h6, h7, h8, h9, h10, h11⟩
theorem jLs.ref {C n d : String} {A : Nat → Prop} {args : Array Value} {s : State} (h : jLs C n d A s s.heap) : (Jvm.Cond.isRef (.static C n d)).before args s = true := by
  obtain ⟨c, kf, fi, f, a, cell, v, h0, h1, h2, h3, h4, h5, h6, h7, h8, h9, h10, h11⟩ := h
  have ev : (Term.static C n d).eval args s none [] s = some v := by simp [Term.eval, State.fieldNamed?, h1, h2, h3, h4, h5, h9]
  rcases h10 with rfl | ⟨x, rfl⟩ <;> simp [Jvm.Cond.before, Jvm.Cond.holds, Jvm.Cond.value, ev]
theorem jLs.lays {C n d : String} {A : Nat → Prop} {args : Array Value} {s : State} (h : jLs C n d A s s.heap) : (Jvm.Cond.laysStatic C n d).before args s = true := by
  obtain ⟨c, kf, fi, f, a, cell, v, h0, h1, h2, h3, h4, h5, h6, h7, h8, h9, h10, h11⟩ := h
  simp [Jvm.Cond.before, Jvm.Cond.holds, Jvm.Cond.value, h0, h1, h2, h3, h4, h5, h6, h7, h8]
theorem jLs_of {C n d : String} {A : Nat → Prop} {args : Array Value} {s : State} (hl : (Jvm.Cond.laysStatic C n d).before args s = true) (hr : (Jvm.Cond.isRef (.static C n d)).before args s = true) (hA : ∀ a : Nat, a < s.heap.size → ¬ A a) : jLs C n d A s s.heap := by
  obtain ⟨c, k, i, f, a, cell, hc, hi, hst, ha, hcell, hs, hcls, hlt, hty⟩ := Cond.laysStatic_spec hl
  cases hv : (Term.static C n d).eval args s none [] s with
  | none => simp [Jvm.Cond.before, Jvm.Cond.holds, Jvm.Cond.value, hv] at hr
  | some w =>
    obtain ⟨hst', a', cell', ha', hcell', -, hslot⟩ := Term.static_spec hi hv
    cases ha.symm.trans ha'
    cases hcell.symm.trans hcell'
    refine ⟨c, k, i, f, a, cell, w, hc, hi, hst, ha, hcell, hs, hcls, hlt, hty, hslot, ?_, hA a (Array.getElem?_eq_some_iff.mp hcell).1⟩
    simp only [Jvm.Cond.before, Jvm.Cond.holds, Jvm.Cond.value, hv] at hr
    cases w with
    | null => exact Or.inl rfl
    | ref t => exact Or.inr ⟨t, rfl⟩
    | _ => simp at hr
/-- the words of a throw that steady readers don't carry -/
noncomputable def jtw : List Jvm.Cond := [.declares ⟨"java/lang/RuntimeException", "<init>", "()V"⟩, .declares ⟨"java/lang/Exception", "<init>", "()V"⟩, .declares ⟨"java/lang/Throwable", "<init>", "()V"⟩, .castable "java/lang/IllegalArgumentException" "java/lang/IllegalArgumentException", .castable "java/lang/IndexOutOfBoundsException" "java/lang/IndexOutOfBoundsException", .castable "java/lang/UnsupportedOperationException" "java/lang/UnsupportedOperationException"]
noncomputable def jTx : List Jvm.Cond := .laysStatic "java/lang/Throwable" "UNASSIGNED_STACK" "[Ljava/lang/StackTraceElement;" :: .laysStatic "java/lang/Throwable" "SUPPRESSED_SENTINEL" "Ljava/util/List;" :: .isRef (.static "java/lang/Throwable" "UNASSIGNED_STACK" "[Ljava/lang/StackTraceElement;") :: .isRef (.static "java/lang/Throwable" "SUPPRESSED_SENTINEL" "Ljava/util/List;") :: jtw
noncomputable def jTh (E : jE) (U : State) : Prop := jLs "java/lang/Throwable" "UNASSIGNED_STACK" "[Ljava/lang/StackTraceElement;" (jA E) U U.heap ∧ jLs "java/lang/Throwable" "SUPPRESSED_SENTINEL" "Ljava/util/List;" (jA E) U U.heap ∧ ∀ w ∈ jtw, w.before #[] U = true
theorem jtw_tab : ∀ w ∈ jtw, w.onTables = true := by
  intro w hw
  simp only [jtw, List.mem_cons, List.not_mem_nil, or_false] at hw
  rcases hw with rfl | rfl | rfl | rfl | rfl | rfl <;> rfl
theorem jtw_moved {u U : State} (hvm : u.vm.Alike U.vm) (h : ∀ w ∈ jtw, w.before #[] u = true) : ∀ w ∈ jtw, w.before #[] U = true := by
  intro w hw
  have h1 := h w hw
  have h2 : w.before #[] (u.setVm U.vm) = true := by
    simp only [jtw, List.mem_cons, List.not_mem_nil, or_false] at hw
    rcases hw with rfl | rfl | rfl | rfl | rfl | rfl
    · rw [Cond.declares_setVm hvm]; exact h1
    · rw [Cond.declares_setVm hvm]; exact h1
    · rw [Cond.declares_setVm hvm]; exact h1
    · rw [Cond.castable_setVm hvm]; exact h1
    · rw [Cond.castable_setVm hvm]; exact h1
    · rw [Cond.castable_setVm hvm]; exact h1
  have e := Cond.onTables_vm (A := #[]) (A' := #[]) (U := u) (U' := U) U.vm w (jtw_tab w hw)
  have hU : U.setVm U.vm = U := rfl
  rw [hU] at e
  rw [← e]
  exact h2
theorem jTh_word {E : jE} {args : Array Value} {s : State} (h : jTh E s) : ∀ w ∈ jTx, w.before args s = true := by
  obtain ⟨h1, h2, h3⟩ := h
  intro w hw
  simp only [jTx, List.mem_cons] at hw
  rcases hw with rfl | rfl | rfl | rfl | hw
  · exact h1.lays
  · exact h2.lays
  · exact h1.ref
  · exact h2.ref
  · exact va_any (jtw_tab w hw) (h3 w hw)
theorem jTh_go {E : jE} {s U : State} {H : Heap} {locs : List Loc} (h : jTh E s) (hS : va_S (jA E) s.heap H locs) (hU : U.heap = H) (hW : s.WarmedH U.vm) : jTh E U := by
  obtain ⟨h1, h2, h3⟩ := h
  subst hU
  exact ⟨(h1.kept hS.2.1).moved hW.alike, (h2.kept hS.2.1).moved hW.alike, jtw_moved hW.alike h3⟩
/-- the words of a throw: in the tables, or among these -/
noncomputable def jTw (Ts : List Jvm.Cond) (own : String) (ic : Nat) (cls : String) (names : List String) : Prop := ∀ a ∈ Bundle.ownAtoms0 own ic cls names, a ∈ jTA Ts ∨ a ∈ jTx
noncomputable def jQt (E : jE) (cl : List vw_C) (cls : String) (σ : Nat → jcell) (n : Nat) : Array Value → State → Outcome → State → Prop := fun _ s o t => o = .threw (E.2.2.2 + n) ∧ jW E cl (jup σ n jun) (n + 1) t.heap ∧ (∃ ce, t.heap[E.2.2.2 + n]? = some ce ∧ ce.vm = .none ∧ s.vm.findClass cls = some ce.cls) ∧ va_F (jA E) s t
noncomputable def jPt (E : jE) (cl : List vw_C) (tb : jTb) (Ts : List Jvm.Cond) (vals : List jv) (σ : Nat → jcell) (n : Nat) : Array Value → State → Prop := fun v U => jPc E cl tb Ts vals σ n v U ∧ jTh E U
/-- what an end by a throw leaves: the tables are warmer, and all but new cells and the slots of L is as it was -/
noncomputable def jEt (s t : State) (L : List Loc) (k m : Nat) : Prop := s.WarmedH t.vm ∧ s.sameButNew ({ t with vm := s.vm } : State) L k m
noncomputable def jMetT (l : Launch) (E : jE) (cl : List vw_C) (tb : jTb) (Ts : List Jvm.Cond) (Y : jY) (rm : Room) (vals : List jv) (σ : Nat → jcell) (n : Nat) (cls : String) : Prop := MetFree l Y.1 (headSpec (jws Ts Y) rm) (jPt E cl tb Ts vals σ n) (fun _ _ _ _ _ => True) (fun a st o t => jQt E cl cls σ n a st o t ∧ ∃ L, jEt st t L rm.cells rm.slots ∧ ∀ q ∈ L, jA E q.base)
noncomputable def jQT (E : jE) (cl : List vw_C) (M : jM) (cls : String) (σ : Nat → jcell) (n : Nat) : State → Prop := fun t => ∃ o, t.status = .running ∧ Ended t M.2.2.2.2.2.2.2.1 o ∧ jQt E cl cls σ n M.2.2.2.2.2.2.1 M.2.2.2.2.1 o t ∧ ∃ L, jEt M.2.2.2.2.1 t L M.2.2.2.1.cells M.2.2.2.1.slots ∧ ∀ q ∈ L, jA E q.base
/-- the judgement over the heap as it was at the start: for roads that write nothing -/
noncomputable def jF (E : jE) (cl : List vw_C) (nL : Nat) (M : jM) (Q : State → Prop) (n : Nat) : jN := fun pc lv st σ => ∀ ls : Array Slot, jW E cl σ n M.2.2.2.2.1.heap → jlv E ls nL lv →
  W M.1 M.2.1 M.2.2.1 M.2.2.2.1 M.2.2.2.2.1 M.2.2.2.2.2.1 M.2.2.2.2.2.2.1 M.2.2.2.2.2.2.2.1 M.2.2.2.2.2.2.2.2.1 M.2.2.2.2.2.2.2.2.2 M.2.2.2.2.1.heap [] 0 0 Q (F0 M.2.2.2.2.2.1 pc ls (st.map (jc E)))
section JTH
variable {E : jE} {own : String} {Ts : List Jvm.Cond} {cl : List vw_C} {tb : jTb} {nL : Nat} {ini : Bool} {cc : ByteArray} {M : jM} {Q : State → Prop} {n cells slots : Nat}
theorem jf_iload_n (X : jX E own Ts cl tb nL ini cc M) {pc : Nat} {i : Fin 4} (hd : decode cc pc = .ok (.iload_n i, 1)) {lv : List (Option jv)} {r : List jv} {σ : Nat → jcell} {x : Int32} (hl : lv[i.val]? = some (some (.inl x))) (k : jF E cl nL M Q n (pc + 1) lv (.inl x :: r) σ) : jF E cl nL M Q n pc lv r σ := by
  obtain ⟨hx, hb, -⟩ := X
  exact fun ls hW hL => lv_iload_n hx hb hd rfl (hL.2.2 _ _ hl) (k ls hW hL)
theorem jf_aload_n (X : jX E own Ts cl tb nL ini cc M) {pc : Nat} {i : Fin 4} (hd : decode cc pc = .ok (.aload_n i, 1)) {lv : List (Option jv)} {r : List jv} {σ : Nat → jcell} {a : Nat ⊕ Nat} (hl : lv[i.val]? = some (some (.inr (.inr (some a))))) (k : jF E cl nL M Q n (pc + 1) lv (.inr (.inr (some a)) :: r) σ) : jF E cl nL M Q n pc lv r σ := by
  obtain ⟨hx, hb, -⟩ := X
  rcases a with a | a
  · exact fun ls hW hL => lv_aload_n hx hb hd rfl (hL.2.2 _ _ hl) (k ls hW hL)
  · exact fun ls hW hL => lv_aload_n hx hb hd rfl (hL.2.2 _ _ hl) (k ls hW hL)
theorem jf_iflt (X : jX E own Ts cl tb nL ini cc M) {pc tg : Nat} {z : Int} (hd : decode cc pc = .ok (.ifCond .lt z, 3)) (ht : (pc : Int) + z = (tg : Int)) {lv : List (Option jv)} {r : List jv} {σ : Nat → jcell} {x : Int32} (ka : x < 0 → jF E cl nL M Q n tg lv r σ) (kb : ¬ x < 0 → jF E cl nL M Q n (pc + 3) lv r σ) : jF E cl nL M Q n pc lv (.inl x :: r) σ := by
  obtain ⟨hx, hb, -⟩ := X
  exact fun ls hW hL => lv_if_lt hx hb hd ht (fun q => ka q ls hW hL) (fun q => kb q ls hW hL)
theorem jf_icle (X : jX E own Ts cl tb nL ini cc M) {pc tg : Nat} {z : Int} (hd : decode cc pc = .ok (.if_icmp .le z, 3)) (ht : (pc : Int) + z = (tg : Int)) {lv : List (Option jv)} {r : List jv} {σ : Nat → jcell} {x y : Int32} (ka : x ≤ y → jF E cl nL M Q n tg lv r σ) (kb : ¬ x ≤ y → jF E cl nL M Q n (pc + 3) lv r σ) : jF E cl nL M Q n pc lv (.inl y :: .inl x :: r) σ := by
  obtain ⟨hx, hb, -⟩ := X
  exact fun ls hW hL => lv_icmp_le hx hb hd ht (fun q => ka q ls hW hL) (fun q => kb q ls hW hL)
theorem jf_iclt (X : jX E own Ts cl tb nL ini cc M) {pc tg : Nat} {z : Int} (hd : decode cc pc = .ok (.if_icmp .lt z, 3)) (ht : (pc : Int) + z = (tg : Int)) {lv : List (Option jv)} {r : List jv} {σ : Nat → jcell} {x y : Int32} (ka : x < y → jF E cl nL M Q n tg lv r σ) (kb : ¬ x < y → jF E cl nL M Q n (pc + 3) lv r σ) : jF E cl nL M Q n pc lv (.inl y :: .inl x :: r) σ := by
  obtain ⟨hx, hb, -⟩ := X
  exact fun ls hW hL => lv_icmp_lt hx hb hd ht (fun q => ka q ls hW hL) (fun q => kb q ls hW hL)
theorem jf_get (hC : jCl Ts cl) (X : jX E own Ts cl tb nL ini cc M) {pc i wi ci f : Nat} (hd : decode cc pc = .ok (.getfield i, 3)) {q : vw_C} (hq : cl[ci]? = some q) (hf : f < q.2.2) (hw : jlk Ts wi own i (q.2.1 f).1 (q.2.1 f).2.1 (q.2.1 f).2.2.1 = true) {lv : List (Option jv)} {r : List jv} {σ : Nat → jcell} {a : Nat} {fs : List jv} {v : jv} (ha : a < n) (he : σ a = .inr (ci, fs)) (hv : fs[f]? = some v) (k : jF E cl nL M Q n (pc + 3) lv (v :: r) σ) : jF E cl nL M Q n pc lv (.inr (.inr (some (.inl a))) :: r) σ := by
  obtain ⟨hx, hb, -, ho, hts, ⟨hK, -, -, hN⟩, -⟩ := X
  intro ls hW hL
  have hP := jW_one hW ha (by rw [he]; simp only [jkn]; first | done | decide | assumption)
  rw [he] at hP
  rcases jlk_or hw with h8 | ⟨host, h8⟩
  · exact va_get (C := q.1) (T := q.2.1) (N := q.2.2) hx hb hts (hC ci q hq).1 ho hK hP 0 rfl hq f hf (hts _ h8) (fun _ h9 => h9) (by rw [List.getElem?_map, hv]; rfl) hd (k ls hW hL)
  · exact va_getN (C := q.1) (T := q.2.1) (N := q.2.2) (host := host) hx hb hts (hC ci q hq).1 ho hK hP 0 rfl hq f hf (va_Nw.use rfl (hN _ h8)) (fun _ h9 => h9) (by rw [List.getElem?_map, hv]; rfl) hd (k ls hW hL)
/-- cells that were there are the same, where nothing was written -/
theorem jsame_at {s t : State} {k m : Nat} (h : s.sameButNew t [] k m) {a : Nat} (ha : a < s.heap.size) : t.heap[a]? = s.heap[a]? := by
  obtain ⟨-, -, -, -, -, h6⟩ := h
  obtain ⟨c', e1, e2, e3, e4⟩ := h6 a _ (Array.getElem?_eq_getElem ha)
  rw [e1, Array.getElem?_eq_getElem ha, e2]
  have e5 : c'.slots = (s.heap[a]).slots := Array.ext_getElem? fun i => e4 i (by simp)
  rw [e5]
/-- a new exception is made and thrown -/
theorem jf_thr0 (X : jX E own Ts cl tb nL ini cc M) {rm : Room} (hR : M.2.2.2.1 = rm) (hl : M.2.1.stackTraces = false) (hTh : jTh E M.2.2.2.2.1) (hex : M.2.2.2.2.2.2.2.2.2.exceptionTable.toList = []) {pc i ic : Nat} (hd0 : decode cc pc = .ok (.new i, 3)) (hd1 : decode cc (pc + 3) = .ok (.dup, 1)) (hd2 : decode cc (pc + 4) = .ok (.invokespecial ic, 3)) (hd3 : decode cc (pc + 7) = .ok (.athrow, 1))
    {cls : String} {names : List String} (w1 : Jvm.Cond.classLink own i cls ∈ jTA Ts) (w2 : Jvm.Cond.instantiable cls 6 ∈ jTA Ts) (w3 : Jvm.Cond.initialized cls ∈ jTA Ts) (hcls : Bundle.fit cls = true) (hnames : ∀ x ∈ names, Bundle.fit x = true) (hw : jTw Ts own ic cls names)
    (hf : names.length + 3 < rm.frames ∧ 13 * (names.length + 1) + 42 ≤ rm.locals ∧ 1 ≤ rm.cells ∧ 6 ≤ rm.slots) {lv : List (Option jv)} {σ : Nat → jcell} : jF E cl nL M (jQT E cl M cls σ n) n pc lv [] σ := by
  obtain ⟨p, l, e, R, s, m, args, below, meth, c⟩ := M
  dsimp only at hR hl hTh hex
  subst hR
  obtain ⟨hx, hb, hml, ho, hts, hK, hlk, -⟩ := X
  dsimp only at hx hb hml ho hts hK hlk
  intro ls hW hL
  dsimp only at hW ⊢
  refine W.newc (C := cls) (n := 6) hx hb ho (hts _ w1) (hts _ w2) (hts _ w3) rfl hd0 (by omega) (by omega) ?_
  intro cC kC q1 q2 q3 q4
  refine lv_dup (va := .ref s.heap.size) hx hb hd1 rfl ?_
  intro T hT Xs
  have htr : e.platform.stackTraces = false := by rw [Xs.admits.platform]; exact hl
  have hat : ∀ a ∈ Bundle.ownAtoms0 own ic cls names, a.before args s = true := by
    intro a ha
    rcases hw a ha with h | h
    · exact hts a h
    · exact jTh_word hTh a h
  obtain ⟨U, st, hrun, hend, hwarm, hsame, ce, hce, hoc⟩ := Xs.ctorThrow0 hx htr (own := own) (cls := cls) (names := names) (ic := ic) ho hcls hnames hat (by intro x hx9; cases hx9) (a := s.heap.size) q1 q2 (by rw [hT]; simp [freshCell]) (Nat.le_refl _)
    (g := F0 m (pc + 4) ls [.ref s.heap.size, .ref s.heap.size]) rfl (hL.1.trans hml.symm) rfl rfl (rest := []) rfl (by rw [hb]; exact hd2) (by rw [hb]; exact hd3) (by rw [hex]; intro x hx9; cases hx9) hf.1 (by
      have e1 : (F0 m (pc + 4) ls [Value.ref s.heap.size, .ref s.heap.size]).monitorRoom = 0 := rfl
      rw [e1]
      simp only [List.map_cons, List.map_nil, List.sum_cons, List.sum_nil, Value.category]
      omega) hlk
  have hz : U.heap.size = s.heap.size + 1 := by
    have h3 : U.heap.size ≤ s.heap.size + (0 + 1) := hsame.2.2.1
    have h4 := (Array.getElem?_eq_some_iff.mp hce).1
    omega
  have hB : s.heap.size = E.2.2.2 + n := hW.1
  have hq : ∀ a : Nat, a < s.heap.size → U.heap[a]? = s.heap[a]? := fun a ha => jsame_at (t := { U with vm := s.vm }) hsame ha
  refine ⟨U, st, .threw s.heap.size, hrun, hend, ⟨by rw [hB], ⟨by omega, fun k hk hkk => ?_⟩, ⟨ce, by rw [← hB]; exact hce, hoc.vm, hoc.cls⟩, by show s.heap.size ≤ U.heap.size; omega, fun q h1 _ => hq q h1⟩, [], ⟨hwarm, hsame.weaken (fun x hx9 => by cases hx9) (by show 0 + 1 ≤ R.cells; omega) (by show 0 + 6 ≤ R.slots; omega)⟩, fun q hq9 => by cases hq9⟩
  by_cases hkn : k = n
  · subst hkn
    rw [jup_s] at hkk
    exact (jun_kn hkk).elim
  · rw [jup_n hkn] at hkk ⊢
    exact (hW.2 k (by omega) hkk).kept (hq _ (by show E.2.2.2 + k < _; omega))
end JTH
section JTE
variable {l : Launch} {E : jE} {cl : List vw_C} {tb : jTb} {Ts : List Jvm.Cond}
theorem jPt_blind {vals : List jv} {σ : Nat → jcell} {n : Nat} : FrameBlind (jPt E cl tb Ts vals σ n) := by
  intro a U g mk ⟨h, h1, h2, h3⟩
  exact ⟨jPc_blind a U g mk h, jLs.moved (u := U) (U := U.calling g mk a) (Vm.Alike.refl U.vm) h1, jLs.moved (u := U) (U := U.calling g mk a) (Vm.Alike.refl U.vm) h2, jtw_moved (u := U) (U := U.calling g mk a) (Vm.Alike.refl U.vm) h3⟩
/-- the entry of a method that throws -/
theorem jMetT_of {Y : jY} {own nm ds : String} {cc : ByteArray} {nL : Nat} {ret : Option FieldType} {rm : Room} {vals : List jv} {σ : Nat → jcell} {n : Nat} {cls : String} (hY : Y = (⟨own, nm, ds⟩, cc, nL, ret)) (hy : plainName own = true) (hlen : (lg_sl (vals.map (jc E))).length ≤ nL) (lv0 : List (Option jv)) (hlv : jent vals nL = lv0)
    (body : ∀ M : jM, M.2.1 = l → M.2.2.2.1 = rm → jX E own Ts cl tb nL false cc M → jTh E M.2.2.2.2.1 → M.2.2.2.2.2.2.2.2.2.exceptionTable.toList = [] → jF E cl nL M (jQT E cl M cls σ n) n 0 lv0 [] σ) : jMetT l E cl tb Ts Y rm vals σ n cls := by
  subst hlv
  subst hY
  refine MetFree.of_bodyS (code := cc) (maxLocals := nL) (ret := ret) hy ?_ ?_
  · intro args s m h hn
    obtain ⟨meth, c, h1, h2, h3, h4, h5, h6, -, -⟩ := Cond.code_spec hn (atoms_spec (ws := jws Ts (⟨own, nm, ds⟩, cc, nL, ret)) h _ List.mem_cons_self)
    exact ⟨meth, c, h1, h2, h3, h4, h5, h6⟩
  · intro p e s m args below meth c s₁ B hml hP _
    obtain ⟨⟨rfl, hW, hK⟩, hT⟩ := hP
    have hh0 : s₁.heap = s.heap := by rw [B.state]; rfl
    have hex : c.exceptionTable.toList = [] := by
      have h9 := B.noHandlers (atoms_spec (ws := jws Ts (⟨own, nm, ds⟩, cc, nL, ret)) B.pre _ List.mem_cons_self)
      rw [Array.isEmpty_iff] at h9
      rw [h9]
    have h := body (p, l, e, rm, s, m, (vals.map (jc E)).toArray, below, meth, c) rfl rfl
      ⟨B.exec, B.bytes, hml, findClass_of_methodNamed B.named, fun w hw => atoms_spec (ws := jws Ts (⟨own, nm, ds⟩, cc, nL, ret)) B.pre w (List.mem_cons_of_mem _ hw), hK, B.notSynchronized, fun hi => by cases hi⟩ hT hex
    have hl := lv_entry (vals.map (jc E)) (n := nL) hlen
    have h2 := h _ hW ⟨hl.1, hl.2.1, fun i v hi => by
      have h1 := jar_in (E := E) vals 0 i v (jent_at hi)
      rw [Nat.zero_add] at h1
      exact hl.2.2 _ h1⟩
    have h3 : W p l e rm s m (vals.map (jc E)).toArray below meth c s.heap [] 0 0 (jQT E cl (p, l, e, rm, s, m, (vals.map (jc E)).toArray, below, meth, c) cls σ n) (entryFrame m (vals.map (jc E)).toArray nL) := by
      rw [lg_entry_eq]
      exact h2
    obtain ⟨t, a1, o, b1, b2, b3⟩ := h3 s₁ hh0 (Stand.of_body B)
    exact ⟨t, o, a1, b1, b2, b3⟩
/-- a method with an exception table -/
noncomputable def jwsW (Ts : List Jvm.Cond) (Y : jY) (hh : List (Nat × Nat × Nat × Nat)) : List Jvm.Cond := Jvm.Cond.codeWith Y.1 Y.2.1 Y.2.2.1 Y.2.2.2 hh :: jTA Ts
noncomputable def jMetW (l : Launch) (E : jE) (cl : List vw_C) (tb : jTb) (Ts : List Jvm.Cond) (Y : jY) (hh : List (Nat × Nat × Nat × Nat)) (rm : Room) (vals : List jv) (σ : Nat → jcell) (n : Nat) (post : jPo) : Prop := Met l Y.1 (jwsW Ts Y hh) rm (jPt E cl tb Ts vals σ n) (jQc E cl post) rm.cells rm.slots (jA E)
theorem jMetW_of {Y : jY} {own nm ds : String} {cc : ByteArray} {nL : Nat} {ret : Option FieldType} {hh : List (Nat × Nat × Nat × Nat)} {rm : Room} {vals : List jv} {σ : Nat → jcell} {n : Nat} {post : jPo} (hY : Y = (⟨own, nm, ds⟩, cc, nL, ret)) (hy : plainName own = true) (hlen : (lg_sl (vals.map (jc E))).length ≤ nL) (lv0 : List (Option jv)) (hlv : jent vals nL = lv0)
    (body : ∀ M : jM, M.2.1 = l → M.2.2.2.1 = rm → jX E own Ts cl tb nL false cc M → M.2.2.2.2.2.2.2.2.1.sig.returnType = ret → jTh E M.2.2.2.2.1 → M.2.2.2.2.2.2.2.2.2.exceptionTable.toList.map (fun h => (h.startPc, h.endPc, h.handlerPc, h.catchType)) = hh → jJ E cl nL M (jQ E cl M post rm.cells rm.slots) n 0 0 0 lv0 [] σ) : jMetW l E cl tb Ts Y hh rm vals σ n post := by
  subst hlv
  subst hY
  refine va_MetW (cc := cc) (maxL := nL) (ret := ret) (hh := hh) hy rfl ?_
  intro p e s m args below meth c s₁ B hml hv
  obtain ⟨⟨rfl, hW, hK⟩, hT⟩ := hv
  have hex : c.exceptionTable.toList.map (fun h => (h.startPc, h.endPc, h.handlerPc, h.catchType)) = hh := by
    obtain ⟨m9, meth9, c9, hn9, hm9, hc9, -, -, he9, -⟩ := Cond.codeWith_spec (atoms_spec (ws := jwsW Ts (⟨own, nm, ds⟩, cc, nL, ret) hh) B.pre _ List.mem_cons_self)
    cases B.named.symm.trans hn9
    cases B.method.symm.trans hm9
    cases (Stand.of_body B).code.symm.trans hc9
    exact he9
  have h := body (p, l, e, rm, s, m, (vals.map (jc E)).toArray, below, meth, c) rfl rfl
    ⟨B.exec, B.bytes, hml, findClass_of_methodNamed B.named, fun w hw => atoms_spec (ws := jwsW Ts (⟨own, nm, ds⟩, cc, nL, ret) hh) B.pre w (List.mem_cons_of_mem _ hw), hK, B.notSynchronized, fun hi => by cases hi⟩ B.returns hT hex
  have hl := lv_entry (vals.map (jc E)) (n := nL) hlen
  rw [lg_entry_eq]
  exact h s.heap [] _ hW va_S.rf ⟨hl.1, hl.2.1, fun i v hi => by
    have h1 := jar_in (E := E) vals 0 i v (jent_at hi)
    rw [Nat.zero_add] at h1
    exact hl.2.2 _ h1⟩
end JTE
section JTR
variable {p : Program} {l : Launch} {e : Env} {R : Room} {s : State} {m : MethodId} {args : Array Value} {below : List Frame} {meth : Method} {c : Code} {T : State} {locs : List Loc} {cells slots : Nat}
/-- behind the invocation of a method that throws: the exception's note lies over the caller's frame -/
theorem jthrown {E : jE} {cl : List vw_C} {tb : jTb} {Ts : List Jvm.Cond} {Y : jY} {rc : Room} {vals : List jv} {σ : Nat → jcell} {n : Nat} {cls : String} (hM : jMetT l E cl tb Ts Y rc vals σ n cls) (X : Stand p l e R s m args below meth c T locs cells slots) {g : JFrame} (hg : g.method = m) {mk : MethodId} {av : Array Value}
    (happ : (headSpec (jws Ts Y) rc).appliesLoose Y.1 e.platform (T.calling g mk av) = true) (hP : jPt E cl tb Ts vals σ n av (T.calling g mk av)) :
    ∃ (V t : State) (L : List Loc), V.heap = t.heap ∧ Stand p l e R s m args below meth c V (locs ++ L) (cells + rc.cells) (slots + rc.slots) ∧ jQt E cl cls σ n av (T.calling g mk av) (.threw (E.2.2.2 + n)) t ∧ (∀ q ∈ L, jA E q.base) ∧ Steps p.tables e below (doInvoke e (T.setTop g) [] mk av).1 ((V.setTop g).pushFrame (.throwing (E.2.2.2 + n))) := by
  subst hg
  have h : At T g.method c below := X.here
  obtain ⟨mid, hmid⟩ := h.above
  obtain ⟨g0, hg0⟩ := Option.isSome_iff_exists.mp h.top
  obtain ⟨r, hr⟩ := State.topJava?_eq_some.mp hg0
  have hfr : (T.setTop g).frames = (.java g :: mid) ++ below := by rw [State.frames_setTop' g h.top, hmid]; rfl
  obtain ⟨o, t, hst, -, hend, hq0⟩ := Steps.callFree hM p X.admits X.cas X.clock (acts := []) hfr happ hP trivial
  have hq2 : jQt E cl cls σ n av (T.calling g mk av) o t ∧ ∃ L, jEt (T.calling g mk av) t L rc.cells rc.slots ∧ ∀ q ∈ L, jA E q.base := hq0
  obtain ⟨hq, L, ⟨hWt, q1, q2, q3, q4, q5, q6⟩, hL⟩ := hq2
  obtain rfl : o = .threw (E.2.2.2 + n) := hq.1
  rw [State.frames_setTop' g h.top] at hend
  have hft : t.frames = .throwing (E.2.2.2 + n) :: .java g :: T.frames.tail := hend
  have hWT : T.WarmedH t.vm := hWt
  have hVf : (({ T with heap := t.heap, slotsUsed := t.slotsUsed } : State).setVm t.vm).frames = .java g0 :: r := hr
  have hsh : t = ({ (T.calling g mk av).setFrames t.frames with heap := t.heap, slotsUsed := t.slotsUsed } : State).setVm t.vm := by
    have h9 : t = ({ t with vm := (T.calling g mk av).vm } : State).setVm t.vm := rfl
    rw [q1] at h9
    exact h9
  have ht : t = ((({ T with heap := t.heap, slotsUsed := t.slotsUsed } : State).setVm t.vm).setTop g).pushFrame (.throwing (E.2.2.2 + n)) := by
    refine hsh.trans ?_
    rw [hft, State.calling_eq h.top, State.setFrames_setFrames, State.pushFrame, State.frames_setTop _ hVf, State.setTop_of_frames _ hVf, State.setFrames_setFrames, hr]
    rfl
  have hsm : T.sameButNew ({ T with heap := t.heap, slotsUsed := t.slotsUsed } : State) L rc.cells rc.slots := by
    refine ⟨?_, q2, q3, q4, q5, q6⟩
    obtain ⟨z, hz, -⟩ := State.frames_cons hr
    show ({ T with heap := t.heap, slotsUsed := t.slotsUsed } : State) = { T.setFrames T.frames with heap := t.heap, slotsUsed := t.slotsUsed }
    rw [State.setFrames_self hz]
  refine ⟨(({ T with heap := t.heap, slotsUsed := t.slotsUsed } : State).setVm t.vm), t, L, rfl, ⟨X.admits, X.cas, X.clock, X.frames, X.room, X.hears, X.method, X.code, (X.here.setHeapUsed t.heap t.slotsUsed).setVm hWT.alike, X.tail, State.WarmedH.trans X.warmed hWT, X.limits, X.bytes, X.same.trans (hsm.setVm s.vm)⟩, hq, hL, ?_⟩
  rw [← ht]
  exact hst
theorem jfinds {U : State} {g : JFrame} {x : ExceptionTableEntry} {a : Addr} {ce : Cell} {k1 : Class} (hm : U.vm.method? g.method = some meth) (hc : meth.code = some c) (hxt : c.exceptionTable.toList = [x]) (hcov : covers x g.pc = true) (h0 : x.catchType ≠ 0) (hlk : U.vm.ClassLinks e.platform g.method.cls x.catchType ce.cls) (hce : U.heap[a]? = some ce) (hvm : ce.vm = .none) (hk1 : (U.vm.noted g.method.cls x.catchType (.cls ce.cls)).classes[ce.cls]? = some k1) (hfit : (U.vm.noted g.method.cls x.catchType (.cls ce.cls)).assignable ce.cls ce.cls = true)
    (Q : Handler → Pre) (C : CtlPost) (d : Bool) (acts : List Action) : wp (findHandler g a) Q C e d acts U ↔ Q (.found x.handlerPc) d acts (U.setVm (U.vm.noted g.method.cls x.catchType (.cls ce.cls))) := by
  have hv : ∀ k, ce.vm ≠ .statics k := fun k h9 => by rw [hvm] at h9; cases h9
  obtain ⟨hres, hans⟩ := (resolveClass_links e.toSetting hlk).op (op := VmOp.resolveClass g.method.cls x.catchType) rfl
  rw [W.findHandler_eq hm hc, hxt]
  simp only [covers] at hcov
  simp [findHandler.go, hcov, h0, hres, hans, hce, hv, hk1, hfit, VmOp.dirties, VmOp.acts]
/-- the one row of the method's table takes the exception: the walk goes on at its handler, whether or not the row's type had been resolved -/
theorem jcaught (X : Stand p l e R s m args below meth c T locs cells slots) {a : Addr} {g : JFrame} (hg : g.method = m) {own cls : String} (hown : s.vm.findClass own = some m.cls) {x : ExceptionTableEntry} (hxt : c.exceptionTable.toList = [x]) (hcov : covers x g.pc = true) (h0 : x.catchType ≠ 0)
    (hlink : (Jvm.Cond.classLink own x.catchType cls).before args s = true) {ce : Cell} (hcls : s.vm.findClass cls = some ce.cls) (hce : T.heap[a]? = some ce) (hvm : ce.vm = .none) (hself : s.vm.assignable ce.cls ce.cls = true) :
    ∃ vm', Stand p l e R s m args below meth c (T.setVm vm') locs cells slots ∧ ∀ tg, Steps p.tables e below ((T.setVm vm').setTop { g with pc := x.handlerPc, stack := [.ref a] }) tg → Steps p.tables e below ((T.setTop g).pushFrame (.throwing a)) tg := by
  subst hg
  have hpl : e.platform.magicAccessors = ({} : Platform).magicAccessors := by rw [X.admits.platform]
  obtain ⟨cT, hcT, hlk⟩ := Cond.classLink_spec hown hlink e.platform hpl
  cases hcls.symm.trans hcT
  obtain ⟨dk, _, _, kt, hd, _, _, _, _, hkt, _, hfree⟩ := hlk.here
  have hlkT := X.warmed.classLinks hlk
  have hW' : s.WarmedH (T.vm.noted g.method.cls x.catchType (.cls ce.cls)) := X.warmed.noted hd hfree (State.rightAt_cls hlk)
  obtain ⟨k1, hk1, -⟩ := hW'.alike.2.2 _ _ hkt
  have hfit : (T.vm.noted g.method.cls x.catchType (.cls ce.cls)).assignable ce.cls ce.cls = true := by rw [hW'.alike.assignable]; exact hself
  refine ⟨T.vm.noted g.method.cls x.catchType (.cls ce.cls), X.noted hW', fun tg hrest => ?_⟩
  obtain ⟨hgo, hin⟩ := X.here.throwing a
  refine Steps.head hgo hin ?_
  obtain ⟨g0, hg0⟩ := Option.isSome_iff_exists.mp X.here.top
  obtain ⟨r, hr⟩ := State.topJava?_eq_some.mp hg0
  have hstep : (stepThrowing e ((T.setTop g).pushFrame (.throwing a)) a (.java g :: r)).Is ((((T.setTop g).pushFrame (.throwing a)).setVm (T.vm.noted g.method.cls x.catchType (.cls ce.cls))).setFrames (.java { g with pc := x.handlerPc, stack := [.ref a] } :: r)) [] := by
    have hfind : ∀ (Q : Handler → Pre) (C : CtlPost) (d : Bool) (acts : List Action), wp (findHandler g a) Q C e d acts ((T.setTop g).pushFrame (.throwing a)) ↔ Q (.found x.handlerPc) d acts (((T.setTop g).pushFrame (.throwing a)).setVm (T.vm.noted g.method.cls x.catchType (.cls ce.cls))) := jfinds (e := e) (U := (T.setTop g).pushFrame (.throwing a)) (a := a) (meth := meth) (c := c) X.method' X.code hxt hcov h0 hlkT hce hvm hk1 hfit
    simp only [stepThrowing, searchFrame, vmDo]
    generalize hgo9 : Sem.go _ e false [] ((T.setTop g).pushFrame (.throwing a)) = res
    obtain ⟨as, rfl, has⟩ := Sem.eq_ok_of hgo9 (a := Handler.found x.handlerPc) (s' := ((T.setTop g).pushFrame (.throwing a)).setVm (T.vm.noted g.method.cls x.catchType (.cls ce.cls))) (acts' := []) (by simp [hfind _ _ _ _])
    exact ⟨rfl, has⟩
  rw [stepThread_throwing (frames_entered X.here.top _), show T.frames.tail = r by rw [hr]; rfl, hstep.1]
  have hr' : (T.setVm (T.vm.noted g.method.cls x.catchType (.cls ce.cls))).frames = .java g0 :: r := hr
  rw [State.setTop_of_frames _ hr'] at hrest
  have e1 : (((T.setTop g).pushFrame (.throwing a)).setVm (T.vm.noted g.method.cls x.catchType (.cls ce.cls))).setFrames (.java { g with pc := x.handlerPc, stack := [.ref a] } :: r) = (T.setVm (T.vm.noted g.method.cls x.catchType (.cls ce.cls))).setFrames (.java { g with pc := x.handlerPc, stack := [.ref a] } :: r) := by
    rw [State.pushFrame, State.setTop_of_frames _ hr, State.setFrames_setFrames]
    exact State.setFrames_setFrames (T.setVm (T.vm.noted g.method.cls x.catchType (.cls ce.cls))) _ _
  rw [e1]
  exact hrest
end JTR
section JTC
variable {E : jE} {own : String} {Ts : List Jvm.Cond} {cl : List vw_C} {tb : jTb} {nL : Nat} {ini : Bool} {cc : ByteArray} {M : jM} {Q : State → Prop} {n cells slots : Nat}
/-- a method of an object of ours is called that throws; the exception is caught here -/
theorem jk_VT (X : jX E own Ts cl tb nL ini cc M) {rm rc : Room} (hR : M.2.2.2.1 = rm) (hTh : jTh E M.2.2.2.2.1) {pc i k ci a : Nat} {Y : jY} (hd : decode cc pc = .ok (.invokevirtual i, 3)) (hw : Jvm.Cond.methodLink own i Y.1 ∈ jTA Ts) (hm : jmth Ts Y k) (hin : Jvm.Cond.instanceMethod Y.1 ∈ jTA Ts) (hse : Jvm.Cond.selects Y.1.cls Y.1 Y.1 ∈ jTA Ts) {q : vw_C} (hq : cl[ci]? = some q) (hqc : q.1 = Y.1.cls) {lv : List (Option jv)} {r vals : List jv} {σ : Nat → jcell} {fs : List jv} (ha : a < n) (he : σ a = .inr (ci, fs)) {cls : String} (hM : jMetT M.2.1 E cl tb Ts Y rc (.inr (.inr (some (.inl a))) :: vals) σ n cls) {st : List jv} (hs : st = vals.reverse ++ .inr (.inr (some (.inl a))) :: r) (hk : vals.length = k)
    (hf : rc.frames + 1 ≤ rm.frames ∧ 8 + (Y.2.2.1 + 11) + rc.locals ≤ rm.locals) (hc : cells + rc.cells ≤ rm.cells ∧ slots + rc.slots ≤ rm.slots) (hz : (r.map jcat).sum ≤ 8)
    (x : ExceptionTableEntry) (hxt : M.2.2.2.2.2.2.2.2.2.exceptionTable.toList = [x]) (hcov : covers x pc = true) (h0 : x.catchType ≠ 0) (hl : Jvm.Cond.classLink own x.catchType cls ∈ jTA Ts) (hca : Jvm.Cond.castable cls cls ∈ jTx)
    (kk : jJ E cl nL M Q (n + 1) (cells + rc.cells) (slots + rc.slots) x.handlerPc lv [.inr (.inr (some (.inl n)))] (jup σ n jun)) : jJ E cl nL M Q n cells slots pc lv st σ := by
  subst hs
  obtain ⟨p, l, e, R, s, m, args, below, meth, c⟩ := M
  dsimp only at hR hTh hxt hM
  subst hR
  obtain ⟨hx, hb, hml, ho, hts, hK, -, -⟩ := X
  dsimp only at hx hb hml ho hts hK
  obtain ⟨h1, h2, h3, h4, h5⟩ := hm
  intro H locs ls hW hS hL
  dsimp only at hS ⊢
  have hP1 := jW_one hW ha (by rw [he]; trivial)
  rw [he] at hP1
  obtain ⟨cellB, hcB, hoB, hclB⟩ := va_recv hK.1 hP1 hq (q0 := 0) rfl
  rw [hqc] at hclB
  have hstk : ((vals.reverse ++ .inr (.inr (some (.inl a))) :: r).map (jc E)) = (vals.map (jc E)).reverse ++ .ref (E.2.2.2 + a) :: r.map (jc E) := by rw [List.map_append, List.map_reverse]; rfl
  intro T hT Xs
  obtain ⟨mk, methM, hnamed, hmethM, hstM, habM⟩ := Cond.instanceMethod_spec (hts _ hin)
  obtain ⟨methM', cM, hmethM', -, -, -, -, -, -, hsigM⟩ := Cond.code_spec hnamed (hts _ h1)
  cases hmethM.symm.trans hmethM'
  obtain ⟨c2, r2, m2, q1, q2, q3, q4, kP, hkP, hkPi⟩ := Cond.selects_spec (hts _ hse)
  cases hclB.symm.trans q1
  cases (State.methodFound?_of_named hnamed ⟨h3, h4⟩).symm.trans q2
  cases hnamed.symm.trans q3
  have hselP : selectMethod e.platform s.vm cellB.cls mk = .method mk := by rw [Launch.admits_selectMethod Xs.admits]; exact q4
  have hln : (vals.map (jc E)).length = methM.sig.parameters.length := by
    rw [hsigM] at h5
    rw [List.length_map, hk]
    exact (Option.some.inj h5).symm
  obtain ⟨vm₁, X₁, hstep₁⟩ := Xs.invokevirtual hx ho (hts _ hw) hnamed hmethM hstM hkP hkPi ⟨h3, h4⟩ (a := E.2.2.2 + a) (cell := cellB) (by rw [hT]; exact hcB)
    (fun z h => by rw [h] at hoB; cases hoB) hselP hmethM habM hkP hkPi (g := F0 m pc ls ((vals.reverse ++ .inr (.inr (some (.inl a))) :: r).map (jc E))) rfl (argsL := vals.map (jc E)) (rest := r.map (jc E)) hln hstk (by rw [hb]; exact hd)
  obtain ⟨kY, hkY, -⟩ := className_of_methodNamed (X₁.named hnamed)
  have hiY : kY.init = .initialized := Cond.initialized_spec (findClass_of_methodNamed (X₁.named hnamed)) hkY (word_at (a' := #[]) X₁.warmed (Or.inl (by first | rfl | simp [Jvm.Cond.onTables, Jvm.Cond.keeps, Jvm.Cond.steady])) (hts _ h2))
  obtain ⟨mY, cY, hmY, hcY, -, hlY, -, -, -, -⟩ := Cond.code_spec (X₁.named hnamed) (pay_in hts (jws_in h1) _ List.mem_cons_self #[] (T.setVm vm₁) X₁.warmed)
  have hpre : jPt E cl tb Ts (.inr (.inr (some (.inl a))) :: vals) σ n (Value.ref (E.2.2.2 + a) :: vals.map (jc E)).toArray (T.setVm vm₁) := ⟨⟨rfl, by show jW E cl σ n T.heap; rw [hT]; exact hW, jK_go hK hS (U := T.setVm vm₁) hT X₁.warmed⟩, jTh_go hTh hS (U := T.setVm vm₁) hT X₁.warmed⟩
  have happ : (headSpec (jws Ts Y) rc).appliesLoose Y.1 e.platform ((T.setVm vm₁).calling { F0 m pc ls ((vals.reverse ++ .inr (.inr (some (.inl a))) :: r).map (jc E)) with stack := r.map (jc E) } mk (Value.ref (E.2.2.2 + a) :: vals.map (jc E)).toArray) = true :=
    Spec.appliesLoose_calling (g := { F0 m pc ls ((vals.reverse ++ .inr (.inr (some (.inl a))) :: r).map (jc E)) with stack := r.map (jc E) }) X₁.here (by rw [hb]; exact hd) (X₁.named hnamed) hkY hiY
      (X₁.room_calling (g := { F0 m pc ls ((vals.reverse ++ .inr (.inr (some (.inl a))) :: r).map (jc E)) with stack := r.map (jc E) }) (R' := (headSpec (jws Ts Y) rc).room) (hL.1.trans hml.symm) hmY hcY hf.1 (by
        have h8 : 2 * (F0 m pc ls (r.map (jc E))).monitorRoom + ((r.map (jc E)).map fun v => v.category).sum ≤ 8 := lv_room (by rw [jcat_sum]; exact hz)
        have h9 := hf.2
        rw [hlY]
        show 2 * (F0 m pc ls (r.map (jc E))).monitorRoom + ((r.map (jc E)).map fun v => v.category).sum + (Y.2.2.1 + 11) + rc.locals ≤ R.locals
        omega) hc.1 hc.2)
      (atoms_intro fun w hw9 => pay_in hts (jws_in h1) w hw9 _ _ X₁.warmed)
  obtain ⟨U', t, L, e1, X', hq9, hL9, hsteps⟩ := jthrown hM X₁ (g := { F0 m pc ls ((vals.reverse ++ .inr (.inr (some (.inl a))) :: r).map (jc E)) with stack := r.map (jc E) }) rfl happ (jPt_blind _ _ _ _ hpre)
  obtain ⟨-, hW', ⟨ce, hce, hcv, hcc⟩, hF1, hF2⟩ := hq9
  obtain ⟨c3, cT, hc3, hcT, hasg⟩ := Cond.castable_spec (jTh_word (args := args) hTh _ hca)
  cases hc3.symm.trans hcT
  have hcc' : s.vm.findClass cls = some ce.cls := by
    have h9 : (T.setVm vm₁).vm.findClass cls = some ce.cls := hcc
    rw [X₁.warmed.alike.findClass] at h9
    exact h9
  cases hc3.symm.trans hcc'
  obtain ⟨vm', XV, stV⟩ := jcaught X' (a := E.2.2.2 + n) (g := { F0 m pc ls ((vals.reverse ++ .inr (.inr (some (.inl a))) :: r).map (jc E)) with stack := r.map (jc E) }) rfl ho hxt hcov h0 (hts _ hl) hcc' (by rw [e1]; exact hce) hcv hasg
  have hz1 : T.heap.size ≤ t.heap.size := hF1
  have hz2 : ∀ q : Nat, q < T.heap.size → ¬ jA E q → t.heap[q]? = T.heap[q]? := hF2
  obtain ⟨t9, a1, b1⟩ := kk U'.heap (locs ++ L) ls (by rw [e1]; exact hW') ⟨by
      have h7 := hS.1
      rw [e1]
      rw [← hT] at h7
      exact Nat.le_trans h7 hz1, fun q g1 g2 => by
      have h7 := hS.1
      rw [e1, hz2 q (by rw [hT]; exact Nat.lt_of_lt_of_le g1 h7) g2, hT]
      exact hS.2.1 q g1 g2, fun q hq8 => by
      rcases List.mem_append.mp hq8 with h | h
      · exact hS.2.2 q h
      · exact hL9 q h⟩ hL (U'.setVm vm') rfl XV
  refine ⟨t9, hstep₁ _ fun acts => ?_, b1⟩
  rw [doInvoke_state]
  exact hsteps.trans (stV t9 a1)
/-- a static method with an exception table is called -/
theorem jk_SW (X : jX E own Ts cl tb nL ini cc M) {rm rc : Room} (hR : M.2.2.2.1 = rm) (hTh : jTh E M.2.2.2.2.1) {pc i k : Nat} {Y : jY} {hh : List (Nat × Nat × Nat × Nat)} (hd : decode cc pc = .ok (.invokestatic i, 3)) (hw : Jvm.Cond.methodLink own i Y.1 ∈ jTA Ts) (hco : Jvm.Cond.codeWith Y.1 Y.2.1 Y.2.2.1 Y.2.2.2 hh ∈ jTA Ts) (hini : Jvm.Cond.initialized Y.1.cls ∈ jTA Ts) (hne : Y.1.cls ≠ "java/lang/invoke/MethodHandle" ∧ Y.1.cls ≠ "java/lang/invoke/VarHandle") (hpa : (parseMethodDescriptor Y.1.desc).map (fun d => d.parameters.length) = some k) (hst : Jvm.Cond.static Y.1 ∈ jTA Ts) {lv : List (Option jv)} {r vals : List jv} {σ : Nat → jcell} {post : jPo} (hM : jMetW M.2.1 E cl tb Ts Y hh rc vals σ n post) {st : List jv} (hs : st = vals.reverse ++ r) (hk : vals.length = k)
    (hf : rc.frames + 1 ≤ rm.frames ∧ 8 + (Y.2.2.1 + 11) + rc.locals ≤ rm.locals) (hc : cells + rc.cells ≤ rm.cells ∧ slots + rc.slots ≤ rm.slots) (hz : (r.map jcat).sum ≤ 8)
    (kk : ∀ (v : Option jv) (σ' : Nat → jcell) (n' : Nat), post v σ' n' → jJ E cl nL M Q n' (cells + rc.cells) (slots + rc.slots) (pc + 3) lv (v.toList ++ r) σ') : jJ E cl nL M Q n cells slots pc lv st σ := by
  subst hs
  obtain ⟨p, l, e, R, s, m, args, below, meth, c⟩ := M
  dsimp only at hR hTh hM
  subst hR
  obtain ⟨hx, hb, hml, ho, hts, hK, -, -⟩ := X
  dsimp only at hx hb hml ho hts hK
  intro H locs ls hW hS hL
  dsimp only at hS ⊢
  have hgood : GoodIn (jTA Ts) (jwsW Ts Y hh) := by
    intro w hw9
    rcases List.mem_cons.mp hw9 with rfl | hw9
    · exact ⟨hco, jgood_or (List.mem_filter.mp hco).2⟩
    · exact ⟨hw9, jgood_or (List.mem_filter.mp hw9).2⟩
  have hstk : ((vals.reverse ++ r).map (jc E)) = (vals.map (jc E)).reverse ++ r.map (jc E) := by rw [List.map_append, List.map_reverse]
  have hgo : ∀ (v : Option jv) (σ' : Nat → jcell) (n' : Nat), post v σ' n' → ∀ (H1 : Heap) (locs1 : List Loc), jW E cl σ' n' H1 → va_S (jA E) s.heap H1 locs1 → W p l e R s m args below meth c H1 locs1 (cells + rc.cells) (slots + rc.slots) Q (F0 m (pc + 3) ls ((v.map (jc E)).toList ++ r.map (jc E))) := by
    intro v σ' n' hp H1 locs1 hW1 hS1
    have h := kk v σ' n' hp H1 locs1 ls hW1 hS1 hL
    have e1 : (v.toList ++ r).map (jc E) = (v.map (jc E)).toList ++ r.map (jc E) := by cases v <;> simp
    rw [e1] at h
    exact h
  have hBk : Back l R p e below s args Y.1 3 8 (PreOf R rc.cells rc.slots (jPt E cl tb Ts vals σ n)) (PostOf (jQc E cl post) rc.cells rc.slots (jA E)) := va_backW (hh := hh) (bytes := Y.2.1) (maxL := Y.2.2.1) (ret := Y.2.2.2) hM jPt_blind rfl rfl hf.1 hf.2 (pay_in hts hgood) List.mem_cons_self (fun a' U hW9 => word_at hW9 (Or.inl (by first | rfl | simp [Jvm.Cond.onTables, Jvm.Cond.keeps, Jvm.Cond.steady])) (hts _ hini))
  obtain ⟨mk, methM, cM, hnamed, hmethM, -, -, -, -, -, -, hsigM⟩ := Cond.codeWith_spec (hts _ hco)
  have hstatic : methM.isStatic = true := Cond.static_spec hnamed hmethM (hts _ hst)
  obtain ⟨kP, hkP, -⟩ := className_of_methodNamed hnamed
  have hinitP : kP.init = .initialized := Cond.initialized_spec (findClass_of_methodNamed hnamed) hkP (hts _ hini)
  have hln : (vals.map (jc E)).length = methM.sig.parameters.length := by
    rw [hsigM] at hpa
    rw [List.length_map, hk]
    exact (Option.some.inj hpa).symm
  have hrun : va_Run p l e R s m args below meth c H locs cells slots rc.cells rc.slots (F0 m pc ls ((vals.reverse ++ r).map (jc E))) (r.map (jc E)) (jQc E cl post (vals.map (jc E)).toArray) (jA E) := by
    intro T hT Xs
    obtain ⟨vm₁, X₁, hstep₁⟩ := Xs.invokestatic hx ho (hts _ hw) hnamed hmethM hstatic hkP hinitP hne (g := F0 m pc ls ((vals.reverse ++ r).map (jc E))) rfl (argsL := vals.map (jc E)) (rest := r.map (jc E)) hln hstk (by rw [hb]; exact hd)
    obtain ⟨v, ⟨U', l2, c2, s2⟩, X', ⟨g', mk', t, L, e1, e2, hq, h1, hL9, h2, h3⟩, hsteps⟩ := hBk m meth c ⟨T.setVm vm₁, locs, cells, slots⟩ { F0 m pc ls ((vals.reverse ++ r).map (jc E)) with stack := r.map (jc E) } (.invokestatic i) mk (vals.map (jc E)).toArray X₁ rfl (hL.1.trans hml.symm) (by rw [hb]; exact hd)
      (lv_room (by rw [jcat_sum]; exact hz)) (X₁.named hnamed) ⟨hc.1, hc.2, ⟨rfl, by show jW E cl σ n T.heap; rw [hT]; exact hW, jK_go hK hS (U := T.setVm vm₁) hT X₁.warmed⟩, jTh_go hTh hS (U := T.setVm vm₁) hT X₁.warmed⟩
    dsimp only [Pt.U, Pt.locs, Pt.cells, Pt.slots] at X' e1 e2 h1 h2 h3 hsteps
    subst h1; subst h2; subst h3
    exact ⟨v, (T.setVm vm₁).calling g' mk' (vals.map (jc E)).toArray, t, U', L, hT, X', hL9, e1, e2, hq, fun target h => hstep₁ _ fun acts => by rw [doInvoke_state]; exact hsteps.trans h⟩
  exact jk_after hrun hS hgo
theorem jk_SWg (X : jX E own Ts cl tb nL ini cc M) {rm rc : Room} (hR : M.2.2.2.1 = rm) (hTh : jTh E M.2.2.2.2.1) {pc i k : Nat} {Y : jY} {hh : List (Nat × Nat × Nat × Nat)} (hd : decode cc pc = .ok (.invokestatic i, 3)) (hw : Jvm.Cond.methodLink own i Y.1 ∈ jTA Ts) (hco : Jvm.Cond.codeWith Y.1 Y.2.1 Y.2.2.1 Y.2.2.2 hh ∈ jTA Ts) (hini : Jvm.Cond.initialized Y.1.cls ∈ jTA Ts) (hne : Y.1.cls ≠ "java/lang/invoke/MethodHandle" ∧ Y.1.cls ≠ "java/lang/invoke/VarHandle") (hpa : (parseMethodDescriptor Y.1.desc).map (fun d => d.parameters.length) = some k) (hst : Jvm.Cond.static Y.1 ∈ jTA Ts) {lv : List (Option jv)} {r vals : List jv} {σ : Nat → jcell} {post : jPo} (hM : jMetW M.2.1 E cl tb Ts Y hh rc vals σ n post) {st : List jv} (hs : st = vals.reverse ++ r) (hk : vals.length = k)
    (hf : rc.frames + 1 ≤ rm.frames ∧ 8 + (Y.2.2.1 + 11) + rc.locals ≤ rm.locals) {c' s' : Nat} (hc' : cells + rc.cells = c') (hs' : slots + rc.slots = s') (hc : c' ≤ rm.cells ∧ s' ≤ rm.slots) (hz : (r.map jcat).sum ≤ 8) {pc' : Nat} (hp : pc + 3 = pc')
    (kk : ∀ (v : Option jv) (σ' : Nat → jcell) (n' : Nat), post v σ' n' → jJ E cl nL M Q n' c' s' pc' lv (v.toList ++ r) σ') : jJ E cl nL M Q n cells slots pc lv st σ := by
  subst hc'; subst hs'; subst hp
  exact jk_SW X hR hTh hd hw hco hini hne hpa hst hM hs hk hf hc hz kk
/-- the script is read -/
theorem jk_sld (X : jX E own Ts cl tb nL ini cc M) {pc : Nat} (hd : decode cc pc = .ok (.iaload, 1)) {j L : Nat} {xs : Nat → Int32} (hX : va_X (E.2.2.1 j) L xs M.2.2.2.2.1 M.2.2.2.2.1.heap) (hbl : E.2.2.1 j < E.2.2.2) {i : Int32} (hi : vp_in i L) {lv : List (Option jv)} {r : List jv} {σ : Nat → jcell} (k : jJ E cl nL M Q n cells slots (pc + 1) lv (.inl (xs i.toNatClampNeg) :: r) σ) : jJ E cl nL M Q n cells slots pc lv (.inl i :: .inr (.inr (some (.inr j))) :: r) σ := by
  obtain ⟨p, l, e, R, s, m, args, below, meth, c⟩ := M
  obtain ⟨hx, hb, -⟩ := X
  dsimp only at hx hb hX
  intro H locs ls hW hS hL
  dsimp only at hS ⊢
  have hlt : E.2.2.1 j < s.heap.size := by
    obtain ⟨scr, h1, -⟩ := hX
    exact (Array.getElem?_eq_some_iff.mp h1).1
  obtain ⟨scr, h1, h2, h3, h4, h5⟩ := hX.kept (hS.2.1 _ hlt (fun h9 => absurd h9 (Nat.not_le.mpr hbl)))
  have h8 : ¬ (i < 0 ∨ L ≤ i.toNatClampNeg) := hi
  exact W.iald (g := F0 m pc ls ((.inl i :: .inr (.inr (some (.inr j))) :: r : List jv).map (jc E))) hx hb h1 h2 h3 (by rw [h4]; exact h8) (h5 _ (by omega)) rfl rfl hd (k H locs ls hW hS hL)
theorem jk_slen (X : jX E own Ts cl tb nL ini cc M) {pc : Nat} (hd : decode cc pc = .ok (.arraylength, 1)) {j L : Nat} {xs : Nat → Int32} (hX : va_X (E.2.2.1 j) L xs M.2.2.2.2.1 M.2.2.2.2.1.heap) (hbl : E.2.2.1 j < E.2.2.2) {lv : List (Option jv)} {r : List jv} {σ : Nat → jcell} (k : jJ E cl nL M Q n cells slots (pc + 1) lv (.inl (Int32.ofNat L) :: r) σ) : jJ E cl nL M Q n cells slots pc lv (.inr (.inr (some (.inr j))) :: r) σ := by
  obtain ⟨p, l, e, R, s, m, args, below, meth, c⟩ := M
  obtain ⟨hx, hb, -⟩ := X
  dsimp only at hx hb hX
  intro H locs ls hW hS hL
  dsimp only at hS ⊢
  have hlt : E.2.2.1 j < s.heap.size := by
    obtain ⟨scr, h1, -⟩ := hX
    exact (Array.getElem?_eq_some_iff.mp h1).1
  obtain ⟨scr, h1, h2, h3, h4, h5⟩ := hX.kept (hS.2.1 _ hlt (fun h9 => absurd h9 (Nat.not_le.mpr hbl)))
  exact W.alen (g := F0 m pc ls ((.inr (.inr (some (.inr j))) :: r : List jv).map (jc E))) (n := Int32.ofNat L) hx hb h1 h2 (by rw [h4]) rfl rfl hd (k H locs ls hW hS hL)
end JTC
end
section
/-! the words of a throw, the roads that throw, and the law's own helpers -/
theorem jTw_of {Ts : List Jvm.Cond} {own cls : String} {ic : Nat} {names : List String} (is : List Nat) (h : is.map (fun i => Ts[i]?) = ((Bundle.ownAtoms0 own ic cls names).filter (fun a => !decide (a ∈ jTx))).map some) (hg : ((Bundle.ownAtoms0 own ic cls names).filter (fun a => !decide (a ∈ jTx))).all jgood = true) : jTw Ts own ic cls names := by
  intro a ha
  by_cases hn : a ∈ jTx
  · exact Or.inr hn
  · left
    have h0 : a ∈ (Bundle.ownAtoms0 own ic cls names).filter (fun a => !decide (a ∈ jTx)) := List.mem_filter.mpr ⟨ha, by simp [hn]⟩
    have h1 : some a ∈ is.map (fun i => Ts[i]?) := by rw [h]; exact List.mem_map.mpr ⟨a, h0, rfl⟩
    obtain ⟨i, -, hi⟩ := List.mem_map.mp h1
    exact List.mem_filter.mpr ⟨List.mem_of_getElem? hi, List.all_eq_true.mp hg a h0⟩
theorem jtab1 {l : List ExceptionTableEntry} {a b c d : Nat} (h : l.map (fun h => (h.startPc, h.endPc, h.handlerPc, h.catchType)) = [(a, b, c, d)]) : l = [⟨a, b, c, d⟩] := by
  match l, h with
  | [x], h =>
    obtain ⟨x1, x2, x3, x4⟩ := x
    simp only [List.map_cons, List.map_nil, List.cons.injEq, Prod.mk.injEq, and_true] at h
    obtain ⟨rfl, rfl, rfl, rfl⟩ := h
    rfl
theorem tw_iae : jTw lw_tbl "ChessHouse" 101 "java/lang/IllegalArgumentException" ["java/lang/RuntimeException", "java/lang/Exception"] := jTw_of [317, 893, 902, 906, 909, 911, 894, 895, 340, 341, 896, 901, 907, 923, 883, 924, 885, 925, 887, 897, 899, 889, 956, 957, 958, 916, 916, 917, 918, 919, 919, 920, 921, 894, 955, 947, 949, 904, 950, 951, 952, 953, 892, 891, 954] (by decide +kernel) (by decide +kernel)
theorem tw_iob : jTw lw_tbl "ChessHouse" 128 "java/lang/IndexOutOfBoundsException" ["java/lang/RuntimeException", "java/lang/Exception"] := jTw_of [317, 893, 902, 906, 909, 911, 894, 895, 340, 341, 896, 901, 907, 923, 883, 924, 885, 925, 887, 897, 899, 889, 1896, 1897, 1898, 916, 916, 917, 918, 919, 919, 920, 921, 894, 1895, 1887, 1889, 905, 1890, 1891, 1892, 1893, 892, 891, 1894] (by decide +kernel) (by decide +kernel)
noncomputable def y_LA_feed : jY := (⟨"ChessHouseLaw", "feed", "(LChessHouse;IIIII)I"⟩, method_3_code, 7, (some .int))
theorem w_LA_feed : Jvm.Cond.codeWith y_LA_feed.1 y_LA_feed.2.1 y_LA_feed.2.2.1 y_LA_feed.2.2.2 [(0, 11, 14, 13)] ∈ jTA lw_tbl := jTA_in (wi := 865) (by decide +kernel) rfl
theorem n_LA_feed : Jvm.Cond.initialized y_LA_feed.1.cls ∈ jTA lw_tbl := jTA_in (wi := 301) (by decide +kernel) rfl
theorem s_LA_feed : Jvm.Cond.static y_LA_feed.1 ∈ jTA lw_tbl := jTA_in (wi := 864) (by decide +kernel) rfl
noncomputable def kk_LA_feed_0 : List jI := [(.aload_n 0, 1, (0, 0, 0, 0, 0)), (.iload_n 1, 1, (1, 0, 0, 0, 0)), (.iload_n 2, 1, (2, 0, 0, 0, 0)), (.iload_n 3, 1, (3, 0, 0, 0, 0)), (.iload 4, 2, (4, 0, 0, 0, 0)), (.iload 5, 2, (5, 0, 0, 0, 0)), (.invokevirtual 7, 3, (0, 0, 0, 0, 0)), (.goto 7, 3, (18, 0, 0, 0, 0)), (.astore 6, 2, (6, 0, 0, 0, 0)), (.iconst 1, 1, (0, 0, 0, 1, 0)), (.ireturn, 1, (0, 0, 0, 0, 0)), (.iconst 0, 1, (0, 0, 0, 0, 0)), (.ireturn, 1, (0, 0, 0, 0, 0))]
theorem oo_LA_feed_0 : jokL "ChessHouseLaw" lw_tbl jcl jtb 7 false method_3_code 0 kk_LA_feed_0 = true := by decide +kernel
noncomputable def k_LA_feed_0 : List jI := [(.aload_n 0, 1, (0, 0, 0, 0, 0)), (.iload_n 1, 1, (1, 0, 0, 0, 0)), (.iload_n 2, 1, (2, 0, 0, 0, 0)), (.iload_n 3, 1, (3, 0, 0, 0, 0)), (.iload 4, 2, (4, 0, 0, 0, 0)), (.iload 5, 2, (5, 0, 0, 0, 0))]
theorem o_LA_feed_0 : jokL "ChessHouseLaw" lw_tbl jcl jtb 7 false method_3_code 0 k_LA_feed_0 = true := jok_sub oo_LA_feed_0 0 6 rfl rfl
noncomputable def k_LA_feed_11 : List jI := [(.goto 7, 3, (18, 0, 0, 0, 0))]
theorem o_LA_feed_11 : jokL "ChessHouseLaw" lw_tbl jcl jtb 7 false method_3_code 11 k_LA_feed_11 = true := jok_sub oo_LA_feed_0 7 1 rfl rfl
noncomputable def k_LA_feed_14 : List jI := [(.astore 6, 2, (6, 0, 0, 0, 0)), (.iconst 1, 1, (0, 0, 0, 1, 0))]
theorem o_LA_feed_14 : jokL "ChessHouseLaw" lw_tbl jcl jtb 7 false method_3_code 14 k_LA_feed_14 = true := jok_sub oo_LA_feed_0 8 2 rfl rfl
noncomputable def k_LA_feed_18 : List jI := [(.iconst 0, 1, (0, 0, 0, 0, 0))]
theorem o_LA_feed_18 : jokL "ChessHouseLaw" lw_tbl jcl jtb 7 false method_3_code 18 k_LA_feed_18 = true := jok_sub oo_LA_feed_0 11 1 rfl rfl
theorem d_LA_feed_8 : decode method_3_code 8 = .ok (.invokevirtual 7, 3) := by decide +kernel
theorem q_LA_feed_8 : jlm lw_tbl 867 "ChessHouseLaw" 7 ⟨"ChessHouse", "feed", "(IIIII)V"⟩ = true := by decide +kernel
theorem d_LA_feed_17 : decode method_3_code 17 = .ok (.ireturn, 1) := by decide +kernel
theorem d_LA_feed_19 : decode method_3_code 19 = .ok (.ireturn, 1) := by decide +kernel
noncomputable def y_LA_end : jY := (⟨"ChessHouseLaw", "end", "(LChessHouse;I[J)I"⟩, method_4_code, 4, (some .int))
theorem w_LA_end : Jvm.Cond.codeWith y_LA_end.1 y_LA_end.2.1 y_LA_end.2.2.1 y_LA_end.2.2.2 [(0, 9, 12, 19)] ∈ jTA lw_tbl := jTA_in (wi := 940) (by decide +kernel) rfl
theorem n_LA_end : Jvm.Cond.initialized y_LA_end.1.cls ∈ jTA lw_tbl := jTA_in (wi := 301) (by decide +kernel) rfl
theorem s_LA_end : Jvm.Cond.static y_LA_end.1 ∈ jTA lw_tbl := jTA_in (wi := 939) (by decide +kernel) rfl
noncomputable def kk_LA_end_0 : List jI := [(.aload_n 2, 1, (2, 0, 0, 0, 0)), (.iconst 0, 1, (0, 0, 0, 0, 0)), (.aload_n 0, 1, (0, 0, 0, 0, 0)), (.iload_n 1, 1, (1, 0, 0, 0, 0)), (.invokevirtual 15, 3, (0, 0, 0, 0, 0)), (.i2l, 1, (0, 0, 0, 0, 0)), (.lastore, 1, (0, 0, 0, 0, 0)), (.goto 6, 3, (15, 0, 0, 0, 0)), (.astore_n 3, 1, (3, 0, 0, 0, 0)), (.iconst 1, 1, (0, 0, 0, 1, 0)), (.ireturn, 1, (0, 0, 0, 0, 0)), (.iconst 0, 1, (0, 0, 0, 0, 0)), (.ireturn, 1, (0, 0, 0, 0, 0))]
theorem oo_LA_end_0 : jokL "ChessHouseLaw" lw_tbl jcl jtb 4 false method_4_code 0 kk_LA_end_0 = true := by decide +kernel
noncomputable def k_LA_end_0 : List jI := [(.aload_n 2, 1, (2, 0, 0, 0, 0)), (.iconst 0, 1, (0, 0, 0, 0, 0)), (.aload_n 0, 1, (0, 0, 0, 0, 0)), (.iload_n 1, 1, (1, 0, 0, 0, 0))]
theorem o_LA_end_0 : jokL "ChessHouseLaw" lw_tbl jcl jtb 4 false method_4_code 0 k_LA_end_0 = true := jok_sub oo_LA_end_0 0 4 rfl rfl
noncomputable def k_LA_end_7 : List jI := [(.i2l, 1, (0, 0, 0, 0, 0)), (.lastore, 1, (0, 0, 0, 0, 0)), (.goto 6, 3, (15, 0, 0, 0, 0))]
theorem o_LA_end_7 : jokL "ChessHouseLaw" lw_tbl jcl jtb 4 false method_4_code 7 k_LA_end_7 = true := jok_sub oo_LA_end_0 5 3 rfl rfl
noncomputable def k_LA_end_12 : List jI := [(.astore_n 3, 1, (3, 0, 0, 0, 0)), (.iconst 1, 1, (0, 0, 0, 1, 0))]
theorem o_LA_end_12 : jokL "ChessHouseLaw" lw_tbl jcl jtb 4 false method_4_code 12 k_LA_end_12 = true := jok_sub oo_LA_end_0 8 2 rfl rfl
noncomputable def k_LA_end_15 : List jI := [(.iconst 0, 1, (0, 0, 0, 0, 0))]
theorem o_LA_end_15 : jokL "ChessHouseLaw" lw_tbl jcl jtb 4 false method_4_code 15 k_LA_end_15 = true := jok_sub oo_LA_end_0 11 1 rfl rfl
theorem d_LA_end_4 : decode method_4_code 4 = .ok (.invokevirtual 15, 3) := by decide +kernel
theorem q_LA_end_4 : jlm lw_tbl 942 "ChessHouseLaw" 15 ⟨"ChessHouse", "end", "(I)I"⟩ = true := by decide +kernel
theorem d_LA_end_14 : decode method_4_code 14 = .ok (.ireturn, 1) := by decide +kernel
theorem d_LA_end_16 : decode method_4_code 16 = .ok (.ireturn, 1) := by decide +kernel
noncomputable def y_LA_out : jY := (⟨"ChessHouseLaw", "out", "(LChessHouse;I[J)I"⟩, method_5_code, 4, (some .int))
theorem w_LA_out : Jvm.Cond.codeWith y_LA_out.1 y_LA_out.2.1 y_LA_out.2.2.1 y_LA_out.2.2.2 [(0, 9, 12, 24)] ∈ jTA lw_tbl := jTA_in (wi := 1880) (by decide +kernel) rfl
theorem n_LA_out : Jvm.Cond.initialized y_LA_out.1.cls ∈ jTA lw_tbl := jTA_in (wi := 301) (by decide +kernel) rfl
theorem s_LA_out : Jvm.Cond.static y_LA_out.1 ∈ jTA lw_tbl := jTA_in (wi := 1879) (by decide +kernel) rfl
noncomputable def kk_LA_out_0 : List jI := [(.aload_n 2, 1, (2, 0, 0, 0, 0)), (.iconst 0, 1, (0, 0, 0, 0, 0)), (.aload_n 0, 1, (0, 0, 0, 0, 0)), (.iload_n 1, 1, (1, 0, 0, 0, 0)), (.invokevirtual 21, 3, (0, 0, 0, 0, 0)), (.i2l, 1, (0, 0, 0, 0, 0)), (.lastore, 1, (0, 0, 0, 0, 0)), (.goto 6, 3, (15, 0, 0, 0, 0)), (.astore_n 3, 1, (3, 0, 0, 0, 0)), (.iconst 1, 1, (0, 0, 0, 1, 0)), (.ireturn, 1, (0, 0, 0, 0, 0)), (.iconst 0, 1, (0, 0, 0, 0, 0)), (.ireturn, 1, (0, 0, 0, 0, 0))]
theorem oo_LA_out_0 : jokL "ChessHouseLaw" lw_tbl jcl jtb 4 false method_5_code 0 kk_LA_out_0 = true := by decide +kernel
noncomputable def k_LA_out_0 : List jI := [(.aload_n 2, 1, (2, 0, 0, 0, 0)), (.iconst 0, 1, (0, 0, 0, 0, 0)), (.aload_n 0, 1, (0, 0, 0, 0, 0)), (.iload_n 1, 1, (1, 0, 0, 0, 0))]
theorem o_LA_out_0 : jokL "ChessHouseLaw" lw_tbl jcl jtb 4 false method_5_code 0 k_LA_out_0 = true := jok_sub oo_LA_out_0 0 4 rfl rfl
noncomputable def k_LA_out_7 : List jI := [(.i2l, 1, (0, 0, 0, 0, 0)), (.lastore, 1, (0, 0, 0, 0, 0)), (.goto 6, 3, (15, 0, 0, 0, 0))]
theorem o_LA_out_7 : jokL "ChessHouseLaw" lw_tbl jcl jtb 4 false method_5_code 7 k_LA_out_7 = true := jok_sub oo_LA_out_0 5 3 rfl rfl
noncomputable def k_LA_out_12 : List jI := [(.astore_n 3, 1, (3, 0, 0, 0, 0)), (.iconst 1, 1, (0, 0, 0, 1, 0))]
theorem o_LA_out_12 : jokL "ChessHouseLaw" lw_tbl jcl jtb 4 false method_5_code 12 k_LA_out_12 = true := jok_sub oo_LA_out_0 8 2 rfl rfl
noncomputable def k_LA_out_15 : List jI := [(.iconst 0, 1, (0, 0, 0, 0, 0))]
theorem o_LA_out_15 : jokL "ChessHouseLaw" lw_tbl jcl jtb 4 false method_5_code 15 k_LA_out_15 = true := jok_sub oo_LA_out_0 11 1 rfl rfl
theorem d_LA_out_4 : decode method_5_code 4 = .ok (.invokevirtual 21, 3) := by decide +kernel
theorem q_LA_out_4 : jlm lw_tbl 1882 "ChessHouseLaw" 21 ⟨"ChessHouse", "out", "(I)I"⟩ = true := by decide +kernel
theorem d_LA_out_14 : decode method_5_code 14 = .ok (.ireturn, 1) := by decide +kernel
theorem d_LA_out_16 : decode method_5_code 16 = .ok (.ireturn, 1) := by decide +kernel
end
section
/-! moves on the board, to the last man -/
noncomputable def y_BO_lift : jY := (⟨"ChessHouse$Board", "lift", "(I)V"⟩, prog_3_method_9_code, 3, none)
theorem m_BO_lift : jmth lw_tbl y_BO_lift 1 := ⟨jTA_in (wi := 1289) (jtF_ok rfl) rfl, jTA_in (wi := 312) (jtF_ok rfl) rfl, by decide, by decide, by decide +kernel⟩
theorem i_BO_lift : Jvm.Cond.instanceMethod y_BO_lift.1 ∈ jTA lw_tbl := jTA_in (wi := 1288) (jtF_ok rfl) rfl
theorem e_BO_lift : Jvm.Cond.selects y_BO_lift.1.cls y_BO_lift.1 y_BO_lift.1 ∈ jTA lw_tbl := jTA_in (wi := 31) (jtF_ok rfl) rfl
noncomputable def kk_BO_lift_0 : List jI := [(.aload_n 0, 1, (0, 0, 0, 0, 0)), (.getfield 7, 3, (10, 0, 660, 0, 0)), (.iload_n 1, 1, (1, 0, 0, 0, 0)), (.iaload, 1, (0, 0, 0, 0, 0)), (.istore_n 2, 1, (2, 0, 0, 0, 0)), (.aload_n 0, 1, (0, 0, 0, 0, 0)), (.getfield 7, 3, (10, 0, 660, 0, 0)), (.iload_n 1, 1, (1, 0, 0, 0, 0)), (.iconst 0, 1, (0, 0, 0, 0, 0)), (.iastore, 1, (0, 0, 0, 0, 0)), (.aload_n 0, 1, (0, 0, 0, 0, 0)), (.getfield 16, 3, (10, 7, 676, 0, 0)), (.iload_n 1, 1, (1, 0, 0, 0, 0)), (.iconst 4, 1, (0, 0, 0, 4, 0)), (.ishr, 1, (0, 0, 0, 0, 0)), (.dup2, 1, (0, 0, 0, 0, 0)), (.laload, 1, (0, 0, 0, 0, 0)), (.iload_n 2, 1, (2, 0, 0, 0, 0)), (.i2l, 1, (0, 0, 0, 0, 0)), (.iload_n 1, 1, (1, 0, 0, 0, 0)), (.bipush 15, 2, (0, 0, 0, 15, 0)), (.iand, 1, (0, 0, 0, 0, 0)), (.iconst 2, 1, (0, 0, 0, 2, 0)), (.ishl, 1, (0, 0, 0, 0, 0)), (.lshl, 1, (0, 0, 0, 0, 0)), (.lxor, 1, (0, 0, 0, 0, 0)), (.lastore, 1, (0, 0, 0, 0, 0)), (.aload_n 0, 1, (0, 0, 0, 0, 0)), (.getfield 20, 3, (10, 8, 677, 0, 0)), (.iload_n 2, 1, (2, 0, 0, 0, 0)), (.iconst 3, 1, (0, 0, 0, 3, 0)), (.ishr, 1, (0, 0, 0, 0, 0)), (.dup2, 1, (0, 0, 0, 0, 0)), (.iaload, 1, (0, 0, 0, 0, 0)), (.aload_n 0, 1, (0, 0, 0, 0, 0)), (.getfield 29, 3, (10, 11, 680, 0, 0)), (.iload_n 2, 1, (2, 0, 0, 0, 0)), (.bipush 6, 2, (0, 0, 0, 6, 0)), (.ishl, 1, (0, 0, 0, 0, 0)), (.iload_n 1, 1, (1, 0, 0, 0, 0)), (.ior, 1, (0, 0, 0, 0, 0)), (.iaload, 1, (0, 0, 0, 0, 0)), (.isub, 1, (0, 0, 0, 0, 0)), (.iastore, 1, (0, 0, 0, 0, 0)), (.aload_n 0, 1, (0, 0, 0, 0, 0)), (.getfield 23, 3, (10, 9, 678, 0, 0)), (.iload_n 2, 1, (2, 0, 0, 0, 0)), (.dup2, 1, (0, 0, 0, 0, 0)), (.iaload, 1, (0, 0, 0, 0, 0)), (.iconst 1, 1, (0, 0, 0, 1, 0)), (.isub, 1, (0, 0, 0, 0, 0)), (.iastore, 1, (0, 0, 0, 0, 0)), (.iload_n 2, 1, (2, 0, 0, 0, 0)), (.bipush 7, 2, (0, 0, 0, 7, 0)), (.iand, 1, (0, 0, 0, 0, 0)), (.iconst 3, 1, (0, 0, 0, 3, 0)), (.if_icmp .ne 19, 3, (90, 0, 0, 0, 0)), (.aload_n 0, 1, (0, 0, 0, 0, 0)), (.getfield 26, 3, (10, 10, 679, 0, 0)), (.iload_n 1, 1, (1, 0, 0, 0, 0)), (.iload_n 1, 1, (1, 0, 0, 0, 0)), (.iconst 3, 1, (0, 0, 0, 3, 0)), (.ishr, 1, (0, 0, 0, 0, 0)), (.ixor, 1, (0, 0, 0, 0, 0)), (.iconst 1, 1, (0, 0, 0, 1, 0)), (.iand, 1, (0, 0, 0, 0, 0)), (.dup2, 1, (0, 0, 0, 0, 0)), (.iaload, 1, (0, 0, 0, 0, 0)), (.iconst 1, 1, (0, 0, 0, 1, 0)), (.isub, 1, (0, 0, 0, 0, 0)), (.iastore, 1, (0, 0, 0, 0, 0)), (.return_, 1, (0, 0, 0, 0, 0))]
theorem oo_BO_lift_0 : jokL "ChessHouse$Board" lw_tbl jcl jtb 3 false prog_3_method_9_code 0 kk_BO_lift_0 = true := jokLF_ok (fun _ _ => jtF_ok) lo_BO (by decide +kernel)
noncomputable def k_BO_lift_0 : List jI := [(.aload_n 0, 1, (0, 0, 0, 0, 0)), (.getfield 7, 3, (10, 0, 660, 0, 0)), (.iload_n 1, 1, (1, 0, 0, 0, 0)), (.iaload, 1, (0, 0, 0, 0, 0)), (.istore_n 2, 1, (2, 0, 0, 0, 0)), (.aload_n 0, 1, (0, 0, 0, 0, 0)), (.getfield 7, 3, (10, 0, 660, 0, 0)), (.iload_n 1, 1, (1, 0, 0, 0, 0)), (.iconst 0, 1, (0, 0, 0, 0, 0)), (.iastore, 1, (0, 0, 0, 0, 0))]
theorem o_BO_lift_0 : jokL "ChessHouse$Board" lw_tbl jcl jtb 3 false prog_3_method_9_code 0 k_BO_lift_0 = true := jok_sub oo_BO_lift_0 0 10 rfl rfl
noncomputable def k_BO_lift_14 : List jI := [(.aload_n 0, 1, (0, 0, 0, 0, 0)), (.getfield 16, 3, (10, 7, 676, 0, 0)), (.iload_n 1, 1, (1, 0, 0, 0, 0)), (.iconst 4, 1, (0, 0, 0, 4, 0)), (.ishr, 1, (0, 0, 0, 0, 0)), (.dup2, 1, (0, 0, 0, 0, 0)), (.laload, 1, (0, 0, 0, 0, 0)), (.iload_n 2, 1, (2, 0, 0, 0, 0)), (.i2l, 1, (0, 0, 0, 0, 0)), (.iload_n 1, 1, (1, 0, 0, 0, 0)), (.bipush 15, 2, (0, 0, 0, 15, 0)), (.iand, 1, (0, 0, 0, 0, 0)), (.iconst 2, 1, (0, 0, 0, 2, 0)), (.ishl, 1, (0, 0, 0, 0, 0)), (.lshl, 1, (0, 0, 0, 0, 0)), (.lxor, 1, (0, 0, 0, 0, 0)), (.lastore, 1, (0, 0, 0, 0, 0))]
theorem o_BO_lift_14 : jokL "ChessHouse$Board" lw_tbl jcl jtb 3 false prog_3_method_9_code 14 k_BO_lift_14 = true := jok_sub oo_BO_lift_0 10 17 rfl rfl
noncomputable def k_BO_lift_34 : List jI := [(.aload_n 0, 1, (0, 0, 0, 0, 0)), (.getfield 20, 3, (10, 8, 677, 0, 0)), (.iload_n 2, 1, (2, 0, 0, 0, 0)), (.iconst 3, 1, (0, 0, 0, 3, 0)), (.ishr, 1, (0, 0, 0, 0, 0)), (.dup2, 1, (0, 0, 0, 0, 0)), (.iaload, 1, (0, 0, 0, 0, 0)), (.aload_n 0, 1, (0, 0, 0, 0, 0)), (.getfield 29, 3, (10, 11, 680, 0, 0)), (.iload_n 2, 1, (2, 0, 0, 0, 0)), (.bipush 6, 2, (0, 0, 0, 6, 0)), (.ishl, 1, (0, 0, 0, 0, 0)), (.iload_n 1, 1, (1, 0, 0, 0, 0)), (.ior, 1, (0, 0, 0, 0, 0)), (.iaload, 1, (0, 0, 0, 0, 0)), (.isub, 1, (0, 0, 0, 0, 0)), (.iastore, 1, (0, 0, 0, 0, 0))]
theorem o_BO_lift_34 : jokL "ChessHouse$Board" lw_tbl jcl jtb 3 false prog_3_method_9_code 34 k_BO_lift_34 = true := jok_sub oo_BO_lift_0 27 17 rfl rfl
noncomputable def k_BO_lift_56 : List jI := [(.aload_n 0, 1, (0, 0, 0, 0, 0)), (.getfield 23, 3, (10, 9, 678, 0, 0)), (.iload_n 2, 1, (2, 0, 0, 0, 0)), (.dup2, 1, (0, 0, 0, 0, 0)), (.iaload, 1, (0, 0, 0, 0, 0)), (.iconst 1, 1, (0, 0, 0, 1, 0)), (.isub, 1, (0, 0, 0, 0, 0)), (.iastore, 1, (0, 0, 0, 0, 0))]
theorem o_BO_lift_56 : jokL "ChessHouse$Board" lw_tbl jcl jtb 3 false prog_3_method_9_code 56 k_BO_lift_56 = true := jok_sub oo_BO_lift_0 44 8 rfl rfl
noncomputable def k_BO_lift_66 : List jI := [(.iload_n 2, 1, (2, 0, 0, 0, 0)), (.bipush 7, 2, (0, 0, 0, 7, 0)), (.iand, 1, (0, 0, 0, 0, 0)), (.iconst 3, 1, (0, 0, 0, 3, 0)), (.if_icmp .ne 19, 3, (90, 0, 0, 0, 0)), (.aload_n 0, 1, (0, 0, 0, 0, 0)), (.getfield 26, 3, (10, 10, 679, 0, 0)), (.iload_n 1, 1, (1, 0, 0, 0, 0)), (.iload_n 1, 1, (1, 0, 0, 0, 0)), (.iconst 3, 1, (0, 0, 0, 3, 0)), (.ishr, 1, (0, 0, 0, 0, 0)), (.ixor, 1, (0, 0, 0, 0, 0)), (.iconst 1, 1, (0, 0, 0, 1, 0)), (.iand, 1, (0, 0, 0, 0, 0)), (.dup2, 1, (0, 0, 0, 0, 0)), (.iaload, 1, (0, 0, 0, 0, 0)), (.iconst 1, 1, (0, 0, 0, 1, 0)), (.isub, 1, (0, 0, 0, 0, 0)), (.iastore, 1, (0, 0, 0, 0, 0))]
theorem o_BO_lift_66 : jokL "ChessHouse$Board" lw_tbl jcl jtb 3 false prog_3_method_9_code 66 k_BO_lift_66 = true := jok_sub oo_BO_lift_0 52 19 rfl rfl
theorem d_BO_lift_90 : decode prog_3_method_9_code 90 = .ok (.return_, 1) := by decide +kernel
noncomputable def y_BO_passedPawn : jY := (⟨"ChessHouse$Board", "passedPawn", "()I"⟩, prog_3_method_14_code, 1, (some .int))
theorem m_BO_passedPawn : jmth lw_tbl y_BO_passedPawn 0 := ⟨jTA_in (wi := 1182) (jtF_ok rfl) rfl, jTA_in (wi := 312) (jtF_ok rfl) rfl, by decide, by decide, by decide +kernel⟩
theorem i_BO_passedPawn : Jvm.Cond.instanceMethod y_BO_passedPawn.1 ∈ jTA lw_tbl := jTA_in (wi := 1181) (jtF_ok rfl) rfl
theorem e_BO_passedPawn : Jvm.Cond.selects y_BO_passedPawn.1.cls y_BO_passedPawn.1 y_BO_passedPawn.1 ∈ jTA lw_tbl := jTA_in (wi := 17) (jtF_ok rfl) rfl
noncomputable def kk_BO_passedPawn_0 : List jI := [(.aload_n 0, 1, (0, 0, 0, 0, 0)), (.getfield 77, 3, (10, 2, 667, 0, 0)), (.ifCond .ne 13, 3, (17, 0, 0, 0, 0)), (.aload_n 0, 1, (0, 0, 0, 0, 0)), (.getfield 84, 3, (10, 4, 670, 0, 0)), (.bipush 8, 2, (0, 0, 0, 8, 0)), (.isub, 1, (0, 0, 0, 0, 0)), (.goto 10, 3, (24, 0, 0, 0, 0)), (.aload_n 0, 1, (0, 0, 0, 0, 0)), (.getfield 84, 3, (10, 4, 670, 0, 0)), (.bipush 8, 2, (0, 0, 0, 8, 0)), (.iadd, 1, (0, 0, 0, 0, 0)), (.ireturn, 1, (0, 0, 0, 0, 0))]
theorem oo_BO_passedPawn_0 : jokL "ChessHouse$Board" lw_tbl jcl jtb 1 false prog_3_method_14_code 0 kk_BO_passedPawn_0 = true := jokLF_ok (fun _ _ => jtF_ok) lo_BO (by decide +kernel)
noncomputable def k_BO_passedPawn_0 : List jI := [(.aload_n 0, 1, (0, 0, 0, 0, 0)), (.getfield 77, 3, (10, 2, 667, 0, 0)), (.ifCond .ne 13, 3, (17, 0, 0, 0, 0)), (.aload_n 0, 1, (0, 0, 0, 0, 0)), (.getfield 84, 3, (10, 4, 670, 0, 0)), (.bipush 8, 2, (0, 0, 0, 8, 0)), (.isub, 1, (0, 0, 0, 0, 0)), (.goto 10, 3, (24, 0, 0, 0, 0))]
theorem o_BO_passedPawn_0 : jokL "ChessHouse$Board" lw_tbl jcl jtb 1 false prog_3_method_14_code 0 k_BO_passedPawn_0 = true := jok_sub oo_BO_passedPawn_0 0 8 rfl rfl
noncomputable def k_BO_passedPawn_17 : List jI := [(.aload_n 0, 1, (0, 0, 0, 0, 0)), (.getfield 84, 3, (10, 4, 670, 0, 0)), (.bipush 8, 2, (0, 0, 0, 8, 0)), (.iadd, 1, (0, 0, 0, 0, 0))]
theorem o_BO_passedPawn_17 : jokL "ChessHouse$Board" lw_tbl jcl jtb 1 false prog_3_method_14_code 17 k_BO_passedPawn_17 = true := jok_sub oo_BO_passedPawn_0 8 4 rfl rfl
theorem d_BO_passedPawn_24 : decode prog_3_method_14_code 24 = .ok (.ireturn, 1) := by decide +kernel
noncomputable def y_BO_passedBy : jY := (⟨"ChessHouse$Board", "passedBy", "(II)I"⟩, prog_3_method_22_code, 5, (some .int))
theorem m_BO_passedBy : jmth lw_tbl y_BO_passedBy 2 := ⟨jTA_in (wi := 1312) (jtF_ok rfl) rfl, jTA_in (wi := 312) (jtF_ok rfl) rfl, by decide, by decide, by decide +kernel⟩
theorem i_BO_passedBy : Jvm.Cond.instanceMethod y_BO_passedBy.1 ∈ jTA lw_tbl := jTA_in (wi := 1311) (jtF_ok rfl) rfl
theorem e_BO_passedBy : Jvm.Cond.selects y_BO_passedBy.1.cls y_BO_passedBy.1 y_BO_passedBy.1 ∈ jTA lw_tbl := jTA_in (wi := 33) (jtF_ok rfl) rfl
noncomputable def kk_BO_passedBy_0 : List jI := [(.iload_n 2, 1, (2, 0, 0, 0, 0)), (.iload_n 1, 1, (1, 0, 0, 0, 0)), (.isub, 1, (0, 0, 0, 0, 0)), (.bipush 16, 2, (0, 0, 0, 16, 0)), (.if_icmp .eq 13, 3, (18, 0, 0, 0, 0)), (.iload_n 1, 1, (1, 0, 0, 0, 0)), (.iload_n 2, 1, (2, 0, 0, 0, 0)), (.isub, 1, (0, 0, 0, 0, 0)), (.bipush 16, 2, (0, 0, 0, 16, 0)), (.if_icmp .eq 5, 3, (18, 0, 0, 0, 0)), (.iconst (-1), 1, (0, 0, 0, (-1), 0)), (.ireturn, 1, (0, 0, 0, 0, 0)), (.iconst 1, 1, (0, 0, 0, 1, 0)), (.aload_n 0, 1, (0, 0, 0, 0, 0)), (.getfield 77, 3, (10, 2, 667, 0, 0)), (.isub, 1, (0, 0, 0, 0, 0)), (.iconst 3, 1, (0, 0, 0, 3, 0)), (.ishl, 1, (0, 0, 0, 0, 0)), (.iconst 1, 1, (0, 0, 0, 1, 0)), (.ior, 1, (0, 0, 0, 0, 0)), (.istore_n 3, 1, (3, 0, 0, 0, 0)), (.iload_n 2, 1, (2, 0, 0, 0, 0)), (.bipush 7, 2, (0, 0, 0, 7, 0)), (.iand, 1, (0, 0, 0, 0, 0)), (.ifCond .le 15, 3, (48, 0, 0, 0, 0)), (.aload_n 0, 1, (0, 0, 0, 0, 0)), (.getfield 7, 3, (10, 0, 660, 0, 0)), (.iload_n 2, 1, (2, 0, 0, 0, 0)), (.iconst 1, 1, (0, 0, 0, 1, 0)), (.isub, 1, (0, 0, 0, 0, 0)), (.iaload, 1, (0, 0, 0, 0, 0)), (.iload_n 3, 1, (3, 0, 0, 0, 0)), (.if_icmp .eq 24, 3, (69, 0, 0, 0, 0)), (.iload_n 2, 1, (2, 0, 0, 0, 0)), (.bipush 7, 2, (0, 0, 0, 7, 0)), (.iand, 1, (0, 0, 0, 0, 0)), (.bipush 7, 2, (0, 0, 0, 7, 0)), (.if_icmp .ge 19, 3, (73, 0, 0, 0, 0)), (.aload_n 0, 1, (0, 0, 0, 0, 0)), (.getfield 7, 3, (10, 0, 660, 0, 0)), (.iload_n 2, 1, (2, 0, 0, 0, 0)), (.iconst 1, 1, (0, 0, 0, 1, 0)), (.iadd, 1, (0, 0, 0, 0, 0)), (.iaload, 1, (0, 0, 0, 0, 0)), (.iload_n 3, 1, (3, 0, 0, 0, 0)), (.if_icmp .ne 7, 3, (73, 0, 0, 0, 0)), (.iconst 1, 1, (0, 0, 0, 1, 0)), (.goto 4, 3, (74, 0, 0, 0, 0)), (.iconst 0, 1, (0, 0, 0, 0, 0)), (.istore 4, 2, (4, 0, 0, 0, 0)), (.iload 4, 2, (4, 0, 0, 0, 0)), (.ifCond .eq 11, 3, (89, 0, 0, 0, 0)), (.iload_n 1, 1, (1, 0, 0, 0, 0)), (.iload_n 2, 1, (2, 0, 0, 0, 0)), (.iadd, 1, (0, 0, 0, 0, 0)), (.iconst 1, 1, (0, 0, 0, 1, 0)), (.ishr, 1, (0, 0, 0, 0, 0)), (.goto 4, 3, (90, 0, 0, 0, 0)), (.iconst (-1), 1, (0, 0, 0, (-1), 0)), (.ireturn, 1, (0, 0, 0, 0, 0))]
theorem oo_BO_passedBy_0 : jokL "ChessHouse$Board" lw_tbl jcl jtb 5 false prog_3_method_22_code 0 kk_BO_passedBy_0 = true := jokLF_ok (fun _ _ => jtF_ok) lo_BO (by decide +kernel)
noncomputable def k_BO_passedBy_0 : List jI := [(.iload_n 2, 1, (2, 0, 0, 0, 0)), (.iload_n 1, 1, (1, 0, 0, 0, 0)), (.isub, 1, (0, 0, 0, 0, 0)), (.bipush 16, 2, (0, 0, 0, 16, 0)), (.if_icmp .eq 13, 3, (18, 0, 0, 0, 0)), (.iload_n 1, 1, (1, 0, 0, 0, 0)), (.iload_n 2, 1, (2, 0, 0, 0, 0)), (.isub, 1, (0, 0, 0, 0, 0)), (.bipush 16, 2, (0, 0, 0, 16, 0)), (.if_icmp .eq 5, 3, (18, 0, 0, 0, 0)), (.iconst (-1), 1, (0, 0, 0, (-1), 0))]
theorem o_BO_passedBy_0 : jokL "ChessHouse$Board" lw_tbl jcl jtb 5 false prog_3_method_22_code 0 k_BO_passedBy_0 = true := jok_sub oo_BO_passedBy_0 0 11 rfl rfl
noncomputable def k_BO_passedBy_18 : List jI := [(.iconst 1, 1, (0, 0, 0, 1, 0)), (.aload_n 0, 1, (0, 0, 0, 0, 0)), (.getfield 77, 3, (10, 2, 667, 0, 0)), (.isub, 1, (0, 0, 0, 0, 0)), (.iconst 3, 1, (0, 0, 0, 3, 0)), (.ishl, 1, (0, 0, 0, 0, 0)), (.iconst 1, 1, (0, 0, 0, 1, 0)), (.ior, 1, (0, 0, 0, 0, 0)), (.istore_n 3, 1, (3, 0, 0, 0, 0)), (.iload_n 2, 1, (2, 0, 0, 0, 0)), (.bipush 7, 2, (0, 0, 0, 7, 0)), (.iand, 1, (0, 0, 0, 0, 0)), (.ifCond .le 15, 3, (48, 0, 0, 0, 0)), (.aload_n 0, 1, (0, 0, 0, 0, 0)), (.getfield 7, 3, (10, 0, 660, 0, 0)), (.iload_n 2, 1, (2, 0, 0, 0, 0)), (.iconst 1, 1, (0, 0, 0, 1, 0)), (.isub, 1, (0, 0, 0, 0, 0)), (.iaload, 1, (0, 0, 0, 0, 0)), (.iload_n 3, 1, (3, 0, 0, 0, 0)), (.if_icmp .eq 24, 3, (69, 0, 0, 0, 0))]
theorem o_BO_passedBy_18 : jokL "ChessHouse$Board" lw_tbl jcl jtb 5 false prog_3_method_22_code 18 k_BO_passedBy_18 = true := jok_sub oo_BO_passedBy_0 12 21 rfl rfl
noncomputable def k_BO_passedBy_48 : List jI := [(.iload_n 2, 1, (2, 0, 0, 0, 0)), (.bipush 7, 2, (0, 0, 0, 7, 0)), (.iand, 1, (0, 0, 0, 0, 0)), (.bipush 7, 2, (0, 0, 0, 7, 0)), (.if_icmp .ge 19, 3, (73, 0, 0, 0, 0)), (.aload_n 0, 1, (0, 0, 0, 0, 0)), (.getfield 7, 3, (10, 0, 660, 0, 0)), (.iload_n 2, 1, (2, 0, 0, 0, 0)), (.iconst 1, 1, (0, 0, 0, 1, 0)), (.iadd, 1, (0, 0, 0, 0, 0)), (.iaload, 1, (0, 0, 0, 0, 0)), (.iload_n 3, 1, (3, 0, 0, 0, 0)), (.if_icmp .ne 7, 3, (73, 0, 0, 0, 0))]
theorem o_BO_passedBy_48 : jokL "ChessHouse$Board" lw_tbl jcl jtb 5 false prog_3_method_22_code 48 k_BO_passedBy_48 = true := jok_sub oo_BO_passedBy_0 33 13 rfl rfl
noncomputable def k_BO_passedBy_69 : List jI := [(.iconst 1, 1, (0, 0, 0, 1, 0)), (.goto 4, 3, (74, 0, 0, 0, 0))]
theorem o_BO_passedBy_69 : jokL "ChessHouse$Board" lw_tbl jcl jtb 5 false prog_3_method_22_code 69 k_BO_passedBy_69 = true := jok_sub oo_BO_passedBy_0 46 2 rfl rfl
noncomputable def k_BO_passedBy_73 : List jI := [(.iconst 0, 1, (0, 0, 0, 0, 0))]
theorem o_BO_passedBy_73 : jokL "ChessHouse$Board" lw_tbl jcl jtb 5 false prog_3_method_22_code 73 k_BO_passedBy_73 = true := jok_sub oo_BO_passedBy_0 48 1 rfl rfl
noncomputable def k_BO_passedBy_74 : List jI := [(.istore 4, 2, (4, 0, 0, 0, 0)), (.iload 4, 2, (4, 0, 0, 0, 0)), (.ifCond .eq 11, 3, (89, 0, 0, 0, 0)), (.iload_n 1, 1, (1, 0, 0, 0, 0)), (.iload_n 2, 1, (2, 0, 0, 0, 0)), (.iadd, 1, (0, 0, 0, 0, 0)), (.iconst 1, 1, (0, 0, 0, 1, 0)), (.ishr, 1, (0, 0, 0, 0, 0)), (.goto 4, 3, (90, 0, 0, 0, 0))]
theorem o_BO_passedBy_74 : jokL "ChessHouse$Board" lw_tbl jcl jtb 5 false prog_3_method_22_code 74 k_BO_passedBy_74 = true := jok_sub oo_BO_passedBy_0 49 9 rfl rfl
noncomputable def k_BO_passedBy_89 : List jI := [(.iconst (-1), 1, (0, 0, 0, (-1), 0))]
theorem o_BO_passedBy_89 : jokL "ChessHouse$Board" lw_tbl jcl jtb 5 false prog_3_method_22_code 89 k_BO_passedBy_89 = true := jok_sub oo_BO_passedBy_0 58 1 rfl rfl
theorem d_BO_passedBy_17 : decode prog_3_method_22_code 17 = .ok (.ireturn, 1) := by decide +kernel
theorem d_BO_passedBy_90 : decode prog_3_method_22_code 90 = .ok (.ireturn, 1) := by decide +kernel
noncomputable def y_BO_make : jY := (⟨"ChessHouse$Board", "make", "(I)J"⟩, prog_3_method_21_code, 11, (some .long))
theorem m_BO_make : jmth lw_tbl y_BO_make 1 := ⟨jTA_in (wi := 1306) (jtF_ok rfl) rfl, jTA_in (wi := 312) (jtF_ok rfl) rfl, by decide, by decide, by decide +kernel⟩
theorem i_BO_make : Jvm.Cond.instanceMethod y_BO_make.1 ∈ jTA lw_tbl := jTA_in (wi := 1304) (jtF_ok rfl) rfl
theorem e_BO_make : Jvm.Cond.selects y_BO_make.1.cls y_BO_make.1 y_BO_make.1 ∈ jTA lw_tbl := jTA_in (wi := 1305) (jtF_ok rfl) rfl
noncomputable def kk_BO_make_0 : List jI := [(.iload_n 1, 1, (1, 0, 0, 0, 0)), (.bipush 9, 2, (0, 0, 0, 9, 0)), (.ishr, 1, (0, 0, 0, 0, 0)), (.istore_n 2, 1, (2, 0, 0, 0, 0)), (.iload_n 1, 1, (1, 0, 0, 0, 0)), (.iconst 3, 1, (0, 0, 0, 3, 0)), (.ishr, 1, (0, 0, 0, 0, 0)), (.bipush 63, 2, (0, 0, 0, 63, 0)), (.iand, 1, (0, 0, 0, 0, 0)), (.istore_n 3, 1, (3, 0, 0, 0, 0)), (.iload_n 1, 1, (1, 0, 0, 0, 0)), (.bipush 7, 2, (0, 0, 0, 7, 0)), (.iand, 1, (0, 0, 0, 0, 0)), (.istore 4, 2, (4, 0, 0, 0, 0)), (.aload_n 0, 1, (0, 0, 0, 0, 0)), (.getfield 7, 3, (10, 0, 660, 0, 0)), (.iload_n 2, 1, (2, 0, 0, 0, 0)), (.iaload, 1, (0, 0, 0, 0, 0)), (.istore 5, 2, (5, 0, 0, 0, 0)), (.iload 5, 2, (5, 0, 0, 0, 0)), (.bipush 7, 2, (0, 0, 0, 7, 0)), (.iand, 1, (0, 0, 0, 0, 0)), (.istore 6, 2, (6, 0, 0, 0, 0)), (.iload 6, 2, (6, 0, 0, 0, 0)), (.iconst 1, 1, (0, 0, 0, 1, 0)), (.if_icmp .ne 18, 3, (54, 0, 0, 0, 0)), (.iload_n 3, 1, (3, 0, 0, 0, 0)), (.aload_n 0, 1, (0, 0, 0, 0, 0)), (.getfield 84, 3, (10, 4, 670, 0, 0)), (.if_icmp .ne 10, 3, (54, 0, 0, 0, 0)), (.aload_n 0, 1, (0, 0, 0, 0, 0)), (.invokevirtual 125, 3, (0, 0, 0, 0, 0)), (.goto 4, 3, (55, 0, 0, 0, 0)), (.iload_n 3, 1, (3, 0, 0, 0, 0)), (.istore 7, 2, (7, 0, 0, 0, 0)), (.aload_n 0, 1, (0, 0, 0, 0, 0)), (.getfield 7, 3, (10, 0, 660, 0, 0)), (.iload 7, 2, (7, 0, 0, 0, 0)), (.iaload, 1, (0, 0, 0, 0, 0)), (.istore 8, 2, (8, 0, 0, 0, 0)), (.iload 8, 2, (8, 0, 0, 0, 0)), (.aload_n 0, 1, (0, 0, 0, 0, 0)), (.getfield 81, 3, (10, 3, 669, 0, 0)), (.iconst 4, 1, (0, 0, 0, 4, 0)), (.ishl, 1, (0, 0, 0, 0, 0)), (.ior, 1, (0, 0, 0, 0, 0)), (.aload_n 0, 1, (0, 0, 0, 0, 0)), (.getfield 84, 3, (10, 4, 670, 0, 0)), (.iconst 1, 1, (0, 0, 0, 1, 0)), (.iadd, 1, (0, 0, 0, 0, 0)), (.bipush 8, 2, (0, 0, 0, 8, 0)), (.ishl, 1, (0, 0, 0, 0, 0)), (.ior, 1, (0, 0, 0, 0, 0)), (.i2l, 1, (0, 0, 0, 0, 0)), (.aload_n 0, 1, (0, 0, 0, 0, 0)), (.getfield 87, 3, (10, 5, 671, 0, 0)), (.i2l, 1, (0, 0, 0, 0, 0)), (.bipush 16, 2, (0, 0, 0, 16, 0)), (.lshl, 1, (0, 0, 0, 0, 0)), (.lor, 1, (0, 0, 0, 0, 0)), (.lstore 9, 2, (9, 0, 0, 0, 0)), (.aload_n 0, 1, (0, 0, 0, 0, 0)), (.iload_n 2, 1, (2, 0, 0, 0, 0)), (.invokevirtual 132, 3, (0, 0, 0, 0, 0)), (.iload 8, 2, (8, 0, 0, 0, 0)), (.ifCond .eq 9, 3, (113, 0, 0, 0, 0)), (.aload_n 0, 1, (0, 0, 0, 0, 0)), (.iload 7, 2, (7, 0, 0, 0, 0)), (.invokevirtual 132, 3, (0, 0, 0, 0, 0)), (.aload_n 0, 1, (0, 0, 0, 0, 0)), (.iload_n 3, 1, (3, 0, 0, 0, 0)), (.iload 4, 2, (4, 0, 0, 0, 0)), (.ifCond .ne 8, 3, (125, 0, 0, 0, 0)), (.iload 5, 2, (5, 0, 0, 0, 0)), (.goto 11, 3, (133, 0, 0, 0, 0)), (.iload 5, 2, (5, 0, 0, 0, 0)), (.bipush 8, 2, (0, 0, 0, 8, 0)), (.iand, 1, (0, 0, 0, 0, 0)), (.iload 4, 2, (4, 0, 0, 0, 0)), (.ior, 1, (0, 0, 0, 0, 0)), (.invokevirtual 102, 3, (0, 0, 0, 0, 0)), (.iload 6, 2, (6, 0, 0, 0, 0)), (.bipush 6, 2, (0, 0, 0, 6, 0)), (.if_icmp .ne 35, 3, (175, 0, 0, 0, 0)), (.iload_n 3, 1, (3, 0, 0, 0, 0)), (.iload_n 2, 1, (2, 0, 0, 0, 0)), (.isub, 1, (0, 0, 0, 0, 0)), (.iconst 2, 1, (0, 0, 0, 2, 0)), (.if_icmp .ne 28, 3, (175, 0, 0, 0, 0)), (.aload_n 0, 1, (0, 0, 0, 0, 0)), (.iload_n 2, 1, (2, 0, 0, 0, 0)), (.iconst 3, 1, (0, 0, 0, 3, 0)), (.iadd, 1, (0, 0, 0, 0, 0)), (.invokevirtual 132, 3, (0, 0, 0, 0, 0)), (.aload_n 0, 1, (0, 0, 0, 0, 0)), (.iload_n 2, 1, (2, 0, 0, 0, 0)), (.iconst 1, 1, (0, 0, 0, 1, 0)), (.iadd, 1, (0, 0, 0, 0, 0)), (.aload_n 0, 1, (0, 0, 0, 0, 0)), (.getfield 77, 3, (10, 2, 667, 0, 0)), (.iconst 3, 1, (0, 0, 0, 3, 0)), (.ishl, 1, (0, 0, 0, 0, 0)), (.iconst 4, 1, (0, 0, 0, 4, 0)), (.ior, 1, (0, 0, 0, 0, 0)), (.invokevirtual 102, 3, (0, 0, 0, 0, 0))]
theorem oo_BO_make_0 : jokL "ChessHouse$Board" lw_tbl jcl jtb 11 false prog_3_method_21_code 0 kk_BO_make_0 = true := jokLF_ok (fun _ _ => jtF_ok) lo_BO (by decide +kernel)
noncomputable def kk_BO_make_172 : List jI := [(.goto 39, 3, (211, 0, 0, 0, 0)), (.iload 6, 2, (6, 0, 0, 0, 0)), (.bipush 6, 2, (0, 0, 0, 6, 0)), (.if_icmp .ne 32, 3, (211, 0, 0, 0, 0)), (.iload_n 2, 1, (2, 0, 0, 0, 0)), (.iload_n 3, 1, (3, 0, 0, 0, 0)), (.isub, 1, (0, 0, 0, 0, 0)), (.iconst 2, 1, (0, 0, 0, 2, 0)), (.if_icmp .ne 25, 3, (211, 0, 0, 0, 0)), (.aload_n 0, 1, (0, 0, 0, 0, 0)), (.iload_n 2, 1, (2, 0, 0, 0, 0)), (.iconst 4, 1, (0, 0, 0, 4, 0)), (.isub, 1, (0, 0, 0, 0, 0)), (.invokevirtual 132, 3, (0, 0, 0, 0, 0)), (.aload_n 0, 1, (0, 0, 0, 0, 0)), (.iload_n 2, 1, (2, 0, 0, 0, 0)), (.iconst 1, 1, (0, 0, 0, 1, 0)), (.isub, 1, (0, 0, 0, 0, 0)), (.aload_n 0, 1, (0, 0, 0, 0, 0)), (.getfield 77, 3, (10, 2, 667, 0, 0)), (.iconst 3, 1, (0, 0, 0, 3, 0)), (.ishl, 1, (0, 0, 0, 0, 0)), (.iconst 4, 1, (0, 0, 0, 4, 0)), (.ior, 1, (0, 0, 0, 0, 0)), (.invokevirtual 102, 3, (0, 0, 0, 0, 0)), (.aload_n 0, 1, (0, 0, 0, 0, 0)), (.dup, 1, (0, 0, 0, 0, 0)), (.getfield 81, 3, (10, 3, 669, 0, 0)), (.getstatic 135, 3, (4, 0, 1307, 0, 0)), (.iload_n 2, 1, (2, 0, 0, 0, 0)), (.iaload, 1, (0, 0, 0, 0, 0)), (.getstatic 135, 3, (4, 0, 1307, 0, 0)), (.iload_n 3, 1, (3, 0, 0, 0, 0)), (.iaload, 1, (0, 0, 0, 0, 0)), (.iand, 1, (0, 0, 0, 0, 0)), (.iand, 1, (0, 0, 0, 0, 0)), (.putfield 81, 3, (10, 3, 669, 0, 0)), (.aload_n 0, 1, (0, 0, 0, 0, 0)), (.iload 6, 2, (6, 0, 0, 0, 0)), (.iconst 1, 1, (0, 0, 0, 1, 0)), (.if_icmp .ne 12, 3, (247, 0, 0, 0, 0)), (.aload_n 0, 1, (0, 0, 0, 0, 0)), (.iload_n 2, 1, (2, 0, 0, 0, 0)), (.iload_n 3, 1, (3, 0, 0, 0, 0)), (.invokevirtual 138, 3, (0, 0, 0, 0, 0)), (.goto 4, 3, (248, 0, 0, 0, 0)), (.iconst (-1), 1, (0, 0, 0, (-1), 0)), (.putfield 84, 3, (10, 4, 670, 0, 0)), (.aload_n 0, 1, (0, 0, 0, 0, 0)), (.iload 6, 2, (6, 0, 0, 0, 0)), (.iconst 1, 1, (0, 0, 0, 1, 0)), (.if_icmp .eq 8, 3, (263, 0, 0, 0, 0)), (.iload 8, 2, (8, 0, 0, 0, 0)), (.ifCond .eq 7, 3, (267, 0, 0, 0, 0)), (.iconst 0, 1, (0, 0, 0, 0, 0)), (.goto 9, 3, (273, 0, 0, 0, 0)), (.aload_n 0, 1, (0, 0, 0, 0, 0)), (.getfield 87, 3, (10, 5, 671, 0, 0)), (.iconst 1, 1, (0, 0, 0, 1, 0)), (.iadd, 1, (0, 0, 0, 0, 0)), (.putfield 87, 3, (10, 5, 671, 0, 0)), (.aload_n 0, 1, (0, 0, 0, 0, 0)), (.dup, 1, (0, 0, 0, 0, 0)), (.getfield 90, 3, (10, 6, 674, 0, 0)), (.aload_n 0, 1, (0, 0, 0, 0, 0)), (.getfield 77, 3, (10, 2, 667, 0, 0)), (.iadd, 1, (0, 0, 0, 0, 0)), (.putfield 90, 3, (10, 6, 674, 0, 0)), (.aload_n 0, 1, (0, 0, 0, 0, 0)), (.dup, 1, (0, 0, 0, 0, 0)), (.getfield 77, 3, (10, 2, 667, 0, 0)), (.iconst 1, 1, (0, 0, 0, 1, 0)), (.ixor, 1, (0, 0, 0, 0, 0)), (.putfield 77, 3, (10, 2, 667, 0, 0)), (.lload 9, 2, (9, 0, 0, 0, 0)), (.lreturn, 1, (0, 0, 0, 0, 0))]
theorem oo_BO_make_172 : jokL "ChessHouse$Board" lw_tbl jcl jtb 11 false prog_3_method_21_code 172 kk_BO_make_172 = true := jokLF_ok (fun _ _ => jtF_ok) lo_BO (by decide +kernel)
noncomputable def k_BO_make_0 : List jI := [(.iload_n 1, 1, (1, 0, 0, 0, 0)), (.bipush 9, 2, (0, 0, 0, 9, 0)), (.ishr, 1, (0, 0, 0, 0, 0)), (.istore_n 2, 1, (2, 0, 0, 0, 0)), (.iload_n 1, 1, (1, 0, 0, 0, 0)), (.iconst 3, 1, (0, 0, 0, 3, 0)), (.ishr, 1, (0, 0, 0, 0, 0)), (.bipush 63, 2, (0, 0, 0, 63, 0)), (.iand, 1, (0, 0, 0, 0, 0)), (.istore_n 3, 1, (3, 0, 0, 0, 0)), (.iload_n 1, 1, (1, 0, 0, 0, 0)), (.bipush 7, 2, (0, 0, 0, 7, 0)), (.iand, 1, (0, 0, 0, 0, 0)), (.istore 4, 2, (4, 0, 0, 0, 0))]
theorem o_BO_make_0 : jokL "ChessHouse$Board" lw_tbl jcl jtb 11 false prog_3_method_21_code 0 k_BO_make_0 = true := jok_sub oo_BO_make_0 0 14 rfl rfl
noncomputable def k_BO_make_18 : List jI := [(.aload_n 0, 1, (0, 0, 0, 0, 0)), (.getfield 7, 3, (10, 0, 660, 0, 0)), (.iload_n 2, 1, (2, 0, 0, 0, 0)), (.iaload, 1, (0, 0, 0, 0, 0)), (.istore 5, 2, (5, 0, 0, 0, 0)), (.iload 5, 2, (5, 0, 0, 0, 0)), (.bipush 7, 2, (0, 0, 0, 7, 0)), (.iand, 1, (0, 0, 0, 0, 0)), (.istore 6, 2, (6, 0, 0, 0, 0))]
theorem o_BO_make_18 : jokL "ChessHouse$Board" lw_tbl jcl jtb 11 false prog_3_method_21_code 18 k_BO_make_18 = true := jok_sub oo_BO_make_0 14 9 rfl rfl
noncomputable def k_BO_make_33 : List jI := [(.iload 6, 2, (6, 0, 0, 0, 0)), (.iconst 1, 1, (0, 0, 0, 1, 0)), (.if_icmp .ne 18, 3, (54, 0, 0, 0, 0)), (.iload_n 3, 1, (3, 0, 0, 0, 0)), (.aload_n 0, 1, (0, 0, 0, 0, 0)), (.getfield 84, 3, (10, 4, 670, 0, 0)), (.if_icmp .ne 10, 3, (54, 0, 0, 0, 0)), (.aload_n 0, 1, (0, 0, 0, 0, 0))]
theorem o_BO_make_33 : jokL "ChessHouse$Board" lw_tbl jcl jtb 11 false prog_3_method_21_code 33 k_BO_make_33 = true := jok_sub oo_BO_make_0 23 8 rfl rfl
noncomputable def k_BO_make_51 : List jI := [(.goto 4, 3, (55, 0, 0, 0, 0))]
theorem o_BO_make_51 : jokL "ChessHouse$Board" lw_tbl jcl jtb 11 false prog_3_method_21_code 51 k_BO_make_51 = true := jok_sub oo_BO_make_0 32 1 rfl rfl
noncomputable def k_BO_make_54 : List jI := [(.iload_n 3, 1, (3, 0, 0, 0, 0))]
theorem o_BO_make_54 : jokL "ChessHouse$Board" lw_tbl jcl jtb 11 false prog_3_method_21_code 54 k_BO_make_54 = true := jok_sub oo_BO_make_0 33 1 rfl rfl
noncomputable def k_BO_make_55 : List jI := [(.istore 7, 2, (7, 0, 0, 0, 0)), (.aload_n 0, 1, (0, 0, 0, 0, 0)), (.getfield 7, 3, (10, 0, 660, 0, 0)), (.iload 7, 2, (7, 0, 0, 0, 0)), (.iaload, 1, (0, 0, 0, 0, 0)), (.istore 8, 2, (8, 0, 0, 0, 0))]
theorem o_BO_make_55 : jokL "ChessHouse$Board" lw_tbl jcl jtb 11 false prog_3_method_21_code 55 k_BO_make_55 = true := jok_sub oo_BO_make_0 34 6 rfl rfl
noncomputable def k_BO_make_66 : List jI := [(.iload 8, 2, (8, 0, 0, 0, 0)), (.aload_n 0, 1, (0, 0, 0, 0, 0)), (.getfield 81, 3, (10, 3, 669, 0, 0)), (.iconst 4, 1, (0, 0, 0, 4, 0)), (.ishl, 1, (0, 0, 0, 0, 0)), (.ior, 1, (0, 0, 0, 0, 0)), (.aload_n 0, 1, (0, 0, 0, 0, 0)), (.getfield 84, 3, (10, 4, 670, 0, 0)), (.iconst 1, 1, (0, 0, 0, 1, 0)), (.iadd, 1, (0, 0, 0, 0, 0)), (.bipush 8, 2, (0, 0, 0, 8, 0)), (.ishl, 1, (0, 0, 0, 0, 0)), (.ior, 1, (0, 0, 0, 0, 0)), (.i2l, 1, (0, 0, 0, 0, 0)), (.aload_n 0, 1, (0, 0, 0, 0, 0)), (.getfield 87, 3, (10, 5, 671, 0, 0)), (.i2l, 1, (0, 0, 0, 0, 0)), (.bipush 16, 2, (0, 0, 0, 16, 0)), (.lshl, 1, (0, 0, 0, 0, 0)), (.lor, 1, (0, 0, 0, 0, 0)), (.lstore 9, 2, (9, 0, 0, 0, 0)), (.aload_n 0, 1, (0, 0, 0, 0, 0)), (.iload_n 2, 1, (2, 0, 0, 0, 0))]
theorem o_BO_make_66 : jokL "ChessHouse$Board" lw_tbl jcl jtb 11 false prog_3_method_21_code 66 k_BO_make_66 = true := jok_sub oo_BO_make_0 40 23 rfl rfl
noncomputable def k_BO_make_102 : List jI := [(.iload 8, 2, (8, 0, 0, 0, 0)), (.ifCond .eq 9, 3, (113, 0, 0, 0, 0)), (.aload_n 0, 1, (0, 0, 0, 0, 0)), (.iload 7, 2, (7, 0, 0, 0, 0))]
theorem o_BO_make_102 : jokL "ChessHouse$Board" lw_tbl jcl jtb 11 false prog_3_method_21_code 102 k_BO_make_102 = true := jok_sub oo_BO_make_0 64 4 rfl rfl
noncomputable def k_BO_make_113 : List jI := [(.aload_n 0, 1, (0, 0, 0, 0, 0)), (.iload_n 3, 1, (3, 0, 0, 0, 0)), (.iload 4, 2, (4, 0, 0, 0, 0)), (.ifCond .ne 8, 3, (125, 0, 0, 0, 0)), (.iload 5, 2, (5, 0, 0, 0, 0)), (.goto 11, 3, (133, 0, 0, 0, 0))]
theorem o_BO_make_113 : jokL "ChessHouse$Board" lw_tbl jcl jtb 11 false prog_3_method_21_code 113 k_BO_make_113 = true := jok_sub oo_BO_make_0 69 6 rfl rfl
noncomputable def k_BO_make_125 : List jI := [(.iload 5, 2, (5, 0, 0, 0, 0)), (.bipush 8, 2, (0, 0, 0, 8, 0)), (.iand, 1, (0, 0, 0, 0, 0)), (.iload 4, 2, (4, 0, 0, 0, 0)), (.ior, 1, (0, 0, 0, 0, 0))]
theorem o_BO_make_125 : jokL "ChessHouse$Board" lw_tbl jcl jtb 11 false prog_3_method_21_code 125 k_BO_make_125 = true := jok_sub oo_BO_make_0 75 5 rfl rfl
noncomputable def k_BO_make_136 : List jI := [(.iload 6, 2, (6, 0, 0, 0, 0)), (.bipush 6, 2, (0, 0, 0, 6, 0)), (.if_icmp .ne 35, 3, (175, 0, 0, 0, 0)), (.iload_n 3, 1, (3, 0, 0, 0, 0)), (.iload_n 2, 1, (2, 0, 0, 0, 0)), (.isub, 1, (0, 0, 0, 0, 0)), (.iconst 2, 1, (0, 0, 0, 2, 0)), (.if_icmp .ne 28, 3, (175, 0, 0, 0, 0)), (.aload_n 0, 1, (0, 0, 0, 0, 0)), (.iload_n 2, 1, (2, 0, 0, 0, 0)), (.iconst 3, 1, (0, 0, 0, 3, 0)), (.iadd, 1, (0, 0, 0, 0, 0))]
theorem o_BO_make_136 : jokL "ChessHouse$Board" lw_tbl jcl jtb 11 false prog_3_method_21_code 136 k_BO_make_136 = true := jok_sub oo_BO_make_0 81 12 rfl rfl
noncomputable def k_BO_make_157 : List jI := [(.aload_n 0, 1, (0, 0, 0, 0, 0)), (.iload_n 2, 1, (2, 0, 0, 0, 0)), (.iconst 1, 1, (0, 0, 0, 1, 0)), (.iadd, 1, (0, 0, 0, 0, 0)), (.aload_n 0, 1, (0, 0, 0, 0, 0)), (.getfield 77, 3, (10, 2, 667, 0, 0)), (.iconst 3, 1, (0, 0, 0, 3, 0)), (.ishl, 1, (0, 0, 0, 0, 0)), (.iconst 4, 1, (0, 0, 0, 4, 0)), (.ior, 1, (0, 0, 0, 0, 0))]
theorem o_BO_make_157 : jokL "ChessHouse$Board" lw_tbl jcl jtb 11 false prog_3_method_21_code 157 k_BO_make_157 = true := jok_sub oo_BO_make_0 94 10 rfl rfl
noncomputable def k_BO_make_172 : List jI := [(.goto 39, 3, (211, 0, 0, 0, 0))]
theorem o_BO_make_172 : jokL "ChessHouse$Board" lw_tbl jcl jtb 11 false prog_3_method_21_code 172 k_BO_make_172 = true := jok_sub oo_BO_make_172 0 1 rfl rfl
noncomputable def k_BO_make_175 : List jI := [(.iload 6, 2, (6, 0, 0, 0, 0)), (.bipush 6, 2, (0, 0, 0, 6, 0)), (.if_icmp .ne 32, 3, (211, 0, 0, 0, 0)), (.iload_n 2, 1, (2, 0, 0, 0, 0)), (.iload_n 3, 1, (3, 0, 0, 0, 0)), (.isub, 1, (0, 0, 0, 0, 0)), (.iconst 2, 1, (0, 0, 0, 2, 0)), (.if_icmp .ne 25, 3, (211, 0, 0, 0, 0)), (.aload_n 0, 1, (0, 0, 0, 0, 0)), (.iload_n 2, 1, (2, 0, 0, 0, 0)), (.iconst 4, 1, (0, 0, 0, 4, 0)), (.isub, 1, (0, 0, 0, 0, 0))]
theorem o_BO_make_175 : jokL "ChessHouse$Board" lw_tbl jcl jtb 11 false prog_3_method_21_code 175 k_BO_make_175 = true := jok_sub oo_BO_make_172 1 12 rfl rfl
noncomputable def k_BO_make_196 : List jI := [(.aload_n 0, 1, (0, 0, 0, 0, 0)), (.iload_n 2, 1, (2, 0, 0, 0, 0)), (.iconst 1, 1, (0, 0, 0, 1, 0)), (.isub, 1, (0, 0, 0, 0, 0)), (.aload_n 0, 1, (0, 0, 0, 0, 0)), (.getfield 77, 3, (10, 2, 667, 0, 0)), (.iconst 3, 1, (0, 0, 0, 3, 0)), (.ishl, 1, (0, 0, 0, 0, 0)), (.iconst 4, 1, (0, 0, 0, 4, 0)), (.ior, 1, (0, 0, 0, 0, 0))]
theorem o_BO_make_196 : jokL "ChessHouse$Board" lw_tbl jcl jtb 11 false prog_3_method_21_code 196 k_BO_make_196 = true := jok_sub oo_BO_make_172 14 10 rfl rfl
noncomputable def k_BO_make_211 : List jI := [(.aload_n 0, 1, (0, 0, 0, 0, 0)), (.dup, 1, (0, 0, 0, 0, 0)), (.getfield 81, 3, (10, 3, 669, 0, 0)), (.getstatic 135, 3, (4, 0, 1307, 0, 0)), (.iload_n 2, 1, (2, 0, 0, 0, 0)), (.iaload, 1, (0, 0, 0, 0, 0)), (.getstatic 135, 3, (4, 0, 1307, 0, 0)), (.iload_n 3, 1, (3, 0, 0, 0, 0)), (.iaload, 1, (0, 0, 0, 0, 0)), (.iand, 1, (0, 0, 0, 0, 0)), (.iand, 1, (0, 0, 0, 0, 0)), (.putfield 81, 3, (10, 3, 669, 0, 0))]
theorem o_BO_make_211 : jokL "ChessHouse$Board" lw_tbl jcl jtb 11 false prog_3_method_21_code 211 k_BO_make_211 = true := jok_sub oo_BO_make_172 25 12 rfl rfl
noncomputable def k_BO_make_231 : List jI := [(.aload_n 0, 1, (0, 0, 0, 0, 0)), (.iload 6, 2, (6, 0, 0, 0, 0)), (.iconst 1, 1, (0, 0, 0, 1, 0)), (.if_icmp .ne 12, 3, (247, 0, 0, 0, 0)), (.aload_n 0, 1, (0, 0, 0, 0, 0)), (.iload_n 2, 1, (2, 0, 0, 0, 0)), (.iload_n 3, 1, (3, 0, 0, 0, 0))]
theorem o_BO_make_231 : jokL "ChessHouse$Board" lw_tbl jcl jtb 11 false prog_3_method_21_code 231 k_BO_make_231 = true := jok_sub oo_BO_make_172 37 7 rfl rfl
noncomputable def k_BO_make_244 : List jI := [(.goto 4, 3, (248, 0, 0, 0, 0))]
theorem o_BO_make_244 : jokL "ChessHouse$Board" lw_tbl jcl jtb 11 false prog_3_method_21_code 244 k_BO_make_244 = true := jok_sub oo_BO_make_172 45 1 rfl rfl
noncomputable def k_BO_make_247 : List jI := [(.iconst (-1), 1, (0, 0, 0, (-1), 0))]
theorem o_BO_make_247 : jokL "ChessHouse$Board" lw_tbl jcl jtb 11 false prog_3_method_21_code 247 k_BO_make_247 = true := jok_sub oo_BO_make_172 46 1 rfl rfl
noncomputable def k_BO_make_248 : List jI := [(.putfield 84, 3, (10, 4, 670, 0, 0))]
theorem o_BO_make_248 : jokL "ChessHouse$Board" lw_tbl jcl jtb 11 false prog_3_method_21_code 248 k_BO_make_248 = true := jok_sub oo_BO_make_172 47 1 rfl rfl
noncomputable def k_BO_make_251 : List jI := [(.aload_n 0, 1, (0, 0, 0, 0, 0)), (.iload 6, 2, (6, 0, 0, 0, 0)), (.iconst 1, 1, (0, 0, 0, 1, 0)), (.if_icmp .eq 8, 3, (263, 0, 0, 0, 0)), (.iload 8, 2, (8, 0, 0, 0, 0)), (.ifCond .eq 7, 3, (267, 0, 0, 0, 0))]
theorem o_BO_make_251 : jokL "ChessHouse$Board" lw_tbl jcl jtb 11 false prog_3_method_21_code 251 k_BO_make_251 = true := jok_sub oo_BO_make_172 48 6 rfl rfl
noncomputable def k_BO_make_263 : List jI := [(.iconst 0, 1, (0, 0, 0, 0, 0)), (.goto 9, 3, (273, 0, 0, 0, 0))]
theorem o_BO_make_263 : jokL "ChessHouse$Board" lw_tbl jcl jtb 11 false prog_3_method_21_code 263 k_BO_make_263 = true := jok_sub oo_BO_make_172 54 2 rfl rfl
noncomputable def k_BO_make_267 : List jI := [(.aload_n 0, 1, (0, 0, 0, 0, 0)), (.getfield 87, 3, (10, 5, 671, 0, 0)), (.iconst 1, 1, (0, 0, 0, 1, 0)), (.iadd, 1, (0, 0, 0, 0, 0))]
theorem o_BO_make_267 : jokL "ChessHouse$Board" lw_tbl jcl jtb 11 false prog_3_method_21_code 267 k_BO_make_267 = true := jok_sub oo_BO_make_172 56 4 rfl rfl
noncomputable def k_BO_make_273 : List jI := [(.putfield 87, 3, (10, 5, 671, 0, 0))]
theorem o_BO_make_273 : jokL "ChessHouse$Board" lw_tbl jcl jtb 11 false prog_3_method_21_code 273 k_BO_make_273 = true := jok_sub oo_BO_make_172 60 1 rfl rfl
noncomputable def k_BO_make_276 : List jI := [(.aload_n 0, 1, (0, 0, 0, 0, 0)), (.dup, 1, (0, 0, 0, 0, 0)), (.getfield 90, 3, (10, 6, 674, 0, 0)), (.aload_n 0, 1, (0, 0, 0, 0, 0)), (.getfield 77, 3, (10, 2, 667, 0, 0)), (.iadd, 1, (0, 0, 0, 0, 0)), (.putfield 90, 3, (10, 6, 674, 0, 0))]
theorem o_BO_make_276 : jokL "ChessHouse$Board" lw_tbl jcl jtb 11 false prog_3_method_21_code 276 k_BO_make_276 = true := jok_sub oo_BO_make_172 61 7 rfl rfl
noncomputable def k_BO_make_289 : List jI := [(.aload_n 0, 1, (0, 0, 0, 0, 0)), (.dup, 1, (0, 0, 0, 0, 0)), (.getfield 77, 3, (10, 2, 667, 0, 0)), (.iconst 1, 1, (0, 0, 0, 1, 0)), (.ixor, 1, (0, 0, 0, 0, 0)), (.putfield 77, 3, (10, 2, 667, 0, 0)), (.lload 9, 2, (9, 0, 0, 0, 0))]
theorem o_BO_make_289 : jokL "ChessHouse$Board" lw_tbl jcl jtb 11 false prog_3_method_21_code 289 k_BO_make_289 = true := jok_sub oo_BO_make_172 68 7 rfl rfl
theorem d_BO_make_48 : decode prog_3_method_21_code 48 = .ok (.invokevirtual 125, 3) := by decide +kernel
theorem q_BO_make_48 : jlm lw_tbl 1179 "ChessHouse$Board" 125 ⟨"ChessHouse$Board", "passedPawn", "()I"⟩ = true := jlm_of (Or.inl (jtF_ok rfl))
theorem d_BO_make_99 : decode prog_3_method_21_code 99 = .ok (.invokevirtual 132, 3) := by decide +kernel
theorem q_BO_make_99 : jlm lw_tbl 1286 "ChessHouse$Board" 132 ⟨"ChessHouse$Board", "lift", "(I)V"⟩ = true := jlm_of (Or.inl (jtF_ok rfl))
theorem d_BO_make_110 : decode prog_3_method_21_code 110 = .ok (.invokevirtual 132, 3) := by decide +kernel
theorem q_BO_make_110 : jlm lw_tbl 1286 "ChessHouse$Board" 132 ⟨"ChessHouse$Board", "lift", "(I)V"⟩ = true := jlm_of (Or.inl (jtF_ok rfl))
theorem d_BO_make_133 : decode prog_3_method_21_code 133 = .ok (.invokevirtual 102, 3) := by decide +kernel
theorem q_BO_make_133 : jlm lw_tbl 656 "ChessHouse$Board" 102 ⟨"ChessHouse$Board", "put", "(II)V"⟩ = true := jlm_of (Or.inl (jtF_ok rfl))
theorem d_BO_make_154 : decode prog_3_method_21_code 154 = .ok (.invokevirtual 132, 3) := by decide +kernel
theorem q_BO_make_154 : jlm lw_tbl 1286 "ChessHouse$Board" 132 ⟨"ChessHouse$Board", "lift", "(I)V"⟩ = true := jlm_of (Or.inl (jtF_ok rfl))
theorem d_BO_make_169 : decode prog_3_method_21_code 169 = .ok (.invokevirtual 102, 3) := by decide +kernel
theorem q_BO_make_169 : jlm lw_tbl 656 "ChessHouse$Board" 102 ⟨"ChessHouse$Board", "put", "(II)V"⟩ = true := jlm_of (Or.inl (jtF_ok rfl))
theorem d_BO_make_193 : decode prog_3_method_21_code 193 = .ok (.invokevirtual 132, 3) := by decide +kernel
theorem q_BO_make_193 : jlm lw_tbl 1286 "ChessHouse$Board" 132 ⟨"ChessHouse$Board", "lift", "(I)V"⟩ = true := jlm_of (Or.inl (jtF_ok rfl))
theorem d_BO_make_208 : decode prog_3_method_21_code 208 = .ok (.invokevirtual 102, 3) := by decide +kernel
theorem q_BO_make_208 : jlm lw_tbl 656 "ChessHouse$Board" 102 ⟨"ChessHouse$Board", "put", "(II)V"⟩ = true := jlm_of (Or.inl (jtF_ok rfl))
theorem d_BO_make_241 : decode prog_3_method_21_code 241 = .ok (.invokevirtual 138, 3) := by decide +kernel
theorem q_BO_make_241 : jlm lw_tbl 1309 "ChessHouse$Board" 138 ⟨"ChessHouse$Board", "passedBy", "(II)I"⟩ = true := jlm_of (Or.inl (jtF_ok rfl))
theorem d_BO_make_301 : decode prog_3_method_21_code 301 = .ok (.lreturn, 1) := by decide +kernel
noncomputable def y_BO_unmake : jY := (⟨"ChessHouse$Board", "unmake", "(IJ)V"⟩, prog_3_method_23_code, 9, none)
theorem m_BO_unmake : jmth lw_tbl y_BO_unmake 2 := ⟨jTA_in (wi := 1285) (jtF_ok rfl) rfl, jTA_in (wi := 312) (jtF_ok rfl) rfl, by decide, by decide, by decide +kernel⟩
theorem i_BO_unmake : Jvm.Cond.instanceMethod y_BO_unmake.1 ∈ jTA lw_tbl := jTA_in (wi := 1283) (jtF_ok rfl) rfl
theorem e_BO_unmake : Jvm.Cond.selects y_BO_unmake.1.cls y_BO_unmake.1 y_BO_unmake.1 ∈ jTA lw_tbl := jTA_in (wi := 1284) (jtF_ok rfl) rfl
noncomputable def kk_BO_unmake_0 : List jI := [(.iload_n 1, 1, (1, 0, 0, 0, 0)), (.bipush 9, 2, (0, 0, 0, 9, 0)), (.ishr, 1, (0, 0, 0, 0, 0)), (.istore 4, 2, (4, 0, 0, 0, 0)), (.iload_n 1, 1, (1, 0, 0, 0, 0)), (.iconst 3, 1, (0, 0, 0, 3, 0)), (.ishr, 1, (0, 0, 0, 0, 0)), (.bipush 63, 2, (0, 0, 0, 63, 0)), (.iand, 1, (0, 0, 0, 0, 0)), (.istore 5, 2, (5, 0, 0, 0, 0)), (.aload_n 0, 1, (0, 0, 0, 0, 0)), (.dup, 1, (0, 0, 0, 0, 0)), (.getfield 77, 3, (10, 2, 667, 0, 0)), (.iconst 1, 1, (0, 0, 0, 1, 0)), (.ixor, 1, (0, 0, 0, 0, 0)), (.putfield 77, 3, (10, 2, 667, 0, 0)), (.aload_n 0, 1, (0, 0, 0, 0, 0)), (.dup, 1, (0, 0, 0, 0, 0)), (.getfield 90, 3, (10, 6, 674, 0, 0)), (.aload_n 0, 1, (0, 0, 0, 0, 0)), (.getfield 77, 3, (10, 2, 667, 0, 0)), (.isub, 1, (0, 0, 0, 0, 0)), (.putfield 90, 3, (10, 6, 674, 0, 0)), (.aload_n 0, 1, (0, 0, 0, 0, 0)), (.lload_n 2, 1, (2, 0, 0, 0, 0)), (.iconst 4, 1, (0, 0, 0, 4, 0)), (.lshr, 1, (0, 0, 0, 0, 0)), (.l2i, 1, (0, 0, 0, 0, 0)), (.bipush 15, 2, (0, 0, 0, 15, 0)), (.iand, 1, (0, 0, 0, 0, 0)), (.putfield 81, 3, (10, 3, 669, 0, 0)), (.aload_n 0, 1, (0, 0, 0, 0, 0)), (.lload_n 2, 1, (2, 0, 0, 0, 0)), (.bipush 8, 2, (0, 0, 0, 8, 0)), (.lshr, 1, (0, 0, 0, 0, 0)), (.l2i, 1, (0, 0, 0, 0, 0)), (.bipush 127, 2, (0, 0, 0, 127, 0)), (.iand, 1, (0, 0, 0, 0, 0)), (.iconst 1, 1, (0, 0, 0, 1, 0)), (.isub, 1, (0, 0, 0, 0, 0)), (.putfield 84, 3, (10, 4, 670, 0, 0)), (.aload_n 0, 1, (0, 0, 0, 0, 0)), (.lload_n 2, 1, (2, 0, 0, 0, 0)), (.bipush 16, 2, (0, 0, 0, 16, 0)), (.lshr, 1, (0, 0, 0, 0, 0)), (.l2i, 1, (0, 0, 0, 0, 0)), (.putfield 87, 3, (10, 5, 671, 0, 0)), (.iload_n 1, 1, (1, 0, 0, 0, 0)), (.bipush 7, 2, (0, 0, 0, 7, 0)), (.iand, 1, (0, 0, 0, 0, 0)), (.ifCond .ne 13, 3, (88, 0, 0, 0, 0)), (.aload_n 0, 1, (0, 0, 0, 0, 0)), (.getfield 7, 3, (10, 0, 660, 0, 0)), (.iload 5, 2, (5, 0, 0, 0, 0)), (.iaload, 1, (0, 0, 0, 0, 0)), (.goto 11, 3, (96, 0, 0, 0, 0)), (.aload_n 0, 1, (0, 0, 0, 0, 0)), (.getfield 77, 3, (10, 2, 667, 0, 0)), (.iconst 3, 1, (0, 0, 0, 3, 0)), (.ishl, 1, (0, 0, 0, 0, 0)), (.iconst 1, 1, (0, 0, 0, 1, 0)), (.ior, 1, (0, 0, 0, 0, 0)), (.istore 6, 2, (6, 0, 0, 0, 0)), (.iload 6, 2, (6, 0, 0, 0, 0)), (.bipush 7, 2, (0, 0, 0, 7, 0)), (.iand, 1, (0, 0, 0, 0, 0)), (.istore 7, 2, (7, 0, 0, 0, 0)), (.lload_n 2, 1, (2, 0, 0, 0, 0)), (.l2i, 1, (0, 0, 0, 0, 0)), (.bipush 15, 2, (0, 0, 0, 15, 0)), (.iand, 1, (0, 0, 0, 0, 0)), (.istore 8, 2, (8, 0, 0, 0, 0)), (.aload_n 0, 1, (0, 0, 0, 0, 0)), (.iload 5, 2, (5, 0, 0, 0, 0)), (.invokevirtual 132, 3, (0, 0, 0, 0, 0)), (.aload_n 0, 1, (0, 0, 0, 0, 0)), (.iload 4, 2, (4, 0, 0, 0, 0)), (.iload 6, 2, (6, 0, 0, 0, 0)), (.invokevirtual 102, 3, (0, 0, 0, 0, 0)), (.iload 8, 2, (8, 0, 0, 0, 0)), (.ifCond .eq 33, 3, (161, 0, 0, 0, 0)), (.aload_n 0, 1, (0, 0, 0, 0, 0)), (.iload 7, 2, (7, 0, 0, 0, 0)), (.iconst 1, 1, (0, 0, 0, 1, 0)), (.if_icmp .ne 19, 3, (154, 0, 0, 0, 0)), (.iload 5, 2, (5, 0, 0, 0, 0)), (.aload_n 0, 1, (0, 0, 0, 0, 0)), (.getfield 84, 3, (10, 4, 670, 0, 0)), (.if_icmp .ne 10, 3, (154, 0, 0, 0, 0)), (.aload_n 0, 1, (0, 0, 0, 0, 0)), (.invokevirtual 125, 3, (0, 0, 0, 0, 0)), (.goto 5, 3, (156, 0, 0, 0, 0)), (.iload 5, 2, (5, 0, 0, 0, 0)), (.iload 8, 2, (8, 0, 0, 0, 0)), (.invokevirtual 102, 3, (0, 0, 0, 0, 0)), (.iload 7, 2, (7, 0, 0, 0, 0)), (.bipush 6, 2, (0, 0, 0, 6, 0)), (.if_icmp .ne 39, 3, (204, 0, 0, 0, 0)), (.iload 5, 2, (5, 0, 0, 0, 0)), (.iload 4, 2, (4, 0, 0, 0, 0)), (.isub, 1, (0, 0, 0, 0, 0)), (.iconst 2, 1, (0, 0, 0, 2, 0)), (.if_icmp .ne 30, 3, (204, 0, 0, 0, 0)), (.aload_n 0, 1, (0, 0, 0, 0, 0)), (.iload 4, 2, (4, 0, 0, 0, 0)), (.iconst 1, 1, (0, 0, 0, 1, 0)), (.iadd, 1, (0, 0, 0, 0, 0)), (.invokevirtual 132, 3, (0, 0, 0, 0, 0))]
theorem oo_BO_unmake_0 : jokL "ChessHouse$Board" lw_tbl jcl jtb 9 false prog_3_method_23_code 0 kk_BO_unmake_0 = true := jokLF_ok (fun _ _ => jtF_ok) lo_BO (by decide +kernel)
noncomputable def kk_BO_unmake_185 : List jI := [(.aload_n 0, 1, (0, 0, 0, 0, 0)), (.iload 4, 2, (4, 0, 0, 0, 0)), (.iconst 3, 1, (0, 0, 0, 3, 0)), (.iadd, 1, (0, 0, 0, 0, 0)), (.aload_n 0, 1, (0, 0, 0, 0, 0)), (.getfield 77, 3, (10, 2, 667, 0, 0)), (.iconst 3, 1, (0, 0, 0, 3, 0)), (.ishl, 1, (0, 0, 0, 0, 0)), (.iconst 4, 1, (0, 0, 0, 4, 0)), (.ior, 1, (0, 0, 0, 0, 0)), (.invokevirtual 102, 3, (0, 0, 0, 0, 0)), (.goto 43, 3, (244, 0, 0, 0, 0)), (.iload 7, 2, (7, 0, 0, 0, 0)), (.bipush 6, 2, (0, 0, 0, 6, 0)), (.if_icmp .ne 36, 3, (244, 0, 0, 0, 0)), (.iload 4, 2, (4, 0, 0, 0, 0)), (.iload 5, 2, (5, 0, 0, 0, 0)), (.isub, 1, (0, 0, 0, 0, 0)), (.iconst 2, 1, (0, 0, 0, 2, 0)), (.if_icmp .ne 27, 3, (244, 0, 0, 0, 0)), (.aload_n 0, 1, (0, 0, 0, 0, 0)), (.iload 4, 2, (4, 0, 0, 0, 0)), (.iconst 1, 1, (0, 0, 0, 1, 0)), (.isub, 1, (0, 0, 0, 0, 0)), (.invokevirtual 132, 3, (0, 0, 0, 0, 0)), (.aload_n 0, 1, (0, 0, 0, 0, 0)), (.iload 4, 2, (4, 0, 0, 0, 0)), (.iconst 4, 1, (0, 0, 0, 4, 0)), (.isub, 1, (0, 0, 0, 0, 0)), (.aload_n 0, 1, (0, 0, 0, 0, 0)), (.getfield 77, 3, (10, 2, 667, 0, 0)), (.iconst 3, 1, (0, 0, 0, 3, 0)), (.ishl, 1, (0, 0, 0, 0, 0)), (.iconst 4, 1, (0, 0, 0, 4, 0)), (.ior, 1, (0, 0, 0, 0, 0)), (.invokevirtual 102, 3, (0, 0, 0, 0, 0)), (.return_, 1, (0, 0, 0, 0, 0))]
theorem oo_BO_unmake_185 : jokL "ChessHouse$Board" lw_tbl jcl jtb 9 false prog_3_method_23_code 185 kk_BO_unmake_185 = true := jokLF_ok (fun _ _ => jtF_ok) lo_BO (by decide +kernel)
noncomputable def k_BO_unmake_0 : List jI := [(.iload_n 1, 1, (1, 0, 0, 0, 0)), (.bipush 9, 2, (0, 0, 0, 9, 0)), (.ishr, 1, (0, 0, 0, 0, 0)), (.istore 4, 2, (4, 0, 0, 0, 0)), (.iload_n 1, 1, (1, 0, 0, 0, 0)), (.iconst 3, 1, (0, 0, 0, 3, 0)), (.ishr, 1, (0, 0, 0, 0, 0)), (.bipush 63, 2, (0, 0, 0, 63, 0)), (.iand, 1, (0, 0, 0, 0, 0)), (.istore 5, 2, (5, 0, 0, 0, 0))]
theorem o_BO_unmake_0 : jokL "ChessHouse$Board" lw_tbl jcl jtb 9 false prog_3_method_23_code 0 k_BO_unmake_0 = true := jok_sub oo_BO_unmake_0 0 10 rfl rfl
noncomputable def k_BO_unmake_14 : List jI := [(.aload_n 0, 1, (0, 0, 0, 0, 0)), (.dup, 1, (0, 0, 0, 0, 0)), (.getfield 77, 3, (10, 2, 667, 0, 0)), (.iconst 1, 1, (0, 0, 0, 1, 0)), (.ixor, 1, (0, 0, 0, 0, 0)), (.putfield 77, 3, (10, 2, 667, 0, 0))]
theorem o_BO_unmake_14 : jokL "ChessHouse$Board" lw_tbl jcl jtb 9 false prog_3_method_23_code 14 k_BO_unmake_14 = true := jok_sub oo_BO_unmake_0 10 6 rfl rfl
noncomputable def k_BO_unmake_24 : List jI := [(.aload_n 0, 1, (0, 0, 0, 0, 0)), (.dup, 1, (0, 0, 0, 0, 0)), (.getfield 90, 3, (10, 6, 674, 0, 0)), (.aload_n 0, 1, (0, 0, 0, 0, 0)), (.getfield 77, 3, (10, 2, 667, 0, 0)), (.isub, 1, (0, 0, 0, 0, 0)), (.putfield 90, 3, (10, 6, 674, 0, 0))]
theorem o_BO_unmake_24 : jokL "ChessHouse$Board" lw_tbl jcl jtb 9 false prog_3_method_23_code 24 k_BO_unmake_24 = true := jok_sub oo_BO_unmake_0 16 7 rfl rfl
noncomputable def k_BO_unmake_37 : List jI := [(.aload_n 0, 1, (0, 0, 0, 0, 0)), (.lload_n 2, 1, (2, 0, 0, 0, 0)), (.iconst 4, 1, (0, 0, 0, 4, 0)), (.lshr, 1, (0, 0, 0, 0, 0)), (.l2i, 1, (0, 0, 0, 0, 0)), (.bipush 15, 2, (0, 0, 0, 15, 0)), (.iand, 1, (0, 0, 0, 0, 0)), (.putfield 81, 3, (10, 3, 669, 0, 0))]
theorem o_BO_unmake_37 : jokL "ChessHouse$Board" lw_tbl jcl jtb 9 false prog_3_method_23_code 37 k_BO_unmake_37 = true := jok_sub oo_BO_unmake_0 23 8 rfl rfl
noncomputable def k_BO_unmake_48 : List jI := [(.aload_n 0, 1, (0, 0, 0, 0, 0)), (.lload_n 2, 1, (2, 0, 0, 0, 0)), (.bipush 8, 2, (0, 0, 0, 8, 0)), (.lshr, 1, (0, 0, 0, 0, 0)), (.l2i, 1, (0, 0, 0, 0, 0)), (.bipush 127, 2, (0, 0, 0, 127, 0)), (.iand, 1, (0, 0, 0, 0, 0)), (.iconst 1, 1, (0, 0, 0, 1, 0)), (.isub, 1, (0, 0, 0, 0, 0)), (.putfield 84, 3, (10, 4, 670, 0, 0))]
theorem o_BO_unmake_48 : jokL "ChessHouse$Board" lw_tbl jcl jtb 9 false prog_3_method_23_code 48 k_BO_unmake_48 = true := jok_sub oo_BO_unmake_0 31 10 rfl rfl
noncomputable def k_BO_unmake_62 : List jI := [(.aload_n 0, 1, (0, 0, 0, 0, 0)), (.lload_n 2, 1, (2, 0, 0, 0, 0)), (.bipush 16, 2, (0, 0, 0, 16, 0)), (.lshr, 1, (0, 0, 0, 0, 0)), (.l2i, 1, (0, 0, 0, 0, 0)), (.putfield 87, 3, (10, 5, 671, 0, 0))]
theorem o_BO_unmake_62 : jokL "ChessHouse$Board" lw_tbl jcl jtb 9 false prog_3_method_23_code 62 k_BO_unmake_62 = true := jok_sub oo_BO_unmake_0 41 6 rfl rfl
noncomputable def k_BO_unmake_71 : List jI := [(.iload_n 1, 1, (1, 0, 0, 0, 0)), (.bipush 7, 2, (0, 0, 0, 7, 0)), (.iand, 1, (0, 0, 0, 0, 0)), (.ifCond .ne 13, 3, (88, 0, 0, 0, 0)), (.aload_n 0, 1, (0, 0, 0, 0, 0)), (.getfield 7, 3, (10, 0, 660, 0, 0)), (.iload 5, 2, (5, 0, 0, 0, 0)), (.iaload, 1, (0, 0, 0, 0, 0)), (.goto 11, 3, (96, 0, 0, 0, 0))]
theorem o_BO_unmake_71 : jokL "ChessHouse$Board" lw_tbl jcl jtb 9 false prog_3_method_23_code 71 k_BO_unmake_71 = true := jok_sub oo_BO_unmake_0 47 9 rfl rfl
noncomputable def k_BO_unmake_88 : List jI := [(.aload_n 0, 1, (0, 0, 0, 0, 0)), (.getfield 77, 3, (10, 2, 667, 0, 0)), (.iconst 3, 1, (0, 0, 0, 3, 0)), (.ishl, 1, (0, 0, 0, 0, 0)), (.iconst 1, 1, (0, 0, 0, 1, 0)), (.ior, 1, (0, 0, 0, 0, 0))]
theorem o_BO_unmake_88 : jokL "ChessHouse$Board" lw_tbl jcl jtb 9 false prog_3_method_23_code 88 k_BO_unmake_88 = true := jok_sub oo_BO_unmake_0 56 6 rfl rfl
noncomputable def k_BO_unmake_96 : List jI := [(.istore 6, 2, (6, 0, 0, 0, 0)), (.iload 6, 2, (6, 0, 0, 0, 0)), (.bipush 7, 2, (0, 0, 0, 7, 0)), (.iand, 1, (0, 0, 0, 0, 0)), (.istore 7, 2, (7, 0, 0, 0, 0)), (.lload_n 2, 1, (2, 0, 0, 0, 0)), (.l2i, 1, (0, 0, 0, 0, 0)), (.bipush 15, 2, (0, 0, 0, 15, 0)), (.iand, 1, (0, 0, 0, 0, 0)), (.istore 8, 2, (8, 0, 0, 0, 0)), (.aload_n 0, 1, (0, 0, 0, 0, 0)), (.iload 5, 2, (5, 0, 0, 0, 0))]
theorem o_BO_unmake_96 : jokL "ChessHouse$Board" lw_tbl jcl jtb 9 false prog_3_method_23_code 96 k_BO_unmake_96 = true := jok_sub oo_BO_unmake_0 62 12 rfl rfl
noncomputable def k_BO_unmake_118 : List jI := [(.aload_n 0, 1, (0, 0, 0, 0, 0)), (.iload 4, 2, (4, 0, 0, 0, 0)), (.iload 6, 2, (6, 0, 0, 0, 0))]
theorem o_BO_unmake_118 : jokL "ChessHouse$Board" lw_tbl jcl jtb 9 false prog_3_method_23_code 118 k_BO_unmake_118 = true := jok_sub oo_BO_unmake_0 75 3 rfl rfl
noncomputable def k_BO_unmake_126 : List jI := [(.iload 8, 2, (8, 0, 0, 0, 0)), (.ifCond .eq 33, 3, (161, 0, 0, 0, 0)), (.aload_n 0, 1, (0, 0, 0, 0, 0)), (.iload 7, 2, (7, 0, 0, 0, 0)), (.iconst 1, 1, (0, 0, 0, 1, 0)), (.if_icmp .ne 19, 3, (154, 0, 0, 0, 0)), (.iload 5, 2, (5, 0, 0, 0, 0)), (.aload_n 0, 1, (0, 0, 0, 0, 0)), (.getfield 84, 3, (10, 4, 670, 0, 0)), (.if_icmp .ne 10, 3, (154, 0, 0, 0, 0)), (.aload_n 0, 1, (0, 0, 0, 0, 0))]
theorem o_BO_unmake_126 : jokL "ChessHouse$Board" lw_tbl jcl jtb 9 false prog_3_method_23_code 126 k_BO_unmake_126 = true := jok_sub oo_BO_unmake_0 79 11 rfl rfl
noncomputable def k_BO_unmake_151 : List jI := [(.goto 5, 3, (156, 0, 0, 0, 0))]
theorem o_BO_unmake_151 : jokL "ChessHouse$Board" lw_tbl jcl jtb 9 false prog_3_method_23_code 151 k_BO_unmake_151 = true := jok_sub oo_BO_unmake_0 91 1 rfl rfl
noncomputable def k_BO_unmake_154 : List jI := [(.iload 5, 2, (5, 0, 0, 0, 0))]
theorem o_BO_unmake_154 : jokL "ChessHouse$Board" lw_tbl jcl jtb 9 false prog_3_method_23_code 154 k_BO_unmake_154 = true := jok_sub oo_BO_unmake_0 92 1 rfl rfl
noncomputable def k_BO_unmake_156 : List jI := [(.iload 8, 2, (8, 0, 0, 0, 0))]
theorem o_BO_unmake_156 : jokL "ChessHouse$Board" lw_tbl jcl jtb 9 false prog_3_method_23_code 156 k_BO_unmake_156 = true := jok_sub oo_BO_unmake_0 93 1 rfl rfl
noncomputable def k_BO_unmake_161 : List jI := [(.iload 7, 2, (7, 0, 0, 0, 0)), (.bipush 6, 2, (0, 0, 0, 6, 0)), (.if_icmp .ne 39, 3, (204, 0, 0, 0, 0)), (.iload 5, 2, (5, 0, 0, 0, 0)), (.iload 4, 2, (4, 0, 0, 0, 0)), (.isub, 1, (0, 0, 0, 0, 0)), (.iconst 2, 1, (0, 0, 0, 2, 0)), (.if_icmp .ne 30, 3, (204, 0, 0, 0, 0)), (.aload_n 0, 1, (0, 0, 0, 0, 0)), (.iload 4, 2, (4, 0, 0, 0, 0)), (.iconst 1, 1, (0, 0, 0, 1, 0)), (.iadd, 1, (0, 0, 0, 0, 0))]
theorem o_BO_unmake_161 : jokL "ChessHouse$Board" lw_tbl jcl jtb 9 false prog_3_method_23_code 161 k_BO_unmake_161 = true := jok_sub oo_BO_unmake_0 95 12 rfl rfl
noncomputable def k_BO_unmake_185 : List jI := [(.aload_n 0, 1, (0, 0, 0, 0, 0)), (.iload 4, 2, (4, 0, 0, 0, 0)), (.iconst 3, 1, (0, 0, 0, 3, 0)), (.iadd, 1, (0, 0, 0, 0, 0)), (.aload_n 0, 1, (0, 0, 0, 0, 0)), (.getfield 77, 3, (10, 2, 667, 0, 0)), (.iconst 3, 1, (0, 0, 0, 3, 0)), (.ishl, 1, (0, 0, 0, 0, 0)), (.iconst 4, 1, (0, 0, 0, 4, 0)), (.ior, 1, (0, 0, 0, 0, 0))]
theorem o_BO_unmake_185 : jokL "ChessHouse$Board" lw_tbl jcl jtb 9 false prog_3_method_23_code 185 k_BO_unmake_185 = true := jok_sub oo_BO_unmake_185 0 10 rfl rfl
noncomputable def k_BO_unmake_201 : List jI := [(.goto 43, 3, (244, 0, 0, 0, 0))]
theorem o_BO_unmake_201 : jokL "ChessHouse$Board" lw_tbl jcl jtb 9 false prog_3_method_23_code 201 k_BO_unmake_201 = true := jok_sub oo_BO_unmake_185 11 1 rfl rfl
noncomputable def k_BO_unmake_204 : List jI := [(.iload 7, 2, (7, 0, 0, 0, 0)), (.bipush 6, 2, (0, 0, 0, 6, 0)), (.if_icmp .ne 36, 3, (244, 0, 0, 0, 0)), (.iload 4, 2, (4, 0, 0, 0, 0)), (.iload 5, 2, (5, 0, 0, 0, 0)), (.isub, 1, (0, 0, 0, 0, 0)), (.iconst 2, 1, (0, 0, 0, 2, 0)), (.if_icmp .ne 27, 3, (244, 0, 0, 0, 0)), (.aload_n 0, 1, (0, 0, 0, 0, 0)), (.iload 4, 2, (4, 0, 0, 0, 0)), (.iconst 1, 1, (0, 0, 0, 1, 0)), (.isub, 1, (0, 0, 0, 0, 0))]
theorem o_BO_unmake_204 : jokL "ChessHouse$Board" lw_tbl jcl jtb 9 false prog_3_method_23_code 204 k_BO_unmake_204 = true := jok_sub oo_BO_unmake_185 12 12 rfl rfl
noncomputable def k_BO_unmake_228 : List jI := [(.aload_n 0, 1, (0, 0, 0, 0, 0)), (.iload 4, 2, (4, 0, 0, 0, 0)), (.iconst 4, 1, (0, 0, 0, 4, 0)), (.isub, 1, (0, 0, 0, 0, 0)), (.aload_n 0, 1, (0, 0, 0, 0, 0)), (.getfield 77, 3, (10, 2, 667, 0, 0)), (.iconst 3, 1, (0, 0, 0, 3, 0)), (.ishl, 1, (0, 0, 0, 0, 0)), (.iconst 4, 1, (0, 0, 0, 4, 0)), (.ior, 1, (0, 0, 0, 0, 0))]
theorem o_BO_unmake_228 : jokL "ChessHouse$Board" lw_tbl jcl jtb 9 false prog_3_method_23_code 228 k_BO_unmake_228 = true := jok_sub oo_BO_unmake_185 25 10 rfl rfl
theorem d_BO_unmake_115 : decode prog_3_method_23_code 115 = .ok (.invokevirtual 132, 3) := by decide +kernel
theorem q_BO_unmake_115 : jlm lw_tbl 1286 "ChessHouse$Board" 132 ⟨"ChessHouse$Board", "lift", "(I)V"⟩ = true := jlm_of (Or.inl (jtF_ok rfl))
theorem d_BO_unmake_123 : decode prog_3_method_23_code 123 = .ok (.invokevirtual 102, 3) := by decide +kernel
theorem q_BO_unmake_123 : jlm lw_tbl 656 "ChessHouse$Board" 102 ⟨"ChessHouse$Board", "put", "(II)V"⟩ = true := jlm_of (Or.inl (jtF_ok rfl))
theorem d_BO_unmake_148 : decode prog_3_method_23_code 148 = .ok (.invokevirtual 125, 3) := by decide +kernel
theorem q_BO_unmake_148 : jlm lw_tbl 1179 "ChessHouse$Board" 125 ⟨"ChessHouse$Board", "passedPawn", "()I"⟩ = true := jlm_of (Or.inl (jtF_ok rfl))
theorem d_BO_unmake_158 : decode prog_3_method_23_code 158 = .ok (.invokevirtual 102, 3) := by decide +kernel
theorem q_BO_unmake_158 : jlm lw_tbl 656 "ChessHouse$Board" 102 ⟨"ChessHouse$Board", "put", "(II)V"⟩ = true := jlm_of (Or.inl (jtF_ok rfl))
theorem d_BO_unmake_182 : decode prog_3_method_23_code 182 = .ok (.invokevirtual 132, 3) := by decide +kernel
theorem q_BO_unmake_182 : jlm lw_tbl 1286 "ChessHouse$Board" 132 ⟨"ChessHouse$Board", "lift", "(I)V"⟩ = true := jlm_of (Or.inl (jtF_ok rfl))
theorem d_BO_unmake_198 : decode prog_3_method_23_code 198 = .ok (.invokevirtual 102, 3) := by decide +kernel
theorem q_BO_unmake_198 : jlm lw_tbl 656 "ChessHouse$Board" 102 ⟨"ChessHouse$Board", "put", "(II)V"⟩ = true := jlm_of (Or.inl (jtF_ok rfl))
theorem d_BO_unmake_225 : decode prog_3_method_23_code 225 = .ok (.invokevirtual 132, 3) := by decide +kernel
theorem q_BO_unmake_225 : jlm lw_tbl 1286 "ChessHouse$Board" 132 ⟨"ChessHouse$Board", "lift", "(I)V"⟩ = true := jlm_of (Or.inl (jtF_ok rfl))
theorem d_BO_unmake_241 : decode prog_3_method_23_code 241 = .ok (.invokevirtual 102, 3) := by decide +kernel
theorem q_BO_unmake_241 : jlm lw_tbl 656 "ChessHouse$Board" 102 ⟨"ChessHouse$Board", "put", "(II)V"⟩ = true := jlm_of (Or.inl (jtF_ok rfl))
theorem d_BO_unmake_244 : decode prog_3_method_23_code 244 = .ok (.return_, 1) := by decide +kernel
noncomputable def menOK (men : Nat → Int32) : Prop := ∀ i, i < 64 → ∃ m, m < 16 ∧ men i = nI m
noncomputable def kOK (K : Nat → Int32) : Prop := ∀ i, i < 2 → ∃ k, k < 64 ∧ K i = nI k
/-- the rows that a move never touches -/
noncomputable def bKeep (A A' : Nat → Nat → Int32) (L L' : Nat → Nat → Int64) : Prop := A' 6 = A 6 ∧ A' 7 = A 7 ∧ A' 8 = A 8 ∧ A' 10 = A 10 ∧ L' 9 = L 9
theorem bKeep.tr {A A' A2 : Nat → Nat → Int32} {L L' L2 : Nat → Nat → Int64} (h : bKeep A A' L L') (k : bKeep A' A2 L' L2) : bKeep A A2 L L2 := ⟨k.1.trans h.1, k.2.1.trans h.2.1, k.2.2.1.trans h.2.2.1, k.2.2.2.1.trans h.2.2.2.1, k.2.2.2.2.trans h.2.2.2.2⟩
theorem menOK_up {men : Nat → Int32} (h : menOK men) {s m : Nat} (hm : m < 16) : menOK (upd men s (nI m)) := by
  intro i hi
  unfold upd
  by_cases e : i = s
  · rw [if_pos e]; exact ⟨m, hm, rfl⟩
  · rw [if_neg e]; exact h i hi
/-- what a man is worth, and the men of one side -/
noncomputable def bW (W : Nat → Int32) (c : Nat) (m : Int32) (i : Nat) : Int32 := if m.toNatClampNeg = 0 then 0 else if m.toNatClampNeg / 8 = c then W (64 * m.toNatClampNeg + i) else 0
noncomputable def bSn (W : Nat → Int32) (c : Nat) (men : Nat → Int32) : Nat → Int32
  | 0 => 0
  | k + 1 => bSn W c men k + bW W c (men k) k
noncomputable def bWs (A : Nat → Nat → Int32) : Prop := ∀ c, c < 2 → A 3 c = bSn (A 6) c (A 0) 64
theorem bSn_hi {W : Nat → Int32} {c : Nat} {men : Nat → Int32} {s : Nat} {x : Int32} : ∀ k, k ≤ s → bSn W c (upd men s x) k = bSn W c men k
  | 0, _ => rfl
  | k + 1, h => by
    show bSn W c (upd men s x) k + bW W c (upd men s x k) k = bSn W c men k + bW W c (men k) k
    rw [bSn_hi k (by omega), show upd men s x k = men k from if_neg (by omega)]
theorem bSn_up {W : Nat → Int32} {c : Nat} {men : Nat → Int32} {s : Nat} {x : Int32} : ∀ k, s < k → bSn W c (upd men s x) k = bSn W c men k - bW W c (men s) s + bW W c x s
  | 0, h => absurd h (Nat.not_lt_zero _)
  | k + 1, h => by
    show bSn W c (upd men s x) k + bW W c (upd men s x k) k = bSn W c men k + bW W c (men k) k - bW W c (men s) s + bW W c x s
    by_cases e : s = k
    · subst e
      rw [bSn_hi s (Nat.le_refl _), show upd men s x s = x from if_pos rfl, Int32.add_sub_cancel]
    · rw [bSn_up k (by omega), show upd men s x k = men k from if_neg (by omega)]
      generalize bSn W c men k = u
      generalize bW W c (men k) k = v
      generalize bW W c (men s) s = w
      generalize bW W c x s = y
      rw [Int32.sub_eq_add_neg, Int32.sub_eq_add_neg, Int32.add_assoc, Int32.add_assoc, Int32.add_assoc, Int32.add_assoc, Int32.add_comm (-w) (y + v), Int32.add_comm y v, Int32.add_assoc, Int32.add_comm y (-w)]
theorem b_m8 : ∀ m, m < 16 → (nI m >>> (3 &&& 31)).toNatClampNeg = m / 8 := by decide +kernel
theorem b_m64 : ∀ m, m < 16 → ∀ s, s < 64 → (nI m <<< (6 &&& 31) ||| nI s).toNatClampNeg = 64 * m + s := by decide +kernel
theorem bWs_lift {A A' : Nat → Nat → Int32} {s m : Nat} (hs : s < 64) (hm : m < 16) (h0 : A 0 s = nI m) (hz : ¬ m = 0) (h3 : A' 3 = upd (A 3) (m / 8) (A 3 (m / 8) - A 6 (64 * m + s))) (h6 : A' 6 = A 6) (hA : A' 0 = upd (A 0) s 0) (h : bWs A) : bWs A' := by
  intro c hc
  rw [h3, h6, hA, bSn_up 64 hs, h0]
  have e0 : bW (A 6) c 0 s = 0 := rfl
  have e1 : bW (A 6) c (nI m) s = if m / 8 = c then A 6 (64 * m + s) else 0 := by
    unfold bW
    rw [nI_clamp (by omega), if_neg hz]
  rw [e0, e1, ← h c hc]
  unfold upd
  by_cases e : c = m / 8
  · subst e
    rw [if_pos rfl, if_pos rfl]
    exact (Int32.add_zero _).symm
  · rw [if_neg e, if_neg (fun q => e q.symm)]
    rw [Int32.add_zero, Int32.sub_zero]
theorem bWs_put {A A' : Nat → Nat → Int32} {s m : Nat} (hs : s < 64) (hm : m < 16) (h0 : A 0 s = 0) (hz : ¬ m = 0) (h3 : A' 3 = upd (A 3) (m / 8) (A 3 (m / 8) + A 6 (64 * m + s))) (h6 : A' 6 = A 6) (hA : A' 0 = upd (A 0) s (nI m)) (h : bWs A) : bWs A' := by
  intro c hc
  rw [h3, h6, hA, bSn_up 64 hs, h0]
  have e0 : bW (A 6) c 0 s = 0 := rfl
  have e1 : bW (A 6) c (nI m) s = if m / 8 = c then A 6 (64 * m + s) else 0 := by
    unfold bW
    rw [nI_clamp (by omega), if_neg hz]
  rw [e0, e1, ← h c hc, Int32.sub_zero]
  unfold upd
  by_cases e : c = m / 8
  · subst e
    rw [if_pos rfl, if_pos rfl]
  · rw [if_neg e, if_neg (fun q => e q.symm)]
    exact (Int32.add_zero _).symm
theorem kOK_up {K : Nat → Int32} (h : kOK K) {s k : Nat} (hk : k < 64) : kOK (upd K s (nI k)) := by
  intro i hi
  unfold upd
  by_cases e : i = s
  · rw [if_pos e]; exact ⟨k, hk, rfl⟩
  · rw [if_neg e]; exact h i hi
set_option maxRecDepth 100000 in
set_option maxHeartbeats 4000000 in
theorem c_BO_lift (l : Launch) (E : jE) (σ : Nat → jcell) (n : Nat) (a n0 : Nat) (hab : a < n0) (hn0 : n0 + 11 ≤ n) (F : Nat → Int32) (A : Nat → Nat → Int32) (L : Nat → Nat → Int64) (s : Nat) (hs : s < 64) (hM : menOK (A 0)) : jMet l E jcl jtb lw_tbl y_BO_lift { frames := 0, cells := 0, slots := 0, locals := 0 } [.inr (.inr (some (.inl (a)))), .inl (nI s)] (bdP σ a n0 F A L) n (fun r σ' n' => ∃ (A' : Nat → Nat → Int32) (L' : Nat → Nat → Int64), r = none ∧ n' = n ∧ σ' = (bdP σ a n0 F A' L') ∧ bKeep A A' L L' ∧ A' 0 = upd (A 0) s 0 ∧ A' 1 = A 1 ∧ (¬ A 0 s = 0 → bWs A → bWs A')) := by
  refine jMet_of (hY := rfl) false (fun h => by cases h) (by decide) (Nat.le_of_ble_eq_true rfl) [some (.inr (.inr (some (.inl (a))))), some (.inl (nI s)), none] rfl ?_
  intro M hl hR X hr
  have hb0 : (n0 < n) = True := eq_true (by omega)
  have hb1 : (n0 + 1 < n) = True := eq_true (by omega)
  have hb2 : (n0 + 2 < n) = True := eq_true (by omega)
  have hb3 : (n0 + 3 < n) = True := eq_true (by omega)
  have hb4 : (n0 + 4 < n) = True := eq_true (by omega)
  have hb5 : (n0 + 5 < n) = True := eq_true (by omega)
  have hb6 : (n0 + 6 < n) = True := eq_true (by omega)
  have hb7 : (n0 + 7 < n) = True := eq_true (by omega)
  have hb8 : (n0 + 8 < n) = True := eq_true (by omega)
  have hb9 : (n0 + 9 < n) = True := eq_true (by omega)
  have hb10 : (n0 + 10 < n) = True := eq_true (by omega)
  have haa : (a < n) = True := eq_true (by omega)
  obtain ⟨m, hm, hmen⟩ := hM s hs
  have hcs : (nI s).toNatClampNeg = s := nI_clamp (by omega)
  have v1 : vp_in (nI s) 64 = True := eq_true (vp_in_nI hs (by decide))
  have v2 : vp_in (nI s >>> (4 &&& 31)) 4 = True := eq_true (bd_p1 s hs).1
  have v3 : vp_in (nI m >>> (3 &&& 31)) 2 = True := eq_true (bd_p2 m hm)
  have v4 : vp_in (nI m <<< (6 &&& 31) ||| nI s) 1024 = True := eq_true (bd_p3 m hm s hs)
  have v5 : vp_in (nI m) 16 = True := eq_true (vp_in_nI hm (by decide))
  have h8 := b_m8 m hm
  have h64 := b_m64 m hm s hs
  have v6 : vp_in ((nI s ^^^ nI s >>> (3 &&& 31)) &&& 1) 2 = True := eq_true (bd_p1 s hs).2
  refine jrun_ok jC X k_BO_lift_0 0 _ _ _ o_BO_lift_0 ?_
  simp only [k_BO_lift_0, jrun, jstep, jldi, jldl, jlda, j1, j2, jl1, jl2, jli, ja1, jbr, jald, jast, jlald, jlast, jalen, jget, jput, jfit, jdup, jdupx, jdupx2, jdup2, jcat, jset1, jset2, jkill, List.getElem?_cons_zero, List.getElem?_cons_succ, List.set_cons_zero, List.set_cons_succ, List.length_cons, List.length_nil, Nat.reduceAdd, Nat.reduceLT, Int32.reduceToNatClampNeg, true_and, and_true, and_self, reduceCtorEq, not_false_eq_true, false_and, and_false, or_false, false_or, true_or, or_true, bd_a, bd_ua, bd_l, vp_nar_int32, haa, bd_r0 hab, bd_u0 hab, hb0, bd_r1 hab, bd_u1 hab, hb1, bd_r2 hab, bd_u2 hab, hb2, bd_r3 hab, bd_u3 hab, hb3, bd_r4 hab, bd_u4 hab, hb4, bd_r5 hab, bd_u5 hab, hb5, bd_r6 hab, bd_u6 hab, hb6, bd_r7 hab, bd_u7 hab, hb7, bd_r8 hab, bd_u8 hab, hb8, bd_r9 hab, bd_u9 hab, hb9, bd_r10 hab, bd_u10 hab, hb10, bd_f0, bd_f1, bd_f2, bd_f3, bd_f4, bd_f5, bd_f6, bd_f7, bd_f8, bd_f9, bd_f10, bd_f11, bd_f12, bd_f13, bd_f14, bd_f15, bd_f16, bd_s2, bd_s3, bd_s4, bd_s5, bd_s6, bd_s16, hcs, hmen, v1, v2, v3, v4, v5, v6]
  refine jrun_ok jC X k_BO_lift_14 14 _ _ _ o_BO_lift_14 ?_
  simp only [k_BO_lift_14, jrun, jstep, jldi, jldl, jlda, j1, j2, jl1, jl2, jli, ja1, jbr, jald, jast, jlald, jlast, jalen, jget, jput, jfit, jdup, jdupx, jdupx2, jdup2, jcat, jset1, jset2, jkill, List.getElem?_cons_zero, List.getElem?_cons_succ, List.set_cons_zero, List.set_cons_succ, List.length_cons, List.length_nil, Nat.reduceAdd, Nat.reduceLT, Int32.reduceToNatClampNeg, true_and, and_true, and_self, reduceCtorEq, not_false_eq_true, false_and, and_false, or_false, false_or, true_or, or_true, bd_a, bd_ua, bd_l, vp_nar_int32, haa, bd_r0 hab, bd_u0 hab, hb0, bd_r1 hab, bd_u1 hab, hb1, bd_r2 hab, bd_u2 hab, hb2, bd_r3 hab, bd_u3 hab, hb3, bd_r4 hab, bd_u4 hab, hb4, bd_r5 hab, bd_u5 hab, hb5, bd_r6 hab, bd_u6 hab, hb6, bd_r7 hab, bd_u7 hab, hb7, bd_r8 hab, bd_u8 hab, hb8, bd_r9 hab, bd_u9 hab, hb9, bd_r10 hab, bd_u10 hab, hb10, bd_f0, bd_f1, bd_f2, bd_f3, bd_f4, bd_f5, bd_f6, bd_f7, bd_f8, bd_f9, bd_f10, bd_f11, bd_f12, bd_f13, bd_f14, bd_f15, bd_f16, bd_s2, bd_s3, bd_s4, bd_s5, bd_s6, bd_s16, hcs, hmen, v1, v2, v3, v4, v5, v6]
  refine jrun_ok jC X k_BO_lift_34 34 _ _ _ o_BO_lift_34 ?_
  simp only [k_BO_lift_34, jrun, jstep, jldi, jldl, jlda, j1, j2, jl1, jl2, jli, ja1, jbr, jald, jast, jlald, jlast, jalen, jget, jput, jfit, jdup, jdupx, jdupx2, jdup2, jcat, jset1, jset2, jkill, List.getElem?_cons_zero, List.getElem?_cons_succ, List.set_cons_zero, List.set_cons_succ, List.length_cons, List.length_nil, Nat.reduceAdd, Nat.reduceLT, Int32.reduceToNatClampNeg, true_and, and_true, and_self, reduceCtorEq, not_false_eq_true, false_and, and_false, or_false, false_or, true_or, or_true, bd_a, bd_ua, bd_l, vp_nar_int32, haa, bd_r0 hab, bd_u0 hab, hb0, bd_r1 hab, bd_u1 hab, hb1, bd_r2 hab, bd_u2 hab, hb2, bd_r3 hab, bd_u3 hab, hb3, bd_r4 hab, bd_u4 hab, hb4, bd_r5 hab, bd_u5 hab, hb5, bd_r6 hab, bd_u6 hab, hb6, bd_r7 hab, bd_u7 hab, hb7, bd_r8 hab, bd_u8 hab, hb8, bd_r9 hab, bd_u9 hab, hb9, bd_r10 hab, bd_u10 hab, hb10, bd_f0, bd_f1, bd_f2, bd_f3, bd_f4, bd_f5, bd_f6, bd_f7, bd_f8, bd_f9, bd_f10, bd_f11, bd_f12, bd_f13, bd_f14, bd_f15, bd_f16, bd_s2, bd_s3, bd_s4, bd_s5, bd_s6, bd_s16, hcs, hmen, v1, v2, v3, v4, v5, v6]
  refine jrun_ok jC X k_BO_lift_56 56 _ _ _ o_BO_lift_56 ?_
  simp only [k_BO_lift_56, jrun, jstep, jldi, jldl, jlda, j1, j2, jl1, jl2, jli, ja1, jbr, jald, jast, jlald, jlast, jalen, jget, jput, jfit, jdup, jdupx, jdupx2, jdup2, jcat, jset1, jset2, jkill, List.getElem?_cons_zero, List.getElem?_cons_succ, List.set_cons_zero, List.set_cons_succ, List.length_cons, List.length_nil, Nat.reduceAdd, Nat.reduceLT, Int32.reduceToNatClampNeg, true_and, and_true, and_self, reduceCtorEq, not_false_eq_true, false_and, and_false, or_false, false_or, true_or, or_true, bd_a, bd_ua, bd_l, vp_nar_int32, haa, bd_r0 hab, bd_u0 hab, hb0, bd_r1 hab, bd_u1 hab, hb1, bd_r2 hab, bd_u2 hab, hb2, bd_r3 hab, bd_u3 hab, hb3, bd_r4 hab, bd_u4 hab, hb4, bd_r5 hab, bd_u5 hab, hb5, bd_r6 hab, bd_u6 hab, hb6, bd_r7 hab, bd_u7 hab, hb7, bd_r8 hab, bd_u8 hab, hb8, bd_r9 hab, bd_u9 hab, hb9, bd_r10 hab, bd_u10 hab, hb10, bd_f0, bd_f1, bd_f2, bd_f3, bd_f4, bd_f5, bd_f6, bd_f7, bd_f8, bd_f9, bd_f10, bd_f11, bd_f12, bd_f13, bd_f14, bd_f15, bd_f16, bd_s2, bd_s3, bd_s4, bd_s5, bd_s6, bd_s16, hcs, hmen, v1, v2, v3, v4, v5, v6]
  refine jrun_ok jC X k_BO_lift_66 66 _ _ _ o_BO_lift_66 ?_
  simp only [k_BO_lift_66, jrun, jstep, jldi, jldl, jlda, j1, j2, jl1, jl2, jli, ja1, jbr, jald, jast, jlald, jlast, jalen, jget, jput, jfit, jdup, jdupx, jdupx2, jdup2, jcat, jset1, jset2, jkill, List.getElem?_cons_zero, List.getElem?_cons_succ, List.set_cons_zero, List.set_cons_succ, List.length_cons, List.length_nil, Nat.reduceAdd, Nat.reduceLT, Int32.reduceToNatClampNeg, true_and, and_true, and_self, reduceCtorEq, not_false_eq_true, false_and, and_false, or_false, false_or, true_or, or_true, bd_a, bd_ua, bd_l, vp_nar_int32, haa, bd_r0 hab, bd_u0 hab, hb0, bd_r1 hab, bd_u1 hab, hb1, bd_r2 hab, bd_u2 hab, hb2, bd_r3 hab, bd_u3 hab, hb3, bd_r4 hab, bd_u4 hab, hb4, bd_r5 hab, bd_u5 hab, hb5, bd_r6 hab, bd_u6 hab, hb6, bd_r7 hab, bd_u7 hab, hb7, bd_r8 hab, bd_u8 hab, hb8, bd_r9 hab, bd_u9 hab, hb9, bd_r10 hab, bd_u10 hab, hb10, bd_f0, bd_f1, bd_f2, bd_f3, bd_f4, bd_f5, bd_f6, bd_f7, bd_f8, bd_f9, bd_f10, bd_f11, bd_f12, bd_f13, bd_f14, bd_f15, bd_f16, bd_s2, bd_s3, bd_s4, bd_s5, bd_s6, bd_s16, hcs, hmen, v1, v2, v3, v4, v5, v6]
  refine ⟨fun _ => ?_, fun _ => ?_⟩
  · exact jk_vret X d_BO_lift_90 hr (Nat.le_refl _) (Nat.le_refl _) ⟨_, _, rfl, rfl, rfl, by simp [bKeep, va_up], by simp [va_up], by simp [va_up], fun hz hw => bWs_lift hs hm hmen (fun q => hz (by rw [q]; rfl)) (by simp [va_up, h8, h64]) (by simp [va_up]) (by simp [va_up]) hw⟩
  · exact jk_vret X d_BO_lift_90 hr (Nat.le_refl _) (Nat.le_refl _) ⟨_, _, rfl, rfl, rfl, by simp [bKeep, va_up], by simp [va_up], by simp [va_up], fun hz hw => bWs_lift hs hm hmen (fun q => hz (by rw [q]; rfl)) (by simp [va_up, h8, h64]) (by simp [va_up]) (by simp [va_up]) hw⟩
set_option maxRecDepth 100000 in
set_option maxHeartbeats 4000000 in
theorem c_BO_put2 (l : Launch) (E : jE) (σ : Nat → jcell) (n : Nat) (a n0 : Nat) (hab : a < n0) (hn0 : n0 + 11 ≤ n) (F : Nat → Int32) (A : Nat → Nat → Int32) (L : Nat → Nat → Int64) (s m : Nat) (hs : s < 64) (hm : m < 16) : jMet l E jcl jtb lw_tbl y_BO_put { frames := 0, cells := 0, slots := 0, locals := 0 } [.inr (.inr (some (.inl (a)))), .inl (nI s), .inl (nI m)] (bdP σ a n0 F A L) n (fun r σ' n' => ∃ (A' : Nat → Nat → Int32) (L' : Nat → Nat → Int64), r = none ∧ n' = n ∧ σ' = (bdP σ a n0 F A' L') ∧ bKeep A A' L L' ∧ A' 0 = upd (A 0) s (nI m) ∧ (kOK (A 1) → kOK (A' 1)) ∧ (A 0 s = 0 → ¬ m = 0 → bWs A → bWs A')) := by
  refine jMet_of (hY := rfl) false (fun h => by cases h) (by decide) (Nat.le_of_ble_eq_true rfl) [some (.inr (.inr (some (.inl (a))))), some (.inl (nI s)), some (.inl (nI m))] rfl ?_
  intro M hl hR X hr
  have hb0 : (n0 < n) = True := eq_true (by omega)
  have hb1 : (n0 + 1 < n) = True := eq_true (by omega)
  have hb2 : (n0 + 2 < n) = True := eq_true (by omega)
  have hb3 : (n0 + 3 < n) = True := eq_true (by omega)
  have hb4 : (n0 + 4 < n) = True := eq_true (by omega)
  have hb5 : (n0 + 5 < n) = True := eq_true (by omega)
  have hb6 : (n0 + 6 < n) = True := eq_true (by omega)
  have hb7 : (n0 + 7 < n) = True := eq_true (by omega)
  have hb8 : (n0 + 8 < n) = True := eq_true (by omega)
  have hb9 : (n0 + 9 < n) = True := eq_true (by omega)
  have hb10 : (n0 + 10 < n) = True := eq_true (by omega)
  have haa : (a < n) = True := eq_true (by omega)
  have hcs : (nI s).toNatClampNeg = s := nI_clamp (by omega)
  have v1 : vp_in (nI s) 64 = True := eq_true (vp_in_nI hs (by decide))
  have v2 : vp_in (nI s >>> (4 &&& 31)) 4 = True := eq_true (bd_p1 s hs).1
  have v3 : vp_in (nI m >>> (3 &&& 31)) 2 = True := eq_true (bd_p2 m hm)
  have v4 : vp_in (nI m <<< (6 &&& 31) ||| nI s) 1024 = True := eq_true (bd_p3 m hm s hs)
  have v5 : vp_in (nI m) 16 = True := eq_true (vp_in_nI hm (by decide))
  have h8 := b_m8 m hm
  have h64 := b_m64 m hm s hs
  have v6 : vp_in ((nI s ^^^ nI s >>> (3 &&& 31)) &&& 1) 2 = True := eq_true (bd_p1 s hs).2
  refine jrun_ok jC X k_BO_put_0 0 _ _ _ o_BO_put_0 ?_
  simp only [k_BO_put_0, jrun, jstep, jldi, jldl, jlda, j1, j2, jl1, jl2, jli, ja1, jbr, jald, jast, jlald, jlast, jalen, jget, jput, jfit, jdup, jdupx, jdupx2, jdup2, jcat, jset1, jset2, jkill, List.getElem?_cons_zero, List.getElem?_cons_succ, List.set_cons_zero, List.set_cons_succ, List.length_cons, List.length_nil, Nat.reduceAdd, Nat.reduceLT, Int32.reduceToNatClampNeg, true_and, and_true, and_self, reduceCtorEq, not_false_eq_true, false_and, and_false, or_false, false_or, true_or, or_true, bd_a, bd_ua, bd_l, vp_nar_int32, haa, bd_r0 hab, bd_u0 hab, hb0, bd_r1 hab, bd_u1 hab, hb1, bd_r2 hab, bd_u2 hab, hb2, bd_r3 hab, bd_u3 hab, hb3, bd_r4 hab, bd_u4 hab, hb4, bd_r5 hab, bd_u5 hab, hb5, bd_r6 hab, bd_u6 hab, hb6, bd_r7 hab, bd_u7 hab, hb7, bd_r8 hab, bd_u8 hab, hb8, bd_r9 hab, bd_u9 hab, hb9, bd_r10 hab, bd_u10 hab, hb10, bd_f0, bd_f1, bd_f2, bd_f3, bd_f4, bd_f5, bd_f6, bd_f7, bd_f8, bd_f9, bd_f10, bd_f11, bd_f12, bd_f13, bd_f14, bd_f15, bd_f16, bd_s2, bd_s3, bd_s4, bd_s5, bd_s6, bd_s16, hcs, v1, v2, v3, v4, v5, v6]
  refine ⟨fun _ => ?_, fun _ => ?_⟩
  · refine jrun_ok jC X k_BO_put_86 86 _ _ _ o_BO_put_86 ?_
    simp only [k_BO_put_86, jrun, jstep, jldi, jldl, jlda, j1, j2, jl1, jl2, jli, ja1, jbr, jald, jast, jlald, jlast, jalen, jget, jput, jfit, jdup, jdupx, jdupx2, jdup2, jcat, jset1, jset2, jkill, List.getElem?_cons_zero, List.getElem?_cons_succ, List.set_cons_zero, List.set_cons_succ, List.length_cons, List.length_nil, Nat.reduceAdd, Nat.reduceLT, Int32.reduceToNatClampNeg, true_and, and_true, and_self, reduceCtorEq, not_false_eq_true, false_and, and_false, or_false, false_or, true_or, or_true, bd_a, bd_ua, bd_l, vp_nar_int32, haa, bd_r0 hab, bd_u0 hab, hb0, bd_r1 hab, bd_u1 hab, hb1, bd_r2 hab, bd_u2 hab, hb2, bd_r3 hab, bd_u3 hab, hb3, bd_r4 hab, bd_u4 hab, hb4, bd_r5 hab, bd_u5 hab, hb5, bd_r6 hab, bd_u6 hab, hb6, bd_r7 hab, bd_u7 hab, hb7, bd_r8 hab, bd_u8 hab, hb8, bd_r9 hab, bd_u9 hab, hb9, bd_r10 hab, bd_u10 hab, hb10, bd_f0, bd_f1, bd_f2, bd_f3, bd_f4, bd_f5, bd_f6, bd_f7, bd_f8, bd_f9, bd_f10, bd_f11, bd_f12, bd_f13, bd_f14, bd_f15, bd_f16, bd_s2, bd_s3, bd_s4, bd_s5, bd_s6, bd_s16, hcs, v1, v2, v3, v4, v5, v6]
    refine ⟨fun _ => ?_, fun _ => ?_⟩
    · exact jk_vret X d_BO_put_104 hr (Nat.le_refl _) (Nat.le_refl _) ⟨_, _, rfl, rfl, rfl, by simp [bKeep, va_up], by simp [va_up], fun h => by simpa [va_up] using h, fun h0 hz hw => bWs_put hs hm h0 hz (by simp [va_up, h8, h64]) (by simp [va_up]) (by simp [va_up]) hw⟩
    · exact jk_vret X d_BO_put_104 hr (Nat.le_refl _) (Nat.le_refl _) ⟨_, _, rfl, rfl, rfl, by simp [bKeep, va_up], by simp [va_up], fun h => by simpa [va_up] using kOK_up h hs, fun h0 hz hw => bWs_put hs hm h0 hz (by simp [va_up, h8, h64]) (by simp [va_up]) (by simp [va_up]) hw⟩
  · exact jk_vret X d_BO_put_104 hr (Nat.le_refl _) (Nat.le_refl _) ⟨_, _, rfl, rfl, rfl, by simp [bKeep, va_up], by simp [va_up], fun h => by simpa [va_up] using h, fun h0 hz hw => bWs_put hs hm h0 hz (by simp [va_up, h8, h64]) (by simp [va_up]) (by simp [va_up]) hw⟩
noncomputable def bPP (F : Nat → Int32) : Int32 := if F 2 = 0 then F 4 - 8 else F 4 + 8
set_option maxRecDepth 100000 in
set_option maxHeartbeats 4000000 in
theorem c_BO_passedPawn (l : Launch) (E : jE) (σ : Nat → jcell) (n : Nat) (a n0 : Nat) (hab : a < n0) (hn0 : n0 + 11 ≤ n) (F : Nat → Int32) (A : Nat → Nat → Int32) (L : Nat → Nat → Int64) : jMet l E jcl jtb lw_tbl y_BO_passedPawn { frames := 0, cells := 0, slots := 0, locals := 0 } [.inr (.inr (some (.inl (a))))] (bdP σ a n0 F A L) n (fun r σ' n' => r = some (.inl (bPP F)) ∧ n' = n ∧ σ' = (bdP σ a n0 F A L)) := by
  refine jMet_of (hY := rfl) false (fun h => by cases h) (by decide) (Nat.le_of_ble_eq_true rfl) [some (.inr (.inr (some (.inl (a)))))] rfl ?_
  intro M hl hR X hr
  have hb0 : (n0 < n) = True := eq_true (by omega)
  have hb1 : (n0 + 1 < n) = True := eq_true (by omega)
  have hb2 : (n0 + 2 < n) = True := eq_true (by omega)
  have hb3 : (n0 + 3 < n) = True := eq_true (by omega)
  have hb4 : (n0 + 4 < n) = True := eq_true (by omega)
  have hb5 : (n0 + 5 < n) = True := eq_true (by omega)
  have hb6 : (n0 + 6 < n) = True := eq_true (by omega)
  have hb7 : (n0 + 7 < n) = True := eq_true (by omega)
  have hb8 : (n0 + 8 < n) = True := eq_true (by omega)
  have hb9 : (n0 + 9 < n) = True := eq_true (by omega)
  have hb10 : (n0 + 10 < n) = True := eq_true (by omega)
  have haa : (a < n) = True := eq_true (by omega)
  refine jrun_ok jC X k_BO_passedPawn_0 0 _ _ _ o_BO_passedPawn_0 ?_
  simp only [k_BO_passedPawn_0, jrun, jstep, jldi, jldl, jlda, j1, j2, jl1, jl2, jli, ja1, jbr, jald, jast, jlald, jlast, jalen, jget, jput, jfit, jdup, jdupx, jdupx2, jdup2, jcat, jset1, jset2, jkill, List.getElem?_cons_zero, List.getElem?_cons_succ, List.set_cons_zero, List.set_cons_succ, List.length_cons, List.length_nil, Nat.reduceAdd, Nat.reduceLT, Int32.reduceToNatClampNeg, true_and, and_true, and_self, reduceCtorEq, not_false_eq_true, false_and, and_false, or_false, false_or, true_or, or_true, bd_a, bd_ua, bd_l, vp_nar_int32, haa, bd_r0 hab, bd_u0 hab, hb0, bd_r1 hab, bd_u1 hab, hb1, bd_r2 hab, bd_u2 hab, hb2, bd_r3 hab, bd_u3 hab, hb3, bd_r4 hab, bd_u4 hab, hb4, bd_r5 hab, bd_u5 hab, hb5, bd_r6 hab, bd_u6 hab, hb6, bd_r7 hab, bd_u7 hab, hb7, bd_r8 hab, bd_u8 hab, hb8, bd_r9 hab, bd_u9 hab, hb9, bd_r10 hab, bd_u10 hab, hb10, bd_f0, bd_f1, bd_f2, bd_f3, bd_f4, bd_f5, bd_f6, bd_f7, bd_f8, bd_f9, bd_f10, bd_f11, bd_f12, bd_f13, bd_f14, bd_f15, bd_f16, bd_s2, bd_s3, bd_s4, bd_s5, bd_s6, bd_s16]
  refine ⟨fun h => ?_, fun h => ?_⟩
  · refine jrun_ok jC X k_BO_passedPawn_17 17 _ _ _ o_BO_passedPawn_17 ?_
    simp only [k_BO_passedPawn_17, jrun, jstep, jldi, jldl, jlda, j1, j2, jl1, jl2, jli, ja1, jbr, jald, jast, jlald, jlast, jalen, jget, jput, jfit, jdup, jdupx, jdupx2, jdup2, jcat, jset1, jset2, jkill, List.getElem?_cons_zero, List.getElem?_cons_succ, List.set_cons_zero, List.set_cons_succ, List.length_cons, List.length_nil, Nat.reduceAdd, Nat.reduceLT, Int32.reduceToNatClampNeg, true_and, and_true, and_self, reduceCtorEq, not_false_eq_true, false_and, and_false, or_false, false_or, true_or, or_true, bd_a, bd_ua, bd_l, vp_nar_int32, haa, bd_r0 hab, bd_u0 hab, hb0, bd_r1 hab, bd_u1 hab, hb1, bd_r2 hab, bd_u2 hab, hb2, bd_r3 hab, bd_u3 hab, hb3, bd_r4 hab, bd_u4 hab, hb4, bd_r5 hab, bd_u5 hab, hb5, bd_r6 hab, bd_u6 hab, hb6, bd_r7 hab, bd_u7 hab, hb7, bd_r8 hab, bd_u8 hab, hb8, bd_r9 hab, bd_u9 hab, hb9, bd_r10 hab, bd_u10 hab, hb10, bd_f0, bd_f1, bd_f2, bd_f3, bd_f4, bd_f5, bd_f6, bd_f7, bd_f8, bd_f9, bd_f10, bd_f11, bd_f12, bd_f13, bd_f14, bd_f15, bd_f16, bd_s2, bd_s3, bd_s4, bd_s5, bd_s6, bd_s16]
    exact jk_iret X d_BO_passedPawn_24 hr rfl (Nat.le_refl _) (Nat.le_refl _) ⟨by unfold bPP; rw [if_neg h], rfl, rfl⟩
  · exact jk_iret X d_BO_passedPawn_24 hr rfl (Nat.le_refl _) (Nat.le_refl _) ⟨by unfold bPP; rw [if_pos (by simpa using h)], rfl, rfl⟩
end
section
/-- the square that a pawn passed, if a pawn of the other side attacks it -/
noncomputable def bPB (men F : Nat → Int32) (f t : Nat) : Int32 := if nI t - nI f = 16 ∨ nI f - nI t = 16 then (if (0 < nI t &&& 7 ∧ men (t - 1) = (1 - F 2) <<< (3 &&& 31) ||| 1) ∨ (nI t &&& 7 < 7 ∧ men (t + 1) = (1 - F 2) <<< (3 &&& 31) ||| 1) then (nI f + nI t) >>> (1 &&& 31) else -1) else -1
theorem pb_lo : ∀ t, t < 64 → ¬ nI t &&& 7 ≤ 0 → vp_in (nI t - 1) 64 ∧ (nI t - 1).toNatClampNeg = t - 1 := by
  unfold vp_in
  decide +kernel
theorem pb_hi : ∀ t, t < 64 → ¬ 7 ≤ nI t &&& 7 → vp_in (nI t + 1) 64 ∧ (nI t + 1).toNatClampNeg = t + 1 := by
  unfold vp_in
  decide +kernel
set_option maxRecDepth 100000 in
set_option maxHeartbeats 4000000 in
theorem c_BO_passedBy (l : Launch) (E : jE) (σ : Nat → jcell) (n : Nat) (a n0 : Nat) (hab : a < n0) (hn0 : n0 + 11 ≤ n) (F : Nat → Int32) (A : Nat → Nat → Int32) (L : Nat → Nat → Int64) (f t : Nat) (hf : f < 64) (ht : t < 64) : jMet l E jcl jtb lw_tbl y_BO_passedBy { frames := 0, cells := 0, slots := 0, locals := 0 } [.inr (.inr (some (.inl (a)))), .inl (nI f), .inl (nI t)] (bdP σ a n0 F A L) n (fun r σ' n' => r = some (.inl (bPB (A 0) F f t)) ∧ n' = n ∧ σ' = (bdP σ a n0 F A L)) := by
  refine jMet_of (hY := rfl) false (fun h => by cases h) (by decide) (Nat.le_of_ble_eq_true rfl) [some (.inr (.inr (some (.inl (a))))), some (.inl (nI f)), some (.inl (nI t)), none, none] rfl ?_
  intro M hl hR X hr
  have hb0 : (n0 < n) = True := eq_true (by omega)
  have hb1 : (n0 + 1 < n) = True := eq_true (by omega)
  have hb2 : (n0 + 2 < n) = True := eq_true (by omega)
  have hb3 : (n0 + 3 < n) = True := eq_true (by omega)
  have hb4 : (n0 + 4 < n) = True := eq_true (by omega)
  have hb5 : (n0 + 5 < n) = True := eq_true (by omega)
  have hb6 : (n0 + 6 < n) = True := eq_true (by omega)
  have hb7 : (n0 + 7 < n) = True := eq_true (by omega)
  have hb8 : (n0 + 8 < n) = True := eq_true (by omega)
  have hb9 : (n0 + 9 < n) = True := eq_true (by omega)
  have hb10 : (n0 + 10 < n) = True := eq_true (by omega)
  have haa : (a < n) = True := eq_true (by omega)
  have C90 : ∀ (v : Int32) (o3 o4 : Option jv), v = bPB (A 0) F f t → jJ E jcl 5 M (jQ E jcl M (fun r σ' n' => r = some (.inl (bPB (A 0) F f t)) ∧ n' = n ∧ σ' = (bdP σ a n0 F A L)) 0 0) n 0 0 90 [some (.inr (.inr (some (.inl (a))))), some (.inl (nI f)), some (.inl (nI t)), o3, o4] [.inl v] (bdP σ a n0 F A L) := by
    intro v o3 o4 hv
    subst hv
    exact jk_iret X d_BO_passedBy_90 hr rfl (Nat.le_refl _) (Nat.le_refl _) ⟨rfl, rfl, rfl⟩
  have C74 : ∀ v : Int32, (nI t - nI f = 16 ∨ nI f - nI t = 16) → (v = 0 ∨ v = 1) → (v = 1 ↔ ((0 < nI t &&& 7 ∧ A 0 (t - 1) = ((1 - F 2) <<< (3 &&& 31) ||| 1)) ∨ (nI t &&& 7 < 7 ∧ A 0 (t + 1) = ((1 - F 2) <<< (3 &&& 31) ||| 1)))) → jJ E jcl 5 M (jQ E jcl M (fun r σ' n' => r = some (.inl (bPB (A 0) F f t)) ∧ n' = n ∧ σ' = (bdP σ a n0 F A L)) 0 0) n 0 0 74 [some (.inr (.inr (some (.inl (a))))), some (.inl (nI f)), some (.inl (nI t)), some (.inl ((1 - F 2) <<< (3 &&& 31) ||| 1)), none] [.inl v] (bdP σ a n0 F A L) := by
    intro v h16 h01 hv
    refine jrun_ok jC X k_BO_passedBy_74 74 _ _ _ o_BO_passedBy_74 ?_
    simp only [k_BO_passedBy_74, jrun, jstep, jldi, jldl, jlda, j1, j2, jl1, jl2, jli, ja1, jbr, jald, jast, jlald, jlast, jalen, jget, jput, jfit, jdup, jdupx, jdupx2, jdup2, jcat, jset1, jset2, jkill, List.getElem?_cons_zero, List.getElem?_cons_succ, List.set_cons_zero, List.set_cons_succ, List.length_cons, List.length_nil, Nat.reduceAdd, Nat.reduceLT, Int32.reduceToNatClampNeg, true_and, and_true, and_self, reduceCtorEq, not_false_eq_true, false_and, and_false, or_false, false_or, true_or, or_true, bd_a, bd_ua, bd_l, vp_nar_int32, haa, bd_r0 hab, bd_u0 hab, hb0, bd_r1 hab, bd_u1 hab, hb1, bd_r2 hab, bd_u2 hab, hb2, bd_r3 hab, bd_u3 hab, hb3, bd_r4 hab, bd_u4 hab, hb4, bd_r5 hab, bd_u5 hab, hb5, bd_r6 hab, bd_u6 hab, hb6, bd_r7 hab, bd_u7 hab, hb7, bd_r8 hab, bd_u8 hab, hb8, bd_r9 hab, bd_u9 hab, hb9, bd_r10 hab, bd_u10 hab, hb10, bd_f0, bd_f1, bd_f2, bd_f3, bd_f4, bd_f5, bd_f6, bd_f7, bd_f8, bd_f9, bd_f10, bd_f11, bd_f12, bd_f13, bd_f14, bd_f15, bd_f16, bd_s2, bd_s3, bd_s4, bd_s5, bd_s6, bd_s16]
    refine ⟨fun h => ?_, fun h => ?_⟩
    · refine jrun_ok jC X k_BO_passedBy_89 89 _ _ _ o_BO_passedBy_89 ?_
      simp only [k_BO_passedBy_89, jrun, jstep, jldi, jldl, jlda, j1, j2, jl1, jl2, jli, ja1, jbr, jald, jast, jlald, jlast, jalen, jget, jput, jfit, jdup, jdupx, jdupx2, jdup2, jcat, jset1, jset2, jkill, List.getElem?_cons_zero, List.getElem?_cons_succ, List.set_cons_zero, List.set_cons_succ, List.length_cons, List.length_nil, Nat.reduceAdd, Nat.reduceLT, Int32.reduceToNatClampNeg, true_and, and_true, and_self, reduceCtorEq, not_false_eq_true, false_and, and_false, or_false, false_or, true_or, or_true, bd_a, bd_ua, bd_l, vp_nar_int32, haa, bd_r0 hab, bd_u0 hab, hb0, bd_r1 hab, bd_u1 hab, hb1, bd_r2 hab, bd_u2 hab, hb2, bd_r3 hab, bd_u3 hab, hb3, bd_r4 hab, bd_u4 hab, hb4, bd_r5 hab, bd_u5 hab, hb5, bd_r6 hab, bd_u6 hab, hb6, bd_r7 hab, bd_u7 hab, hb7, bd_r8 hab, bd_u8 hab, hb8, bd_r9 hab, bd_u9 hab, hb9, bd_r10 hab, bd_u10 hab, hb10, bd_f0, bd_f1, bd_f2, bd_f3, bd_f4, bd_f5, bd_f6, bd_f7, bd_f8, bd_f9, bd_f10, bd_f11, bd_f12, bd_f13, bd_f14, bd_f15, bd_f16, bd_s2, bd_s3, bd_s4, bd_s5, bd_s6, bd_s16]
      exact C90 _ _ _ (by unfold bPB; rw [if_pos h16, if_neg (fun q => absurd (hv.mpr q) (by rw [h]; decide))])
    · exact C90 _ _ _ (by unfold bPB; rw [if_pos h16, if_pos (hv.mp (h01.resolve_left h))])
  have C48 : (nI t - nI f = 16 ∨ nI f - nI t = 16) → ¬ (0 < nI t &&& 7 ∧ A 0 (t - 1) = ((1 - F 2) <<< (3 &&& 31) ||| 1)) → jJ E jcl 5 M (jQ E jcl M (fun r σ' n' => r = some (.inl (bPB (A 0) F f t)) ∧ n' = n ∧ σ' = (bdP σ a n0 F A L)) 0 0) n 0 0 48 [some (.inr (.inr (some (.inl (a))))), some (.inl (nI f)), some (.inl (nI t)), some (.inl ((1 - F 2) <<< (3 &&& 31) ||| 1)), none] [] (bdP σ a n0 F A L) := by
    intro h16 hno
    by_cases h7 : 7 ≤ nI t &&& 7
    · refine jrun_ok jC X k_BO_passedBy_48 48 _ _ _ o_BO_passedBy_48 ?_
      simp only [k_BO_passedBy_48, jrun, jstep, jldi, jldl, jlda, j1, j2, jl1, jl2, jli, ja1, jbr, jald, jast, jlald, jlast, jalen, jget, jput, jfit, jdup, jdupx, jdupx2, jdup2, jcat, jset1, jset2, jkill, List.getElem?_cons_zero, List.getElem?_cons_succ, List.set_cons_zero, List.set_cons_succ, List.length_cons, List.length_nil, Nat.reduceAdd, Nat.reduceLT, Int32.reduceToNatClampNeg, true_and, and_true, and_self, reduceCtorEq, not_false_eq_true, false_and, and_false, or_false, false_or, true_or, or_true, bd_a, bd_ua, bd_l, vp_nar_int32, haa, bd_r0 hab, bd_u0 hab, hb0, bd_r1 hab, bd_u1 hab, hb1, bd_r2 hab, bd_u2 hab, hb2, bd_r3 hab, bd_u3 hab, hb3, bd_r4 hab, bd_u4 hab, hb4, bd_r5 hab, bd_u5 hab, hb5, bd_r6 hab, bd_u6 hab, hb6, bd_r7 hab, bd_u7 hab, hb7, bd_r8 hab, bd_u8 hab, hb8, bd_r9 hab, bd_u9 hab, hb9, bd_r10 hab, bd_u10 hab, hb10, bd_f0, bd_f1, bd_f2, bd_f3, bd_f4, bd_f5, bd_f6, bd_f7, bd_f8, bd_f9, bd_f10, bd_f11, bd_f12, bd_f13, bd_f14, bd_f15, bd_f16, bd_s2, bd_s3, bd_s4, bd_s5, bd_s6, bd_s16]
      refine ⟨fun _ => ?_, fun h => absurd h7 h⟩
      refine jrun_ok jC X k_BO_passedBy_73 73 _ _ _ o_BO_passedBy_73 ?_
      simp only [k_BO_passedBy_73, jrun, jstep, jldi, jldl, jlda, j1, j2, jl1, jl2, jli, ja1, jbr, jald, jast, jlald, jlast, jalen, jget, jput, jfit, jdup, jdupx, jdupx2, jdup2, jcat, jset1, jset2, jkill, List.getElem?_cons_zero, List.getElem?_cons_succ, List.set_cons_zero, List.set_cons_succ, List.length_cons, List.length_nil, Nat.reduceAdd, Nat.reduceLT, Int32.reduceToNatClampNeg, true_and, and_true, and_self, reduceCtorEq, not_false_eq_true, false_and, and_false, or_false, false_or, true_or, or_true, bd_a, bd_ua, bd_l, vp_nar_int32, haa, bd_r0 hab, bd_u0 hab, hb0, bd_r1 hab, bd_u1 hab, hb1, bd_r2 hab, bd_u2 hab, hb2, bd_r3 hab, bd_u3 hab, hb3, bd_r4 hab, bd_u4 hab, hb4, bd_r5 hab, bd_u5 hab, hb5, bd_r6 hab, bd_u6 hab, hb6, bd_r7 hab, bd_u7 hab, hb7, bd_r8 hab, bd_u8 hab, hb8, bd_r9 hab, bd_u9 hab, hb9, bd_r10 hab, bd_u10 hab, hb10, bd_f0, bd_f1, bd_f2, bd_f3, bd_f4, bd_f5, bd_f6, bd_f7, bd_f8, bd_f9, bd_f10, bd_f11, bd_f12, bd_f13, bd_f14, bd_f15, bd_f16, bd_s2, bd_s3, bd_s4, bd_s5, bd_s6, bd_s16]
      exact C74 0 h16 (Or.inl rfl) ⟨fun h => absurd h (by decide), fun h => (h.elim hno (fun q => absurd q.1 (Int32.not_lt.mpr h7))).elim⟩
    · have u1 : vp_in (nI t + 1) 64 = True := eq_true (pb_hi t ht h7).1
      have u2 := (pb_hi t ht h7).2
      refine jrun_ok jC X k_BO_passedBy_48 48 _ _ _ o_BO_passedBy_48 ?_
      simp only [k_BO_passedBy_48, jrun, jstep, jldi, jldl, jlda, j1, j2, jl1, jl2, jli, ja1, jbr, jald, jast, jlald, jlast, jalen, jget, jput, jfit, jdup, jdupx, jdupx2, jdup2, jcat, jset1, jset2, jkill, List.getElem?_cons_zero, List.getElem?_cons_succ, List.set_cons_zero, List.set_cons_succ, List.length_cons, List.length_nil, Nat.reduceAdd, Nat.reduceLT, Int32.reduceToNatClampNeg, true_and, and_true, and_self, reduceCtorEq, not_false_eq_true, false_and, and_false, or_false, false_or, true_or, or_true, bd_a, bd_ua, bd_l, vp_nar_int32, haa, bd_r0 hab, bd_u0 hab, hb0, bd_r1 hab, bd_u1 hab, hb1, bd_r2 hab, bd_u2 hab, hb2, bd_r3 hab, bd_u3 hab, hb3, bd_r4 hab, bd_u4 hab, hb4, bd_r5 hab, bd_u5 hab, hb5, bd_r6 hab, bd_u6 hab, hb6, bd_r7 hab, bd_u7 hab, hb7, bd_r8 hab, bd_u8 hab, hb8, bd_r9 hab, bd_u9 hab, hb9, bd_r10 hab, bd_u10 hab, hb10, bd_f0, bd_f1, bd_f2, bd_f3, bd_f4, bd_f5, bd_f6, bd_f7, bd_f8, bd_f9, bd_f10, bd_f11, bd_f12, bd_f13, bd_f14, bd_f15, bd_f16, bd_s2, bd_s3, bd_s4, bd_s5, bd_s6, bd_s16, u1, u2]
      refine ⟨fun h => absurd h h7, fun _ => ⟨fun h => ?_, fun h => ?_⟩⟩
      · refine jrun_ok jC X k_BO_passedBy_73 73 _ _ _ o_BO_passedBy_73 ?_
        simp only [k_BO_passedBy_73, jrun, jstep, jldi, jldl, jlda, j1, j2, jl1, jl2, jli, ja1, jbr, jald, jast, jlald, jlast, jalen, jget, jput, jfit, jdup, jdupx, jdupx2, jdup2, jcat, jset1, jset2, jkill, List.getElem?_cons_zero, List.getElem?_cons_succ, List.set_cons_zero, List.set_cons_succ, List.length_cons, List.length_nil, Nat.reduceAdd, Nat.reduceLT, Int32.reduceToNatClampNeg, true_and, and_true, and_self, reduceCtorEq, not_false_eq_true, false_and, and_false, or_false, false_or, true_or, or_true, bd_a, bd_ua, bd_l, vp_nar_int32, haa, bd_r0 hab, bd_u0 hab, hb0, bd_r1 hab, bd_u1 hab, hb1, bd_r2 hab, bd_u2 hab, hb2, bd_r3 hab, bd_u3 hab, hb3, bd_r4 hab, bd_u4 hab, hb4, bd_r5 hab, bd_u5 hab, hb5, bd_r6 hab, bd_u6 hab, hb6, bd_r7 hab, bd_u7 hab, hb7, bd_r8 hab, bd_u8 hab, hb8, bd_r9 hab, bd_u9 hab, hb9, bd_r10 hab, bd_u10 hab, hb10, bd_f0, bd_f1, bd_f2, bd_f3, bd_f4, bd_f5, bd_f6, bd_f7, bd_f8, bd_f9, bd_f10, bd_f11, bd_f12, bd_f13, bd_f14, bd_f15, bd_f16, bd_s2, bd_s3, bd_s4, bd_s5, bd_s6, bd_s16]
        exact C74 0 h16 (Or.inl rfl) ⟨fun q => absurd q (by decide), fun q => (q.elim hno (fun z => h z.2)).elim⟩
      · refine jrun_ok jC X k_BO_passedBy_69 69 _ _ _ o_BO_passedBy_69 ?_
        simp only [k_BO_passedBy_69, jrun, jstep, jldi, jldl, jlda, j1, j2, jl1, jl2, jli, ja1, jbr, jald, jast, jlald, jlast, jalen, jget, jput, jfit, jdup, jdupx, jdupx2, jdup2, jcat, jset1, jset2, jkill, List.getElem?_cons_zero, List.getElem?_cons_succ, List.set_cons_zero, List.set_cons_succ, List.length_cons, List.length_nil, Nat.reduceAdd, Nat.reduceLT, Int32.reduceToNatClampNeg, true_and, and_true, and_self, reduceCtorEq, not_false_eq_true, false_and, and_false, or_false, false_or, true_or, or_true, bd_a, bd_ua, bd_l, vp_nar_int32, haa, bd_r0 hab, bd_u0 hab, hb0, bd_r1 hab, bd_u1 hab, hb1, bd_r2 hab, bd_u2 hab, hb2, bd_r3 hab, bd_u3 hab, hb3, bd_r4 hab, bd_u4 hab, hb4, bd_r5 hab, bd_u5 hab, hb5, bd_r6 hab, bd_u6 hab, hb6, bd_r7 hab, bd_u7 hab, hb7, bd_r8 hab, bd_u8 hab, hb8, bd_r9 hab, bd_u9 hab, hb9, bd_r10 hab, bd_u10 hab, hb10, bd_f0, bd_f1, bd_f2, bd_f3, bd_f4, bd_f5, bd_f6, bd_f7, bd_f8, bd_f9, bd_f10, bd_f11, bd_f12, bd_f13, bd_f14, bd_f15, bd_f16, bd_s2, bd_s3, bd_s4, bd_s5, bd_s6, bd_s16]
        exact C74 1 h16 (Or.inr rfl) ⟨fun _ => Or.inr ⟨Int32.not_le.mp h7, h⟩, fun _ => rfl⟩
  have C18 : (nI t - nI f = 16 ∨ nI f - nI t = 16) → jJ E jcl 5 M (jQ E jcl M (fun r σ' n' => r = some (.inl (bPB (A 0) F f t)) ∧ n' = n ∧ σ' = (bdP σ a n0 F A L)) 0 0) n 0 0 18 [some (.inr (.inr (some (.inl (a))))), some (.inl (nI f)), some (.inl (nI t)), none, none] [] (bdP σ a n0 F A L) := by
    intro h16
    by_cases h0 : nI t &&& 7 ≤ 0
    · refine jrun_ok jC X k_BO_passedBy_18 18 _ _ _ o_BO_passedBy_18 ?_
      simp only [k_BO_passedBy_18, jrun, jstep, jldi, jldl, jlda, j1, j2, jl1, jl2, jli, ja1, jbr, jald, jast, jlald, jlast, jalen, jget, jput, jfit, jdup, jdupx, jdupx2, jdup2, jcat, jset1, jset2, jkill, List.getElem?_cons_zero, List.getElem?_cons_succ, List.set_cons_zero, List.set_cons_succ, List.length_cons, List.length_nil, Nat.reduceAdd, Nat.reduceLT, Int32.reduceToNatClampNeg, true_and, and_true, and_self, reduceCtorEq, not_false_eq_true, false_and, and_false, or_false, false_or, true_or, or_true, bd_a, bd_ua, bd_l, vp_nar_int32, haa, bd_r0 hab, bd_u0 hab, hb0, bd_r1 hab, bd_u1 hab, hb1, bd_r2 hab, bd_u2 hab, hb2, bd_r3 hab, bd_u3 hab, hb3, bd_r4 hab, bd_u4 hab, hb4, bd_r5 hab, bd_u5 hab, hb5, bd_r6 hab, bd_u6 hab, hb6, bd_r7 hab, bd_u7 hab, hb7, bd_r8 hab, bd_u8 hab, hb8, bd_r9 hab, bd_u9 hab, hb9, bd_r10 hab, bd_u10 hab, hb10, bd_f0, bd_f1, bd_f2, bd_f3, bd_f4, bd_f5, bd_f6, bd_f7, bd_f8, bd_f9, bd_f10, bd_f11, bd_f12, bd_f13, bd_f14, bd_f15, bd_f16, bd_s2, bd_s3, bd_s4, bd_s5, bd_s6, bd_s16]
      exact ⟨fun _ => C48 h16 (fun q => absurd q.1 (Int32.not_lt.mpr h0)), fun h => absurd h0 h⟩
    · have u1 : vp_in (nI t - 1) 64 = True := eq_true (pb_lo t ht h0).1
      have u2 := (pb_lo t ht h0).2
      refine jrun_ok jC X k_BO_passedBy_18 18 _ _ _ o_BO_passedBy_18 ?_
      simp only [k_BO_passedBy_18, jrun, jstep, jldi, jldl, jlda, j1, j2, jl1, jl2, jli, ja1, jbr, jald, jast, jlald, jlast, jalen, jget, jput, jfit, jdup, jdupx, jdupx2, jdup2, jcat, jset1, jset2, jkill, List.getElem?_cons_zero, List.getElem?_cons_succ, List.set_cons_zero, List.set_cons_succ, List.length_cons, List.length_nil, Nat.reduceAdd, Nat.reduceLT, Int32.reduceToNatClampNeg, true_and, and_true, and_self, reduceCtorEq, not_false_eq_true, false_and, and_false, or_false, false_or, true_or, or_true, bd_a, bd_ua, bd_l, vp_nar_int32, haa, bd_r0 hab, bd_u0 hab, hb0, bd_r1 hab, bd_u1 hab, hb1, bd_r2 hab, bd_u2 hab, hb2, bd_r3 hab, bd_u3 hab, hb3, bd_r4 hab, bd_u4 hab, hb4, bd_r5 hab, bd_u5 hab, hb5, bd_r6 hab, bd_u6 hab, hb6, bd_r7 hab, bd_u7 hab, hb7, bd_r8 hab, bd_u8 hab, hb8, bd_r9 hab, bd_u9 hab, hb9, bd_r10 hab, bd_u10 hab, hb10, bd_f0, bd_f1, bd_f2, bd_f3, bd_f4, bd_f5, bd_f6, bd_f7, bd_f8, bd_f9, bd_f10, bd_f11, bd_f12, bd_f13, bd_f14, bd_f15, bd_f16, bd_s2, bd_s3, bd_s4, bd_s5, bd_s6, bd_s16, u1, u2]
      refine ⟨fun h => absurd h h0, fun _ => ⟨fun h => ?_, fun h => C48 h16 (fun q => h q.2)⟩⟩
      refine jrun_ok jC X k_BO_passedBy_69 69 _ _ _ o_BO_passedBy_69 ?_
      simp only [k_BO_passedBy_69, jrun, jstep, jldi, jldl, jlda, j1, j2, jl1, jl2, jli, ja1, jbr, jald, jast, jlald, jlast, jalen, jget, jput, jfit, jdup, jdupx, jdupx2, jdup2, jcat, jset1, jset2, jkill, List.getElem?_cons_zero, List.getElem?_cons_succ, List.set_cons_zero, List.set_cons_succ, List.length_cons, List.length_nil, Nat.reduceAdd, Nat.reduceLT, Int32.reduceToNatClampNeg, true_and, and_true, and_self, reduceCtorEq, not_false_eq_true, false_and, and_false, or_false, false_or, true_or, or_true, bd_a, bd_ua, bd_l, vp_nar_int32, haa, bd_r0 hab, bd_u0 hab, hb0, bd_r1 hab, bd_u1 hab, hb1, bd_r2 hab, bd_u2 hab, hb2, bd_r3 hab, bd_u3 hab, hb3, bd_r4 hab, bd_u4 hab, hb4, bd_r5 hab, bd_u5 hab, hb5, bd_r6 hab, bd_u6 hab, hb6, bd_r7 hab, bd_u7 hab, hb7, bd_r8 hab, bd_u8 hab, hb8, bd_r9 hab, bd_u9 hab, hb9, bd_r10 hab, bd_u10 hab, hb10, bd_f0, bd_f1, bd_f2, bd_f3, bd_f4, bd_f5, bd_f6, bd_f7, bd_f8, bd_f9, bd_f10, bd_f11, bd_f12, bd_f13, bd_f14, bd_f15, bd_f16, bd_s2, bd_s3, bd_s4, bd_s5, bd_s6, bd_s16]
      exact C74 1 h16 (Or.inr rfl) ⟨fun _ => Or.inl ⟨Int32.not_le.mp h0, h⟩, fun _ => rfl⟩
  refine jrun_ok jC X k_BO_passedBy_0 0 _ _ _ o_BO_passedBy_0 ?_
  simp only [k_BO_passedBy_0, jrun, jstep, jldi, jldl, jlda, j1, j2, jl1, jl2, jli, ja1, jbr, jald, jast, jlald, jlast, jalen, jget, jput, jfit, jdup, jdupx, jdupx2, jdup2, jcat, jset1, jset2, jkill, List.getElem?_cons_zero, List.getElem?_cons_succ, List.set_cons_zero, List.set_cons_succ, List.length_cons, List.length_nil, Nat.reduceAdd, Nat.reduceLT, Int32.reduceToNatClampNeg, true_and, and_true, and_self, reduceCtorEq, not_false_eq_true, false_and, and_false, or_false, false_or, true_or, or_true, bd_a, bd_ua, bd_l, vp_nar_int32, haa, bd_r0 hab, bd_u0 hab, hb0, bd_r1 hab, bd_u1 hab, hb1, bd_r2 hab, bd_u2 hab, hb2, bd_r3 hab, bd_u3 hab, hb3, bd_r4 hab, bd_u4 hab, hb4, bd_r5 hab, bd_u5 hab, hb5, bd_r6 hab, bd_u6 hab, hb6, bd_r7 hab, bd_u7 hab, hb7, bd_r8 hab, bd_u8 hab, hb8, bd_r9 hab, bd_u9 hab, hb9, bd_r10 hab, bd_u10 hab, hb10, bd_f0, bd_f1, bd_f2, bd_f3, bd_f4, bd_f5, bd_f6, bd_f7, bd_f8, bd_f9, bd_f10, bd_f11, bd_f12, bd_f13, bd_f14, bd_f15, bd_f16, bd_s2, bd_s3, bd_s4, bd_s5, bd_s6, bd_s16]
  refine ⟨fun h => C18 (Or.inl h), fun h => ⟨fun h2 => C18 (Or.inr h2), fun h2 => ?_⟩⟩
  exact jk_iret X d_BO_passedBy_17 hr rfl (Nat.le_refl _) (Nat.le_refl _) ⟨by unfold bPB; rw [if_neg (fun q => q.elim h h2)], rfl, rfl⟩
end
section
theorem jtb_4 : jtb 4 = some ("ChessHouse$Board", "KEPT", "[I", .int, 64, fun i => tv_4.getD i 0) := rfl
noncomputable def bUd (F : Nat → Int32) (k : Nat) : Int64 := ((nI k ||| F 3 <<< (4 &&& 31)) ||| (F 4 + 1) <<< (8 &&& 31)).toInt64 ||| (F 5).toInt64 <<< (Int32.toInt64 16 &&& 63)
noncomputable def bQ (mm b : Nat) : Nat := if b = 0 then mm else mm / 8 * 8 + b
noncomputable def bMen (men : Nat → Int32) (f t w q mm sd : Nat) : Nat → Int32 := if nI mm &&& 7 = 6 ∧ nI t - nI f = 2 then upd (upd (upd (upd (upd men f 0) w 0) t (nI q)) (f + 3) 0) (f + 1) (nI (sd * 8 + 4)) else if nI mm &&& 7 = 6 ∧ nI f - nI t = 2 then upd (upd (upd (upd (upd men f 0) w 0) t (nI q)) (f - 4) 0) (f - 1) (nI (sd * 8 + 4)) else upd (upd (upd men f 0) w 0) t (nI q)
noncomputable def bF (F men : Nat → Int32) (f t mm k : Nat) : Nat → Int32 := va_up (va_up (va_up (va_up (va_up F 3 (F 3 &&& (tv_4.getD f 0 &&& tv_4.getD t 0))) 4 (if nI mm &&& 7 = 1 then bPB men F f t else -1)) 5 (if nI mm &&& 7 = 1 ∨ ¬ nI k = 0 then 0 else F 5 + 1)) 6 (F 6 + F 2)) 2 (F 2 ^^^ 1)
noncomputable def bWh (men F : Nat → Int32) (f t : Nat) : Int32 := if men f &&& 7 = 1 ∧ nI t = F 4 then bPP F else nI t
theorem bQ_lt : ∀ mm, mm < 16 → ∀ b, b < 8 → bQ mm b < 16 := by
  unfold bQ
  decide +kernel
theorem bQ_or : ∀ mm, mm < 16 → ∀ b, b < 8 → ¬ nI b = 0 → nI mm &&& 8 ||| nI b = nI (bQ mm b) := by
  unfold bQ
  decide +kernel
theorem bQ_0 : ∀ mm, mm < 16 → ∀ b, b < 8 → nI b = 0 → nI mm = nI (bQ mm b) := by
  unfold bQ
  decide +kernel
theorem bRook : ∀ sd, sd < 2 → nI sd <<< (3 &&& 31) ||| 4 = nI (sd * 8 + 4) := by decide +kernel
theorem upd_sm {men : Nat → Int32} {w : Nat} {x : Int32} (h : men w = x) : upd men w x = men := by
  funext i
  unfold upd
  by_cases e : i = w
  · rw [if_pos e, e, h]
  · rw [if_neg e]
theorem lift_0 {men : Nat → Int32} {f w : Nat} (h : men w = 0) : upd (upd men f 0) w 0 = upd men f 0 := by
  apply upd_sm
  unfold upd
  split
  · rfl
  · exact h
theorem b_u3 {men : Nat → Int32} {f w t i : Nat} {q : Int32} (h1 : i ≠ f) (h2 : i ≠ w) (h3 : i ≠ t) : upd (upd (upd men f 0) w 0) t q i = men i := by
  rw [upd_o h3, upd_o h2, upd_o h1]
theorem nI4_ne : ∀ sd, sd < 2 → ¬ nI (sd * 8 + 4) = 0 := by decide
theorem b_t0 {men : Nat → Int32} {f w t : Nat} (h : w = t ∨ men t = 0) : upd (upd men f 0) w 0 t = 0 := by
  unfold upd
  split
  · rfl
  · split
    · rfl
    · rcases h with h | h
      · exact absurd h.symm (by assumption)
      · exact h
theorem b_q0 {mm b : Nat} (h1 : mm < 16) (h : ¬ mm = 0) (hb : b < 8) : ¬ bQ mm b = 0 := by
  unfold bQ
  split <;> omega
theorem b_n0 {mm : Nat} (h1 : mm < 16) (h : ¬ mm = 0) : ¬ nI mm = 0 := by
  intro e
  have : (nI mm).toNatClampNeg = 0 := by rw [e]; rfl
  rw [nI_clamp (by omega)] at this
  exact h this
theorem nI_p3 {f : Nat} : nI f + 3 = nI (f + 3) := nI_add f 3
theorem nI_m4 {f : Nat} (h : 4 ≤ f) : nI f - 4 = nI (f - 4) := by
  obtain ⟨g, rfl⟩ : ∃ g, f = g + 4 := ⟨f - 4, by omega⟩
  rw [← nI_add, Nat.add_sub_cancel]
  show nI g + 4 - 4 = nI g
  exact Int32.add_sub_cancel _ _
theorem nI_m1 {f : Nat} (h : 1 ≤ f) : nI f - 1 = nI (f - 1) := by
  obtain ⟨g, rfl⟩ : ∃ g, f = g + 1 := ⟨f - 1, by omega⟩
  rw [Nat.add_sub_cancel]
  exact nI_pred g
set_option maxRecDepth 100000 in
set_option maxHeartbeats 4000000 in
theorem c_BO_make (l : Launch) (E : jE) (σ : Nat → jcell) (n : Nat) (a n0 : Nat) (hab : a < n0) (hn0 : n0 + 11 ≤ n) (F : Nat → Int32) (A : Nat → Nat → Int32) (L : Nat → Nat → Int64) (mv : Int32) (f t b w mm k sd : Nat) (hf : f < 64) (ht : t < 64) (hb : b < 8) (hw : w < 64) (hmm : mm < 16) (hk : k < 16) (hsd : sd < 2) (e1 : mv >>> (9 &&& 31) = nI f) (e2 : mv >>> (3 &&& 31) &&& 63 = nI t) (e3 : mv &&& 7 = nI b) (hM : menOK (A 0)) (hman : A 0 f = nI mm) (htk : A 0 w = nI k) (hs2 : F 2 = nI sd) (hwh : bWh (A 0) F f t = nI w) (hc1 : nI mm &&& 7 = 6 → nI t - nI f = 2 → f + 3 < 64) (hc2 : nI mm &&& 7 = 6 → nI f - nI t = 2 → 4 ≤ f) (hq1 : ¬ mm = 0) (hq2 : ¬ w = f) (hq3 : w = t ∨ A 0 t = 0) (hq5 : nI mm &&& 7 = 6 → nI t - nI f = 2 → t = f + 2 ∧ f + 3 < 64 ∧ w = t ∧ k = 0 ∧ A 0 (f + 3) = nI (sd * 8 + 4) ∧ A 0 (f + 1) = 0) (hq6 : nI mm &&& 7 = 6 → nI f - nI t = 2 → f = t + 2 ∧ 4 ≤ f ∧ w = t ∧ k = 0 ∧ A 0 (f - 4) = nI (sd * 8 + 4) ∧ A 0 (f - 1) = 0) : jMet l E jcl jtb lw_tbl y_BO_make { frames := 1, cells := 0, slots := 0, locals := 40 } [.inr (.inr (some (.inl (a)))), .inl mv] (bdP σ a n0 F A L) n (fun r σ' n' => ∃ (F' : Nat → Int32) (A' : Nat → Nat → Int32) (L' : Nat → Nat → Int64), r = some (.inr (.inl (bUd F k))) ∧ n' = n ∧ σ' = (bdP σ a n0 F' A' L') ∧ bKeep A A' L L' ∧ A' 0 = bMen (A 0) f t w (bQ mm b) mm sd ∧ (kOK (A 1) → kOK (A' 1)) ∧ (bWs A → bWs A') ∧ F' = bF F (A' 0) f t mm k) := by
  refine jMet_of (hY := rfl) false (fun h => by cases h) (by decide) (Nat.le_of_ble_eq_true rfl) [some (.inr (.inr (some (.inl (a))))), some (.inl mv), none, none, none, none, none, none, none, none, none] rfl ?_
  intro M hl hR X hr
  have hb0 : (n0 < n) = True := eq_true (by omega)
  have hb1 : (n0 + 1 < n) = True := eq_true (by omega)
  have hb2 : (n0 + 2 < n) = True := eq_true (by omega)
  have hb3 : (n0 + 3 < n) = True := eq_true (by omega)
  have hb4 : (n0 + 4 < n) = True := eq_true (by omega)
  have hb5 : (n0 + 5 < n) = True := eq_true (by omega)
  have hb6 : (n0 + 6 < n) = True := eq_true (by omega)
  have hb7 : (n0 + 7 < n) = True := eq_true (by omega)
  have hb8 : (n0 + 8 < n) = True := eq_true (by omega)
  have hb9 : (n0 + 9 < n) = True := eq_true (by omega)
  have hb10 : (n0 + 10 < n) = True := eq_true (by omega)
  have haa : (a < n) = True := eq_true (by omega)
  have cf : (nI f).toNatClampNeg = f := nI_clamp (by omega)
  have ct : (nI t).toNatClampNeg = t := nI_clamp (by omega)
  have cw : (nI w).toNatClampNeg = w := nI_clamp (by omega)
  have uf : vp_in (nI f) 64 = True := eq_true (vp_in_nI hf (by decide))
  have ut : vp_in (nI t) 64 = True := eq_true (vp_in_nI ht (by decide))
  have uw : vp_in (nI w) 64 = True := eq_true (vp_in_nI hw (by decide))
  have C273 : ∀ (A2 : Nat → Nat → Int32) (L2 : Nat → Nat → Int64) (v : Int32), v = (if nI mm &&& 7 = 1 ∨ ¬ nI k = 0 then 0 else F 5 + 1) → bKeep A A2 L L2 → A2 0 = bMen (A 0) f t w (bQ mm b) mm sd → (kOK (A 1) → kOK (A2 1)) → (bWs A → bWs A2) → jJ E jcl 11 M (jQ E jcl M (fun r σ' n' => ∃ (F' : Nat → Int32) (A' : Nat → Nat → Int32) (L' : Nat → Nat → Int64), r = some (.inr (.inl (bUd F k))) ∧ n' = n ∧ σ' = (bdP σ a n0 F' A' L') ∧ bKeep A A' L L' ∧ A' 0 = bMen (A 0) f t w (bQ mm b) mm sd ∧ (kOK (A 1) → kOK (A' 1)) ∧ (bWs A → bWs A') ∧ F' = bF F (A' 0) f t mm k) 0 0) n 0 0 273 [some (.inr (.inr (some (.inl (a))))), some (.inl mv), some (.inl (nI f)), some (.inl (nI t)), some (.inl (nI b)), some (.inl (nI mm)), some (.inl (nI mm &&& 7)), some (.inl (nI w)), some (.inl (nI k)), some (.inr (.inl (bUd F k))), none] [.inl v, .inr (.inr (some (.inl (a))))] (bdP σ a n0 (va_up (va_up F 3 (F 3 &&& (tv_4.getD f 0 &&& tv_4.getD t 0))) 4 (if nI mm &&& 7 = 1 then bPB (A2 0) F f t else -1)) A2 L2) := by
    intro A2 L2 v hv k1 k2 k3 k4
    subst hv
    refine jrun_ok jC X k_BO_make_273 273 _ _ _ o_BO_make_273 ?_
    simp only [k_BO_make_273, jrun, jstep, jldi, jldl, jlda, j1, j2, jl1, jl2, jli, ja1, jbr, jald, jast, jlald, jlast, jalen, jget, jput, jfit, jdup, jdupx, jdupx2, jdup2, jcat, jset1, jset2, jkill, List.getElem?_cons_zero, List.getElem?_cons_succ, List.set_cons_zero, List.set_cons_succ, List.length_cons, List.length_nil, Nat.reduceAdd, Nat.reduceLT, Int32.reduceToNatClampNeg, true_and, and_true, and_self, reduceCtorEq, not_false_eq_true, false_and, and_false, or_false, false_or, true_or, or_true, bd_a, bd_ua, bd_l, vp_nar_int32, haa, bd_r0 hab, bd_u0 hab, hb0, bd_r1 hab, bd_u1 hab, hb1, bd_r2 hab, bd_u2 hab, hb2, bd_r3 hab, bd_u3 hab, hb3, bd_r4 hab, bd_u4 hab, hb4, bd_r5 hab, bd_u5 hab, hb5, bd_r6 hab, bd_u6 hab, hb6, bd_r7 hab, bd_u7 hab, hb7, bd_r8 hab, bd_u8 hab, hb8, bd_r9 hab, bd_u9 hab, hb9, bd_r10 hab, bd_u10 hab, hb10, bd_f0, bd_f1, bd_f2, bd_f3, bd_f4, bd_f5, bd_f6, bd_f7, bd_f8, bd_f9, bd_f10, bd_f11, bd_f12, bd_f13, bd_f14, bd_f15, bd_f16, bd_s2, bd_s3, bd_s4, bd_s5, bd_s6, bd_s16]
    refine jrun_ok jC X k_BO_make_276 276 _ _ _ o_BO_make_276 ?_
    simp only [k_BO_make_276, jrun, jstep, jldi, jldl, jlda, j1, j2, jl1, jl2, jli, ja1, jbr, jald, jast, jlald, jlast, jalen, jget, jput, jfit, jdup, jdupx, jdupx2, jdup2, jcat, jset1, jset2, jkill, List.getElem?_cons_zero, List.getElem?_cons_succ, List.set_cons_zero, List.set_cons_succ, List.length_cons, List.length_nil, Nat.reduceAdd, Nat.reduceLT, Int32.reduceToNatClampNeg, true_and, and_true, and_self, reduceCtorEq, not_false_eq_true, false_and, and_false, or_false, false_or, true_or, or_true, bd_a, bd_ua, bd_l, vp_nar_int32, haa, bd_r0 hab, bd_u0 hab, hb0, bd_r1 hab, bd_u1 hab, hb1, bd_r2 hab, bd_u2 hab, hb2, bd_r3 hab, bd_u3 hab, hb3, bd_r4 hab, bd_u4 hab, hb4, bd_r5 hab, bd_u5 hab, hb5, bd_r6 hab, bd_u6 hab, hb6, bd_r7 hab, bd_u7 hab, hb7, bd_r8 hab, bd_u8 hab, hb8, bd_r9 hab, bd_u9 hab, hb9, bd_r10 hab, bd_u10 hab, hb10, bd_f0, bd_f1, bd_f2, bd_f3, bd_f4, bd_f5, bd_f6, bd_f7, bd_f8, bd_f9, bd_f10, bd_f11, bd_f12, bd_f13, bd_f14, bd_f15, bd_f16, bd_s2, bd_s3, bd_s4, bd_s5, bd_s6, bd_s16]
    refine jrun_ok jC X k_BO_make_289 289 _ _ _ o_BO_make_289 ?_
    simp only [k_BO_make_289, jrun, jstep, jldi, jldl, jlda, j1, j2, jl1, jl2, jli, ja1, jbr, jald, jast, jlald, jlast, jalen, jget, jput, jfit, jdup, jdupx, jdupx2, jdup2, jcat, jset1, jset2, jkill, List.getElem?_cons_zero, List.getElem?_cons_succ, List.set_cons_zero, List.set_cons_succ, List.length_cons, List.length_nil, Nat.reduceAdd, Nat.reduceLT, Int32.reduceToNatClampNeg, true_and, and_true, and_self, reduceCtorEq, not_false_eq_true, false_and, and_false, or_false, false_or, true_or, or_true, bd_a, bd_ua, bd_l, vp_nar_int32, haa, bd_r0 hab, bd_u0 hab, hb0, bd_r1 hab, bd_u1 hab, hb1, bd_r2 hab, bd_u2 hab, hb2, bd_r3 hab, bd_u3 hab, hb3, bd_r4 hab, bd_u4 hab, hb4, bd_r5 hab, bd_u5 hab, hb5, bd_r6 hab, bd_u6 hab, hb6, bd_r7 hab, bd_u7 hab, hb7, bd_r8 hab, bd_u8 hab, hb8, bd_r9 hab, bd_u9 hab, hb9, bd_r10 hab, bd_u10 hab, hb10, bd_f0, bd_f1, bd_f2, bd_f3, bd_f4, bd_f5, bd_f6, bd_f7, bd_f8, bd_f9, bd_f10, bd_f11, bd_f12, bd_f13, bd_f14, bd_f15, bd_f16, bd_s2, bd_s3, bd_s4, bd_s5, bd_s6, bd_s16]
    exact jk_lret X d_BO_make_301 hr (Nat.le_refl _) (Nat.le_refl _) ⟨_, A2, L2, rfl, rfl, rfl, k1, k2, k3, k4, rfl⟩
  have C248 : ∀ (A2 : Nat → Nat → Int32) (L2 : Nat → Nat → Int64) (v : Int32), v = (if nI mm &&& 7 = 1 then bPB (A2 0) F f t else -1) → bKeep A A2 L L2 → A2 0 = bMen (A 0) f t w (bQ mm b) mm sd → (kOK (A 1) → kOK (A2 1)) → (bWs A → bWs A2) → jJ E jcl 11 M (jQ E jcl M (fun r σ' n' => ∃ (F' : Nat → Int32) (A' : Nat → Nat → Int32) (L' : Nat → Nat → Int64), r = some (.inr (.inl (bUd F k))) ∧ n' = n ∧ σ' = (bdP σ a n0 F' A' L') ∧ bKeep A A' L L' ∧ A' 0 = bMen (A 0) f t w (bQ mm b) mm sd ∧ (kOK (A 1) → kOK (A' 1)) ∧ (bWs A → bWs A') ∧ F' = bF F (A' 0) f t mm k) 0 0) n 0 0 248 [some (.inr (.inr (some (.inl (a))))), some (.inl mv), some (.inl (nI f)), some (.inl (nI t)), some (.inl (nI b)), some (.inl (nI mm)), some (.inl (nI mm &&& 7)), some (.inl (nI w)), some (.inl (nI k)), some (.inr (.inl (bUd F k))), none] [.inl v, .inr (.inr (some (.inl (a))))] (bdP σ a n0 (va_up F 3 (F 3 &&& (tv_4.getD f 0 &&& tv_4.getD t 0))) A2 L2) := by
    intro A2 L2 v hv k1 k2 k3 k4
    subst hv
    refine jrun_ok jC X k_BO_make_248 248 _ _ _ o_BO_make_248 ?_
    simp only [k_BO_make_248, jrun, jstep, jldi, jldl, jlda, j1, j2, jl1, jl2, jli, ja1, jbr, jald, jast, jlald, jlast, jalen, jget, jput, jfit, jdup, jdupx, jdupx2, jdup2, jcat, jset1, jset2, jkill, List.getElem?_cons_zero, List.getElem?_cons_succ, List.set_cons_zero, List.set_cons_succ, List.length_cons, List.length_nil, Nat.reduceAdd, Nat.reduceLT, Int32.reduceToNatClampNeg, true_and, and_true, and_self, reduceCtorEq, not_false_eq_true, false_and, and_false, or_false, false_or, true_or, or_true, bd_a, bd_ua, bd_l, vp_nar_int32, haa, bd_r0 hab, bd_u0 hab, hb0, bd_r1 hab, bd_u1 hab, hb1, bd_r2 hab, bd_u2 hab, hb2, bd_r3 hab, bd_u3 hab, hb3, bd_r4 hab, bd_u4 hab, hb4, bd_r5 hab, bd_u5 hab, hb5, bd_r6 hab, bd_u6 hab, hb6, bd_r7 hab, bd_u7 hab, hb7, bd_r8 hab, bd_u8 hab, hb8, bd_r9 hab, bd_u9 hab, hb9, bd_r10 hab, bd_u10 hab, hb10, bd_f0, bd_f1, bd_f2, bd_f3, bd_f4, bd_f5, bd_f6, bd_f7, bd_f8, bd_f9, bd_f10, bd_f11, bd_f12, bd_f13, bd_f14, bd_f15, bd_f16, bd_s2, bd_s3, bd_s4, bd_s5, bd_s6, bd_s16]
    refine jrun_ok jC X k_BO_make_251 251 _ _ _ o_BO_make_251 ?_
    simp only [k_BO_make_251, jrun, jstep, jldi, jldl, jlda, j1, j2, jl1, jl2, jli, ja1, jbr, jald, jast, jlald, jlast, jalen, jget, jput, jfit, jdup, jdupx, jdupx2, jdup2, jcat, jset1, jset2, jkill, List.getElem?_cons_zero, List.getElem?_cons_succ, List.set_cons_zero, List.set_cons_succ, List.length_cons, List.length_nil, Nat.reduceAdd, Nat.reduceLT, Int32.reduceToNatClampNeg, true_and, and_true, and_self, reduceCtorEq, not_false_eq_true, false_and, and_false, or_false, false_or, true_or, or_true, bd_a, bd_ua, bd_l, vp_nar_int32, haa, bd_r0 hab, bd_u0 hab, hb0, bd_r1 hab, bd_u1 hab, hb1, bd_r2 hab, bd_u2 hab, hb2, bd_r3 hab, bd_u3 hab, hb3, bd_r4 hab, bd_u4 hab, hb4, bd_r5 hab, bd_u5 hab, hb5, bd_r6 hab, bd_u6 hab, hb6, bd_r7 hab, bd_u7 hab, hb7, bd_r8 hab, bd_u8 hab, hb8, bd_r9 hab, bd_u9 hab, hb9, bd_r10 hab, bd_u10 hab, hb10, bd_f0, bd_f1, bd_f2, bd_f3, bd_f4, bd_f5, bd_f6, bd_f7, bd_f8, bd_f9, bd_f10, bd_f11, bd_f12, bd_f13, bd_f14, bd_f15, bd_f16, bd_s2, bd_s3, bd_s4, bd_s5, bd_s6, bd_s16]
    refine ⟨fun h => ?_, fun h => ⟨fun h2 => ?_, fun h2 => ?_⟩⟩
    · refine jrun_ok jC X k_BO_make_263 263 _ _ _ o_BO_make_263 ?_
      simp only [k_BO_make_263, jrun, jstep, jldi, jldl, jlda, j1, j2, jl1, jl2, jli, ja1, jbr, jald, jast, jlald, jlast, jalen, jget, jput, jfit, jdup, jdupx, jdupx2, jdup2, jcat, jset1, jset2, jkill, List.getElem?_cons_zero, List.getElem?_cons_succ, List.set_cons_zero, List.set_cons_succ, List.length_cons, List.length_nil, Nat.reduceAdd, Nat.reduceLT, Int32.reduceToNatClampNeg, true_and, and_true, and_self, reduceCtorEq, not_false_eq_true, false_and, and_false, or_false, false_or, true_or, or_true, bd_a, bd_ua, bd_l, vp_nar_int32, haa, bd_r0 hab, bd_u0 hab, hb0, bd_r1 hab, bd_u1 hab, hb1, bd_r2 hab, bd_u2 hab, hb2, bd_r3 hab, bd_u3 hab, hb3, bd_r4 hab, bd_u4 hab, hb4, bd_r5 hab, bd_u5 hab, hb5, bd_r6 hab, bd_u6 hab, hb6, bd_r7 hab, bd_u7 hab, hb7, bd_r8 hab, bd_u8 hab, hb8, bd_r9 hab, bd_u9 hab, hb9, bd_r10 hab, bd_u10 hab, hb10, bd_f0, bd_f1, bd_f2, bd_f3, bd_f4, bd_f5, bd_f6, bd_f7, bd_f8, bd_f9, bd_f10, bd_f11, bd_f12, bd_f13, bd_f14, bd_f15, bd_f16, bd_s2, bd_s3, bd_s4, bd_s5, bd_s6, bd_s16]
      exact C273 A2 L2 _ (by rw [if_pos (Or.inl h)]) k1 k2 k3 k4
    · refine jrun_ok jC X k_BO_make_267 267 _ _ _ o_BO_make_267 ?_
      simp only [k_BO_make_267, jrun, jstep, jldi, jldl, jlda, j1, j2, jl1, jl2, jli, ja1, jbr, jald, jast, jlald, jlast, jalen, jget, jput, jfit, jdup, jdupx, jdupx2, jdup2, jcat, jset1, jset2, jkill, List.getElem?_cons_zero, List.getElem?_cons_succ, List.set_cons_zero, List.set_cons_succ, List.length_cons, List.length_nil, Nat.reduceAdd, Nat.reduceLT, Int32.reduceToNatClampNeg, true_and, and_true, and_self, reduceCtorEq, not_false_eq_true, false_and, and_false, or_false, false_or, true_or, or_true, bd_a, bd_ua, bd_l, vp_nar_int32, haa, bd_r0 hab, bd_u0 hab, hb0, bd_r1 hab, bd_u1 hab, hb1, bd_r2 hab, bd_u2 hab, hb2, bd_r3 hab, bd_u3 hab, hb3, bd_r4 hab, bd_u4 hab, hb4, bd_r5 hab, bd_u5 hab, hb5, bd_r6 hab, bd_u6 hab, hb6, bd_r7 hab, bd_u7 hab, hb7, bd_r8 hab, bd_u8 hab, hb8, bd_r9 hab, bd_u9 hab, hb9, bd_r10 hab, bd_u10 hab, hb10, bd_f0, bd_f1, bd_f2, bd_f3, bd_f4, bd_f5, bd_f6, bd_f7, bd_f8, bd_f9, bd_f10, bd_f11, bd_f12, bd_f13, bd_f14, bd_f15, bd_f16, bd_s2, bd_s3, bd_s4, bd_s5, bd_s6, bd_s16]
      exact C273 A2 L2 _ (by simp [va_up, h, h2]) k1 k2 k3 k4
    · refine jrun_ok jC X k_BO_make_263 263 _ _ _ o_BO_make_263 ?_
      simp only [k_BO_make_263, jrun, jstep, jldi, jldl, jlda, j1, j2, jl1, jl2, jli, ja1, jbr, jald, jast, jlald, jlast, jalen, jget, jput, jfit, jdup, jdupx, jdupx2, jdup2, jcat, jset1, jset2, jkill, List.getElem?_cons_zero, List.getElem?_cons_succ, List.set_cons_zero, List.set_cons_succ, List.length_cons, List.length_nil, Nat.reduceAdd, Nat.reduceLT, Int32.reduceToNatClampNeg, true_and, and_true, and_self, reduceCtorEq, not_false_eq_true, false_and, and_false, or_false, false_or, true_or, or_true, bd_a, bd_ua, bd_l, vp_nar_int32, haa, bd_r0 hab, bd_u0 hab, hb0, bd_r1 hab, bd_u1 hab, hb1, bd_r2 hab, bd_u2 hab, hb2, bd_r3 hab, bd_u3 hab, hb3, bd_r4 hab, bd_u4 hab, hb4, bd_r5 hab, bd_u5 hab, hb5, bd_r6 hab, bd_u6 hab, hb6, bd_r7 hab, bd_u7 hab, hb7, bd_r8 hab, bd_u8 hab, hb8, bd_r9 hab, bd_u9 hab, hb9, bd_r10 hab, bd_u10 hab, hb10, bd_f0, bd_f1, bd_f2, bd_f3, bd_f4, bd_f5, bd_f6, bd_f7, bd_f8, bd_f9, bd_f10, bd_f11, bd_f12, bd_f13, bd_f14, bd_f15, bd_f16, bd_s2, bd_s3, bd_s4, bd_s5, bd_s6, bd_s16]
      exact C273 A2 L2 _ (by rw [if_pos (Or.inr h2)]) k1 k2 k3 k4
  have C211 : ∀ (A2 : Nat → Nat → Int32) (L2 : Nat → Nat → Int64), bKeep A A2 L L2 → A2 0 = bMen (A 0) f t w (bQ mm b) mm sd → (kOK (A 1) → kOK (A2 1)) → (bWs A → bWs A2) → jJ E jcl 11 M (jQ E jcl M (fun r σ' n' => ∃ (F' : Nat → Int32) (A' : Nat → Nat → Int32) (L' : Nat → Nat → Int64), r = some (.inr (.inl (bUd F k))) ∧ n' = n ∧ σ' = (bdP σ a n0 F' A' L') ∧ bKeep A A' L L' ∧ A' 0 = bMen (A 0) f t w (bQ mm b) mm sd ∧ (kOK (A 1) → kOK (A' 1)) ∧ (bWs A → bWs A') ∧ F' = bF F (A' 0) f t mm k) 0 0) n 0 0 211 [some (.inr (.inr (some (.inl (a))))), some (.inl mv), some (.inl (nI f)), some (.inl (nI t)), some (.inl (nI b)), some (.inl (nI mm)), some (.inl (nI mm &&& 7)), some (.inl (nI w)), some (.inl (nI k)), some (.inr (.inl (bUd F k))), none] [] (bdP σ a n0 F A2 L2) := by
    intro A2 L2 k1 k2 k3 k4
    refine jrun_ok jC X k_BO_make_211 211 _ _ _ o_BO_make_211 ?_
    simp only [k_BO_make_211, jrun, jstep, jldi, jldl, jlda, j1, j2, jl1, jl2, jli, ja1, jbr, jald, jast, jlald, jlast, jalen, jget, jput, jfit, jdup, jdupx, jdupx2, jdup2, jcat, jset1, jset2, jkill, List.getElem?_cons_zero, List.getElem?_cons_succ, List.set_cons_zero, List.set_cons_succ, List.length_cons, List.length_nil, Nat.reduceAdd, Nat.reduceLT, Int32.reduceToNatClampNeg, true_and, and_true, and_self, reduceCtorEq, not_false_eq_true, false_and, and_false, or_false, false_or, true_or, or_true, bd_a, bd_ua, bd_l, vp_nar_int32, haa, bd_r0 hab, bd_u0 hab, hb0, bd_r1 hab, bd_u1 hab, hb1, bd_r2 hab, bd_u2 hab, hb2, bd_r3 hab, bd_u3 hab, hb3, bd_r4 hab, bd_u4 hab, hb4, bd_r5 hab, bd_u5 hab, hb5, bd_r6 hab, bd_u6 hab, hb6, bd_r7 hab, bd_u7 hab, hb7, bd_r8 hab, bd_u8 hab, hb8, bd_r9 hab, bd_u9 hab, hb9, bd_r10 hab, bd_u10 hab, hb10, bd_f0, bd_f1, bd_f2, bd_f3, bd_f4, bd_f5, bd_f6, bd_f7, bd_f8, bd_f9, bd_f10, bd_f11, bd_f12, bd_f13, bd_f14, bd_f15, bd_f16, bd_s2, bd_s3, bd_s4, bd_s5, bd_s6, bd_s16, cf, ct, cw, uf, ut, uw, hman, htk, e1, e2, e3, jtb_4]
    refine jrun_ok jC X k_BO_make_231 231 _ _ _ o_BO_make_231 ?_
    simp only [k_BO_make_231, jrun, jstep, jldi, jldl, jlda, j1, j2, jl1, jl2, jli, ja1, jbr, jald, jast, jlald, jlast, jalen, jget, jput, jfit, jdup, jdupx, jdupx2, jdup2, jcat, jset1, jset2, jkill, List.getElem?_cons_zero, List.getElem?_cons_succ, List.set_cons_zero, List.set_cons_succ, List.length_cons, List.length_nil, Nat.reduceAdd, Nat.reduceLT, Int32.reduceToNatClampNeg, true_and, and_true, and_self, reduceCtorEq, not_false_eq_true, false_and, and_false, or_false, false_or, true_or, or_true, bd_a, bd_ua, bd_l, vp_nar_int32, haa, bd_r0 hab, bd_u0 hab, hb0, bd_r1 hab, bd_u1 hab, hb1, bd_r2 hab, bd_u2 hab, hb2, bd_r3 hab, bd_u3 hab, hb3, bd_r4 hab, bd_u4 hab, hb4, bd_r5 hab, bd_u5 hab, hb5, bd_r6 hab, bd_u6 hab, hb6, bd_r7 hab, bd_u7 hab, hb7, bd_r8 hab, bd_u8 hab, hb8, bd_r9 hab, bd_u9 hab, hb9, bd_r10 hab, bd_u10 hab, hb10, bd_f0, bd_f1, bd_f2, bd_f3, bd_f4, bd_f5, bd_f6, bd_f7, bd_f8, bd_f9, bd_f10, bd_f11, bd_f12, bd_f13, bd_f14, bd_f15, bd_f16, bd_s2, bd_s3, bd_s4, bd_s5, bd_s6, bd_s16]
    refine ⟨fun h => ?_, fun h => ?_⟩
    · refine jrun_ok jC X k_BO_make_247 247 _ _ _ o_BO_make_247 ?_
      simp only [k_BO_make_247, jrun, jstep, jldi, jldl, jlda, j1, j2, jl1, jl2, jli, ja1, jbr, jald, jast, jlald, jlast, jalen, jget, jput, jfit, jdup, jdupx, jdupx2, jdup2, jcat, jset1, jset2, jkill, List.getElem?_cons_zero, List.getElem?_cons_succ, List.set_cons_zero, List.set_cons_succ, List.length_cons, List.length_nil, Nat.reduceAdd, Nat.reduceLT, Int32.reduceToNatClampNeg, true_and, and_true, and_self, reduceCtorEq, not_false_eq_true, false_and, and_false, or_false, false_or, true_or, or_true, bd_a, bd_ua, bd_l, vp_nar_int32, haa, bd_r0 hab, bd_u0 hab, hb0, bd_r1 hab, bd_u1 hab, hb1, bd_r2 hab, bd_u2 hab, hb2, bd_r3 hab, bd_u3 hab, hb3, bd_r4 hab, bd_u4 hab, hb4, bd_r5 hab, bd_u5 hab, hb5, bd_r6 hab, bd_u6 hab, hb6, bd_r7 hab, bd_u7 hab, hb7, bd_r8 hab, bd_u8 hab, hb8, bd_r9 hab, bd_u9 hab, hb9, bd_r10 hab, bd_u10 hab, hb10, bd_f0, bd_f1, bd_f2, bd_f3, bd_f4, bd_f5, bd_f6, bd_f7, bd_f8, bd_f9, bd_f10, bd_f11, bd_f12, bd_f13, bd_f14, bd_f15, bd_f16, bd_s2, bd_s3, bd_s4, bd_s5, bd_s6, bd_s16]
      exact C248 A2 L2 _ (by rw [if_neg h]) k1 k2 k3 k4
    · refine jk_Vg X hR d_BO_make_241 q_BO_make_241 m_BO_passedBy i_BO_passedBy e_BO_passedBy (ci := 10) rfl rfl (by omega) bd_a (c_BO_passedBy M.2.1 E _ _ _ _ hab hn0 _ _ _ f t hf ht) (by rfl) rfl ⟨Nat.le_of_ble_eq_true rfl, Nat.le_of_ble_eq_true rfl⟩ (c' := 0) rfl (s' := 0) rfl ⟨Nat.le_of_ble_eq_true rfl, Nat.le_of_ble_eq_true rfl⟩ (by exact Nat.le_of_ble_eq_true rfl) (pc' := 244) rfl ?_
      rintro _ _ _ ⟨rfl, hn2, rfl⟩
      obtain rfl : n = _ := hn2.symm
      simp only [Option.toList_some, List.cons_append, List.nil_append]
      refine jrun_ok jC X k_BO_make_244 244 _ _ _ o_BO_make_244 ?_
      simp only [k_BO_make_244, jrun, jstep, jldi, jldl, jlda, j1, j2, jl1, jl2, jli, ja1, jbr, jald, jast, jlald, jlast, jalen, jget, jput, jfit, jdup, jdupx, jdupx2, jdup2, jcat, jset1, jset2, jkill, List.getElem?_cons_zero, List.getElem?_cons_succ, List.set_cons_zero, List.set_cons_succ, List.length_cons, List.length_nil, Nat.reduceAdd, Nat.reduceLT, Int32.reduceToNatClampNeg, true_and, and_true, and_self, reduceCtorEq, not_false_eq_true, false_and, and_false, or_false, false_or, true_or, or_true, bd_a, bd_ua, bd_l, vp_nar_int32, haa, bd_r0 hab, bd_u0 hab, hb0, bd_r1 hab, bd_u1 hab, hb1, bd_r2 hab, bd_u2 hab, hb2, bd_r3 hab, bd_u3 hab, hb3, bd_r4 hab, bd_u4 hab, hb4, bd_r5 hab, bd_u5 hab, hb5, bd_r6 hab, bd_u6 hab, hb6, bd_r7 hab, bd_u7 hab, hb7, bd_r8 hab, bd_u8 hab, hb8, bd_r9 hab, bd_u9 hab, hb9, bd_r10 hab, bd_u10 hab, hb10, bd_f0, bd_f1, bd_f2, bd_f3, bd_f4, bd_f5, bd_f6, bd_f7, bd_f8, bd_f9, bd_f10, bd_f11, bd_f12, bd_f13, bd_f14, bd_f15, bd_f16, bd_s2, bd_s3, bd_s4, bd_s5, bd_s6, bd_s16]
      exact C248 A2 L2 _ (by rw [if_pos h]; simp [bPB, va_up]) k1 k2 k3 k4
  have hMM : menOK (upd (upd (upd (A 0) f 0) w 0) t (nI (bQ mm b))) := menOK_up (menOK_up (menOK_up hM (m := 0) (by decide)) (m := 0) (by decide)) (bQ_lt mm hmm b hb)
  have C175 : ∀ (A2 : Nat → Nat → Int32) (L2 : Nat → Nat → Int64), ¬ (nI mm &&& 7 = 6 ∧ nI t - nI f = 2) → bKeep A A2 L L2 → A2 0 = (upd (upd (upd (A 0) f 0) w 0) t (nI (bQ mm b))) → (kOK (A 1) → kOK (A2 1)) → (bWs A → bWs A2) → jJ E jcl 11 M (jQ E jcl M (fun r σ' n' => ∃ (F' : Nat → Int32) (A' : Nat → Nat → Int32) (L' : Nat → Nat → Int64), r = some (.inr (.inl (bUd F k))) ∧ n' = n ∧ σ' = (bdP σ a n0 F' A' L') ∧ bKeep A A' L L' ∧ A' 0 = bMen (A 0) f t w (bQ mm b) mm sd ∧ (kOK (A 1) → kOK (A' 1)) ∧ (bWs A → bWs A') ∧ F' = bF F (A' 0) f t mm k) 0 0) n 0 0 175 [some (.inr (.inr (some (.inl (a))))), some (.inl mv), some (.inl (nI f)), some (.inl (nI t)), some (.inl (nI b)), some (.inl (nI mm)), some (.inl (nI mm &&& 7)), some (.inl (nI w)), some (.inl (nI k)), some (.inr (.inl (bUd F k))), none] [] (bdP σ a n0 F A2 L2) := by
    intro A2 L2 hn k1 k2 k3 k4
    refine jrun_ok jC X k_BO_make_175 175 _ _ _ o_BO_make_175 ?_
    simp only [k_BO_make_175, jrun, jstep, jldi, jldl, jlda, j1, j2, jl1, jl2, jli, ja1, jbr, jald, jast, jlald, jlast, jalen, jget, jput, jfit, jdup, jdupx, jdupx2, jdup2, jcat, jset1, jset2, jkill, List.getElem?_cons_zero, List.getElem?_cons_succ, List.set_cons_zero, List.set_cons_succ, List.length_cons, List.length_nil, Nat.reduceAdd, Nat.reduceLT, Int32.reduceToNatClampNeg, true_and, and_true, and_self, reduceCtorEq, not_false_eq_true, false_and, and_false, or_false, false_or, true_or, or_true, bd_a, bd_ua, bd_l, vp_nar_int32, haa, bd_r0 hab, bd_u0 hab, hb0, bd_r1 hab, bd_u1 hab, hb1, bd_r2 hab, bd_u2 hab, hb2, bd_r3 hab, bd_u3 hab, hb3, bd_r4 hab, bd_u4 hab, hb4, bd_r5 hab, bd_u5 hab, hb5, bd_r6 hab, bd_u6 hab, hb6, bd_r7 hab, bd_u7 hab, hb7, bd_r8 hab, bd_u8 hab, hb8, bd_r9 hab, bd_u9 hab, hb9, bd_r10 hab, bd_u10 hab, hb10, bd_f0, bd_f1, bd_f2, bd_f3, bd_f4, bd_f5, bd_f6, bd_f7, bd_f8, bd_f9, bd_f10, bd_f11, bd_f12, bd_f13, bd_f14, bd_f15, bd_f16, bd_s2, bd_s3, bd_s4, bd_s5, bd_s6, bd_s16]
    refine ⟨fun h => ?_, fun h => ⟨fun h2 => ?_, fun h2 => ?_⟩⟩
    · exact C211 A2 L2 k1 (by rw [k2]; unfold bMen; rw [if_neg hn, if_neg (fun q => h q.1)]) k3 k4
    · exact C211 A2 L2 k1 (by rw [k2]; unfold bMen; rw [if_neg hn, if_neg (fun q => h2 q.2)]) k3 k4
    · have h4 := hc2 h h2
      obtain ⟨e1', e2', e3', e4', e5, e6⟩ := hq6 h h2
      rw [nI_m4 h4]
      refine jk_Vg X hR d_BO_make_193 q_BO_make_193 m_BO_lift i_BO_lift e_BO_lift (ci := 10) rfl rfl (by omega) bd_a (c_BO_lift M.2.1 E _ _ _ _ hab hn0 _ _ _ (f - 4) (by omega) (by rw [k2]; exact hMM)) (by rfl) rfl ⟨Nat.le_of_ble_eq_true rfl, Nat.le_of_ble_eq_true rfl⟩ (c' := 0) rfl (s' := 0) rfl ⟨Nat.le_of_ble_eq_true rfl, Nat.le_of_ble_eq_true rfl⟩ (by exact Nat.le_of_ble_eq_true rfl) (pc' := 196) rfl ?_
      rintro _ _ _ ⟨A3, L3, rfl, hn2, rfl, y1, y2, y3, y4⟩
      obtain rfl : n = _ := hn2.symm
      simp only [Option.toList_none, List.nil_append]
      refine jrun_ok jC X k_BO_make_196 196 _ _ _ o_BO_make_196 ?_
      simp only [k_BO_make_196, jrun, jstep, jldi, jldl, jlda, j1, j2, jl1, jl2, jli, ja1, jbr, jald, jast, jlald, jlast, jalen, jget, jput, jfit, jdup, jdupx, jdupx2, jdup2, jcat, jset1, jset2, jkill, List.getElem?_cons_zero, List.getElem?_cons_succ, List.set_cons_zero, List.set_cons_succ, List.length_cons, List.length_nil, Nat.reduceAdd, Nat.reduceLT, Int32.reduceToNatClampNeg, true_and, and_true, and_self, reduceCtorEq, not_false_eq_true, false_and, and_false, or_false, false_or, true_or, or_true, bd_a, bd_ua, bd_l, vp_nar_int32, haa, bd_r0 hab, bd_u0 hab, hb0, bd_r1 hab, bd_u1 hab, hb1, bd_r2 hab, bd_u2 hab, hb2, bd_r3 hab, bd_u3 hab, hb3, bd_r4 hab, bd_u4 hab, hb4, bd_r5 hab, bd_u5 hab, hb5, bd_r6 hab, bd_u6 hab, hb6, bd_r7 hab, bd_u7 hab, hb7, bd_r8 hab, bd_u8 hab, hb8, bd_r9 hab, bd_u9 hab, hb9, bd_r10 hab, bd_u10 hab, hb10, bd_f0, bd_f1, bd_f2, bd_f3, bd_f4, bd_f5, bd_f6, bd_f7, bd_f8, bd_f9, bd_f10, bd_f11, bd_f12, bd_f13, bd_f14, bd_f15, bd_f16, bd_s2, bd_s3, bd_s4, bd_s5, bd_s6, bd_s16, hs2, bRook sd hsd, nI_m1 (show 1 ≤ f by omega)]
      refine jk_Vg X hR d_BO_make_208 q_BO_make_208 m_BO_put i_BO_put e_BO_put (ci := 10) rfl rfl (by omega) bd_a (c_BO_put2 M.2.1 E _ _ _ _ hab hn0 _ _ _ (f - 1) (sd * 8 + 4) (by omega) (by omega)) (by rfl) rfl ⟨Nat.le_of_ble_eq_true rfl, Nat.le_of_ble_eq_true rfl⟩ (c' := 0) rfl (s' := 0) rfl ⟨Nat.le_of_ble_eq_true rfl, Nat.le_of_ble_eq_true rfl⟩ (by exact Nat.le_of_ble_eq_true rfl) (pc' := 211) rfl ?_
      rintro _ _ _ ⟨A4, L4, rfl, hn2, rfl, i1, i2, i3, i4⟩
      obtain rfl : n = _ := hn2.symm
      simp only [Option.toList_none, List.nil_append]
      exact C211 A4 L4 (k1.tr (y1.tr i1)) (by rw [i2, y2, k2]; unfold bMen; rw [if_neg hn, if_pos ⟨h, h2⟩]) (fun q => i3 (by rw [y3]; exact k3 q)) (fun q => i4 (by rw [y2, k2]; exact (upd_o (by omega)).trans ((b_u3 (by omega) (by omega) (by omega)).trans e6)) (by omega) (y4 (by rw [k2, b_u3 (by omega) (by omega) (by omega), e5]; exact nI4_ne sd hsd) (k4 q)))
  have C136 : ∀ (A2 : Nat → Nat → Int32) (L2 : Nat → Nat → Int64), bKeep A A2 L L2 → A2 0 = (upd (upd (upd (A 0) f 0) w 0) t (nI (bQ mm b))) → (kOK (A 1) → kOK (A2 1)) → (bWs A → bWs A2) → jJ E jcl 11 M (jQ E jcl M (fun r σ' n' => ∃ (F' : Nat → Int32) (A' : Nat → Nat → Int32) (L' : Nat → Nat → Int64), r = some (.inr (.inl (bUd F k))) ∧ n' = n ∧ σ' = (bdP σ a n0 F' A' L') ∧ bKeep A A' L L' ∧ A' 0 = bMen (A 0) f t w (bQ mm b) mm sd ∧ (kOK (A 1) → kOK (A' 1)) ∧ (bWs A → bWs A') ∧ F' = bF F (A' 0) f t mm k) 0 0) n 0 0 136 [some (.inr (.inr (some (.inl (a))))), some (.inl mv), some (.inl (nI f)), some (.inl (nI t)), some (.inl (nI b)), some (.inl (nI mm)), some (.inl (nI mm &&& 7)), some (.inl (nI w)), some (.inl (nI k)), some (.inr (.inl (bUd F k))), none] [] (bdP σ a n0 F A2 L2) := by
    intro A2 L2 k1 k2 k3 k4
    refine jrun_ok jC X k_BO_make_136 136 _ _ _ o_BO_make_136 ?_
    simp only [k_BO_make_136, jrun, jstep, jldi, jldl, jlda, j1, j2, jl1, jl2, jli, ja1, jbr, jald, jast, jlald, jlast, jalen, jget, jput, jfit, jdup, jdupx, jdupx2, jdup2, jcat, jset1, jset2, jkill, List.getElem?_cons_zero, List.getElem?_cons_succ, List.set_cons_zero, List.set_cons_succ, List.length_cons, List.length_nil, Nat.reduceAdd, Nat.reduceLT, Int32.reduceToNatClampNeg, true_and, and_true, and_self, reduceCtorEq, not_false_eq_true, false_and, and_false, or_false, false_or, true_or, or_true, bd_a, bd_ua, bd_l, vp_nar_int32, haa, bd_r0 hab, bd_u0 hab, hb0, bd_r1 hab, bd_u1 hab, hb1, bd_r2 hab, bd_u2 hab, hb2, bd_r3 hab, bd_u3 hab, hb3, bd_r4 hab, bd_u4 hab, hb4, bd_r5 hab, bd_u5 hab, hb5, bd_r6 hab, bd_u6 hab, hb6, bd_r7 hab, bd_u7 hab, hb7, bd_r8 hab, bd_u8 hab, hb8, bd_r9 hab, bd_u9 hab, hb9, bd_r10 hab, bd_u10 hab, hb10, bd_f0, bd_f1, bd_f2, bd_f3, bd_f4, bd_f5, bd_f6, bd_f7, bd_f8, bd_f9, bd_f10, bd_f11, bd_f12, bd_f13, bd_f14, bd_f15, bd_f16, bd_s2, bd_s3, bd_s4, bd_s5, bd_s6, bd_s16]
    refine ⟨fun h => C175 A2 L2 (fun q => h q.1) k1 k2 k3 k4, fun h => ⟨fun h2 => C175 A2 L2 (fun q => h2 q.2) k1 k2 k3 k4, fun h2 => ?_⟩⟩
    have h4 := hc1 h h2
    obtain ⟨e1', e2', e3', e4', e5, e6⟩ := hq5 h h2
    rw [nI_p3]
    refine jk_Vg X hR d_BO_make_154 q_BO_make_154 m_BO_lift i_BO_lift e_BO_lift (ci := 10) rfl rfl (by omega) bd_a (c_BO_lift M.2.1 E _ _ _ _ hab hn0 _ _ _ (f + 3) (by omega) (by rw [k2]; exact hMM)) (by rfl) rfl ⟨Nat.le_of_ble_eq_true rfl, Nat.le_of_ble_eq_true rfl⟩ (c' := 0) rfl (s' := 0) rfl ⟨Nat.le_of_ble_eq_true rfl, Nat.le_of_ble_eq_true rfl⟩ (by exact Nat.le_of_ble_eq_true rfl) (pc' := 157) rfl ?_
    rintro _ _ _ ⟨A3, L3, rfl, hn2, rfl, y1, y2, y3, y4⟩
    obtain rfl : n = _ := hn2.symm
    simp only [Option.toList_none, List.nil_append]
    refine jrun_ok jC X k_BO_make_157 157 _ _ _ o_BO_make_157 ?_
    simp only [k_BO_make_157, jrun, jstep, jldi, jldl, jlda, j1, j2, jl1, jl2, jli, ja1, jbr, jald, jast, jlald, jlast, jalen, jget, jput, jfit, jdup, jdupx, jdupx2, jdup2, jcat, jset1, jset2, jkill, List.getElem?_cons_zero, List.getElem?_cons_succ, List.set_cons_zero, List.set_cons_succ, List.length_cons, List.length_nil, Nat.reduceAdd, Nat.reduceLT, Int32.reduceToNatClampNeg, true_and, and_true, and_self, reduceCtorEq, not_false_eq_true, false_and, and_false, or_false, false_or, true_or, or_true, bd_a, bd_ua, bd_l, vp_nar_int32, haa, bd_r0 hab, bd_u0 hab, hb0, bd_r1 hab, bd_u1 hab, hb1, bd_r2 hab, bd_u2 hab, hb2, bd_r3 hab, bd_u3 hab, hb3, bd_r4 hab, bd_u4 hab, hb4, bd_r5 hab, bd_u5 hab, hb5, bd_r6 hab, bd_u6 hab, hb6, bd_r7 hab, bd_u7 hab, hb7, bd_r8 hab, bd_u8 hab, hb8, bd_r9 hab, bd_u9 hab, hb9, bd_r10 hab, bd_u10 hab, hb10, bd_f0, bd_f1, bd_f2, bd_f3, bd_f4, bd_f5, bd_f6, bd_f7, bd_f8, bd_f9, bd_f10, bd_f11, bd_f12, bd_f13, bd_f14, bd_f15, bd_f16, bd_s2, bd_s3, bd_s4, bd_s5, bd_s6, bd_s16, hs2, bRook sd hsd, nI_1]
    refine jk_Vg X hR d_BO_make_169 q_BO_make_169 m_BO_put i_BO_put e_BO_put (ci := 10) rfl rfl (by omega) bd_a (c_BO_put2 M.2.1 E _ _ _ _ hab hn0 _ _ _ (f + 1) (sd * 8 + 4) (by omega) (by omega)) (by rfl) rfl ⟨Nat.le_of_ble_eq_true rfl, Nat.le_of_ble_eq_true rfl⟩ (c' := 0) rfl (s' := 0) rfl ⟨Nat.le_of_ble_eq_true rfl, Nat.le_of_ble_eq_true rfl⟩ (by exact Nat.le_of_ble_eq_true rfl) (pc' := 172) rfl ?_
    rintro _ _ _ ⟨A4, L4, rfl, hn2, rfl, i1, i2, i3, i4⟩
    obtain rfl : n = _ := hn2.symm
    simp only [Option.toList_none, List.nil_append]
    refine jrun_ok jC X k_BO_make_172 172 _ _ _ o_BO_make_172 ?_
    simp only [k_BO_make_172, jrun, jstep, jldi, jldl, jlda, j1, j2, jl1, jl2, jli, ja1, jbr, jald, jast, jlald, jlast, jalen, jget, jput, jfit, jdup, jdupx, jdupx2, jdup2, jcat, jset1, jset2, jkill, List.getElem?_cons_zero, List.getElem?_cons_succ, List.set_cons_zero, List.set_cons_succ, List.length_cons, List.length_nil, Nat.reduceAdd, Nat.reduceLT, Int32.reduceToNatClampNeg, true_and, and_true, and_self, reduceCtorEq, not_false_eq_true, false_and, and_false, or_false, false_or, true_or, or_true, bd_a, bd_ua, bd_l, vp_nar_int32, haa, bd_r0 hab, bd_u0 hab, hb0, bd_r1 hab, bd_u1 hab, hb1, bd_r2 hab, bd_u2 hab, hb2, bd_r3 hab, bd_u3 hab, hb3, bd_r4 hab, bd_u4 hab, hb4, bd_r5 hab, bd_u5 hab, hb5, bd_r6 hab, bd_u6 hab, hb6, bd_r7 hab, bd_u7 hab, hb7, bd_r8 hab, bd_u8 hab, hb8, bd_r9 hab, bd_u9 hab, hb9, bd_r10 hab, bd_u10 hab, hb10, bd_f0, bd_f1, bd_f2, bd_f3, bd_f4, bd_f5, bd_f6, bd_f7, bd_f8, bd_f9, bd_f10, bd_f11, bd_f12, bd_f13, bd_f14, bd_f15, bd_f16, bd_s2, bd_s3, bd_s4, bd_s5, bd_s6, bd_s16]
    exact C211 A4 L4 (k1.tr (y1.tr i1)) (by rw [i2, y2, k2]; unfold bMen; rw [if_pos ⟨h, h2⟩]) (fun q => i3 (by rw [y3]; exact k3 q)) (fun q => i4 (by rw [y2, k2]; exact (upd_o (by omega)).trans ((b_u3 (by omega) (by omega) (by omega)).trans e6)) (by omega) (y4 (by rw [k2, b_u3 (by omega) (by omega) (by omega), e5]; exact nI4_ne sd hsd) (k4 q)))
  have C133 : ∀ (A2 : Nat → Nat → Int32) (L2 : Nat → Nat → Int64), bKeep A A2 L L2 → A2 0 = upd (upd (A 0) f 0) w 0 → A2 1 = A 1 → (bWs A → bWs A2) → jJ E jcl 11 M (jQ E jcl M (fun r σ' n' => ∃ (F' : Nat → Int32) (A' : Nat → Nat → Int32) (L' : Nat → Nat → Int64), r = some (.inr (.inl (bUd F k))) ∧ n' = n ∧ σ' = (bdP σ a n0 F' A' L') ∧ bKeep A A' L L' ∧ A' 0 = bMen (A 0) f t w (bQ mm b) mm sd ∧ (kOK (A 1) → kOK (A' 1)) ∧ (bWs A → bWs A') ∧ F' = bF F (A' 0) f t mm k) 0 0) n 0 0 133 [some (.inr (.inr (some (.inl (a))))), some (.inl mv), some (.inl (nI f)), some (.inl (nI t)), some (.inl (nI b)), some (.inl (nI mm)), some (.inl (nI mm &&& 7)), some (.inl (nI w)), some (.inl (nI k)), some (.inr (.inl (bUd F k))), none] [.inl (nI (bQ mm b)), .inl (nI t), .inr (.inr (some (.inl (a))))] (bdP σ a n0 F A2 L2) := by
    intro A2 L2 k1 k2 k3 k4
    refine jk_Vg X hR d_BO_make_133 q_BO_make_133 m_BO_put i_BO_put e_BO_put (ci := 10) rfl rfl (by omega) bd_a (c_BO_put2 M.2.1 E _ _ _ _ hab hn0 _ _ _ t (bQ mm b) ht (bQ_lt mm hmm b hb)) (by rfl) rfl ⟨Nat.le_of_ble_eq_true rfl, Nat.le_of_ble_eq_true rfl⟩ (c' := 0) rfl (s' := 0) rfl ⟨Nat.le_of_ble_eq_true rfl, Nat.le_of_ble_eq_true rfl⟩ (by exact Nat.le_of_ble_eq_true rfl) (pc' := 136) rfl ?_
    rintro _ _ _ ⟨A4, L4, rfl, hn2, rfl, i1, i2, i3, i4⟩
    obtain rfl : n = _ := hn2.symm
    simp only [Option.toList_none, List.nil_append]
    exact C136 A4 L4 (k1.tr i1) (by rw [i2, k2]) (fun q => i3 (by rw [k3]; exact q)) (fun q => i4 (by rw [k2]; exact b_t0 hq3) (b_q0 hmm hq1 hb) (k4 q))
  have C113 : ∀ (A2 : Nat → Nat → Int32) (L2 : Nat → Nat → Int64), bKeep A A2 L L2 → A2 0 = upd (upd (A 0) f 0) w 0 → A2 1 = A 1 → (bWs A → bWs A2) → jJ E jcl 11 M (jQ E jcl M (fun r σ' n' => ∃ (F' : Nat → Int32) (A' : Nat → Nat → Int32) (L' : Nat → Nat → Int64), r = some (.inr (.inl (bUd F k))) ∧ n' = n ∧ σ' = (bdP σ a n0 F' A' L') ∧ bKeep A A' L L' ∧ A' 0 = bMen (A 0) f t w (bQ mm b) mm sd ∧ (kOK (A 1) → kOK (A' 1)) ∧ (bWs A → bWs A') ∧ F' = bF F (A' 0) f t mm k) 0 0) n 0 0 113 [some (.inr (.inr (some (.inl (a))))), some (.inl mv), some (.inl (nI f)), some (.inl (nI t)), some (.inl (nI b)), some (.inl (nI mm)), some (.inl (nI mm &&& 7)), some (.inl (nI w)), some (.inl (nI k)), some (.inr (.inl (bUd F k))), none] [] (bdP σ a n0 F A2 L2) := by
    intro A2 L2 k1 k2 k3 k4
    refine jrun_ok jC X k_BO_make_113 113 _ _ _ o_BO_make_113 ?_
    simp only [k_BO_make_113, jrun, jstep, jldi, jldl, jlda, j1, j2, jl1, jl2, jli, ja1, jbr, jald, jast, jlald, jlast, jalen, jget, jput, jfit, jdup, jdupx, jdupx2, jdup2, jcat, jset1, jset2, jkill, List.getElem?_cons_zero, List.getElem?_cons_succ, List.set_cons_zero, List.set_cons_succ, List.length_cons, List.length_nil, Nat.reduceAdd, Nat.reduceLT, Int32.reduceToNatClampNeg, true_and, and_true, and_self, reduceCtorEq, not_false_eq_true, false_and, and_false, or_false, false_or, true_or, or_true, bd_a, bd_ua, bd_l, vp_nar_int32, haa, bd_r0 hab, bd_u0 hab, hb0, bd_r1 hab, bd_u1 hab, hb1, bd_r2 hab, bd_u2 hab, hb2, bd_r3 hab, bd_u3 hab, hb3, bd_r4 hab, bd_u4 hab, hb4, bd_r5 hab, bd_u5 hab, hb5, bd_r6 hab, bd_u6 hab, hb6, bd_r7 hab, bd_u7 hab, hb7, bd_r8 hab, bd_u8 hab, hb8, bd_r9 hab, bd_u9 hab, hb9, bd_r10 hab, bd_u10 hab, hb10, bd_f0, bd_f1, bd_f2, bd_f3, bd_f4, bd_f5, bd_f6, bd_f7, bd_f8, bd_f9, bd_f10, bd_f11, bd_f12, bd_f13, bd_f14, bd_f15, bd_f16, bd_s2, bd_s3, bd_s4, bd_s5, bd_s6, bd_s16]
    refine ⟨fun h => ?_, fun h => ?_⟩
    · refine jrun_ok jC X k_BO_make_125 125 _ _ _ o_BO_make_125 ?_
      simp only [k_BO_make_125, jrun, jstep, jldi, jldl, jlda, j1, j2, jl1, jl2, jli, ja1, jbr, jald, jast, jlald, jlast, jalen, jget, jput, jfit, jdup, jdupx, jdupx2, jdup2, jcat, jset1, jset2, jkill, List.getElem?_cons_zero, List.getElem?_cons_succ, List.set_cons_zero, List.set_cons_succ, List.length_cons, List.length_nil, Nat.reduceAdd, Nat.reduceLT, Int32.reduceToNatClampNeg, true_and, and_true, and_self, reduceCtorEq, not_false_eq_true, false_and, and_false, or_false, false_or, true_or, or_true, bd_a, bd_ua, bd_l, vp_nar_int32, haa, bd_r0 hab, bd_u0 hab, hb0, bd_r1 hab, bd_u1 hab, hb1, bd_r2 hab, bd_u2 hab, hb2, bd_r3 hab, bd_u3 hab, hb3, bd_r4 hab, bd_u4 hab, hb4, bd_r5 hab, bd_u5 hab, hb5, bd_r6 hab, bd_u6 hab, hb6, bd_r7 hab, bd_u7 hab, hb7, bd_r8 hab, bd_u8 hab, hb8, bd_r9 hab, bd_u9 hab, hb9, bd_r10 hab, bd_u10 hab, hb10, bd_f0, bd_f1, bd_f2, bd_f3, bd_f4, bd_f5, bd_f6, bd_f7, bd_f8, bd_f9, bd_f10, bd_f11, bd_f12, bd_f13, bd_f14, bd_f15, bd_f16, bd_s2, bd_s3, bd_s4, bd_s5, bd_s6, bd_s16, bQ_or mm hmm b hb h]
      exact C133 A2 L2 k1 k2 k3 k4
    · have h9 := C133 A2 L2 k1 k2 k3 k4
      rw [← bQ_0 mm hmm b hb h] at h9
      exact h9
  have C55 : jJ E jcl 11 M (jQ E jcl M (fun r σ' n' => ∃ (F' : Nat → Int32) (A' : Nat → Nat → Int32) (L' : Nat → Nat → Int64), r = some (.inr (.inl (bUd F k))) ∧ n' = n ∧ σ' = (bdP σ a n0 F' A' L') ∧ bKeep A A' L L' ∧ A' 0 = bMen (A 0) f t w (bQ mm b) mm sd ∧ (kOK (A 1) → kOK (A' 1)) ∧ (bWs A → bWs A') ∧ F' = bF F (A' 0) f t mm k) 0 0) n 0 0 55 [some (.inr (.inr (some (.inl (a))))), some (.inl mv), some (.inl (nI f)), some (.inl (nI t)), some (.inl (nI b)), some (.inl (nI mm)), some (.inl (nI mm &&& 7)), none, none, none, none] [.inl (nI w)] (bdP σ a n0 F A L) := by
    refine jrun_ok jC X k_BO_make_55 55 _ _ _ o_BO_make_55 ?_
    simp only [k_BO_make_55, jrun, jstep, jldi, jldl, jlda, j1, j2, jl1, jl2, jli, ja1, jbr, jald, jast, jlald, jlast, jalen, jget, jput, jfit, jdup, jdupx, jdupx2, jdup2, jcat, jset1, jset2, jkill, List.getElem?_cons_zero, List.getElem?_cons_succ, List.set_cons_zero, List.set_cons_succ, List.length_cons, List.length_nil, Nat.reduceAdd, Nat.reduceLT, Int32.reduceToNatClampNeg, true_and, and_true, and_self, reduceCtorEq, not_false_eq_true, false_and, and_false, or_false, false_or, true_or, or_true, bd_a, bd_ua, bd_l, vp_nar_int32, haa, bd_r0 hab, bd_u0 hab, hb0, bd_r1 hab, bd_u1 hab, hb1, bd_r2 hab, bd_u2 hab, hb2, bd_r3 hab, bd_u3 hab, hb3, bd_r4 hab, bd_u4 hab, hb4, bd_r5 hab, bd_u5 hab, hb5, bd_r6 hab, bd_u6 hab, hb6, bd_r7 hab, bd_u7 hab, hb7, bd_r8 hab, bd_u8 hab, hb8, bd_r9 hab, bd_u9 hab, hb9, bd_r10 hab, bd_u10 hab, hb10, bd_f0, bd_f1, bd_f2, bd_f3, bd_f4, bd_f5, bd_f6, bd_f7, bd_f8, bd_f9, bd_f10, bd_f11, bd_f12, bd_f13, bd_f14, bd_f15, bd_f16, bd_s2, bd_s3, bd_s4, bd_s5, bd_s6, bd_s16, cf, ct, cw, uf, ut, uw, hman, htk, e1, e2, e3]
    refine jrun_ok jC X k_BO_make_66 66 _ _ _ o_BO_make_66 ?_
    simp only [k_BO_make_66, jrun, jstep, jldi, jldl, jlda, j1, j2, jl1, jl2, jli, ja1, jbr, jald, jast, jlald, jlast, jalen, jget, jput, jfit, jdup, jdupx, jdupx2, jdup2, jcat, jset1, jset2, jkill, List.getElem?_cons_zero, List.getElem?_cons_succ, List.set_cons_zero, List.set_cons_succ, List.length_cons, List.length_nil, Nat.reduceAdd, Nat.reduceLT, Int32.reduceToNatClampNeg, true_and, and_true, and_self, reduceCtorEq, not_false_eq_true, false_and, and_false, or_false, false_or, true_or, or_true, bd_a, bd_ua, bd_l, vp_nar_int32, haa, bd_r0 hab, bd_u0 hab, hb0, bd_r1 hab, bd_u1 hab, hb1, bd_r2 hab, bd_u2 hab, hb2, bd_r3 hab, bd_u3 hab, hb3, bd_r4 hab, bd_u4 hab, hb4, bd_r5 hab, bd_u5 hab, hb5, bd_r6 hab, bd_u6 hab, hb6, bd_r7 hab, bd_u7 hab, hb7, bd_r8 hab, bd_u8 hab, hb8, bd_r9 hab, bd_u9 hab, hb9, bd_r10 hab, bd_u10 hab, hb10, bd_f0, bd_f1, bd_f2, bd_f3, bd_f4, bd_f5, bd_f6, bd_f7, bd_f8, bd_f9, bd_f10, bd_f11, bd_f12, bd_f13, bd_f14, bd_f15, bd_f16, bd_s2, bd_s3, bd_s4, bd_s5, bd_s6, bd_s16, cf, ct, cw, uf, ut, uw, hman, htk, e1, e2, e3]
    refine jk_Vg X hR d_BO_make_99 q_BO_make_99 m_BO_lift i_BO_lift e_BO_lift (ci := 10) rfl rfl (by omega) bd_a (c_BO_lift M.2.1 E _ _ _ _ hab hn0 _ _ _ f hf hM) (by rfl) rfl ⟨Nat.le_of_ble_eq_true rfl, Nat.le_of_ble_eq_true rfl⟩ (c' := 0) rfl (s' := 0) rfl ⟨Nat.le_of_ble_eq_true rfl, Nat.le_of_ble_eq_true rfl⟩ (by exact Nat.le_of_ble_eq_true rfl) (pc' := 102) rfl ?_
    rintro _ _ _ ⟨A3, L3, rfl, hn2, rfl, y1, y2, y3, y4⟩
    obtain rfl : n = _ := hn2.symm
    simp only [Option.toList_none, List.nil_append]
    have eud : ((nI k ||| F 3 <<< (4 &&& 31)) ||| (F 4 + 1) <<< (8 &&& 31)).toInt64 ||| (F 5).toInt64 <<< (Int32.toInt64 16 &&& 63) = bUd F k := rfl
    refine jrun_ok jC X k_BO_make_102 102 _ _ _ o_BO_make_102 ?_
    simp only [k_BO_make_102, jrun, jstep, jldi, jldl, jlda, j1, j2, jl1, jl2, jli, ja1, jbr, jald, jast, jlald, jlast, jalen, jget, jput, jfit, jdup, jdupx, jdupx2, jdup2, jcat, jset1, jset2, jkill, List.getElem?_cons_zero, List.getElem?_cons_succ, List.set_cons_zero, List.set_cons_succ, List.length_cons, List.length_nil, Nat.reduceAdd, Nat.reduceLT, Int32.reduceToNatClampNeg, true_and, and_true, and_self, reduceCtorEq, not_false_eq_true, false_and, and_false, or_false, false_or, true_or, or_true, bd_a, bd_ua, bd_l, vp_nar_int32, haa, bd_r0 hab, bd_u0 hab, hb0, bd_r1 hab, bd_u1 hab, hb1, bd_r2 hab, bd_u2 hab, hb2, bd_r3 hab, bd_u3 hab, hb3, bd_r4 hab, bd_u4 hab, hb4, bd_r5 hab, bd_u5 hab, hb5, bd_r6 hab, bd_u6 hab, hb6, bd_r7 hab, bd_u7 hab, hb7, bd_r8 hab, bd_u8 hab, hb8, bd_r9 hab, bd_u9 hab, hb9, bd_r10 hab, bd_u10 hab, hb10, bd_f0, bd_f1, bd_f2, bd_f3, bd_f4, bd_f5, bd_f6, bd_f7, bd_f8, bd_f9, bd_f10, bd_f11, bd_f12, bd_f13, bd_f14, bd_f15, bd_f16, bd_s2, bd_s3, bd_s4, bd_s5, bd_s6, bd_s16, eud]
    refine ⟨fun h => ?_, fun h => ?_⟩
    · exact C113 A3 L3 y1 (by rw [y2, lift_0 (by rw [htk]; exact h)]) y3 (y4 (by rw [hman]; exact b_n0 hmm hq1))
    · refine jk_Vg X hR d_BO_make_110 q_BO_make_110 m_BO_lift i_BO_lift e_BO_lift (ci := 10) rfl rfl (by omega) bd_a (c_BO_lift M.2.1 E _ _ _ _ hab hn0 _ _ _ w hw (by rw [y2]; exact menOK_up hM (m := 0) (by decide))) (by rfl) rfl ⟨Nat.le_of_ble_eq_true rfl, Nat.le_of_ble_eq_true rfl⟩ (c' := 0) rfl (s' := 0) rfl ⟨Nat.le_of_ble_eq_true rfl, Nat.le_of_ble_eq_true rfl⟩ (by exact Nat.le_of_ble_eq_true rfl) (pc' := 113) rfl ?_
      rintro _ _ _ ⟨A4, L4, rfl, hn2, rfl, i1, i2, i3, i4⟩
      obtain rfl : n = _ := hn2.symm
      simp only [Option.toList_none, List.nil_append]
      exact C113 A4 L4 (y1.tr i1) (by rw [i2, y2]) (by rw [i3, y3]) (fun q => i4 (by rw [y2, upd_o hq2, htk]; exact h) (y4 (by rw [hman]; exact b_n0 hmm hq1) q))
  refine jrun_ok jC X k_BO_make_0 0 _ _ _ o_BO_make_0 ?_
  simp only [k_BO_make_0, jrun, jstep, jldi, jldl, jlda, j1, j2, jl1, jl2, jli, ja1, jbr, jald, jast, jlald, jlast, jalen, jget, jput, jfit, jdup, jdupx, jdupx2, jdup2, jcat, jset1, jset2, jkill, List.getElem?_cons_zero, List.getElem?_cons_succ, List.set_cons_zero, List.set_cons_succ, List.length_cons, List.length_nil, Nat.reduceAdd, Nat.reduceLT, Int32.reduceToNatClampNeg, true_and, and_true, and_self, reduceCtorEq, not_false_eq_true, false_and, and_false, or_false, false_or, true_or, or_true, bd_a, bd_ua, bd_l, vp_nar_int32, haa, bd_r0 hab, bd_u0 hab, hb0, bd_r1 hab, bd_u1 hab, hb1, bd_r2 hab, bd_u2 hab, hb2, bd_r3 hab, bd_u3 hab, hb3, bd_r4 hab, bd_u4 hab, hb4, bd_r5 hab, bd_u5 hab, hb5, bd_r6 hab, bd_u6 hab, hb6, bd_r7 hab, bd_u7 hab, hb7, bd_r8 hab, bd_u8 hab, hb8, bd_r9 hab, bd_u9 hab, hb9, bd_r10 hab, bd_u10 hab, hb10, bd_f0, bd_f1, bd_f2, bd_f3, bd_f4, bd_f5, bd_f6, bd_f7, bd_f8, bd_f9, bd_f10, bd_f11, bd_f12, bd_f13, bd_f14, bd_f15, bd_f16, bd_s2, bd_s3, bd_s4, bd_s5, bd_s6, bd_s16, cf, ct, cw, uf, ut, uw, hman, htk, e1, e2, e3]
  refine jrun_ok jC X k_BO_make_18 18 _ _ _ o_BO_make_18 ?_
  simp only [k_BO_make_18, jrun, jstep, jldi, jldl, jlda, j1, j2, jl1, jl2, jli, ja1, jbr, jald, jast, jlald, jlast, jalen, jget, jput, jfit, jdup, jdupx, jdupx2, jdup2, jcat, jset1, jset2, jkill, List.getElem?_cons_zero, List.getElem?_cons_succ, List.set_cons_zero, List.set_cons_succ, List.length_cons, List.length_nil, Nat.reduceAdd, Nat.reduceLT, Int32.reduceToNatClampNeg, true_and, and_true, and_self, reduceCtorEq, not_false_eq_true, false_and, and_false, or_false, false_or, true_or, or_true, bd_a, bd_ua, bd_l, vp_nar_int32, haa, bd_r0 hab, bd_u0 hab, hb0, bd_r1 hab, bd_u1 hab, hb1, bd_r2 hab, bd_u2 hab, hb2, bd_r3 hab, bd_u3 hab, hb3, bd_r4 hab, bd_u4 hab, hb4, bd_r5 hab, bd_u5 hab, hb5, bd_r6 hab, bd_u6 hab, hb6, bd_r7 hab, bd_u7 hab, hb7, bd_r8 hab, bd_u8 hab, hb8, bd_r9 hab, bd_u9 hab, hb9, bd_r10 hab, bd_u10 hab, hb10, bd_f0, bd_f1, bd_f2, bd_f3, bd_f4, bd_f5, bd_f6, bd_f7, bd_f8, bd_f9, bd_f10, bd_f11, bd_f12, bd_f13, bd_f14, bd_f15, bd_f16, bd_s2, bd_s3, bd_s4, bd_s5, bd_s6, bd_s16, cf, ct, cw, uf, ut, uw, hman, htk, e1, e2, e3]
  refine jrun_ok jC X k_BO_make_33 33 _ _ _ o_BO_make_33 ?_
  simp only [k_BO_make_33, jrun, jstep, jldi, jldl, jlda, j1, j2, jl1, jl2, jli, ja1, jbr, jald, jast, jlald, jlast, jalen, jget, jput, jfit, jdup, jdupx, jdupx2, jdup2, jcat, jset1, jset2, jkill, List.getElem?_cons_zero, List.getElem?_cons_succ, List.set_cons_zero, List.set_cons_succ, List.length_cons, List.length_nil, Nat.reduceAdd, Nat.reduceLT, Int32.reduceToNatClampNeg, true_and, and_true, and_self, reduceCtorEq, not_false_eq_true, false_and, and_false, or_false, false_or, true_or, or_true, bd_a, bd_ua, bd_l, vp_nar_int32, haa, bd_r0 hab, bd_u0 hab, hb0, bd_r1 hab, bd_u1 hab, hb1, bd_r2 hab, bd_u2 hab, hb2, bd_r3 hab, bd_u3 hab, hb3, bd_r4 hab, bd_u4 hab, hb4, bd_r5 hab, bd_u5 hab, hb5, bd_r6 hab, bd_u6 hab, hb6, bd_r7 hab, bd_u7 hab, hb7, bd_r8 hab, bd_u8 hab, hb8, bd_r9 hab, bd_u9 hab, hb9, bd_r10 hab, bd_u10 hab, hb10, bd_f0, bd_f1, bd_f2, bd_f3, bd_f4, bd_f5, bd_f6, bd_f7, bd_f8, bd_f9, bd_f10, bd_f11, bd_f12, bd_f13, bd_f14, bd_f15, bd_f16, bd_s2, bd_s3, bd_s4, bd_s5, bd_s6, bd_s16, cf, ct, cw, uf, ut, uw, hman, htk, e1, e2, e3]
  refine ⟨fun h => ?_, fun h => ⟨fun h2 => ?_, fun h2 => ?_⟩⟩
  · refine jrun_ok jC X k_BO_make_54 54 _ _ _ o_BO_make_54 ?_
    simp only [k_BO_make_54, jrun, jstep, jldi, jldl, jlda, j1, j2, jl1, jl2, jli, ja1, jbr, jald, jast, jlald, jlast, jalen, jget, jput, jfit, jdup, jdupx, jdupx2, jdup2, jcat, jset1, jset2, jkill, List.getElem?_cons_zero, List.getElem?_cons_succ, List.set_cons_zero, List.set_cons_succ, List.length_cons, List.length_nil, Nat.reduceAdd, Nat.reduceLT, Int32.reduceToNatClampNeg, true_and, and_true, and_self, reduceCtorEq, not_false_eq_true, false_and, and_false, or_false, false_or, true_or, or_true, bd_a, bd_ua, bd_l, vp_nar_int32, haa, bd_r0 hab, bd_u0 hab, hb0, bd_r1 hab, bd_u1 hab, hb1, bd_r2 hab, bd_u2 hab, hb2, bd_r3 hab, bd_u3 hab, hb3, bd_r4 hab, bd_u4 hab, hb4, bd_r5 hab, bd_u5 hab, hb5, bd_r6 hab, bd_u6 hab, hb6, bd_r7 hab, bd_u7 hab, hb7, bd_r8 hab, bd_u8 hab, hb8, bd_r9 hab, bd_u9 hab, hb9, bd_r10 hab, bd_u10 hab, hb10, bd_f0, bd_f1, bd_f2, bd_f3, bd_f4, bd_f5, bd_f6, bd_f7, bd_f8, bd_f9, bd_f10, bd_f11, bd_f12, bd_f13, bd_f14, bd_f15, bd_f16, bd_s2, bd_s3, bd_s4, bd_s5, bd_s6, bd_s16]
    obtain rfl : t = w := (nI_eq (by omega) (by omega)).mp (by rw [← hwh]; unfold bWh; rw [hman, if_neg (fun q => h q.1)])
    exact C55
  · refine jrun_ok jC X k_BO_make_54 54 _ _ _ o_BO_make_54 ?_
    simp only [k_BO_make_54, jrun, jstep, jldi, jldl, jlda, j1, j2, jl1, jl2, jli, ja1, jbr, jald, jast, jlald, jlast, jalen, jget, jput, jfit, jdup, jdupx, jdupx2, jdup2, jcat, jset1, jset2, jkill, List.getElem?_cons_zero, List.getElem?_cons_succ, List.set_cons_zero, List.set_cons_succ, List.length_cons, List.length_nil, Nat.reduceAdd, Nat.reduceLT, Int32.reduceToNatClampNeg, true_and, and_true, and_self, reduceCtorEq, not_false_eq_true, false_and, and_false, or_false, false_or, true_or, or_true, bd_a, bd_ua, bd_l, vp_nar_int32, haa, bd_r0 hab, bd_u0 hab, hb0, bd_r1 hab, bd_u1 hab, hb1, bd_r2 hab, bd_u2 hab, hb2, bd_r3 hab, bd_u3 hab, hb3, bd_r4 hab, bd_u4 hab, hb4, bd_r5 hab, bd_u5 hab, hb5, bd_r6 hab, bd_u6 hab, hb6, bd_r7 hab, bd_u7 hab, hb7, bd_r8 hab, bd_u8 hab, hb8, bd_r9 hab, bd_u9 hab, hb9, bd_r10 hab, bd_u10 hab, hb10, bd_f0, bd_f1, bd_f2, bd_f3, bd_f4, bd_f5, bd_f6, bd_f7, bd_f8, bd_f9, bd_f10, bd_f11, bd_f12, bd_f13, bd_f14, bd_f15, bd_f16, bd_s2, bd_s3, bd_s4, bd_s5, bd_s6, bd_s16]
    obtain rfl : t = w := (nI_eq (by omega) (by omega)).mp (by rw [← hwh]; unfold bWh; rw [hman, if_neg (fun q => h2 q.2)])
    exact C55
  · refine jk_Vg X hR d_BO_make_48 q_BO_make_48 m_BO_passedPawn i_BO_passedPawn e_BO_passedPawn (ci := 10) rfl rfl (by omega) bd_a (c_BO_passedPawn M.2.1 E _ _ _ _ hab hn0 _ _ _) (by rfl) rfl ⟨Nat.le_of_ble_eq_true rfl, Nat.le_of_ble_eq_true rfl⟩ (c' := 0) rfl (s' := 0) rfl ⟨Nat.le_of_ble_eq_true rfl, Nat.le_of_ble_eq_true rfl⟩ (by exact Nat.le_of_ble_eq_true rfl) (pc' := 51) rfl ?_
    rintro _ _ _ ⟨rfl, hn2, rfl⟩
    obtain rfl : n = _ := hn2.symm
    simp only [Option.toList_some, List.cons_append, List.nil_append]
    refine jrun_ok jC X k_BO_make_51 51 _ _ _ o_BO_make_51 ?_
    simp only [k_BO_make_51, jrun, jstep, jldi, jldl, jlda, j1, j2, jl1, jl2, jli, ja1, jbr, jald, jast, jlald, jlast, jalen, jget, jput, jfit, jdup, jdupx, jdupx2, jdup2, jcat, jset1, jset2, jkill, List.getElem?_cons_zero, List.getElem?_cons_succ, List.set_cons_zero, List.set_cons_succ, List.length_cons, List.length_nil, Nat.reduceAdd, Nat.reduceLT, Int32.reduceToNatClampNeg, true_and, and_true, and_self, reduceCtorEq, not_false_eq_true, false_and, and_false, or_false, false_or, true_or, or_true, bd_a, bd_ua, bd_l, vp_nar_int32, haa, bd_r0 hab, bd_u0 hab, hb0, bd_r1 hab, bd_u1 hab, hb1, bd_r2 hab, bd_u2 hab, hb2, bd_r3 hab, bd_u3 hab, hb3, bd_r4 hab, bd_u4 hab, hb4, bd_r5 hab, bd_u5 hab, hb5, bd_r6 hab, bd_u6 hab, hb6, bd_r7 hab, bd_u7 hab, hb7, bd_r8 hab, bd_u8 hab, hb8, bd_r9 hab, bd_u9 hab, hb9, bd_r10 hab, bd_u10 hab, hb10, bd_f0, bd_f1, bd_f2, bd_f3, bd_f4, bd_f5, bd_f6, bd_f7, bd_f8, bd_f9, bd_f10, bd_f11, bd_f12, bd_f13, bd_f14, bd_f15, bd_f16, bd_s2, bd_s3, bd_s4, bd_s5, bd_s6, bd_s16]
    have e : bPP F = nI w := by rw [← hwh]; unfold bWh; rw [hman, if_pos ⟨h, h2⟩]
    rw [e]
    exact C55
end
