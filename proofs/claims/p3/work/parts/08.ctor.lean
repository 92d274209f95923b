section
section
set_option maxRecDepth 100000 in
set_option maxHeartbeats 4000000 in
theorem c_BY_init (l : Launch) (E : jE) (σ : Nat → jcell) (n : Nat) (a : Nat) (ha : a < n) (h : σ a = .inr (1, [.inr (.inr none), .inl 0])) (q : Nat) (hq : q < 2 ^ 20) : jMet l E jcl jtb lw_tbl y_BY_init { frames := 1, cells := 1, slots := q, locals := 20 } [.inr (.inr (some (.inl (a)))), .inl (nI q)] σ n (fun r σ' n' => r = none ∧ n' = n + 1 ∧ σ' = jmk σ a n (.inr (1, [.inr (.inr (some (.inl n))), .inl 0])) [.inl (.byte, q, .inl fun _ => 0)]) := by
  refine jMet_of (hY := rfl) true (fun h => rfl) (by decide) (Nat.le_of_ble_eq_true rfl) [some (.inr (.inr (some (.inl (a))))), some (.inl (nI q))] rfl ?_
  intro M hl hR X hr
  have hak : ∀ k, (a < n + k) = True := fun k => eq_true (by omega)
  have hak0 : (a < n) = True := eq_true ha
  refine jmk_in h ?_
  refine jrun_ok jC X k_BY_init_0 0 _ _ _ o_BY_init_0 ?_
  simp only [k_BY_init_0, jrun, jstep, jldi, jldl, jlda, j1, j2, jl1, jl2, jli, ja1, jbr, jald, jast, jlald, jlast, jalen, jget, jput, jfit, jdup, jdupx, jdupx2, jdup2, jcat, jset1, jset2, jkill, List.getElem?_cons_zero, List.getElem?_cons_succ, List.set_cons_zero, List.set_cons_succ, List.length_cons, List.length_nil, Nat.reduceAdd, Nat.reduceLT, Int32.reduceToNatClampNeg, true_and, and_true, and_self, reduceCtorEq, not_false_eq_true, false_and, and_false, or_false, false_or, true_or, or_true, jmk_a, jmk_put, hak, hak0]
  refine jk_oi X hR (w1 := 349) (w2 := 340) (w3 := 341) d_BY_init_1 (by decide +kernel) (by decide +kernel) (by decide +kernel) (Nat.le_of_ble_eq_true rfl) (Nat.le_of_ble_eq_true rfl) (pc' := 4) rfl ?_
  refine jrun_ok jC X k_BY_init_4 4 _ _ _ o_BY_init_4 ?_
  simp only [k_BY_init_4, jrun, jstep, jldi, jldl, jlda, j1, j2, jl1, jl2, jli, ja1, jbr, jald, jast, jlald, jlast, jalen, jget, jput, jfit, jdup, jdupx, jdupx2, jdup2, jcat, jset1, jset2, jkill, List.getElem?_cons_zero, List.getElem?_cons_succ, List.set_cons_zero, List.set_cons_succ, List.length_cons, List.length_nil, Nat.reduceAdd, Nat.reduceLT, Int32.reduceToNatClampNeg, true_and, and_true, and_self, reduceCtorEq, not_false_eq_true, false_and, and_false, or_false, false_or, true_or, or_true, jmk_a, jmk_put, hak, hak0]
  refine jc_na X hR (w1 := 361) d_BY_init_6 rfl (by decide +kernel) (by decide) (nI_pos (by omega)) q (nI_clamp (by omega)) (by omega) rfl [.inl (.byte, q, .inl fun _ => 0)] ha rfl rfl (n' := n + 1) rfl (c' := 1) rfl (s' := q) (Nat.zero_add _) ⟨Nat.le_of_ble_eq_true rfl, Nat.le_refl _⟩ (pc' := 8) rfl ?_
  refine jrun_ok jC X k_BY_init_8 8 _ _ _ o_BY_init_8 ?_
  simp only [k_BY_init_8, jrun, jstep, jldi, jldl, jlda, j1, j2, jl1, jl2, jli, ja1, jbr, jald, jast, jlald, jlast, jalen, jget, jput, jfit, jdup, jdupx, jdupx2, jdup2, jcat, jset1, jset2, jkill, List.getElem?_cons_zero, List.getElem?_cons_succ, List.set_cons_zero, List.set_cons_succ, List.length_cons, List.length_nil, Nat.reduceAdd, Nat.reduceLT, Int32.reduceToNatClampNeg, true_and, and_true, and_self, reduceCtorEq, not_false_eq_true, false_and, and_false, or_false, false_or, true_or, or_true, jmk_a, jmk_put, hak, hak0]
  exact jk_vret X d_BY_init_11 hr (Nat.le_refl _) (Nat.le_refl _) ⟨rfl, rfl, rfl⟩
set_option maxRecDepth 100000 in
set_option maxHeartbeats 4000000 in
theorem c_WO_init (l : Launch) (E : jE) (σ : Nat → jcell) (n : Nat) (a : Nat) (ha : a < n) (h : σ a = .inr (2, [.inr (.inr none), .inl 0, .inl 0, .inr (.inr none), .inl 0])) : jMet l E jcl jtb lw_tbl y_WO_init { frames := 1, cells := 1, slots := 8, locals := 20 } [.inr (.inr (some (.inl (a))))] σ n (fun r σ' n' => r = none ∧ n' = n + 1 ∧ σ' = jmk σ a n (.inr (2, [.inr (.inr (some (.inl n))), .inl 0, .inl 0, .inr (.inr none), .inl 0])) [.inl (.int, 8, .inl fun _ => 0)]) := by
  refine jMet_of (hY := rfl) true (fun h => rfl) (by decide) (Nat.le_of_ble_eq_true rfl) [some (.inr (.inr (some (.inl (a)))))] rfl ?_
  intro M hl hR X hr
  have hak : ∀ k, (a < n + k) = True := fun k => eq_true (by omega)
  have hak0 : (a < n) = True := eq_true ha
  refine jmk_in h ?_
  refine jrun_ok jC X k_WO_init_0 0 _ _ _ o_WO_init_0 ?_
  simp only [k_WO_init_0, jrun, jstep, jldi, jldl, jlda, j1, j2, jl1, jl2, jli, ja1, jbr, jald, jast, jlald, jlast, jalen, jget, jput, jfit, jdup, jdupx, jdupx2, jdup2, jcat, jset1, jset2, jkill, List.getElem?_cons_zero, List.getElem?_cons_succ, List.set_cons_zero, List.set_cons_succ, List.length_cons, List.length_nil, Nat.reduceAdd, Nat.reduceLT, Int32.reduceToNatClampNeg, true_and, and_true, and_self, reduceCtorEq, not_false_eq_true, false_and, and_false, or_false, false_or, true_or, or_true, jmk_a, jmk_put, hak, hak0]
  refine jk_oi X hR (w1 := 367) (w2 := 340) (w3 := 341) d_WO_init_1 (by decide +kernel) (by decide +kernel) (by decide +kernel) (Nat.le_of_ble_eq_true rfl) (Nat.le_of_ble_eq_true rfl) (pc' := 4) rfl ?_
  refine jrun_ok jC X k_WO_init_4 4 _ _ _ o_WO_init_4 ?_
  simp only [k_WO_init_4, jrun, jstep, jldi, jldl, jlda, j1, j2, jl1, jl2, jli, ja1, jbr, jald, jast, jlald, jlast, jalen, jget, jput, jfit, jdup, jdupx, jdupx2, jdup2, jcat, jset1, jset2, jkill, List.getElem?_cons_zero, List.getElem?_cons_succ, List.set_cons_zero, List.set_cons_succ, List.length_cons, List.length_nil, Nat.reduceAdd, Nat.reduceLT, Int32.reduceToNatClampNeg, true_and, and_true, and_self, reduceCtorEq, not_false_eq_true, false_and, and_false, or_false, false_or, true_or, or_true, jmk_a, jmk_put, hak, hak0]
  refine jc_na X hR (w1 := 387) d_WO_init_7 rfl (by decide +kernel) (by decide) (by decide) 8 (by decide) (by decide) rfl [.inl (.int, 8, .inl fun _ => 0)] ha rfl rfl (n' := n + 1) rfl (c' := 1) rfl (s' := 8) rfl ⟨Nat.le_of_ble_eq_true rfl, Nat.le_of_ble_eq_true rfl⟩ (pc' := 9) rfl ?_
  refine jrun_ok jC X k_WO_init_9 9 _ _ _ o_WO_init_9 ?_
  simp only [k_WO_init_9, jrun, jstep, jldi, jldl, jlda, j1, j2, jl1, jl2, jli, ja1, jbr, jald, jast, jlald, jlast, jalen, jget, jput, jfit, jdup, jdupx, jdupx2, jdup2, jcat, jset1, jset2, jkill, List.getElem?_cons_zero, List.getElem?_cons_succ, List.set_cons_zero, List.set_cons_succ, List.length_cons, List.length_nil, Nat.reduceAdd, Nat.reduceLT, Int32.reduceToNatClampNeg, true_and, and_true, and_self, reduceCtorEq, not_false_eq_true, false_and, and_false, or_false, false_or, true_or, or_true, jmk_a, jmk_put, hak, hak0]
  exact jk_vret X d_WO_init_12 hr (Nat.le_refl _) (Nat.le_refl _) ⟨rfl, rfl, rfl⟩
set_option maxRecDepth 100000 in
set_option maxHeartbeats 4000000 in
theorem c_SI_init (l : Launch) (E : jE) (σ : Nat → jcell) (n : Nat) (a : Nat) (ha : a < n) (h : σ a = .inr (3, [.inr (.inr none), .inr (.inr none), .inl 0, .inl 0, .inl 0, .inl 0, .inl 0, .inl 0, .inl 0, .inl 0, .inl 0])) : jMet l E jcl jtb lw_tbl y_SI_init { frames := 1, cells := 2, slots := 3463, locals := 20 } [.inr (.inr (some (.inl (a))))] σ n (fun r σ' n' => r = none ∧ n' = n + 2 ∧ σ' = jmk σ a n (.inr (3, [.inr (.inr (some (.inl n))), .inr (.inr (some (.inl (n + 1)))), .inl 0, .inl 0, .inl 0, .inl 0, .inl 0, .inl 0, .inl 0, .inl 0, .inl 0])) [.inl (.int, 3456, .inl fun _ => 0), .inl (.int, 7, .inl fun _ => 0)]) := by
  refine jMet_of (hY := rfl) true (fun h => rfl) (by decide) (Nat.le_of_ble_eq_true rfl) [some (.inr (.inr (some (.inl (a)))))] rfl ?_
  intro M hl hR X hr
  have hak : ∀ k, (a < n + k) = True := fun k => eq_true (by omega)
  have hak0 : (a < n) = True := eq_true ha
  refine jmk_in h ?_
  refine jrun_ok jC X k_SI_init_0 0 _ _ _ o_SI_init_0 ?_
  simp only [k_SI_init_0, jrun, jstep, jldi, jldl, jlda, j1, j2, jl1, jl2, jli, ja1, jbr, jald, jast, jlald, jlast, jalen, jget, jput, jfit, jdup, jdupx, jdupx2, jdup2, jcat, jset1, jset2, jkill, List.getElem?_cons_zero, List.getElem?_cons_succ, List.set_cons_zero, List.set_cons_succ, List.length_cons, List.length_nil, Nat.reduceAdd, Nat.reduceLT, Int32.reduceToNatClampNeg, true_and, and_true, and_self, reduceCtorEq, not_false_eq_true, false_and, and_false, or_false, false_or, true_or, or_true, jmk_a, jmk_put, hak, hak0]
  refine jk_oi X hR (w1 := 393) (w2 := 340) (w3 := 341) d_SI_init_1 (by decide +kernel) (by decide +kernel) (by decide +kernel) (Nat.le_of_ble_eq_true rfl) (Nat.le_of_ble_eq_true rfl) (pc' := 4) rfl ?_
  refine jrun_ok jC X k_SI_init_4 4 _ _ _ o_SI_init_4 ?_
  simp only [k_SI_init_4, jrun, jstep, jldi, jldl, jlda, j1, j2, jl1, jl2, jli, ja1, jbr, jald, jast, jlald, jlast, jalen, jget, jput, jfit, jdup, jdupx, jdupx2, jdup2, jcat, jset1, jset2, jkill, List.getElem?_cons_zero, List.getElem?_cons_succ, List.set_cons_zero, List.set_cons_succ, List.length_cons, List.length_nil, Nat.reduceAdd, Nat.reduceLT, Int32.reduceToNatClampNeg, true_and, and_true, and_self, reduceCtorEq, not_false_eq_true, false_and, and_false, or_false, false_or, true_or, or_true, jmk_a, jmk_put, hak, hak0]
  refine jc_na X hR (w1 := 387) d_SI_init_8 rfl (by decide +kernel) (by decide) (by decide) 3456 (by decide) (by decide) rfl [.inl (.int, 3456, .inl fun _ => 0)] ha rfl rfl (n' := n + 1) rfl (c' := 1) rfl (s' := 3456) rfl ⟨Nat.le_of_ble_eq_true rfl, Nat.le_of_ble_eq_true rfl⟩ (pc' := 10) rfl ?_
  refine jrun_ok jC X k_SI_init_10 10 _ _ _ o_SI_init_10 ?_
  simp only [k_SI_init_10, jrun, jstep, jldi, jldl, jlda, j1, j2, jl1, jl2, jli, ja1, jbr, jald, jast, jlald, jlast, jalen, jget, jput, jfit, jdup, jdupx, jdupx2, jdup2, jcat, jset1, jset2, jkill, List.getElem?_cons_zero, List.getElem?_cons_succ, List.set_cons_zero, List.set_cons_succ, List.length_cons, List.length_nil, Nat.reduceAdd, Nat.reduceLT, Int32.reduceToNatClampNeg, true_and, and_true, and_self, reduceCtorEq, not_false_eq_true, false_and, and_false, or_false, false_or, true_or, or_true, jmk_a, jmk_put, hak, hak0]
  refine jc_na X hR (w1 := 387) d_SI_init_16 rfl (by decide +kernel) (by decide) (by decide) 7 (by decide) (by decide) rfl [.inl (.int, 3456, .inl fun _ => 0), .inl (.int, 7, .inl fun _ => 0)] ha rfl rfl (n' := n + 2) rfl (c' := 2) rfl (s' := 3463) rfl ⟨Nat.le_of_ble_eq_true rfl, Nat.le_of_ble_eq_true rfl⟩ (pc' := 18) rfl ?_
  refine jrun_ok jC X k_SI_init_18 18 _ _ _ o_SI_init_18 ?_
  simp only [k_SI_init_18, jrun, jstep, jldi, jldl, jlda, j1, j2, jl1, jl2, jli, ja1, jbr, jald, jast, jlald, jlast, jalen, jget, jput, jfit, jdup, jdupx, jdupx2, jdup2, jcat, jset1, jset2, jkill, List.getElem?_cons_zero, List.getElem?_cons_succ, List.set_cons_zero, List.set_cons_succ, List.length_cons, List.length_nil, Nat.reduceAdd, Nat.reduceLT, Int32.reduceToNatClampNeg, true_and, and_true, and_self, reduceCtorEq, not_false_eq_true, false_and, and_false, or_false, false_or, true_or, or_true, jmk_a, jmk_put, hak, hak0]
  exact jk_vret X d_SI_init_21 hr (Nat.le_refl _) (Nat.le_refl _) ⟨rfl, rfl, rfl⟩
set_option maxRecDepth 100000 in
set_option maxHeartbeats 4000000 in
theorem c_GR_init (l : Launch) (E : jE) (σ : Nat → jcell) (n : Nat) (a : Nat) (ha : a < n) (h : σ a = .inr (4, [.inl 0, .inr (.inr none), .inr (.inr none), .inr (.inr none), .inr (.inr none), .inr (.inr none), .inl 0, .inl 0, .inl 0, .inl 0, .inl 0, .inl 0])) : jMet l E jcl jtb lw_tbl y_GR_init { frames := 2, cells := 5, slots := 3576, locals := 40 } [.inr (.inr (some (.inl (a))))] σ n (fun r σ' n' => r = none ∧ n' = n + 5 ∧ σ' = jmk σ a n (.inr (4, [.inl 0, .inr (.inr (some (.inl n))), .inr (.inr (some (.inl (n + 3)))), .inr (.inr (some (.inl (n + 4)))), .inr (.inr none), .inr (.inr none), .inl 0, .inl 0, .inl 0, .inl 0, .inl 0, .inl 0])) [.inr (3, [.inr (.inr (some (.inl (n + 1)))), .inr (.inr (some (.inl (n + 2)))), .inl 0, .inl 0, .inl 0, .inl 0, .inl 0, .inl 0, .inl 0, .inl 0, .inl 0]), .inl (.int, 3456, .inl fun _ => 0), .inl (.int, 7, .inl fun _ => 0), .inl (.int, 6, .inl fun _ => 0), .inl (.byte, 96, .inl fun _ => 0)]) := by
  refine jMet_of (hY := rfl) true (fun h => rfl) (by decide) (Nat.le_of_ble_eq_true rfl) [some (.inr (.inr (some (.inl (a)))))] rfl ?_
  intro M hl hR X hr
  have hak : ∀ k, (a < n + k) = True := fun k => eq_true (by omega)
  have hak0 : (a < n) = True := eq_true ha
  refine jmk_in h ?_
  refine jrun_ok jC X k_GR_init_0 0 _ _ _ o_GR_init_0 ?_
  simp only [k_GR_init_0, jrun, jstep, jldi, jldl, jlda, j1, j2, jl1, jl2, jli, ja1, jbr, jald, jast, jlald, jlast, jalen, jget, jput, jfit, jdup, jdupx, jdupx2, jdup2, jcat, jset1, jset2, jkill, List.getElem?_cons_zero, List.getElem?_cons_succ, List.set_cons_zero, List.set_cons_succ, List.length_cons, List.length_nil, Nat.reduceAdd, Nat.reduceLT, Int32.reduceToNatClampNeg, true_and, and_true, and_self, reduceCtorEq, not_false_eq_true, false_and, and_false, or_false, false_or, true_or, or_true, jmk_a, jmk_put, hak, hak0]
  refine jk_oi X hR (w1 := 433) (w2 := 340) (w3 := 341) d_GR_init_1 (by decide +kernel) (by decide +kernel) (by decide +kernel) (Nat.le_of_ble_eq_true rfl) (Nat.le_of_ble_eq_true rfl) (pc' := 4) rfl ?_
  refine jrun_ok jC X k_GR_init_4 4 _ _ _ o_GR_init_4 ?_
  simp only [k_GR_init_4, jrun, jstep, jldi, jldl, jlda, j1, j2, jl1, jl2, jli, ja1, jbr, jald, jast, jlald, jlast, jalen, jget, jput, jfit, jdup, jdupx, jdupx2, jdup2, jcat, jset1, jset2, jkill, List.getElem?_cons_zero, List.getElem?_cons_succ, List.set_cons_zero, List.set_cons_succ, List.length_cons, List.length_nil, Nat.reduceAdd, Nat.reduceLT, Int32.reduceToNatClampNeg, true_and, and_true, and_self, reduceCtorEq, not_false_eq_true, false_and, and_false, or_false, false_or, true_or, or_true, jmk_a, jmk_put, hak, hak0]
  refine jc_nw jC X hR (w1 := 434) (w2 := 389) (w3 := 305) (ci := 3) d_GR_init_5 (q := ("ChessHouse$Signs", F_SI, 11)) rfl (by decide +kernel) (by decide +kernel) (by decide +kernel) (by decide +kernel) (fs := [.inr (.inr none), .inr (.inr none), .inl 0, .inl 0, .inl 0, .inl 0, .inl 0, .inl 0, .inl 0, .inl 0, .inl 0]) (by decide +kernel) ha rfl (n' := n + 1) rfl (c' := 1) rfl (s' := 11) rfl ⟨Nat.le_of_ble_eq_true rfl, Nat.le_of_ble_eq_true rfl⟩ (pc' := 8) rfl ?_
  refine jrun_ok jC X k_GR_init_8 8 _ _ _ o_GR_init_8 ?_
  simp only [k_GR_init_8, jrun, jstep, jldi, jldl, jlda, j1, j2, jl1, jl2, jli, ja1, jbr, jald, jast, jlald, jlast, jalen, jget, jput, jfit, jdup, jdupx, jdupx2, jdup2, jcat, jset1, jset2, jkill, List.getElem?_cons_zero, List.getElem?_cons_succ, List.set_cons_zero, List.set_cons_succ, List.length_cons, List.length_nil, Nat.reduceAdd, Nat.reduceLT, Int32.reduceToNatClampNeg, true_and, and_true, and_self, reduceCtorEq, not_false_eq_true, false_and, and_false, or_false, false_or, true_or, or_true, jmk_a, jmk_put, hak, hak0]
  refine jk_Ig X hR d_GR_init_9 q_GR_init_9 m_SI_init i_SI_init rfl rfl (vals := []) (r := [.inr (.inr (some (.inl n))), .inr (.inr (some (.inl (a))))]) (c_SI_init M.2.1 E (jmk σ a n (.inr (4, [.inl 0, .inr (.inr none), .inr (.inr none), .inr (.inr none), .inr (.inr none), .inr (.inr none), .inl 0, .inl 0, .inl 0, .inl 0, .inl 0, .inl 0])) ([] ++ [.inr (3, [.inr (.inr none), .inr (.inr none), .inl 0, .inl 0, .inl 0, .inl 0, .inl 0, .inl 0, .inl 0, .inl 0, .inl 0])])) (n + 1) (n) (by omega) (jmk_at (k := 0) ha (by rfl))) rfl rfl ⟨Nat.le_of_ble_eq_true rfl, Nat.le_of_ble_eq_true rfl⟩ (c' := 3) rfl (s' := 3474) rfl ⟨Nat.le_of_ble_eq_true rfl, Nat.le_of_ble_eq_true rfl⟩ (Nat.le_of_ble_eq_true rfl) (pc' := 12) rfl ?_
  rintro _ _ _ ⟨rfl, rfl, rfl⟩
  rw [jmk_nest (a := a) (n := n) (b := n) (m := n + 1) (cs := []) ha rfl rfl]
  show jJ E jcl 1 M _ (n + 3) 3 (3474) 12 [some (.inr (.inr (some (.inl (a)))))] [.inr (.inr (some (.inl n))), .inr (.inr (some (.inl (a))))] (jmk σ a n (.inr (4, [.inl 0, .inr (.inr none), .inr (.inr none), .inr (.inr none), .inr (.inr none), .inr (.inr none), .inl 0, .inl 0, .inl 0, .inl 0, .inl 0, .inl 0])) [.inr (3, [.inr (.inr (some (.inl (n + 1)))), .inr (.inr (some (.inl (n + 2)))), .inl 0, .inl 0, .inl 0, .inl 0, .inl 0, .inl 0, .inl 0, .inl 0, .inl 0]), .inl (.int, 3456, .inl fun _ => 0), .inl (.int, 7, .inl fun _ => 0)])
  refine jrun_ok jC X k_GR_init_12 12 _ _ _ o_GR_init_12 ?_
  simp only [k_GR_init_12, jrun, jstep, jldi, jldl, jlda, j1, j2, jl1, jl2, jli, ja1, jbr, jald, jast, jlald, jlast, jalen, jget, jput, jfit, jdup, jdupx, jdupx2, jdup2, jcat, jset1, jset2, jkill, List.getElem?_cons_zero, List.getElem?_cons_succ, List.set_cons_zero, List.set_cons_succ, List.length_cons, List.length_nil, Nat.reduceAdd, Nat.reduceLT, Int32.reduceToNatClampNeg, true_and, and_true, and_self, reduceCtorEq, not_false_eq_true, false_and, and_false, or_false, false_or, true_or, or_true, jmk_a, jmk_put, hak, hak0]
  refine jc_na X hR (w1 := 387) d_GR_init_18 rfl (by decide +kernel) (by decide) (by decide) 6 (by decide) (by decide) rfl [.inr (3, [.inr (.inr (some (.inl (n + 1)))), .inr (.inr (some (.inl (n + 2)))), .inl 0, .inl 0, .inl 0, .inl 0, .inl 0, .inl 0, .inl 0, .inl 0, .inl 0]), .inl (.int, 3456, .inl fun _ => 0), .inl (.int, 7, .inl fun _ => 0), .inl (.int, 6, .inl fun _ => 0)] ha rfl rfl (n' := n + 4) rfl (c' := 4) rfl (s' := 3480) rfl ⟨Nat.le_of_ble_eq_true rfl, Nat.le_of_ble_eq_true rfl⟩ (pc' := 20) rfl ?_
  refine jrun_ok jC X k_GR_init_20 20 _ _ _ o_GR_init_20 ?_
  simp only [k_GR_init_20, jrun, jstep, jldi, jldl, jlda, j1, j2, jl1, jl2, jli, ja1, jbr, jald, jast, jlald, jlast, jalen, jget, jput, jfit, jdup, jdupx, jdupx2, jdup2, jcat, jset1, jset2, jkill, List.getElem?_cons_zero, List.getElem?_cons_succ, List.set_cons_zero, List.set_cons_succ, List.length_cons, List.length_nil, Nat.reduceAdd, Nat.reduceLT, Int32.reduceToNatClampNeg, true_and, and_true, and_self, reduceCtorEq, not_false_eq_true, false_and, and_false, or_false, false_or, true_or, or_true, jmk_a, jmk_put, hak, hak0]
  refine jc_na X hR (w1 := 361) d_GR_init_26 rfl (by decide +kernel) (by decide) (by decide) 96 (by decide) (by decide) rfl [.inr (3, [.inr (.inr (some (.inl (n + 1)))), .inr (.inr (some (.inl (n + 2)))), .inl 0, .inl 0, .inl 0, .inl 0, .inl 0, .inl 0, .inl 0, .inl 0, .inl 0]), .inl (.int, 3456, .inl fun _ => 0), .inl (.int, 7, .inl fun _ => 0), .inl (.int, 6, .inl fun _ => 0), .inl (.byte, 96, .inl fun _ => 0)] ha rfl rfl (n' := n + 5) rfl (c' := 5) rfl (s' := 3576) rfl ⟨Nat.le_of_ble_eq_true rfl, Nat.le_of_ble_eq_true rfl⟩ (pc' := 28) rfl ?_
  refine jrun_ok jC X k_GR_init_28 28 _ _ _ o_GR_init_28 ?_
  simp only [k_GR_init_28, jrun, jstep, jldi, jldl, jlda, j1, j2, jl1, jl2, jli, ja1, jbr, jald, jast, jlald, jlast, jalen, jget, jput, jfit, jdup, jdupx, jdupx2, jdup2, jcat, jset1, jset2, jkill, List.getElem?_cons_zero, List.getElem?_cons_succ, List.set_cons_zero, List.set_cons_succ, List.length_cons, List.length_nil, Nat.reduceAdd, Nat.reduceLT, Int32.reduceToNatClampNeg, true_and, and_true, and_self, reduceCtorEq, not_false_eq_true, false_and, and_false, or_false, false_or, true_or, or_true, jmk_a, jmk_put, hak, hak0]
  exact jk_vret X d_GR_init_31 hr (Nat.le_refl _) (Nat.le_refl _) ⟨rfl, rfl, rfl⟩
set_option maxRecDepth 100000 in
set_option maxHeartbeats 4000000 in
theorem c_GW_init (l : Launch) (E : jE) (σ : Nat → jcell) (n : Nat) (a : Nat) (ha : a < n) (h : σ a = .inr (5, [.inr (.inr none), .inr (.inr none), .inr (.inr none)])) : jMet l E jcl jtb lw_tbl y_GW_init { frames := 2, cells := 5, slots := 134548, locals := 41 } [.inr (.inr (some (.inl (a))))] σ n (fun r σ' n' => r = none ∧ n' = n + 5 ∧ σ' = jmk σ a n (.inr (5, [.inr (.inr (some (.inl n))), .inr (.inr (some (.inl (n + 2)))), .inr (.inr none)])) [.inr (1, [.inr (.inr (some (.inl (n + 1)))), .inl 0]), .inl (.byte, 131072, .inl fun _ => 0), .inr (3, [.inr (.inr (some (.inl (n + 3)))), .inr (.inr (some (.inl (n + 4)))), .inl 0, .inl 0, .inl 0, .inl 0, .inl 0, .inl 0, .inl 0, .inl 0, .inl 0]), .inl (.int, 3456, .inl fun _ => 0), .inl (.int, 7, .inl fun _ => 0)]) := by
  refine jMet_of (hY := rfl) true (fun h => rfl) (by decide) (Nat.le_of_ble_eq_true rfl) [some (.inr (.inr (some (.inl (a)))))] rfl ?_
  intro M hl hR X hr
  have hak : ∀ k, (a < n + k) = True := fun k => eq_true (by omega)
  have hak0 : (a < n) = True := eq_true ha
  refine jmk_in h ?_
  refine jrun_ok jC X k_GW_init_0 0 _ _ _ o_GW_init_0 ?_
  simp only [k_GW_init_0, jrun, jstep, jldi, jldl, jlda, j1, j2, jl1, jl2, jli, ja1, jbr, jald, jast, jlald, jlast, jalen, jget, jput, jfit, jdup, jdupx, jdupx2, jdup2, jcat, jset1, jset2, jkill, List.getElem?_cons_zero, List.getElem?_cons_succ, List.set_cons_zero, List.set_cons_succ, List.length_cons, List.length_nil, Nat.reduceAdd, Nat.reduceLT, Int32.reduceToNatClampNeg, true_and, and_true, and_self, reduceCtorEq, not_false_eq_true, false_and, and_false, or_false, false_or, true_or, or_true, jmk_a, jmk_put, hak, hak0]
  refine jk_oi X hR (w1 := 479) (w2 := 340) (w3 := 341) d_GW_init_1 (by decide +kernel) (by decide +kernel) (by decide +kernel) (Nat.le_of_ble_eq_true rfl) (Nat.le_of_ble_eq_true rfl) (pc' := 4) rfl ?_
  refine jrun_ok jC X k_GW_init_4 4 _ _ _ o_GW_init_4 ?_
  simp only [k_GW_init_4, jrun, jstep, jldi, jldl, jlda, j1, j2, jl1, jl2, jli, ja1, jbr, jald, jast, jlald, jlast, jalen, jget, jput, jfit, jdup, jdupx, jdupx2, jdup2, jcat, jset1, jset2, jkill, List.getElem?_cons_zero, List.getElem?_cons_succ, List.set_cons_zero, List.set_cons_succ, List.length_cons, List.length_nil, Nat.reduceAdd, Nat.reduceLT, Int32.reduceToNatClampNeg, true_and, and_true, and_self, reduceCtorEq, not_false_eq_true, false_and, and_false, or_false, false_or, true_or, or_true, jmk_a, jmk_put, hak, hak0]
  refine jc_nw jC X hR (w1 := 480) (w2 := 344) (w3 := 303) (ci := 1) d_GW_init_5 (q := ("ChessHouse$Bytes", F_BY, 2)) rfl (by decide +kernel) (by decide +kernel) (by decide +kernel) (by decide +kernel) (fs := [.inr (.inr none), .inl 0]) (by decide +kernel) ha rfl (n' := n + 1) rfl (c' := 1) rfl (s' := 2) rfl ⟨Nat.le_of_ble_eq_true rfl, Nat.le_of_ble_eq_true rfl⟩ (pc' := 8) rfl ?_
  refine jrun_ok jC X k_GW_init_8 8 _ _ _ o_GW_init_8 ?_
  simp only [k_GW_init_8, jrun, jstep, jldi, jldl, jlda, j1, j2, jl1, jl2, jli, ja1, jbr, jald, jast, jlald, jlast, jalen, jget, jput, jfit, jdup, jdupx, jdupx2, jdup2, jcat, jset1, jset2, jkill, List.getElem?_cons_zero, List.getElem?_cons_succ, List.set_cons_zero, List.set_cons_succ, List.length_cons, List.length_nil, Nat.reduceAdd, Nat.reduceLT, Int32.reduceToNatClampNeg, true_and, and_true, and_self, reduceCtorEq, not_false_eq_true, false_and, and_false, or_false, false_or, true_or, or_true, jmk_a, jmk_put, hak, hak0]
  refine jk_Ig X hR d_GW_init_11 q_GW_init_11 m_BY_init i_BY_init rfl rfl (vals := [.inl 131072]) (r := [.inr (.inr (some (.inl n))), .inr (.inr (some (.inl (a))))]) (c_BY_init M.2.1 E (jmk σ a n (.inr (5, [.inr (.inr none), .inr (.inr none), .inr (.inr none)])) ([] ++ [.inr (1, [.inr (.inr none), .inl 0])])) (n + 1) (n) (by omega) (jmk_at (k := 0) ha (by rfl)) 131072 (by decide)) rfl rfl ⟨Nat.le_of_ble_eq_true rfl, Nat.le_of_ble_eq_true rfl⟩ (c' := 2) rfl (s' := 131074) rfl ⟨Nat.le_of_ble_eq_true rfl, Nat.le_of_ble_eq_true rfl⟩ (Nat.le_of_ble_eq_true rfl) (pc' := 14) rfl ?_
  rintro _ _ _ ⟨rfl, rfl, rfl⟩
  rw [jmk_nest (a := a) (n := n) (b := n) (m := n + 1) (cs := []) ha rfl rfl]
  show jJ E jcl 1 M _ (n + 2) 2 (131074) 14 [some (.inr (.inr (some (.inl (a)))))] [.inr (.inr (some (.inl n))), .inr (.inr (some (.inl (a))))] (jmk σ a n (.inr (5, [.inr (.inr none), .inr (.inr none), .inr (.inr none)])) [.inr (1, [.inr (.inr (some (.inl (n + 1)))), .inl 0]), .inl (.byte, 131072, .inl fun _ => 0)])
  refine jrun_ok jC X k_GW_init_14 14 _ _ _ o_GW_init_14 ?_
  simp only [k_GW_init_14, jrun, jstep, jldi, jldl, jlda, j1, j2, jl1, jl2, jli, ja1, jbr, jald, jast, jlald, jlast, jalen, jget, jput, jfit, jdup, jdupx, jdupx2, jdup2, jcat, jset1, jset2, jkill, List.getElem?_cons_zero, List.getElem?_cons_succ, List.set_cons_zero, List.set_cons_succ, List.length_cons, List.length_nil, Nat.reduceAdd, Nat.reduceLT, Int32.reduceToNatClampNeg, true_and, and_true, and_self, reduceCtorEq, not_false_eq_true, false_and, and_false, or_false, false_or, true_or, or_true, jmk_a, jmk_put, hak, hak0]
  refine jc_nw jC X hR (w1 := 483) (w2 := 389) (w3 := 305) (ci := 3) d_GW_init_18 (q := ("ChessHouse$Signs", F_SI, 11)) rfl (by decide +kernel) (by decide +kernel) (by decide +kernel) (by decide +kernel) (fs := [.inr (.inr none), .inr (.inr none), .inl 0, .inl 0, .inl 0, .inl 0, .inl 0, .inl 0, .inl 0, .inl 0, .inl 0]) (by decide +kernel) ha rfl (n' := n + 3) rfl (c' := 3) rfl (s' := 131085) rfl ⟨Nat.le_of_ble_eq_true rfl, Nat.le_of_ble_eq_true rfl⟩ (pc' := 21) rfl ?_
  refine jrun_ok jC X k_GW_init_21 21 _ _ _ o_GW_init_21 ?_
  simp only [k_GW_init_21, jrun, jstep, jldi, jldl, jlda, j1, j2, jl1, jl2, jli, ja1, jbr, jald, jast, jlald, jlast, jalen, jget, jput, jfit, jdup, jdupx, jdupx2, jdup2, jcat, jset1, jset2, jkill, List.getElem?_cons_zero, List.getElem?_cons_succ, List.set_cons_zero, List.set_cons_succ, List.length_cons, List.length_nil, Nat.reduceAdd, Nat.reduceLT, Int32.reduceToNatClampNeg, true_and, and_true, and_self, reduceCtorEq, not_false_eq_true, false_and, and_false, or_false, false_or, true_or, or_true, jmk_a, jmk_put, hak, hak0]
  refine jk_Ig X hR d_GW_init_22 q_GW_init_22 m_SI_init i_SI_init rfl rfl (vals := []) (r := [.inr (.inr (some (.inl (n + 2)))), .inr (.inr (some (.inl (a))))]) (c_SI_init M.2.1 E (jmk σ a n (.inr (5, [.inr (.inr (some (.inl n))), .inr (.inr none), .inr (.inr none)])) ([.inr (1, [.inr (.inr (some (.inl (n + 1)))), .inl 0]), .inl (.byte, 131072, .inl fun _ => 0)] ++ [.inr (3, [.inr (.inr none), .inr (.inr none), .inl 0, .inl 0, .inl 0, .inl 0, .inl 0, .inl 0, .inl 0, .inl 0, .inl 0])])) (n + 3) (n + 2) (by omega) (jmk_at (k := 2) ha (by rfl))) rfl rfl ⟨Nat.le_of_ble_eq_true rfl, Nat.le_of_ble_eq_true rfl⟩ (c' := 5) rfl (s' := 134548) rfl ⟨Nat.le_of_ble_eq_true rfl, Nat.le_of_ble_eq_true rfl⟩ (Nat.le_of_ble_eq_true rfl) (pc' := 25) rfl ?_
  rintro _ _ _ ⟨rfl, rfl, rfl⟩
  rw [jmk_nest (a := a) (n := n) (b := n + 2) (m := n + 3) (cs := [.inr (1, [.inr (.inr (some (.inl (n + 1)))), .inl 0]), .inl (.byte, 131072, .inl fun _ => 0)]) ha rfl rfl]
  show jJ E jcl 1 M _ (n + 5) 5 (134548) 25 [some (.inr (.inr (some (.inl (a)))))] [.inr (.inr (some (.inl (n + 2)))), .inr (.inr (some (.inl (a))))] (jmk σ a n (.inr (5, [.inr (.inr (some (.inl n))), .inr (.inr none), .inr (.inr none)])) [.inr (1, [.inr (.inr (some (.inl (n + 1)))), .inl 0]), .inl (.byte, 131072, .inl fun _ => 0), .inr (3, [.inr (.inr (some (.inl (n + 3)))), .inr (.inr (some (.inl (n + 4)))), .inl 0, .inl 0, .inl 0, .inl 0, .inl 0, .inl 0, .inl 0, .inl 0, .inl 0]), .inl (.int, 3456, .inl fun _ => 0), .inl (.int, 7, .inl fun _ => 0)])
  refine jrun_ok jC X k_GW_init_25 25 _ _ _ o_GW_init_25 ?_
  simp only [k_GW_init_25, jrun, jstep, jldi, jldl, jlda, j1, j2, jl1, jl2, jli, ja1, jbr, jald, jast, jlald, jlast, jalen, jget, jput, jfit, jdup, jdupx, jdupx2, jdup2, jcat, jset1, jset2, jkill, List.getElem?_cons_zero, List.getElem?_cons_succ, List.set_cons_zero, List.set_cons_succ, List.length_cons, List.length_nil, Nat.reduceAdd, Nat.reduceLT, Int32.reduceToNatClampNeg, true_and, and_true, and_self, reduceCtorEq, not_false_eq_true, false_and, and_false, or_false, false_or, true_or, or_true, jmk_a, jmk_put, hak, hak0]
  exact jk_vret X d_GW_init_28 hr (Nat.le_refl _) (Nat.le_refl _) ⟨rfl, rfl, rfl⟩
set_option maxRecDepth 100000 in
set_option maxHeartbeats 4000000 in
theorem c_SE_init (l : Launch) (E : jE) (σ : Nat → jcell) (n : Nat) (a : Nat) (ha : a < n) (h : σ a = .inr (6, [.inl 0, .inr (.inr none), .inr (.inr none), .inr (.inr none), .inl 0, .inr (.inr none), .inl 0])) : jMet l E jcl jtb lw_tbl y_SE_init { frames := 1, cells := 3, slots := 20752, locals := 20 } [.inr (.inr (some (.inl (a))))] σ n (fun r σ' n' => r = none ∧ n' = n + 3 ∧ σ' = jmk σ a n (.inr (6, [.inl 0, .inr (.inr (some (.inl n))), .inr (.inr (some (.inl (n + 1)))), .inr (.inr (some (.inl (n + 2)))), .inl 0, .inr (.inr none), .inl 0])) [.inl (.int, 20736, .inl fun _ => 0), .inl (.int, 8, .inl fun _ => 0), .inl (.long, 8, .inr (.inl fun _ => 0))]) := by
  refine jMet_of (hY := rfl) true (fun h => rfl) (by decide) (Nat.le_of_ble_eq_true rfl) [some (.inr (.inr (some (.inl (a)))))] rfl ?_
  intro M hl hR X hr
  have hak : ∀ k, (a < n + k) = True := fun k => eq_true (by omega)
  have hak0 : (a < n) = True := eq_true ha
  refine jmk_in h ?_
  refine jrun_ok jC X k_SE_init_0 0 _ _ _ o_SE_init_0 ?_
  simp only [k_SE_init_0, jrun, jstep, jldi, jldl, jlda, j1, j2, jl1, jl2, jli, ja1, jbr, jald, jast, jlald, jlast, jalen, jget, jput, jfit, jdup, jdupx, jdupx2, jdup2, jcat, jset1, jset2, jkill, List.getElem?_cons_zero, List.getElem?_cons_succ, List.set_cons_zero, List.set_cons_succ, List.length_cons, List.length_nil, Nat.reduceAdd, Nat.reduceLT, Int32.reduceToNatClampNeg, true_and, and_true, and_self, reduceCtorEq, not_false_eq_true, false_and, and_false, or_false, false_or, true_or, or_true, jmk_a, jmk_put, hak, hak0]
  refine jk_oi X hR (w1 := 500) (w2 := 340) (w3 := 341) d_SE_init_1 (by decide +kernel) (by decide +kernel) (by decide +kernel) (Nat.le_of_ble_eq_true rfl) (Nat.le_of_ble_eq_true rfl) (pc' := 4) rfl ?_
  refine jrun_ok jC X k_SE_init_4 4 _ _ _ o_SE_init_4 ?_
  simp only [k_SE_init_4, jrun, jstep, jldi, jldl, jlda, j1, j2, jl1, jl2, jli, ja1, jbr, jald, jast, jlald, jlast, jalen, jget, jput, jfit, jdup, jdupx, jdupx2, jdup2, jcat, jset1, jset2, jkill, List.getElem?_cons_zero, List.getElem?_cons_succ, List.set_cons_zero, List.set_cons_succ, List.length_cons, List.length_nil, Nat.reduceAdd, Nat.reduceLT, Int32.reduceToNatClampNeg, true_and, and_true, and_self, reduceCtorEq, not_false_eq_true, false_and, and_false, or_false, false_or, true_or, or_true, jmk_a, jmk_put, hak, hak0]
  refine jc_na X hR (w1 := 387) d_SE_init_8 rfl (by decide +kernel) (by decide) (by decide) 20736 (by decide) (by decide) rfl [.inl (.int, 20736, .inl fun _ => 0)] ha rfl rfl (n' := n + 1) rfl (c' := 1) rfl (s' := 20736) rfl ⟨Nat.le_of_ble_eq_true rfl, Nat.le_of_ble_eq_true rfl⟩ (pc' := 10) rfl ?_
  refine jrun_ok jC X k_SE_init_10 10 _ _ _ o_SE_init_10 ?_
  simp only [k_SE_init_10, jrun, jstep, jldi, jldl, jlda, j1, j2, jl1, jl2, jli, ja1, jbr, jald, jast, jlald, jlast, jalen, jget, jput, jfit, jdup, jdupx, jdupx2, jdup2, jcat, jset1, jset2, jkill, List.getElem?_cons_zero, List.getElem?_cons_succ, List.set_cons_zero, List.set_cons_succ, List.length_cons, List.length_nil, Nat.reduceAdd, Nat.reduceLT, Int32.reduceToNatClampNeg, true_and, and_true, and_self, reduceCtorEq, not_false_eq_true, false_and, and_false, or_false, false_or, true_or, or_true, jmk_a, jmk_put, hak, hak0]
  refine jc_na X hR (w1 := 387) d_SE_init_16 rfl (by decide +kernel) (by decide) (by decide) 8 (by decide) (by decide) rfl [.inl (.int, 20736, .inl fun _ => 0), .inl (.int, 8, .inl fun _ => 0)] ha rfl rfl (n' := n + 2) rfl (c' := 2) rfl (s' := 20744) rfl ⟨Nat.le_of_ble_eq_true rfl, Nat.le_of_ble_eq_true rfl⟩ (pc' := 18) rfl ?_
  refine jrun_ok jC X k_SE_init_18 18 _ _ _ o_SE_init_18 ?_
  simp only [k_SE_init_18, jrun, jstep, jldi, jldl, jlda, j1, j2, jl1, jl2, jli, ja1, jbr, jald, jast, jlald, jlast, jalen, jget, jput, jfit, jdup, jdupx, jdupx2, jdup2, jcat, jset1, jset2, jkill, List.getElem?_cons_zero, List.getElem?_cons_succ, List.set_cons_zero, List.set_cons_succ, List.length_cons, List.length_nil, Nat.reduceAdd, Nat.reduceLT, Int32.reduceToNatClampNeg, true_and, and_true, and_self, reduceCtorEq, not_false_eq_true, false_and, and_false, or_false, false_or, true_or, or_true, jmk_a, jmk_put, hak, hak0]
  refine jc_na X hR (w1 := 524) d_SE_init_24 rfl (by decide +kernel) (by decide) (by decide) 8 (by decide) (by decide) rfl [.inl (.int, 20736, .inl fun _ => 0), .inl (.int, 8, .inl fun _ => 0), .inl (.long, 8, .inr (.inl fun _ => 0))] ha rfl rfl (n' := n + 3) rfl (c' := 3) rfl (s' := 20752) rfl ⟨Nat.le_of_ble_eq_true rfl, Nat.le_of_ble_eq_true rfl⟩ (pc' := 26) rfl ?_
  refine jrun_ok jC X k_SE_init_26 26 _ _ _ o_SE_init_26 ?_
  simp only [k_SE_init_26, jrun, jstep, jldi, jldl, jlda, j1, j2, jl1, jl2, jli, ja1, jbr, jald, jast, jlald, jlast, jalen, jget, jput, jfit, jdup, jdupx, jdupx2, jdup2, jcat, jset1, jset2, jkill, List.getElem?_cons_zero, List.getElem?_cons_succ, List.set_cons_zero, List.set_cons_succ, List.length_cons, List.length_nil, Nat.reduceAdd, Nat.reduceLT, Int32.reduceToNatClampNeg, true_and, and_true, and_self, reduceCtorEq, not_false_eq_true, false_and, and_false, or_false, false_or, true_or, or_true, jmk_a, jmk_put, hak, hak0]
  exact jk_vret X d_SE_init_29 hr (Nat.le_refl _) (Nat.le_refl _) ⟨rfl, rfl, rfl⟩
set_option maxRecDepth 100000 in
set_option maxHeartbeats 4000000 in
theorem c_PR_init (l : Launch) (E : jE) (σ : Nat → jcell) (n : Nat) (a : Nat) (ha : a < n) (h : σ a = .inr (7, [.inl 0, .inl 0, .inl 0, .inl 0, .inr (.inr none), .inr (.inr none), .inr (.inr none), .inr (.inr none), .inl 0, .inl 0])) : jMet l E jcl jtb lw_tbl y_PR_init { frames := 1, cells := 3, slots := 13832, locals := 20 } [.inr (.inr (some (.inl (a))))] σ n (fun r σ' n' => r = none ∧ n' = n + 3 ∧ σ' = jmk σ a n (.inr (7, [.inl 0, .inl 0, .inl 0, .inl 0, .inr (.inr (some (.inl n))), .inr (.inr (some (.inl (n + 1)))), .inr (.inr (some (.inl (n + 2)))), .inr (.inr none), .inl 0, .inl 0])) [.inl (.int, 4, .inl fun _ => 0), .inl (.long, 4, .inr (.inl fun _ => 0)), .inl (.int, 13824, .inl fun _ => 0)]) := by
  refine jMet_of (hY := rfl) true (fun h => rfl) (by decide) (Nat.le_of_ble_eq_true rfl) [some (.inr (.inr (some (.inl (a)))))] rfl ?_
  intro M hl hR X hr
  have hak : ∀ k, (a < n + k) = True := fun k => eq_true (by omega)
  have hak0 : (a < n) = True := eq_true ha
  refine jmk_in h ?_
  refine jrun_ok jC X k_PR_init_0 0 _ _ _ o_PR_init_0 ?_
  simp only [k_PR_init_0, jrun, jstep, jldi, jldl, jlda, j1, j2, jl1, jl2, jli, ja1, jbr, jald, jast, jlald, jlast, jalen, jget, jput, jfit, jdup, jdupx, jdupx2, jdup2, jcat, jset1, jset2, jkill, List.getElem?_cons_zero, List.getElem?_cons_succ, List.set_cons_zero, List.set_cons_succ, List.length_cons, List.length_nil, Nat.reduceAdd, Nat.reduceLT, Int32.reduceToNatClampNeg, true_and, and_true, and_self, reduceCtorEq, not_false_eq_true, false_and, and_false, or_false, false_or, true_or, or_true, jmk_a, jmk_put, hak, hak0]
  refine jk_oi X hR (w1 := 530) (w2 := 340) (w3 := 341) d_PR_init_1 (by decide +kernel) (by decide +kernel) (by decide +kernel) (Nat.le_of_ble_eq_true rfl) (Nat.le_of_ble_eq_true rfl) (pc' := 4) rfl ?_
  refine jrun_ok jC X k_PR_init_4 4 _ _ _ o_PR_init_4 ?_
  simp only [k_PR_init_4, jrun, jstep, jldi, jldl, jlda, j1, j2, jl1, jl2, jli, ja1, jbr, jald, jast, jlald, jlast, jalen, jget, jput, jfit, jdup, jdupx, jdupx2, jdup2, jcat, jset1, jset2, jkill, List.getElem?_cons_zero, List.getElem?_cons_succ, List.set_cons_zero, List.set_cons_succ, List.length_cons, List.length_nil, Nat.reduceAdd, Nat.reduceLT, Int32.reduceToNatClampNeg, true_and, and_true, and_self, reduceCtorEq, not_false_eq_true, false_and, and_false, or_false, false_or, true_or, or_true, jmk_a, jmk_put, hak, hak0]
  refine jc_na X hR (w1 := 387) d_PR_init_6 rfl (by decide +kernel) (by decide) (by decide) 4 (by decide) (by decide) rfl [.inl (.int, 4, .inl fun _ => 0)] ha rfl rfl (n' := n + 1) rfl (c' := 1) rfl (s' := 4) rfl ⟨Nat.le_of_ble_eq_true rfl, Nat.le_of_ble_eq_true rfl⟩ (pc' := 8) rfl ?_
  refine jrun_ok jC X k_PR_init_8 8 _ _ _ o_PR_init_8 ?_
  simp only [k_PR_init_8, jrun, jstep, jldi, jldl, jlda, j1, j2, jl1, jl2, jli, ja1, jbr, jald, jast, jlald, jlast, jalen, jget, jput, jfit, jdup, jdupx, jdupx2, jdup2, jcat, jset1, jset2, jkill, List.getElem?_cons_zero, List.getElem?_cons_succ, List.set_cons_zero, List.set_cons_succ, List.length_cons, List.length_nil, Nat.reduceAdd, Nat.reduceLT, Int32.reduceToNatClampNeg, true_and, and_true, and_self, reduceCtorEq, not_false_eq_true, false_and, and_false, or_false, false_or, true_or, or_true, jmk_a, jmk_put, hak, hak0]
  refine jc_na X hR (w1 := 524) d_PR_init_13 rfl (by decide +kernel) (by decide) (by decide) 4 (by decide) (by decide) rfl [.inl (.int, 4, .inl fun _ => 0), .inl (.long, 4, .inr (.inl fun _ => 0))] ha rfl rfl (n' := n + 2) rfl (c' := 2) rfl (s' := 8) rfl ⟨Nat.le_of_ble_eq_true rfl, Nat.le_of_ble_eq_true rfl⟩ (pc' := 15) rfl ?_
  refine jrun_ok jC X k_PR_init_15 15 _ _ _ o_PR_init_15 ?_
  simp only [k_PR_init_15, jrun, jstep, jldi, jldl, jlda, j1, j2, jl1, jl2, jli, ja1, jbr, jald, jast, jlald, jlast, jalen, jget, jput, jfit, jdup, jdupx, jdupx2, jdup2, jcat, jset1, jset2, jkill, List.getElem?_cons_zero, List.getElem?_cons_succ, List.set_cons_zero, List.set_cons_succ, List.length_cons, List.length_nil, Nat.reduceAdd, Nat.reduceLT, Int32.reduceToNatClampNeg, true_and, and_true, and_self, reduceCtorEq, not_false_eq_true, false_and, and_false, or_false, false_or, true_or, or_true, jmk_a, jmk_put, hak, hak0]
  refine jc_na X hR (w1 := 387) d_PR_init_22 rfl (by decide +kernel) (by decide) (by decide) 13824 (by decide) (by decide) rfl [.inl (.int, 4, .inl fun _ => 0), .inl (.long, 4, .inr (.inl fun _ => 0)), .inl (.int, 13824, .inl fun _ => 0)] ha rfl rfl (n' := n + 3) rfl (c' := 3) rfl (s' := 13832) rfl ⟨Nat.le_of_ble_eq_true rfl, Nat.le_of_ble_eq_true rfl⟩ (pc' := 24) rfl ?_
  refine jrun_ok jC X k_PR_init_24 24 _ _ _ o_PR_init_24 ?_
  simp only [k_PR_init_24, jrun, jstep, jldi, jldl, jlda, j1, j2, jl1, jl2, jli, ja1, jbr, jald, jast, jlald, jlast, jalen, jget, jput, jfit, jdup, jdupx, jdupx2, jdup2, jcat, jset1, jset2, jkill, List.getElem?_cons_zero, List.getElem?_cons_succ, List.set_cons_zero, List.set_cons_succ, List.length_cons, List.length_nil, Nat.reduceAdd, Nat.reduceLT, Int32.reduceToNatClampNeg, true_and, and_true, and_self, reduceCtorEq, not_false_eq_true, false_and, and_false, or_false, false_or, true_or, or_true, jmk_a, jmk_put, hak, hak0]
  exact jk_vret X d_PR_init_27 hr (Nat.le_refl _) (Nat.le_refl _) ⟨rfl, rfl, rfl⟩
set_option maxRecDepth 100000 in
set_option maxHeartbeats 4000000 in
theorem c_EN_init (l : Launch) (E : jE) (σ : Nat → jcell) (n : Nat) (a : Nat) (ha : a < n) (h : σ a = .inr (8, [.inl 0, .inl 0, .inr (.inr none), .inr (.inr none), .inr (.inr none), .inr (.inr none), .inr (.inr none), .inr (.inr none), .inl 0, .inl 0])) : jMet l E jcl jtb lw_tbl y_EN_init { frames := 1, cells := 2, slots := 1728, locals := 20 } [.inr (.inr (some (.inl (a))))] σ n (fun r σ' n' => r = none ∧ n' = n + 2 ∧ σ' = jmk σ a n (.inr (8, [.inl 0, .inl 0, .inr (.inr (some (.inl n))), .inr (.inr none), .inr (.inr none), .inr (.inr none), .inr (.inr none), .inr (.inr (some (.inl (n + 1)))), .inl 0, .inl 0])) [.inl (.int, 1728, .inl fun _ => 0), .inl (.int, 0, .inl fun _ => 0)]) := by
  refine jMet_of (hY := rfl) true (fun h => rfl) (by decide) (Nat.le_of_ble_eq_true rfl) [some (.inr (.inr (some (.inl (a)))))] rfl ?_
  intro M hl hR X hr
  have hak : ∀ k, (a < n + k) = True := fun k => eq_true (by omega)
  have hak0 : (a < n) = True := eq_true ha
  refine jmk_in h ?_
  refine jrun_ok jC X k_EN_init_0 0 _ _ _ o_EN_init_0 ?_
  simp only [k_EN_init_0, jrun, jstep, jldi, jldl, jlda, j1, j2, jl1, jl2, jli, ja1, jbr, jald, jast, jlald, jlast, jalen, jget, jput, jfit, jdup, jdupx, jdupx2, jdup2, jcat, jset1, jset2, jkill, List.getElem?_cons_zero, List.getElem?_cons_succ, List.set_cons_zero, List.set_cons_succ, List.length_cons, List.length_nil, Nat.reduceAdd, Nat.reduceLT, Int32.reduceToNatClampNeg, true_and, and_true, and_self, reduceCtorEq, not_false_eq_true, false_and, and_false, or_false, false_or, true_or, or_true, jmk_a, jmk_put, hak, hak0]
  refine jk_oi X hR (w1 := 573) (w2 := 340) (w3 := 341) d_EN_init_1 (by decide +kernel) (by decide +kernel) (by decide +kernel) (Nat.le_of_ble_eq_true rfl) (Nat.le_of_ble_eq_true rfl) (pc' := 4) rfl ?_
  refine jrun_ok jC X k_EN_init_4 4 _ _ _ o_EN_init_4 ?_
  simp only [k_EN_init_4, jrun, jstep, jldi, jldl, jlda, j1, j2, jl1, jl2, jli, ja1, jbr, jald, jast, jlald, jlast, jalen, jget, jput, jfit, jdup, jdupx, jdupx2, jdup2, jcat, jset1, jset2, jkill, List.getElem?_cons_zero, List.getElem?_cons_succ, List.set_cons_zero, List.set_cons_succ, List.length_cons, List.length_nil, Nat.reduceAdd, Nat.reduceLT, Int32.reduceToNatClampNeg, true_and, and_true, and_self, reduceCtorEq, not_false_eq_true, false_and, and_false, or_false, false_or, true_or, or_true, jmk_a, jmk_put, hak, hak0]
  refine jc_na X hR (w1 := 387) d_EN_init_8 rfl (by decide +kernel) (by decide) (by decide) 1728 (by decide) (by decide) rfl [.inl (.int, 1728, .inl fun _ => 0)] ha rfl rfl (n' := n + 1) rfl (c' := 1) rfl (s' := 1728) rfl ⟨Nat.le_of_ble_eq_true rfl, Nat.le_of_ble_eq_true rfl⟩ (pc' := 10) rfl ?_
  refine jrun_ok jC X k_EN_init_10 10 _ _ _ o_EN_init_10 ?_
  simp only [k_EN_init_10, jrun, jstep, jldi, jldl, jlda, j1, j2, jl1, jl2, jli, ja1, jbr, jald, jast, jlald, jlast, jalen, jget, jput, jfit, jdup, jdupx, jdupx2, jdup2, jcat, jset1, jset2, jkill, List.getElem?_cons_zero, List.getElem?_cons_succ, List.set_cons_zero, List.set_cons_succ, List.length_cons, List.length_nil, Nat.reduceAdd, Nat.reduceLT, Int32.reduceToNatClampNeg, true_and, and_true, and_self, reduceCtorEq, not_false_eq_true, false_and, and_false, or_false, false_or, true_or, or_true, jmk_a, jmk_put, hak, hak0]
  refine jc_na X hR (w1 := 387) d_EN_init_15 rfl (by decide +kernel) (by decide) (by decide) 0 (by decide) (by decide) rfl [.inl (.int, 1728, .inl fun _ => 0), .inl (.int, 0, .inl fun _ => 0)] ha rfl rfl (n' := n + 2) rfl (c' := 2) rfl (s' := 1728) rfl ⟨Nat.le_of_ble_eq_true rfl, Nat.le_of_ble_eq_true rfl⟩ (pc' := 17) rfl ?_
  refine jrun_ok jC X k_EN_init_17 17 _ _ _ o_EN_init_17 ?_
  simp only [k_EN_init_17, jrun, jstep, jldi, jldl, jlda, j1, j2, jl1, jl2, jli, ja1, jbr, jald, jast, jlald, jlast, jalen, jget, jput, jfit, jdup, jdupx, jdupx2, jdup2, jcat, jset1, jset2, jkill, List.getElem?_cons_zero, List.getElem?_cons_succ, List.set_cons_zero, List.set_cons_succ, List.length_cons, List.length_nil, Nat.reduceAdd, Nat.reduceLT, Int32.reduceToNatClampNeg, true_and, and_true, and_self, reduceCtorEq, not_false_eq_true, false_and, and_false, or_false, false_or, true_or, or_true, jmk_a, jmk_put, hak, hak0]
  exact jk_vret X d_EN_init_20 hr (Nat.le_refl _) (Nat.le_refl _) ⟨rfl, rfl, rfl⟩
set_option maxRecDepth 100000 in
set_option maxHeartbeats 4000000 in
theorem c_MB_init (l : Launch) (E : jE) (σ : Nat → jcell) (n : Nat) (a : Nat) (ha : a < n) (h : σ a = .inr (13, [.inl 0, .inr (.inr none), .inr (.inr none), .inl 0, .inl 0, .inl 0, .inl 0, .inl 0, .inl 0, .inr (.inr none), .inr (.inr none), .inr (.inr none), .inr (.inr none), .inr (.inr none), .inr (.inr none), .inr (.inr none), .inr (.inr none), .inr (.inr none), .inr (.inr none), .inr (.inr none), .inr (.inr none), .inr (.inr none), .inr (.inr none), .inl 0, .inl 0, .inl 0, .inl 0, .inl 0, .inr (.inr none), .inl 0, .inr (.inr none), .inl 0, .inl 0, .inr (.inr none), .inr (.inr none), .inr (.inr none), .inl 0])) : jMet l E jcl jtb lw_tbl y_MB_init { frames := 1, cells := 20, slots := 109261, locals := 20 } [.inr (.inr (some (.inl (a))))] σ n (fun r σ' n' => r = none ∧ n' = n + 20 ∧ σ' = jmk σ a n (.inr (13, [.inl 0, .inr (.inr (some (.inl n))), .inr (.inr (some (.inl (n + 1)))), .inl 0, .inl 0, .inl (-1), .inl 0, .inl 0, .inl 0, .inr (.inr (some (.inl (n + 2)))), .inr (.inr (some (.inl (n + 3)))), .inr (.inr (some (.inl (n + 4)))), .inr (.inr (some (.inl (n + 5)))), .inr (.inr (some (.inl (n + 6)))), .inr (.inr (some (.inl (n + 7)))), .inr (.inr (some (.inl (n + 8)))), .inr (.inr (some (.inl (n + 9)))), .inr (.inr (some (.inl (n + 10)))), .inr (.inr (some (.inl (n + 11)))), .inr (.inr (some (.inl (n + 12)))), .inr (.inr (some (.inl (n + 13)))), .inr (.inr (some (.inl (n + 14)))), .inr (.inr (some (.inl (n + 15)))), .inl 0, .inl 0, .inl 0, .inl 0, .inl 0, .inr (.inr (some (.inl (n + 16)))), .inl 0, .inr (.inr (some (.inl (n + 17)))), .inl 0, .inl 0, .inr (.inr (some (.inl (n + 18)))), .inr (.inr (some (.inl (n + 19)))), .inr (.inr none), .inl 0])) [.inl (.char, 65536, .inl fun _ => 0), .inl (.int, 64, .inl fun _ => 0), .inl (.int, 19520, .inl fun _ => 0), .inl (.int, 305, .inl fun _ => 0), .inl (.int, 305, .inl fun _ => 0), .inl (.int, 305, .inl fun _ => 0), .inl (.int, 305, .inl fun _ => 0), .inl (.int, 305, .inl fun _ => 0), .inl (.int, 11, .inl fun _ => 0), .inl (.int, 11, .inl fun _ => 0), .inl (.int, 11, .inl fun _ => 0), .inl (.int, 11, .inl fun _ => 0), .inl (.int, 11, .inl fun _ => 0), .inl (.int, 11, .inl fun _ => 0), .inl (.int, 20480, .inl fun _ => 0), .inl (.int, 10, .inl fun _ => 0), .inl (.int, 4, .inl fun _ => 0), .inl (.int, 2048, .inl fun _ => 0), .inl (.int, 4, .inl fun _ => 0), .inl (.int, 4, .inl fun _ => 0)]) := by
  refine jMet_of (hY := rfl) true (fun h => rfl) (by decide) (Nat.le_of_ble_eq_true rfl) [some (.inr (.inr (some (.inl (a)))))] rfl ?_
  intro M hl hR X hr
  have hak : ∀ k, (a < n + k) = True := fun k => eq_true (by omega)
  have hak0 : (a < n) = True := eq_true ha
  refine jmk_in h ?_
  refine jrun_ok jC X k_MB_init_0 0 _ _ _ o_MB_init_0 ?_
  simp only [k_MB_init_0, jrun, jstep, jldi, jldl, jlda, j1, j2, jl1, jl2, jli, ja1, jbr, jald, jast, jlald, jlast, jalen, jget, jput, jfit, jdup, jdupx, jdupx2, jdup2, jcat, jset1, jset2, jkill, List.getElem?_cons_zero, List.getElem?_cons_succ, List.set_cons_zero, List.set_cons_succ, List.length_cons, List.length_nil, Nat.reduceAdd, Nat.reduceLT, Int32.reduceToNatClampNeg, true_and, and_true, and_self, reduceCtorEq, not_false_eq_true, false_and, and_false, or_false, false_or, true_or, or_true, jmk_a, jmk_put, hak, hak0]
  refine jk_oi X hR (w1 := 2168) (w2 := 340) (w3 := 341) d_MB_init_1 (by decide +kernel) (by decide +kernel) (by decide +kernel) (Nat.le_of_ble_eq_true rfl) (Nat.le_of_ble_eq_true rfl) (pc' := 4) rfl ?_
  refine jrun_ok jC X k_MB_init_4 4 _ _ _ o_MB_init_4 ?_
  simp only [k_MB_init_4, jrun, jstep, jldi, jldl, jlda, j1, j2, jl1, jl2, jli, ja1, jbr, jald, jast, jlald, jlast, jalen, jget, jput, jfit, jdup, jdupx, jdupx2, jdup2, jcat, jset1, jset2, jkill, List.getElem?_cons_zero, List.getElem?_cons_succ, List.set_cons_zero, List.set_cons_succ, List.length_cons, List.length_nil, Nat.reduceAdd, Nat.reduceLT, Int32.reduceToNatClampNeg, true_and, and_true, and_self, reduceCtorEq, not_false_eq_true, false_and, and_false, or_false, false_or, true_or, or_true, jmk_a, jmk_put, hak, hak0]
  refine jc_na X hR (w1 := 2162) d_MB_init_7 rfl (by decide +kernel) (by decide) (by decide) 65536 (by decide) (by decide) rfl [.inl (.char, 65536, .inl fun _ => 0)] ha rfl rfl (n' := n + 1) rfl (c' := 1) rfl (s' := 65536) rfl ⟨Nat.le_of_ble_eq_true rfl, Nat.le_of_ble_eq_true rfl⟩ (pc' := 9) rfl ?_
  refine jrun_ok jC X k_MB_init_9 9 _ _ _ o_MB_init_9 ?_
  simp only [k_MB_init_9, jrun, jstep, jldi, jldl, jlda, j1, j2, jl1, jl2, jli, ja1, jbr, jald, jast, jlald, jlast, jalen, jget, jput, jfit, jdup, jdupx, jdupx2, jdup2, jcat, jset1, jset2, jkill, List.getElem?_cons_zero, List.getElem?_cons_succ, List.set_cons_zero, List.set_cons_succ, List.length_cons, List.length_nil, Nat.reduceAdd, Nat.reduceLT, Int32.reduceToNatClampNeg, true_and, and_true, and_self, reduceCtorEq, not_false_eq_true, false_and, and_false, or_false, false_or, true_or, or_true, jmk_a, jmk_put, hak, hak0]
  refine jc_na X hR (w1 := 387) d_MB_init_15 rfl (by decide +kernel) (by decide) (by decide) 64 (by decide) (by decide) rfl [.inl (.char, 65536, .inl fun _ => 0), .inl (.int, 64, .inl fun _ => 0)] ha rfl rfl (n' := n + 2) rfl (c' := 2) rfl (s' := 65600) rfl ⟨Nat.le_of_ble_eq_true rfl, Nat.le_of_ble_eq_true rfl⟩ (pc' := 17) rfl ?_
  refine jrun_ok jC X k_MB_init_17 17 _ _ _ o_MB_init_17 ?_
  simp only [k_MB_init_17, jrun, jstep, jldi, jldl, jlda, j1, j2, jl1, jl2, jli, ja1, jbr, jald, jast, jlald, jlast, jalen, jget, jput, jfit, jdup, jdupx, jdupx2, jdup2, jcat, jset1, jset2, jkill, List.getElem?_cons_zero, List.getElem?_cons_succ, List.set_cons_zero, List.set_cons_succ, List.length_cons, List.length_nil, Nat.reduceAdd, Nat.reduceLT, Int32.reduceToNatClampNeg, true_and, and_true, and_self, reduceCtorEq, not_false_eq_true, false_and, and_false, or_false, false_or, true_or, or_true, jmk_a, jmk_put, hak, hak0]
  refine jc_na X hR (w1 := 387) d_MB_init_29 rfl (by decide +kernel) (by decide) (by decide) 19520 (by decide) (by decide) rfl [.inl (.char, 65536, .inl fun _ => 0), .inl (.int, 64, .inl fun _ => 0), .inl (.int, 19520, .inl fun _ => 0)] ha rfl rfl (n' := n + 3) rfl (c' := 3) rfl (s' := 85120) rfl ⟨Nat.le_of_ble_eq_true rfl, Nat.le_of_ble_eq_true rfl⟩ (pc' := 31) rfl ?_
  refine jrun_ok jC X k_MB_init_31 31 _ _ _ o_MB_init_31 ?_
  simp only [k_MB_init_31, jrun, jstep, jldi, jldl, jlda, j1, j2, jl1, jl2, jli, ja1, jbr, jald, jast, jlald, jlast, jalen, jget, jput, jfit, jdup, jdupx, jdupx2, jdup2, jcat, jset1, jset2, jkill, List.getElem?_cons_zero, List.getElem?_cons_succ, List.set_cons_zero, List.set_cons_succ, List.length_cons, List.length_nil, Nat.reduceAdd, Nat.reduceLT, Int32.reduceToNatClampNeg, true_and, and_true, and_self, reduceCtorEq, not_false_eq_true, false_and, and_false, or_false, false_or, true_or, or_true, jmk_a, jmk_put, hak, hak0]
  refine jc_na X hR (w1 := 387) d_MB_init_38 rfl (by decide +kernel) (by decide) (by decide) 305 (by decide) (by decide) rfl [.inl (.char, 65536, .inl fun _ => 0), .inl (.int, 64, .inl fun _ => 0), .inl (.int, 19520, .inl fun _ => 0), .inl (.int, 305, .inl fun _ => 0)] ha rfl rfl (n' := n + 4) rfl (c' := 4) rfl (s' := 85425) rfl ⟨Nat.le_of_ble_eq_true rfl, Nat.le_of_ble_eq_true rfl⟩ (pc' := 40) rfl ?_
  refine jrun_ok jC X k_MB_init_40 40 _ _ _ o_MB_init_40 ?_
  simp only [k_MB_init_40, jrun, jstep, jldi, jldl, jlda, j1, j2, jl1, jl2, jli, ja1, jbr, jald, jast, jlald, jlast, jalen, jget, jput, jfit, jdup, jdupx, jdupx2, jdup2, jcat, jset1, jset2, jkill, List.getElem?_cons_zero, List.getElem?_cons_succ, List.set_cons_zero, List.set_cons_succ, List.length_cons, List.length_nil, Nat.reduceAdd, Nat.reduceLT, Int32.reduceToNatClampNeg, true_and, and_true, and_self, reduceCtorEq, not_false_eq_true, false_and, and_false, or_false, false_or, true_or, or_true, jmk_a, jmk_put, hak, hak0]
  refine jc_na X hR (w1 := 387) d_MB_init_47 rfl (by decide +kernel) (by decide) (by decide) 305 (by decide) (by decide) rfl [.inl (.char, 65536, .inl fun _ => 0), .inl (.int, 64, .inl fun _ => 0), .inl (.int, 19520, .inl fun _ => 0), .inl (.int, 305, .inl fun _ => 0), .inl (.int, 305, .inl fun _ => 0)] ha rfl rfl (n' := n + 5) rfl (c' := 5) rfl (s' := 85730) rfl ⟨Nat.le_of_ble_eq_true rfl, Nat.le_of_ble_eq_true rfl⟩ (pc' := 49) rfl ?_
  refine jrun_ok jC X k_MB_init_49 49 _ _ _ o_MB_init_49 ?_
  simp only [k_MB_init_49, jrun, jstep, jldi, jldl, jlda, j1, j2, jl1, jl2, jli, ja1, jbr, jald, jast, jlald, jlast, jalen, jget, jput, jfit, jdup, jdupx, jdupx2, jdup2, jcat, jset1, jset2, jkill, List.getElem?_cons_zero, List.getElem?_cons_succ, List.set_cons_zero, List.set_cons_succ, List.length_cons, List.length_nil, Nat.reduceAdd, Nat.reduceLT, Int32.reduceToNatClampNeg, true_and, and_true, and_self, reduceCtorEq, not_false_eq_true, false_and, and_false, or_false, false_or, true_or, or_true, jmk_a, jmk_put, hak, hak0]
  refine jc_na X hR (w1 := 387) d_MB_init_56 rfl (by decide +kernel) (by decide) (by decide) 305 (by decide) (by decide) rfl [.inl (.char, 65536, .inl fun _ => 0), .inl (.int, 64, .inl fun _ => 0), .inl (.int, 19520, .inl fun _ => 0), .inl (.int, 305, .inl fun _ => 0), .inl (.int, 305, .inl fun _ => 0), .inl (.int, 305, .inl fun _ => 0)] ha rfl rfl (n' := n + 6) rfl (c' := 6) rfl (s' := 86035) rfl ⟨Nat.le_of_ble_eq_true rfl, Nat.le_of_ble_eq_true rfl⟩ (pc' := 58) rfl ?_
  refine jrun_ok jC X k_MB_init_58 58 _ _ _ o_MB_init_58 ?_
  simp only [k_MB_init_58, jrun, jstep, jldi, jldl, jlda, j1, j2, jl1, jl2, jli, ja1, jbr, jald, jast, jlald, jlast, jalen, jget, jput, jfit, jdup, jdupx, jdupx2, jdup2, jcat, jset1, jset2, jkill, List.getElem?_cons_zero, List.getElem?_cons_succ, List.set_cons_zero, List.set_cons_succ, List.length_cons, List.length_nil, Nat.reduceAdd, Nat.reduceLT, Int32.reduceToNatClampNeg, true_and, and_true, and_self, reduceCtorEq, not_false_eq_true, false_and, and_false, or_false, false_or, true_or, or_true, jmk_a, jmk_put, hak, hak0]
  refine jc_na X hR (w1 := 387) d_MB_init_65 rfl (by decide +kernel) (by decide) (by decide) 305 (by decide) (by decide) rfl [.inl (.char, 65536, .inl fun _ => 0), .inl (.int, 64, .inl fun _ => 0), .inl (.int, 19520, .inl fun _ => 0), .inl (.int, 305, .inl fun _ => 0), .inl (.int, 305, .inl fun _ => 0), .inl (.int, 305, .inl fun _ => 0), .inl (.int, 305, .inl fun _ => 0)] ha rfl rfl (n' := n + 7) rfl (c' := 7) rfl (s' := 86340) rfl ⟨Nat.le_of_ble_eq_true rfl, Nat.le_of_ble_eq_true rfl⟩ (pc' := 67) rfl ?_
  refine jrun_ok jC X k_MB_init_67 67 _ _ _ o_MB_init_67 ?_
  simp only [k_MB_init_67, jrun, jstep, jldi, jldl, jlda, j1, j2, jl1, jl2, jli, ja1, jbr, jald, jast, jlald, jlast, jalen, jget, jput, jfit, jdup, jdupx, jdupx2, jdup2, jcat, jset1, jset2, jkill, List.getElem?_cons_zero, List.getElem?_cons_succ, List.set_cons_zero, List.set_cons_succ, List.length_cons, List.length_nil, Nat.reduceAdd, Nat.reduceLT, Int32.reduceToNatClampNeg, true_and, and_true, and_self, reduceCtorEq, not_false_eq_true, false_and, and_false, or_false, false_or, true_or, or_true, jmk_a, jmk_put, hak, hak0]
  refine jc_na X hR (w1 := 387) d_MB_init_74 rfl (by decide +kernel) (by decide) (by decide) 305 (by decide) (by decide) rfl [.inl (.char, 65536, .inl fun _ => 0), .inl (.int, 64, .inl fun _ => 0), .inl (.int, 19520, .inl fun _ => 0), .inl (.int, 305, .inl fun _ => 0), .inl (.int, 305, .inl fun _ => 0), .inl (.int, 305, .inl fun _ => 0), .inl (.int, 305, .inl fun _ => 0), .inl (.int, 305, .inl fun _ => 0)] ha rfl rfl (n' := n + 8) rfl (c' := 8) rfl (s' := 86645) rfl ⟨Nat.le_of_ble_eq_true rfl, Nat.le_of_ble_eq_true rfl⟩ (pc' := 76) rfl ?_
  refine jrun_ok jC X k_MB_init_76 76 _ _ _ o_MB_init_76 ?_
  simp only [k_MB_init_76, jrun, jstep, jldi, jldl, jlda, j1, j2, jl1, jl2, jli, ja1, jbr, jald, jast, jlald, jlast, jalen, jget, jput, jfit, jdup, jdupx, jdupx2, jdup2, jcat, jset1, jset2, jkill, List.getElem?_cons_zero, List.getElem?_cons_succ, List.set_cons_zero, List.set_cons_succ, List.length_cons, List.length_nil, Nat.reduceAdd, Nat.reduceLT, Int32.reduceToNatClampNeg, true_and, and_true, and_self, reduceCtorEq, not_false_eq_true, false_and, and_false, or_false, false_or, true_or, or_true, jmk_a, jmk_put, hak, hak0]
  refine jc_na X hR (w1 := 387) d_MB_init_82 rfl (by decide +kernel) (by decide) (by decide) 11 (by decide) (by decide) rfl [.inl (.char, 65536, .inl fun _ => 0), .inl (.int, 64, .inl fun _ => 0), .inl (.int, 19520, .inl fun _ => 0), .inl (.int, 305, .inl fun _ => 0), .inl (.int, 305, .inl fun _ => 0), .inl (.int, 305, .inl fun _ => 0), .inl (.int, 305, .inl fun _ => 0), .inl (.int, 305, .inl fun _ => 0), .inl (.int, 11, .inl fun _ => 0)] ha rfl rfl (n' := n + 9) rfl (c' := 9) rfl (s' := 86656) rfl ⟨Nat.le_of_ble_eq_true rfl, Nat.le_of_ble_eq_true rfl⟩ (pc' := 84) rfl ?_
  refine jrun_ok jC X k_MB_init_84 84 _ _ _ o_MB_init_84 ?_
  simp only [k_MB_init_84, jrun, jstep, jldi, jldl, jlda, j1, j2, jl1, jl2, jli, ja1, jbr, jald, jast, jlald, jlast, jalen, jget, jput, jfit, jdup, jdupx, jdupx2, jdup2, jcat, jset1, jset2, jkill, List.getElem?_cons_zero, List.getElem?_cons_succ, List.set_cons_zero, List.set_cons_succ, List.length_cons, List.length_nil, Nat.reduceAdd, Nat.reduceLT, Int32.reduceToNatClampNeg, true_and, and_true, and_self, reduceCtorEq, not_false_eq_true, false_and, and_false, or_false, false_or, true_or, or_true, jmk_a, jmk_put, hak, hak0]
  refine jc_na X hR (w1 := 387) d_MB_init_90 rfl (by decide +kernel) (by decide) (by decide) 11 (by decide) (by decide) rfl [.inl (.char, 65536, .inl fun _ => 0), .inl (.int, 64, .inl fun _ => 0), .inl (.int, 19520, .inl fun _ => 0), .inl (.int, 305, .inl fun _ => 0), .inl (.int, 305, .inl fun _ => 0), .inl (.int, 305, .inl fun _ => 0), .inl (.int, 305, .inl fun _ => 0), .inl (.int, 305, .inl fun _ => 0), .inl (.int, 11, .inl fun _ => 0), .inl (.int, 11, .inl fun _ => 0)] ha rfl rfl (n' := n + 10) rfl (c' := 10) rfl (s' := 86667) rfl ⟨Nat.le_of_ble_eq_true rfl, Nat.le_of_ble_eq_true rfl⟩ (pc' := 92) rfl ?_
  refine jrun_ok jC X k_MB_init_92 92 _ _ _ o_MB_init_92 ?_
  simp only [k_MB_init_92, jrun, jstep, jldi, jldl, jlda, j1, j2, jl1, jl2, jli, ja1, jbr, jald, jast, jlald, jlast, jalen, jget, jput, jfit, jdup, jdupx, jdupx2, jdup2, jcat, jset1, jset2, jkill, List.getElem?_cons_zero, List.getElem?_cons_succ, List.set_cons_zero, List.set_cons_succ, List.length_cons, List.length_nil, Nat.reduceAdd, Nat.reduceLT, Int32.reduceToNatClampNeg, true_and, and_true, and_self, reduceCtorEq, not_false_eq_true, false_and, and_false, or_false, false_or, true_or, or_true, jmk_a, jmk_put, hak, hak0]
  refine jc_na X hR (w1 := 387) d_MB_init_98 rfl (by decide +kernel) (by decide) (by decide) 11 (by decide) (by decide) rfl [.inl (.char, 65536, .inl fun _ => 0), .inl (.int, 64, .inl fun _ => 0), .inl (.int, 19520, .inl fun _ => 0), .inl (.int, 305, .inl fun _ => 0), .inl (.int, 305, .inl fun _ => 0), .inl (.int, 305, .inl fun _ => 0), .inl (.int, 305, .inl fun _ => 0), .inl (.int, 305, .inl fun _ => 0), .inl (.int, 11, .inl fun _ => 0), .inl (.int, 11, .inl fun _ => 0), .inl (.int, 11, .inl fun _ => 0)] ha rfl rfl (n' := n + 11) rfl (c' := 11) rfl (s' := 86678) rfl ⟨Nat.le_of_ble_eq_true rfl, Nat.le_of_ble_eq_true rfl⟩ (pc' := 100) rfl ?_
  refine jrun_ok jC X k_MB_init_100 100 _ _ _ o_MB_init_100 ?_
  simp only [k_MB_init_100, jrun, jstep, jldi, jldl, jlda, j1, j2, jl1, jl2, jli, ja1, jbr, jald, jast, jlald, jlast, jalen, jget, jput, jfit, jdup, jdupx, jdupx2, jdup2, jcat, jset1, jset2, jkill, List.getElem?_cons_zero, List.getElem?_cons_succ, List.set_cons_zero, List.set_cons_succ, List.length_cons, List.length_nil, Nat.reduceAdd, Nat.reduceLT, Int32.reduceToNatClampNeg, true_and, and_true, and_self, reduceCtorEq, not_false_eq_true, false_and, and_false, or_false, false_or, true_or, or_true, jmk_a, jmk_put, hak, hak0]
  refine jc_na X hR (w1 := 387) d_MB_init_106 rfl (by decide +kernel) (by decide) (by decide) 11 (by decide) (by decide) rfl [.inl (.char, 65536, .inl fun _ => 0), .inl (.int, 64, .inl fun _ => 0), .inl (.int, 19520, .inl fun _ => 0), .inl (.int, 305, .inl fun _ => 0), .inl (.int, 305, .inl fun _ => 0), .inl (.int, 305, .inl fun _ => 0), .inl (.int, 305, .inl fun _ => 0), .inl (.int, 305, .inl fun _ => 0), .inl (.int, 11, .inl fun _ => 0), .inl (.int, 11, .inl fun _ => 0), .inl (.int, 11, .inl fun _ => 0), .inl (.int, 11, .inl fun _ => 0)] ha rfl rfl (n' := n + 12) rfl (c' := 12) rfl (s' := 86689) rfl ⟨Nat.le_of_ble_eq_true rfl, Nat.le_of_ble_eq_true rfl⟩ (pc' := 108) rfl ?_
  refine jrun_ok jC X k_MB_init_108 108 _ _ _ o_MB_init_108 ?_
  simp only [k_MB_init_108, jrun, jstep, jldi, jldl, jlda, j1, j2, jl1, jl2, jli, ja1, jbr, jald, jast, jlald, jlast, jalen, jget, jput, jfit, jdup, jdupx, jdupx2, jdup2, jcat, jset1, jset2, jkill, List.getElem?_cons_zero, List.getElem?_cons_succ, List.set_cons_zero, List.set_cons_succ, List.length_cons, List.length_nil, Nat.reduceAdd, Nat.reduceLT, Int32.reduceToNatClampNeg, true_and, and_true, and_self, reduceCtorEq, not_false_eq_true, false_and, and_false, or_false, false_or, true_or, or_true, jmk_a, jmk_put, hak, hak0]
  refine jc_na X hR (w1 := 387) d_MB_init_114 rfl (by decide +kernel) (by decide) (by decide) 11 (by decide) (by decide) rfl [.inl (.char, 65536, .inl fun _ => 0), .inl (.int, 64, .inl fun _ => 0), .inl (.int, 19520, .inl fun _ => 0), .inl (.int, 305, .inl fun _ => 0), .inl (.int, 305, .inl fun _ => 0), .inl (.int, 305, .inl fun _ => 0), .inl (.int, 305, .inl fun _ => 0), .inl (.int, 305, .inl fun _ => 0), .inl (.int, 11, .inl fun _ => 0), .inl (.int, 11, .inl fun _ => 0), .inl (.int, 11, .inl fun _ => 0), .inl (.int, 11, .inl fun _ => 0), .inl (.int, 11, .inl fun _ => 0)] ha rfl rfl (n' := n + 13) rfl (c' := 13) rfl (s' := 86700) rfl ⟨Nat.le_of_ble_eq_true rfl, Nat.le_of_ble_eq_true rfl⟩ (pc' := 116) rfl ?_
  refine jrun_ok jC X k_MB_init_116 116 _ _ _ o_MB_init_116 ?_
  simp only [k_MB_init_116, jrun, jstep, jldi, jldl, jlda, j1, j2, jl1, jl2, jli, ja1, jbr, jald, jast, jlald, jlast, jalen, jget, jput, jfit, jdup, jdupx, jdupx2, jdup2, jcat, jset1, jset2, jkill, List.getElem?_cons_zero, List.getElem?_cons_succ, List.set_cons_zero, List.set_cons_succ, List.length_cons, List.length_nil, Nat.reduceAdd, Nat.reduceLT, Int32.reduceToNatClampNeg, true_and, and_true, and_self, reduceCtorEq, not_false_eq_true, false_and, and_false, or_false, false_or, true_or, or_true, jmk_a, jmk_put, hak, hak0]
  refine jc_na X hR (w1 := 387) d_MB_init_122 rfl (by decide +kernel) (by decide) (by decide) 11 (by decide) (by decide) rfl [.inl (.char, 65536, .inl fun _ => 0), .inl (.int, 64, .inl fun _ => 0), .inl (.int, 19520, .inl fun _ => 0), .inl (.int, 305, .inl fun _ => 0), .inl (.int, 305, .inl fun _ => 0), .inl (.int, 305, .inl fun _ => 0), .inl (.int, 305, .inl fun _ => 0), .inl (.int, 305, .inl fun _ => 0), .inl (.int, 11, .inl fun _ => 0), .inl (.int, 11, .inl fun _ => 0), .inl (.int, 11, .inl fun _ => 0), .inl (.int, 11, .inl fun _ => 0), .inl (.int, 11, .inl fun _ => 0), .inl (.int, 11, .inl fun _ => 0)] ha rfl rfl (n' := n + 14) rfl (c' := 14) rfl (s' := 86711) rfl ⟨Nat.le_of_ble_eq_true rfl, Nat.le_of_ble_eq_true rfl⟩ (pc' := 124) rfl ?_
  refine jrun_ok jC X k_MB_init_124 124 _ _ _ o_MB_init_124 ?_
  simp only [k_MB_init_124, jrun, jstep, jldi, jldl, jlda, j1, j2, jl1, jl2, jli, ja1, jbr, jald, jast, jlald, jlast, jalen, jget, jput, jfit, jdup, jdupx, jdupx2, jdup2, jcat, jset1, jset2, jkill, List.getElem?_cons_zero, List.getElem?_cons_succ, List.set_cons_zero, List.set_cons_succ, List.length_cons, List.length_nil, Nat.reduceAdd, Nat.reduceLT, Int32.reduceToNatClampNeg, true_and, and_true, and_self, reduceCtorEq, not_false_eq_true, false_and, and_false, or_false, false_or, true_or, or_true, jmk_a, jmk_put, hak, hak0]
  refine jc_na X hR (w1 := 387) d_MB_init_131 rfl (by decide +kernel) (by decide) (by decide) 20480 (by decide) (by decide) rfl [.inl (.char, 65536, .inl fun _ => 0), .inl (.int, 64, .inl fun _ => 0), .inl (.int, 19520, .inl fun _ => 0), .inl (.int, 305, .inl fun _ => 0), .inl (.int, 305, .inl fun _ => 0), .inl (.int, 305, .inl fun _ => 0), .inl (.int, 305, .inl fun _ => 0), .inl (.int, 305, .inl fun _ => 0), .inl (.int, 11, .inl fun _ => 0), .inl (.int, 11, .inl fun _ => 0), .inl (.int, 11, .inl fun _ => 0), .inl (.int, 11, .inl fun _ => 0), .inl (.int, 11, .inl fun _ => 0), .inl (.int, 11, .inl fun _ => 0), .inl (.int, 20480, .inl fun _ => 0)] ha rfl rfl (n' := n + 15) rfl (c' := 15) rfl (s' := 107191) rfl ⟨Nat.le_of_ble_eq_true rfl, Nat.le_of_ble_eq_true rfl⟩ (pc' := 133) rfl ?_
  refine jrun_ok jC X k_MB_init_133 133 _ _ _ o_MB_init_133 ?_
  simp only [k_MB_init_133, jrun, jstep, jldi, jldl, jlda, j1, j2, jl1, jl2, jli, ja1, jbr, jald, jast, jlald, jlast, jalen, jget, jput, jfit, jdup, jdupx, jdupx2, jdup2, jcat, jset1, jset2, jkill, List.getElem?_cons_zero, List.getElem?_cons_succ, List.set_cons_zero, List.set_cons_succ, List.length_cons, List.length_nil, Nat.reduceAdd, Nat.reduceLT, Int32.reduceToNatClampNeg, true_and, and_true, and_self, reduceCtorEq, not_false_eq_true, false_and, and_false, or_false, false_or, true_or, or_true, jmk_a, jmk_put, hak, hak0]
  refine jc_na X hR (w1 := 387) d_MB_init_139 rfl (by decide +kernel) (by decide) (by decide) 10 (by decide) (by decide) rfl [.inl (.char, 65536, .inl fun _ => 0), .inl (.int, 64, .inl fun _ => 0), .inl (.int, 19520, .inl fun _ => 0), .inl (.int, 305, .inl fun _ => 0), .inl (.int, 305, .inl fun _ => 0), .inl (.int, 305, .inl fun _ => 0), .inl (.int, 305, .inl fun _ => 0), .inl (.int, 305, .inl fun _ => 0), .inl (.int, 11, .inl fun _ => 0), .inl (.int, 11, .inl fun _ => 0), .inl (.int, 11, .inl fun _ => 0), .inl (.int, 11, .inl fun _ => 0), .inl (.int, 11, .inl fun _ => 0), .inl (.int, 11, .inl fun _ => 0), .inl (.int, 20480, .inl fun _ => 0), .inl (.int, 10, .inl fun _ => 0)] ha rfl rfl (n' := n + 16) rfl (c' := 16) rfl (s' := 107201) rfl ⟨Nat.le_of_ble_eq_true rfl, Nat.le_of_ble_eq_true rfl⟩ (pc' := 141) rfl ?_
  refine jrun_ok jC X k_MB_init_141 141 _ _ _ o_MB_init_141 ?_
  simp only [k_MB_init_141, jrun, jstep, jldi, jldl, jlda, j1, j2, jl1, jl2, jli, ja1, jbr, jald, jast, jlald, jlast, jalen, jget, jput, jfit, jdup, jdupx, jdupx2, jdup2, jcat, jset1, jset2, jkill, List.getElem?_cons_zero, List.getElem?_cons_succ, List.set_cons_zero, List.set_cons_succ, List.length_cons, List.length_nil, Nat.reduceAdd, Nat.reduceLT, Int32.reduceToNatClampNeg, true_and, and_true, and_self, reduceCtorEq, not_false_eq_true, false_and, and_false, or_false, false_or, true_or, or_true, jmk_a, jmk_put, hak, hak0]
  refine jc_na X hR (w1 := 387) d_MB_init_146 rfl (by decide +kernel) (by decide) (by decide) 4 (by decide) (by decide) rfl [.inl (.char, 65536, .inl fun _ => 0), .inl (.int, 64, .inl fun _ => 0), .inl (.int, 19520, .inl fun _ => 0), .inl (.int, 305, .inl fun _ => 0), .inl (.int, 305, .inl fun _ => 0), .inl (.int, 305, .inl fun _ => 0), .inl (.int, 305, .inl fun _ => 0), .inl (.int, 305, .inl fun _ => 0), .inl (.int, 11, .inl fun _ => 0), .inl (.int, 11, .inl fun _ => 0), .inl (.int, 11, .inl fun _ => 0), .inl (.int, 11, .inl fun _ => 0), .inl (.int, 11, .inl fun _ => 0), .inl (.int, 11, .inl fun _ => 0), .inl (.int, 20480, .inl fun _ => 0), .inl (.int, 10, .inl fun _ => 0), .inl (.int, 4, .inl fun _ => 0)] ha rfl rfl (n' := n + 17) rfl (c' := 17) rfl (s' := 107205) rfl ⟨Nat.le_of_ble_eq_true rfl, Nat.le_of_ble_eq_true rfl⟩ (pc' := 148) rfl ?_
  refine jrun_ok jC X k_MB_init_148 148 _ _ _ o_MB_init_148 ?_
  simp only [k_MB_init_148, jrun, jstep, jldi, jldl, jlda, j1, j2, jl1, jl2, jli, ja1, jbr, jald, jast, jlald, jlast, jalen, jget, jput, jfit, jdup, jdupx, jdupx2, jdup2, jcat, jset1, jset2, jkill, List.getElem?_cons_zero, List.getElem?_cons_succ, List.set_cons_zero, List.set_cons_succ, List.length_cons, List.length_nil, Nat.reduceAdd, Nat.reduceLT, Int32.reduceToNatClampNeg, true_and, and_true, and_self, reduceCtorEq, not_false_eq_true, false_and, and_false, or_false, false_or, true_or, or_true, jmk_a, jmk_put, hak, hak0]
  refine jc_na X hR (w1 := 387) d_MB_init_155 rfl (by decide +kernel) (by decide) (by decide) 2048 (by decide) (by decide) rfl [.inl (.char, 65536, .inl fun _ => 0), .inl (.int, 64, .inl fun _ => 0), .inl (.int, 19520, .inl fun _ => 0), .inl (.int, 305, .inl fun _ => 0), .inl (.int, 305, .inl fun _ => 0), .inl (.int, 305, .inl fun _ => 0), .inl (.int, 305, .inl fun _ => 0), .inl (.int, 305, .inl fun _ => 0), .inl (.int, 11, .inl fun _ => 0), .inl (.int, 11, .inl fun _ => 0), .inl (.int, 11, .inl fun _ => 0), .inl (.int, 11, .inl fun _ => 0), .inl (.int, 11, .inl fun _ => 0), .inl (.int, 11, .inl fun _ => 0), .inl (.int, 20480, .inl fun _ => 0), .inl (.int, 10, .inl fun _ => 0), .inl (.int, 4, .inl fun _ => 0), .inl (.int, 2048, .inl fun _ => 0)] ha rfl rfl (n' := n + 18) rfl (c' := 18) rfl (s' := 109253) rfl ⟨Nat.le_of_ble_eq_true rfl, Nat.le_of_ble_eq_true rfl⟩ (pc' := 157) rfl ?_
  refine jrun_ok jC X k_MB_init_157 157 _ _ _ o_MB_init_157 ?_
  simp only [k_MB_init_157, jrun, jstep, jldi, jldl, jlda, j1, j2, jl1, jl2, jli, ja1, jbr, jald, jast, jlald, jlast, jalen, jget, jput, jfit, jdup, jdupx, jdupx2, jdup2, jcat, jset1, jset2, jkill, List.getElem?_cons_zero, List.getElem?_cons_succ, List.set_cons_zero, List.set_cons_succ, List.length_cons, List.length_nil, Nat.reduceAdd, Nat.reduceLT, Int32.reduceToNatClampNeg, true_and, and_true, and_self, reduceCtorEq, not_false_eq_true, false_and, and_false, or_false, false_or, true_or, or_true, jmk_a, jmk_put, hak, hak0]
  refine jc_na X hR (w1 := 387) d_MB_init_162 rfl (by decide +kernel) (by decide) (by decide) 4 (by decide) (by decide) rfl [.inl (.char, 65536, .inl fun _ => 0), .inl (.int, 64, .inl fun _ => 0), .inl (.int, 19520, .inl fun _ => 0), .inl (.int, 305, .inl fun _ => 0), .inl (.int, 305, .inl fun _ => 0), .inl (.int, 305, .inl fun _ => 0), .inl (.int, 305, .inl fun _ => 0), .inl (.int, 305, .inl fun _ => 0), .inl (.int, 11, .inl fun _ => 0), .inl (.int, 11, .inl fun _ => 0), .inl (.int, 11, .inl fun _ => 0), .inl (.int, 11, .inl fun _ => 0), .inl (.int, 11, .inl fun _ => 0), .inl (.int, 11, .inl fun _ => 0), .inl (.int, 20480, .inl fun _ => 0), .inl (.int, 10, .inl fun _ => 0), .inl (.int, 4, .inl fun _ => 0), .inl (.int, 2048, .inl fun _ => 0), .inl (.int, 4, .inl fun _ => 0)] ha rfl rfl (n' := n + 19) rfl (c' := 19) rfl (s' := 109257) rfl ⟨Nat.le_of_ble_eq_true rfl, Nat.le_of_ble_eq_true rfl⟩ (pc' := 164) rfl ?_
  refine jrun_ok jC X k_MB_init_164 164 _ _ _ o_MB_init_164 ?_
  simp only [k_MB_init_164, jrun, jstep, jldi, jldl, jlda, j1, j2, jl1, jl2, jli, ja1, jbr, jald, jast, jlald, jlast, jalen, jget, jput, jfit, jdup, jdupx, jdupx2, jdup2, jcat, jset1, jset2, jkill, List.getElem?_cons_zero, List.getElem?_cons_succ, List.set_cons_zero, List.set_cons_succ, List.length_cons, List.length_nil, Nat.reduceAdd, Nat.reduceLT, Int32.reduceToNatClampNeg, true_and, and_true, and_self, reduceCtorEq, not_false_eq_true, false_and, and_false, or_false, false_or, true_or, or_true, jmk_a, jmk_put, hak, hak0]
  refine jc_na X hR (w1 := 387) d_MB_init_169 rfl (by decide +kernel) (by decide) (by decide) 4 (by decide) (by decide) rfl [.inl (.char, 65536, .inl fun _ => 0), .inl (.int, 64, .inl fun _ => 0), .inl (.int, 19520, .inl fun _ => 0), .inl (.int, 305, .inl fun _ => 0), .inl (.int, 305, .inl fun _ => 0), .inl (.int, 305, .inl fun _ => 0), .inl (.int, 305, .inl fun _ => 0), .inl (.int, 305, .inl fun _ => 0), .inl (.int, 11, .inl fun _ => 0), .inl (.int, 11, .inl fun _ => 0), .inl (.int, 11, .inl fun _ => 0), .inl (.int, 11, .inl fun _ => 0), .inl (.int, 11, .inl fun _ => 0), .inl (.int, 11, .inl fun _ => 0), .inl (.int, 20480, .inl fun _ => 0), .inl (.int, 10, .inl fun _ => 0), .inl (.int, 4, .inl fun _ => 0), .inl (.int, 2048, .inl fun _ => 0), .inl (.int, 4, .inl fun _ => 0), .inl (.int, 4, .inl fun _ => 0)] ha rfl rfl (n' := n + 20) rfl (c' := 20) rfl (s' := 109261) rfl ⟨Nat.le_of_ble_eq_true rfl, Nat.le_of_ble_eq_true rfl⟩ (pc' := 171) rfl ?_
  refine jrun_ok jC X k_MB_init_171 171 _ _ _ o_MB_init_171 ?_
  simp only [k_MB_init_171, jrun, jstep, jldi, jldl, jlda, j1, j2, jl1, jl2, jli, ja1, jbr, jald, jast, jlald, jlast, jalen, jget, jput, jfit, jdup, jdupx, jdupx2, jdup2, jcat, jset1, jset2, jkill, List.getElem?_cons_zero, List.getElem?_cons_succ, List.set_cons_zero, List.set_cons_succ, List.length_cons, List.length_nil, Nat.reduceAdd, Nat.reduceLT, Int32.reduceToNatClampNeg, true_and, and_true, and_self, reduceCtorEq, not_false_eq_true, false_and, and_false, or_false, false_or, true_or, or_true, jmk_a, jmk_put, hak, hak0]
  exact jk_vret X d_MB_init_174 hr (Nat.le_refl _) (Nat.le_refl _) ⟨rfl, rfl, rfl⟩
end
section
/-! the Texts as a picture that moves: five scalars and the count of moves, the men, what is kept, the list -/
abbrev txp : Type := Nat × Nat × Nat × Nat × Nat
theorem vp_nar_int32 (x : Int32) : vp_nar .int x = x := rfl
section TXS
variable {σ : Nat → jcell} {P : txp} {g : List jv} {n : Nat} {sd ri pa cl nu mv : Int32} {men km kr li : Nat → Int32}
end TXS
end
section
/-! the whole of the Texts as a picture: its numbers F by field, its rows A in the order in which they were made -/
noncomputable def ta_ty (j : Nat) : FieldType := if j ∈ [0, 1, 10, 15, 17, 24] then .char else .int
noncomputable def ta_len (j : Nat) : Nat := [65536, 80000, 2, 602, 602, 602, 602, 602, 2408, 602, 120400, 128, 10, 2, 16, 192, 16, 1536, 2, 64, 64, 5, 2048, 301, 16].getD j 0
noncomputable def ta_fl (n : Nat) (F : Nat → Int32) : List jv := [.inl (F 0), .inl (F 1), .inr (.inr (some (.inl (n)))), .inl (F 3), .inr (.inr (some (.inl (n + 1)))), .inl (F 5), .inl (F 6), .inr (.inr (some (.inl (n + 2)))), .inr (.inr (some (.inl (n + 3)))), .inr (.inr (some (.inl (n + 4)))), .inr (.inr (some (.inl (n + 5)))), .inr (.inr (some (.inl (n + 6)))), .inr (.inr (some (.inl (n + 7)))), .inr (.inr (some (.inl (n + 8)))), .inr (.inr (some (.inl (n + 9)))), .inr (.inr (some (.inl (n + 10)))), .inr (.inr (some (.inl (n + 11)))), .inr (.inr (some (.inl (n + 12)))), .inr (.inr (some (.inl (n + 13)))), .inr (.inr (some (.inl (n + 14)))), .inr (.inr (some (.inl (n + 15)))), .inr (.inr (some (.inl (n + 16)))), .inr (.inr (some (.inl (n + 17)))), .inr (.inr (some (.inl (n + 18)))), .inr (.inr (some (.inl (n + 19)))), .inl (F 25), .inl (F 26), .inl (F 27), .inl (F 28), .inl (F 29), .inr (.inr (some (.inl (n + 20)))), .inr (.inr (some (.inl (n + 21)))), .inr (.inr (some (.inl (n + 22)))), .inl (F 33), .inr (.inr (some (.inl (n + 23)))), .inr (.inr (some (.inl (n + 24)))), .inl (F 36), .inl (F 37), .inl (F 38), .inl (F 39)]
noncomputable def txA (σ : Nat → jcell) (a n : Nat) (F : Nat → Int32) (A : Nat → Nat → Int32) : Nat → jcell := fun p => if p = a then .inr (12, ta_fl n F) else if n ≤ p ∧ p < n + 25 then .inl (ta_ty (p - n), ta_len (p - n), .inl (A (p - n))) else σ p
section TXA
variable {σ : Nat → jcell} {a n : Nat} {F : Nat → Int32} {A : Nat → Nat → Int32}
end TXA
end
section
theorem tx_jmk {σ : Nat → jcell} {a n : Nat} {F : Nat → Int32} {A : Nat → Nat → Int32} (ha : a < n) {fs : List jv} {cs : List jcell} (hf : fs = ta_fl n F) (hc : cs = (List.range 25).map fun j => (.inl (ta_ty j, ta_len j, .inl (A j)) : jcell)) (k : Nat) (hk : k < n + 25) : jmk σ a n (.inr (12, fs)) cs k = txA σ a n F A k := by
  subst hf; subst hc
  unfold jmk txA
  by_cases h1 : k = a
  · rw [if_pos h1, if_pos h1]
  · rw [if_neg h1, if_neg h1]
    by_cases h2 : k < n
    · rw [if_pos h2, if_neg (by omega)]
    · rw [if_neg h2, if_pos ⟨by omega, hk⟩]
      simp only [List.getD, List.getElem?_map]
      rw [List.getElem?_range (by omega)]
      rfl
end
section
/-! switches by a table; a picture put twice -/
theorem jup_id {σ : Nat → jcell} {p : Nat} {c : jcell} (h : σ p = c) : jup σ p c = σ := by
  funext j
  by_cases hj : j = p
  · subst hj; rw [jup_s, h]
  · rw [jup_n hj]
theorem jup_jup {σ : Nat → jcell} {p : Nat} {c d : jcell} : jup (jup σ p c) p d = jup σ p d := by
  funext j
  by_cases hj : j = p
  · subst hj; rw [jup_s, jup_s]
  · rw [jup_n hj, jup_n hj, jup_n hj]
section JSW
variable {E : jE} {own : String} {Ts : List Jvm.Cond} {cl : List vw_C} {tb : jTb} {nL : Nat} {ini : Bool} {cc : ByteArray} {M : jM} {Q : State → Prop} {n cells slots : Nat}
theorem jk_tab (X : jX E own Ts cl tb nL ini cc M) {pc len td : Nat} {dflt lo hi : Int} {offs : Array Int} (hd : decode cc pc = .ok (.tableswitch dflt lo hi offs, len)) (tgs : List Nat) (hsz : hi - lo + 1 = (tgs.length : Int)) (hts : offs.toList.map (fun o => (pc : Int) + o) = tgs.map (fun t : Nat => (t : Int))) (htd : (pc : Int) + dflt = (td : Int)) {lv : List (Option jv)} {r : List jv} {σ : Nat → jcell} {x : Int32}
    (ko : (x.toInt < lo ∨ hi < x.toInt) → jJ E cl nL M Q n cells slots td lv r σ) (ki : ∀ (i t : Nat), tgs[i]? = some t → x.toInt = lo + i → jJ E cl nL M Q n cells slots t lv r σ) : jJ E cl nL M Q n cells slots pc lv (.inl x :: r) σ := by
  obtain ⟨hx, hb, -⟩ := X
  intro H locs ls hW hS hL
  by_cases h : x.toInt < lo ∨ hi < x.toInt
  · exact lv_tableOut hx hb hd h htd (ko h H locs ls hW hS hL)
  · have h1 : ¬ x.toInt < lo := fun q => h (Or.inl q)
    have h2 : ¬ hi < x.toInt := fun q => h (Or.inr q)
    have hi' : (x.toInt - lo).toNat < tgs.length := by omega
    obtain ⟨t, ht⟩ : ∃ t, tgs[(x.toInt - lo).toNat]? = some t := ⟨_, List.getElem?_eq_getElem hi'⟩
    have hm : (offs.toList.map (fun o => (pc : Int) + o))[(x.toInt - lo).toNat]? = some (t : Int) := by
      rw [hts, List.getElem?_map, ht]; rfl
    rw [List.getElem?_map] at hm
    obtain ⟨off, ho, he⟩ := Option.map_eq_some_iff.mp hm
    have ho2 : offs[(x.toInt - lo).toNat]? = some off := by
      rw [← Array.getElem?_toList]; exact ho
    exact lv_tableIn hx hb hd h1 h2 ho2 he (ki _ t ht (by omega) H locs ls hW hS hL)
end JSW
end
section
set_option maxRecDepth 100000 in
set_option maxHeartbeats 4000000 in
theorem c_AR_rangeCheck (l : Launch) (E : jE) (σ : Nat → jcell) (n : Nat) (x y z : Int32) (h1 : y ≤ z) (h2 : 0 ≤ y) (h3 : z ≤ x) : jMet l E jcl jtb lw_tbl y_AR_rangeCheck { frames := 0, cells := 0, slots := 0, locals := 0 } [.inl x, .inl y, .inl z] σ n (fun r σ' n' => r = none ∧ n' = n ∧ σ' = σ) := by
  refine jMet_of (hY := rfl) false (fun h => by cases h) (by decide) (Nat.le_of_ble_eq_true rfl) [some (.inl x), some (.inl y), some (.inl z)] rfl ?_
  intro M hl hR X hr
  refine jrun_ok jC X k_AR_rangeCheck_0 0 _ _ _ o_AR_rangeCheck_0 ?_
  simp only [k_AR_rangeCheck_0, jrun, jstep, jldi, jldl, jlda, j1, j2, jl1, jl2, jli, ja1, jbr, jald, jast, jlald, jlast, jalen, jget, jput, jfit, jdup, jdupx, jdupx2, jdup2, jcat, jset1, jset2, jkill, List.getElem?_cons_zero, List.getElem?_cons_succ, List.set_cons_zero, List.set_cons_succ, List.length_cons, List.length_nil, Nat.reduceAdd, Nat.reduceLT, Int32.reduceToNatClampNeg, true_and, and_true, and_self, reduceCtorEq, not_false_eq_true, false_and, and_false, or_false, false_or, true_or, or_true]
  refine ⟨fun _ => ?_, fun h => absurd h1 h⟩
  refine jrun_ok jC X k_AR_rangeCheck_46 46 _ _ _ o_AR_rangeCheck_46 ?_
  simp only [k_AR_rangeCheck_46, jrun, jstep, jldi, jldl, jlda, j1, j2, jl1, jl2, jli, ja1, jbr, jald, jast, jlald, jlast, jalen, jget, jput, jfit, jdup, jdupx, jdupx2, jdup2, jcat, jset1, jset2, jkill, List.getElem?_cons_zero, List.getElem?_cons_succ, List.set_cons_zero, List.set_cons_succ, List.length_cons, List.length_nil, Nat.reduceAdd, Nat.reduceLT, Int32.reduceToNatClampNeg, true_and, and_true, and_self, reduceCtorEq, not_false_eq_true, false_and, and_false, or_false, false_or, true_or, or_true]
  refine ⟨fun _ => ?_, fun h => absurd h2 h⟩
  refine jrun_ok jC X k_AR_rangeCheck_59 59 _ _ _ o_AR_rangeCheck_59 ?_
  simp only [k_AR_rangeCheck_59, jrun, jstep, jldi, jldl, jlda, j1, j2, jl1, jl2, jli, ja1, jbr, jald, jast, jlald, jlast, jalen, jget, jput, jfit, jdup, jdupx, jdupx2, jdup2, jcat, jset1, jset2, jkill, List.getElem?_cons_zero, List.getElem?_cons_succ, List.set_cons_zero, List.set_cons_succ, List.length_cons, List.length_nil, Nat.reduceAdd, Nat.reduceLT, Int32.reduceToNatClampNeg, true_and, and_true, and_self, reduceCtorEq, not_false_eq_true, false_and, and_false, or_false, false_or, true_or, or_true]
  refine ⟨fun _ => ?_, fun h => absurd h3 h⟩
  exact jk_vret X d_AR_rangeCheck_73 hr (Nat.le_refl _) (Nat.le_refl _) ⟨rfl, rfl, rfl⟩
theorem upd_s {f : Nat → Int32} {i : Nat} {v : Int32} : upd f i v i = v := by simp [upd]
theorem upd_o {f : Nat → Int32} {i j : Nat} {v : Int32} (h : j ≠ i) : upd f i v j = f j := by simp [upd, h]
set_option maxRecDepth 100000 in
set_option maxHeartbeats 4000000 in
theorem c_AR_fill (l : Launch) (E : jE) (σ : Nat → jcell) (n : Nat) (p : Nat) (hp : p < n) (len : Nat) (hl2 : len < 2 ^ 31) (f : Nat → Int32) (h : σ p = .inl (.int, len, .inl f)) (a b : Nat) (hab : a ≤ b) (hb : b ≤ len) (v : Int32) : jMet l E jcl jtb lw_tbl y_AR_fill { frames := 1, cells := 0, slots := 0, locals := 40 } [.inr (.inr (some (.inl (p)))), .inl (nI a), .inl (nI b), .inl v] σ n (fun r σ' n' => ∃ g : Nat → Int32, r = none ∧ n' = n ∧ σ' = jup σ p (.inl (.int, len, .inl g)) ∧ ∀ j, g j = if a ≤ j ∧ j < b then v else f j) := by
  refine jMet_of (hY := rfl) false (fun h => by cases h) (by decide) (Nat.le_of_ble_eq_true rfl) [some (.inr (.inr (some (.inl (p))))), some (.inl (nI a)), some (.inl (nI b)), some (.inl v), none] rfl ?_
  intro M hl hR X hr
  have hpn : (p < n) = True := eq_true hp
  have hj2 : (FieldType.int ∈ jtys) = True := eq_true (by decide)
  have hloop : ∀ (u i : Nat) (g : Nat → Int32), a ≤ i → i + u = b → (∀ j, g j = if a ≤ j ∧ j < i then v else f j) → jJ E jcl 5 M (jQ E jcl M (fun r σ' n' => ∃ g : Nat → Int32, r = none ∧ n' = n ∧ σ' = jup σ p (.inl (.int, len, .inl g)) ∧ ∀ j, g j = if a ≤ j ∧ j < b then v else f j) 0 0) n 0 0 10 [some (.inr (.inr (some (.inl (p))))), some (.inl (nI a)), some (.inl (nI b)), some (.inl v), some (.inl (nI i))] [] (jup σ p (.inl (.int, len, .inl g))) := by
    intro u
    induction u with
    | zero =>
      intro i g ha hi hg
      obtain rfl : i = b := by omega
      refine jrun_ok jC X k_AR_fill_10 10 _ _ _ o_AR_fill_10 ?_
      simp only [k_AR_fill_10, jrun, jstep, jldi, jldl, jlda, j1, j2, jl1, jl2, jli, ja1, jbr, jald, jast, jlald, jlast, jalen, jget, jput, jfit, jdup, jdupx, jdupx2, jdup2, jcat, jset1, jset2, jkill, List.getElem?_cons_zero, List.getElem?_cons_succ, List.set_cons_zero, List.set_cons_succ, List.length_cons, List.length_nil, Nat.reduceAdd, Nat.reduceLT, Int32.reduceToNatClampNeg, true_and, and_true, and_self, reduceCtorEq, not_false_eq_true, false_and, and_false, or_false, false_or, true_or, or_true, jup_s, jup_jup, hpn, vp_nar_int32]
      refine ⟨fun _ => ?_, fun h => absurd (nI_le (Nat.le_refl _) (by omega)) h⟩
      exact jk_vret X d_AR_fill_27 hr (Nat.le_refl _) (Nat.le_refl _) ⟨g, rfl, rfl, rfl, hg⟩
    | succ u ih =>
      intro i g ha hi hg
      have hc : (nI i).toNatClampNeg = i := nI_clamp (by omega)
      refine jrun_ok jC X k_AR_fill_10 10 _ _ _ o_AR_fill_10 ?_
      simp only [k_AR_fill_10, jrun, jstep, jldi, jldl, jlda, j1, j2, jl1, jl2, jli, ja1, jbr, jald, jast, jlald, jlast, jalen, jget, jput, jfit, jdup, jdupx, jdupx2, jdup2, jcat, jset1, jset2, jkill, List.getElem?_cons_zero, List.getElem?_cons_succ, List.set_cons_zero, List.set_cons_succ, List.length_cons, List.length_nil, Nat.reduceAdd, Nat.reduceLT, Int32.reduceToNatClampNeg, true_and, and_true, and_self, reduceCtorEq, not_false_eq_true, false_and, and_false, or_false, false_or, true_or, or_true, jup_s, jup_jup, hpn, vp_nar_int32, hc, nI_1]
      refine ⟨fun h => absurd h (nI_ge (by omega) (by omega)), fun _ => ⟨vp_in_nI (by omega) hl2, ?_⟩⟩
      exact ih (i + 1) _ (by omega) (by omega) (by
        intro j
        by_cases hji : j = i
        · subst hji; rw [upd_s, if_pos ⟨ha, by omega⟩]
        · rw [upd_o hji, hg j]
          by_cases h9 : a ≤ j ∧ j < i
          · rw [if_pos h9, if_pos ⟨h9.1, by omega⟩]
          · rw [if_neg h9, if_neg (by omega)])
  refine jrun_ok jC X k_AR_fill_0 0 _ _ _ o_AR_fill_0 ?_
  simp only [k_AR_fill_0, jrun, jstep, jldi, jldl, jlda, j1, j2, jl1, jl2, jli, ja1, jbr, jald, jast, jlald, jlast, jalen, jget, jput, jfit, jdup, jdupx, jdupx2, jdup2, jcat, jset1, jset2, jkill, List.getElem?_cons_zero, List.getElem?_cons_succ, List.set_cons_zero, List.set_cons_succ, List.length_cons, List.length_nil, Nat.reduceAdd, Nat.reduceLT, Int32.reduceToNatClampNeg, true_and, and_true, and_self, reduceCtorEq, not_false_eq_true, false_and, and_false, or_false, false_or, true_or, or_true, h, hpn, hj2]
  refine jk_Sg X hR d_AR_fill_4 q_AR_fill_4 m_AR_rangeCheck s_AR_rangeCheck (r := []) (c_AR_rangeCheck M.2.1 E _ _ (nI len) (nI a) (nI b) (nI_le hab (by omega)) (nI_pos' (by omega)) (nI_le hb hl2)) rfl rfl ⟨Nat.le_of_ble_eq_true rfl, Nat.le_of_ble_eq_true rfl⟩ (c' := 0) rfl (s' := 0) rfl ⟨Nat.le_of_ble_eq_true rfl, Nat.le_of_ble_eq_true rfl⟩ (Nat.le_of_ble_eq_true rfl) (pc' := 7) rfl ?_
  rintro _ _ _ ⟨rfl, hn2, rfl⟩
  obtain rfl : n = _ := hn2.symm
  simp only [Option.toList_none, List.nil_append]
  refine jrun_ok jC X k_AR_fill_7 7 _ _ _ o_AR_fill_7 ?_
  simp only [k_AR_fill_7, jrun, jstep, jldi, jldl, jlda, j1, j2, jl1, jl2, jli, ja1, jbr, jald, jast, jlald, jlast, jalen, jget, jput, jfit, jdup, jdupx, jdupx2, jdup2, jcat, jset1, jset2, jkill, List.getElem?_cons_zero, List.getElem?_cons_succ, List.set_cons_zero, List.set_cons_succ, List.length_cons, List.length_nil, Nat.reduceAdd, Nat.reduceLT, Int32.reduceToNatClampNeg, true_and, and_true, and_self, reduceCtorEq, not_false_eq_true, false_and, and_false, or_false, false_or, true_or, or_true]
  have hh := hloop (b - a) a f (Nat.le_refl _) (by omega) (fun j => by rw [if_neg (by omega)])
  rw [jup_id h] at hh
  exact hh
end
section
noncomputable def bd_lg (j : Nat) : Bool := [false, false, true, false, false, false, false, false, false, true, false].getD j false
noncomputable def bd_ty (j : Nat) : FieldType := [.int, .int, .long, .int, .int, .int, .int, .int, .int, .long, .int].getD j .int
noncomputable def bd_len (j : Nat) : Nat := [64, 2, 4, 2, 16, 2, 1024, 512, 512, 1280, 320].getD j 0
noncomputable def bd_c (A : Nat → Nat → Int32) (L : Nat → Nat → Int64) (j : Nat) : jcell := bif bd_lg j then .inl (.long, bd_len j, .inr (.inl (L j))) else .inl (bd_ty j, bd_len j, .inl (A j))
noncomputable def bd_fl (n : Nat) (F : Nat → Int32) : List jv := [.inr (.inr (some (.inl (n)))), .inr (.inr (some (.inl (n + 1)))), .inl (F 2), .inl (F 3), .inl (F 4), .inl (F 5), .inl (F 6), .inr (.inr (some (.inl (n + 2)))), .inr (.inr (some (.inl (n + 3)))), .inr (.inr (some (.inl (n + 4)))), .inr (.inr (some (.inl (n + 5)))), .inr (.inr (some (.inl (n + 6)))), .inr (.inr (some (.inl (n + 7)))), .inr (.inr (some (.inl (n + 8)))), .inr (.inr (some (.inl (n + 9)))), .inr (.inr (some (.inl (n + 10)))), .inl (F 16)]
noncomputable def bdP (σ : Nat → jcell) (a n : Nat) (F : Nat → Int32) (A : Nat → Nat → Int32) (L : Nat → Nat → Int64) : Nat → jcell := fun p => if p = a then .inr (10, bd_fl n F) else if n ≤ p ∧ p < n + 11 then bd_c A L (p - n) else σ p
section PICbd
variable {σ : Nat → jcell} {a n : Nat} {F : Nat → Int32} {A : Nat → Nat → Int32} {L : Nat → Nat → Int64}
theorem bd_a : bdP σ a n F A L a = .inr (10, bd_fl n F) := if_pos rfl
theorem bd_g {j : Nat} (ha : a < n) (hj : j < 11) : bdP σ a n F A L (n + j) = bd_c A L j := by
  unfold bdP
  rw [if_neg (by omega), if_pos ⟨by omega, by omega⟩, Nat.add_sub_cancel_left]
theorem bd_ug {j : Nat} {f : Nat → Int32} (ha : a < n) (hj : j < 11) (hl : bd_lg j = false) : jup (bdP σ a n F A L) (n + j) (.inl (bd_ty j, bd_len j, .inl f)) = bdP σ a n F (va_up A j f) L := by
  funext p
  by_cases h : p = n + j
  · subst h
    rw [jup_s, bd_g ha hj]
    simp [bd_c, va_up, hl]
  · rw [jup_n h]
    unfold bdP
    by_cases h1 : p = a
    · rw [if_pos h1, if_pos h1]
    · rw [if_neg h1, if_neg h1]
      by_cases h2 : n ≤ p ∧ p < n + 11
      · rw [if_pos h2, if_pos h2]
        have h3 : ¬ p - n = j := by omega
        simp [bd_c, va_up, h3]
      · rw [if_neg h2, if_neg h2]
theorem bd_ul {j : Nat} {f : Nat → Int64} (ha : a < n) (hj : j < 11) (hl : bd_lg j = true) : jup (bdP σ a n F A L) (n + j) (.inl (.long, bd_len j, .inr (.inl f))) = bdP σ a n F A (va_up L j f) := by
  funext p
  by_cases h : p = n + j
  · subst h
    rw [jup_s, bd_g ha hj]
    simp [bd_c, va_up, hl]
  · rw [jup_n h]
    unfold bdP
    by_cases h1 : p = a
    · rw [if_pos h1, if_pos h1]
    · rw [if_neg h1, if_neg h1]
      by_cases h2 : n ≤ p ∧ p < n + 11
      · rw [if_pos h2, if_pos h2]
        have h3 : ¬ p - n = j := by omega
        simp [bd_c, va_up, h3]
      · rw [if_neg h2, if_neg h2]
theorem bd_ua {F' : Nat → Int32} : jup (bdP σ a n F A L) a (.inr (10, bd_fl n F')) = bdP σ a n F' A L := by
  funext p
  by_cases h : p = a
  · subst h
    rw [jup_s, bd_a]
  · rw [jup_n h]
    unfold bdP
    rw [if_neg h, if_neg h]
theorem bd_jmk (ha : a < n) {fs : List jv} {cs : List jcell} (hf : fs = bd_fl n F) (hc : cs = (List.range 11).map (bd_c A L)) (k : Nat) (hk : k < n + 11) : jmk σ a n (.inr (10, fs)) cs k = bdP σ a n F A L k := by
  subst hf; subst hc
  unfold jmk bdP
  by_cases h1 : k = a
  · rw [if_pos h1, if_pos h1]
  · rw [if_neg h1, if_neg h1]
    by_cases h2 : k < n
    · rw [if_pos h2, if_neg (by omega)]
    · rw [if_neg h2, if_pos ⟨by omega, hk⟩]
      simp only [List.getD, List.getElem?_map]
      rw [List.getElem?_range (by omega)]
      rfl
theorem bd_r0 (ha : a < n) : bdP σ a n F A L (n) = .inl (.int, 64, .inl (A 0)) := bd_g (j := 0) ha (by decide)
theorem bd_u0 {f : Nat → Int32} (ha : a < n) : jup (bdP σ a n F A L) (n) (.inl (.int, 64, .inl f)) = bdP σ a n F (va_up A 0 f) L := bd_ug (j := 0) ha (by decide) rfl
theorem bd_r1 (ha : a < n) : bdP σ a n F A L (n + 1) = .inl (.int, 2, .inl (A 1)) := bd_g (j := 1) ha (by decide)
theorem bd_u1 {f : Nat → Int32} (ha : a < n) : jup (bdP σ a n F A L) (n + 1) (.inl (.int, 2, .inl f)) = bdP σ a n F (va_up A 1 f) L := bd_ug (j := 1) ha (by decide) rfl
theorem bd_r2 (ha : a < n) : bdP σ a n F A L (n + 2) = .inl (.long, 4, .inr (.inl (L 2))) := bd_g (j := 2) ha (by decide)
theorem bd_u2 {f : Nat → Int64} (ha : a < n) : jup (bdP σ a n F A L) (n + 2) (.inl (.long, 4, .inr (.inl f))) = bdP σ a n F A (va_up L 2 f) := bd_ul (j := 2) ha (by decide) rfl
theorem bd_r3 (ha : a < n) : bdP σ a n F A L (n + 3) = .inl (.int, 2, .inl (A 3)) := bd_g (j := 3) ha (by decide)
theorem bd_u3 {f : Nat → Int32} (ha : a < n) : jup (bdP σ a n F A L) (n + 3) (.inl (.int, 2, .inl f)) = bdP σ a n F (va_up A 3 f) L := bd_ug (j := 3) ha (by decide) rfl
theorem bd_r4 (ha : a < n) : bdP σ a n F A L (n + 4) = .inl (.int, 16, .inl (A 4)) := bd_g (j := 4) ha (by decide)
theorem bd_u4 {f : Nat → Int32} (ha : a < n) : jup (bdP σ a n F A L) (n + 4) (.inl (.int, 16, .inl f)) = bdP σ a n F (va_up A 4 f) L := bd_ug (j := 4) ha (by decide) rfl
theorem bd_r5 (ha : a < n) : bdP σ a n F A L (n + 5) = .inl (.int, 2, .inl (A 5)) := bd_g (j := 5) ha (by decide)
theorem bd_u5 {f : Nat → Int32} (ha : a < n) : jup (bdP σ a n F A L) (n + 5) (.inl (.int, 2, .inl f)) = bdP σ a n F (va_up A 5 f) L := bd_ug (j := 5) ha (by decide) rfl
theorem bd_r6 (ha : a < n) : bdP σ a n F A L (n + 6) = .inl (.int, 1024, .inl (A 6)) := bd_g (j := 6) ha (by decide)
theorem bd_u6 {f : Nat → Int32} (ha : a < n) : jup (bdP σ a n F A L) (n + 6) (.inl (.int, 1024, .inl f)) = bdP σ a n F (va_up A 6 f) L := bd_ug (j := 6) ha (by decide) rfl
theorem bd_r7 (ha : a < n) : bdP σ a n F A L (n + 7) = .inl (.int, 512, .inl (A 7)) := bd_g (j := 7) ha (by decide)
theorem bd_u7 {f : Nat → Int32} (ha : a < n) : jup (bdP σ a n F A L) (n + 7) (.inl (.int, 512, .inl f)) = bdP σ a n F (va_up A 7 f) L := bd_ug (j := 7) ha (by decide) rfl
theorem bd_r8 (ha : a < n) : bdP σ a n F A L (n + 8) = .inl (.int, 512, .inl (A 8)) := bd_g (j := 8) ha (by decide)
theorem bd_u8 {f : Nat → Int32} (ha : a < n) : jup (bdP σ a n F A L) (n + 8) (.inl (.int, 512, .inl f)) = bdP σ a n F (va_up A 8 f) L := bd_ug (j := 8) ha (by decide) rfl
theorem bd_r9 (ha : a < n) : bdP σ a n F A L (n + 9) = .inl (.long, 1280, .inr (.inl (L 9))) := bd_g (j := 9) ha (by decide)
theorem bd_u9 {f : Nat → Int64} (ha : a < n) : jup (bdP σ a n F A L) (n + 9) (.inl (.long, 1280, .inr (.inl f))) = bdP σ a n F A (va_up L 9 f) := bd_ul (j := 9) ha (by decide) rfl
theorem bd_r10 (ha : a < n) : bdP σ a n F A L (n + 10) = .inl (.int, 320, .inl (A 10)) := bd_g (j := 10) ha (by decide)
theorem bd_u10 {f : Nat → Int32} (ha : a < n) : jup (bdP σ a n F A L) (n + 10) (.inl (.int, 320, .inl f)) = bdP σ a n F (va_up A 10 f) L := bd_ug (j := 10) ha (by decide) rfl
theorem bd_f2 : (bd_fl n F)[2]? = some (.inl (F 2)) := rfl
theorem bd_s2 {x : Int32} : (bd_fl n F).set 2 (.inl x) = bd_fl n (va_up F 2 x) := by
  simp [bd_fl, va_up]
theorem bd_f3 : (bd_fl n F)[3]? = some (.inl (F 3)) := rfl
theorem bd_s3 {x : Int32} : (bd_fl n F).set 3 (.inl x) = bd_fl n (va_up F 3 x) := by
  simp [bd_fl, va_up]
theorem bd_f4 : (bd_fl n F)[4]? = some (.inl (F 4)) := rfl
theorem bd_s4 {x : Int32} : (bd_fl n F).set 4 (.inl x) = bd_fl n (va_up F 4 x) := by
  simp [bd_fl, va_up]
theorem bd_f5 : (bd_fl n F)[5]? = some (.inl (F 5)) := rfl
theorem bd_s5 {x : Int32} : (bd_fl n F).set 5 (.inl x) = bd_fl n (va_up F 5 x) := by
  simp [bd_fl, va_up]
theorem bd_f6 : (bd_fl n F)[6]? = some (.inl (F 6)) := rfl
theorem bd_s6 {x : Int32} : (bd_fl n F).set 6 (.inl x) = bd_fl n (va_up F 6 x) := by
  simp [bd_fl, va_up]
theorem bd_f16 : (bd_fl n F)[16]? = some (.inl (F 16)) := rfl
theorem bd_s16 {x : Int32} : (bd_fl n F).set 16 (.inl x) = bd_fl n (va_up F 16 x) := by
  simp [bd_fl, va_up]
theorem bd_f0 : (bd_fl n F)[0]? = some (.inr (.inr (some (.inl (n))))) := rfl
theorem bd_f1 : (bd_fl n F)[1]? = some (.inr (.inr (some (.inl (n + 1))))) := rfl
theorem bd_f7 : (bd_fl n F)[7]? = some (.inr (.inr (some (.inl (n + 2))))) := rfl
theorem bd_f8 : (bd_fl n F)[8]? = some (.inr (.inr (some (.inl (n + 3))))) := rfl
theorem bd_f9 : (bd_fl n F)[9]? = some (.inr (.inr (some (.inl (n + 4))))) := rfl
theorem bd_f10 : (bd_fl n F)[10]? = some (.inr (.inr (some (.inl (n + 5))))) := rfl
theorem bd_f11 : (bd_fl n F)[11]? = some (.inr (.inr (some (.inl (n + 6))))) := rfl
theorem bd_f12 : (bd_fl n F)[12]? = some (.inr (.inr (some (.inl (n + 7))))) := rfl
theorem bd_f13 : (bd_fl n F)[13]? = some (.inr (.inr (some (.inl (n + 8))))) := rfl
theorem bd_f14 : (bd_fl n F)[14]? = some (.inr (.inr (some (.inl (n + 9))))) := rfl
theorem bd_f15 : (bd_fl n F)[15]? = some (.inr (.inr (some (.inl (n + 10))))) := rfl
theorem bd_l : (bd_fl n F).length = 17 := rfl
end PICbd
end
section
theorem jtb_0 : jtb 0 = some ("ChessHouse$Board", "STEPS", "[I", .int, 8, fun i => tv_0.getD i 0) := rfl
noncomputable def hop5 (x y : Int32) : Int32 := ((y &&& (7 : Int32)) - (x &&& (7 : Int32))) * ((y &&& (7 : Int32)) - (x &&& (7 : Int32))) + (y >>> ((3 : Int32) &&& 31) - x >>> ((3 : Int32) &&& 31)) * (y >>> ((3 : Int32) &&& 31) - x >>> ((3 : Int32) &&& 31))
noncomputable def hopc (x : Int32) : Nat → Nat
  | 0 => 0
  | t + 1 => hopc x t + if hop5 x (nI t) = 5 then 1 else 0
theorem hopc_8 : ∀ s, s < 64 → hopc (nI s) 64 ≤ 8 := by decide +kernel
theorem hopc_mono (x : Int32) (t u : Nat) : hopc x t ≤ hopc x (t + u) := by
  induction u with
  | zero => exact Nat.le_refl _
  | succ u ih =>
    show hopc x t ≤ hopc x (t + u) + _
    omega
end
section
/-! throws: a method that ends in an exception of its own, and a call of one that is caught -/
/-- a cell of which nothing is known -/
noncomputable def jun : jcell := .inl (.float, 0, .inl fun _ => 0)
theorem jun_kn : ¬ jkn jun := by
  show ¬ (FieldType.float ∈ jtys)
  decide
/-- a static field and the reference or null that it holds -/
noncomputable def jrf (v : Value) : Prop := v = .null ∨ ∃ a, v = .ref a
noncomputable def jLs (C n d : String) (A : Nat → Prop) (U : State) (H : Heap) : Prop := ∃ (c : ClassId) (kf : Class) (fi : Nat) (f : Field) (a : Nat) (cell : Cell) (v : Value), U.vm.findClass C = some c ∧ U.fieldFound? C n d = some (c, kf, fi, f) ∧ f.isStatic = true ∧ kf.statics = some a ∧ H[a]? = some cell ∧ cell.vm.isStatics = true ∧ cell.cls = c ∧ f.slot < cell.slots.size ∧ kf.staticTypes[f.slot]? = some f.type ∧ cell.slots[f.slot]? = some v ∧ jrf v ∧ ¬ A a
theorem jLs.moved {C n d : String} {A : Nat → Prop} {u U : State} {H : Heap} (hvm : u.vm.Alike U.vm) (h : jLs C n d A u H) : jLs C n d A U H := by
  obtain ⟨c, kf, fi, f, a, cell, v, h0, h1, h2, h3, h4, h5, h6, h7, h8, h9⟩ := h
  obtain ⟨k', hi', he⟩ := State.fieldFound?_setVm hvm h1
  exact ⟨c, k', fi, f, a, cell, v, by rw [hvm.findClass]; exact h0, hi', h2, by rw [he]; exact h3, h4, h5, h6, h7, by rw [he]; exact h8, h9⟩
theorem jLs.kept {C n d : String} {A : Nat → Prop} {U : State} {H H1 : Heap} (h : jLs C n d A U H) (hq : ∀ a : Nat, a < H.size → ¬ A a → H1[a]? = H[a]?) : jLs C n d A U H1 := by
  obtain ⟨c, kf, fi, f, a, cell, v, h0, h1, h2, h3, h4, h5, h6, h7, h8, h9, h10, h11⟩ := h
  exact ⟨c, kf, fi, f, a, cell, v, h0, h1, h2, h3, by rw [hq a (Array.getElem?_eq_some_iff.mp h4).1 h11]; exact h4, h5, h6, h7, h8, h9, h10, h11⟩
theorem jLs.ref {C n d : String} {A : Nat → Prop} {args : Array Value} {s : State} (h : jLs C n d A s s.heap) : (Jvm.Cond.isRef (.static C n d)).before args s = true := by
  obtain ⟨c, kf, fi, f, a, cell, v, h0, h1, h2, h3, h4, h5, h6, h7, h8, h9, h10, h11⟩ := h
  have ev : (Term.static C n d).eval args s none [] s = some v := by simp [Term.eval, State.fieldNamed?, h1, h2, h3, h4, h5, h9]
  rcases h10 with rfl | ⟨x, rfl⟩ <;> simp [Jvm.Cond.before, Jvm.Cond.holds, Jvm.Cond.value, ev]
theorem jLs.lays {C n d : String} {A : Nat → Prop} {args : Array Value} {s : State} (h : jLs C n d A s s.heap) : (Jvm.Cond.laysStatic C n d).before args s = true := by
  obtain ⟨c, kf, fi, f, a, cell, v, h0, h1, h2, h3, h4, h5, h6, h7, h8, h9, h10, h11⟩ := h
  simp [Jvm.Cond.before, Jvm.Cond.holds, Jvm.Cond.value, h0, h1, h2, h3, h4, h5, h6, h7, h8]
theorem jLs_of {C n d : String} {A : Nat → Prop} {args : Array Value} {s : State} (hl : (Jvm.Cond.laysStatic C n d).before args s = true) (hr : (Jvm.Cond.isRef (.static C n d)).before args s = true) (hA : ∀ a : Nat, a < s.heap.size → ¬ A a) : jLs C n d A s s.heap := by
  obtain ⟨c, k, i, f, a, cell, hc, hi, hst, ha, hcell, hs, hcls, hlt, hty⟩ := Cond.laysStatic_spec hl
  cases hv : (Term.static C n d).eval args s none [] s with
  | none => simp [Jvm.Cond.before, Jvm.Cond.holds, Jvm.Cond.value, hv] at hr
  | some w =>
    obtain ⟨hst', a', cell', ha', hcell', -, hslot⟩ := Term.static_spec hi hv
    cases ha.symm.trans ha'
    cases hcell.symm.trans hcell'
    refine ⟨c, k, i, f, a, cell, w, hc, hi, hst, ha, hcell, hs, hcls, hlt, hty, hslot, ?_, hA a (Array.getElem?_eq_some_iff.mp hcell).1⟩
    simp only [Jvm.Cond.before, Jvm.Cond.holds, Jvm.Cond.value, hv] at hr
    cases w with
    | null => exact Or.inl rfl
    | ref t => exact Or.inr ⟨t, rfl⟩
    | _ => simp at hr
/-- the words of a throw that steady readers don't carry -/
noncomputable def jtw : List Jvm.Cond := [.declares ⟨"java/lang/RuntimeException", "<init>", "()V"⟩, .declares ⟨"java/lang/Exception", "<init>", "()V"⟩, .declares ⟨"java/lang/Throwable", "<init>", "()V"⟩, .castable "java/lang/IllegalArgumentException" "java/lang/IllegalArgumentException", .castable "java/lang/IndexOutOfBoundsException" "java/lang/IndexOutOfBoundsException", .castable "java/lang/UnsupportedOperationException" "java/lang/UnsupportedOperationException"]
noncomputable def jTx : List Jvm.Cond := .laysStatic "java/lang/Throwable" "UNASSIGNED_STACK" "[Ljava/lang/StackTraceElement;" :: .laysStatic "java/lang/Throwable" "SUPPRESSED_SENTINEL" "Ljava/util/List;" :: .isRef (.static "java/lang/Throwable" "UNASSIGNED_STACK" "[Ljava/lang/StackTraceElement;") :: .isRef (.static "java/lang/Throwable" "SUPPRESSED_SENTINEL" "Ljava/util/List;") :: jtw
noncomputable def jTh (E : jE) (U : State) : Prop := jLs "java/lang/Throwable" "UNASSIGNED_STACK" "[Ljava/lang/StackTraceElement;" (jA E) U U.heap ∧ jLs "java/lang/Throwable" "SUPPRESSED_SENTINEL" "Ljava/util/List;" (jA E) U U.heap ∧ ∀ w ∈ jtw, w.before #[] U = true
theorem jtw_tab : ∀ w ∈ jtw, w.onTables = true := by
  intro w hw
  simp only [jtw, List.mem_cons, List.not_mem_nil, or_false] at hw
  rcases hw with rfl | rfl | rfl | rfl | rfl | rfl <;> rfl
theorem jtw_moved {u U : State} (hvm : u.vm.Alike U.vm) (h : ∀ w ∈ jtw, w.before #[] u = true) : ∀ w ∈ jtw, w.before #[] U = true := by
  intro w hw
  have h1 := h w hw
  have h2 : w.before #[] (u.setVm U.vm) = true := by
    simp only [jtw, List.mem_cons, List.not_mem_nil, or_false] at hw
    rcases hw with rfl | rfl | rfl | rfl | rfl | rfl
    · rw [Cond.declares_setVm hvm]; exact h1
    · rw [Cond.declares_setVm hvm]; exact h1
    · rw [Cond.declares_setVm hvm]; exact h1
    · rw [Cond.castable_setVm hvm]; exact h1
    · rw [Cond.castable_setVm hvm]; exact h1
    · rw [Cond.castable_setVm hvm]; exact h1
  have e := Cond.onTables_vm (A := #[]) (A' := #[]) (U := u) (U' := U) U.vm w (jtw_tab w hw)
  have hU : U.setVm U.vm = U := rfl
  rw [hU] at e
  rw [← e]
  exact h2
theorem jTh_word {E : jE} {args : Array Value} {s : State} (h : jTh E s) : ∀ w ∈ jTx, w.before args s = true := by
  obtain ⟨h1, h2, h3⟩ := h
  intro w hw
  simp only [jTx, List.mem_cons] at hw
  rcases hw with rfl | rfl | rfl | rfl | hw
  · exact h1.lays
  · exact h2.lays
  · exact h1.ref
  · exact h2.ref
  · exact va_any (jtw_tab w hw) (h3 w hw)
theorem jTh_go {E : jE} {s U : State} {H : Heap} {locs : List Loc} (h : jTh E s) (hS : va_S (jA E) s.heap H locs) (hU : U.heap = H) (hW : s.WarmedH U.vm) : jTh E U := by
  obtain ⟨h1, h2, h3⟩ := h
  subst hU
  exact ⟨(h1.kept hS.2.1).moved hW.alike, (h2.kept hS.2.1).moved hW.alike, jtw_moved hW.alike h3⟩
/-- the words of a throw: in the tables, or among these -/
noncomputable def jTw (Ts : List Jvm.Cond) (own : String) (ic : Nat) (cls : String) (names : List String) : Prop := ∀ a ∈ Bundle.ownAtoms0 own ic cls names, a ∈ jTA Ts ∨ a ∈ jTx
noncomputable def jQt (E : jE) (cl : List vw_C) (cls : String) (σ : Nat → jcell) (n : Nat) : Array Value → State → Outcome → State → Prop := fun _ s o t => o = .threw (E.2.2.2 + n) ∧ jW E cl (jup σ n jun) (n + 1) t.heap ∧ (∃ ce, t.heap[E.2.2.2 + n]? = some ce ∧ ce.vm = .none ∧ s.vm.findClass cls = some ce.cls) ∧ va_F (jA E) s t
noncomputable def jPt (E : jE) (cl : List vw_C) (tb : jTb) (Ts : List Jvm.Cond) (vals : List jv) (σ : Nat → jcell) (n : Nat) : Array Value → State → Prop := fun v U => jPc E cl tb Ts vals σ n v U ∧ jTh E U
/-- what an end by a throw leaves: the tables are warmer, and all but new cells and the slots of L is as it was -/
noncomputable def jEt (s t : State) (L : List Loc) (k m : Nat) : Prop := s.WarmedH t.vm ∧ s.sameButNew ({ t with vm := s.vm } : State) L k m
noncomputable def jMetT (l : Launch) (E : jE) (cl : List vw_C) (tb : jTb) (Ts : List Jvm.Cond) (Y : jY) (rm : Room) (vals : List jv) (σ : Nat → jcell) (n : Nat) (cls : String) : Prop := MetFree l Y.1 (headSpec (jws Ts Y) rm) (jPt E cl tb Ts vals σ n) (fun _ _ _ _ _ => True) (fun a st o t => jQt E cl cls σ n a st o t ∧ ∃ L, jEt st t L rm.cells rm.slots ∧ ∀ q ∈ L, jA E q.base)
noncomputable def jQT (E : jE) (cl : List vw_C) (M : jM) (cls : String) (σ : Nat → jcell) (n : Nat) : State → Prop := fun t => ∃ o, t.status = .running ∧ Ended t M.2.2.2.2.2.2.2.1 o ∧ jQt E cl cls σ n M.2.2.2.2.2.2.1 M.2.2.2.2.1 o t ∧ ∃ L, jEt M.2.2.2.2.1 t L M.2.2.2.1.cells M.2.2.2.1.slots ∧ ∀ q ∈ L, jA E q.base
/-- the judgement over the heap as it was at the start: for roads that write nothing -/
noncomputable def jF (E : jE) (cl : List vw_C) (nL : Nat) (M : jM) (Q : State → Prop) (n : Nat) : jN := fun pc lv st σ => ∀ ls : Array Slot, jW E cl σ n M.2.2.2.2.1.heap → jlv E ls nL lv →
  W M.1 M.2.1 M.2.2.1 M.2.2.2.1 M.2.2.2.2.1 M.2.2.2.2.2.1 M.2.2.2.2.2.2.1 M.2.2.2.2.2.2.2.1 M.2.2.2.2.2.2.2.2.1 M.2.2.2.2.2.2.2.2.2 M.2.2.2.2.1.heap [] 0 0 Q (F0 M.2.2.2.2.2.1 pc ls (st.map (jc E)))
section JTH
variable {E : jE} {own : String} {Ts : List Jvm.Cond} {cl : List vw_C} {tb : jTb} {nL : Nat} {ini : Bool} {cc : ByteArray} {M : jM} {Q : State → Prop} {n cells slots : Nat}
theorem jf_iload_n (X : jX E own Ts cl tb nL ini cc M) {pc : Nat} {i : Fin 4} (hd : decode cc pc = .ok (.iload_n i, 1)) {lv : List (Option jv)} {r : List jv} {σ : Nat → jcell} {x : Int32} (hl : lv[i.val]? = some (some (.inl x))) (k : jF E cl nL M Q n (pc + 1) lv (.inl x :: r) σ) : jF E cl nL M Q n pc lv r σ := by
  obtain ⟨hx, hb, -⟩ := X
  exact fun ls hW hL => lv_iload_n hx hb hd rfl (hL.2.2 _ _ hl) (k ls hW hL)
theorem jf_aload_n (X : jX E own Ts cl tb nL ini cc M) {pc : Nat} {i : Fin 4} (hd : decode cc pc = .ok (.aload_n i, 1)) {lv : List (Option jv)} {r : List jv} {σ : Nat → jcell} {a : Nat ⊕ Nat} (hl : lv[i.val]? = some (some (.inr (.inr (some a))))) (k : jF E cl nL M Q n (pc + 1) lv (.inr (.inr (some a)) :: r) σ) : jF E cl nL M Q n pc lv r σ := by
  obtain ⟨hx, hb, -⟩ := X
  rcases a with a | a
  · exact fun ls hW hL => lv_aload_n hx hb hd rfl (hL.2.2 _ _ hl) (k ls hW hL)
  · exact fun ls hW hL => lv_aload_n hx hb hd rfl (hL.2.2 _ _ hl) (k ls hW hL)
theorem jf_iflt (X : jX E own Ts cl tb nL ini cc M) {pc tg : Nat} {z : Int} (hd : decode cc pc = .ok (.ifCond .lt z, 3)) (ht : (pc : Int) + z = (tg : Int)) {lv : List (Option jv)} {r : List jv} {σ : Nat → jcell} {x : Int32} (ka : x < 0 → jF E cl nL M Q n tg lv r σ) (kb : ¬ x < 0 → jF E cl nL M Q n (pc + 3) lv r σ) : jF E cl nL M Q n pc lv (.inl x :: r) σ := by
  obtain ⟨hx, hb, -⟩ := X
  exact fun ls hW hL => lv_if_lt hx hb hd ht (fun q => ka q ls hW hL) (fun q => kb q ls hW hL)
theorem jf_icle (X : jX E own Ts cl tb nL ini cc M) {pc tg : Nat} {z : Int} (hd : decode cc pc = .ok (.if_icmp .le z, 3)) (ht : (pc : Int) + z = (tg : Int)) {lv : List (Option jv)} {r : List jv} {σ : Nat → jcell} {x y : Int32} (ka : x ≤ y → jF E cl nL M Q n tg lv r σ) (kb : ¬ x ≤ y → jF E cl nL M Q n (pc + 3) lv r σ) : jF E cl nL M Q n pc lv (.inl y :: .inl x :: r) σ := by
  obtain ⟨hx, hb, -⟩ := X
  exact fun ls hW hL => lv_icmp_le hx hb hd ht (fun q => ka q ls hW hL) (fun q => kb q ls hW hL)
theorem jf_iclt (X : jX E own Ts cl tb nL ini cc M) {pc tg : Nat} {z : Int} (hd : decode cc pc = .ok (.if_icmp .lt z, 3)) (ht : (pc : Int) + z = (tg : Int)) {lv : List (Option jv)} {r : List jv} {σ : Nat → jcell} {x y : Int32} (ka : x < y → jF E cl nL M Q n tg lv r σ) (kb : ¬ x < y → jF E cl nL M Q n (pc + 3) lv r σ) : jF E cl nL M Q n pc lv (.inl y :: .inl x :: r) σ := by
  obtain ⟨hx, hb, -⟩ := X
  exact fun ls hW hL => lv_icmp_lt hx hb hd ht (fun q => ka q ls hW hL) (fun q => kb q ls hW hL)
theorem jf_get (hC : jCl Ts cl) (X : jX E own Ts cl tb nL ini cc M) {pc i wi ci f : Nat} (hd : decode cc pc = .ok (.getfield i, 3)) {q : vw_C} (hq : cl[ci]? = some q) (hf : f < q.2.2) (hw : jlk Ts wi own i (q.2.1 f).1 (q.2.1 f).2.1 (q.2.1 f).2.2.1 = true) {lv : List (Option jv)} {r : List jv} {σ : Nat → jcell} {a : Nat} {fs : List jv} {v : jv} (ha : a < n) (he : σ a = .inr (ci, fs)) (hv : fs[f]? = some v) (k : jF E cl nL M Q n (pc + 3) lv (v :: r) σ) : jF E cl nL M Q n pc lv (.inr (.inr (some (.inl a))) :: r) σ := by
  obtain ⟨hx, hb, -, ho, hts, ⟨hK, -, -, hN⟩, -⟩ := X
  intro ls hW hL
  have hP := jW_one hW ha (by rw [he]; simp only [jkn]; first | done | decide | assumption)
  rw [he] at hP
  rcases jlk_or hw with h8 | ⟨host, h8⟩
  · exact va_get (C := q.1) (T := q.2.1) (N := q.2.2) hx hb hts (hC ci q hq).1 ho hK hP 0 rfl hq f hf (hts _ h8) (fun _ h9 => h9) (by rw [List.getElem?_map, hv]; rfl) hd (k ls hW hL)
  · exact va_getN (C := q.1) (T := q.2.1) (N := q.2.2) (host := host) hx hb hts (hC ci q hq).1 ho hK hP 0 rfl hq f hf (va_Nw.use rfl (hN _ h8)) (fun _ h9 => h9) (by rw [List.getElem?_map, hv]; rfl) hd (k ls hW hL)
/-- cells that were there are the same, where nothing was written -/
theorem jsame_at {s t : State} {k m : Nat} (h : s.sameButNew t [] k m) {a : Nat} (ha : a < s.heap.size) : t.heap[a]? = s.heap[a]? := by
  obtain ⟨-, -, -, -, -, h6⟩ := h
  obtain ⟨c', e1, e2, e3, e4⟩ := h6 a _ (Array.getElem?_eq_getElem ha)
  rw [e1, Array.getElem?_eq_getElem ha, e2]
  have e5 : c'.slots = (s.heap[a]).slots := Array.ext_getElem? fun i => e4 i (by simp)
  rw [e5]
/-- a new exception is made and thrown -/
theorem jf_thr0 (X : jX E own Ts cl tb nL ini cc M) {rm : Room} (hR : M.2.2.2.1 = rm) (hl : M.2.1.stackTraces = false) (hTh : jTh E M.2.2.2.2.1) (hex : M.2.2.2.2.2.2.2.2.2.exceptionTable.toList = []) {pc i ic : Nat} (hd0 : decode cc pc = .ok (.new i, 3)) (hd1 : decode cc (pc + 3) = .ok (.dup, 1)) (hd2 : decode cc (pc + 4) = .ok (.invokespecial ic, 3)) (hd3 : decode cc (pc + 7) = .ok (.athrow, 1))
    {cls : String} {names : List String} (w1 : Jvm.Cond.classLink own i cls ∈ jTA Ts) (w2 : Jvm.Cond.instantiable cls 6 ∈ jTA Ts) (w3 : Jvm.Cond.initialized cls ∈ jTA Ts) (hcls : Bundle.fit cls = true) (hnames : ∀ x ∈ names, Bundle.fit x = true) (hw : jTw Ts own ic cls names)
    (hf : names.length + 3 < rm.frames ∧ 13 * (names.length + 1) + 42 ≤ rm.locals ∧ 1 ≤ rm.cells ∧ 6 ≤ rm.slots) {lv : List (Option jv)} {σ : Nat → jcell} : jF E cl nL M (jQT E cl M cls σ n) n pc lv [] σ := by
  obtain ⟨p, l, e, R, s, m, args, below, meth, c⟩ := M
  dsimp only at hR hl hTh hex
  subst hR
  obtain ⟨hx, hb, hml, ho, hts, hK, hlk, -⟩ := X
  dsimp only at hx hb hml ho hts hK hlk
  intro ls hW hL
  dsimp only at hW ⊢
  refine W.newc (C := cls) (n := 6) hx hb ho (hts _ w1) (hts _ w2) (hts _ w3) rfl hd0 (by omega) (by omega) ?_
  intro cC kC q1 q2 q3 q4
  refine lv_dup (va := .ref s.heap.size) hx hb hd1 rfl ?_
  intro T hT Xs
  have htr : e.platform.stackTraces = false := by rw [Xs.admits.platform]; exact hl
  have hat : ∀ a ∈ Bundle.ownAtoms0 own ic cls names, a.before args s = true := by
    intro a ha
    rcases hw a ha with h | h
    · exact hts a h
    · exact jTh_word hTh a h
  obtain ⟨U, st, hrun, hend, hwarm, hsame, ce, hce, hoc⟩ := Xs.ctorThrow0 hx htr (own := own) (cls := cls) (names := names) (ic := ic) ho hcls hnames hat (by intro x hx9; cases hx9) (a := s.heap.size) q1 q2 (by rw [hT]; simp [freshCell]) (Nat.le_refl _)
    (g := F0 m (pc + 4) ls [.ref s.heap.size, .ref s.heap.size]) rfl (hL.1.trans hml.symm) rfl rfl (rest := []) rfl (by rw [hb]; exact hd2) (by rw [hb]; exact hd3) (by rw [hex]; intro x hx9; cases hx9) hf.1 (by
      have e1 : (F0 m (pc + 4) ls [Value.ref s.heap.size, .ref s.heap.size]).monitorRoom = 0 := rfl
      rw [e1]
      simp only [List.map_cons, List.map_nil, List.sum_cons, List.sum_nil, Value.category]
      omega) hlk
  have hz : U.heap.size = s.heap.size + 1 := by
    have h3 : U.heap.size ≤ s.heap.size + (0 + 1) := hsame.2.2.1
    have h4 := (Array.getElem?_eq_some_iff.mp hce).1
    omega
  have hB : s.heap.size = E.2.2.2 + n := hW.1
  have hq : ∀ a : Nat, a < s.heap.size → U.heap[a]? = s.heap[a]? := fun a ha => jsame_at (t := { U with vm := s.vm }) hsame ha
  refine ⟨U, st, .threw s.heap.size, hrun, hend, ⟨by rw [hB], ⟨by omega, fun k hk hkk => ?_⟩, ⟨ce, by rw [← hB]; exact hce, hoc.vm, hoc.cls⟩, by show s.heap.size ≤ U.heap.size; omega, fun q h1 _ => hq q h1⟩, [], ⟨hwarm, hsame.weaken (fun x hx9 => by cases hx9) (by show 0 + 1 ≤ R.cells; omega) (by show 0 + 6 ≤ R.slots; omega)⟩, fun q hq9 => by cases hq9⟩
  by_cases hkn : k = n
  · subst hkn
    rw [jup_s] at hkk
    exact (jun_kn hkk).elim
  · rw [jup_n hkn] at hkk ⊢
    exact (hW.2 k (by omega) hkk).kept (hq _ (by show E.2.2.2 + k < _; omega))
end JTH
section JTE
variable {l : Launch} {E : jE} {cl : List vw_C} {tb : jTb} {Ts : List Jvm.Cond}
theorem jPt_blind {vals : List jv} {σ : Nat → jcell} {n : Nat} : FrameBlind (jPt E cl tb Ts vals σ n) := by
  intro a U g mk ⟨h, h1, h2, h3⟩
  exact ⟨jPc_blind a U g mk h, jLs.moved (u := U) (U := U.calling g mk a) (Vm.Alike.refl U.vm) h1, jLs.moved (u := U) (U := U.calling g mk a) (Vm.Alike.refl U.vm) h2, jtw_moved (u := U) (U := U.calling g mk a) (Vm.Alike.refl U.vm) h3⟩
/-- the entry of a method that throws -/
theorem jMetT_of {Y : jY} {own nm ds : String} {cc : ByteArray} {nL : Nat} {ret : Option FieldType} {rm : Room} {vals : List jv} {σ : Nat → jcell} {n : Nat} {cls : String} (hY : Y = (⟨own, nm, ds⟩, cc, nL, ret)) (hy : plainName own = true) (hlen : (lg_sl (vals.map (jc E))).length ≤ nL) (lv0 : List (Option jv)) (hlv : jent vals nL = lv0)
    (body : ∀ M : jM, M.2.1 = l → M.2.2.2.1 = rm → jX E own Ts cl tb nL false cc M → jTh E M.2.2.2.2.1 → M.2.2.2.2.2.2.2.2.2.exceptionTable.toList = [] → jF E cl nL M (jQT E cl M cls σ n) n 0 lv0 [] σ) : jMetT l E cl tb Ts Y rm vals σ n cls := by
  subst hlv
  subst hY
  refine MetFree.of_bodyS (code := cc) (maxLocals := nL) (ret := ret) hy ?_ ?_
  · intro args s m h hn
    obtain ⟨meth, c, h1, h2, h3, h4, h5, h6, -, -⟩ := Cond.code_spec hn (atoms_spec (ws := jws Ts (⟨own, nm, ds⟩, cc, nL, ret)) h _ List.mem_cons_self)
    exact ⟨meth, c, h1, h2, h3, h4, h5, h6⟩
  · intro p e s m args below meth c s₁ B hml hP _
    obtain ⟨⟨rfl, hW, hK⟩, hT⟩ := hP
    have hh0 : s₁.heap = s.heap := by rw [B.state]; rfl
    have hex : c.exceptionTable.toList = [] := by
      have h9 := B.noHandlers (atoms_spec (ws := jws Ts (⟨own, nm, ds⟩, cc, nL, ret)) B.pre _ List.mem_cons_self)
      rw [Array.isEmpty_iff] at h9
      rw [h9]
    have h := body (p, l, e, rm, s, m, (vals.map (jc E)).toArray, below, meth, c) rfl rfl
      ⟨B.exec, B.bytes, hml, findClass_of_methodNamed B.named, fun w hw => atoms_spec (ws := jws Ts (⟨own, nm, ds⟩, cc, nL, ret)) B.pre w (List.mem_cons_of_mem _ hw), hK, B.notSynchronized, fun hi => by cases hi⟩ hT hex
    have hl := lv_entry (vals.map (jc E)) (n := nL) hlen
    have h2 := h _ hW ⟨hl.1, hl.2.1, fun i v hi => by
      have h1 := jar_in (E := E) vals 0 i v (jent_at hi)
      rw [Nat.zero_add] at h1
      exact hl.2.2 _ h1⟩
    have h3 : W p l e rm s m (vals.map (jc E)).toArray below meth c s.heap [] 0 0 (jQT E cl (p, l, e, rm, s, m, (vals.map (jc E)).toArray, below, meth, c) cls σ n) (entryFrame m (vals.map (jc E)).toArray nL) := by
      rw [lg_entry_eq]
      exact h2
    obtain ⟨t, a1, o, b1, b2, b3⟩ := h3 s₁ hh0 (Stand.of_body B)
    exact ⟨t, o, a1, b1, b2, b3⟩
/-- a method with an exception table -/
noncomputable def jwsW (Ts : List Jvm.Cond) (Y : jY) (hh : List (Nat × Nat × Nat × Nat)) : List Jvm.Cond := Jvm.Cond.codeWith Y.1 Y.2.1 Y.2.2.1 Y.2.2.2 hh :: jTA Ts
noncomputable def jMetW (l : Launch) (E : jE) (cl : List vw_C) (tb : jTb) (Ts : List Jvm.Cond) (Y : jY) (hh : List (Nat × Nat × Nat × Nat)) (rm : Room) (vals : List jv) (σ : Nat → jcell) (n : Nat) (post : jPo) : Prop := Met l Y.1 (jwsW Ts Y hh) rm (jPt E cl tb Ts vals σ n) (jQc E cl post) rm.cells rm.slots (jA E)
theorem jMetW_of {Y : jY} {own nm ds : String} {cc : ByteArray} {nL : Nat} {ret : Option FieldType} {hh : List (Nat × Nat × Nat × Nat)} {rm : Room} {vals : List jv} {σ : Nat → jcell} {n : Nat} {post : jPo} (hY : Y = (⟨own, nm, ds⟩, cc, nL, ret)) (hy : plainName own = true) (hlen : (lg_sl (vals.map (jc E))).length ≤ nL) (lv0 : List (Option jv)) (hlv : jent vals nL = lv0)
    (body : ∀ M : jM, M.2.1 = l → M.2.2.2.1 = rm → jX E own Ts cl tb nL false cc M → M.2.2.2.2.2.2.2.2.1.sig.returnType = ret → jTh E M.2.2.2.2.1 → M.2.2.2.2.2.2.2.2.2.exceptionTable.toList.map (fun h => (h.startPc, h.endPc, h.handlerPc, h.catchType)) = hh → jJ E cl nL M (jQ E cl M post rm.cells rm.slots) n 0 0 0 lv0 [] σ) : jMetW l E cl tb Ts Y hh rm vals σ n post := by
  subst hlv
  subst hY
  refine va_MetW (cc := cc) (maxL := nL) (ret := ret) (hh := hh) hy rfl ?_
  intro p e s m args below meth c s₁ B hml hv
  obtain ⟨⟨rfl, hW, hK⟩, hT⟩ := hv
  have hex : c.exceptionTable.toList.map (fun h => (h.startPc, h.endPc, h.handlerPc, h.catchType)) = hh := by
    obtain ⟨m9, meth9, c9, hn9, hm9, hc9, -, -, he9, -⟩ := Cond.codeWith_spec (atoms_spec (ws := jwsW Ts (⟨own, nm, ds⟩, cc, nL, ret) hh) B.pre _ List.mem_cons_self)
    cases B.named.symm.trans hn9
    cases B.method.symm.trans hm9
    cases (Stand.of_body B).code.symm.trans hc9
    exact he9
  have h := body (p, l, e, rm, s, m, (vals.map (jc E)).toArray, below, meth, c) rfl rfl
    ⟨B.exec, B.bytes, hml, findClass_of_methodNamed B.named, fun w hw => atoms_spec (ws := jwsW Ts (⟨own, nm, ds⟩, cc, nL, ret) hh) B.pre w (List.mem_cons_of_mem _ hw), hK, B.notSynchronized, fun hi => by cases hi⟩ B.returns hT hex
  have hl := lv_entry (vals.map (jc E)) (n := nL) hlen
  rw [lg_entry_eq]
  exact h s.heap [] _ hW va_S.rf ⟨hl.1, hl.2.1, fun i v hi => by
    have h1 := jar_in (E := E) vals 0 i v (jent_at hi)
    rw [Nat.zero_add] at h1
    exact hl.2.2 _ h1⟩
end JTE
section JTR
variable {p : Program} {l : Launch} {e : Env} {R : Room} {s : State} {m : MethodId} {args : Array Value} {below : List Frame} {meth : Method} {c : Code} {T : State} {locs : List Loc} {cells slots : Nat}
/-- behind the invocation of a method that throws: the exception's note lies over the caller's frame -/
theorem jthrown {E : jE} {cl : List vw_C} {tb : jTb} {Ts : List Jvm.Cond} {Y : jY} {rc : Room} {vals : List jv} {σ : Nat → jcell} {n : Nat} {cls : String} (hM : jMetT l E cl tb Ts Y rc vals σ n cls) (X : Stand p l e R s m args below meth c T locs cells slots) {g : JFrame} (hg : g.method = m) {mk : MethodId} {av : Array Value}
    (happ : (headSpec (jws Ts Y) rc).appliesLoose Y.1 e.platform (T.calling g mk av) = true) (hP : jPt E cl tb Ts vals σ n av (T.calling g mk av)) :
    ∃ (V t : State) (L : List Loc), V.heap = t.heap ∧ Stand p l e R s m args below meth c V (locs ++ L) (cells + rc.cells) (slots + rc.slots) ∧ jQt E cl cls σ n av (T.calling g mk av) (.threw (E.2.2.2 + n)) t ∧ (∀ q ∈ L, jA E q.base) ∧ Steps p.tables e below (doInvoke e (T.setTop g) [] mk av).1 ((V.setTop g).pushFrame (.throwing (E.2.2.2 + n))) := by
  subst hg
  have h : At T g.method c below := X.here
  obtain ⟨mid, hmid⟩ := h.above
  obtain ⟨g0, hg0⟩ := Option.isSome_iff_exists.mp h.top
  obtain ⟨r, hr⟩ := State.topJava?_eq_some.mp hg0
  have hfr : (T.setTop g).frames = (.java g :: mid) ++ below := by rw [State.frames_setTop' g h.top, hmid]; rfl
  obtain ⟨o, t, hst, -, hend, hq0⟩ := Steps.callFree hM p X.admits X.cas X.clock (acts := []) hfr happ hP trivial
  have hq2 : jQt E cl cls σ n av (T.calling g mk av) o t ∧ ∃ L, jEt (T.calling g mk av) t L rc.cells rc.slots ∧ ∀ q ∈ L, jA E q.base := hq0
  obtain ⟨hq, L, ⟨hWt, q1, q2, q3, q4, q5, q6⟩, hL⟩ := hq2
  obtain rfl : o = .threw (E.2.2.2 + n) := hq.1
  rw [State.frames_setTop' g h.top] at hend
  have hft : t.frames = .throwing (E.2.2.2 + n) :: .java g :: T.frames.tail := hend
  have hWT : T.WarmedH t.vm := hWt
  have hVf : (({ T with heap := t.heap, slotsUsed := t.slotsUsed } : State).setVm t.vm).frames = .java g0 :: r := hr
  have hsh : t = ({ (T.calling g mk av).setFrames t.frames with heap := t.heap, slotsUsed := t.slotsUsed } : State).setVm t.vm := by
    have h9 : t = ({ t with vm := (T.calling g mk av).vm } : State).setVm t.vm := rfl
    rw [q1] at h9
    exact h9
  have ht : t = ((({ T with heap := t.heap, slotsUsed := t.slotsUsed } : State).setVm t.vm).setTop g).pushFrame (.throwing (E.2.2.2 + n)) := by
    refine hsh.trans ?_
    rw [hft, State.calling_eq h.top, State.setFrames_setFrames, State.pushFrame, State.frames_setTop _ hVf, State.setTop_of_frames _ hVf, State.setFrames_setFrames, hr]
    rfl
  have hsm : T.sameButNew ({ T with heap := t.heap, slotsUsed := t.slotsUsed } : State) L rc.cells rc.slots := by
    refine ⟨?_, q2, q3, q4, q5, q6⟩
    obtain ⟨z, hz, -⟩ := State.frames_cons hr
    show ({ T with heap := t.heap, slotsUsed := t.slotsUsed } : State) = { T.setFrames T.frames with heap := t.heap, slotsUsed := t.slotsUsed }
    rw [State.setFrames_self hz]
  refine ⟨(({ T with heap := t.heap, slotsUsed := t.slotsUsed } : State).setVm t.vm), t, L, rfl, ⟨X.admits, X.cas, X.clock, X.frames, X.room, X.hears, X.method, X.code, (X.here.setHeapUsed t.heap t.slotsUsed).setVm hWT.alike, X.tail, State.WarmedH.trans X.warmed hWT, X.limits, X.bytes, X.same.trans (hsm.setVm s.vm)⟩, hq, hL, ?_⟩
  rw [← ht]
  exact hst
theorem jfinds {U : State} {g : JFrame} {x : ExceptionTableEntry} {a : Addr} {ce : Cell} {k1 : Class} (hm : U.vm.method? g.method = some meth) (hc : meth.code = some c) (hxt : c.exceptionTable.toList = [x]) (hcov : covers x g.pc = true) (h0 : x.catchType ≠ 0) (hlk : U.vm.ClassLinks e.platform g.method.cls x.catchType ce.cls) (hce : U.heap[a]? = some ce) (hvm : ce.vm = .none) (hk1 : (U.vm.noted g.method.cls x.catchType (.cls ce.cls)).classes[ce.cls]? = some k1) (hfit : (U.vm.noted g.method.cls x.catchType (.cls ce.cls)).assignable ce.cls ce.cls = true)
    (Q : Handler → Pre) (C : CtlPost) (d : Bool) (acts : List Action) : wp (findHandler g a) Q C e d acts U ↔ Q (.found x.handlerPc) d acts (U.setVm (U.vm.noted g.method.cls x.catchType (.cls ce.cls))) := by
  have hv : ∀ k, ce.vm ≠ .statics k := fun k h9 => by rw [hvm] at h9; cases h9
  obtain ⟨hres, hans⟩ := (resolveClass_links e.toSetting hlk).op (op := VmOp.resolveClass g.method.cls x.catchType) rfl
  rw [W.findHandler_eq hm hc, hxt]
  simp only [covers] at hcov
  simp [findHandler.go, hcov, h0, hres, hans, hce, hv, hk1, hfit, VmOp.dirties, VmOp.acts]
/-- the one row of the method's table takes the exception: the walk goes on at its handler, whether or not the row's type had been resolved -/
theorem jcaught (X : Stand p l e R s m args below meth c T locs cells slots) {a : Addr} {g : JFrame} (hg : g.method = m) {own cls : String} (hown : s.vm.findClass own = some m.cls) {x : ExceptionTableEntry} (hxt : c.exceptionTable.toList = [x]) (hcov : covers x g.pc = true) (h0 : x.catchType ≠ 0)
    (hlink : (Jvm.Cond.classLink own x.catchType cls).before args s = true) {ce : Cell} (hcls : s.vm.findClass cls = some ce.cls) (hce : T.heap[a]? = some ce) (hvm : ce.vm = .none) (hself : s.vm.assignable ce.cls ce.cls = true) :
    ∃ vm', Stand p l e R s m args below meth c (T.setVm vm') locs cells slots ∧ ∀ tg, Steps p.tables e below ((T.setVm vm').setTop { g with pc := x.handlerPc, stack := [.ref a] }) tg → Steps p.tables e below ((T.setTop g).pushFrame (.throwing a)) tg := by
  subst hg
  have hpl : e.platform.magicAccessors = ({} : Platform).magicAccessors := by rw [X.admits.platform]
  obtain ⟨cT, hcT, hlk⟩ := Cond.classLink_spec hown hlink e.platform hpl
  cases hcls.symm.trans hcT
  obtain ⟨dk, _, _, kt, hd, _, _, _, _, hkt, _, hfree⟩ := hlk.here
  have hlkT := X.warmed.classLinks hlk
  have hW' : s.WarmedH (T.vm.noted g.method.cls x.catchType (.cls ce.cls)) := X.warmed.noted hd hfree (State.rightAt_cls hlk)
  obtain ⟨k1, hk1, -⟩ := hW'.alike.2.2 _ _ hkt
  have hfit : (T.vm.noted g.method.cls x.catchType (.cls ce.cls)).assignable ce.cls ce.cls = true := by rw [hW'.alike.assignable]; exact hself
  refine ⟨T.vm.noted g.method.cls x.catchType (.cls ce.cls), X.noted hW', fun tg hrest => ?_⟩
  obtain ⟨hgo, hin⟩ := X.here.throwing a
  refine Steps.head hgo hin ?_
  obtain ⟨g0, hg0⟩ := Option.isSome_iff_exists.mp X.here.top
  obtain ⟨r, hr⟩ := State.topJava?_eq_some.mp hg0
  have hstep : (stepThrowing e ((T.setTop g).pushFrame (.throwing a)) a (.java g :: r)).Is ((((T.setTop g).pushFrame (.throwing a)).setVm (T.vm.noted g.method.cls x.catchType (.cls ce.cls))).setFrames (.java { g with pc := x.handlerPc, stack := [.ref a] } :: r)) [] := by
    have hfind : ∀ (Q : Handler → Pre) (C : CtlPost) (d : Bool) (acts : List Action), wp (findHandler g a) Q C e d acts ((T.setTop g).pushFrame (.throwing a)) ↔ Q (.found x.handlerPc) d acts (((T.setTop g).pushFrame (.throwing a)).setVm (T.vm.noted g.method.cls x.catchType (.cls ce.cls))) := jfinds (e := e) (U := (T.setTop g).pushFrame (.throwing a)) (a := a) (meth := meth) (c := c) X.method' X.code hxt hcov h0 hlkT hce hvm hk1 hfit
    simp only [stepThrowing, searchFrame, vmDo]
    generalize hgo9 : Sem.go _ e false [] ((T.setTop g).pushFrame (.throwing a)) = res
    obtain ⟨as, rfl, has⟩ := Sem.eq_ok_of hgo9 (a := Handler.found x.handlerPc) (s' := ((T.setTop g).pushFrame (.throwing a)).setVm (T.vm.noted g.method.cls x.catchType (.cls ce.cls))) (acts' := []) (by simp [hfind _ _ _ _])
    exact ⟨rfl, has⟩
  rw [stepThread_throwing (frames_entered X.here.top _), show T.frames.tail = r by rw [hr]; rfl, hstep.1]
  have hr' : (T.setVm (T.vm.noted g.method.cls x.catchType (.cls ce.cls))).frames = .java g0 :: r := hr
  rw [State.setTop_of_frames _ hr'] at hrest
  have e1 : (((T.setTop g).pushFrame (.throwing a)).setVm (T.vm.noted g.method.cls x.catchType (.cls ce.cls))).setFrames (.java { g with pc := x.handlerPc, stack := [.ref a] } :: r) = (T.setVm (T.vm.noted g.method.cls x.catchType (.cls ce.cls))).setFrames (.java { g with pc := x.handlerPc, stack := [.ref a] } :: r) := by
    rw [State.pushFrame, State.setTop_of_frames _ hr, State.setFrames_setFrames]
    exact State.setFrames_setFrames (T.setVm (T.vm.noted g.method.cls x.catchType (.cls ce.cls))) _ _
  rw [e1]
  exact hrest
end JTR
section JTC
variable {E : jE} {own : String} {Ts : List Jvm.Cond} {cl : List vw_C} {tb : jTb} {nL : Nat} {ini : Bool} {cc : ByteArray} {M : jM} {Q : State → Prop} {n cells slots : Nat}
/-- a method of an object of ours is called that throws; the exception is caught here -/
theorem jk_VT (X : jX E own Ts cl tb nL ini cc M) {rm rc : Room} (hR : M.2.2.2.1 = rm) (hTh : jTh E M.2.2.2.2.1) {pc i k ci a : Nat} {Y : jY} (hd : decode cc pc = .ok (.invokevirtual i, 3)) (hw : Jvm.Cond.methodLink own i Y.1 ∈ jTA Ts) (hm : jmth Ts Y k) (hin : Jvm.Cond.instanceMethod Y.1 ∈ jTA Ts) (hse : Jvm.Cond.selects Y.1.cls Y.1 Y.1 ∈ jTA Ts) {q : vw_C} (hq : cl[ci]? = some q) (hqc : q.1 = Y.1.cls) {lv : List (Option jv)} {r vals : List jv} {σ : Nat → jcell} {fs : List jv} (ha : a < n) (he : σ a = .inr (ci, fs)) {cls : String} (hM : jMetT M.2.1 E cl tb Ts Y rc (.inr (.inr (some (.inl a))) :: vals) σ n cls) {st : List jv} (hs : st = vals.reverse ++ .inr (.inr (some (.inl a))) :: r) (hk : vals.length = k)
    (hf : rc.frames + 1 ≤ rm.frames ∧ 8 + (Y.2.2.1 + 11) + rc.locals ≤ rm.locals) (hc : cells + rc.cells ≤ rm.cells ∧ slots + rc.slots ≤ rm.slots) (hz : (r.map jcat).sum ≤ 8)
    (x : ExceptionTableEntry) (hxt : M.2.2.2.2.2.2.2.2.2.exceptionTable.toList = [x]) (hcov : covers x pc = true) (h0 : x.catchType ≠ 0) (hl : Jvm.Cond.classLink own x.catchType cls ∈ jTA Ts) (hca : Jvm.Cond.castable cls cls ∈ jTx)
    (kk : jJ E cl nL M Q (n + 1) (cells + rc.cells) (slots + rc.slots) x.handlerPc lv [.inr (.inr (some (.inl n)))] (jup σ n jun)) : jJ E cl nL M Q n cells slots pc lv st σ := by
  subst hs
  obtain ⟨p, l, e, R, s, m, args, below, meth, c⟩ := M
  dsimp only at hR hTh hxt hM
  subst hR
  obtain ⟨hx, hb, hml, ho, hts, hK, -, -⟩ := X
  dsimp only at hx hb hml ho hts hK
  obtain ⟨h1, h2, h3, h4, h5⟩ := hm
  intro H locs ls hW hS hL
  dsimp only at hS ⊢
  have hP1 := jW_one hW ha (by rw [he]; trivial)
  rw [he] at hP1
  obtain ⟨cellB, hcB, hoB, hclB⟩ := va_recv hK.1 hP1 hq (q0 := 0) rfl
  rw [hqc] at hclB
  have hstk : ((vals.reverse ++ .inr (.inr (some (.inl a))) :: r).map (jc E)) = (vals.map (jc E)).reverse ++ .ref (E.2.2.2 + a) :: r.map (jc E) := by rw [List.map_append, List.map_reverse]; rfl
  intro T hT Xs
  obtain ⟨mk, methM, hnamed, hmethM, hstM, habM⟩ := Cond.instanceMethod_spec (hts _ hin)
  obtain ⟨methM', cM, hmethM', -, -, -, -, -, -, hsigM⟩ := Cond.code_spec hnamed (hts _ h1)
  cases hmethM.symm.trans hmethM'
  obtain ⟨c2, r2, m2, q1, q2, q3, q4, kP, hkP, hkPi⟩ := Cond.selects_spec (hts _ hse)
  cases hclB.symm.trans q1
  cases (State.methodFound?_of_named hnamed ⟨h3, h4⟩).symm.trans q2
  cases hnamed.symm.trans q3
  have hselP : selectMethod e.platform s.vm cellB.cls mk = .method mk := by rw [Launch.admits_selectMethod Xs.admits]; exact q4
  have hln : (vals.map (jc E)).length = methM.sig.parameters.length := by
    rw [hsigM] at h5
    rw [List.length_map, hk]
    exact (Option.some.inj h5).symm
  obtain ⟨vm₁, X₁, hstep₁⟩ := Xs.invokevirtual hx ho (hts _ hw) hnamed hmethM hstM hkP hkPi ⟨h3, h4⟩ (a := E.2.2.2 + a) (cell := cellB) (by rw [hT]; exact hcB)
    (fun z h => by rw [h] at hoB; cases hoB) hselP hmethM habM hkP hkPi (g := F0 m pc ls ((vals.reverse ++ .inr (.inr (some (.inl a))) :: r).map (jc E))) rfl (argsL := vals.map (jc E)) (rest := r.map (jc E)) hln hstk (by rw [hb]; exact hd)
  obtain ⟨kY, hkY, -⟩ := className_of_methodNamed (X₁.named hnamed)
  have hiY : kY.init = .initialized := Cond.initialized_spec (findClass_of_methodNamed (X₁.named hnamed)) hkY (word_at (a' := #[]) X₁.warmed (Or.inl (by first | rfl | simp [Jvm.Cond.onTables, Jvm.Cond.keeps, Jvm.Cond.steady])) (hts _ h2))
  obtain ⟨mY, cY, hmY, hcY, -, hlY, -, -, -, -⟩ := Cond.code_spec (X₁.named hnamed) (pay_in hts (jws_in h1) _ List.mem_cons_self #[] (T.setVm vm₁) X₁.warmed)
  have hpre : jPt E cl tb Ts (.inr (.inr (some (.inl a))) :: vals) σ n (Value.ref (E.2.2.2 + a) :: vals.map (jc E)).toArray (T.setVm vm₁) := ⟨⟨rfl, by show jW E cl σ n T.heap; rw [hT]; exact hW, jK_go hK hS (U := T.setVm vm₁) hT X₁.warmed⟩, jTh_go hTh hS (U := T.setVm vm₁) hT X₁.warmed⟩
  have happ : (headSpec (jws Ts Y) rc).appliesLoose Y.1 e.platform ((T.setVm vm₁).calling { F0 m pc ls ((vals.reverse ++ .inr (.inr (some (.inl a))) :: r).map (jc E)) with stack := r.map (jc E) } mk (Value.ref (E.2.2.2 + a) :: vals.map (jc E)).toArray) = true :=
    Spec.appliesLoose_calling (g := { F0 m pc ls ((vals.reverse ++ .inr (.inr (some (.inl a))) :: r).map (jc E)) with stack := r.map (jc E) }) X₁.here (by rw [hb]; exact hd) (X₁.named hnamed) hkY hiY
      (X₁.room_calling (g := { F0 m pc ls ((vals.reverse ++ .inr (.inr (some (.inl a))) :: r).map (jc E)) with stack := r.map (jc E) }) (R' := (headSpec (jws Ts Y) rc).room) (hL.1.trans hml.symm) hmY hcY hf.1 (by
        have h8 : 2 * (F0 m pc ls (r.map (jc E))).monitorRoom + ((r.map (jc E)).map fun v => v.category).sum ≤ 8 := lv_room (by rw [jcat_sum]; exact hz)
        have h9 := hf.2
        rw [hlY]
        show 2 * (F0 m pc ls (r.map (jc E))).monitorRoom + ((r.map (jc E)).map fun v => v.category).sum + (Y.2.2.1 + 11) + rc.locals ≤ R.locals
        omega) hc.1 hc.2)
      (atoms_intro fun w hw9 => pay_in hts (jws_in h1) w hw9 _ _ X₁.warmed)
  obtain ⟨U', t, L, e1, X', hq9, hL9, hsteps⟩ := jthrown hM X₁ (g := { F0 m pc ls ((vals.reverse ++ .inr (.inr (some (.inl a))) :: r).map (jc E)) with stack := r.map (jc E) }) rfl happ (jPt_blind _ _ _ _ hpre)
  obtain ⟨-, hW', ⟨ce, hce, hcv, hcc⟩, hF1, hF2⟩ := hq9
  obtain ⟨c3, cT, hc3, hcT, hasg⟩ := Cond.castable_spec (jTh_word (args := args) hTh _ hca)
  cases hc3.symm.trans hcT
  have hcc' : s.vm.findClass cls = some ce.cls := by
    have h9 : (T.setVm vm₁).vm.findClass cls = some ce.cls := hcc
    rw [X₁.warmed.alike.findClass] at h9
    exact h9
  cases hc3.symm.trans hcc'
  obtain ⟨vm', XV, stV⟩ := jcaught X' (a := E.2.2.2 + n) (g := { F0 m pc ls ((vals.reverse ++ .inr (.inr (some (.inl a))) :: r).map (jc E)) with stack := r.map (jc E) }) rfl ho hxt hcov h0 (hts _ hl) hcc' (by rw [e1]; exact hce) hcv hasg
  have hz1 : T.heap.size ≤ t.heap.size := hF1
  have hz2 : ∀ q : Nat, q < T.heap.size → ¬ jA E q → t.heap[q]? = T.heap[q]? := hF2
  obtain ⟨t9, a1, b1⟩ := kk U'.heap (locs ++ L) ls (by rw [e1]; exact hW') ⟨by
      have h7 := hS.1
      rw [e1]
      rw [← hT] at h7
      exact Nat.le_trans h7 hz1, fun q g1 g2 => by
      have h7 := hS.1
      rw [e1, hz2 q (by rw [hT]; exact Nat.lt_of_lt_of_le g1 h7) g2, hT]
      exact hS.2.1 q g1 g2, fun q hq8 => by
      rcases List.mem_append.mp hq8 with h | h
      · exact hS.2.2 q h
      · exact hL9 q h⟩ hL (U'.setVm vm') rfl XV
  refine ⟨t9, hstep₁ _ fun acts => ?_, b1⟩
  rw [doInvoke_state]
  exact hsteps.trans (stV t9 a1)
/-- a static method with an exception table is called -/
theorem jk_SW (X : jX E own Ts cl tb nL ini cc M) {rm rc : Room} (hR : M.2.2.2.1 = rm) (hTh : jTh E M.2.2.2.2.1) {pc i k : Nat} {Y : jY} {hh : List (Nat × Nat × Nat × Nat)} (hd : decode cc pc = .ok (.invokestatic i, 3)) (hw : Jvm.Cond.methodLink own i Y.1 ∈ jTA Ts) (hco : Jvm.Cond.codeWith Y.1 Y.2.1 Y.2.2.1 Y.2.2.2 hh ∈ jTA Ts) (hini : Jvm.Cond.initialized Y.1.cls ∈ jTA Ts) (hne : Y.1.cls ≠ "java/lang/invoke/MethodHandle" ∧ Y.1.cls ≠ "java/lang/invoke/VarHandle") (hpa : (parseMethodDescriptor Y.1.desc).map (fun d => d.parameters.length) = some k) (hst : Jvm.Cond.static Y.1 ∈ jTA Ts) {lv : List (Option jv)} {r vals : List jv} {σ : Nat → jcell} {post : jPo} (hM : jMetW M.2.1 E cl tb Ts Y hh rc vals σ n post) {st : List jv} (hs : st = vals.reverse ++ r) (hk : vals.length = k)
    (hf : rc.frames + 1 ≤ rm.frames ∧ 8 + (Y.2.2.1 + 11) + rc.locals ≤ rm.locals) (hc : cells + rc.cells ≤ rm.cells ∧ slots + rc.slots ≤ rm.slots) (hz : (r.map jcat).sum ≤ 8)
    (kk : ∀ (v : Option jv) (σ' : Nat → jcell) (n' : Nat), post v σ' n' → jJ E cl nL M Q n' (cells + rc.cells) (slots + rc.slots) (pc + 3) lv (v.toList ++ r) σ') : jJ E cl nL M Q n cells slots pc lv st σ := by
  subst hs
  obtain ⟨p, l, e, R, s, m, args, below, meth, c⟩ := M
  dsimp only at hR hTh hM
  subst hR
  obtain ⟨hx, hb, hml, ho, hts, hK, -, -⟩ := X
  dsimp only at hx hb hml ho hts hK
  intro H locs ls hW hS hL
  dsimp only at hS ⊢
  have hgood : GoodIn (jTA Ts) (jwsW Ts Y hh) := by
    intro w hw9
    rcases List.mem_cons.mp hw9 with rfl | hw9
    · exact ⟨hco, jgood_or (List.mem_filter.mp hco).2⟩
    · exact ⟨hw9, jgood_or (List.mem_filter.mp hw9).2⟩
  have hstk : ((vals.reverse ++ r).map (jc E)) = (vals.map (jc E)).reverse ++ r.map (jc E) := by rw [List.map_append, List.map_reverse]
  have hgo : ∀ (v : Option jv) (σ' : Nat → jcell) (n' : Nat), post v σ' n' → ∀ (H1 : Heap) (locs1 : List Loc), jW E cl σ' n' H1 → va_S (jA E) s.heap H1 locs1 → W p l e R s m args below meth c H1 locs1 (cells + rc.cells) (slots + rc.slots) Q (F0 m (pc + 3) ls ((v.map (jc E)).toList ++ r.map (jc E))) := by
    intro v σ' n' hp H1 locs1 hW1 hS1
    have h := kk v σ' n' hp H1 locs1 ls hW1 hS1 hL
    have e1 : (v.toList ++ r).map (jc E) = (v.map (jc E)).toList ++ r.map (jc E) := by cases v <;> simp
    rw [e1] at h
    exact h
  have hBk : Back l R p e below s args Y.1 3 8 (PreOf R rc.cells rc.slots (jPt E cl tb Ts vals σ n)) (PostOf (jQc E cl post) rc.cells rc.slots (jA E)) := va_backW (hh := hh) (bytes := Y.2.1) (maxL := Y.2.2.1) (ret := Y.2.2.2) hM jPt_blind rfl rfl hf.1 hf.2 (pay_in hts hgood) List.mem_cons_self (fun a' U hW9 => word_at hW9 (Or.inl (by first | rfl | simp [Jvm.Cond.onTables, Jvm.Cond.keeps, Jvm.Cond.steady])) (hts _ hini))
  obtain ⟨mk, methM, cM, hnamed, hmethM, -, -, -, -, -, -, hsigM⟩ := Cond.codeWith_spec (hts _ hco)
  have hstatic : methM.isStatic = true := Cond.static_spec hnamed hmethM (hts _ hst)
  obtain ⟨kP, hkP, -⟩ := className_of_methodNamed hnamed
  have hinitP : kP.init = .initialized := Cond.initialized_spec (findClass_of_methodNamed hnamed) hkP (hts _ hini)
  have hln : (vals.map (jc E)).length = methM.sig.parameters.length := by
    rw [hsigM] at hpa
    rw [List.length_map, hk]
    exact (Option.some.inj hpa).symm
  have hrun : va_Run p l e R s m args below meth c H locs cells slots rc.cells rc.slots (F0 m pc ls ((vals.reverse ++ r).map (jc E))) (r.map (jc E)) (jQc E cl post (vals.map (jc E)).toArray) (jA E) := by
    intro T hT Xs
    obtain ⟨vm₁, X₁, hstep₁⟩ := Xs.invokestatic hx ho (hts _ hw) hnamed hmethM hstatic hkP hinitP hne (g := F0 m pc ls ((vals.reverse ++ r).map (jc E))) rfl (argsL := vals.map (jc E)) (rest := r.map (jc E)) hln hstk (by rw [hb]; exact hd)
    obtain ⟨v, ⟨U', l2, c2, s2⟩, X', ⟨g', mk', t, L, e1, e2, hq, h1, hL9, h2, h3⟩, hsteps⟩ := hBk m meth c ⟨T.setVm vm₁, locs, cells, slots⟩ { F0 m pc ls ((vals.reverse ++ r).map (jc E)) with stack := r.map (jc E) } (.invokestatic i) mk (vals.map (jc E)).toArray X₁ rfl (hL.1.trans hml.symm) (by rw [hb]; exact hd)
      (lv_room (by rw [jcat_sum]; exact hz)) (X₁.named hnamed) ⟨hc.1, hc.2, ⟨rfl, by show jW E cl σ n T.heap; rw [hT]; exact hW, jK_go hK hS (U := T.setVm vm₁) hT X₁.warmed⟩, jTh_go hTh hS (U := T.setVm vm₁) hT X₁.warmed⟩
    dsimp only [Pt.U, Pt.locs, Pt.cells, Pt.slots] at X' e1 e2 h1 h2 h3 hsteps
    subst h1; subst h2; subst h3
    exact ⟨v, (T.setVm vm₁).calling g' mk' (vals.map (jc E)).toArray, t, U', L, hT, X', hL9, e1, e2, hq, fun target h => hstep₁ _ fun acts => by rw [doInvoke_state]; exact hsteps.trans h⟩
  exact jk_after hrun hS hgo
theorem jk_SWg (X : jX E own Ts cl tb nL ini cc M) {rm rc : Room} (hR : M.2.2.2.1 = rm) (hTh : jTh E M.2.2.2.2.1) {pc i k : Nat} {Y : jY} {hh : List (Nat × Nat × Nat × Nat)} (hd : decode cc pc = .ok (.invokestatic i, 3)) (hw : Jvm.Cond.methodLink own i Y.1 ∈ jTA Ts) (hco : Jvm.Cond.codeWith Y.1 Y.2.1 Y.2.2.1 Y.2.2.2 hh ∈ jTA Ts) (hini : Jvm.Cond.initialized Y.1.cls ∈ jTA Ts) (hne : Y.1.cls ≠ "java/lang/invoke/MethodHandle" ∧ Y.1.cls ≠ "java/lang/invoke/VarHandle") (hpa : (parseMethodDescriptor Y.1.desc).map (fun d => d.parameters.length) = some k) (hst : Jvm.Cond.static Y.1 ∈ jTA Ts) {lv : List (Option jv)} {r vals : List jv} {σ : Nat → jcell} {post : jPo} (hM : jMetW M.2.1 E cl tb Ts Y hh rc vals σ n post) {st : List jv} (hs : st = vals.reverse ++ r) (hk : vals.length = k)
    (hf : rc.frames + 1 ≤ rm.frames ∧ 8 + (Y.2.2.1 + 11) + rc.locals ≤ rm.locals) {c' s' : Nat} (hc' : cells + rc.cells = c') (hs' : slots + rc.slots = s') (hc : c' ≤ rm.cells ∧ s' ≤ rm.slots) (hz : (r.map jcat).sum ≤ 8) {pc' : Nat} (hp : pc + 3 = pc')
    (kk : ∀ (v : Option jv) (σ' : Nat → jcell) (n' : Nat), post v σ' n' → jJ E cl nL M Q n' c' s' pc' lv (v.toList ++ r) σ') : jJ E cl nL M Q n cells slots pc lv st σ := by
  subst hc'; subst hs'; subst hp
  exact jk_SW X hR hTh hd hw hco hini hne hpa hst hM hs hk hf hc hz kk
/-- the script is read -/
theorem jk_sld (X : jX E own Ts cl tb nL ini cc M) {pc : Nat} (hd : decode cc pc = .ok (.iaload, 1)) {j L : Nat} {xs : Nat → Int32} (hX : va_X (E.2.2.1 j) L xs M.2.2.2.2.1 M.2.2.2.2.1.heap) (hbl : E.2.2.1 j < E.2.2.2) {i : Int32} (hi : vp_in i L) {lv : List (Option jv)} {r : List jv} {σ : Nat → jcell} (k : jJ E cl nL M Q n cells slots (pc + 1) lv (.inl (xs i.toNatClampNeg) :: r) σ) : jJ E cl nL M Q n cells slots pc lv (.inl i :: .inr (.inr (some (.inr j))) :: r) σ := by
  obtain ⟨p, l, e, R, s, m, args, below, meth, c⟩ := M
  obtain ⟨hx, hb, -⟩ := X
  dsimp only at hx hb hX
  intro H locs ls hW hS hL
  dsimp only at hS ⊢
  have hlt : E.2.2.1 j < s.heap.size := by
    obtain ⟨scr, h1, -⟩ := hX
    exact (Array.getElem?_eq_some_iff.mp h1).1
  obtain ⟨scr, h1, h2, h3, h4, h5⟩ := hX.kept (hS.2.1 _ hlt (fun h9 => absurd h9 (Nat.not_le.mpr hbl)))
  have h8 : ¬ (i < 0 ∨ L ≤ i.toNatClampNeg) := hi
  exact W.iald (g := F0 m pc ls ((.inl i :: .inr (.inr (some (.inr j))) :: r : List jv).map (jc E))) hx hb h1 h2 h3 (by rw [h4]; exact h8) (h5 _ (by omega)) rfl rfl hd (k H locs ls hW hS hL)
theorem jk_slen (X : jX E own Ts cl tb nL ini cc M) {pc : Nat} (hd : decode cc pc = .ok (.arraylength, 1)) {j L : Nat} {xs : Nat → Int32} (hX : va_X (E.2.2.1 j) L xs M.2.2.2.2.1 M.2.2.2.2.1.heap) (hbl : E.2.2.1 j < E.2.2.2) {lv : List (Option jv)} {r : List jv} {σ : Nat → jcell} (k : jJ E cl nL M Q n cells slots (pc + 1) lv (.inl (Int32.ofNat L) :: r) σ) : jJ E cl nL M Q n cells slots pc lv (.inr (.inr (some (.inr j))) :: r) σ := by
  obtain ⟨p, l, e, R, s, m, args, below, meth, c⟩ := M
  obtain ⟨hx, hb, -⟩ := X
  dsimp only at hx hb hX
  intro H locs ls hW hS hL
  dsimp only at hS ⊢
  have hlt : E.2.2.1 j < s.heap.size := by
    obtain ⟨scr, h1, -⟩ := hX
    exact (Array.getElem?_eq_some_iff.mp h1).1
  obtain ⟨scr, h1, h2, h3, h4, h5⟩ := hX.kept (hS.2.1 _ hlt (fun h9 => absurd h9 (Nat.not_le.mpr hbl)))
  exact W.alen (g := F0 m pc ls ((.inr (.inr (some (.inr j))) :: r : List jv).map (jc E))) (n := Int32.ofNat L) hx hb h1 h2 (by rw [h4]) rfl rfl hd (k H locs ls hW hS hL)
end JTC
end
section
/-! the words of a throw, the roads that throw, and the law's own helpers -/
theorem jTw_of {Ts : List Jvm.Cond} {own cls : String} {ic : Nat} {names : List String} (is : List Nat) (h : is.map (fun i => Ts[i]?) = ((Bundle.ownAtoms0 own ic cls names).filter (fun a => !decide (a ∈ jTx))).map some) (hg : ((Bundle.ownAtoms0 own ic cls names).filter (fun a => !decide (a ∈ jTx))).all jgood = true) : jTw Ts own ic cls names := by
  intro a ha
  by_cases hn : a ∈ jTx
  · exact Or.inr hn
  · left
    have h0 : a ∈ (Bundle.ownAtoms0 own ic cls names).filter (fun a => !decide (a ∈ jTx)) := List.mem_filter.mpr ⟨ha, by simp [hn]⟩
    have h1 : some a ∈ is.map (fun i => Ts[i]?) := by rw [h]; exact List.mem_map.mpr ⟨a, h0, rfl⟩
    obtain ⟨i, -, hi⟩ := List.mem_map.mp h1
    exact List.mem_filter.mpr ⟨List.mem_of_getElem? hi, List.all_eq_true.mp hg a h0⟩
theorem jtab1 {l : List ExceptionTableEntry} {a b c d : Nat} (h : l.map (fun h => (h.startPc, h.endPc, h.handlerPc, h.catchType)) = [(a, b, c, d)]) : l = [⟨a, b, c, d⟩] := by
  match l, h with
  | [x], h =>
    obtain ⟨x1, x2, x3, x4⟩ := x
    simp only [List.map_cons, List.map_nil, List.cons.injEq, Prod.mk.injEq, and_true] at h
    obtain ⟨rfl, rfl, rfl, rfl⟩ := h
    rfl
theorem tw_iae : jTw lw_tbl "ChessHouse" 101 "java/lang/IllegalArgumentException" ["java/lang/RuntimeException", "java/lang/Exception"] := jTw_of [317, 893, 902, 906, 909, 911, 894, 895, 340, 341, 896, 901, 907, 923, 883, 924, 885, 925, 887, 897, 899, 889, 956, 957, 958, 916, 916, 917, 918, 919, 919, 920, 921, 894, 955, 947, 949, 904, 950, 951, 952, 953, 892, 891, 954] (by decide +kernel) (by decide +kernel)
theorem tw_iob : jTw lw_tbl "ChessHouse" 128 "java/lang/IndexOutOfBoundsException" ["java/lang/RuntimeException", "java/lang/Exception"] := jTw_of [317, 893, 902, 906, 909, 911, 894, 895, 340, 341, 896, 901, 907, 923, 883, 924, 885, 925, 887, 897, 899, 889, 1896, 1897, 1898, 916, 916, 917, 918, 919, 919, 920, 921, 894, 1895, 1887, 1889, 905, 1890, 1891, 1892, 1893, 892, 891, 1894] (by decide +kernel) (by decide +kernel)
noncomputable def y_LA_feed : jY := (⟨"ChessHouseLaw", "feed", "(LChessHouse;IIIII)I"⟩, method_3_code, 7, (some .int))
theorem w_LA_feed : Jvm.Cond.codeWith y_LA_feed.1 y_LA_feed.2.1 y_LA_feed.2.2.1 y_LA_feed.2.2.2 [(0, 11, 14, 13)] ∈ jTA lw_tbl := jTA_in (wi := 865) (by decide +kernel) rfl
theorem n_LA_feed : Jvm.Cond.initialized y_LA_feed.1.cls ∈ jTA lw_tbl := jTA_in (wi := 301) (by decide +kernel) rfl
theorem s_LA_feed : Jvm.Cond.static y_LA_feed.1 ∈ jTA lw_tbl := jTA_in (wi := 864) (by decide +kernel) rfl
noncomputable def kk_LA_feed_0 : List jI := [(.aload_n 0, 1, (0, 0, 0, 0, 0)), (.iload_n 1, 1, (1, 0, 0, 0, 0)), (.iload_n 2, 1, (2, 0, 0, 0, 0)), (.iload_n 3, 1, (3, 0, 0, 0, 0)), (.iload 4, 2, (4, 0, 0, 0, 0)), (.iload 5, 2, (5, 0, 0, 0, 0)), (.invokevirtual 7, 3, (0, 0, 0, 0, 0)), (.goto 7, 3, (18, 0, 0, 0, 0)), (.astore 6, 2, (6, 0, 0, 0, 0)), (.iconst 1, 1, (0, 0, 0, 1, 0)), (.ireturn, 1, (0, 0, 0, 0, 0)), (.iconst 0, 1, (0, 0, 0, 0, 0)), (.ireturn, 1, (0, 0, 0, 0, 0))]
theorem oo_LA_feed_0 : jokL "ChessHouseLaw" lw_tbl jcl jtb 7 false method_3_code 0 kk_LA_feed_0 = true := by decide +kernel
noncomputable def k_LA_feed_0 : List jI := [(.aload_n 0, 1, (0, 0, 0, 0, 0)), (.iload_n 1, 1, (1, 0, 0, 0, 0)), (.iload_n 2, 1, (2, 0, 0, 0, 0)), (.iload_n 3, 1, (3, 0, 0, 0, 0)), (.iload 4, 2, (4, 0, 0, 0, 0)), (.iload 5, 2, (5, 0, 0, 0, 0))]
theorem o_LA_feed_0 : jokL "ChessHouseLaw" lw_tbl jcl jtb 7 false method_3_code 0 k_LA_feed_0 = true := jok_sub oo_LA_feed_0 0 6 rfl rfl
noncomputable def k_LA_feed_11 : List jI := [(.goto 7, 3, (18, 0, 0, 0, 0))]
theorem o_LA_feed_11 : jokL "ChessHouseLaw" lw_tbl jcl jtb 7 false method_3_code 11 k_LA_feed_11 = true := jok_sub oo_LA_feed_0 7 1 rfl rfl
noncomputable def k_LA_feed_14 : List jI := [(.astore 6, 2, (6, 0, 0, 0, 0)), (.iconst 1, 1, (0, 0, 0, 1, 0))]
theorem o_LA_feed_14 : jokL "ChessHouseLaw" lw_tbl jcl jtb 7 false method_3_code 14 k_LA_feed_14 = true := jok_sub oo_LA_feed_0 8 2 rfl rfl
noncomputable def k_LA_feed_18 : List jI := [(.iconst 0, 1, (0, 0, 0, 0, 0))]
theorem o_LA_feed_18 : jokL "ChessHouseLaw" lw_tbl jcl jtb 7 false method_3_code 18 k_LA_feed_18 = true := jok_sub oo_LA_feed_0 11 1 rfl rfl
theorem d_LA_feed_8 : decode method_3_code 8 = .ok (.invokevirtual 7, 3) := by decide +kernel
theorem q_LA_feed_8 : jlm lw_tbl 867 "ChessHouseLaw" 7 ⟨"ChessHouse", "feed", "(IIIII)V"⟩ = true := by decide +kernel
theorem d_LA_feed_17 : decode method_3_code 17 = .ok (.ireturn, 1) := by decide +kernel
theorem d_LA_feed_19 : decode method_3_code 19 = .ok (.ireturn, 1) := by decide +kernel
noncomputable def y_LA_end : jY := (⟨"ChessHouseLaw", "end", "(LChessHouse;I[J)I"⟩, method_4_code, 4, (some .int))
theorem w_LA_end : Jvm.Cond.codeWith y_LA_end.1 y_LA_end.2.1 y_LA_end.2.2.1 y_LA_end.2.2.2 [(0, 9, 12, 19)] ∈ jTA lw_tbl := jTA_in (wi := 940) (by decide +kernel) rfl
theorem n_LA_end : Jvm.Cond.initialized y_LA_end.1.cls ∈ jTA lw_tbl := jTA_in (wi := 301) (by decide +kernel) rfl
theorem s_LA_end : Jvm.Cond.static y_LA_end.1 ∈ jTA lw_tbl := jTA_in (wi := 939) (by decide +kernel) rfl
noncomputable def kk_LA_end_0 : List jI := [(.aload_n 2, 1, (2, 0, 0, 0, 0)), (.iconst 0, 1, (0, 0, 0, 0, 0)), (.aload_n 0, 1, (0, 0, 0, 0, 0)), (.iload_n 1, 1, (1, 0, 0, 0, 0)), (.invokevirtual 15, 3, (0, 0, 0, 0, 0)), (.i2l, 1, (0, 0, 0, 0, 0)), (.lastore, 1, (0, 0, 0, 0, 0)), (.goto 6, 3, (15, 0, 0, 0, 0)), (.astore_n 3, 1, (3, 0, 0, 0, 0)), (.iconst 1, 1, (0, 0, 0, 1, 0)), (.ireturn, 1, (0, 0, 0, 0, 0)), (.iconst 0, 1, (0, 0, 0, 0, 0)), (.ireturn, 1, (0, 0, 0, 0, 0))]
theorem oo_LA_end_0 : jokL "ChessHouseLaw" lw_tbl jcl jtb 4 false method_4_code 0 kk_LA_end_0 = true := by decide +kernel
noncomputable def k_LA_end_0 : List jI := [(.aload_n 2, 1, (2, 0, 0, 0, 0)), (.iconst 0, 1, (0, 0, 0, 0, 0)), (.aload_n 0, 1, (0, 0, 0, 0, 0)), (.iload_n 1, 1, (1, 0, 0, 0, 0))]
theorem o_LA_end_0 : jokL "ChessHouseLaw" lw_tbl jcl jtb 4 false method_4_code 0 k_LA_end_0 = true := jok_sub oo_LA_end_0 0 4 rfl rfl
noncomputable def k_LA_end_7 : List jI := [(.i2l, 1, (0, 0, 0, 0, 0)), (.lastore, 1, (0, 0, 0, 0, 0)), (.goto 6, 3, (15, 0, 0, 0, 0))]
theorem o_LA_end_7 : jokL "ChessHouseLaw" lw_tbl jcl jtb 4 false method_4_code 7 k_LA_end_7 = true := jok_sub oo_LA_end_0 5 3 rfl rfl
noncomputable def k_LA_end_12 : List jI := [(.astore_n 3, 1, (3, 0, 0, 0, 0)), (.iconst 1, 1, (0, 0, 0, 1, 0))]
theorem o_LA_end_12 : jokL "ChessHouseLaw" lw_tbl jcl jtb 4 false method_4_code 12 k_LA_end_12 = true := jok_sub oo_LA_end_0 8 2 rfl rfl
noncomputable def k_LA_end_15 : List jI := [(.iconst 0, 1, (0, 0, 0, 0, 0))]
theorem o_LA_end_15 : jokL "ChessHouseLaw" lw_tbl jcl jtb 4 false method_4_code 15 k_LA_end_15 = true := jok_sub oo_LA_end_0 11 1 rfl rfl
theorem d_LA_end_4 : decode method_4_code 4 = .ok (.invokevirtual 15, 3) := by decide +kernel
theorem q_LA_end_4 : jlm lw_tbl 942 "ChessHouseLaw" 15 ⟨"ChessHouse", "end", "(I)I"⟩ = true := by decide +kernel
theorem d_LA_end_14 : decode method_4_code 14 = .ok (.ireturn, 1) := by decide +kernel
theorem d_LA_end_16 : decode method_4_code 16 = .ok (.ireturn, 1) := by decide +kernel
noncomputable def y_LA_out : jY := (⟨"ChessHouseLaw", "out", "(LChessHouse;I[J)I"⟩, method_5_code, 4, (some .int))
theorem w_LA_out : Jvm.Cond.codeWith y_LA_out.1 y_LA_out.2.1 y_LA_out.2.2.1 y_LA_out.2.2.2 [(0, 9, 12, 24)] ∈ jTA lw_tbl := jTA_in (wi := 1880) (by decide +kernel) rfl
theorem n_LA_out : Jvm.Cond.initialized y_LA_out.1.cls ∈ jTA lw_tbl := jTA_in (wi := 301) (by decide +kernel) rfl
theorem s_LA_out : Jvm.Cond.static y_LA_out.1 ∈ jTA lw_tbl := jTA_in (wi := 1879) (by decide +kernel) rfl
noncomputable def kk_LA_out_0 : List jI := [(.aload_n 2, 1, (2, 0, 0, 0, 0)), (.iconst 0, 1, (0, 0, 0, 0, 0)), (.aload_n 0, 1, (0, 0, 0, 0, 0)), (.iload_n 1, 1, (1, 0, 0, 0, 0)), (.invokevirtual 21, 3, (0, 0, 0, 0, 0)), (.i2l, 1, (0, 0, 0, 0, 0)), (.lastore, 1, (0, 0, 0, 0, 0)), (.goto 6, 3, (15, 0, 0, 0, 0)), (.astore_n 3, 1, (3, 0, 0, 0, 0)), (.iconst 1, 1, (0, 0, 0, 1, 0)), (.ireturn, 1, (0, 0, 0, 0, 0)), (.iconst 0, 1, (0, 0, 0, 0, 0)), (.ireturn, 1, (0, 0, 0, 0, 0))]
theorem oo_LA_out_0 : jokL "ChessHouseLaw" lw_tbl jcl jtb 4 false method_5_code 0 kk_LA_out_0 = true := by decide +kernel
noncomputable def k_LA_out_0 : List jI := [(.aload_n 2, 1, (2, 0, 0, 0, 0)), (.iconst 0, 1, (0, 0, 0, 0, 0)), (.aload_n 0, 1, (0, 0, 0, 0, 0)), (.iload_n 1, 1, (1, 0, 0, 0, 0))]
theorem o_LA_out_0 : jokL "ChessHouseLaw" lw_tbl jcl jtb 4 false method_5_code 0 k_LA_out_0 = true := jok_sub oo_LA_out_0 0 4 rfl rfl
noncomputable def k_LA_out_7 : List jI := [(.i2l, 1, (0, 0, 0, 0, 0)), (.lastore, 1, (0, 0, 0, 0, 0)), (.goto 6, 3, (15, 0, 0, 0, 0))]
theorem o_LA_out_7 : jokL "ChessHouseLaw" lw_tbl jcl jtb 4 false method_5_code 7 k_LA_out_7 = true := jok_sub oo_LA_out_0 5 3 rfl rfl
noncomputable def k_LA_out_12 : List jI := [(.astore_n 3, 1, (3, 0, 0, 0, 0)), (.iconst 1, 1, (0, 0, 0, 1, 0))]
theorem o_LA_out_12 : jokL "ChessHouseLaw" lw_tbl jcl jtb 4 false method_5_code 12 k_LA_out_12 = true := jok_sub oo_LA_out_0 8 2 rfl rfl
noncomputable def k_LA_out_15 : List jI := [(.iconst 0, 1, (0, 0, 0, 0, 0))]
theorem o_LA_out_15 : jokL "ChessHouseLaw" lw_tbl jcl jtb 4 false method_5_code 15 k_LA_out_15 = true := jok_sub oo_LA_out_0 11 1 rfl rfl
theorem d_LA_out_4 : decode method_5_code 4 = .ok (.invokevirtual 21, 3) := by decide +kernel
theorem q_LA_out_4 : jlm lw_tbl 1882 "ChessHouseLaw" 21 ⟨"ChessHouse", "out", "(I)I"⟩ = true := by decide +kernel
theorem d_LA_out_14 : decode method_5_code 14 = .ok (.ireturn, 1) := by decide +kernel
theorem d_LA_out_16 : decode method_5_code 16 = .ok (.ireturn, 1) := by decide +kernel
end
section
/-! moves on the board, to the last man -/
noncomputable def y_BO_lift : jY := (⟨"ChessHouse$Board", "lift", "(I)V"⟩, prog_3_method_9_code, 3, none)
theorem m_BO_lift : jmth lw_tbl y_BO_lift 1 := ⟨jTA_in (wi := 1289) (jtF_ok rfl) rfl, jTA_in (wi := 312) (jtF_ok rfl) rfl, by decide, by decide, by decide +kernel⟩
theorem i_BO_lift : Jvm.Cond.instanceMethod y_BO_lift.1 ∈ jTA lw_tbl := jTA_in (wi := 1288) (jtF_ok rfl) rfl
theorem e_BO_lift : Jvm.Cond.selects y_BO_lift.1.cls y_BO_lift.1 y_BO_lift.1 ∈ jTA lw_tbl := jTA_in (wi := 31) (jtF_ok rfl) rfl
noncomputable def y_BO_passedPawn : jY := (⟨"ChessHouse$Board", "passedPawn", "()I"⟩, prog_3_method_14_code, 1, (some .int))
theorem m_BO_passedPawn : jmth lw_tbl y_BO_passedPawn 0 := ⟨jTA_in (wi := 1182) (jtF_ok rfl) rfl, jTA_in (wi := 312) (jtF_ok rfl) rfl, by decide, by decide, by decide +kernel⟩
theorem i_BO_passedPawn : Jvm.Cond.instanceMethod y_BO_passedPawn.1 ∈ jTA lw_tbl := jTA_in (wi := 1181) (jtF_ok rfl) rfl
theorem e_BO_passedPawn : Jvm.Cond.selects y_BO_passedPawn.1.cls y_BO_passedPawn.1 y_BO_passedPawn.1 ∈ jTA lw_tbl := jTA_in (wi := 17) (jtF_ok rfl) rfl
noncomputable def y_BO_passedBy : jY := (⟨"ChessHouse$Board", "passedBy", "(II)I"⟩, prog_3_method_22_code, 5, (some .int))
theorem m_BO_passedBy : jmth lw_tbl y_BO_passedBy 2 := ⟨jTA_in (wi := 1312) (jtF_ok rfl) rfl, jTA_in (wi := 312) (jtF_ok rfl) rfl, by decide, by decide, by decide +kernel⟩
theorem i_BO_passedBy : Jvm.Cond.instanceMethod y_BO_passedBy.1 ∈ jTA lw_tbl := jTA_in (wi := 1311) (jtF_ok rfl) rfl
theorem e_BO_passedBy : Jvm.Cond.selects y_BO_passedBy.1.cls y_BO_passedBy.1 y_BO_passedBy.1 ∈ jTA lw_tbl := jTA_in (wi := 33) (jtF_ok rfl) rfl
noncomputable def y_BO_make : jY := (⟨"ChessHouse$Board", "make", "(I)J"⟩, prog_3_method_21_code, 11, (some .long))
theorem m_BO_make : jmth lw_tbl y_BO_make 1 := ⟨jTA_in (wi := 1306) (jtF_ok rfl) rfl, jTA_in (wi := 312) (jtF_ok rfl) rfl, by decide, by decide, by decide +kernel⟩
theorem i_BO_make : Jvm.Cond.instanceMethod y_BO_make.1 ∈ jTA lw_tbl := jTA_in (wi := 1304) (jtF_ok rfl) rfl
theorem e_BO_make : Jvm.Cond.selects y_BO_make.1.cls y_BO_make.1 y_BO_make.1 ∈ jTA lw_tbl := jTA_in (wi := 1305) (jtF_ok rfl) rfl
noncomputable def y_BO_unmake : jY := (⟨"ChessHouse$Board", "unmake", "(IJ)V"⟩, prog_3_method_23_code, 9, none)
theorem m_BO_unmake : jmth lw_tbl y_BO_unmake 2 := ⟨jTA_in (wi := 1285) (jtF_ok rfl) rfl, jTA_in (wi := 312) (jtF_ok rfl) rfl, by decide, by decide, by decide +kernel⟩
theorem i_BO_unmake : Jvm.Cond.instanceMethod y_BO_unmake.1 ∈ jTA lw_tbl := jTA_in (wi := 1283) (jtF_ok rfl) rfl
theorem e_BO_unmake : Jvm.Cond.selects y_BO_unmake.1.cls y_BO_unmake.1 y_BO_unmake.1 ∈ jTA lw_tbl := jTA_in (wi := 1284) (jtF_ok rfl) rfl
/-- the rows that a move never touches -/
noncomputable def bKeep (A A' : Nat → Nat → Int32) (L L' : Nat → Nat → Int64) : Prop := A' 6 = A 6 ∧ A' 7 = A 7 ∧ A' 8 = A 8 ∧ A' 10 = A 10 ∧ L' 9 = L 9
theorem bKeep.tr {A A' A2 : Nat → Nat → Int32} {L L' L2 : Nat → Nat → Int64} (h : bKeep A A' L L') (k : bKeep A' A2 L' L2) : bKeep A A2 L L2 := ⟨k.1.trans h.1, k.2.1.trans h.2.1, k.2.2.1.trans h.2.2.1, k.2.2.2.1.trans h.2.2.2.1, k.2.2.2.2.trans h.2.2.2.2⟩
/-- what a man is worth, and the men of one side -/
noncomputable def bW (W : Nat → Int32) (c : Nat) (m : Int32) (i : Nat) : Int32 := if m.toNatClampNeg = 0 then 0 else if m.toNatClampNeg / 8 = c then W (64 * m.toNatClampNeg + i) else 0
noncomputable def bSn (W : Nat → Int32) (c : Nat) (men : Nat → Int32) : Nat → Int32
  | 0 => 0
  | k + 1 => bSn W c men k + bW W c (men k) k
noncomputable def bPP (F : Nat → Int32) : Int32 := if F 2 = 0 then F 4 - 8 else F 4 + 8
end
section
end
section
noncomputable def bQ (mm b : Nat) : Nat := if b = 0 then mm else mm / 8 * 8 + b
noncomputable def bWh (men F : Nat → Int32) (f t : Nat) : Int32 := if men f &&& 7 = 1 ∧ nI t = F 4 then bPP F else nI t
end
end
section
section
/-! what takes a move back: its bits -/
end
section
/-! the tables of the board, and what attacks a square -/
noncomputable def y_BO_attacked : jY := (⟨"ChessHouse$Board", "attacked", "(II)Z"⟩, prog_3_method_10_code, 10, (some .boolean))
theorem m_BO_attacked : jmth lw_tbl y_BO_attacked 2 := ⟨jTA_in (wi := 1170) (jtF_ok rfl) rfl, jTA_in (wi := 312) (jtF_ok rfl) rfl, by decide, by decide, by decide +kernel⟩
theorem i_BO_attacked : Jvm.Cond.instanceMethod y_BO_attacked.1 ∈ jTA lw_tbl := jTA_in (wi := 1168) (jtF_ok rfl) rfl
theorem e_BO_attacked : Jvm.Cond.selects y_BO_attacked.1.cls y_BO_attacked.1 y_BO_attacked.1 ∈ jTA lw_tbl := jTA_in (wi := 1169) (jtF_ok rfl) rfl
noncomputable def y_BO_inCheck : jY := (⟨"ChessHouse$Board", "inCheck", "()Z"⟩, prog_3_method_11_code, 1, (some .boolean))
theorem m_BO_inCheck : jmth lw_tbl y_BO_inCheck 0 := ⟨jTA_in (wi := 1419) (jtF_ok rfl) rfl, jTA_in (wi := 312) (jtF_ok rfl) rfl, by decide, by decide, by decide +kernel⟩
theorem i_BO_inCheck : Jvm.Cond.instanceMethod y_BO_inCheck.1 ∈ jTA lw_tbl := jTA_in (wi := 1417) (jtF_ok rfl) rfl
theorem e_BO_inCheck : Jvm.Cond.selects y_BO_inCheck.1.cls y_BO_inCheck.1 y_BO_inCheck.1 ∈ jTA lw_tbl := jTA_in (wi := 1418) (jtF_ok rfl) rfl
noncomputable def knB (s t : Nat) : Bool := let a : Int := (t % 8 : Nat) - (s % 8 : Nat); let b : Int := (t / 8 : Nat) - (s / 8 : Nat); a * a + b * b == 5
noncomputable def hpL (s : Nat) : List Nat := (List.range 64).filter (knB s)
noncomputable def hT (i : Nat) : Int32 := match (hpL (i / 8))[i % 8]? with
  | some t => nI t
  | none => -1
noncomputable def pt (s d k : Nat) : Nat := ((s : Int) + (k : Int) * (tv_0.getD d 0).toInt).toNat
end
section
/-! a text's constant by the wide form -/
section JK8
variable {E : jE} {own : String} {Ts : List Jvm.Cond} {cl : List vw_C} {tb : jTb} {nL : Nat} {ini : Bool} {cc : ByteArray} {M : jM} {Q : State → Prop} {n cells slots : Nat}
theorem jk_stW {p : Program} {l : Launch} {e : Env} {R : Room} {s : State} {m : MethodId} {args : Array Value} {below : List Frame} {meth : Method} {c : Code} {T : State} {locs : List Loc} {cells slots : Nat} (X : Stand p l e R s m args below meth c T locs cells slots) (hexec : p.tables.exec = Jvm.exec) {own text : String} {index : Nat} {a : Addr} (hown : s.vm.findClass own = some m.cls) (hconst : (Jvm.Cond.stringRef own index text).before args s = true) (hev : (Term.string own index).eval args s none [] s = some (.ref a)) {g : JFrame} (hg : g.method = m) (hdg : decode c.code g.pc = .ok (.ldc_w index, 3)) :
    ∀ target, Steps p.tables e below (T.setTop { g with pc := g.pc + 3, stack := .ref a :: g.stack }) target → Steps p.tables e below (T.setTop g) target := by
  obtain ⟨k, cf, i, a', hk, hcf, hcp, -, hr, hev'⟩ := Cond.stringRef_spec hown hconst
  cases hev.symm.trans hev'
  obtain ⟨k', hk', he⟩ := X.warmed.alike.2.2 _ _ hk
  have hr' : k'.resolved[index]? = some (some (.string a)) := by
    rcases X.warmed.entry hk hk' index with h | ⟨h, -⟩
    · rw [h]; exact hr
    · rw [hr] at h; cases h
  intro target hrest
  subst hg
  jvm_step X.here [hexec, hdg, ldc_w.wp_string (e := e) (s := T) (f := g) X.here.top hk' (by rw [he]; exact hcf) hcp hr']
  exact hrest
theorem jk_ldx (X : jX E own Ts cl tb nL ini cc M) {pc i j : Nat} {tx : String} (hd : decode cc pc = .ok (.ldc_w i, 3)) (hm : (own, i, tx, j) ∈ js0.2.2.2.2) {lv : List (Option jv)} {r : List jv} {σ : Nat → jcell} (k : jJ E cl nL M Q n cells slots (pc + 3) lv (.inr (.inr (some (.inr j))) :: r) σ) : jJ E cl nL M Q n cells slots pc lv r σ := by
  obtain ⟨p, l, e, R, s, m, args, below, meth, c⟩ := M
  obtain ⟨hx, hb, hml, ho, hts, ⟨hK, hSt, -⟩, -⟩ := X
  have hZ := hSt.2.2.2.2.2.1 _ hm
  intro H locs ls hW hS hL T hT X1
  obtain ⟨t, a1, b1⟩ := k H locs ls hW hS hL T hT X1
  exact ⟨t, jk_stW X1 hx ho (text := tx) (a := E.2.2.1 j) (by have h9 := hZ.1; simpa [Cond.before, Cond.holds, Cond.value] using h9) (by have h9 := hZ.2; simpa [Term.eval] using h9) (g := F0 m pc ls (r.map (jc E))) rfl (by rw [hb]; exact hd) t a1, b1⟩
end JK8
end
section
/-! THE A KIT: intervals of ints, and what the machine's operations make of them -/
/-- an int that is not below zero, as its bits -/
theorem aNat {x : Int32} (h : 0 ≤ x.toInt) : x.toInt = (x.toBitVec.toNat : Int) ∧ x.toBitVec.toNat < 2147483648 := by
  have h1 : x.toInt = x.toBitVec.toInt := rfl
  rw [h1] at h ⊢
  rw [BitVec.toInt_eq_toNat_cond] at h ⊢
  have h2 := x.toBitVec.isLt
  split at h
  next h3 => rw [if_pos h3]; exact ⟨rfl, by omega⟩
  next h3 => exfalso; omega
theorem aNat' {x : Int32} {k : Nat} (h : x.toBitVec.toNat = k) (hk : k < 2147483648) : x.toInt = (k : Int) := by
  have h1 : x.toInt = x.toBitVec.toInt := rfl
  rw [h1, BitVec.toInt_eq_toNat_cond, h, if_pos (by omega)]
theorem aAnd_l {x y : Int32} (h : 0 ≤ x.toInt) : 0 ≤ (x &&& y).toInt ∧ (x &&& y).toInt ≤ x.toInt := by
  obtain ⟨h1, h2⟩ := aNat h
  have h3 : (x &&& y).toBitVec.toNat = x.toBitVec.toNat &&& y.toBitVec.toNat := by rw [Int32.toBitVec_and, BitVec.toNat_and]
  have h4 : x.toBitVec.toNat &&& y.toBitVec.toNat ≤ x.toBitVec.toNat := Nat.and_le_left
  have h5 := aNat' h3 (by omega)
  omega
end
section
/-! shifts, quotients, rests -/
theorem aSc (c : Nat) (hc : c < 32) : ((Int32.ofInt (c : Int) &&& 31).toBitVec.smod 32).toNat = c := by
  have h : ∀ k : Fin 32, ((Int32.ofInt (k.val : Int) &&& 31).toBitVec.smod 32).toNat = k.val := by decide +kernel
  exact h ⟨c, hc⟩
theorem aYc {y : Int32} {c : Nat} (h : y.toInt = (c : Int)) : y = Int32.ofInt (c : Int) := by rw [← h, Int32.ofInt_toInt]
theorem aShl_l {x y : Int32} {c : Nat} (hy : y.toInt = (c : Int)) (hc : c < 32) : (x <<< (y &&& 31)).toBitVec.toNat = (x.toBitVec.toNat * 2 ^ c) % 2 ^ 32 := by
  rw [Int32.toBitVec_shiftLeft, BitVec.shiftLeft_eq', BitVec.toNat_shiftLeft, aYc hy, aSc c hc, Nat.shiftLeft_eq]
theorem aShr_l (x y : Int32) : ∃ c : Nat, (x >>> (y &&& 31)).toInt = x.toInt / 2 ^ c ∧ ∀ k : Nat, k < 32 → y.toInt = (k : Int) → c = k := by
  refine ⟨((y &&& 31).toBitVec.smod 32).toNat, ?_, fun k hk hy => by rw [aYc hy, aSc k hk]⟩
  show (x >>> (y &&& 31)).toBitVec.toInt = x.toBitVec.toInt / _
  rw [Int32.toBitVec_shiftRight, BitVec.sshiftRight_eq', BitVec.toInt_sshiftRight, Int.shiftRight_eq_div_pow]
  push_cast
  rfl
theorem aDiv_l {x y : Int32} (h1 : 0 ≤ x.toInt) (h2 : 1 ≤ y.toInt) : (x / y).toInt = x.toInt / y.toInt := by
  have h3 := Int32.toInt_lt x
  have h4 : x.toInt / y.toInt ≤ x.toInt := Int.ediv_le_self _ h1
  have h5 : 0 ≤ x.toInt / y.toInt := Int.ediv_nonneg h1 (by omega)
  rw [Int32.toInt_div, Int.tdiv_eq_ediv_of_nonneg h1]
  exact Int.bmod_eq_of_le (by omega) (by omega)
theorem aRem_l {x y : Int32} (h1 : 0 ≤ x.toInt) (h2 : 1 ≤ y.toInt) : (x - x / y * y).toInt = x.toInt % y.toInt := by
  have h3 := Int32.toInt_lt x
  have h4 := aDiv_l h1 h2
  have h5 : x.toInt / y.toInt * y.toInt + x.toInt % y.toInt = x.toInt := Int.ediv_mul_add_emod _ _
  have h6 : 0 ≤ x.toInt % y.toInt := Int.emod_nonneg _ (by omega)
  have h7 : 0 ≤ x.toInt / y.toInt * y.toInt := Int.mul_nonneg (Int.ediv_nonneg h1 (by omega)) (by omega)
  have h8 : (x / y * y).toInt = x.toInt / y.toInt * y.toInt := by
    rw [Int32.toInt_mul, h4]
    exact Int.bmod_eq_of_le (by omega) (by omega)
  rw [Int32.toInt_sub, h8, show x.toInt - x.toInt / y.toInt * y.toInt = x.toInt % y.toInt by omega]
  exact Int.bmod_eq_of_le (by omega) (by omega)
end
section
/-! THE B KIT: states of the check. A value is a number into a row of (type, linear form); beside it a row of values; then fields, cells of rows, inequalities, facts. -/
abbrev aT : Type := (Int × Int) ⊕ Option ((Bool × Nat) ⊕ Nat)
abbrev aKd : Type := (FieldType × Nat × (Int × Int) × List (Nat × Nat × Int × Int × Int)) ⊕ (Nat × List aT)
abbrev aF : Type := List (Nat × Int) × Int
abbrev aE : Type := aT × Option aF
abbrev aM : Type := List (Nat × Nat × Nat) × List (Nat × aF × Nat) × List aF × List (Nat × List Nat)
abbrev aS : Type := List (Option Nat) × List Nat × List aE × aM
section AST
variable {K : Nat → Nat} {n : Nat}
/-! linear forms -/
noncomputable def aI (v : jv) : Int := match v with
  | .inl x => x.toInt
  | .inr (.inl x) => x.toInt
  | _ => 0
noncomputable def aEv (ρ : List jv) : List (Nat × Int) → Option Int
  | [] => some 0
  | q :: r => match ρ[q.1]?, aEv ρ r with
    | some v, some z => some (q.2 * aI v + z)
    | _, _ => none
noncomputable def aHd (ρ : List jv) (f : aF) : Prop := ∃ z, aEv ρ f.1 = some z ∧ 0 ≤ z + f.2
noncomputable def aX (ρ ρ' : List jv) : Prop := ∀ (i : Nat) (v : jv), ρ[i]? = some v → ρ'[i]? = some v
theorem aEv_mo {ρ ρ' : List jv} (hx : aX ρ ρ') : ∀ {F : List (Nat × Int)} {z : Int}, aEv ρ F = some z → aEv ρ' F = some z
  | [], _, h => h
  | q :: r, z, h => by
    unfold aEv at h ⊢
    split at h
    next v y h1 h2 =>
      rw [hx _ _ h1, aEv_mo hx h2]
      exact h
    next => cases h
/-- a form's value -/
noncomputable def aVa (ρ : List jv) (f : aF) (x : Int) : Prop := ∃ z, aEv ρ f.1 = some z ∧ x = z + f.2
theorem aVa_mo {ρ ρ' : List jv} (hx : aX ρ ρ') {A : aF} {x : Int} (h : aVa ρ A x) : aVa ρ' A x := by
  obtain ⟨a, a1, rfl⟩ := h
  exact ⟨a, aEv_mo hx a1, rfl⟩
noncomputable def aRl (ρ : List jv) (r : Option aF) (v : jv) : Prop := match r with
  | none => True
  | some f => aVa ρ f (aI v)
noncomputable def aLv (ρ : List jv) (al : List (Option Nat)) (lv : List (Option jv)) : Prop := al.length = lv.length ∧ ∀ (i k : Nat), al[i]? = some (some k) → ∃ v, ρ[k]? = some v ∧ lv[i]? = some (some v)
noncomputable def aSk (ρ : List jv) : List Nat → List jv → Prop
  | [], [] => True
  | i :: r, v :: s => ρ[i]? = some v ∧ aSk ρ r s
  | _, _ => False
/-- fields that are known -/
noncomputable def aCa (ρ : List jv) (σ : Nat → jcell) (cc : List (Nat × Nat × Nat)) : Prop := ∀ q ∈ cc, ∃ (a c : Nat) (fs : List jv) (v : jv), ρ[q.1]? = some (.inr (.inr (some (.inl a)))) ∧ σ a = .inr (c, fs) ∧ fs[q.2.1]? = some v ∧ ρ[q.2.2]? = some v
/-- cells of rows that are known, of ints or longs -/
noncomputable def aGc (ty : FieldType) (m : Nat) : ((Nat → Int32) ⊕ (Nat → Int64)) → jcell
  | .inl g => .inl (ty, m, .inl g)
  | .inr g => .inl (ty, m, .inr (.inl g))
noncomputable def aGv (i : Nat) : ((Nat → Int32) ⊕ (Nat → Int64)) → jv
  | .inl g => .inl (g i)
  | .inr g => .inr (.inl (g i))
noncomputable def aCb (ρ : List jv) (σ : Nat → jcell) (cb : List (Nat × aF × Nat)) : Prop := ∀ q ∈ cb, ∃ (a m : Nat) (ty : FieldType) (g : (Nat → Int32) ⊕ (Nat → Int64)) (i : Nat), ρ[q.1]? = some (.inr (.inr (some (.inl a)))) ∧ σ a = aGc ty m g ∧ i < m ∧ aVa ρ q.2.1 (i : Int) ∧ ρ[q.2.2]? = some (aGv i g)
noncomputable def aVs (ρ : List jv) : List Nat → Option (List jv)
  | [] => some []
  | i :: r => match ρ[i]?, aVs ρ r with
    | some v, some s => some (v :: s)
    | _, _ => none
theorem aVs_mo {ρ ρ' : List jv} (hx : aX ρ ρ') : ∀ {F : List Nat} {z : List jv}, aVs ρ F = some z → aVs ρ' F = some z
  | [], _, h => h
  | q :: r, z, h => by
    unfold aVs at h ⊢
    split at h
    next v y h1 h2 =>
      rw [hx _ _ h1, aVs_mo hx h2]
      exact h
    next => cases h
abbrev aFt (P : Type) : Type := P → Nat → List jv → (Nat → jcell) → Prop
noncomputable def aFx {P : Type} (F : aFt P) (p : P) (ρ : List jv) (σ : Nat → jcell) (fx : List (Nat × List Nat)) : Prop := ∀ q ∈ fx, ∃ vs, aVs ρ q.2 = some vs ∧ F p q.1 vs σ
noncomputable def aMm {P : Type} (F : aFt P) (p : P) (ρ : List jv) (σ : Nat → jcell) (m : aM) : Prop := aCa ρ σ m.1 ∧ aCb ρ σ m.2.1 ∧ (∀ f ∈ m.2.2.1, aHd ρ f) ∧ aFx F p ρ σ m.2.2.2
theorem aX.tr {ρ ρ1 ρ2 : List jv} (h : aX ρ ρ1) (h2 : aX ρ1 ρ2) : aX ρ ρ2 := fun i v q => h2 i v (h i v q)
theorem aRl.mo {ρ ρ' : List jv} (hx : aX ρ ρ') {r : Option aF} {v : jv} (h : aRl ρ r v) : aRl ρ' r v := by
  rcases r with _ | q
  · trivial
  · exact aVa_mo hx h
theorem aHd.mo {ρ ρ' : List jv} (hx : aX ρ ρ') {f : aF} (h : aHd ρ f) : aHd ρ' f := by
  obtain ⟨z, h1, h2⟩ := h
  exact ⟨z, aEv_mo hx h1, h2⟩
theorem aLv.mo {ρ ρ' : List jv} (hx : aX ρ ρ') {al : List (Option Nat)} {lv : List (Option jv)} (h : aLv ρ al lv) : aLv ρ' al lv :=
  ⟨h.1, fun i k q => by obtain ⟨v, h1, h2⟩ := h.2 i k q; exact ⟨v, hx _ _ h1, h2⟩⟩
theorem aSk.mo {ρ ρ' : List jv} (hx : aX ρ ρ') : ∀ {al : List Nat} {st : List jv}, aSk ρ al st → aSk ρ' al st
  | [], [], _ => trivial
  | _ :: _, _ :: _, h => ⟨hx _ _ h.1, aSk.mo hx h.2⟩
  | [], _ :: _, h => h.elim
  | _ :: _, [], h => h.elim
theorem aCa.mo {ρ ρ' : List jv} (hx : aX ρ ρ') {σ : Nat → jcell} {cc : List (Nat × Nat × Nat)} (h : aCa ρ σ cc) : aCa ρ' σ cc := fun q hq => by
  obtain ⟨a, c, fs, v, h1, h2, h3, h4⟩ := h q hq
  exact ⟨a, c, fs, v, hx _ _ h1, h2, h3, hx _ _ h4⟩
theorem aCb.mo {ρ ρ' : List jv} (hx : aX ρ ρ') {σ : Nat → jcell} {cc : List (Nat × aF × Nat)} (h : aCb ρ σ cc) : aCb ρ' σ cc := fun q hq => by
  obtain ⟨a, m, ty, g, i, h1, h2, h3, h4, h5⟩ := h q hq
  exact ⟨a, m, ty, g, i, hx _ _ h1, h2, h3, aVa_mo hx h4, hx _ _ h5⟩
theorem aFx.mo {P : Type} {F : aFt P} {p : P} {ρ ρ' : List jv} (hx : aX ρ ρ') {σ : Nat → jcell} {fx : List (Nat × List Nat)} (h : aFx F p ρ σ fx) : aFx F p ρ' σ fx := fun q hq => by
  obtain ⟨vs, h1, h2⟩ := h q hq
  exact ⟨vs, aVs_mo hx h1, h2⟩
theorem aMm.mo {P : Type} {F : aFt P} {p : P} {ρ ρ' : List jv} (hx : aX ρ ρ') {σ : Nat → jcell} {m : aM} (h : aMm F p ρ σ m) : aMm F p ρ' σ m := ⟨h.1.mo hx, h.2.1.mo hx, fun f hf => (h.2.2.1 f hf).mo hx, h.2.2.2.mo hx⟩
/-! bounds -/
variable {P : Type} {F : aFt P} {Hp : (Nat → jcell) → Prop} {J : jN}
noncomputable def aPw (c : Int) : Bool := (List.range 31).any (fun k => decide ((2 : Int) ^ k = c))
theorem aAnd_m {x y : Int32} (hx : 0 ≤ x.toInt) (hy : 0 ≤ y.toInt) (h : aPw (y.toInt + 1) = true) : (x &&& y).toInt = x.toInt % (y.toInt + 1) := by
  obtain ⟨k, k1, k2⟩ := List.any_eq_true.mp h
  rw [decide_eq_true_eq] at k2
  obtain ⟨e1, e2⟩ := aNat (x := x) hx
  obtain ⟨e3, e4⟩ := aNat (x := y) hy
  have h9 : ((2 ^ k : Nat) : Int) = y.toInt + 1 := by rw [← k2]; exact Int.natCast_pow 2 k
  have h2 : y.toBitVec.toNat = 2 ^ k - 1 := by omega
  have h1 : (x &&& y).toBitVec.toNat = x.toBitVec.toNat % 2 ^ k := by rw [Int32.toBitVec_and, BitVec.toNat_and, h2, Nat.and_two_pow_sub_one_eq_mod]
  have h4 : x.toBitVec.toNat % 2 ^ k ≤ x.toBitVec.toNat := Nat.mod_le _ _
  rw [aNat' h1 (by omega), Int.natCast_emod, h9, e1]
end AST
end
section
/-! locals, branches, and the operations that leave the picture as it is -/
section ASU
variable {K : Nat → Nat} {n : Nat} {P : Type} {F : aFt P} {Hp : (Nat → jcell) → Prop} {J : jN}
/-! loads and stores of locals -/
end ASU
end
section
/-! branches, one and two values off the stack -/
section ASV
variable {K : Nat → Nat} {n : Nat} {P : Type} {F : aFt P} {Hp : (Nat → jcell) → Prop} {J : jN}
/-! one value off the stack, one on it -/
/-! longs -/
theorem aLc_c (x y : Int64) : (x.toInt < y.toInt ∧ (lg_cmp x y).toInt = -1) ∨ (x.toInt = y.toInt ∧ (lg_cmp x y).toInt = 0) ∨ (y.toInt < x.toInt ∧ (lg_cmp x y).toInt = 1) := by
  have e1 : y < x ↔ y.toInt < x.toInt := Int64.lt_iff_toInt_lt
  have e2 : x = y ↔ x.toInt = y.toInt := Int64.toInt_inj.symm
  unfold lg_cmp
  split
  next h => exact Or.inr (Or.inr ⟨e1.mp h, by decide⟩)
  next h =>
    split
    next h2 => exact Or.inr (Or.inl ⟨e2.mp h2, by decide⟩)
    next h2 =>
      refine Or.inl ⟨?_, by decide⟩
      have h3 : ¬ y.toInt < x.toInt := fun q => h (e1.mpr q)
      have h4 : ¬ x.toInt = y.toInt := fun q => h2 (e2.mpr q)
      omega
/-! the stack turned -/
end ASV
end
section
/-! the picture: kinds of cells, rows read and written, fields read and written -/
abbrev aCf : Type := List aKd × List (FieldType × Nat × (Int × Int) × List Int) × List Nat × List (Nat × Nat) × List (Nat × aF) × List (List (Nat × List Nat × Option aF)) × Nat
/-! names of a state put into another: values, forms -/
section ASH
variable {K : Nat → Nat} {n : Nat} {P : Type} {F : aFt P} {J : jN} {C : aCf} {tb : jTb} {JX : (Nat → jcell) → Prop} {ρ0 : List jv} {σ0 : Nat → jcell} {T : List aKd}
/-! what a store leaves -/
end ASH
end
section
/-! one step of the check against one step of the machine -/
section ASW
variable {K : Nat → Nat} {n : Nat} {P : Type} {F : aFt P} {J : jN} {C : aCf} {tb : jTb} {JX : (Nat → jcell) → Prop} {ρ0 : List jv} {σ0 : Nat → jcell}
end ASW
end
section
/-! from a state to a cut's state; ranks -/
abbrev aSc2 : Type := Nat ⊕ (Nat ⊕ (Nat × Nat))
section ASX
variable {K : Nat → Nat} {n : Nat} {P : Type} {F : aFt P} {C : aCf} {JX : (Nat → jcell) → Prop} {ρ0 : List jv} {σ0 : Nat → jcell}
/-! ranks -/
end ASX
end
section
/-! calls over contracts of the same form -/
abbrev aCon : Type := jY × Bool × Nat × (List aE × aM) × (Option aT × List aT × aM × List (List aF)) × (List (Nat × Nat) × List (Nat × aF)) × Room
/-! facts with moves made before them: a shift of the ghost -/
section ASY
variable {K : Nat → Nat} {n : Nat} {P : Type} {F : aFt P} {C : aCf} {JX : (Nat → jcell) → Prop} {ρ0 : List jv} {σ0 : Nat → jcell}
/-! facts: the rest behind a prefix -/
/-! what is left behind a call -/
end ASY
end
end
section
section
/-! a call -/
section ASC
variable {K : Nat → Nat} {n : Nat} {P : Type} {F : aFt P} {C : aCf} {JX : (Nat → jcell) → Prop} {ρ0 : List jv} {σ0 : Nat → jcell}
end ASC
end
section
/-! a method, from cut to cut -/
abbrev aCu : Type := Nat × aS × List aSc2 × List aF
noncomputable def aSuf : List jI → Nat → Nat → Option (List jI)
  | [], _, _ => none
  | x :: r, p, pc => if p = pc then some (x :: r) else aSuf r (p + x.2.1) pc
/-- a row's words, but for rows that the table of static things speaks of -/
noncomputable def jokQ (own : String) (Ts : List Jvm.Cond) (cl : List vw_C) (tb : jTb) (nL : Nat) (ini : Bool) (cc : ByteArray) (pc : Nat) (x : jI) : Bool := decide (decode cc pc = .ok (x.1, x.2.1)) && (Nat.beq x.2.2.1 999 || jok1 own Ts cl tb nL ini pc x.1 x.2.1 x.2.2)
noncomputable def jokLQ (own : String) (Ts : List Jvm.Cond) (cl : List vw_C) (tb : jTb) (nL : Nat) (ini : Bool) (cc : ByteArray) : Nat → List jI → Bool
  | _, [] => true
  | pc, x :: r => jokQ own Ts cl tb nL ini cc pc x && jokLQ own Ts cl tb nL ini cc (pc + x.2.1) r
noncomputable def jokLG (g : Nat → Option Jvm.Cond) (L : jLk) (own : String) (cl : List vw_C) (tb : jTb) (nL : Nat) (cc : ByteArray) : Nat → List jI → Bool
  | _, [] => true
  | pc, x :: r => (decide (decode cc pc = .ok (x.1, x.2.1)) && (Nat.beq x.2.2.1 999 || jok1F g L own cl tb nL pc x.1 x.2.1 x.2.2)) && jokLG g L own cl tb nL cc (pc + x.2.1) r
theorem jokLG_ok {g : Nat → Option Jvm.Cond} {Ts : List Jvm.Cond} (hg : ∀ i w, g i = some w → Ts[i]? = some w) {L : jLk} {own : String} {cl : List vw_C} {tb : jTb} (hL : jLkOk own Ts cl tb L) {nL : Nat} {cc : ByteArray} : ∀ {is : List jI} {pc : Nat}, jokLG g L own cl tb nL cc pc is = true → jokLQ own Ts cl tb nL false cc pc is = true
  | [], _, _ => rfl
  | x :: r, pc, h => by
    unfold jokLG at h
    rw [Bool.and_eq_true, Bool.and_eq_true, Bool.or_eq_true] at h
    unfold jokLQ jokQ
    rw [Bool.and_eq_true, Bool.and_eq_true, Bool.or_eq_true]
    exact ⟨⟨h.1.1, h.1.2.imp id (jok1F_ok hg hL)⟩, jokLG_ok hg hL h.2⟩
theorem jokQ_n {own : String} {Ts : List Jvm.Cond} {cl : List vw_C} {tb : jTb} {nL : Nat} {ini : Bool} {cc : ByteArray} {pc : Nat} {x : jI} (h : jokQ own Ts cl tb nL ini cc pc x = true) (hn : Nat.beq x.2.2.1 999 = false) : jok own Ts cl tb nL ini cc pc x = true := by
  unfold jokQ at h
  unfold jok
  rw [hn, Bool.false_or] at h
  exact h
theorem aSuf_ok {own : String} {Ts : List Jvm.Cond} {cl : List vw_C} {tb : jTb} {nL : Nat} {ini : Bool} {cc : ByteArray} {pc : Nat} : ∀ {is : List jI} {p : Nat} {js : List jI}, jokLQ own Ts cl tb nL ini cc p is = true → aSuf is p pc = some js → jokLQ own Ts cl tb nL ini cc pc js = true
  | [], _, _, _, h => by cases h
  | x :: r, p, js, hk, h => by
    unfold aSuf at h
    split at h
    next e => cases h; subst e; exact hk
    next =>
      unfold jokLQ at hk
      rw [Bool.and_eq_true] at hk
      exact aSuf_ok hk.2 h
abbrev aSz : Type := Nat × Nat × Nat × jSv
/-- what stands fast in a method: own file, tables, files, what it returns, its links, static things; conf; contracts; its own one; its row; its cuts -/
abbrev aMi : Type := (String × List Jvm.Cond × List vw_C × Option FieldType × List (Nat × Nat × Nat) × List aSz × List (Nat × Nat × List Int) × List aCon × List (Nat × Nat × List aSc2 × List Nat)) × aCf × List aCon × aCon × List jI × List aCu
/-! static things: texts, an enum, statics -/
noncomputable def aSpf (k i o : Nat) : List aSz → Option jSv
  | [] => none
  | q :: r => if (Nat.beq q.1 k && (Nat.beq q.2.1 i && Nat.beq q.2.2.1 o)) = true then some q.2.2.2 else aSpf k i o r
theorem aSpf_ok {k i o : Nat} {v : jSv} : ∀ {L : List aSz}, aSpf k i o L = some v → (k, i, o, v) ∈ L
  | [], h => by cases h
  | q :: r, h => by
    unfold aSpf at h
    split at h
    next hq =>
      cases h
      obtain ⟨q0, q1, q2, q3⟩ := q
      simp only [Bool.and_eq_true] at hq
      obtain ⟨h0, h1, h2⟩ := hq
      cases Nat.eq_of_beq_eq_true h0
      cases Nat.eq_of_beq_eq_true h1
      cases Nat.eq_of_beq_eq_true h2
      exact List.mem_cons_self
    next => exact List.mem_cons_of_mem _ (aSpf_ok h)
/-- what a row of static things promises -/
noncomputable def aSpP (own : String) (Ts : List Jvm.Cond) (q : aSz) : Prop := (q.1 = 1 → ∃ tx j, q.2.2.2 = .inr j ∧ (own, q.2.1, tx, j) ∈ js0.2.2.2.2) ∧ (q.1 = 2 → ∃ tx j, q.2.2.2 = .inr j ∧ (own, q.2.1, tx, j) ∈ js0.2.2.2.2) ∧ (q.1 = 3 → ∃ v, q.2.2.2 = .inl v ∧ Jvm.Cond.constant own q.2.1 v ∈ jTA Ts) ∧ (q.1 = 4 → ∃ z ∈ js0.2.1, z.2.2.2 = q.2.2.2 ∧ Jvm.Cond.fieldLink own q.2.1 z.1 z.2.1 z.2.2.1 ∈ jTA Ts) ∧ (q.1 = 5 → ∃ o ∈ js0.1, ∃ f ∈ o.2.2, o.1 = q.2.2.1 ∧ f.2.2.2 = q.2.2.2 ∧ Jvm.Cond.fieldLink own q.2.1 f.1 f.2.1 f.2.2.1 ∈ jTA Ts) ∧ (q.1 = 6 → Jvm.Cond.methodLink own q.2.1 arraycopyName ∈ jTA Ts ∧ Jvm.Cond.native arraycopyName ∈ jTA Ts ∧ Jvm.Cond.static arraycopyName ∈ jTA Ts ∧ Jvm.Cond.initialized "java/lang/System" ∈ jTA Ts)
noncomputable def aSrf (j : Nat) : Option (Nat × String × Nat × (Nat → Nat)) := js0.2.2.2.1.find? (fun q => Nat.beq q.1 j)
theorem aSrf_ok {j : Nat} {q : Nat × String × Nat × (Nat → Nat)} (h : aSrf j = some q) : q ∈ js0.2.2.2.1 ∧ q.1 = j := by
  unfold aSrf at h
  exact ⟨List.mem_of_find?_eq_some h, Nat.eq_of_beq_eq_true (by simpa using List.find?_some h)⟩
noncomputable def aSro (j : Nat) : Option (Nat × FieldType × Nat × (Nat → Int32)) := js0.2.2.1.find? (fun q => Nat.beq q.1 j)
theorem aSro_ok {j : Nat} {q : Nat × FieldType × Nat × (Nat → Int32)} (h : aSro j = some q) : q ∈ js0.2.2.1 ∧ q.1 = j := by
  unfold aSro at h
  exact ⟨List.mem_of_find?_eq_some h, Nat.eq_of_beq_eq_true (by simpa using List.find?_some h)⟩
theorem js_by : js_ro.all (fun q => decide (q.2.1 = .byte)) = true := by decide +kernel
/-! cases of a name's value at a place -/
/-! ghost steps: what is known of a picture, by rules that are proved apart -/
/-! a state in its normal form, for the kernel -/
section ASZ
variable {K : Nat → Nat} {n : Nat} {P : Type} {F : aFt P} {l : Launch} {E : jE} {tb : jTb} {nL : Nat} {ini : Bool} {cc : ByteArray} {M : jM} {JX : (Nat → jcell) → Prop} {ρ0 : List jv} {σ0 : Nat → jcell} {m : aMi} {pe : P}
theorem jk_aret {own : String} {Ts : List Jvm.Cond} {cl : List vw_C} {cells slots : Nat} (X : jX E own Ts cl tb nL ini cc M) {pc mc ms : Nat} (hd : decode cc pc = .ok (.areturn, 1)) {ty : FieldType} (hr : M.2.2.2.2.2.2.2.2.1.sig.returnType = some ty) (hty : (∃ s, ty = .object s) ∨ ∃ t, ty = .array t) {v : Option (Nat ⊕ Nat)} {lv : List (Option jv)} {σ : Nat → jcell} {post : jPo} (hc : cells ≤ mc) (hs : slots ≤ ms) (hp : post (some (.inr (.inr v))) σ n) : jJ E cl nL M (jQ E cl M post mc ms) n cells slots pc lv [.inr (.inr v)] σ := by
  obtain ⟨p, l, e, R, s, m, args, below, meth, c⟩ := M
  obtain ⟨hx, hb, hml, ho, hts, hK, hlk, -⟩ := X
  intro H locs ls hW hS hL
  refine W.widen hc hs (W.aret hx hb hr hty ?_ (fun t ht _ => ⟨⟨some (.inr (.inr v)), σ, n, rfl, hp, by rw [ht]; exact hW⟩, hS.F ht⟩) hS.2.2 hd hlk)
  rcases v with _ | a | j
  · exact Or.inl rfl
  · exact Or.inr ⟨_, rfl⟩
  · exact Or.inr ⟨_, rfl⟩
theorem jk_look {own : String} {Ts : List Jvm.Cond} {cl : List vw_C} {Q : State → Prop} {cells slots : Nat} (X : jX E own Ts cl tb nL ini cc M) {pc len td : Nat} {dflt : Int} {ps : Array (Int × Int)} (hd : decode cc pc = .ok (.lookupswitch dflt ps, len)) (hp : (ps.toList.zip (ps.toList.drop 1)).all (fun (a, next) => a.1 < next.1) = true) (htd : (pc : Int) + dflt = (td : Int)) {lv : List (Option jv)} {r : List jv} {σ : Nat → jcell} {x : Int32} (ko : (∀ q ∈ ps.toList, ¬ x.toInt = q.1) → jJ E cl nL M Q n cells slots td lv r σ) (ki : ∀ q ∈ ps.toList, x.toInt = q.1 → ∃ t : Nat, (pc : Int) + q.2 = (t : Int) ∧ jJ E cl nL M Q n cells slots t lv r σ) : jJ E cl nL M Q n cells slots pc lv (.inl x :: r) σ := by
  obtain ⟨hx, hb, -⟩ := X
  intro H locs ls hW hS hL
  have key : ∀ (L : List (Int × Int)), (Op.lookupswitch.offset L dflt x.toInt = dflt ∧ ∀ q ∈ L, ¬ x.toInt = q.1) ∨ ∃ q ∈ L, x.toInt = q.1 ∧ Op.lookupswitch.offset L dflt x.toInt = q.2 := by
    intro L
    induction L with
    | nil => exact Or.inl ⟨rfl, fun _ h => by cases h⟩
    | cons q t ih =>
      obtain ⟨a, o⟩ := q
      rw [Op.lookupswitch.offset_cons]
      by_cases h : a = x.toInt
      · rw [if_pos h]
        exact Or.inr ⟨(a, o), List.mem_cons_self, h.symm, rfl⟩
      · rw [if_neg h]
        rcases ih with ⟨ih, ih2⟩ | ⟨q, q1, q2⟩
        · refine Or.inl ⟨ih, fun q hq e => ?_⟩
          rcases List.mem_cons.mp hq with rfl | hq
          · exact h e.symm
          · exact ih2 q hq e
        · exact Or.inr ⟨q, List.mem_cons_of_mem _ q1, q2⟩
  rcases key ps.toList with ⟨h, h'⟩ | ⟨q, q1, q2, q3⟩
  · exact lv_lookup hx hb hd hp h htd (ko h' H locs ls hW hS hL)
  · obtain ⟨t, t1, t2⟩ := ki q q1 q2
    exact lv_lookup hx hb hd hp q3 t1 (t2 H locs ls hW hS hL)
/-! the goals of a switch -/
end ASZ
end
section
/-! the run is sound; a method's contract from its check -/
section JAC
variable {E : jE} {own : String} {Ts : List Jvm.Cond} {cl : List vw_C} {tb : jTb} {nL : Nat} {ini : Bool} {cc : ByteArray} {M : jM} {Q : State → Prop} {n cells slots : Nat}
theorem jac_nn (z : Int32) (hz : ¬ z < 0) : z.toInt = (z.toNatClampNeg : Int) := by
  have h0 : (0 : Int) ≤ z.toInt := by
    have := Int32.not_lt.mp hz
    simpa using Int32.le_iff_toInt_le.mp this
  show z.toInt = ((z.toInt.toNat : Nat) : Int)
  omega
/-- longs are copied from row to row -/
theorem jk_acl (X : jX E own Ts cl tb nL ini cc M) {rm : Room} (hR : M.2.2.2.1 = rm) {pc i : Nat} (hd : decode cc pc = .ok (.invokestatic i, 3)) (hli : Jvm.Cond.methodLink own i arraycopyName ∈ jTA Ts) (hna : Jvm.Cond.native arraycopyName ∈ jTA Ts) (hst : Jvm.Cond.static arraycopyName ∈ jTA Ts) (hin : Jvm.Cond.initialized "java/lang/System" ∈ jTA Ts) {lv : List (Option jv)} {r : List jv} {σ : Nat → jcell} {b0 b1 n0 n1 : Nat} {f g : Nat → Int64} (ha0 : b0 < n) (he0 : σ b0 = .inl (.long, n0, .inr (.inl f))) (ha1 : b1 < n) (he1 : σ b1 = .inl (.long, n1, .inr (.inl g))) {sp dp k : Int32} (h1 : ¬ sp < 0) (h2 : ¬ dp < 0) (h3 : ¬ k < 0) (h4 : sp.toNatClampNeg + k.toNatClampNeg ≤ n0) (h5 : dp.toNatClampNeg + k.toNatClampNeg ≤ n1) (hf : 1 ≤ rm.frames) (hz : (r.map jcat).sum ≤ 8) (hl : 8 + (nativeFrameWords "java/lang/System" "arraycopy" 5 + 11) ≤ rm.locals)
    (kk : jJ E cl nL M Q n cells slots (pc + 3) lv r (jup σ b1 (.inl (.long, n1, .inr (.inl (va_cpy f g sp.toNatClampNeg dp.toNatClampNeg k.toNatClampNeg)))))) : jJ E cl nL M Q n cells slots pc lv (.inl k :: .inl dp :: .inr (.inr (some (.inl b1))) :: .inl sp :: .inr (.inr (some (.inl b0))) :: r) σ := by
  obtain ⟨p, l, e, R, s, m, args, below, meth, c⟩ := M
  dsimp only at hR
  subst hR
  obtain ⟨hx, hb, hml, ho, hts, ⟨hK, hK2⟩, -⟩ := X
  intro H locs ls hW hS hL
  have hP0 := jW_one hW ha0 (by rw [he0]; simp only [jkn]; first | done | decide | assumption)
  have hP1 := jW_one hW ha1 (by rw [he1]; simp only [jkn]; first | done | decide | assumption)
  rw [he0] at hP0
  rw [he1] at hP1
  obtain ⟨t0, ht0⟩ := jty_in (E := E) (t := .long) (by decide)
  have hc0 : H[E.2.2.2 + b0]? = some (vp_cell (E.2.1 .long) (n0, .inr (.inl f))) := hP0 0 _ rfl
  have hc1 : H[E.2.2.2 + b1]? = some (vp_cell (E.2.1 .long) (n1, .inr (.inl g))) := hP1 0 _ rfl
  intro T hT X9
  obtain ⟨-, q0, hq0, cm0, hqq0⟩ := (hK.2 t0 _ ht0).1 n0 (fun j => .long (f j))
  obtain ⟨-, q1, hq1, cm1, hqq1⟩ := (hK.2 t0 _ ht0).1 n1 (fun j => .long (g j))
  have hsz : c.maxLocals = ls.size := by rw [hL.1]; exact hml
  obtain ⟨vm', X', step⟩ := X9.arraycopy hx ho (hts _ hli) (hts _ hna) (hts _ hst) (hts _ hin) (src := E.2.2.2 + b0) (dst := E.2.2.2 + b1) (cs := vp_cell (E.2.1 .long) (n0, .inr (.inl f))) (cd := vp_cell (E.2.1 .long) (n1, .inr (.inl g))) (srcPos := sp) (destPos := dp) (n := k) (by rw [hT]; exact hc0) (by rw [hT]; exact hc1)
    (fun _ h => by cases h) (fun _ h => by cases h) (fun h => by cases h) (fun h => by cases h) hq0 hq1 hqq0 hqq1 (by simp) h1 h2 h3
    (by rw [jac_nn sp h1, jac_nn k h3]; show ¬ _ > ((arrV (E.2.1 .long) n0 (fun j => .long (f j))).slots.size : Int); rw [arrV_size]; omega)
    (by rw [jac_nn dp h2, jac_nn k h3]; show ¬ _ > ((arrV (E.2.1 .long) n1 (fun j => .long (g j))).slots.size : Int); rw [arrV_size]; omega)
    (fun vm1 _ j hj => by
      have e1 : (vp_cell (E.2.1 .long) (n0, .inr (.inl f))).slots.getD (sp.toNatClampNeg + j) .null = .long (f (sp.toNatClampNeg + j)) := by
        show (arrV (E.2.1 .long) n0 (fun j => .long (f j))).slots.getD _ _ = _
        rw [Array.getD_eq_getD_getElem?, arrV_read _ _ (by omega)]
        rfl
      rw [e1]
      exact ⟨rfl, trivial⟩)
    (g := F0 m pc ls (.int k :: .int dp :: .ref (E.2.2.2 + b1) :: .int sp :: .ref (E.2.2.2 + b0) :: r.map (jc E))) rfl (by rw [hsz]) (rest := r.map (jc E)) rfl (by rw [hb]; exact hd) hf (show 2 * 0 + ((r.map (jc E)).map fun v => v.category).sum + (nativeFrameWords "java/lang/System" "arraycopy" 5 + 11) ≤ R.locals from by have := jcat_sum E r; omega)
  have e1 : copied (vp_cell (E.2.1 .long) (n0, .inr (.inl f))) (vp_cell (E.2.1 .long) (n1, .inr (.inl g))) sp dp k = vp_cell (E.2.1 .long) (n1, .inr (.inl (va_cpy f g sp.toNatClampNeg dp.toNatClampNeg k.toNatClampNeg))) := va_copied (fun z => .long z) _ _ f g h4
  rw [e1] at X' step
  have hlt : E.2.2.2 + b1 < H.size := (Array.getElem?_eq_some_iff.mp hc1).1
  have hheap : ((T.setVm vm').setCell (E.2.2.2 + b1) (vp_cell (E.2.1 .long) (n1, .inr (.inl (va_cpy f g sp.toNatClampNeg dp.toNatClampNeg k.toNatClampNeg))))).heap = H.setIfInBounds (E.2.2.2 + b1) (vp_cell (E.2.1 .long) (n1, .inr (.inl (va_cpy f g sp.toNatClampNeg dp.toNatClampNeg k.toNatClampNeg)))) := by rw [← hT]; rfl
  have oq : ∀ q : Nat, q ≠ E.2.2.2 + b1 → (H.setIfInBounds (E.2.2.2 + b1) (vp_cell (E.2.1 .long) (n1, .inr (.inl (va_cpy f g sp.toNatClampNeg dp.toNatClampNeg k.toNatClampNeg)))))[q]? = H[q]? := fun q hq => by simp [Array.getElem?_setIfInBounds, Ne.symm hq]
  have hA : jA E (E.2.2.2 + b1) := Nat.le_add_right _ _
  obtain ⟨t, a1, a2⟩ := kk _ _ ls (jW_set hW (by simp) oq (by show (H.setIfInBounds _ _)[E.2.2.2 + b1]? = some _; simp [Array.getElem?_setIfInBounds, hlt])) ⟨by simp; exact hS.1, fun q y1 y2 => by
      rw [oq q (fun e9 => y2 (by rw [e9]; exact hA))]
      exact hS.2.1 q y1 y2, fun q hq => by
      rcases List.mem_append.mp hq with h | h
      · exact hS.2.2 q h
      · obtain ⟨z, -, hz9⟩ := List.mem_map.mp h
        rw [← hz9]
        exact hA⟩ hL _ hheap X'
  exact ⟨t, step t a1, a2⟩
/-- bytes are copied from row to row -/
theorem jk_acb (X : jX E own Ts cl tb nL ini cc M) {rm : Room} (hR : M.2.2.2.1 = rm) {pc i : Nat} (hd : decode cc pc = .ok (.invokestatic i, 3)) (hli : Jvm.Cond.methodLink own i arraycopyName ∈ jTA Ts) (hna : Jvm.Cond.native arraycopyName ∈ jTA Ts) (hst : Jvm.Cond.static arraycopyName ∈ jTA Ts) (hin : Jvm.Cond.initialized "java/lang/System" ∈ jTA Ts) {lv : List (Option jv)} {r : List jv} {σ : Nat → jcell} {b0 b1 n0 n1 : Nat} {f g : Nat → Int32} (ha0 : b0 < n) (he0 : σ b0 = .inl (.byte, n0, .inl f)) (ha1 : b1 < n) (he1 : σ b1 = .inl (.byte, n1, .inl g)) {sp dp k : Int32} (h1 : ¬ sp < 0) (h2 : ¬ dp < 0) (h3 : ¬ k < 0) (h4 : sp.toNatClampNeg + k.toNatClampNeg ≤ n0) (h5 : dp.toNatClampNeg + k.toNatClampNeg ≤ n1) (hfit : ∀ j, j < k.toNatClampNeg → -128 ≤ (f (sp.toNatClampNeg + j)).toInt ∧ (f (sp.toNatClampNeg + j)).toInt ≤ 127) (hf : 1 ≤ rm.frames) (hz : (r.map jcat).sum ≤ 8) (hl : 8 + (nativeFrameWords "java/lang/System" "arraycopy" 5 + 11) ≤ rm.locals)
    (kk : jJ E cl nL M Q n cells slots (pc + 3) lv r (jup σ b1 (.inl (.byte, n1, .inl (va_cpy f g sp.toNatClampNeg dp.toNatClampNeg k.toNatClampNeg))))) : jJ E cl nL M Q n cells slots pc lv (.inl k :: .inl dp :: .inr (.inr (some (.inl b1))) :: .inl sp :: .inr (.inr (some (.inl b0))) :: r) σ := by
  obtain ⟨p, l, e, R, s, m, args, below, meth, c⟩ := M
  dsimp only at hR
  subst hR
  obtain ⟨hx, hb, hml, ho, hts, ⟨hK, hK2⟩, -⟩ := X
  intro H locs ls hW hS hL
  have hP0 := jW_one hW ha0 (by rw [he0]; simp only [jkn]; first | done | decide | assumption)
  have hP1 := jW_one hW ha1 (by rw [he1]; simp only [jkn]; first | done | decide | assumption)
  rw [he0] at hP0
  rw [he1] at hP1
  obtain ⟨t0, ht0⟩ := jty_in (E := E) (t := .byte) (by decide)
  have hc0 : H[E.2.2.2 + b0]? = some (vp_cell (E.2.1 .byte) (n0, .inl f)) := hP0 0 _ rfl
  have hc1 : H[E.2.2.2 + b1]? = some (vp_cell (E.2.1 .byte) (n1, .inl g)) := hP1 0 _ rfl
  intro T hT X9
  obtain ⟨-, q0, hq0, cm0, hqq0⟩ := (hK.2 t0 _ ht0).1 n0 (fun j => .int (f j))
  obtain ⟨-, q1, hq1, cm1, hqq1⟩ := (hK.2 t0 _ ht0).1 n1 (fun j => .int (g j))
  have hsz : c.maxLocals = ls.size := by rw [hL.1]; exact hml
  obtain ⟨vm', X', step⟩ := X9.arraycopy hx ho (hts _ hli) (hts _ hna) (hts _ hst) (hts _ hin) (src := E.2.2.2 + b0) (dst := E.2.2.2 + b1) (cs := vp_cell (E.2.1 .byte) (n0, .inl f)) (cd := vp_cell (E.2.1 .byte) (n1, .inl g)) (srcPos := sp) (destPos := dp) (n := k) (by rw [hT]; exact hc0) (by rw [hT]; exact hc1)
    (fun _ h => by cases h) (fun _ h => by cases h) (fun h => by cases h) (fun h => by cases h) hq0 hq1 hqq0 hqq1 (by simp) h1 h2 h3
    (by rw [jac_nn sp h1, jac_nn k h3]; show ¬ _ > ((arrV (E.2.1 .byte) n0 (fun j => .int (f j))).slots.size : Int); rw [arrV_size]; omega)
    (by rw [jac_nn dp h2, jac_nn k h3]; show ¬ _ > ((arrV (E.2.1 .byte) n1 (fun j => .int (g j))).slots.size : Int); rw [arrV_size]; omega)
    (fun vm1 _ j hj => by
      have e1 : (vp_cell (E.2.1 .byte) (n0, .inl f)).slots.getD (sp.toNatClampNeg + j) .null = .int (f (sp.toNatClampNeg + j)) := by
        show (arrV (E.2.1 .byte) n0 (fun j => .int (f j))).slots.getD _ _ = _
        rw [Array.getD_eq_getD_getElem?, arrV_read _ _ (by omega)]
        rfl
      rw [e1]
      refine ⟨?_, trivial⟩
      have h9 := hfit j hj
      have y1 : (-128 : Int32) ≤ f (sp.toNatClampNeg + j) := Int32.le_iff_toInt_le.mpr (by show (-128 : Int) ≤ _; exact h9.1)
      have y2 : f (sp.toNatClampNeg + j) ≤ (127 : Int32) := Int32.le_iff_toInt_le.mpr (by show _ ≤ (127 : Int); exact h9.2)
      show (decide _ && decide _) = true
      rw [Bool.and_eq_true, decide_eq_true_eq, decide_eq_true_eq]
      exact ⟨y1, y2⟩)
    (g := F0 m pc ls (.int k :: .int dp :: .ref (E.2.2.2 + b1) :: .int sp :: .ref (E.2.2.2 + b0) :: r.map (jc E))) rfl (by rw [hsz]) (rest := r.map (jc E)) rfl (by rw [hb]; exact hd) hf (show 2 * 0 + ((r.map (jc E)).map fun v => v.category).sum + (nativeFrameWords "java/lang/System" "arraycopy" 5 + 11) ≤ R.locals from by have := jcat_sum E r; omega)
  have e1 : copied (vp_cell (E.2.1 .byte) (n0, .inl f)) (vp_cell (E.2.1 .byte) (n1, .inl g)) sp dp k = vp_cell (E.2.1 .byte) (n1, .inl (va_cpy f g sp.toNatClampNeg dp.toNatClampNeg k.toNatClampNeg)) := va_copied (fun z => .int z) _ _ f g h4
  rw [e1] at X' step
  have hlt : E.2.2.2 + b1 < H.size := (Array.getElem?_eq_some_iff.mp hc1).1
  have hheap : ((T.setVm vm').setCell (E.2.2.2 + b1) (vp_cell (E.2.1 .byte) (n1, .inl (va_cpy f g sp.toNatClampNeg dp.toNatClampNeg k.toNatClampNeg)))).heap = H.setIfInBounds (E.2.2.2 + b1) (vp_cell (E.2.1 .byte) (n1, .inl (va_cpy f g sp.toNatClampNeg dp.toNatClampNeg k.toNatClampNeg))) := by rw [← hT]; rfl
  have oq : ∀ q : Nat, q ≠ E.2.2.2 + b1 → (H.setIfInBounds (E.2.2.2 + b1) (vp_cell (E.2.1 .byte) (n1, .inl (va_cpy f g sp.toNatClampNeg dp.toNatClampNeg k.toNatClampNeg))))[q]? = H[q]? := fun q hq => by simp [Array.getElem?_setIfInBounds, Ne.symm hq]
  have hA : jA E (E.2.2.2 + b1) := Nat.le_add_right _ _
  obtain ⟨t, a1, a2⟩ := kk _ _ ls (jW_set hW (by simp) oq (by show (H.setIfInBounds _ _)[E.2.2.2 + b1]? = some _; simp [Array.getElem?_setIfInBounds, hlt])) ⟨by simp; exact hS.1, fun q y1 y2 => by
      rw [oq q (fun e9 => y2 (by rw [e9]; exact hA))]
      exact hS.2.1 q y1 y2, fun q hq => by
      rcases List.mem_append.mp hq with h | h
      · exact hS.2.2 q h
      · obtain ⟨z, -, hz9⟩ := List.mem_map.mp h
        rw [← hz9]
        exact hA⟩ hL _ hheap X'
  exact ⟨t, step t a1, a2⟩
end JAC
section ASR
variable {K : Nat → Nat} {n : Nat} {P : Type} {F : aFt P} {l : Launch} {E : jE} {tb : jTb} {nL : Nat} {ini : Bool} {cc : ByteArray} {M : jM} {JX : (Nat → jcell) → Prop} {ρ0 : List jv} {σ0 : Nat → jcell} {m : aMi} {pe : P} {sh : P → List jv → P}
end ASR
/-! rows of static things, for the print -/
theorem aSp_1 {own : String} {Ts : List Jvm.Cond} {i j : Nat} {tx : String} (h : (own, i, tx, j) ∈ js0.2.2.2.2) : aSpP own Ts (1, i, 0, .inr j) := ⟨fun _ => ⟨tx, j, rfl, h⟩, fun h => (by cases h), fun h => (by cases h), fun h => (by cases h), fun h => (by cases h), fun h => (by cases h)⟩
theorem aSp_2 {own : String} {Ts : List Jvm.Cond} {i j : Nat} {tx : String} (h : (own, i, tx, j) ∈ js0.2.2.2.2) : aSpP own Ts (2, i, 0, .inr j) := ⟨fun h => (by cases h), fun _ => ⟨tx, j, rfl, h⟩, fun h => (by cases h), fun h => (by cases h), fun h => (by cases h), fun h => (by cases h)⟩
theorem aSp_3 {own : String} {Ts : List Jvm.Cond} {i : Nat} {v : Int32} (h : Jvm.Cond.constant own i v ∈ jTA Ts) : aSpP own Ts (3, i, 0, .inl v) := ⟨fun h => (by cases h), fun h => (by cases h), fun _ => ⟨v, rfl, h⟩, fun h => (by cases h), fun h => (by cases h), fun h => (by cases h)⟩
theorem aSp_4 {own : String} {Ts : List Jvm.Cond} {i : Nat} {a b c : String} {v : jSv} (hz : (a, b, c, v) ∈ js0.2.1) (h : Jvm.Cond.fieldLink own i a b c ∈ jTA Ts) : aSpP own Ts (4, i, 0, v) := ⟨fun h => (by cases h), fun h => (by cases h), fun h => (by cases h), fun _ => ⟨_, hz, rfl, h⟩, fun h => (by cases h), fun h => (by cases h)⟩
theorem aSp_5 {own : String} {Ts : List Jvm.Cond} {i o : Nat} {cn a b c : String} {fs : List (String × String × String × jSv)} {v : jSv} (ho : (o, cn, fs) ∈ js0.1) (hf : (a, b, c, v) ∈ fs) (h : Jvm.Cond.fieldLink own i a b c ∈ jTA Ts) : aSpP own Ts (5, i, o, v) := ⟨fun h => (by cases h), fun h => (by cases h), fun h => (by cases h), fun h => (by cases h), fun _ => ⟨_, ho, _, hf, rfl, rfl, h⟩, fun h => (by cases h)⟩
theorem aSp_6 {own : String} {Ts : List Jvm.Cond} {i : Nat} {v : jSv} (h1 : Jvm.Cond.methodLink own i arraycopyName ∈ jTA Ts) (h2 : Jvm.Cond.native arraycopyName ∈ jTA Ts) (h3 : Jvm.Cond.static arraycopyName ∈ jTA Ts) (h4 : Jvm.Cond.initialized "java/lang/System" ∈ jTA Ts) : aSpP own Ts (6, i, 0, v) := ⟨fun h => (by cases h), fun h => (by cases h), fun h => (by cases h), fun h => (by cases h), fun h => (by cases h), fun _ => ⟨h1, h2, h3, h4⟩⟩
end
end
section
noncomputable def y_WO_wordStop : jY := (⟨"ChessHouse$Words", "wordStop", "(I)I"⟩, prog_13_method_4_code, 3, (some .int))
theorem m_WO_wordStop : jmth lw_tbl y_WO_wordStop 1 := ⟨jTA_in (wi := 988) (jtF_ok rfl) rfl, jTA_in (wi := 304) (jtF_ok rfl) rfl, by decide, by decide, by decide +kernel⟩
theorem i_WO_wordStop : Jvm.Cond.instanceMethod y_WO_wordStop.1 ∈ jTA lw_tbl := jTA_in (wi := 986) (jtF_ok rfl) rfl
theorem e_WO_wordStop : Jvm.Cond.selects y_WO_wordStop.1.cls y_WO_wordStop.1 y_WO_wordStop.1 ∈ jTA lw_tbl := jTA_in (wi := 987) (jtF_ok rfl) rfl
noncomputable def ak_WOwordStop : List jI := [(.iload_n 1, 1, (1, 0, 0, 0, 0)), (.istore_n 2, 1, (2, 0, 0, 0, 0)), (.iload_n 2, 1, (2, 0, 0, 0, 0)), (.aload_n 0, 1, (0, 0, 0, 0, 0)), (.getfield 21, 3, (2, 2, 372, 0, 0)), (.if_icmp .ge 20, 3, (27, 0, 0, 0, 0)), (.aload_n 0, 1, (0, 0, 0, 0, 0)), (.getfield 13, 3, (2, 3, 374, 0, 0)), (.iload_n 2, 1, (2, 0, 0, 0, 0)), (.baload, 1, (0, 0, 0, 0, 0)), (.bipush 32, 2, (0, 0, 0, 32, 0)), (.if_icmp .eq 9, 3, (27, 0, 0, 0, 0)), (.iinc 2 1, 3, (0, 0, 0, 1, 0)), (.goto (-22), 3, (2, 0, 0, 0, 0)), (.iload_n 2, 1, (2, 0, 0, 0, 0)), (.ireturn, 1, (0, 0, 0, 0, 0))]
theorem ao_WOwordStop : jokLG jtF lk_WO "ChessHouse$Words" jcl jtb 3 prog_13_method_4_code 0 ak_WOwordStop = true := by decide +kernel
noncomputable def y_WO_number : jY := (⟨"ChessHouse$Words", "number", "(III)I"⟩, prog_13_method_6_code, 11, (some .int))
theorem m_WO_number : jmth lw_tbl y_WO_number 3 := ⟨jTA_in (wi := 1567) (jtF_ok rfl) rfl, jTA_in (wi := 304) (jtF_ok rfl) rfl, by decide, by decide, by decide +kernel⟩
theorem i_WO_number : Jvm.Cond.instanceMethod y_WO_number.1 ∈ jTA lw_tbl := jTA_in (wi := 1565) (jtF_ok rfl) rfl
theorem e_WO_number : Jvm.Cond.selects y_WO_number.1.cls y_WO_number.1 y_WO_number.1 ∈ jTA lw_tbl := jTA_in (wi := 1566) (jtF_ok rfl) rfl
noncomputable def ak_WOnumber : List jI := [(.iload_n 1, 1, (1, 0, 0, 0, 0)), (.aload_n 0, 1, (0, 0, 0, 0, 0)), (.getfield 46, 3, (2, 1, 370, 0, 0)), (.if_icmp .ge 12, 3, (17, 0, 0, 0, 0)), (.iload_n 1, 1, (1, 0, 0, 0, 0)), (.aload_n 0, 1, (0, 0, 0, 0, 0)), (.getfield 7, 3, (2, 0, 368, 0, 0)), (.arraylength, 1, (0, 0, 0, 0, 0)), (.if_icmp .lt 6, 3, (20, 0, 0, 0, 0)), (.ldc 73, 2, (0, 0, 1568, (-1000000000), 0)), (.ireturn, 1, (0, 0, 0, 0, 0)), (.aload_n 0, 1, (0, 0, 0, 0, 0)), (.getfield 7, 3, (2, 0, 368, 0, 0)), (.iload_n 1, 1, (1, 0, 0, 0, 0)), (.iaload, 1, (0, 0, 0, 0, 0)), (.istore 4, 2, (4, 0, 0, 0, 0)), (.aload_n 0, 1, (0, 0, 0, 0, 0)), (.iload 4, 2, (4, 0, 0, 0, 0)), (.invokevirtual 59, 3, (0, 0, 985, 0, 0)), (.istore 5, 2, (5, 0, 0, 0, 0)), (.iload 4, 2, (4, 0, 0, 0, 0)), (.iload 5, 2, (5, 0, 0, 0, 0)), (.if_icmp .ge 19, 3, (59, 0, 0, 0, 0)), (.aload_n 0, 1, (0, 0, 0, 0, 0)), (.getfield 13, 3, (2, 3, 374, 0, 0)), (.iload 4, 2, (4, 0, 0, 0, 0)), (.baload, 1, (0, 0, 0, 0, 0)), (.bipush 45, 2, (0, 0, 0, 45, 0)), (.if_icmp .ne 7, 3, (59, 0, 0, 0, 0)), (.iconst 1, 1, (0, 0, 0, 1, 0)), (.goto 4, 3, (60, 0, 0, 0, 0)), (.iconst 0, 1, (0, 0, 0, 0, 0)), (.istore 6, 2, (6, 0, 0, 0, 0)), (.iload 6, 2, (6, 0, 0, 0, 0)), (.ifCond .eq 10, 3, (74, 0, 0, 0, 0)), (.iload 4, 2, (4, 0, 0, 0, 0)), (.iconst 1, 1, (0, 0, 0, 1, 0)), (.iadd, 1, (0, 0, 0, 0, 0)), (.goto 5, 3, (76, 0, 0, 0, 0)), (.iload 4, 2, (4, 0, 0, 0, 0)), (.istore 7, 2, (7, 0, 0, 0, 0)), (.iload 5, 2, (5, 0, 0, 0, 0)), (.iload 7, 2, (7, 0, 0, 0, 0)), (.isub, 1, (0, 0, 0, 0, 0)), (.istore 8, 2, (8, 0, 0, 0, 0)), (.iload 8, 2, (8, 0, 0, 0, 0)), (.iconst 1, 1, (0, 0, 0, 1, 0)), (.if_icmp .lt 33, 3, (121, 0, 0, 0, 0)), (.iload 8, 2, (8, 0, 0, 0, 0)), (.bipush 9, 2, (0, 0, 0, 9, 0)), (.if_icmp .gt 26, 3, (121, 0, 0, 0, 0)), (.aload_n 0, 1, (0, 0, 0, 0, 0)), (.getfield 13, 3, (2, 3, 374, 0, 0)), (.iload 7, 2, (7, 0, 0, 0, 0)), (.baload, 1, (0, 0, 0, 0, 0)), (.bipush 48, 2, (0, 0, 0, 48, 0)), (.if_icmp .ne 17, 3, (124, 0, 0, 0, 0)), (.iload 8, 2, (8, 0, 0, 0, 0)), (.iconst 1, 1, (0, 0, 0, 1, 0)), (.if_icmp .gt 8, 3, (121, 0, 0, 0, 0)), (.iload 6, 2, (6, 0, 0, 0, 0)), (.ifCond .eq 6, 3, (124, 0, 0, 0, 0)), (.ldc 73, 2, (0, 0, 1568, (-1000000000), 0)), (.ireturn, 1, (0, 0, 0, 0, 0)), (.iconst 0, 1, (0, 0, 0, 0, 0)), (.istore 9, 2, (9, 0, 0, 0, 0)), (.iload 7, 2, (7, 0, 0, 0, 0)), (.istore 10, 2, (10, 0, 0, 0, 0)), (.iload 10, 2, (10, 0, 0, 0, 0)), (.iload 5, 2, (5, 0, 0, 0, 0)), (.if_icmp .ge 54, 3, (189, 0, 0, 0, 0)), (.aload_n 0, 1, (0, 0, 0, 0, 0)), (.getfield 13, 3, (2, 3, 374, 0, 0)), (.iload 10, 2, (10, 0, 0, 0, 0)), (.baload, 1, (0, 0, 0, 0, 0)), (.bipush 48, 2, (0, 0, 0, 48, 0)), (.if_icmp .lt 15, 3, (162, 0, 0, 0, 0)), (.aload_n 0, 1, (0, 0, 0, 0, 0)), (.getfield 13, 3, (2, 3, 374, 0, 0)), (.iload 10, 2, (10, 0, 0, 0, 0)), (.baload, 1, (0, 0, 0, 0, 0)), (.bipush 57, 2, (0, 0, 0, 57, 0)), (.if_icmp .le 6, 3, (165, 0, 0, 0, 0)), (.ldc 73, 2, (0, 0, 1568, (-1000000000), 0)), (.ireturn, 1, (0, 0, 0, 0, 0)), (.iload 9, 2, (9, 0, 0, 0, 0)), (.bipush 10, 2, (0, 0, 0, 10, 0)), (.imul, 1, (0, 0, 0, 0, 0)), (.aload_n 0, 1, (0, 0, 0, 0, 0)), (.getfield 13, 3, (2, 3, 374, 0, 0)), (.iload 10, 2, (10, 0, 0, 0, 0)), (.baload, 1, (0, 0, 0, 0, 0)), (.iadd, 1, (0, 0, 0, 0, 0)), (.bipush 48, 2, (0, 0, 0, 48, 0)), (.isub, 1, (0, 0, 0, 0, 0)), (.istore 9, 2, (9, 0, 0, 0, 0)), (.iinc 10 1, 3, (0, 0, 0, 1, 0)), (.goto (-55), 3, (131, 0, 0, 0, 0)), (.iload 6, 2, (6, 0, 0, 0, 0)), (.ifCond .eq 9, 3, (200, 0, 0, 0, 0)), (.iload 9, 2, (9, 0, 0, 0, 0)), (.ineg, 1, (0, 0, 0, 0, 0)), (.goto 5, 3, (202, 0, 0, 0, 0)), (.iload 9, 2, (9, 0, 0, 0, 0)), (.istore 9, 2, (9, 0, 0, 0, 0)), (.iload 9, 2, (9, 0, 0, 0, 0)), (.iload_n 2, 1, (2, 0, 0, 0, 0)), (.if_icmp .lt 14, 3, (221, 0, 0, 0, 0)), (.iload 9, 2, (9, 0, 0, 0, 0)), (.iload_n 3, 1, (3, 0, 0, 0, 0)), (.if_icmp .gt 8, 3, (221, 0, 0, 0, 0)), (.iload 9, 2, (9, 0, 0, 0, 0)), (.goto 5, 3, (223, 0, 0, 0, 0)), (.ldc 73, 2, (0, 0, 1568, (-1000000000), 0)), (.ireturn, 1, (0, 0, 0, 0, 0))]
theorem ao_WOnumber : jokLG jtF lk_WO "ChessHouse$Words" jcl jtb 11 prog_13_method_6_code 0 ak_WOnumber = true := by decide +kernel
noncomputable def y_WO_split : jY := (⟨"ChessHouse$Words", "split", "()Z"⟩, prog_13_method_3_code, 4, (some .boolean))
theorem m_WO_split : jmth lw_tbl y_WO_split 0 := ⟨jTA_in (wi := 978) (jtF_ok rfl) rfl, jTA_in (wi := 304) (jtF_ok rfl) rfl, by decide, by decide, by decide +kernel⟩
theorem i_WO_split : Jvm.Cond.instanceMethod y_WO_split.1 ∈ jTA lw_tbl := jTA_in (wi := 977) (jtF_ok rfl) rfl
theorem e_WO_split : Jvm.Cond.selects y_WO_split.1.cls y_WO_split.1 y_WO_split.1 ∈ jTA lw_tbl := jTA_in (wi := 5) (jtF_ok rfl) rfl
noncomputable def ak_WOsplit : List jI := [(.iconst 1, 1, (0, 0, 0, 1, 0)), (.istore_n 1, 1, (1, 0, 0, 0, 0)), (.iconst 1, 1, (0, 0, 0, 1, 0)), (.istore_n 2, 1, (2, 0, 0, 0, 0)), (.aload_n 0, 1, (0, 0, 0, 0, 0)), (.iconst 0, 1, (0, 0, 0, 0, 0)), (.putfield 46, 3, (2, 1, 370, 0, 0)), (.aload_n 0, 1, (0, 0, 0, 0, 0)), (.getfield 17, 3, (2, 4, 375, 0, 0)), (.istore_n 3, 1, (3, 0, 0, 0, 0)), (.iload_n 3, 1, (3, 0, 0, 0, 0)), (.aload_n 0, 1, (0, 0, 0, 0, 0)), (.getfield 21, 3, (2, 2, 372, 0, 0)), (.if_icmp .gt 99, 3, (118, 0, 0, 0, 0)), (.iload_n 2, 1, (2, 0, 0, 0, 0)), (.ifCond .eq 64, 3, (87, 0, 0, 0, 0)), (.iload_n 1, 1, (1, 0, 0, 0, 0)), (.ifCond .eq 26, 3, (53, 0, 0, 0, 0)), (.iload_n 3, 1, (3, 0, 0, 0, 0)), (.aload_n 0, 1, (0, 0, 0, 0, 0)), (.getfield 21, 3, (2, 2, 372, 0, 0)), (.if_icmp .ge 18, 3, (53, 0, 0, 0, 0)), (.aload_n 0, 1, (0, 0, 0, 0, 0)), (.getfield 13, 3, (2, 3, 374, 0, 0)), (.iload_n 3, 1, (3, 0, 0, 0, 0)), (.baload, 1, (0, 0, 0, 0, 0)), (.bipush 32, 2, (0, 0, 0, 32, 0)), (.if_icmp .eq 7, 3, (53, 0, 0, 0, 0)), (.iconst 1, 1, (0, 0, 0, 1, 0)), (.goto 4, 3, (54, 0, 0, 0, 0)), (.iconst 0, 1, (0, 0, 0, 0, 0)), (.istore_n 1, 1, (1, 0, 0, 0, 0)), (.aload_n 0, 1, (0, 0, 0, 0, 0)), (.getfield 46, 3, (2, 1, 370, 0, 0)), (.aload_n 0, 1, (0, 0, 0, 0, 0)), (.getfield 7, 3, (2, 0, 368, 0, 0)), (.arraylength, 1, (0, 0, 0, 0, 0)), (.if_icmp .ge 13, 3, (77, 0, 0, 0, 0)), (.aload_n 0, 1, (0, 0, 0, 0, 0)), (.getfield 7, 3, (2, 0, 368, 0, 0)), (.aload_n 0, 1, (0, 0, 0, 0, 0)), (.getfield 46, 3, (2, 1, 370, 0, 0)), (.iload_n 3, 1, (3, 0, 0, 0, 0)), (.iastore, 1, (0, 0, 0, 0, 0)), (.aload_n 0, 1, (0, 0, 0, 0, 0)), (.dup, 1, (0, 0, 0, 0, 0)), (.getfield 46, 3, (2, 1, 370, 0, 0)), (.iconst 1, 1, (0, 0, 0, 1, 0)), (.iadd, 1, (0, 0, 0, 0, 0)), (.putfield 46, 3, (2, 1, 370, 0, 0)), (.iload_n 3, 1, (3, 0, 0, 0, 0)), (.aload_n 0, 1, (0, 0, 0, 0, 0)), (.getfield 21, 3, (2, 2, 372, 0, 0)), (.if_icmp .ge 18, 3, (110, 0, 0, 0, 0)), (.aload_n 0, 1, (0, 0, 0, 0, 0)), (.getfield 13, 3, (2, 3, 374, 0, 0)), (.iload_n 3, 1, (3, 0, 0, 0, 0)), (.baload, 1, (0, 0, 0, 0, 0)), (.bipush 32, 2, (0, 0, 0, 32, 0)), (.if_icmp .ne 7, 3, (110, 0, 0, 0, 0)), (.iconst 1, 1, (0, 0, 0, 1, 0)), (.goto 4, 3, (111, 0, 0, 0, 0)), (.iconst 0, 1, (0, 0, 0, 0, 0)), (.istore_n 2, 1, (2, 0, 0, 0, 0)), (.iinc 3 1, 3, (0, 0, 0, 1, 0)), (.goto (-101), 3, (14, 0, 0, 0, 0)), (.iload_n 1, 1, (1, 0, 0, 0, 0)), (.ireturn, 1, (0, 0, 0, 0, 0))]
theorem ao_WOsplit : jokLG jtF lk_WO "ChessHouse$Words" jcl jtb 4 prog_13_method_3_code 0 ak_WOsplit = true := by decide +kernel
noncomputable def y_WO_behindSpaces : jY := (⟨"ChessHouse$Words", "behindSpaces", "(I)I"⟩, prog_13_method_7_code, 4, (some .int))
theorem m_WO_behindSpaces : jmth lw_tbl y_WO_behindSpaces 1 := ⟨jTA_in (wi := 1069) (jtF_ok rfl) rfl, jTA_in (wi := 304) (jtF_ok rfl) rfl, by decide, by decide, by decide +kernel⟩
theorem i_WO_behindSpaces : Jvm.Cond.instanceMethod y_WO_behindSpaces.1 ∈ jTA lw_tbl := jTA_in (wi := 1067) (jtF_ok rfl) rfl
theorem e_WO_behindSpaces : Jvm.Cond.selects y_WO_behindSpaces.1.cls y_WO_behindSpaces.1 y_WO_behindSpaces.1 ∈ jTA lw_tbl := jTA_in (wi := 1068) (jtF_ok rfl) rfl
noncomputable def ak_WObehind : List jI := [(.iconst 0, 1, (0, 0, 0, 0, 0)), (.istore_n 2, 1, (2, 0, 0, 0, 0)), (.aload_n 0, 1, (0, 0, 0, 0, 0)), (.getfield 17, 3, (2, 4, 375, 0, 0)), (.istore_n 3, 1, (3, 0, 0, 0, 0)), (.iload_n 3, 1, (3, 0, 0, 0, 0)), (.aload_n 0, 1, (0, 0, 0, 0, 0)), (.getfield 21, 3, (2, 2, 372, 0, 0)), (.if_icmp .ge 32, 3, (44, 0, 0, 0, 0)), (.aload_n 0, 1, (0, 0, 0, 0, 0)), (.getfield 13, 3, (2, 3, 374, 0, 0)), (.iload_n 3, 1, (3, 0, 0, 0, 0)), (.baload, 1, (0, 0, 0, 0, 0)), (.bipush 32, 2, (0, 0, 0, 32, 0)), (.if_icmp .ne 15, 3, (38, 0, 0, 0, 0)), (.iinc 2 1, 3, (0, 0, 0, 1, 0)), (.iload_n 2, 1, (2, 0, 0, 0, 0)), (.iload_n 1, 1, (1, 0, 0, 0, 0)), (.if_icmp .ne 7, 3, (38, 0, 0, 0, 0)), (.iload_n 3, 1, (3, 0, 0, 0, 0)), (.iconst 1, 1, (0, 0, 0, 1, 0)), (.iadd, 1, (0, 0, 0, 0, 0)), (.ireturn, 1, (0, 0, 0, 0, 0)), (.iinc 3 1, 3, (0, 0, 0, 1, 0)), (.goto (-34), 3, (7, 0, 0, 0, 0)), (.iconst (-1), 1, (0, 0, 0, (-1), 0)), (.ireturn, 1, (0, 0, 0, 0, 0))]
theorem ao_WObehind : jokLG jtF lk_WO "ChessHouse$Words" jcl jtb 4 prog_13_method_7_code 0 ak_WObehind = true := by decide +kernel
noncomputable def y_MM_takeLine : jY := (⟨"ChessHouseModel", "takeLine", "()V"⟩, prog_15_method_6_code, 1, none)
theorem m_MM_takeLine : jmth lw_tbl y_MM_takeLine 0 := ⟨jTA_in (wi := 2379) (jtF_ok rfl) rfl, jTA_in (wi := 314) (jtF_ok rfl) rfl, by decide, by decide, by decide +kernel⟩
theorem i_MM_takeLine : Jvm.Cond.instanceMethod y_MM_takeLine.1 ∈ jTA lw_tbl := jTA_in (wi := 2378) (jtF_ok rfl) rfl
theorem e_MM_takeLine : Jvm.Cond.selects y_MM_takeLine.1.cls y_MM_takeLine.1 y_MM_takeLine.1 ∈ jTA lw_tbl := jTA_in (wi := 128) (jtF_ok rfl) rfl
noncomputable def ak_MMtakeLine : List jI := [(.aload_n 0, 1, (0, 0, 0, 0, 0)), (.aload_n 0, 1, (0, 0, 0, 0, 0)), (.getfield 63, 3, (11, 10, 2312, 0, 0)), (.putfield 75, 3, (11, 8, 2310, 0, 0)), (.aload_n 0, 1, (0, 0, 0, 0, 0)), (.aload_n 0, 1, (0, 0, 0, 0, 0)), (.getfield 63, 3, (11, 10, 2312, 0, 0)), (.putfield 72, 3, (11, 9, 2311, 0, 0)), (.aload_n 0, 1, (0, 0, 0, 0, 0)), (.getfield 72, 3, (11, 9, 2311, 0, 0)), (.aload_n 0, 1, (0, 0, 0, 0, 0)), (.getfield 66, 3, (11, 11, 2313, 0, 0)), (.if_icmp .ge 30, 3, (54, 0, 0, 0, 0)), (.aload_n 0, 1, (0, 0, 0, 0, 0)), (.getfield 10, 3, (11, 2, 2304, 0, 0)), (.aload_n 0, 1, (0, 0, 0, 0, 0)), (.getfield 72, 3, (11, 9, 2311, 0, 0)), (.baload, 1, (0, 0, 0, 0, 0)), (.bipush 10, 2, (0, 0, 0, 10, 0)), (.if_icmp .eq 16, 3, (54, 0, 0, 0, 0)), (.aload_n 0, 1, (0, 0, 0, 0, 0)), (.dup, 1, (0, 0, 0, 0, 0)), (.getfield 72, 3, (11, 9, 2311, 0, 0)), (.iconst 1, 1, (0, 0, 0, 1, 0)), (.iadd, 1, (0, 0, 0, 0, 0)), (.putfield 72, 3, (11, 9, 2311, 0, 0)), (.goto (-35), 3, (16, 0, 0, 0, 0)), (.aload_n 0, 1, (0, 0, 0, 0, 0)), (.aload_n 0, 1, (0, 0, 0, 0, 0)), (.getfield 72, 3, (11, 9, 2311, 0, 0)), (.iconst 1, 1, (0, 0, 0, 1, 0)), (.iadd, 1, (0, 0, 0, 0, 0)), (.putfield 63, 3, (11, 10, 2312, 0, 0)), (.return_, 1, (0, 0, 0, 0, 0))]
theorem ao_MMtakeLine : jokLG jtF lk_MM "ChessHouseModel" jcl jtb 1 prog_15_method_6_code 0 ak_MMtakeLine = true := by decide +kernel
noncomputable def y_MM_isText : jY := (⟨"ChessHouseModel", "isText", "(I)Z"⟩, prog_15_method_19_code, 1, (some .boolean))
theorem m_MM_isText : jmth lw_tbl y_MM_isText 1 := ⟨jTA_in (wi := 2390) (jtF_ok rfl) rfl, jTA_in (wi := 314) (jtF_ok rfl) rfl, by decide, by decide, by decide +kernel⟩
theorem s_MM_isText : Jvm.Cond.static y_MM_isText.1 ∈ jTA lw_tbl := jTA_in (wi := 2389) (jtF_ok rfl) rfl
noncomputable def ak_MMisText : List jI := [(.iload_n 0, 1, (0, 0, 0, 0, 0)), (.bipush 32, 2, (0, 0, 0, 32, 0)), (.if_icmp .lt 13, 3, (16, 0, 0, 0, 0)), (.iload_n 0, 1, (0, 0, 0, 0, 0)), (.bipush 126, 2, (0, 0, 0, 126, 0)), (.if_icmp .gt 7, 3, (16, 0, 0, 0, 0)), (.iconst 1, 1, (0, 0, 0, 1, 0)), (.goto 4, 3, (17, 0, 0, 0, 0)), (.iconst 0, 1, (0, 0, 0, 0, 0)), (.ireturn, 1, (0, 0, 0, 0, 0))]
theorem ao_MMisText : jokLG jtF lk_MM "ChessHouseModel" jcl jtb 1 prog_15_method_19_code 0 ak_MMisText = true := by decide +kernel
noncomputable def y_MM_isOfText : jY := (⟨"ChessHouseModel", "isOfText", "()Z"⟩, prog_15_method_20_code, 3, (some .boolean))
theorem m_MM_isOfText : jmth lw_tbl y_MM_isOfText 0 := ⟨jTA_in (wi := 2387) (jtF_ok rfl) rfl, jTA_in (wi := 314) (jtF_ok rfl) rfl, by decide, by decide, by decide +kernel⟩
theorem i_MM_isOfText : Jvm.Cond.instanceMethod y_MM_isOfText.1 ∈ jTA lw_tbl := jTA_in (wi := 2386) (jtF_ok rfl) rfl
theorem e_MM_isOfText : Jvm.Cond.selects y_MM_isOfText.1.cls y_MM_isOfText.1 y_MM_isOfText.1 ∈ jTA lw_tbl := jTA_in (wi := 130) (jtF_ok rfl) rfl
noncomputable def ak_MMisOfText : List jI := [(.iconst 1, 1, (0, 0, 0, 1, 0)), (.istore_n 1, 1, (1, 0, 0, 0, 0)), (.aload_n 0, 1, (0, 0, 0, 0, 0)), (.getfield 75, 3, (11, 8, 2310, 0, 0)), (.istore_n 2, 1, (2, 0, 0, 0, 0)), (.iload_n 2, 1, (2, 0, 0, 0, 0)), (.aload_n 0, 1, (0, 0, 0, 0, 0)), (.getfield 72, 3, (11, 9, 2311, 0, 0)), (.if_icmp .ge 31, 3, (43, 0, 0, 0, 0)), (.iload_n 1, 1, (1, 0, 0, 0, 0)), (.ifCond .eq 19, 3, (35, 0, 0, 0, 0)), (.aload_n 0, 1, (0, 0, 0, 0, 0)), (.getfield 10, 3, (11, 2, 2304, 0, 0)), (.iload_n 2, 1, (2, 0, 0, 0, 0)), (.baload, 1, (0, 0, 0, 0, 0)), (.invokestatic 104, 3, (0, 0, 2388, 0, 0)), (.ifCond .eq 7, 3, (35, 0, 0, 0, 0)), (.iconst 1, 1, (0, 0, 0, 1, 0)), (.goto 4, 3, (36, 0, 0, 0, 0)), (.iconst 0, 1, (0, 0, 0, 0, 0)), (.istore_n 1, 1, (1, 0, 0, 0, 0)), (.iinc 2 1, 3, (0, 0, 0, 1, 0)), (.goto (-33), 3, (7, 0, 0, 0, 0)), (.iload_n 1, 1, (1, 0, 0, 0, 0)), (.ireturn, 1, (0, 0, 0, 0, 0))]
theorem ao_MMisOfText : jokLG jtF lk_MM "ChessHouseModel" jcl jtb 3 prog_15_method_20_code 0 ak_MMisOfText = true := by decide +kernel
noncomputable def y_MM_split : jY := (⟨"ChessHouseModel", "split", "()V"⟩, prog_15_method_21_code, 3, none)
theorem m_MM_split : jmth lw_tbl y_MM_split 0 := ⟨jTA_in (wi := 2546) (jtF_ok rfl) rfl, jTA_in (wi := 314) (jtF_ok rfl) rfl, by decide, by decide, by decide +kernel⟩
theorem i_MM_split : Jvm.Cond.instanceMethod y_MM_split.1 ∈ jTA lw_tbl := jTA_in (wi := 2545) (jtF_ok rfl) rfl
theorem e_MM_split : Jvm.Cond.selects y_MM_split.1.cls y_MM_split.1 y_MM_split.1 ∈ jTA lw_tbl := jTA_in (wi := 161) (jtF_ok rfl) rfl
noncomputable def ak_MMsplitX : List jI := [(.aload_n 0, 1, (0, 0, 0, 0, 0)), (.iconst 0, 1, (0, 0, 0, 0, 0)), (.putfield 108, 3, (11, 13, 2315, 0, 0)), (.aload_n 0, 1, (0, 0, 0, 0, 0)), (.getfield 75, 3, (11, 8, 2310, 0, 0)), (.istore_n 1, 1, (1, 0, 0, 0, 0)), (.aload_n 0, 1, (0, 0, 0, 0, 0)), (.getfield 75, 3, (11, 8, 2310, 0, 0)), (.istore_n 2, 1, (2, 0, 0, 0, 0)), (.iload_n 2, 1, (2, 0, 0, 0, 0)), (.aload_n 0, 1, (0, 0, 0, 0, 0)), (.getfield 72, 3, (11, 9, 2311, 0, 0)), (.if_icmp .gt 73, 3, (93, 0, 0, 0, 0)), (.iload_n 2, 1, (2, 0, 0, 0, 0)), (.aload_n 0, 1, (0, 0, 0, 0, 0)), (.getfield 72, 3, (11, 9, 2311, 0, 0)), (.if_icmp .eq 14, 3, (42, 0, 0, 0, 0)), (.aload_n 0, 1, (0, 0, 0, 0, 0)), (.getfield 10, 3, (11, 2, 2304, 0, 0)), (.iload_n 2, 1, (2, 0, 0, 0, 0)), (.baload, 1, (0, 0, 0, 0, 0)), (.bipush 32, 2, (0, 0, 0, 32, 0)), (.if_icmp .ne 48, 3, (87, 0, 0, 0, 0)), (.iload_n 2, 1, (2, 0, 0, 0, 0)), (.iload_n 1, 1, (1, 0, 0, 0, 0)), (.if_icmp .ne 9, 3, (53, 0, 0, 0, 0)), (.aload_n 0, 1, (0, 0, 0, 0, 0)), (.iconst 0, 1, (0, 0, 0, 0, 0)), (.putfield 108, 3, (11, 13, 2315, 0, 0)), (.return_, 1, (0, 0, 0, 0, 0)), (.aload_n 0, 1, (0, 0, 0, 0, 0)), (.getfield 32, 3, (11, 14, 2316, 0, 0)), (.aload_n 0, 1, (0, 0, 0, 0, 0)), (.getfield 108, 3, (11, 13, 2315, 0, 0)), (.iload_n 1, 1, (1, 0, 0, 0, 0)), (.iastore, 1, (0, 0, 0, 0, 0)), (.aload_n 0, 1, (0, 0, 0, 0, 0)), (.getfield 36, 3, (11, 15, 2317, 0, 0)), (.aload_n 0, 1, (0, 0, 0, 0, 0)), (.getfield 108, 3, (11, 13, 2315, 0, 0)), (.iload_n 2, 1, (2, 0, 0, 0, 0)), (.iastore, 1, (0, 0, 0, 0, 0)), (.aload_n 0, 1, (0, 0, 0, 0, 0)), (.dup, 1, (0, 0, 0, 0, 0)), (.getfield 108, 3, (11, 13, 2315, 0, 0)), (.iconst 1, 1, (0, 0, 0, 1, 0)), (.iadd, 1, (0, 0, 0, 0, 0)), (.putfield 108, 3, (11, 13, 2315, 0, 0)), (.iload_n 2, 1, (2, 0, 0, 0, 0)), (.iconst 1, 1, (0, 0, 0, 1, 0)), (.iadd, 1, (0, 0, 0, 0, 0)), (.istore_n 1, 1, (1, 0, 0, 0, 0)), (.iinc 2 1, 3, (0, 0, 0, 1, 0)), (.goto (-75), 3, (15, 0, 0, 0, 0)), (.return_, 1, (0, 0, 0, 0, 0))]
theorem ao_MMsplitX : jokLG jtF lk_MM "ChessHouseModel" jcl jtb 3 prog_15_method_21_code 0 ak_MMsplitX = true := by decide +kernel
noncomputable def y_MM_number : jY := (⟨"ChessHouseModel", "number", "(III)I"⟩, prog_15_method_25_code, 10, (some .int))
theorem m_MM_number : jmth lw_tbl y_MM_number 3 := ⟨jTA_in (wi := 2806) (jtF_ok rfl) rfl, jTA_in (wi := 314) (jtF_ok rfl) rfl, by decide, by decide, by decide +kernel⟩
theorem i_MM_number : Jvm.Cond.instanceMethod y_MM_number.1 ∈ jTA lw_tbl := jTA_in (wi := 2805) (jtF_ok rfl) rfl
theorem e_MM_number : Jvm.Cond.selects y_MM_number.1.cls y_MM_number.1 y_MM_number.1 ∈ jTA lw_tbl := jTA_in (wi := 215) (jtF_ok rfl) rfl
noncomputable def ak_MMnumberX : List jI := [(.aload_n 0, 1, (0, 0, 0, 0, 0)), (.getfield 32, 3, (11, 14, 2316, 0, 0)), (.iload_n 1, 1, (1, 0, 0, 0, 0)), (.iaload, 1, (0, 0, 0, 0, 0)), (.istore 4, 2, (4, 0, 0, 0, 0)), (.aload_n 0, 1, (0, 0, 0, 0, 0)), (.getfield 10, 3, (11, 2, 2304, 0, 0)), (.iload 4, 2, (4, 0, 0, 0, 0)), (.baload, 1, (0, 0, 0, 0, 0)), (.bipush 45, 2, (0, 0, 0, 45, 0)), (.if_icmp .ne 7, 3, (24, 0, 0, 0, 0)), (.iconst 1, 1, (0, 0, 0, 1, 0)), (.goto 4, 3, (25, 0, 0, 0, 0)), (.iconst 0, 1, (0, 0, 0, 0, 0)), (.istore 5, 2, (5, 0, 0, 0, 0)), (.iload 5, 2, (5, 0, 0, 0, 0)), (.ifCond .eq 10, 3, (39, 0, 0, 0, 0)), (.iload 4, 2, (4, 0, 0, 0, 0)), (.iconst 1, 1, (0, 0, 0, 1, 0)), (.iadd, 1, (0, 0, 0, 0, 0)), (.goto 5, 3, (41, 0, 0, 0, 0)), (.iload 4, 2, (4, 0, 0, 0, 0)), (.istore 4, 2, (4, 0, 0, 0, 0)), (.aload_n 0, 1, (0, 0, 0, 0, 0)), (.getfield 36, 3, (11, 15, 2317, 0, 0)), (.iload_n 1, 1, (1, 0, 0, 0, 0)), (.iaload, 1, (0, 0, 0, 0, 0)), (.iload 4, 2, (4, 0, 0, 0, 0)), (.isub, 1, (0, 0, 0, 0, 0)), (.istore 6, 2, (6, 0, 0, 0, 0)), (.iload 6, 2, (6, 0, 0, 0, 0)), (.iconst 1, 1, (0, 0, 0, 1, 0)), (.if_icmp .lt 37, 3, (94, 0, 0, 0, 0)), (.iload 6, 2, (6, 0, 0, 0, 0)), (.bipush 9, 2, (0, 0, 0, 9, 0)), (.if_icmp .gt 30, 3, (94, 0, 0, 0, 0)), (.aload_n 0, 1, (0, 0, 0, 0, 0)), (.getfield 10, 3, (11, 2, 2304, 0, 0)), (.iload 4, 2, (4, 0, 0, 0, 0)), (.baload, 1, (0, 0, 0, 0, 0)), (.bipush 48, 2, (0, 0, 0, 48, 0)), (.if_icmp .ne 14, 3, (90, 0, 0, 0, 0)), (.iload 6, 2, (6, 0, 0, 0, 0)), (.iconst 1, 1, (0, 0, 0, 1, 0)), (.if_icmp .ne 12, 3, (94, 0, 0, 0, 0)), (.iload 5, 2, (5, 0, 0, 0, 0)), (.ifCond .ne 7, 3, (94, 0, 0, 0, 0)), (.iconst 1, 1, (0, 0, 0, 1, 0)), (.goto 4, 3, (95, 0, 0, 0, 0)), (.iconst 0, 1, (0, 0, 0, 0, 0)), (.istore 7, 2, (7, 0, 0, 0, 0)), (.iconst 0, 1, (0, 0, 0, 0, 0)), (.istore 8, 2, (8, 0, 0, 0, 0)), (.iload 4, 2, (4, 0, 0, 0, 0)), (.istore 9, 2, (9, 0, 0, 0, 0)), (.iload 9, 2, (9, 0, 0, 0, 0)), (.aload_n 0, 1, (0, 0, 0, 0, 0)), (.getfield 36, 3, (11, 15, 2317, 0, 0)), (.iload_n 1, 1, (1, 0, 0, 0, 0)), (.iaload, 1, (0, 0, 0, 0, 0)), (.if_icmp .ge 63, 3, (175, 0, 0, 0, 0)), (.iload 7, 2, (7, 0, 0, 0, 0)), (.ifCond .eq 58, 3, (175, 0, 0, 0, 0)), (.aload_n 0, 1, (0, 0, 0, 0, 0)), (.getfield 10, 3, (11, 2, 2304, 0, 0)), (.iload 9, 2, (9, 0, 0, 0, 0)), (.baload, 1, (0, 0, 0, 0, 0)), (.bipush 48, 2, (0, 0, 0, 48, 0)), (.if_icmp .lt 19, 3, (148, 0, 0, 0, 0)), (.aload_n 0, 1, (0, 0, 0, 0, 0)), (.getfield 10, 3, (11, 2, 2304, 0, 0)), (.iload 9, 2, (9, 0, 0, 0, 0)), (.baload, 1, (0, 0, 0, 0, 0)), (.bipush 57, 2, (0, 0, 0, 57, 0)), (.if_icmp .gt 7, 3, (148, 0, 0, 0, 0)), (.iconst 1, 1, (0, 0, 0, 1, 0)), (.goto 4, 3, (149, 0, 0, 0, 0)), (.iconst 0, 1, (0, 0, 0, 0, 0)), (.istore 7, 2, (7, 0, 0, 0, 0)), (.bipush 10, 2, (0, 0, 0, 10, 0)), (.iload 8, 2, (8, 0, 0, 0, 0)), (.imul, 1, (0, 0, 0, 0, 0)), (.aload_n 0, 1, (0, 0, 0, 0, 0)), (.getfield 10, 3, (11, 2, 2304, 0, 0)), (.iload 9, 2, (9, 0, 0, 0, 0)), (.baload, 1, (0, 0, 0, 0, 0)), (.iadd, 1, (0, 0, 0, 0, 0)), (.bipush 48, 2, (0, 0, 0, 48, 0)), (.isub, 1, (0, 0, 0, 0, 0)), (.istore 8, 2, (8, 0, 0, 0, 0)), (.iinc 9 1, 3, (0, 0, 0, 1, 0)), (.goto (-68), 3, (104, 0, 0, 0, 0)), (.iload 5, 2, (5, 0, 0, 0, 0)), (.ifCond .eq 9, 3, (186, 0, 0, 0, 0)), (.iload 8, 2, (8, 0, 0, 0, 0)), (.ineg, 1, (0, 0, 0, 0, 0)), (.goto 5, 3, (188, 0, 0, 0, 0)), (.iload 8, 2, (8, 0, 0, 0, 0)), (.istore 8, 2, (8, 0, 0, 0, 0)), (.aload_n 0, 1, (0, 0, 0, 0, 0)), (.aload_n 0, 1, (0, 0, 0, 0, 0)), (.getfield 125, 3, (11, 16, 2318, 0, 0)), (.ifCond .eq 24, 3, (219, 0, 0, 0, 0)), (.iload 7, 2, (7, 0, 0, 0, 0)), (.ifCond .eq 19, 3, (219, 0, 0, 0, 0)), (.iload 8, 2, (8, 0, 0, 0, 0)), (.iload_n 2, 1, (2, 0, 0, 0, 0)), (.if_icmp .lt 13, 3, (219, 0, 0, 0, 0)), (.iload 8, 2, (8, 0, 0, 0, 0)), (.iload_n 3, 1, (3, 0, 0, 0, 0)), (.if_icmp .gt 7, 3, (219, 0, 0, 0, 0)), (.iconst 1, 1, (0, 0, 0, 1, 0)), (.goto 4, 3, (220, 0, 0, 0, 0)), (.iconst 0, 1, (0, 0, 0, 0, 0)), (.putfield 125, 3, (11, 16, 2318, 1, 0)), (.iload 8, 2, (8, 0, 0, 0, 0)), (.ireturn, 1, (0, 0, 0, 0, 0))]
theorem ao_MMnumberX : jokLG jtF lk_MM "ChessHouseModel" jcl jtb 10 prog_15_method_25_code 0 ak_MMnumberX = true := by decide +kernel
end
section
/-! a whole method as one proposition: what must hold at a place of it, so that it ends as a post says -/
/-- a method that is called: its words, is it static, how many values it takes, its file's number, its room, what must hold before it for a post behind it -/
abbrev lC : Type := jY × Bool × Nat × Nat × Room × (List jv → (Nat → jcell) → jPo → Prop)
/-- a method: what it returns, its room, links and static things, what it calls, its rows -/
abbrev lM : Type := Option FieldType × Room × (List (Nat × Nat × Nat) × List aSz) × List lC × List jI
noncomputable def lGo (is : List jI) (pc : Nat) : List jI := match aSuf is 0 pc with
  | some js => js
  | none => []
noncomputable def lRm (rm rc : Room) (nL : Nat) : Bool := Nat.ble (rc.frames + 1) rm.frames && Nat.ble (8 + (nL + 11) + rc.locals) rm.locals
noncomputable def lNa (ret : Option FieldType) (v : Int32) : Prop := match ret with
  | some ty => narrow ty (.int v) = .int v
  | none => False
/-- where a switch goes -/
noncomputable def lSw (f : Nat → Prop) (x : Int) (pc d : Nat) : List (Int × Int) → Prop
  | [] => f d
  | q :: r => (x = q.1 → f ((pc : Int) + q.2).toNat) ∧ (¬ x = q.1 → lSw f x pc d r)
noncomputable def lTs (lo : Int) : List Int → List (Int × Int)
  | [] => []
  | o :: r => (lo, o) :: lTs (lo + 1) r
noncomputable def lLk (f : Nat → Prop) (x : Int) (pc : Nat) : List (Int × Int) → Prop
  | [] => True
  | q :: r => (x = q.1 → f ((pc : Int) + q.2).toNat) ∧ lLk f x pc r
theorem lSw_m {f g : Nat → Prop} {x : Int} {pc d : Nat} (hfg : ∀ t, f t → g t) : ∀ L : List (Int × Int), lSw f x pc d L → lSw g x pc d L
  | [], h => hfg _ h
  | _ :: r, h => ⟨fun q => hfg _ (h.1 q), fun q => lSw_m hfg r (h.2 q)⟩
theorem lLk_m {f g : Nat → Prop} {x : Int} {pc : Nat} (hfg : ∀ t, f t → g t) : ∀ L : List (Int × Int), lLk f x pc L → lLk g x pc L
  | [], _ => trivial
  | _ :: r, h => ⟨fun q => hfg _ (h.1 q), lLk_m hfg r h.2⟩
theorem lTs_o {f : Nat → Prop} {x : Int} {pc d : Nat} : ∀ (L : List Int) (lo : Int), lSw f x pc d (lTs lo L) → (x < lo ∨ lo + L.length - 1 < x) → f d
  | [], _, h, _ => h
  | o :: r, lo, h, hx => by
    rw [List.length_cons] at hx
    exact lTs_o r (lo + 1) (h.2 (show ¬ x = lo by omega)) (by omega)
theorem lTs_i {f : Nat → Prop} {x : Int} {pc d : Nat} : ∀ (L : List Int) (lo : Int) (i : Nat) (o : Int), lSw f x pc d (lTs lo L) → L[i]? = some o → x = lo + i → f ((pc : Int) + o).toNat
  | [], _, i, o, _, h, _ => by simp at h
  | o' :: r, lo, 0, o, h, he, hx => by
    obtain rfl : o' = o := Option.some.inj he
    exact h.1 (show x = lo by omega)
  | o' :: r, lo, i + 1, o, h, he, hx => lTs_i r (lo + 1) i o (h.2 (show ¬ x = lo by omega)) he (by omega)
theorem lLk_i {f : Nat → Prop} {x : Int} {pc : Nat} : ∀ (L : List (Int × Int)) (q : Int × Int), lLk f x pc L → q ∈ L → x = q.1 → f ((pc : Int) + q.2).toNat
  | [], _, _, h, _ => by cases h
  | q' :: r, q, h, hq, hx => by
    rcases List.mem_cons.mp hq with rfl | hq
    · exact h.1 hx
    · exact lLk_i r q h.2 hq hx
noncomputable def lOb (ret : Option FieldType) : Prop := match ret with
  | some (.object _) => True
  | some (.array _) => True
  | _ => False
section JGQ
variable {E : jE} {own : String} {Ts : List Jvm.Cond} {cl : List vw_C} {tb : jTb} {nL n : Nat} {ini : Bool} {cc : ByteArray} {M : jM} {Q : State → Prop} {cells slots : Nat}
/-- a static of a nest mate -/
theorem jk_gsq (X : jX E own Ts cl tb nL ini cc M) {pc i : Nat} {host : String} {q : String × String × String × jSv} (hd : decode cc pc = .ok (.getstatic i, 3)) (hm : q ∈ js0.2.1) (hw : Jvm.Cond.fieldLinkNest own i q.1 q.2.1 q.2.2.1 host ∈ jNW Ts) {lv : List (Option jv)} {r : List jv} {σ : Nat → jcell} (k : jJ E cl nL M Q n cells slots (pc + 3) lv (jSw q.2.2.2 :: r) σ) : jJ E cl nL M Q n cells slots pc lv r σ := by
  obtain ⟨hx, hb, hml, ho, hts, ⟨hK, hSt, -, hN⟩, -⟩ := X
  intro H locs ls hW hS hL
  refine va_getsN hx hb (hSt.2.2.1 _ hm) hS ho (va_Nw.use rfl (hN _ hw)) (fun _ h9 => h9) hd ?_
  have h := k H locs ls hW hS hL
  rw [List.map_cons, jSw_c] at h
  exact h
theorem jNW_im {Ts : List Jvm.Cond} {wi : Nat} {w : Jvm.Cond} (h : Ts[wi]? = some w) (hg : jnest w = true) : w ∈ jNW Ts := List.mem_filter.mpr ⟨List.mem_of_getElem? h, hg⟩
theorem ek_qmax : prog_24_method_65_code = Lib.Math.max.code := by decide +kernel
theorem ek_qmin : prog_24_method_69_code = Lib.Math.min.code := by decide +kernel
theorem jk_qmax (X : jX E own Ts cl tb nL ini cc M) {rm : Room} (hR : M.2.2.2.1 = rm) {pc i : Nat} (hd : decode cc pc = .ok (.invokestatic i, 3)) (hli : Jvm.Cond.methodLink own i Lib.Math.max.name ∈ jTA Ts) (hst : Jvm.Cond.static Lib.Math.max.name ∈ jTA Ts) (hin : Jvm.Cond.initialized "java/lang/Math" ∈ jTA Ts) (hco : Jvm.Cond.code Lib.Math.max.name Lib.Math.max.code 2 (some .int) ∈ jTA Ts) {lv : List (Option jv)} {r : List jv} {σ : Nat → jcell} (hf : 1 ≤ rm.frames) (hz : (r.map jcat).sum ≤ 8) (hl : 21 ≤ rm.locals) (hc : cells ≤ rm.cells ∧ slots ≤ rm.slots) {x y : Int32} (k : jJ E cl nL M Q n cells slots (pc + 3) lv (.inl (if x < y then y else x) :: r) σ) : jJ E cl nL M Q n cells slots pc lv (.inl y :: .inl x :: r) σ := by
  obtain ⟨p, l, e, R, s, m, args, below, meth, c⟩ := M
  dsimp only at hR
  subst hR
  obtain ⟨hx, hb, hml, ho, hts, hK, -, -⟩ := X
  intro H locs ls hW hS hL
  refine va_mmax hx hb (by rw [hL.1]; exact hml) ho (hts _ hli) (hts _ hst) (hts _ hin) (hts _ hco) hf (by have := jcat_sum E r; omega) hc.1 hc.2 hd ?_
  exact k H locs ls hW hS hL
theorem jk_qmin (X : jX E own Ts cl tb nL ini cc M) {rm : Room} (hR : M.2.2.2.1 = rm) {pc i : Nat} (hd : decode cc pc = .ok (.invokestatic i, 3)) (hli : Jvm.Cond.methodLink own i Lib.Math.min.name ∈ jTA Ts) (hst : Jvm.Cond.static Lib.Math.min.name ∈ jTA Ts) (hin : Jvm.Cond.initialized "java/lang/Math" ∈ jTA Ts) (hco : Jvm.Cond.code Lib.Math.min.name Lib.Math.min.code 2 (some .int) ∈ jTA Ts) {lv : List (Option jv)} {r : List jv} {σ : Nat → jcell} (hf : 1 ≤ rm.frames) (hz : (r.map jcat).sum ≤ 8) (hl : 21 ≤ rm.locals) (hc : cells ≤ rm.cells ∧ slots ≤ rm.slots) {x y : Int32} (k : jJ E cl nL M Q n cells slots (pc + 3) lv (.inl (if y < x then y else x) :: r) σ) : jJ E cl nL M Q n cells slots pc lv (.inl y :: .inl x :: r) σ := by
  obtain ⟨p, l, e, R, s, m, args, below, meth, c⟩ := M
  dsimp only at hR
  subst hR
  obtain ⟨hx, hb, hml, ho, hts, hK, -, -⟩ := X
  intro H locs ls hW hS hL
  refine va_mmin hx hb (by rw [hL.1]; exact hml) ho (hts _ hli) (hts _ hst) (hts _ hin) (hts _ hco) hf (by have := jcat_sum E r; omega) hc.1 hc.2 hd ?_
  exact k H locs ls hW hS hL
noncomputable def aSpQ (own : String) (Ts : List Jvm.Cond) (q : aSz) : Prop := aSpP own Ts q ∧ (q.1 = 7 → ∃ z ∈ js0.2.1, ∃ host, z.2.2.2 = q.2.2.2 ∧ Jvm.Cond.fieldLinkNest own q.2.1 z.1 z.2.1 z.2.2.1 host ∈ jNW Ts) ∧ (q.1 = 8 → Jvm.Cond.methodLink own q.2.1 Lib.Math.max.name ∈ jTA Ts ∧ Jvm.Cond.static Lib.Math.max.name ∈ jTA Ts ∧ Jvm.Cond.initialized "java/lang/Math" ∈ jTA Ts ∧ Jvm.Cond.code Lib.Math.max.name Lib.Math.max.code 2 (some .int) ∈ jTA Ts) ∧ (q.1 = 9 → Jvm.Cond.methodLink own q.2.1 Lib.Math.min.name ∈ jTA Ts ∧ Jvm.Cond.static Lib.Math.min.name ∈ jTA Ts ∧ Jvm.Cond.initialized "java/lang/Math" ∈ jTA Ts ∧ Jvm.Cond.code Lib.Math.min.name Lib.Math.min.code 2 (some .int) ∈ jTA Ts)
end JGQ
section JAS
variable {E : jE} {own : String} {Ts : List Jvm.Cond} {cl : List vw_C} {tb : jTb} {nL : Nat} {ini : Bool} {cc : ByteArray} {M : jM} {Q : State → Prop} {n cells slots : Nat}
theorem jk_acs (X : jX E own Ts cl tb nL ini cc M) {rm : Room} (hR : M.2.2.2.1 = rm) {pc i : Nat} (hd : decode cc pc = .ok (.invokestatic i, 3)) (hli : Jvm.Cond.methodLink own i arraycopyName ∈ jTA Ts) (hna : Jvm.Cond.native arraycopyName ∈ jTA Ts) (hst : Jvm.Cond.static arraycopyName ∈ jTA Ts) (hin : Jvm.Cond.initialized "java/lang/System" ∈ jTA Ts) {lv : List (Option jv)} {r : List jv} {σ : Nat → jcell} {j0 b1 n0 n1 : Nat} {f g : Nat → Int32} {s1 s2 s3 : String} (he0 : tb j0 = some (s1, s2, s3, .byte, n0, f)) (ha1 : b1 < n) (he1 : σ b1 = .inl (.byte, n1, .inl g)) {sp dp k : Int32} (h1 : ¬ sp < 0) (h2 : ¬ dp < 0) (h3 : ¬ k < 0) (h4 : sp.toNatClampNeg + k.toNatClampNeg ≤ n0) (h5 : dp.toNatClampNeg + k.toNatClampNeg ≤ n1) (hfit : ∀ j, j < k.toNatClampNeg → -128 ≤ (f (sp.toNatClampNeg + j)).toInt ∧ (f (sp.toNatClampNeg + j)).toInt ≤ 127) (hf : 1 ≤ rm.frames) (hz : (r.map jcat).sum ≤ 8) (hl : 8 + (nativeFrameWords "java/lang/System" "arraycopy" 5 + 11) ≤ rm.locals)
    (kk : jJ E cl nL M Q n cells slots (pc + 3) lv r (jup σ b1 (.inl (.byte, n1, .inl (va_cpy f g sp.toNatClampNeg dp.toNatClampNeg k.toNatClampNeg))))) : jJ E cl nL M Q n cells slots pc lv (.inl k :: .inl dp :: .inr (.inr (some (.inl b1))) :: .inl sp :: .inr (.inr (some (.inr j0))) :: r) σ := by
  obtain ⟨p, l, e, R, s, m, args, below, meth, c⟩ := M
  dsimp only at hR
  subst hR
  obtain ⟨hx, hb, hml, ho, hts, ⟨hK, hK2⟩, -⟩ := X
  intro H locs ls hW hS hL
  have hP1 := jW_one hW ha1 (by rw [he1]; simp only [jkn]; first | done | decide | assumption)
  rw [he1] at hP1
  obtain ⟨t0, ht0⟩ := jty_in (E := E) (t := .byte) (by decide)
  obtain ⟨cs, hc0, ⟨hns, q0, hq0, cm0, hqq0⟩, hun, hN, -, hsl, -⟩ := (hK2.1.1 j0 _ he0).2.kept hS.2.1
  dsimp only at hN hsl hqq0
  have hc1 : H[E.2.2.2 + b1]? = some (vp_cell (E.2.1 .byte) (n1, .inl g)) := hP1 0 _ rfl
  intro T hT X9
  obtain ⟨-, q1, hq1, cm1, hqq1⟩ := (hK.2 t0 _ ht0).1 n1 (fun j => .int (g j))
  have hsz : c.maxLocals = ls.size := by rw [hL.1]; exact hml
  obtain ⟨vm', X', step⟩ := X9.arraycopy hx ho (hts _ hli) (hts _ hna) (hts _ hst) (hts _ hin) (src := E.2.2.1 j0) (dst := E.2.2.2 + b1) (cs := cs) (cd := vp_cell (E.2.1 .byte) (n1, .inl g)) (srcPos := sp) (destPos := dp) (n := k) (by rw [hT]; exact hc0) (by rw [hT]; exact hc1)
    hns (fun _ h => by cases h) hun (fun h => by cases h) hq0 hq1 hqq0 hqq1 (by simp) h1 h2 h3
    (by rw [jac_nn sp h1, jac_nn k h3]; omega)
    (by rw [jac_nn dp h2, jac_nn k h3]; show ¬ _ > ((arrV (E.2.1 .byte) n1 (fun j => .int (g j))).slots.size : Int); rw [arrV_size]; omega)
    (fun vm1 _ j hj => by
      have e1 : cs.slots.getD (sp.toNatClampNeg + j) .null = .int (f (sp.toNatClampNeg + j)) := by
        rw [Array.getD_eq_getD_getElem?, hsl _ (by omega)]
        rfl
      rw [e1]
      refine ⟨?_, trivial⟩
      have h9 := hfit j hj
      have y1 : (-128 : Int32) ≤ f (sp.toNatClampNeg + j) := Int32.le_iff_toInt_le.mpr (by show (-128 : Int) ≤ _; exact h9.1)
      have y2 : f (sp.toNatClampNeg + j) ≤ (127 : Int32) := Int32.le_iff_toInt_le.mpr (by show _ ≤ (127 : Int); exact h9.2)
      show (decide _ && decide _) = true
      rw [Bool.and_eq_true, decide_eq_true_eq, decide_eq_true_eq]
      exact ⟨y1, y2⟩)
    (g := F0 m pc ls (.int k :: .int dp :: .ref (E.2.2.2 + b1) :: .int sp :: .ref (E.2.2.1 j0) :: r.map (jc E))) rfl (by rw [hsz]) (rest := r.map (jc E)) rfl (by rw [hb]; exact hd) hf (show 2 * 0 + ((r.map (jc E)).map fun v => v.category).sum + (nativeFrameWords "java/lang/System" "arraycopy" 5 + 11) ≤ R.locals from by have := jcat_sum E r; omega)
  have e1 : copied cs (vp_cell (E.2.1 .byte) (n1, .inl g)) sp dp k = vp_cell (E.2.1 .byte) (n1, .inl (va_cpy f g sp.toNatClampNeg dp.toNatClampNeg k.toNatClampNeg)) := va_copiedX (fun z => .int z) cs _ f g hsl h4
  rw [e1] at X' step
  have hlt : E.2.2.2 + b1 < H.size := (Array.getElem?_eq_some_iff.mp hc1).1
  have hheap : ((T.setVm vm').setCell (E.2.2.2 + b1) (vp_cell (E.2.1 .byte) (n1, .inl (va_cpy f g sp.toNatClampNeg dp.toNatClampNeg k.toNatClampNeg)))).heap = H.setIfInBounds (E.2.2.2 + b1) (vp_cell (E.2.1 .byte) (n1, .inl (va_cpy f g sp.toNatClampNeg dp.toNatClampNeg k.toNatClampNeg))) := by rw [← hT]; rfl
  have oq : ∀ q : Nat, q ≠ E.2.2.2 + b1 → (H.setIfInBounds (E.2.2.2 + b1) (vp_cell (E.2.1 .byte) (n1, .inl (va_cpy f g sp.toNatClampNeg dp.toNatClampNeg k.toNatClampNeg))))[q]? = H[q]? := fun q hq => by simp [Array.getElem?_setIfInBounds, Ne.symm hq]
  have hA : jA E (E.2.2.2 + b1) := Nat.le_add_right _ _
  obtain ⟨t, a1, a2⟩ := kk _ _ ls (jW_set hW (by simp) oq (by show (H.setIfInBounds _ _)[E.2.2.2 + b1]? = some _; simp [Array.getElem?_setIfInBounds, hlt])) ⟨by simp; exact hS.1, fun q y1 y2 => by
      rw [oq q (fun e9 => y2 (by rw [e9]; exact hA))]
      exact hS.2.1 q y1 y2, fun q hq => by
      rcases List.mem_append.mp hq with h | h
      · exact hS.2.2 q h
      · obtain ⟨z, -, hz9⟩ := List.mem_map.mp h
        rw [← hz9]
        exact hA⟩ hL _ hheap X'
  exact ⟨t, step t a1, a2⟩
end JAS
/-- System.arraycopy, over rows of longs and rows of bytes -/
noncomputable def lAc (tb : jTb) (n : Nat) (st : List jv) (σ : Nat → jcell) (f : List jv → (Nat → jcell) → Prop) : Prop := match st with
  | .inl c :: .inl dp :: .inr (.inr (some (.inl b1))) :: .inl sp :: .inr (.inr (some (.inl b0))) :: s => b0 < n ∧ b1 < n ∧ Nat.ble (s.map jcat).sum 8 = true ∧ (¬ sp < 0 ∧ ¬ dp < 0 ∧ ¬ c < 0) ∧ (match σ b0 with
    | .inl (.long, n0, .inr (.inl u)) => (match σ b1 with
      | .inl (.long, n1, .inr (.inl g)) => sp.toNatClampNeg + c.toNatClampNeg ≤ n0 ∧ dp.toNatClampNeg + c.toNatClampNeg ≤ n1 ∧ f s (jup σ b1 (.inl (.long, n1, .inr (.inl (va_cpy u g sp.toNatClampNeg dp.toNatClampNeg c.toNatClampNeg)))))
      | _ => False)
    | .inl (.byte, n0, .inl u) => (match σ b1 with
      | .inl (.byte, n1, .inl g) => sp.toNatClampNeg + c.toNatClampNeg ≤ n0 ∧ dp.toNatClampNeg + c.toNatClampNeg ≤ n1 ∧ (∀ j, j < c.toNatClampNeg → -128 ≤ (u (sp.toNatClampNeg + j)).toInt ∧ (u (sp.toNatClampNeg + j)).toInt ≤ 127) ∧ f s (jup σ b1 (.inl (.byte, n1, .inl (va_cpy u g sp.toNatClampNeg dp.toNatClampNeg c.toNatClampNeg))))
      | _ => False)
    | _ => False)
  | .inl c :: .inl dp :: .inr (.inr (some (.inl b1))) :: .inl sp :: .inr (.inr (some (.inr j0))) :: s => b1 < n ∧ Nat.ble (s.map jcat).sum 8 = true ∧ (¬ sp < 0 ∧ ¬ dp < 0 ∧ ¬ c < 0) ∧ (match tb j0 with
    | some (_, _, _, .byte, n0, u) => (match σ b1 with
      | .inl (.byte, n1, .inl g) => sp.toNatClampNeg + c.toNatClampNeg ≤ n0 ∧ dp.toNatClampNeg + c.toNatClampNeg ≤ n1 ∧ (∀ j, j < c.toNatClampNeg → -128 ≤ (u (sp.toNatClampNeg + j)).toInt ∧ (u (sp.toNatClampNeg + j)).toInt ≤ 127) ∧ f s (jup σ b1 (.inl (.byte, n1, .inl (va_cpy u g sp.toNatClampNeg dp.toNatClampNeg c.toNatClampNeg))))
      | _ => False)
    | _ => False)
  | _ => False
noncomputable def lwp (tb : jTb) (n : Nat) (m : lM) (post : jPo) : Nat → List jI → Nat → List (Option jv) → List jv → (Nat → jcell) → Prop
  | 0, _, _, _, _, _ => False
  | _ + 1, [], _, _, _, _ => False
  | k + 1, x :: r, pc, lv, st, σ => match Nat.beq x.2.2.1 999 with
    | false => (match x.1 with
      | .return_ => x.2.1 = 1 ∧ m.1 = none ∧ (match st with
        | [] => post none σ n
        | _ => False)
      | .ireturn => x.2.1 = 1 ∧ (match st with
        | [.inl v] => lNa m.1 v ∧ post (some (.inl v)) σ n
        | _ => False)
      | .lreturn => x.2.1 = 1 ∧ m.1 = some .long ∧ (match st with
        | [.inr (.inl v)] => post (some (.inr (.inl v))) σ n
        | _ => False)
      | .areturn => x.2.1 = 1 ∧ lOb m.1 ∧ (match st with
        | [.inr (.inr v)] => post (some (.inr (.inr v))) σ n
        | _ => False)
      | .tableswitch dflt lo hi offs => (match st with
        | .inl v :: s => hi - lo + 1 = (offs.toList.length : Int) ∧ offs.toList.all (fun o => decide (0 ≤ (pc : Int) + o)) = true ∧ 0 ≤ (pc : Int) + dflt ∧ lSw (fun t => lwp tb n m post k (lGo m.2.2.2.2 t) t lv s σ) v.toInt pc ((pc : Int) + dflt).toNat (lTs lo offs.toList)
        | _ => False)
      | .lookupswitch dflt ps => (match st with
        | .inl v :: s => (ps.toList.zip (ps.toList.drop 1)).all (fun (a, next) => a.1 < next.1) = true ∧ ps.toList.all (fun o => decide (0 ≤ (pc : Int) + o.2)) = true ∧ 0 ≤ (pc : Int) + dflt ∧ ((∀ q ∈ ps.toList, ¬ v.toInt = q.1) → lwp tb n m post k (lGo m.2.2.2.2 ((pc : Int) + dflt).toNat) ((pc : Int) + dflt).toNat lv s σ) ∧ lLk (fun t => lwp tb n m post k (lGo m.2.2.2.2 t) t lv s σ) v.toInt pc ps.toList
        | _ => False)
      | .invokestatic i => x.2.1 = 3 ∧ (match m.2.2.2.1[x.2.2.1]? with
        | some G => G.2.1 = true ∧ jin3 i x.2.2.2.2.1 x.2.2.1 m.2.2.1.1 = true ∧ lRm m.2.1 G.2.2.2.2.1 G.1.2.2.1 = true ∧ Nat.ble G.2.2.1 st.length = true ∧ Nat.ble ((st.drop G.2.2.1).map jcat).sum 8 = true ∧ G.2.2.2.2.2 (st.take G.2.2.1).reverse σ (fun v σ' n' => n' = n ∧ lwp tb n m post k r (pc + 3) lv (v.toList ++ st.drop G.2.2.1) σ')
        | none => False)
      | .invokevirtual i => x.2.1 = 3 ∧ (match m.2.2.2.1[x.2.2.1]? with
        | some G => G.2.1 = false ∧ jin3 i x.2.2.2.2.1 x.2.2.1 m.2.2.1.1 = true ∧ lRm m.2.1 G.2.2.2.2.1 G.1.2.2.1 = true ∧ Nat.ble G.2.2.1 st.length = true ∧ Nat.ble ((st.drop G.2.2.1).map jcat).sum 8 = true ∧ (match (st.take G.2.2.1).reverse with
          | .inr (.inr (some (.inl a))) :: vals => a < n ∧ (match σ a with
            | .inr (c, _) => c = G.2.2.2.1
            | _ => False) ∧ Nat.ble 1000 G.2.2.2.1 = false ∧ G.2.2.2.2.2 (.inr (.inr (some (.inl a))) :: vals) σ (fun v σ' n' => n' = n ∧ lwp tb n m post k r (pc + 3) lv (v.toList ++ st.drop G.2.2.1) σ')
          | .inr (.inr (some (.inr j))) :: vals => (∃ o, o ∈ js0.1 ∧ o.1 = j ∧ o.2.1 = G.1.1.cls) ∧ G.2.2.2.2.2 (.inr (.inr (some (.inr j))) :: vals) σ (fun v σ' n' => n' = n ∧ lwp tb n m post k r (pc + 3) lv (v.toList ++ st.drop G.2.2.1) σ')
          | _ => False)
        | none => False)
      | _ => jstep tb n x.1 x.2.1 x.2.2 pc lv st σ (fun a b c d => lwp tb n m post k r a b c d) (fun a b c d => lwp tb n m post k (lGo m.2.2.2.2 a) a b c d))
    | true => (match x.1 with
      | .ldc i => x.2.1 = 2 ∧ (match aSpf 1 i 0 m.2.2.1.2 with
        | some v => lwp tb n m post k r (pc + 2) lv (jSw v :: st) σ
        | none => False)
      | .ldc_w i => x.2.1 = 3 ∧ (match aSpf 2 i 0 m.2.2.1.2 with
        | some v => lwp tb n m post k r (pc + 3) lv (jSw v :: st) σ
        | none => (match aSpf 3 i 0 m.2.2.1.2 with
          | some v => lwp tb n m post k r (pc + 3) lv (jSw v :: st) σ
          | none => False))
      | .aaload => x.2.1 = 1 ∧ (match st with
        | .inl i :: .inr (.inr (some (.inr j))) :: s => (match aSrf j with
          | some q => vp_in i q.2.2.1 ∧ lwp tb n m post k r (pc + 1) lv (.inr (.inr (some (.inr (q.2.2.2 i.toNatClampNeg)))) :: s) σ
          | none => False)
        | _ => False)
      | .getstatic i => x.2.1 = 3 ∧ (match aSpf 4 i 0 m.2.2.1.2 with
        | some v => lwp tb n m post k r (pc + 3) lv (jSw v :: st) σ
        | none => (match aSpf 7 i 0 m.2.2.1.2 with
          | some v => lwp tb n m post k r (pc + 3) lv (jSw v :: st) σ
          | none => False))
      | .getfield i => x.2.1 = 3 ∧ (match st with
        | .inr (.inr (some (.inr o))) :: s => (match aSpf 5 i o m.2.2.1.2 with
          | some v => lwp tb n m post k r (pc + 3) lv (jSw v :: s) σ
          | none => False)
        | _ => False)
      | .arraylength => x.2.1 = 1 ∧ (match st with
        | .inr (.inr (some (.inr j))) :: s => (match aSro j with
          | some q => lwp tb n m post k r (pc + 1) lv (.inl (Int32.ofNat q.2.2.1) :: s) σ
          | none => (match aSrf j with
            | some q => lwp tb n m post k r (pc + 1) lv (.inl (Int32.ofNat q.2.2.1) :: s) σ
            | none => False))
        | _ => False)
      | .baload => x.2.1 = 1 ∧ (match st with
        | .inl i :: .inr (.inr (some (.inr j))) :: s => (match aSro j with
          | some q => vp_in i q.2.2.1 ∧ lwp tb n m post k r (pc + 1) lv (.inl (q.2.2.2 i.toNatClampNeg) :: s) σ
          | none => False)
        | _ => False)
      | .invokevirtual i => x.2.1 = 3 ∧ (match m.2.2.2.1[x.2.2.2.1]? with
        | some G => G.2.1 = false ∧ jin3 i x.2.2.2.2.1 x.2.2.2.1 m.2.2.1.1 = true ∧ lRm m.2.1 G.2.2.2.2.1 G.1.2.2.1 = true ∧ Nat.ble G.2.2.1 st.length = true ∧ Nat.ble ((st.drop G.2.2.1).map jcat).sum 8 = true ∧ (match (st.take G.2.2.1).reverse with
          | .inr (.inr (some (.inl a))) :: vals => a < n ∧ (match σ a with
            | .inr (c, _) => c = G.2.2.2.1
            | _ => False) ∧ Nat.ble 1000 G.2.2.2.1 = false ∧ G.2.2.2.2.2 (.inr (.inr (some (.inl a))) :: vals) σ (fun v σ' n' => n' = n ∧ lwp tb n m post k r (pc + 3) lv (v.toList ++ st.drop G.2.2.1) σ')
          | .inr (.inr (some (.inr j))) :: vals => (∃ o, o ∈ js0.1 ∧ o.1 = j ∧ o.2.1 = G.1.1.cls) ∧ G.2.2.2.2.2 (.inr (.inr (some (.inr j))) :: vals) σ (fun v σ' n' => n' = n ∧ lwp tb n m post k r (pc + 3) lv (v.toList ++ st.drop G.2.2.1) σ')
          | _ => False)
        | none => False)
      | .invokestatic i => x.2.1 = 3 ∧ (match aSpf 6 i 0 m.2.2.1.2 with
        | some _ => (Nat.ble 1 m.2.1.frames = true ∧ Nat.ble (8 + (nativeFrameWords "java/lang/System" "arraycopy" 5 + 11)) m.2.1.locals = true) ∧ lAc tb n st σ (fun s σ' => lwp tb n m post k r (pc + 3) lv s σ')
        | none => (match st with
          | .inl y :: .inl x :: s => (match aSpf 8 i 0 m.2.2.1.2 with
            | some _ => (Nat.ble 1 m.2.1.frames = true ∧ Nat.ble 21 m.2.1.locals = true ∧ Nat.ble (s.map jcat).sum 8 = true) ∧ lwp tb n m post k r (pc + 3) lv (.inl (if x < y then y else x) :: s) σ
            | none => (match aSpf 9 i 0 m.2.2.1.2 with
              | some _ => (Nat.ble 1 m.2.1.frames = true ∧ Nat.ble 21 m.2.1.locals = true ∧ Nat.ble (s.map jcat).sum 8 = true) ∧ lwp tb n m post k r (pc + 3) lv (.inl (if y < x then y else x) :: s) σ
              | none => False))
          | _ => False))
      | _ => False)
/-- what the tables must say of a method that is called -/
noncomputable def lGd (Ts : List Jvm.Cond) (cl : List vw_C) (G : lC) : Prop := G.2.2.2.2.1.cells = 0 ∧ G.2.2.2.2.1.slots = 0 ∧ (if G.2.1 = true then jmth Ts G.1 G.2.2.1 ∧ Jvm.Cond.static G.1.1 ∈ jTA Ts else 1 ≤ G.2.2.1 ∧ jmth Ts G.1 (G.2.2.1 - 1) ∧ Jvm.Cond.instanceMethod G.1.1 ∈ jTA Ts ∧ Jvm.Cond.selects G.1.1.cls G.1.1 G.1.1 ∈ jTA Ts ∧ (Nat.ble 1000 G.2.2.2.1 = false → ∃ q, cl[G.2.2.2.1]? = some q ∧ q.1 = G.1.1.cls))
section LKT
variable {l : Launch} {E : jE} {own : String} {Ts : List Jvm.Cond} {cl : List vw_C} {tb : jTb} {nL : Nat} {ini : Bool} {cc : ByteArray} {M : jM} {n : Nat}
theorem l_rm {rm rc : Room} {k : Nat} (h : lRm rm rc k = true) : rc.frames + 1 ≤ rm.frames ∧ 8 + (k + 11) + rc.locals ≤ rm.locals := by
  unfold lRm at h
  rw [Bool.and_eq_true] at h
  exact ⟨Nat.le_of_ble_eq_true h.1, Nat.le_of_ble_eq_true h.2⟩
theorem lwp_run {m : lM} {post : jPo} (hC : jCl Ts cl) (X : jX E own Ts cl tb nL ini cc M) (hl : M.2.1 = l) (hR : M.2.2.2.1 = m.2.1) (hr : M.2.2.2.2.2.2.2.2.1.sig.returnType = m.1) (hsp : ∀ q ∈ m.2.2.1.2, aSpQ own Ts q) (hlk : ∀ q ∈ m.2.2.1.1, ∀ G, m.2.2.2.1[q.2.2]? = some G → jlm Ts q.2.1 own q.1 G.1.1 = true) (hG : ∀ G ∈ m.2.2.2.1, lGd Ts cl G ∧ ∀ (vals : List jv) (σ : Nat → jcell) (po : jPo), G.2.2.2.2.2 vals σ po → jMet l E cl tb Ts G.1 G.2.2.2.2.1 vals σ n po) (hok : jokLQ own Ts cl tb nL ini cc 0 m.2.2.2.2 = true) : ∀ (k : Nat) (js : List jI) (pc : Nat) (lv : List (Option jv)) (st : List jv) (σ : Nat → jcell), jokLQ own Ts cl tb nL ini cc pc js = true → lwp tb n m post k js pc lv st σ → jJ E cl nL M (jQ E cl M post m.2.1.cells m.2.1.slots) n 0 0 pc lv st σ
  | 0, _, _, _, _, _, _, h => by unfold lwp at h; exact h.elim
  | _ + 1, [], _, _, _, _, _, h => by unfold lwp at h; exact h.elim
  | k + 1, x :: r, pc, lv, st, σ, hk, h => by
    have hk2 : jokQ own Ts cl tb nL ini cc pc x = true ∧ jokLQ own Ts cl tb nL ini cc (pc + x.2.1) r = true := by
      have h9 := hk
      unfold jokLQ at h9
      rwa [Bool.and_eq_true] at h9
    have hd : decode cc pc = .ok (x.1, x.2.1) := by
      have h9 := hk2.1
      unfold jokQ at h9
      rw [Bool.and_eq_true, decide_eq_true_eq] at h9
      exact h9.1
    obtain ⟨I, ln, py⟩ := x
    dsimp only at hd hk2
    unfold lwp at h
    dsimp only at h
    split at h
    next h1 =>
     split at h
     next =>
       obtain ⟨rfl, h1, h2⟩ := h
       split at h2
       next => exact jk_vret X hd (hr.trans h1) (Nat.zero_le _) (Nat.zero_le _) h2
       next => exact h2.elim
     next =>
       obtain ⟨rfl, h2⟩ := h
       split at h2
       next v =>
         obtain ⟨h3, h4⟩ := h2
         unfold lNa at h3
         split at h3
         next ty he => exact jk_iret X hd (hr.trans he) h3 (Nat.zero_le _) (Nat.zero_le _) h4
         next => exact h3.elim
       next => exact h2.elim
     next =>
       obtain ⟨rfl, h1, h2⟩ := h
       split at h2
       next v => exact jk_lret X hd (hr.trans h1) (Nat.zero_le _) (Nat.zero_le _) h2
       next => exact h2.elim
     next =>
       obtain ⟨rfl, h1, h2⟩ := h
       split at h2
       next v =>
         unfold lOb at h1
         split at h1
         next s he => exact jk_aret X hd (hr.trans he) (Or.inl ⟨_, rfl⟩) (Nat.zero_le _) (Nat.zero_le _) h2
         next s he => exact jk_aret X hd (hr.trans he) (Or.inr ⟨_, rfl⟩) (Nat.zero_le _) (Nat.zero_le _) h2
         next => exact h1.elim
       next => exact h2.elim
     next dflt lo hi offs =>
       split at h
       next v s =>
         obtain ⟨z1, z2, z3, z4⟩ := h
         have go : ∀ t : Nat, lwp tb n m post k (lGo m.2.2.2.2 t) t lv s σ → jJ E cl nL M (jQ E cl M post m.2.1.cells m.2.1.slots) n 0 0 t lv s σ := by
           intro t h'
           unfold lGo at h'
           split at h'
           next js' hj => exact lwp_run hC X hl hR hr hsp hlk hG hok k js' t lv s σ (aSuf_ok hok hj) h'
           next => cases k <;> (unfold lwp at h'; exact h'.elim)
         refine jk_tab X hd (offs.toList.map (fun o => ((pc : Int) + o).toNat)) (by rw [List.length_map]; exact z1) ?_ (td := ((pc : Int) + dflt).toNat) (by omega) (fun hx => go _ (lTs_o _ _ z4 (by omega))) (fun i t ht hx => ?_)
         · rw [List.map_map]
           refine List.map_congr_left (fun o ho => ?_)
           have := of_decide_eq_true (List.all_eq_true.mp z2 o ho)
           show (pc : Int) + o = (((pc : Int) + o).toNat : Int)
           omega
         · rw [List.getElem?_map] at ht
           obtain ⟨o, ho, rfl⟩ := Option.map_eq_some_iff.mp ht
           exact go _ (lTs_i _ _ i o z4 ho hx)
       next => exact h.elim
     next dflt ps =>
       split at h
       next v s =>
         obtain ⟨z1, z2, z3, z4, z5⟩ := h
         have go : ∀ t : Nat, lwp tb n m post k (lGo m.2.2.2.2 t) t lv s σ → jJ E cl nL M (jQ E cl M post m.2.1.cells m.2.1.slots) n 0 0 t lv s σ := by
           intro t h'
           unfold lGo at h'
           split at h'
           next js' hj => exact lwp_run hC X hl hR hr hsp hlk hG hok k js' t lv s σ (aSuf_ok hok hj) h'
           next => cases k <;> (unfold lwp at h'; exact h'.elim)
         refine jk_look X hd z1 (td := ((pc : Int) + dflt).toNat) (by omega) (fun hx => go _ (z4 hx)) (fun q hq hx => ⟨((pc : Int) + q.2).toNat, ?_, go _ (lLk_i _ q z5 hq hx)⟩)
         have := of_decide_eq_true (List.all_eq_true.mp z2 q hq)
         omega
       next => exact h.elim
     next i =>
       obtain ⟨rfl, h2⟩ := h
       split at h2
       next G hg =>
         obtain ⟨z1, z2, z3, z4, z5, z6⟩ := h2
         obtain ⟨⟨g1, g2, g3⟩, g4⟩ := hG G (List.mem_of_getElem? hg)
         rw [if_pos z1] at g3
         have hM := g4 _ _ _ z6
         rw [← hl] at hM
         refine jk_callS (vals := (st.take G.2.2.1).reverse) (r := st.drop G.2.2.1) X hR hd (hlk _ (jin3_ok z2) _ hg) g3.1 g3.2 hM (by rw [List.reverse_reverse, List.take_append_drop]) (by rw [List.length_reverse, List.length_take]; have := Nat.le_of_ble_eq_true z4; omega) (l_rm z3) (by rw [g1, g2]; exact ⟨Nat.zero_le _, Nat.zero_le _⟩) (Nat.le_of_ble_eq_true z5) (fun v σ' n' hp => ?_)
         obtain ⟨hn', hp⟩ := hp
         rw [g1, g2, hn']
         exact lwp_run hC X hl hR hr hsp hlk hG hok k r (pc + 3) lv _ σ' hk2.2 hp
       next => exact h2.elim
     next i =>
       obtain ⟨rfl, h2⟩ := h
       split at h2
       next G hg =>
         obtain ⟨z1, z2, z3, z4, z5, z6⟩ := h2
         obtain ⟨⟨g1, g2, g3⟩, g4⟩ := hG G (List.mem_of_getElem? hg)
         rw [if_neg (by rw [z1]; decide)] at g3
         obtain ⟨g5, g6, g7, g8, gq⟩ := g3
         split at z6
         next a vals he =>
           obtain ⟨y1, y2, y0, y3⟩ := z6
           obtain ⟨q, g9, g10⟩ := gq y0
           split at y2
           next c fs hs =>
             subst y2
             have hM := g4 _ _ _ y3
             rw [← hl] at hM
             have hlen : vals.length = G.2.2.1 - 1 := by
               have h9 : (st.take G.2.2.1).reverse.length = vals.length + 1 := by rw [he]; rfl
               rw [List.length_reverse, List.length_take] at h9
               have := Nat.le_of_ble_eq_true z4
               omega
             have hst : st = vals.reverse ++ .inr (.inr (some (.inl a))) :: st.drop G.2.2.1 := by
               have h9 : st.take G.2.2.1 = (.inr (.inr (some (.inl a))) :: vals).reverse := by rw [← he, List.reverse_reverse]
               rw [List.reverse_cons] at h9
               have h8 : st.take G.2.2.1 ++ st.drop G.2.2.1 = st := List.take_append_drop _ _
               rw [h9, List.append_assoc] at h8
               exact h8.symm
             refine jk_callV (vals := vals) (r := st.drop G.2.2.1) X hR hd (hlk _ (jin3_ok z2) _ hg) g6 g7 g8 g9 g10 y1 hs hM hst hlen (l_rm z3) (by rw [g1, g2]; exact ⟨Nat.zero_le _, Nat.zero_le _⟩) (Nat.le_of_ble_eq_true z5) (fun v σ' n' hp => ?_)
             obtain ⟨hn', hp⟩ := hp
             rw [g1, g2, hn']
             exact lwp_run hC X hl hR hr hsp hlk hG hok k r (pc + 3) lv _ σ' hk2.2 hp
           next => exact y2.elim
         next j vals he =>
           obtain ⟨⟨o, y1, rfl, y2⟩, y3⟩ := z6
           have hM := g4 _ _ _ y3
           rw [← hl] at hM
           have hlen : vals.length = G.2.2.1 - 1 := by
             have h9 : (st.take G.2.2.1).reverse.length = vals.length + 1 := by rw [he]; rfl
             rw [List.length_reverse, List.length_take] at h9
             have := Nat.le_of_ble_eq_true z4
             omega
           have hst : st = vals.reverse ++ .inr (.inr (some (.inr o.1))) :: st.drop G.2.2.1 := by
             have h9 : st.take G.2.2.1 = (.inr (.inr (some (.inr o.1))) :: vals).reverse := by rw [← he, List.reverse_reverse]
             rw [List.reverse_cons] at h9
             have h8 : st.take G.2.2.1 ++ st.drop G.2.2.1 = st := List.take_append_drop _ _
             rw [h9, List.append_assoc] at h8
             exact h8.symm
           refine jk_callVs (vals := vals) (r := st.drop G.2.2.1) X hR hd (hlk _ (jin3_ok z2) _ hg) g6 g7 g8 y1 y2 hM hst hlen (l_rm z3) (by rw [g1, g2]; exact ⟨Nat.zero_le _, Nat.zero_le _⟩) (Nat.le_of_ble_eq_true z5) (fun v σ' n' hp => ?_)
           obtain ⟨hn', hp⟩ := hp
           rw [g1, g2, hn']
           exact lwp_run hC X hl hR hr hsp hlk hG hok k r (pc + 3) lv _ σ' hk2.2 hp
         next => exact z6.elim
       next => exact h2.elim
     next =>
       refine jstep_ok (I := I) (ln := ln) (py := py) hC X (jokQ_n hk2.1 h1) h (fun lv' st' σ' h' => lwp_run hC X hl hR hr hsp hlk hG hok k r (pc + ln) lv' st' σ' hk2.2 h') (fun pc' lv' st' σ' h' => ?_)
       unfold lGo at h'
       split at h'
       next js' hj => exact lwp_run hC X hl hR hr hsp hlk hG hok k js' pc' lv' st' σ' (aSuf_ok hok hj) h'
       next => cases k <;> (unfold lwp at h'; exact h'.elim)
    next =>
     split at h
     next i =>
       obtain ⟨rfl, h2⟩ := h
       split at h2
       next v hv =>
         obtain ⟨tx, j, e1, e2⟩ := (hsp _ (aSpf_ok hv)).1.1 rfl
         dsimp only at e1
         subst e1
         exact jk_lds X hd e2 (lwp_run hC X hl hR hr hsp hlk hG hok k r (pc + 2) lv _ σ hk2.2 h2)
       next => exact h2.elim
     next i =>
       obtain ⟨rfl, h2⟩ := h
       split at h2
       next v hv =>
         obtain ⟨tx, j, e1, e2⟩ := (hsp _ (aSpf_ok hv)).1.2.1 rfl
         dsimp only at e1
         subst e1
         exact jk_ldx X hd e2 (lwp_run hC X hl hR hr hsp hlk hG hok k r (pc + 3) lv _ σ hk2.2 h2)
       next =>
         split at h2
         next v hv =>
           obtain ⟨v', e1, e2⟩ := (hsp _ (aSpf_ok hv)).1.2.2.1 rfl
           dsimp only at e1
           subst e1
           exact jk_ldw X hd e2 (lwp_run hC X hl hR hr hsp hlk hG hok k r (pc + 3) lv _ σ hk2.2 h2)
         next => exact h2.elim
     next =>
       obtain ⟨rfl, h2⟩ := h
       split at h2
       next i j s =>
         split at h2
         next q hq =>
           obtain ⟨q1, rfl⟩ := aSrf_ok hq
           exact jk_aal X hd q1 h2.1 (lwp_run hC X hl hR hr hsp hlk hG hok k r (pc + 1) lv _ σ hk2.2 h2.2)
         next => exact h2.elim
       next => exact h2.elim
     next i =>
       obtain ⟨rfl, h2⟩ := h
       split at h2
       next v hv =>
         obtain ⟨z, z1, z2, z3⟩ := (hsp _ (aSpf_ok hv)).1.2.2.2.1 rfl
         dsimp only at z2
         subst z2
         exact jk_gsv X hd z1 z3 (lwp_run hC X hl hR hr hsp hlk hG hok k r (pc + 3) lv _ σ hk2.2 h2)
       next =>
         split at h2
         next v hv =>
           obtain ⟨z, z1, host, z2, z3⟩ := (hsp _ (aSpf_ok hv)).2.1 rfl
           dsimp only at z2
           subst z2
           exact jk_gsq X hd z1 z3 (lwp_run hC X hl hR hr hsp hlk hG hok k r (pc + 3) lv _ σ hk2.2 h2)
         next => exact h2.elim
     next i =>
       obtain ⟨rfl, h2⟩ := h
       split at h2
       next o s =>
         split at h2
         next v hv =>
           obtain ⟨ob, o1, f, f1, f2, f3, f4⟩ := (hsp _ (aSpf_ok hv)).1.2.2.2.2.1 rfl
           dsimp only at f2 f3
           subst f2
           subst f3
           exact jk_gfo X hd o1 f1 f4 (lwp_run hC X hl hR hr hsp hlk hG hok k r (pc + 3) lv _ σ hk2.2 h2)
         next => exact h2.elim
       next => exact h2.elim
     next =>
       obtain ⟨rfl, h2⟩ := h
       split at h2
       next j s =>
         split at h2
         next q hq =>
           obtain ⟨q1, rfl⟩ := aSro_ok hq
           exact jk_aln X hd q1 (lwp_run hC X hl hR hr hsp hlk hG hok k r (pc + 1) lv _ σ hk2.2 h2)
         next =>
           split at h2
           next q hq =>
             obtain ⟨q1, rfl⟩ := aSrf_ok hq
             exact jk_alr X hd q1 (lwp_run hC X hl hR hr hsp hlk hG hok k r (pc + 1) lv _ σ hk2.2 h2)
           next => exact h2.elim
       next => exact h2.elim
     next =>
       obtain ⟨rfl, h2⟩ := h
       split at h2
       next i j s =>
         split at h2
         next q hq =>
           obtain ⟨q1, rfl⟩ := aSro_ok hq
           exact jk_bal X hd q1 (of_decide_eq_true (List.all_eq_true.mp js_by q q1)) h2.1 (lwp_run hC X hl hR hr hsp hlk hG hok k r (pc + 1) lv _ σ hk2.2 h2.2)
         next => exact h2.elim
       next => exact h2.elim
     next i =>
       obtain ⟨rfl, h2⟩ := h
       split at h2
       next G hg =>
         obtain ⟨z1, z2, z3, z4, z5, z6⟩ := h2
         obtain ⟨⟨g1, g2, g3⟩, g4⟩ := hG G (List.mem_of_getElem? hg)
         rw [if_neg (by rw [z1]; decide)] at g3
         obtain ⟨g5, g6, g7, g8, gq⟩ := g3
         split at z6
         next a vals he =>
           obtain ⟨y1, y2, y0, y3⟩ := z6
           obtain ⟨q, g9, g10⟩ := gq y0
           split at y2
           next c fs hs =>
             subst y2
             have hM := g4 _ _ _ y3
             rw [← hl] at hM
             have hlen : vals.length = G.2.2.1 - 1 := by
               have h9 : (st.take G.2.2.1).reverse.length = vals.length + 1 := by rw [he]; rfl
               rw [List.length_reverse, List.length_take] at h9
               have := Nat.le_of_ble_eq_true z4
               omega
             have hst : st = vals.reverse ++ .inr (.inr (some (.inl a))) :: st.drop G.2.2.1 := by
               have h9 : st.take G.2.2.1 = (.inr (.inr (some (.inl a))) :: vals).reverse := by rw [← he, List.reverse_reverse]
               rw [List.reverse_cons] at h9
               have h8 : st.take G.2.2.1 ++ st.drop G.2.2.1 = st := List.take_append_drop _ _
               rw [h9, List.append_assoc] at h8
               exact h8.symm
             refine jk_callV (vals := vals) (r := st.drop G.2.2.1) X hR hd (hlk _ (jin3_ok z2) _ hg) g6 g7 g8 g9 g10 y1 hs hM hst hlen (l_rm z3) (by rw [g1, g2]; exact ⟨Nat.zero_le _, Nat.zero_le _⟩) (Nat.le_of_ble_eq_true z5) (fun v σ' n' hp => ?_)
             obtain ⟨hn', hp⟩ := hp
             rw [g1, g2, hn']
             exact lwp_run hC X hl hR hr hsp hlk hG hok k r (pc + 3) lv _ σ' hk2.2 hp
           next => exact y2.elim
         next j vals he =>
           obtain ⟨⟨o, y1, rfl, y2⟩, y3⟩ := z6
           have hM := g4 _ _ _ y3
           rw [← hl] at hM
           have hlen : vals.length = G.2.2.1 - 1 := by
             have h9 : (st.take G.2.2.1).reverse.length = vals.length + 1 := by rw [he]; rfl
             rw [List.length_reverse, List.length_take] at h9
             have := Nat.le_of_ble_eq_true z4
             omega
           have hst : st = vals.reverse ++ .inr (.inr (some (.inr o.1))) :: st.drop G.2.2.1 := by
             have h9 : st.take G.2.2.1 = (.inr (.inr (some (.inr o.1))) :: vals).reverse := by rw [← he, List.reverse_reverse]
             rw [List.reverse_cons] at h9
             have h8 : st.take G.2.2.1 ++ st.drop G.2.2.1 = st := List.take_append_drop _ _
             rw [h9, List.append_assoc] at h8
             exact h8.symm
           refine jk_callVs (vals := vals) (r := st.drop G.2.2.1) X hR hd (hlk _ (jin3_ok z2) _ hg) g6 g7 g8 y1 y2 hM hst hlen (l_rm z3) (by rw [g1, g2]; exact ⟨Nat.zero_le _, Nat.zero_le _⟩) (Nat.le_of_ble_eq_true z5) (fun v σ' n' hp => ?_)
           obtain ⟨hn', hp⟩ := hp
           rw [g1, g2, hn']
           exact lwp_run hC X hl hR hr hsp hlk hG hok k r (pc + 3) lv _ σ' hk2.2 hp
         next => exact z6.elim
       next => exact h2.elim
     next i =>
       obtain ⟨rfl, h2⟩ := h
       split at h2
       next v hv =>
         obtain ⟨⟨r1, r2⟩, h3⟩ := h2
         obtain ⟨s1, s2, s3, s4⟩ := (hsp _ (aSpf_ok hv)).1.2.2.2.2.2 rfl
         unfold lAc at h3
         split at h3
         next c dp b1 sp b0 s =>
           obtain ⟨y1, y2, y3, ⟨y4, y5, y6⟩, y7⟩ := h3
           split at y7
           next n0 u e0 =>
             split at y7
             next n1 g e1 =>
               obtain ⟨w1, w2, w3⟩ := y7
               exact jk_acl X hR hd s1 s2 s3 s4 y1 e0 y2 e1 y4 y5 y6 w1 w2 (Nat.le_of_ble_eq_true r1) (Nat.le_of_ble_eq_true y3) (Nat.le_of_ble_eq_true r2) (lwp_run hC X hl hR hr hsp hlk hG hok k r (pc + 3) lv _ _ hk2.2 w3)
             next => exact y7.elim
           next n0 u e0 =>
             split at y7
             next n1 g e1 =>
               obtain ⟨w1, w2, w0, w3⟩ := y7
               exact jk_acb X hR hd s1 s2 s3 s4 y1 e0 y2 e1 y4 y5 y6 w1 w2 w0 (Nat.le_of_ble_eq_true r1) (Nat.le_of_ble_eq_true y3) (Nat.le_of_ble_eq_true r2) (lwp_run hC X hl hR hr hsp hlk hG hok k r (pc + 3) lv _ _ hk2.2 w3)
             next => exact y7.elim
           next => exact y7.elim
         next c dp b1 sp j0 s =>
           obtain ⟨y2, y3, ⟨y4, y5, y6⟩, y7⟩ := h3
           split at y7
           next n0 u e0 =>
             split at y7
             next n1 g e1 =>
               obtain ⟨w1, w2, w0, w3⟩ := y7
               exact jk_acs X hR hd s1 s2 s3 s4 e0 y2 e1 y4 y5 y6 w1 w2 w0 (Nat.le_of_ble_eq_true r1) (Nat.le_of_ble_eq_true y3) (Nat.le_of_ble_eq_true r2) (lwp_run hC X hl hR hr hsp hlk hG hok k r (pc + 3) lv _ _ hk2.2 w3)
             next => exact y7.elim
           next => exact y7.elim
         next => exact h3.elim
       next =>
         split at h2
         next y x s =>
           split at h2
           next v hv =>
             obtain ⟨⟨r1, r2, r3⟩, h3⟩ := h2
             obtain ⟨s1, s2, s3, s4⟩ := (hsp _ (aSpf_ok hv)).2.2.1 rfl
             exact jk_qmax X hR hd s1 s2 s3 s4 (Nat.le_of_ble_eq_true r1) (Nat.le_of_ble_eq_true r3) (Nat.le_of_ble_eq_true r2) ⟨Nat.zero_le _, Nat.zero_le _⟩ (lwp_run hC X hl hR hr hsp hlk hG hok k r (pc + 3) lv _ _ hk2.2 h3)
           next =>
             split at h2
             next v hv =>
               obtain ⟨⟨r1, r2, r3⟩, h3⟩ := h2
               obtain ⟨s1, s2, s3, s4⟩ := (hsp _ (aSpf_ok hv)).2.2.2 rfl
               exact jk_qmin X hR hd s1 s2 s3 s4 (Nat.le_of_ble_eq_true r1) (Nat.le_of_ble_eq_true r3) (Nat.le_of_ble_eq_true r2) ⟨Nat.zero_le _, Nat.zero_le _⟩ (lwp_run hC X hl hR hr hsp hlk hG hok k r (pc + 3) lv _ _ hk2.2 h3)
             next => exact h2.elim
         next => exact h2.elim
     next => exact h.elim
/-- a contract out of what holds at the beginning -/
theorem lwp_met {m : lM} {post : jPo} {Y : jY} {nm ds : String} {g : Nat → Option Jvm.Cond} {L : jLk} {vals : List jv} {σ : Nat → jcell} (hY : Y = (⟨own, nm, ds⟩, cc, nL, m.1)) (hy : plainName own = true) (hgg : ∀ i w, g i = some w → Ts[i]? = some w) (hL : jLkOk own Ts cl tb L) (hok : jokLG g L own cl tb nL cc 0 m.2.2.2.2 = true) (hC : jCl Ts cl) (hsp : ∀ q ∈ m.2.2.1.2, aSpQ own Ts q) (hlk : ∀ q ∈ m.2.2.1.1, ∀ G, m.2.2.2.1[q.2.2]? = some G → jlm Ts q.2.1 own q.1 G.1.1 = true) (hG : ∀ G ∈ m.2.2.2.1, lGd Ts cl G ∧ ∀ (vals : List jv) (σ : Nat → jcell) (po : jPo), G.2.2.2.2.2 vals σ po → jMet l E cl tb Ts G.1 G.2.2.2.2.1 vals σ n po) (hlen : (lg_sl (vals.map (jc E))).length ≤ nL) (k : Nat) (h : lwp tb n m post k m.2.2.2.2 0 (jent vals nL) [] σ) : jMet l E cl tb Ts Y m.2.1 vals σ n post := by
  have hok2 := jokLG_ok hgg hL hok
  exact jMet_of hY false (fun h => by cases h) hy hlen _ rfl (fun M hl hR X hr => lwp_run hC X hl hR hr hsp hlk hG hok2 k _ 0 _ [] σ hok2 h)
end LKT
end
section
/-! words of a line -/
/-! words and numbers of a line -/
noncomputable def xwE (g : Int → Int) (p : Int) : Nat → Int → Int
  | 0, a => a
  | n + 1, a => if a < p ∧ ¬ g a = 32 then xwE g p n (a + 1) else a
noncomputable def xwS (g : Int → Int) (p a : Int) : Int := xwE g p (p - a).toNat a
theorem xwS_0 {g : Int → Int} {p a : Int} (h : p ≤ a ∨ g a = 32) : xwS g p a = a := by
  unfold xwS
  cases e : (p - a).toNat with
  | zero => rfl
  | succ n =>
    show (if a < p ∧ ¬ g a = 32 then xwE g p n (a + 1) else a) = a
    rw [if_neg (fun h2 => by rcases h with h | h; omega; exact h2.2 h)]
theorem xwS_1 {g : Int → Int} {p a : Int} (h : a < p) (hc : ¬ g a = 32) : xwS g p (a + 1) = xwS g p a := by
  unfold xwS
  rw [show (p - a).toNat = (p - (a + 1)).toNat + 1 by omega]
  show _ = (if a < p ∧ ¬ g a = 32 then xwE g p (p - (a + 1)).toNat (a + 1) else a)
  rw [if_pos ⟨h, hc⟩]
noncomputable def xdg (g : Int → Int) (a e : Int) : Prop := ∀ j, a ≤ j → j < e → 48 ≤ g j ∧ g j ≤ 57
noncomputable def xdec (g : Int → Int) (a : Int) : Nat → Int
  | 0 => 0
  | n + 1 => 10 * xdec g a n + g (a + n) - 48
theorem xdec_b {g : Int → Int} {a : Int} : ∀ n : Nat, xdg g a (a + n) → 0 ≤ xdec g a n ∧ xdec g a n < 10 ^ n
  | 0, _ => ⟨Int.le_refl _, show (0 : Int) < 10 ^ 0 from by decide⟩
  | n + 1, h => by
    have h1 := xdec_b n (fun j j0 j1 => h j j0 (by omega))
    have h2 := h (a + n) (by omega) (by omega)
    have e : (10 : Int) ^ (n + 1) = 10 * 10 ^ n := by rw [Int.pow_succ, Int.mul_comm]
    show 0 ≤ 10 * xdec g a n + g (a + n) - 48 ∧ 10 * xdec g a n + g (a + n) - 48 < 10 ^ (n + 1)
    rw [e]
    omega
theorem x10_p : ∀ n : Nat, (1 : Int) ≤ 10 ^ n
  | 0 => by decide
  | n + 1 => by
    have h := x10_p n
    rw [Int.pow_succ]
    omega
theorem x10_le {n m : Nat} (h : n ≤ m) : (10 : Int) ^ n ≤ 10 ^ m := by
  obtain ⟨d, rfl⟩ : ∃ d, m = n + d := ⟨m - n, by omega⟩
  clear h
  induction d with
  | zero => exact Int.le_refl _
  | succ d ih =>
    have h := x10_p (n + d)
    rw [← Nat.add_assoc, Int.pow_succ]
    omega
theorem xdec_8 {g : Int → Int} {a i : Int} (h0 : a ≤ i) (h1 : i ≤ a + 8) (h : xdg g a i) : 0 ≤ xdec g a (i - a).toNat ∧ xdec g a (i - a).toNat ≤ 99999999 := by
  have h2 := xdec_b (i - a).toNat (g := g) (a := a) (by rw [show a + ((i - a).toNat : Int) = i by omega]; exact h)
  have h3 : (10 : Int) ^ (i - a).toNat ≤ 10 ^ 8 := x10_le (by omega)
  have h4 : (10 : Int) ^ 8 = 100000000 := by decide
  omega
theorem xdec_9 {g : Int → Int} {a i : Int} (h0 : a ≤ i) (h1 : i ≤ a + 9) (h : xdg g a i) : 0 ≤ xdec g a (i - a).toNat ∧ xdec g a (i - a).toNat ≤ 999999999 := by
  have h2 := xdec_b (i - a).toNat (g := g) (a := a) (by rw [show a + ((i - a).toNat : Int) = i by omega]; exact h)
  have h3 : (10 : Int) ^ (i - a).toNat ≤ 10 ^ 9 := x10_le (by omega)
  have h4 : (10 : Int) ^ 9 = 1000000000 := by decide
  omega
theorem xdec_s {g : Int → Int} {a i : Int} (h0 : a ≤ i) : xdec g a (i + 1 - a).toNat = 10 * xdec g a (i - a).toNat + g i - 48 := by
  rw [show (i + 1 - a).toNat = (i - a).toNat + 1 by omega]
  show 10 * xdec g a (i - a).toNat + g (a + ((i - a).toNat : Int)) - 48 = _
  rw [show a + ((i - a).toNat : Int) = i by omega]
/-- a word is a number -/
noncomputable def xNv (g : Int → Int) (a e v : Int) : Prop := ∃ ls : Int, ((ls = 1 ∧ a < e ∧ g a = 45) ∨ (ls = 0 ∧ ¬ (a < e ∧ g a = 45))) ∧ 1 ≤ e - a - ls ∧ e - a - ls ≤ 9 ∧ ¬ (g (a + ls) = 48 ∧ (1 < e - a - ls ∨ ls = 1)) ∧ xdg g (a + ls) e ∧ v = (1 - 2 * ls) * xdec g (a + ls) (e - (a + ls)).toNat
noncomputable def xR (g : Int → Int) (a e lo hi r : Int) : Prop := (xNv g a e r ∧ lo ≤ r ∧ r ≤ hi) ∨ (r = -1000000000 ∧ ∀ v, xNv g a e v → lo ≤ v → ¬ v ≤ hi)
theorem xR_n {g : Int → Int} {a e lo hi ls r : Int} (hr : r = -1000000000) (hls : (ls = 1 ∧ a < e ∧ g a = 45) ∨ (ls = 0 ∧ ¬ (a < e ∧ g a = 45))) (h : ¬ (1 ≤ e - a - ls ∧ e - a - ls ≤ 9 ∧ ¬ (g (a + ls) = 48 ∧ (1 < e - a - ls ∨ ls = 1)) ∧ xdg g (a + ls) e)) : xR g a e lo hi r := by
  refine Or.inr ⟨hr, ?_⟩
  rintro v ⟨ls', h1, h2, h3, h4, h5, -⟩ _ _
  obtain rfl : ls = ls' := by
    rcases hls with ⟨e1, q1⟩ | ⟨e1, q1⟩ <;> rcases h1 with ⟨e2, q2⟩ | ⟨e2, q2⟩
    · omega
    · exact absurd q1 q2
    · exact absurd q2 q1
    · omega
  exact h ⟨h2, h3, h4, h5⟩
theorem xR_v {g : Int → Int} {a e lo hi ls r v w : Int} (hls : (ls = 1 ∧ a < e ∧ g a = 45) ∨ (ls = 0 ∧ ¬ (a < e ∧ g a = 45))) (h2 : 1 ≤ e - a - ls) (h3 : e - a - ls ≤ 9) (h4 : ¬ (g (a + ls) = 48 ∧ (1 < e - a - ls ∨ ls = 1))) (h5 : xdg g (a + ls) e) (hv : v = xdec g (a + ls) (e - (a + ls)).toNat) (hw : w = (1 - 2 * ls) * v) (hr : (r = w ∧ lo ≤ w ∧ w ≤ hi) ∨ (r = -1000000000 ∧ ¬ (lo ≤ w ∧ w ≤ hi))) : xR g a e lo hi r := by
  have hn : xNv g a e w := ⟨ls, hls, h2, h3, h4, h5, by rw [hw, hv]⟩
  rcases hr with ⟨rfl, h6, h7⟩ | ⟨h6, h7⟩
  · exact Or.inl ⟨hn, h6, h7⟩
  · refine Or.inr ⟨h6, ?_⟩
    rintro u ⟨ls', q1, -, -, -, -, q2⟩ u1 u2
    obtain rfl : ls = ls' := by
      rcases hls with ⟨e1, z1⟩ | ⟨e1, z1⟩ <;> rcases q1 with ⟨e2, z2⟩ | ⟨e2, z2⟩
      · omega
      · exact absurd z1 z2
      · exact absurd z2 z1
      · omega
    apply h7
    rw [hw, hv, ← q2]
    exact ⟨u1, u2⟩
theorem xwS_b {g : Int → Int} {p a : Int} (h : a ≤ p) : a ≤ xwS g p a ∧ xwS g p a ≤ p := by
  unfold xwS
  have : ∀ (n : Nat) (a : Int), a ≤ p → a ≤ xwE g p n a ∧ xwE g p n a ≤ p := by
    intro n
    induction n with
    | zero => intro a h; exact ⟨Int.le_refl _, h⟩
    | succ n ih =>
      intro a h
      show a ≤ (if a < p ∧ ¬ g a = 32 then xwE g p n (a + 1) else a) ∧ (if a < p ∧ ¬ g a = 32 then xwE g p n (a + 1) else a) ≤ p
      split
      · rename_i c
        have := ih (a + 1) (by omega)
        omega
      · exact ⟨Int.le_refl _, h⟩
  exact this _ a h
theorem l_vp {i : Int32} {m : Nat} (h0 : 0 ≤ i.toInt) (h1 : i.toInt < m) : vp_in i m := by
  rintro (h | h)
  · have h2 := Int32.lt_iff_toInt_lt.mp h
    rw [show (0 : Int32).toInt = 0 by decide] at h2
    omega
  · have e : i.toNatClampNeg = i.toInt.toNat := rfl
    omega
end
section
/-! Int32 as Int -/
theorem l_add {x y : Int32} (h : -2147483648 ≤ x.toInt + y.toInt ∧ x.toInt + y.toInt ≤ 2147483647) : (x + y).toInt = x.toInt + y.toInt := by
  rw [Int32.toInt_add]
  exact Int.bmod_eq_of_le (by omega) (by omega)
theorem l_sub {x y : Int32} (h : -2147483648 ≤ x.toInt - y.toInt ∧ x.toInt - y.toInt ≤ 2147483647) : (x - y).toInt = x.toInt - y.toInt := by
  rw [Int32.toInt_sub]
  exact Int.bmod_eq_of_le (by omega) (by omega)
theorem l_mul {x y : Int32} (h : -2147483648 ≤ x.toInt * y.toInt ∧ x.toInt * y.toInt ≤ 2147483647) : (x * y).toInt = x.toInt * y.toInt := by
  rw [Int32.toInt_mul]
  exact Int.bmod_eq_of_le (by omega) (by omega)
theorem l_neg {x : Int32} (h : -2147483647 ≤ x.toInt) : (-x).toInt = - x.toInt := by
  have h1 := x.toInt_lt
  rw [Int32.toInt_neg]
  exact Int.bmod_eq_of_le (by omega) (by omega)
theorem l_le {x y : Int32} : x ≤ y ↔ x.toInt ≤ y.toInt := Int32.le_iff_toInt_le
theorem l_lt {x y : Int32} : x < y ↔ x.toInt < y.toInt := Int32.lt_iff_toInt_lt
theorem l_eq {x y : Int32} : x = y ↔ x.toInt = y.toInt := Int32.toInt_inj.symm
end
