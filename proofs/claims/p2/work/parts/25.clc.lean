theorem jtb_0 : jtb 0 = some ("ChessHouse$Board", "STEPS", "[I", .int, 8, fun i => tv_0.getD i 0) := rfl
theorem jtb_1 : jtb 1 = some ("ChessHouse$Board", "FIRST_RANK", "[I", .int, 8, fun i => tv_1.getD i 0) := rfl
theorem tv_1_in : ∀ i, i < 8 → ∃ m, m < 8 ∧ tv_1.getD i 0 = nI m := by decide +kernel
set_option maxRecDepth 100000 in
set_option maxHeartbeats 4000000 in
theorem c_BO_setFirst (l : Launch) (E : jE) (σ : Nat → jcell) (n : Nat) (a n0 : Nat) (hab : a < n0) (hn0 : n0 + 11 ≤ n) (F : Nat → Int32) (A : Nat → Nat → Int32) (L : Nat → Nat → Int64) : jMet l E jcl jtb lw_tbl y_BO_setFirst { frames := 2, cells := 0, slots := 0, locals := 80 } [.inr (.inr (some (.inl (a))))] (bdP σ a n0 F A L) n (fun r σ' n' => ∃ (F' : Nat → Int32) (A' : Nat → Nat → Int32) (L' : Nat → Nat → Int64), r = none ∧ n' = n ∧ σ' = (bdP σ a n0 F' A' L')) := by
  refine jMet_of (hY := rfl) false (fun h => by cases h) (by decide) (Nat.le_of_ble_eq_true rfl) [some (.inr (.inr (some (.inl (a))))), none] rfl ?_
  intro M hl hR X hr
  have hb0 : (n0 < n) = True := eq_true (by omega)
  have hb1 : (n0 + 1 < n) = True := eq_true (by omega)
  have hb2 : (n0 + 2 < n) = True := eq_true (by omega)
  have hb3 : (n0 + 3 < n) = True := eq_true (by omega)
  have hb4 : (n0 + 4 < n) = True := eq_true (by omega)
  have hb5 : (n0 + 5 < n) = True := eq_true (by omega)
  have hb6 : (n0 + 6 < n) = True := eq_true (by omega)
  have hb7 : (n0 + 7 < n) = True := eq_true (by omega)
  have hb8 : (n0 + 8 < n) = True := eq_true (by omega)
  have hb9 : (n0 + 9 < n) = True := eq_true (by omega)
  have hb10 : (n0 + 10 < n) = True := eq_true (by omega)
  have haa : (a < n) = True := eq_true (by omega)
  have hloop : ∀ (u i : Nat) (F : Nat → Int32) (A : Nat → Nat → Int32) (L : Nat → Nat → Int64), i + u = 8 → jJ E jcl 2 M (jQ E jcl M (fun r σ' n' => ∃ (F' : Nat → Int32) (A' : Nat → Nat → Int32) (L' : Nat → Nat → Int64), r = none ∧ n' = n ∧ σ' = (bdP σ a n0 F' A' L')) 0 0) n 0 0 6 [some (.inr (.inr (some (.inl (a))))), some (.inl (nI i))] [] (bdP σ a n0 F A L) := by
    intro u
    induction u with
    | zero =>
      intro i F A L hi
      obtain rfl : i = 8 := by omega
      refine jrun_ok jC X k_BO_setFirst_6 6 _ _ _ o_BO_setFirst_6 ?_
      simp only [k_BO_setFirst_6, jrun, jstep, jldi, jldl, jlda, j1, j2, jl1, jl2, jli, ja1, jbr, jald, jast, jlald, jlast, jalen, jget, jput, jfit, jdup, jdupx, jdupx2, jdup2, jcat, jset1, jset2, jkill, List.getElem?_cons_zero, List.getElem?_cons_succ, List.set_cons_zero, List.set_cons_succ, List.length_cons, List.length_nil, Nat.reduceAdd, Nat.reduceLT, Int32.reduceToNatClampNeg, true_and, and_true, and_self, reduceCtorEq, not_false_eq_true, false_and, and_false, or_false, false_or, true_or, or_true, bd_a, bd_ua, bd_l, vp_nar_int32, haa, bd_r0 hab, bd_u0 hab, hb0, bd_r1 hab, bd_u1 hab, hb1, bd_r2 hab, bd_u2 hab, hb2, bd_r3 hab, bd_u3 hab, hb3, bd_r4 hab, bd_u4 hab, hb4, bd_r5 hab, bd_u5 hab, hb5, bd_r6 hab, bd_u6 hab, hb6, bd_r7 hab, bd_u7 hab, hb7, bd_r8 hab, bd_u8 hab, hb8, bd_r9 hab, bd_u9 hab, hb9, bd_r10 hab, bd_u10 hab, hb10, bd_f0, bd_f1, bd_f2, bd_f3, bd_f4, bd_f5, bd_f6, bd_f7, bd_f8, bd_f9, bd_f10, bd_f11, bd_f12, bd_f13, bd_f14, bd_f15, bd_f16, bd_s2, bd_s3, bd_s4, bd_s5, bd_s6, bd_s16, jtb_1]
      refine ⟨fun _ => ?_, fun h => absurd (by decide) h⟩
      refine jrun_ok jC X k_BO_setFirst_63 63 _ _ _ o_BO_setFirst_63 ?_
      simp only [k_BO_setFirst_63, jrun, jstep, jldi, jldl, jlda, j1, j2, jl1, jl2, jli, ja1, jbr, jald, jast, jlald, jlast, jalen, jget, jput, jfit, jdup, jdupx, jdupx2, jdup2, jcat, jset1, jset2, jkill, List.getElem?_cons_zero, List.getElem?_cons_succ, List.set_cons_zero, List.set_cons_succ, List.length_cons, List.length_nil, Nat.reduceAdd, Nat.reduceLT, Int32.reduceToNatClampNeg, true_and, and_true, and_self, reduceCtorEq, not_false_eq_true, false_and, and_false, or_false, false_or, true_or, or_true, bd_a, bd_ua, bd_l, vp_nar_int32, haa, bd_r0 hab, bd_u0 hab, hb0, bd_r1 hab, bd_u1 hab, hb1, bd_r2 hab, bd_u2 hab, hb2, bd_r3 hab, bd_u3 hab, hb3, bd_r4 hab, bd_u4 hab, hb4, bd_r5 hab, bd_u5 hab, hb5, bd_r6 hab, bd_u6 hab, hb6, bd_r7 hab, bd_u7 hab, hb7, bd_r8 hab, bd_u8 hab, hb8, bd_r9 hab, bd_u9 hab, hb9, bd_r10 hab, bd_u10 hab, hb10, bd_f0, bd_f1, bd_f2, bd_f3, bd_f4, bd_f5, bd_f6, bd_f7, bd_f8, bd_f9, bd_f10, bd_f11, bd_f12, bd_f13, bd_f14, bd_f15, bd_f16, bd_s2, bd_s3, bd_s4, bd_s5, bd_s6, bd_s16]
      exact jk_vret X d_BO_setFirst_69 hr (Nat.le_refl _) (Nat.le_refl _) ⟨_, _, _, rfl, rfl, rfl⟩
    | succ u ih =>
      intro i F A L hi
      have hc : (nI i).toNatClampNeg = i := nI_clamp (by omega)
      obtain ⟨m, hm, ht⟩ := tv_1_in i (by omega)
      have hge : ¬ (8 : Int32) ≤ nI i := by
        rw [show (8 : Int32) = nI 8 from rfl, nI_leI (by omega) (by omega)]; omega
      have hv : vp_in (nI i) 8 = True := eq_true (vp_in_nI (by omega) (by decide))
      refine jrun_ok jC X k_BO_setFirst_6 6 _ _ _ o_BO_setFirst_6 ?_
      simp only [k_BO_setFirst_6, jrun, jstep, jldi, jldl, jlda, j1, j2, jl1, jl2, jli, ja1, jbr, jald, jast, jlald, jlast, jalen, jget, jput, jfit, jdup, jdupx, jdupx2, jdup2, jcat, jset1, jset2, jkill, List.getElem?_cons_zero, List.getElem?_cons_succ, List.set_cons_zero, List.set_cons_succ, List.length_cons, List.length_nil, Nat.reduceAdd, Nat.reduceLT, Int32.reduceToNatClampNeg, true_and, and_true, and_self, reduceCtorEq, not_false_eq_true, false_and, and_false, or_false, false_or, true_or, or_true, bd_a, bd_ua, bd_l, vp_nar_int32, haa, bd_r0 hab, bd_u0 hab, hb0, bd_r1 hab, bd_u1 hab, hb1, bd_r2 hab, bd_u2 hab, hb2, bd_r3 hab, bd_u3 hab, hb3, bd_r4 hab, bd_u4 hab, hb4, bd_r5 hab, bd_u5 hab, hb5, bd_r6 hab, bd_u6 hab, hb6, bd_r7 hab, bd_u7 hab, hb7, bd_r8 hab, bd_u8 hab, hb8, bd_r9 hab, bd_u9 hab, hb9, bd_r10 hab, bd_u10 hab, hb10, bd_f0, bd_f1, bd_f2, bd_f3, bd_f4, bd_f5, bd_f6, bd_f7, bd_f8, bd_f9, bd_f10, bd_f11, bd_f12, bd_f13, bd_f14, bd_f15, bd_f16, bd_s2, bd_s3, bd_s4, bd_s5, bd_s6, bd_s16, jtb_1, hc, ht, hv]
      refine ⟨fun h => absurd h hge, fun _ => ?_⟩
      refine jk_Vg X hR d_BO_setFirst_19 q_BO_setFirst_19 m_BO_put i_BO_put e_BO_put (ci := 10) rfl rfl (by omega) bd_a (c_BO_put M.2.1 E _ _ _ _ hab hn0 _ _ _ _ _ i m (by omega) (by omega) rfl rfl) rfl rfl ⟨Nat.le_of_ble_eq_true rfl, Nat.le_of_ble_eq_true rfl⟩ (c' := 0) rfl (s' := 0) rfl ⟨Nat.le_of_ble_eq_true rfl, Nat.le_of_ble_eq_true rfl⟩ (Nat.le_of_ble_eq_true rfl) (pc' := 22) rfl ?_
      rintro _ _ _ ⟨A2, L2, rfl, hn2, rfl⟩
      obtain rfl : n = _ := hn2.symm
      simp only [Option.toList_none, List.nil_append]
      refine jrun_ok jC X k_BO_setFirst_22 22 _ _ _ o_BO_setFirst_22 ?_
      simp only [k_BO_setFirst_22, jrun, jstep, jldi, jldl, jlda, j1, j2, jl1, jl2, jli, ja1, jbr, jald, jast, jlald, jlast, jalen, jget, jput, jfit, jdup, jdupx, jdupx2, jdup2, jcat, jset1, jset2, jkill, List.getElem?_cons_zero, List.getElem?_cons_succ, List.set_cons_zero, List.set_cons_succ, List.length_cons, List.length_nil, Nat.reduceAdd, Nat.reduceLT, Int32.reduceToNatClampNeg, true_and, and_true, and_self, reduceCtorEq, not_false_eq_true, false_and, and_false, or_false, false_or, true_or, or_true]
      refine jk_Vg X hR d_BO_setFirst_28 q_BO_setFirst_28 m_BO_put i_BO_put e_BO_put (ci := 10) rfl rfl (by omega) bd_a (c_BO_put M.2.1 E _ _ _ _ hab hn0 _ _ _ _ _ (8 + i) 1 (by omega) (by omega) (by rw [show (8 : Int32) = nI 8 from rfl, nI_add]) rfl) rfl rfl ⟨Nat.le_of_ble_eq_true rfl, Nat.le_of_ble_eq_true rfl⟩ (c' := 0) rfl (s' := 0) rfl ⟨Nat.le_of_ble_eq_true rfl, Nat.le_of_ble_eq_true rfl⟩ (Nat.le_of_ble_eq_true rfl) (pc' := 31) rfl ?_
      rintro _ _ _ ⟨A2, L2, rfl, hn2, rfl⟩
      obtain rfl : n = _ := hn2.symm
      simp only [Option.toList_none, List.nil_append]
      refine jrun_ok jC X k_BO_setFirst_31 31 _ _ _ o_BO_setFirst_31 ?_
      simp only [k_BO_setFirst_31, jrun, jstep, jldi, jldl, jlda, j1, j2, jl1, jl2, jli, ja1, jbr, jald, jast, jlald, jlast, jalen, jget, jput, jfit, jdup, jdupx, jdupx2, jdup2, jcat, jset1, jset2, jkill, List.getElem?_cons_zero, List.getElem?_cons_succ, List.set_cons_zero, List.set_cons_succ, List.length_cons, List.length_nil, Nat.reduceAdd, Nat.reduceLT, Int32.reduceToNatClampNeg, true_and, and_true, and_self, reduceCtorEq, not_false_eq_true, false_and, and_false, or_false, false_or, true_or, or_true]
      refine jk_Vg X hR d_BO_setFirst_38 q_BO_setFirst_38 m_BO_put i_BO_put e_BO_put (ci := 10) rfl rfl (by omega) bd_a (c_BO_put M.2.1 E _ _ _ _ hab hn0 _ _ _ _ _ (48 + i) 9 (by omega) (by omega) (by rw [show (48 : Int32) = nI 48 from rfl, nI_add]) rfl) rfl rfl ⟨Nat.le_of_ble_eq_true rfl, Nat.le_of_ble_eq_true rfl⟩ (c' := 0) rfl (s' := 0) rfl ⟨Nat.le_of_ble_eq_true rfl, Nat.le_of_ble_eq_true rfl⟩ (Nat.le_of_ble_eq_true rfl) (pc' := 41) rfl ?_
      rintro _ _ _ ⟨A2, L2, rfl, hn2, rfl⟩
      obtain rfl : n = _ := hn2.symm
      simp only [Option.toList_none, List.nil_append]
      refine jrun_ok jC X k_BO_setFirst_41 41 _ _ _ o_BO_setFirst_41 ?_
      simp only [k_BO_setFirst_41, jrun, jstep, jldi, jldl, jlda, j1, j2, jl1, jl2, jli, ja1, jbr, jald, jast, jlald, jlast, jalen, jget, jput, jfit, jdup, jdupx, jdupx2, jdup2, jcat, jset1, jset2, jkill, List.getElem?_cons_zero, List.getElem?_cons_succ, List.set_cons_zero, List.set_cons_succ, List.length_cons, List.length_nil, Nat.reduceAdd, Nat.reduceLT, Int32.reduceToNatClampNeg, true_and, and_true, and_self, reduceCtorEq, not_false_eq_true, false_and, and_false, or_false, false_or, true_or, or_true, bd_a, bd_ua, bd_l, vp_nar_int32, haa, bd_r0 hab, bd_u0 hab, hb0, bd_r1 hab, bd_u1 hab, hb1, bd_r2 hab, bd_u2 hab, hb2, bd_r3 hab, bd_u3 hab, hb3, bd_r4 hab, bd_u4 hab, hb4, bd_r5 hab, bd_u5 hab, hb5, bd_r6 hab, bd_u6 hab, hb6, bd_r7 hab, bd_u7 hab, hb7, bd_r8 hab, bd_u8 hab, hb8, bd_r9 hab, bd_u9 hab, hb9, bd_r10 hab, bd_u10 hab, hb10, bd_f0, bd_f1, bd_f2, bd_f3, bd_f4, bd_f5, bd_f6, bd_f7, bd_f8, bd_f9, bd_f10, bd_f11, bd_f12, bd_f13, bd_f14, bd_f15, bd_f16, bd_s2, bd_s3, bd_s4, bd_s5, bd_s6, bd_s16, jtb_1, hc, ht, hv]
      refine jk_Vg X hR d_BO_setFirst_54 q_BO_setFirst_54 m_BO_put i_BO_put e_BO_put (ci := 10) rfl rfl (by omega) bd_a (c_BO_put M.2.1 E _ _ _ _ hab hn0 _ _ _ _ _ (56 + i) (8 + m) (by omega) (by omega) (by rw [show (56 : Int32) = nI 56 from rfl, nI_add]) (by rw [show (8 : Int32) = nI 8 from rfl, nI_add])) rfl rfl ⟨Nat.le_of_ble_eq_true rfl, Nat.le_of_ble_eq_true rfl⟩ (c' := 0) rfl (s' := 0) rfl ⟨Nat.le_of_ble_eq_true rfl, Nat.le_of_ble_eq_true rfl⟩ (Nat.le_of_ble_eq_true rfl) (pc' := 57) rfl ?_
      rintro _ _ _ ⟨A2, L2, rfl, hn2, rfl⟩
      obtain rfl : n = _ := hn2.symm
      simp only [Option.toList_none, List.nil_append]
      refine jrun_ok jC X k_BO_setFirst_57 57 _ _ _ o_BO_setFirst_57 ?_
      simp only [k_BO_setFirst_57, jrun, jstep, jldi, jldl, jlda, j1, j2, jl1, jl2, jli, ja1, jbr, jald, jast, jlald, jlast, jalen, jget, jput, jfit, jdup, jdupx, jdupx2, jdup2, jcat, jset1, jset2, jkill, List.getElem?_cons_zero, List.getElem?_cons_succ, List.set_cons_zero, List.set_cons_succ, List.length_cons, List.length_nil, Nat.reduceAdd, Nat.reduceLT, Int32.reduceToNatClampNeg, true_and, and_true, and_self, reduceCtorEq, not_false_eq_true, false_and, and_false, or_false, false_or, true_or, or_true, nI_1]
      exact ih (i + 1) _ _ _ (by omega)
  refine jrun_ok jC X k_BO_setFirst_0 0 _ _ _ o_BO_setFirst_0 ?_
  simp only [k_BO_setFirst_0, jrun, jstep, jldi, jldl, jlda, j1, j2, jl1, jl2, jli, ja1, jbr, jald, jast, jlald, jlast, jalen, jget, jput, jfit, jdup, jdupx, jdupx2, jdup2, jcat, jset1, jset2, jkill, List.getElem?_cons_zero, List.getElem?_cons_succ, List.set_cons_zero, List.set_cons_succ, List.length_cons, List.length_nil, Nat.reduceAdd, Nat.reduceLT, Int32.reduceToNatClampNeg, true_and, and_true, and_self, reduceCtorEq, not_false_eq_true, false_and, and_false, or_false, false_or, true_or, or_true]
  refine jk_Vg X hR d_BO_setFirst_1 q_BO_setFirst_1 m_BO_clear i_BO_clear e_BO_clear (ci := 10) rfl rfl (by omega) bd_a (c_BO_clear M.2.1 E _ _ _ _ hab hn0 _ _ _) rfl rfl ⟨Nat.le_of_ble_eq_true rfl, Nat.le_of_ble_eq_true rfl⟩ (c' := 0) rfl (s' := 0) rfl ⟨Nat.le_of_ble_eq_true rfl, Nat.le_of_ble_eq_true rfl⟩ (Nat.le_of_ble_eq_true rfl) (pc' := 4) rfl ?_
  rintro _ _ _ ⟨F2, A2, L2, rfl, hn2, rfl⟩
  obtain rfl : n = _ := hn2.symm
  simp only [Option.toList_none, List.nil_append]
  refine jrun_ok jC X k_BO_setFirst_4 4 _ _ _ o_BO_setFirst_4 ?_
  simp only [k_BO_setFirst_4, jrun, jstep, jldi, jldl, jlda, j1, j2, jl1, jl2, jli, ja1, jbr, jald, jast, jlald, jlast, jalen, jget, jput, jfit, jdup, jdupx, jdupx2, jdup2, jcat, jset1, jset2, jkill, List.getElem?_cons_zero, List.getElem?_cons_succ, List.set_cons_zero, List.set_cons_succ, List.length_cons, List.length_nil, Nat.reduceAdd, Nat.reduceLT, Int32.reduceToNatClampNeg, true_and, and_true, and_self, reduceCtorEq, not_false_eq_true, false_and, and_false, or_false, false_or, true_or, or_true]
  exact hloop 8 0 _ _ _ (by omega)
def hop5 (x y : Int32) : Int32 := ((y &&& (7 : Int32)) - (x &&& (7 : Int32))) * ((y &&& (7 : Int32)) - (x &&& (7 : Int32))) + (y >>> ((3 : Int32) &&& 31) - x >>> ((3 : Int32) &&& 31)) * (y >>> ((3 : Int32) &&& 31) - x >>> ((3 : Int32) &&& 31))
def hopc (x : Int32) : Nat → Nat
  | 0 => 0
  | t + 1 => hopc x t + if hop5 x (nI t) = 5 then 1 else 0
theorem hopc_8 : ∀ s, s < 64 → hopc (nI s) 64 ≤ 8 := by decide +kernel
theorem hopc_mono (x : Int32) (t u : Nat) : hopc x t ≤ hopc x (t + u) := by
  induction u with
  | zero => exact Nat.le_refl _
  | succ u ih =>
    show hopc x t ≤ hopc x (t + u) + _
    omega
set_option maxRecDepth 100000 in
set_option maxHeartbeats 4000000 in
theorem c_BO_fillHops (l : Launch) (E : jE) (σ : Nat → jcell) (n : Nat) (a n0 : Nat) (hab : a < n0) (hn0 : n0 + 11 ≤ n) (F : Nat → Int32) (A : Nat → Nat → Int32) (L : Nat → Nat → Int64) (s : Nat) (hs : s < 64) : jMet l E jcl jtb lw_tbl y_BO_fillHops { frames := 2, cells := 0, slots := 0, locals := 80 } [.inr (.inr (some (.inl (a)))), .inl (nI s)] (bdP σ a n0 F A L) n (fun r σ' n' => ∃ (A' : Nat → Nat → Int32), r = none ∧ n' = n ∧ σ' = (bdP σ a n0 F A' L)) := by
  refine jMet_of (hY := rfl) false (fun h => by cases h) (by decide) (Nat.le_of_ble_eq_true rfl) [some (.inr (.inr (some (.inl (a))))), some (.inl (nI s)), none, none, none, none] rfl ?_
  intro M hl hR X hr
  have hb0 : (n0 < n) = True := eq_true (by omega)
  have hb1 : (n0 + 1 < n) = True := eq_true (by omega)
  have hb2 : (n0 + 2 < n) = True := eq_true (by omega)
  have hb3 : (n0 + 3 < n) = True := eq_true (by omega)
  have hb4 : (n0 + 4 < n) = True := eq_true (by omega)
  have hb5 : (n0 + 5 < n) = True := eq_true (by omega)
  have hb6 : (n0 + 6 < n) = True := eq_true (by omega)
  have hb7 : (n0 + 7 < n) = True := eq_true (by omega)
  have hb8 : (n0 + 8 < n) = True := eq_true (by omega)
  have hb9 : (n0 + 9 < n) = True := eq_true (by omega)
  have hb10 : (n0 + 10 < n) = True := eq_true (by omega)
  have haa : (a < n) = True := eq_true (by omega)
  have hloop : ∀ (u i : Nat) (A : Nat → Nat → Int32) (o4 o5 : Option jv), i + u = 64 → jJ E jcl 6 M (jQ E jcl M (fun r σ' n' => ∃ (A' : Nat → Nat → Int32), r = none ∧ n' = n ∧ σ' = (bdP σ a n0 F A' L)) 0 0) n 0 0 20 [some (.inr (.inr (some (.inl (a))))), some (.inl (nI s)), some (.inl (nI (s * 8 + hopc (nI s) i))), some (.inl (nI i)), o4, o5] [] (bdP σ a n0 F A L) := by
    intro u
    induction u with
    | zero =>
      intro i A o4 o5 hi
      obtain rfl : i = 64 := by omega
      refine jrun_ok jC X k_BO_fillHops_20 20 _ _ _ o_BO_fillHops_20 ?_
      simp only [k_BO_fillHops_20, jrun, jstep, jldi, jldl, jlda, j1, j2, jl1, jl2, jli, ja1, jbr, jald, jast, jlald, jlast, jalen, jget, jput, jfit, jdup, jdupx, jdupx2, jdup2, jcat, jset1, jset2, jkill, List.getElem?_cons_zero, List.getElem?_cons_succ, List.set_cons_zero, List.set_cons_succ, List.length_cons, List.length_nil, Nat.reduceAdd, Nat.reduceLT, Int32.reduceToNatClampNeg, true_and, and_true, and_self, reduceCtorEq, not_false_eq_true, false_and, and_false, or_false, false_or, true_or, or_true, bd_a, bd_ua, bd_l, vp_nar_int32, haa, bd_r0 hab, bd_u0 hab, hb0, bd_r1 hab, bd_u1 hab, hb1, bd_r2 hab, bd_u2 hab, hb2, bd_r3 hab, bd_u3 hab, hb3, bd_r4 hab, bd_u4 hab, hb4, bd_r5 hab, bd_u5 hab, hb5, bd_r6 hab, bd_u6 hab, hb6, bd_r7 hab, bd_u7 hab, hb7, bd_r8 hab, bd_u8 hab, hb8, bd_r9 hab, bd_u9 hab, hb9, bd_r10 hab, bd_u10 hab, hb10, bd_f0, bd_f1, bd_f2, bd_f3, bd_f4, bd_f5, bd_f6, bd_f7, bd_f8, bd_f9, bd_f10, bd_f11, bd_f12, bd_f13, bd_f14, bd_f15, bd_f16, bd_s2, bd_s3, bd_s4, bd_s5, bd_s6, bd_s16]
      refine ⟨fun _ => ?_, fun h => absurd (by decide) h⟩
      exact jk_vret X d_BO_fillHops_77 hr (Nat.le_refl _) (Nat.le_refl _) ⟨_, rfl, rfl, rfl⟩
    | succ u ih =>
      intro i A o4 o5 hi
      have hge : ¬ (64 : Int32) ≤ nI i := by
        rw [show (64 : Int32) = nI 64 from rfl, nI_leI (by omega) (by omega)]; omega
      have hm1 := hopc_mono (nI s) (i + 1) u
      rw [show i + 1 + u = 64 by omega] at hm1
      have hm8 := hopc_8 s hs
      refine jrun_ok jC X k_BO_fillHops_20 20 _ _ _ o_BO_fillHops_20 ?_
      simp only [k_BO_fillHops_20, jrun, jstep, jldi, jldl, jlda, j1, j2, jl1, jl2, jli, ja1, jbr, jald, jast, jlald, jlast, jalen, jget, jput, jfit, jdup, jdupx, jdupx2, jdup2, jcat, jset1, jset2, jkill, List.getElem?_cons_zero, List.getElem?_cons_succ, List.set_cons_zero, List.set_cons_succ, List.length_cons, List.length_nil, Nat.reduceAdd, Nat.reduceLT, Int32.reduceToNatClampNeg, true_and, and_true, and_self, reduceCtorEq, not_false_eq_true, false_and, and_false, or_false, false_or, true_or, or_true, bd_a, bd_ua, bd_l, vp_nar_int32, haa, bd_r0 hab, bd_u0 hab, hb0, bd_r1 hab, bd_u1 hab, hb1, bd_r2 hab, bd_u2 hab, hb2, bd_r3 hab, bd_u3 hab, hb3, bd_r4 hab, bd_u4 hab, hb4, bd_r5 hab, bd_u5 hab, hb5, bd_r6 hab, bd_u6 hab, hb6, bd_r7 hab, bd_u7 hab, hb7, bd_r8 hab, bd_u8 hab, hb8, bd_r9 hab, bd_u9 hab, hb9, bd_r10 hab, bd_u10 hab, hb10, bd_f0, bd_f1, bd_f2, bd_f3, bd_f4, bd_f5, bd_f6, bd_f7, bd_f8, bd_f9, bd_f10, bd_f11, bd_f12, bd_f13, bd_f14, bd_f15, bd_f16, bd_s2, bd_s3, bd_s4, bd_s5, bd_s6, bd_s16, nI_1]
      refine ⟨fun h => absurd h hge, fun _ => ⟨fun h5 => ?_, fun h5 => ⟨?_, ?_⟩⟩⟩
      · have e : hopc (nI s) (i + 1) = hopc (nI s) i := by
          show hopc (nI s) i + _ = _
          rw [if_neg (show ¬ hop5 (nI s) (nI i) = 5 from h5)]; rfl
        refine jrun_ok jC X k_BO_fillHops_71 71 _ _ _ o_BO_fillHops_71 ?_
        simp only [k_BO_fillHops_71, jrun, jstep, jldi, jldl, jlda, j1, j2, jl1, jl2, jli, ja1, jbr, jald, jast, jlald, jlast, jalen, jget, jput, jfit, jdup, jdupx, jdupx2, jdup2, jcat, jset1, jset2, jkill, List.getElem?_cons_zero, List.getElem?_cons_succ, List.set_cons_zero, List.set_cons_succ, List.length_cons, List.length_nil, Nat.reduceAdd, Nat.reduceLT, Int32.reduceToNatClampNeg, true_and, and_true, and_self, reduceCtorEq, not_false_eq_true, false_and, and_false, or_false, false_or, true_or, or_true, nI_1]
        rw [← e]
        exact ih (i + 1) _ _ _ (by omega)
      · have e : hopc (nI s) (i + 1) = hopc (nI s) i + 1 := by
          show hopc (nI s) i + _ = _
          rw [if_pos (show hop5 (nI s) (nI i) = 5 from h5)]
        exact vp_in_nI (by omega) (by decide)
      · have e : hopc (nI s) (i + 1) = hopc (nI s) i + 1 := by
          show hopc (nI s) i + _ = _
          rw [if_pos (show hop5 (nI s) (nI i) = 5 from h5)]
        refine jrun_ok jC X k_BO_fillHops_71 71 _ _ _ o_BO_fillHops_71 ?_
        simp only [k_BO_fillHops_71, jrun, jstep, jldi, jldl, jlda, j1, j2, jl1, jl2, jli, ja1, jbr, jald, jast, jlald, jlast, jalen, jget, jput, jfit, jdup, jdupx, jdupx2, jdup2, jcat, jset1, jset2, jkill, List.getElem?_cons_zero, List.getElem?_cons_succ, List.set_cons_zero, List.set_cons_succ, List.length_cons, List.length_nil, Nat.reduceAdd, Nat.reduceLT, Int32.reduceToNatClampNeg, true_and, and_true, and_self, reduceCtorEq, not_false_eq_true, false_and, and_false, or_false, false_or, true_or, or_true, nI_1]
        rw [Nat.add_assoc, ← e]
        exact ih (i + 1) _ _ _ (by omega)
  have e8 : nI s * 8 = nI (s * 8) := by rw [show (8 : Int32) = nI 8 from rfl, pk_mul]
  have e9 : nI (s * 8) + 8 = nI (s * 8 + 8) := by rw [show (8 : Int32) = nI 8 from rfl, nI_add]
  refine jrun_ok jC X k_BO_fillHops_0 0 _ _ _ o_BO_fillHops_0 ?_
  simp only [k_BO_fillHops_0, jrun, jstep, jldi, jldl, jlda, j1, j2, jl1, jl2, jli, ja1, jbr, jald, jast, jlald, jlast, jalen, jget, jput, jfit, jdup, jdupx, jdupx2, jdup2, jcat, jset1, jset2, jkill, List.getElem?_cons_zero, List.getElem?_cons_succ, List.set_cons_zero, List.set_cons_succ, List.length_cons, List.length_nil, Nat.reduceAdd, Nat.reduceLT, Int32.reduceToNatClampNeg, true_and, and_true, and_self, reduceCtorEq, not_false_eq_true, false_and, and_false, or_false, false_or, true_or, or_true, bd_a, bd_ua, bd_l, vp_nar_int32, haa, bd_r0 hab, bd_u0 hab, hb0, bd_r1 hab, bd_u1 hab, hb1, bd_r2 hab, bd_u2 hab, hb2, bd_r3 hab, bd_u3 hab, hb3, bd_r4 hab, bd_u4 hab, hb4, bd_r5 hab, bd_u5 hab, hb5, bd_r6 hab, bd_u6 hab, hb6, bd_r7 hab, bd_u7 hab, hb7, bd_r8 hab, bd_u8 hab, hb8, bd_r9 hab, bd_u9 hab, hb9, bd_r10 hab, bd_u10 hab, hb10, bd_f0, bd_f1, bd_f2, bd_f3, bd_f4, bd_f5, bd_f6, bd_f7, bd_f8, bd_f9, bd_f10, bd_f11, bd_f12, bd_f13, bd_f14, bd_f15, bd_f16, bd_s2, bd_s3, bd_s4, bd_s5, bd_s6, bd_s16, e8, e9]
  refine jk_Sg X hR d_BO_fillHops_15 q_BO_fillHops_15 m_AR_fill s_AR_fill (r := []) (c_AR_fill M.2.1 E _ _ (n0 + 8) (by omega) 512 (by decide) _ (bd_r8 hab) (s * 8) (s * 8 + 8) (by omega) (by omega) (-1)) rfl rfl ⟨Nat.le_of_ble_eq_true rfl, Nat.le_of_ble_eq_true rfl⟩ (c' := 0) rfl (s' := 0) rfl ⟨Nat.le_of_ble_eq_true rfl, Nat.le_of_ble_eq_true rfl⟩ (Nat.le_of_ble_eq_true rfl) (pc' := 18) rfl ?_
  rintro _ _ _ ⟨g8, rfl, hn2, rfl, -⟩
  obtain rfl : n = _ := hn2.symm
  simp only [Option.toList_none, List.nil_append, bd_u8 hab]
  refine jrun_ok jC X k_BO_fillHops_18 18 _ _ _ o_BO_fillHops_18 ?_
  simp only [k_BO_fillHops_18, jrun, jstep, jldi, jldl, jlda, j1, j2, jl1, jl2, jli, ja1, jbr, jald, jast, jlald, jlast, jalen, jget, jput, jfit, jdup, jdupx, jdupx2, jdup2, jcat, jset1, jset2, jkill, List.getElem?_cons_zero, List.getElem?_cons_succ, List.set_cons_zero, List.set_cons_succ, List.length_cons, List.length_nil, Nat.reduceAdd, Nat.reduceLT, Int32.reduceToNatClampNeg, true_and, and_true, and_self, reduceCtorEq, not_false_eq_true, false_and, and_false, or_false, false_or, true_or, or_true]
  exact hloop 64 0 _ _ _ (by omega)

