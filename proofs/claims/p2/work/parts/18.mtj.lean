set_option maxRecDepth 100000 in
set_option maxHeartbeats 4000000 in
theorem c_MT_start_0 (l : Launch) (E : jE) (σ : Nat → jcell) (n : Nat) (a n0 : Nat) (hab : a < n0) (hn0 : n0 + 25 ≤ n) (F : Nat → Int32) (A : Nat → Nat → Int32) : jMet l E jcl jtb lw_tbl y_MT_start { frames := 0, cells := 0, slots := 0, locals := 0 } [.inr (.inr (some (.inl (a)))), .inl 0] (txA σ a n0 F A) n (fun r σ' n' => ∃ A', r = none ∧ n' = n ∧ σ' = (txA σ a n0 F A') ∧ A' 12 0 = F 25) := by
  refine jMet_of (hY := rfl) false (fun h => by cases h) (by decide) (Nat.le_of_ble_eq_true rfl) [some (.inr (.inr (some (.inl (a))))), some (.inl 0), none] rfl ?_
  intro M hl hR X hr
  have hb11 : (n0 + 11 < n) = True := eq_true (by omega)
  have hb12 : (n0 + 12 < n) = True := eq_true (by omega)
  have hb19 : (n0 + 19 < n) = True := eq_true (by omega)
  have haa : (a < n) = True := eq_true (by omega)
  have z0 : vp_in 0 10 := by unfold vp_in; decide
  have z1 : vp_in 1 10 := by unfold vp_in; decide
  have z2 : vp_in 2 10 := by unfold vp_in; decide
  have z3 : vp_in 3 10 := by unfold vp_in; decide
  have z4 : vp_in 4 10 := by unfold vp_in; decide
  have hloop : ∀ (u i : Nat) (A : Nat → Nat → Int32), i + u = 64 → jJ E jcl 3 M (jQ E jcl M (fun r σ' n' => ∃ A', r = none ∧ n' = n ∧ σ' = (txA σ a n0 F A') ∧ A' 12 0 = F 25) 0 0) n 0 0 2 [some (.inr (.inr (some (.inl (a))))), some (.inl 0), some (.inl (nI i))] [] (txA σ a n0 F A) := by
    intro u
    induction u with
    | zero =>
      intro i A hi
      obtain rfl : i = 64 := by omega
      refine jrun_ok jC X k_MT_start_2 2 _ _ _ o_MT_start_2 ?_
      simp only [k_MT_start_2, jrun, jstep, jldi, jldl, jlda, j1, j2, jl1, jl2, jli, ja1, jbr, jald, jast, jlald, jlast, jalen, jget, jput, jfit, jdup, jdupx, jdupx2, jdup2, jcat, jset1, jset2, jkill, List.getElem?_cons_zero, List.getElem?_cons_succ, List.set_cons_zero, List.set_cons_succ, List.length_cons, List.length_nil, Nat.reduceAdd, Nat.reduceLT, Int32.reduceToNatClampNeg, true_and, and_true, and_self, reduceCtorEq, not_false_eq_true, false_and, and_false, or_false, false_or, true_or, or_true, ta_a, ta_ua, ta_l, vp_nar_int32, haa, ta_r11 hab, ta_u11 hab, ta_f16, ta_r12 hab, ta_u12 hab, ta_f17, ta_r19 hab, ta_u19 hab, ta_f24, ta_f25, ta_s25, ta_f26, ta_s26, ta_f27, ta_s27, ta_f28, ta_s28, ta_f29, ta_s29, hb11, hb12, hb19]
      refine ⟨fun _ => ?_, fun h => absurd (by decide) h⟩
      refine jrun_ok jC X k_MT_start_31 31 _ _ _ o_MT_start_31 ?_
      simp only [k_MT_start_31, jrun, jstep, jldi, jldl, jlda, j1, j2, jl1, jl2, jli, ja1, jbr, jald, jast, jlald, jlast, jalen, jget, jput, jfit, jdup, jdupx, jdupx2, jdup2, jcat, jset1, jset2, jkill, List.getElem?_cons_zero, List.getElem?_cons_succ, List.set_cons_zero, List.set_cons_succ, List.length_cons, List.length_nil, Nat.reduceAdd, Nat.reduceLT, Int32.reduceToNatClampNeg, true_and, and_true, and_self, reduceCtorEq, not_false_eq_true, false_and, and_false, or_false, false_or, true_or, or_true, ta_a, ta_ua, ta_l, vp_nar_int32, haa, ta_r11 hab, ta_u11 hab, ta_f16, ta_r12 hab, ta_u12 hab, ta_f17, ta_r19 hab, ta_u19 hab, ta_f24, ta_f25, ta_s25, ta_f26, ta_s26, ta_f27, ta_s27, ta_f28, ta_s28, ta_f29, ta_s29, hb11, hb12, hb19, va_up, Int32.reduceMul, Int32.reduceAdd, Int32.zero_add, z0, z1, z2, z3, z4, ite_true, if_true]
      refine jk_vret X d_MT_start_99 hr (Nat.le_refl _) (Nat.le_refl _) ⟨_, rfl, rfl, rfl, ?_⟩
      simp [va_up, upd]
    | succ u ih =>
      intro i A hi
      have hge : ¬ (64 : Int32) ≤ nI i := by
        rw [show (64 : Int32) = nI 64 from rfl, nI_leI (by omega) (by omega)]; omega
      refine jrun_ok jC X k_MT_start_2 2 _ _ _ o_MT_start_2 ?_
      simp only [k_MT_start_2, jrun, jstep, jldi, jldl, jlda, j1, j2, jl1, jl2, jli, ja1, jbr, jald, jast, jlald, jlast, jalen, jget, jput, jfit, jdup, jdupx, jdupx2, jdup2, jcat, jset1, jset2, jkill, List.getElem?_cons_zero, List.getElem?_cons_succ, List.set_cons_zero, List.set_cons_succ, List.length_cons, List.length_nil, Nat.reduceAdd, Nat.reduceLT, Int32.reduceToNatClampNeg, true_and, and_true, and_self, reduceCtorEq, not_false_eq_true, false_and, and_false, or_false, false_or, true_or, or_true, ta_a, ta_ua, ta_l, vp_nar_int32, haa, ta_r11 hab, ta_u11 hab, ta_f16, ta_r12 hab, ta_u12 hab, ta_f17, ta_r19 hab, ta_u19 hab, ta_f24, ta_f25, ta_s25, ta_f26, ta_s26, ta_f27, ta_s27, ta_f28, ta_s28, ta_f29, ta_s29, hb11, hb12, hb19, Int32.reduceMul, Int32.reduceAdd, Int32.zero_add]
      refine ⟨fun h => absurd h hge, fun _ => ⟨vp_in_nI (by omega) (by omega), vp_in_nI (by omega) (by omega), ?_⟩⟩
      rw [nI_1]
      exact ih (i + 1) _ (by omega)
  refine jrun_ok jC X k_MT_start_0 0 _ _ _ o_MT_start_0 ?_
  simp only [k_MT_start_0, jrun, jstep, jldi, jldl, jlda, j1, j2, jl1, jl2, jli, ja1, jbr, jald, jast, jlald, jlast, jalen, jget, jput, jfit, jdup, jdupx, jdupx2, jdup2, jcat, jset1, jset2, jkill, List.getElem?_cons_zero, List.getElem?_cons_succ, List.set_cons_zero, List.set_cons_succ, List.length_cons, List.length_nil, Nat.reduceAdd, Nat.reduceLT, Int32.reduceToNatClampNeg, true_and, and_true, and_self, reduceCtorEq, not_false_eq_true, false_and, and_false, or_false, false_or, true_or, or_true, ta_a, ta_ua, ta_l, vp_nar_int32, haa, ta_r11 hab, ta_u11 hab, ta_f16, ta_r12 hab, ta_u12 hab, ta_f17, ta_r19 hab, ta_u19 hab, ta_f24, ta_f25, ta_s25, ta_f26, ta_s26, ta_f27, ta_s27, ta_f28, ta_s28, ta_f29, ta_s29, hb11, hb12, hb19]
  exact hloop 64 0 A (by omega)
set_option maxRecDepth 100000 in
set_option maxHeartbeats 4000000 in
theorem c_MT_usual_0 (l : Launch) (E : jE) (σ : Nat → jcell) (n : Nat) (a n0 : Nat) (hab : a < n0) (hn0 : n0 + 25 ≤ n) (F : Nat → Int32) (A : Nat → Nat → Int32) : jMet l E jcl jtb lw_tbl y_MT_usual { frames := 1, cells := 0, slots := 0, locals := 40 } [.inr (.inr (some (.inl (a)))), .inl 0] (txA σ a n0 F A) n (fun r σ' n' => ∃ F' A', r = none ∧ n' = n ∧ σ' = (txA σ a n0 F' A') ∧ A' 12 0 = 0) := by
  refine jMet_of (hY := rfl) false (fun h => by cases h) (by decide) (Nat.le_of_ble_eq_true rfl) [some (.inr (.inr (some (.inl (a))))), some (.inl 0), none, none] rfl ?_
  intro M hl hR X hr
  have hb19 : (n0 + 19 < n) = True := eq_true (by omega)
  have haa : (a < n) = True := eq_true (by omega)
  have C131 : ∀ (A : Nat → Nat → Int32) (o2 o3 : Option jv), jJ E jcl 4 M (jQ E jcl M (fun r σ' n' => ∃ F' A', r = none ∧ n' = n ∧ σ' = (txA σ a n0 F' A') ∧ A' 12 0 = 0) 0 0) n 0 0 131 [some (.inr (.inr (some (.inl (a))))), some (.inl 0), o2, o3] [] (txA σ a n0 F A) := by
    intro A o2 o3
    refine jrun_ok jC X k_MT_usual_131 131 _ _ _ o_MT_usual_131 ?_
    simp only [k_MT_usual_131, jrun, jstep, jldi, jldl, jlda, j1, j2, jl1, jl2, jli, ja1, jbr, jald, jast, jlald, jlast, jalen, jget, jput, jfit, jdup, jdupx, jdupx2, jdup2, jcat, jset1, jset2, jkill, List.getElem?_cons_zero, List.getElem?_cons_succ, List.set_cons_zero, List.set_cons_succ, List.length_cons, List.length_nil, Nat.reduceAdd, Nat.reduceLT, Int32.reduceToNatClampNeg, true_and, and_true, and_self, reduceCtorEq, not_false_eq_true, false_and, and_false, or_false, false_or, true_or, or_true, ta_a, ta_ua, ta_l, vp_nar_int32, haa, ta_r19 hab, ta_u19 hab, ta_f24, ta_f25, ta_s25, ta_f26, ta_s26, ta_f27, ta_s27, ta_f28, ta_s28, ta_f29, ta_s29, hb19]
    refine jk_Vg X hR d_MT_usual_159 q_MT_usual_159 m_MT_start i_MT_start e_MT_start (ci := 12) rfl rfl (by omega) ta_a (c_MT_start_0 M.2.1 E _ _ _ _ hab hn0 _ _) rfl rfl ⟨Nat.le_of_ble_eq_true rfl, Nat.le_of_ble_eq_true rfl⟩ (c' := 0) rfl (s' := 0) rfl ⟨Nat.le_of_ble_eq_true rfl, Nat.le_of_ble_eq_true rfl⟩ (Nat.le_of_ble_eq_true rfl) (pc' := 162) rfl ?_
    rintro _ _ _ ⟨A2, rfl, hn2, rfl, h12⟩
    obtain rfl : n = _ := hn2.symm
    simp only [Option.toList_none, List.nil_append]
    exact jk_vret X d_MT_usual_162 hr (Nat.le_refl _) (Nat.le_refl _) ⟨_, A2, rfl, rfl, rfl, by rw [h12]; simp [va_up]⟩
  have hloop23 : ∀ (u i : Nat) (A : Nat → Nat → Int32) (o3 : Option jv), i + u = 8 → jJ E jcl 4 M (jQ E jcl M (fun r σ' n' => ∃ F' A', r = none ∧ n' = n ∧ σ' = (txA σ a n0 F' A') ∧ A' 12 0 = 0) 0 0) n 0 0 23 [some (.inr (.inr (some (.inl (a))))), some (.inl 0), some (.inl (nI i)), o3] [] (txA σ a n0 F A) := by
    intro u
    induction u with
    | zero =>
      intro i A o3 hi
      obtain rfl : i = 8 := by omega
      refine jrun_ok jC X k_MT_usual_23 23 _ _ _ o_MT_usual_23 ?_
      simp only [k_MT_usual_23, jrun, jstep, jldi, jldl, jlda, j1, j2, jl1, jl2, jli, ja1, jbr, jald, jast, jlald, jlast, jalen, jget, jput, jfit, jdup, jdupx, jdupx2, jdup2, jcat, jset1, jset2, jkill, List.getElem?_cons_zero, List.getElem?_cons_succ, List.set_cons_zero, List.set_cons_succ, List.length_cons, List.length_nil, Nat.reduceAdd, Nat.reduceLT, Int32.reduceToNatClampNeg, true_and, and_true, and_self, reduceCtorEq, not_false_eq_true, false_and, and_false, or_false, false_or, true_or, or_true, ta_a, ta_ua, ta_l, vp_nar_int32, haa, ta_r19 hab, ta_u19 hab, ta_f24, ta_f25, ta_s25, ta_f26, ta_s26, ta_f27, ta_s27, ta_f28, ta_s28, ta_f29, ta_s29, hb19]
      refine ⟨fun _ => C131 _ _ _, fun h => absurd (by decide) h⟩
    | succ u ih =>
      intro i A o3 hi
      have hge : ¬ (8 : Int32) ≤ nI i := by
        rw [show (8 : Int32) = nI 8 from rfl, nI_leI (by omega) (by omega)]; omega
      have C83 : ∀ (A : Nat → Nat → Int32) (o3 : Option jv) (s0 : Int32), jJ E jcl 4 M (jQ E jcl M (fun r σ' n' => ∃ F' A', r = none ∧ n' = n ∧ σ' = (txA σ a n0 F' A') ∧ A' 12 0 = 0) 0 0) n 0 0 83 [some (.inr (.inr (some (.inl (a))))), some (.inl 0), some (.inl (nI i)), o3] [.inl s0] (txA σ a n0 F A) := by
        intro A o3 s0
        refine jrun_ok jC X k_MT_usual_83 83 _ _ _ o_MT_usual_83 ?_
        simp only [k_MT_usual_83, jrun, jstep, jldi, jldl, jlda, j1, j2, jl1, jl2, jli, ja1, jbr, jald, jast, jlald, jlast, jalen, jget, jput, jfit, jdup, jdupx, jdupx2, jdup2, jcat, jset1, jset2, jkill, List.getElem?_cons_zero, List.getElem?_cons_succ, List.set_cons_zero, List.set_cons_succ, List.length_cons, List.length_nil, Nat.reduceAdd, Nat.reduceLT, Int32.reduceToNatClampNeg, true_and, and_true, and_self, reduceCtorEq, not_false_eq_true, false_and, and_false, or_false, false_or, true_or, or_true, ta_a, ta_ua, ta_l, vp_nar_int32, haa, ta_r19 hab, ta_u19 hab, ta_f24, ta_f25, ta_s25, ta_f26, ta_s26, ta_f27, ta_s27, ta_f28, ta_s28, ta_f29, ta_s29, hb19]
        refine ⟨vp_in_nI (by omega) (by omega), ⟨?_, ⟨?_, ⟨?_, ?_⟩⟩⟩⟩
        · rw [show (8 : Int32) = nI 8 from rfl, nI_add]; exact vp_in_nI (by omega) (by omega)
        · rw [show (48 : Int32) = nI 48 from rfl, nI_add]; exact vp_in_nI (by omega) (by omega)
        · rw [show (56 : Int32) = nI 56 from rfl, nI_add]; exact vp_in_nI (by omega) (by omega)
        · rw [nI_1]
          exact ih (i + 1) _ _ (by omega)
      have C81 : ∀ (A : Nat → Nat → Int32) (o3 : Option jv), jJ E jcl 4 M (jQ E jcl M (fun r σ' n' => ∃ F' A', r = none ∧ n' = n ∧ σ' = (txA σ a n0 F' A') ∧ A' 12 0 = 0) 0 0) n 0 0 81 [some (.inr (.inr (some (.inl (a))))), some (.inl 0), some (.inl (nI i)), o3] [] (txA σ a n0 F A) := by
        intro A o3
        refine jrun_ok jC X k_MT_usual_81 81 _ _ _ o_MT_usual_81 ?_
        simp only [k_MT_usual_81, jrun, jstep, jldi, jldl, jlda, j1, j2, jl1, jl2, jli, ja1, jbr, jald, jast, jlald, jlast, jalen, jget, jput, jfit, jdup, jdupx, jdupx2, jdup2, jcat, jset1, jset2, jkill, List.getElem?_cons_zero, List.getElem?_cons_succ, List.set_cons_zero, List.set_cons_succ, List.length_cons, List.length_nil, Nat.reduceAdd, Nat.reduceLT, Int32.reduceToNatClampNeg, true_and, and_true, and_self, reduceCtorEq, not_false_eq_true, false_and, and_false, or_false, false_or, true_or, or_true, ta_a, ta_ua, ta_l, vp_nar_int32, haa, ta_r19 hab, ta_u19 hab, ta_f24, ta_f25, ta_s25, ta_f26, ta_s26, ta_f27, ta_s27, ta_f28, ta_s28, ta_f29, ta_s29, hb19]
        exact C83 _ _ _
      have C72 : ∀ (A : Nat → Nat → Int32) (o3 : Option jv), jJ E jcl 4 M (jQ E jcl M (fun r σ' n' => ∃ F' A', r = none ∧ n' = n ∧ σ' = (txA σ a n0 F' A') ∧ A' 12 0 = 0) 0 0) n 0 0 72 [some (.inr (.inr (some (.inl (a))))), some (.inl 0), some (.inl (nI i)), o3] [] (txA σ a n0 F A) := by
        intro A o3
        refine jrun_ok jC X k_MT_usual_72 72 _ _ _ o_MT_usual_72 ?_
        simp only [k_MT_usual_72, jrun, jstep, jldi, jldl, jlda, j1, j2, jl1, jl2, jli, ja1, jbr, jald, jast, jlald, jlast, jalen, jget, jput, jfit, jdup, jdupx, jdupx2, jdup2, jcat, jset1, jset2, jkill, List.getElem?_cons_zero, List.getElem?_cons_succ, List.set_cons_zero, List.set_cons_succ, List.length_cons, List.length_nil, Nat.reduceAdd, Nat.reduceLT, Int32.reduceToNatClampNeg, true_and, and_true, and_self, reduceCtorEq, not_false_eq_true, false_and, and_false, or_false, false_or, true_or, or_true, ta_a, ta_ua, ta_l, vp_nar_int32, haa, ta_r19 hab, ta_u19 hab, ta_f24, ta_f25, ta_s25, ta_f26, ta_s26, ta_f27, ta_s27, ta_f28, ta_s28, ta_f29, ta_s29, hb19]
        exact ⟨fun h74 => C81 _ _, fun h74 => C83 _ _ _⟩
      have C68 : ∀ (A : Nat → Nat → Int32) (o3 : Option jv), jJ E jcl 4 M (jQ E jcl M (fun r σ' n' => ∃ F' A', r = none ∧ n' = n ∧ σ' = (txA σ a n0 F' A') ∧ A' 12 0 = 0) 0 0) n 0 0 68 [some (.inr (.inr (some (.inl (a))))), some (.inl 0), some (.inl (nI i)), o3] [] (txA σ a n0 F A) := by
        intro A o3
        refine jrun_ok jC X k_MT_usual_68 68 _ _ _ o_MT_usual_68 ?_
        simp only [k_MT_usual_68, jrun, jstep, jldi, jldl, jlda, j1, j2, jl1, jl2, jli, ja1, jbr, jald, jast, jlald, jlast, jalen, jget, jput, jfit, jdup, jdupx, jdupx2, jdup2, jcat, jset1, jset2, jkill, List.getElem?_cons_zero, List.getElem?_cons_succ, List.set_cons_zero, List.set_cons_succ, List.length_cons, List.length_nil, Nat.reduceAdd, Nat.reduceLT, Int32.reduceToNatClampNeg, true_and, and_true, and_self, reduceCtorEq, not_false_eq_true, false_and, and_false, or_false, false_or, true_or, or_true, ta_a, ta_ua, ta_l, vp_nar_int32, haa, ta_r19 hab, ta_u19 hab, ta_f24, ta_f25, ta_s25, ta_f26, ta_s26, ta_f27, ta_s27, ta_f28, ta_s28, ta_f29, ta_s29, hb19]
        exact C83 _ _ _
      have C58 : ∀ (A : Nat → Nat → Int32) (o3 : Option jv), jJ E jcl 4 M (jQ E jcl M (fun r σ' n' => ∃ F' A', r = none ∧ n' = n ∧ σ' = (txA σ a n0 F' A') ∧ A' 12 0 = 0) 0 0) n 0 0 58 [some (.inr (.inr (some (.inl (a))))), some (.inl 0), some (.inl (nI i)), o3] [] (txA σ a n0 F A) := by
        intro A o3
        refine jrun_ok jC X k_MT_usual_58 58 _ _ _ o_MT_usual_58 ?_
        simp only [k_MT_usual_58, jrun, jstep, jldi, jldl, jlda, j1, j2, jl1, jl2, jli, ja1, jbr, jald, jast, jlald, jlast, jalen, jget, jput, jfit, jdup, jdupx, jdupx2, jdup2, jcat, jset1, jset2, jkill, List.getElem?_cons_zero, List.getElem?_cons_succ, List.set_cons_zero, List.set_cons_succ, List.length_cons, List.length_nil, Nat.reduceAdd, Nat.reduceLT, Int32.reduceToNatClampNeg, true_and, and_true, and_self, reduceCtorEq, not_false_eq_true, false_and, and_false, or_false, false_or, true_or, or_true, ta_a, ta_ua, ta_l, vp_nar_int32, haa, ta_r19 hab, ta_u19 hab, ta_f24, ta_f25, ta_s25, ta_f26, ta_s26, ta_f27, ta_s27, ta_f28, ta_s28, ta_f29, ta_s29, hb19]
        exact ⟨fun h60 => C68 _ _, fun h60 => ⟨fun h65 => C72 _ _, fun h65 => C68 _ _⟩⟩
      have C54 : ∀ (A : Nat → Nat → Int32) (o3 : Option jv), jJ E jcl 4 M (jQ E jcl M (fun r σ' n' => ∃ F' A', r = none ∧ n' = n ∧ σ' = (txA σ a n0 F' A') ∧ A' 12 0 = 0) 0 0) n 0 0 54 [some (.inr (.inr (some (.inl (a))))), some (.inl 0), some (.inl (nI i)), o3] [] (txA σ a n0 F A) := by
        intro A o3
        refine jrun_ok jC X k_MT_usual_54 54 _ _ _ o_MT_usual_54 ?_
        simp only [k_MT_usual_54, jrun, jstep, jldi, jldl, jlda, j1, j2, jl1, jl2, jli, ja1, jbr, jald, jast, jlald, jlast, jalen, jget, jput, jfit, jdup, jdupx, jdupx2, jdup2, jcat, jset1, jset2, jkill, List.getElem?_cons_zero, List.getElem?_cons_succ, List.set_cons_zero, List.set_cons_succ, List.length_cons, List.length_nil, Nat.reduceAdd, Nat.reduceLT, Int32.reduceToNatClampNeg, true_and, and_true, and_self, reduceCtorEq, not_false_eq_true, false_and, and_false, or_false, false_or, true_or, or_true, ta_a, ta_ua, ta_l, vp_nar_int32, haa, ta_r19 hab, ta_u19 hab, ta_f24, ta_f25, ta_s25, ta_f26, ta_s26, ta_f27, ta_s27, ta_f28, ta_s28, ta_f29, ta_s29, hb19]
        exact C83 _ _ _
      have C43 : ∀ (A : Nat → Nat → Int32) (o3 : Option jv), jJ E jcl 4 M (jQ E jcl M (fun r σ' n' => ∃ F' A', r = none ∧ n' = n ∧ σ' = (txA σ a n0 F' A') ∧ A' 12 0 = 0) 0 0) n 0 0 43 [some (.inr (.inr (some (.inl (a))))), some (.inl 0), some (.inl (nI i)), o3] [] (txA σ a n0 F A) := by
        intro A o3
        refine jrun_ok jC X k_MT_usual_43 43 _ _ _ o_MT_usual_43 ?_
        simp only [k_MT_usual_43, jrun, jstep, jldi, jldl, jlda, j1, j2, jl1, jl2, jli, ja1, jbr, jald, jast, jlald, jlast, jalen, jget, jput, jfit, jdup, jdupx, jdupx2, jdup2, jcat, jset1, jset2, jkill, List.getElem?_cons_zero, List.getElem?_cons_succ, List.set_cons_zero, List.set_cons_succ, List.length_cons, List.length_nil, Nat.reduceAdd, Nat.reduceLT, Int32.reduceToNatClampNeg, true_and, and_true, and_self, reduceCtorEq, not_false_eq_true, false_and, and_false, or_false, false_or, true_or, or_true, ta_a, ta_ua, ta_l, vp_nar_int32, haa, ta_r19 hab, ta_u19 hab, ta_f24, ta_f25, ta_s25, ta_f26, ta_s26, ta_f27, ta_s27, ta_f28, ta_s28, ta_f29, ta_s29, hb19]
        exact ⟨fun h45 => C54 _ _, fun h45 => ⟨fun h51 => C58 _ _, fun h51 => C54 _ _⟩⟩
      have C39 : ∀ (A : Nat → Nat → Int32) (o3 : Option jv), jJ E jcl 4 M (jQ E jcl M (fun r σ' n' => ∃ F' A', r = none ∧ n' = n ∧ σ' = (txA σ a n0 F' A') ∧ A' 12 0 = 0) 0 0) n 0 0 39 [some (.inr (.inr (some (.inl (a))))), some (.inl 0), some (.inl (nI i)), o3] [] (txA σ a n0 F A) := by
        intro A o3
        refine jrun_ok jC X k_MT_usual_39 39 _ _ _ o_MT_usual_39 ?_
        simp only [k_MT_usual_39, jrun, jstep, jldi, jldl, jlda, j1, j2, jl1, jl2, jli, ja1, jbr, jald, jast, jlald, jlast, jalen, jget, jput, jfit, jdup, jdupx, jdupx2, jdup2, jcat, jset1, jset2, jkill, List.getElem?_cons_zero, List.getElem?_cons_succ, List.set_cons_zero, List.set_cons_succ, List.length_cons, List.length_nil, Nat.reduceAdd, Nat.reduceLT, Int32.reduceToNatClampNeg, true_and, and_true, and_self, reduceCtorEq, not_false_eq_true, false_and, and_false, or_false, false_or, true_or, or_true, ta_a, ta_ua, ta_l, vp_nar_int32, haa, ta_r19 hab, ta_u19 hab, ta_f24, ta_f25, ta_s25, ta_f26, ta_s26, ta_f27, ta_s27, ta_f28, ta_s28, ta_f29, ta_s29, hb19]
        exact C83 _ _ _
      refine jrun_ok jC X k_MT_usual_23 23 _ _ _ o_MT_usual_23 ?_
      simp only [k_MT_usual_23, jrun, jstep, jldi, jldl, jlda, j1, j2, jl1, jl2, jli, ja1, jbr, jald, jast, jlald, jlast, jalen, jget, jput, jfit, jdup, jdupx, jdupx2, jdup2, jcat, jset1, jset2, jkill, List.getElem?_cons_zero, List.getElem?_cons_succ, List.set_cons_zero, List.set_cons_succ, List.length_cons, List.length_nil, Nat.reduceAdd, Nat.reduceLT, Int32.reduceToNatClampNeg, true_and, and_true, and_self, reduceCtorEq, not_false_eq_true, false_and, and_false, or_false, false_or, true_or, or_true, ta_a, ta_ua, ta_l, vp_nar_int32, haa, ta_r19 hab, ta_u19 hab, ta_f24, ta_f25, ta_s25, ta_f26, ta_s26, ta_f27, ta_s27, ta_f28, ta_s28, ta_f29, ta_s29, hb19]
      exact ⟨fun h26 => absurd h26 hge, fun h26 => ⟨fun h30 => C39 _ _, fun h30 => ⟨fun h36 => C43 _ _, fun h36 => C39 _ _⟩⟩⟩
  have hloop2 : ∀ (u i : Nat) (A : Nat → Nat → Int32), i + u = 64 → jJ E jcl 4 M (jQ E jcl M (fun r σ' n' => ∃ F' A', r = none ∧ n' = n ∧ σ' = (txA σ a n0 F' A') ∧ A' 12 0 = 0) 0 0) n 0 0 2 [some (.inr (.inr (some (.inl (a))))), some (.inl 0), some (.inl (nI i)), none] [] (txA σ a n0 F A) := by
    intro u
    induction u with
    | zero =>
      intro i A hi
      obtain rfl : i = 64 := by omega
      refine jrun_ok jC X k_MT_usual_2 2 _ _ _ o_MT_usual_2 ?_
      simp only [k_MT_usual_2, jrun, jstep, jldi, jldl, jlda, j1, j2, jl1, jl2, jli, ja1, jbr, jald, jast, jlald, jlast, jalen, jget, jput, jfit, jdup, jdupx, jdupx2, jdup2, jcat, jset1, jset2, jkill, List.getElem?_cons_zero, List.getElem?_cons_succ, List.set_cons_zero, List.set_cons_succ, List.length_cons, List.length_nil, Nat.reduceAdd, Nat.reduceLT, Int32.reduceToNatClampNeg, true_and, and_true, and_self, reduceCtorEq, not_false_eq_true, false_and, and_false, or_false, false_or, true_or, or_true, ta_a, ta_ua, ta_l, vp_nar_int32, haa, ta_r19 hab, ta_u19 hab, ta_f24, ta_f25, ta_s25, ta_f26, ta_s26, ta_f27, ta_s27, ta_f28, ta_s28, ta_f29, ta_s29, hb19]
      refine ⟨fun _ => ?_, fun h => absurd (by decide) h⟩
      refine jrun_ok jC X k_MT_usual_21 21 _ _ _ o_MT_usual_21 ?_
      simp only [k_MT_usual_21, jrun, jstep, jldi, jldl, jlda, j1, j2, jl1, jl2, jli, ja1, jbr, jald, jast, jlald, jlast, jalen, jget, jput, jfit, jdup, jdupx, jdupx2, jdup2, jcat, jset1, jset2, jkill, List.getElem?_cons_zero, List.getElem?_cons_succ, List.set_cons_zero, List.set_cons_succ, List.length_cons, List.length_nil, Nat.reduceAdd, Nat.reduceLT, Int32.reduceToNatClampNeg, true_and, and_true, and_self, reduceCtorEq, not_false_eq_true, false_and, and_false, or_false, false_or, true_or, or_true, ta_a, ta_ua, ta_l, vp_nar_int32, haa, ta_r19 hab, ta_u19 hab, ta_f24, ta_f25, ta_s25, ta_f26, ta_s26, ta_f27, ta_s27, ta_f28, ta_s28, ta_f29, ta_s29, hb19]
      exact hloop23 8 0 _ _ (by omega)
    | succ u ih =>
      intro i A hi
      have hge : ¬ (64 : Int32) ≤ nI i := by
        rw [show (64 : Int32) = nI 64 from rfl, nI_leI (by omega) (by omega)]; omega
      refine jrun_ok jC X k_MT_usual_2 2 _ _ _ o_MT_usual_2 ?_
      simp only [k_MT_usual_2, jrun, jstep, jldi, jldl, jlda, j1, j2, jl1, jl2, jli, ja1, jbr, jald, jast, jlald, jlast, jalen, jget, jput, jfit, jdup, jdupx, jdupx2, jdup2, jcat, jset1, jset2, jkill, List.getElem?_cons_zero, List.getElem?_cons_succ, List.set_cons_zero, List.set_cons_succ, List.length_cons, List.length_nil, Nat.reduceAdd, Nat.reduceLT, Int32.reduceToNatClampNeg, true_and, and_true, and_self, reduceCtorEq, not_false_eq_true, false_and, and_false, or_false, false_or, true_or, or_true, ta_a, ta_ua, ta_l, vp_nar_int32, haa, ta_r19 hab, ta_u19 hab, ta_f24, ta_f25, ta_s25, ta_f26, ta_s26, ta_f27, ta_s27, ta_f28, ta_s28, ta_f29, ta_s29, hb19]
      refine ⟨fun h => absurd h hge, fun _ => ⟨vp_in_nI (by omega) (by omega), ?_⟩⟩
      rw [nI_1]
      exact ih (i + 1) _ (by omega)
  refine jrun_ok jC X k_MT_usual_0 0 _ _ _ o_MT_usual_0 ?_
  simp only [k_MT_usual_0, jrun, jstep, jldi, jldl, jlda, j1, j2, jl1, jl2, jli, ja1, jbr, jald, jast, jlald, jlast, jalen, jget, jput, jfit, jdup, jdupx, jdupx2, jdup2, jcat, jset1, jset2, jkill, List.getElem?_cons_zero, List.getElem?_cons_succ, List.set_cons_zero, List.set_cons_succ, List.length_cons, List.length_nil, Nat.reduceAdd, Nat.reduceLT, Int32.reduceToNatClampNeg, true_and, and_true, and_self, reduceCtorEq, not_false_eq_true, false_and, and_false, or_false, false_or, true_or, or_true, ta_a, ta_ua, ta_l, vp_nar_int32, haa, ta_r19 hab, ta_u19 hab, ta_f24, ta_f25, ta_s25, ta_f26, ta_s26, ta_f27, ta_s27, ta_f28, ta_s28, ta_f29, ta_s29, hb19]
  exact hloop2 64 0 A (by omega)

