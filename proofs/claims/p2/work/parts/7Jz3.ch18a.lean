/-! Board's constructor, exactly -/
noncomputable def sE (y : Int32) : Nat → Int32 → Int32 → Int32
  | 0, _, s => s
  | k + 1, a, s => if a + y < 0 then s else if 63 < a + y then s else if 1 < (a + y &&& 7) - (a &&& 7) then s else if -1 ≤ (a + y &&& 7) - (a &&& 7) then sE y k (a + y) (s + 1) else s
noncomputable def miF (x : Int32) : Int32 := (if 4 ≤ x &&& 7 then 7 - (x &&& 7) else x &&& 7) + (if 4 ≤ (x >>> ((3 : Int32) &&& 31) : Int32) then 7 - (x >>> ((3 : Int32) &&& 31) : Int32) else (x >>> ((3 : Int32) &&& 31) : Int32))
noncomputable def woF (x y : Int32) : Int32 := if (x &&& 7).toInt = 1 then 100 + 6 * (if 8 ≤ x then 6 - (y >>> ((3 : Int32) &&& 31) : Int32) else (y >>> ((3 : Int32) &&& 31) : Int32) - 1) else if (x &&& 7).toInt = 2 then 320 + 4 * miF y else if (x &&& 7).toInt = 3 then 330 + 3 * miF y else if (x &&& 7).toInt = 4 then 500 else if (x &&& 7).toInt = 5 then 900 + miF y else 0
set_option maxRecDepth 100000 in
set_option maxHeartbeats 4000000 in
theorem cx_BO_stepsToEdge (l : Launch) (E : jE) (σ : Nat → jcell) (n : Nat) (x y : Int32) : jMet l E jcl jtb lw_tbl y_BO_stepsToEdge { frames := 0, cells := 0, slots := 0, locals := 0 } [.inl x, .inl y] σ n (fun r σ' n' => r = some (.inl (sE y 7 x 0)) ∧ σ' = σ ∧ n' = n) := by
  refine jMet_of (hY := rfl) false (fun h => by cases h) (by decide) (Nat.le_of_ble_eq_true rfl) [some (.inl x), some (.inl y), none, none, none, none, none] rfl ?_
  intro M hl hR X hr
  have C70 : ∀ (s2 s3 s4 : Int32) (o5 o6 : Option jv), s2 = sE y 7 x 0 → jJ E jcl 7 M (jQ E jcl M (fun r σ' n' => r = some (.inl (sE y 7 x 0)) ∧ σ' = σ ∧ n' = n) 0 0) n 0 0 70 [some (.inl x), some (.inl y), some (.inl s2), some (.inl s3), some (.inl s4), o5, o6] [] σ := by
    intro s2 s3 s4 o5 o6 hs2
    refine jrun_ok jC X k_BO_stepsToEdge_70 70 _ _ _ o_BO_stepsToEdge_70 ?_
    simp only [k_BO_stepsToEdge_70, jrun, jstep, jldi, jldl, jlda, j1, j2, jl1, jl2, jli, ja1, jbr, jald, jast, jlald, jlast, jalen, jget, jput, jfit, jdup, jdupx, jdupx2, jdup2, jcat, jset1, jset2, jkill, List.getElem?_cons_zero, List.getElem?_cons_succ, List.set_cons_zero, List.set_cons_succ, List.length_cons, List.length_nil, Nat.reduceAdd, Nat.reduceLT, Int32.reduceToNatClampNeg, true_and, and_true, and_self, reduceCtorEq, not_false_eq_true, false_and, and_false, or_false, false_or, true_or, or_true]
    exact jk_iret X d_BO_stepsToEdge_71 hr rfl (Nat.le_refl _) (Nat.le_refl _) ⟨by rw [hs2], rfl, rfl⟩
  have hloop : ∀ (u i : Nat) (s2 s3 : Int32) (o5 o6 : Option jv), i + u = 7 → sE y u s3 s2 = sE y 7 x 0 → jJ E jcl 7 M (jQ E jcl M (fun r σ' n' => r = some (.inl (sE y 7 x 0)) ∧ σ' = σ ∧ n' = n) 0 0) n 0 0 7 [some (.inl x), some (.inl y), some (.inl s2), some (.inl s3), some (.inl (nI i)), o5, o6] [] σ := by
    intro u
    induction u with
    | zero =>
      intro i s2 s3 o5 o6 hi hs
      obtain rfl : i = 7 := by omega
      refine jrun_ok jC X k_BO_stepsToEdge_7 7 _ _ _ o_BO_stepsToEdge_7 ?_
      simp only [k_BO_stepsToEdge_7, jrun, jstep, jldi, jldl, jlda, j1, j2, jl1, jl2, jli, ja1, jbr, jald, jast, jlald, jlast, jalen, jget, jput, jfit, jdup, jdupx, jdupx2, jdup2, jcat, jset1, jset2, jkill, List.getElem?_cons_zero, List.getElem?_cons_succ, List.set_cons_zero, List.set_cons_succ, List.length_cons, List.length_nil, Nat.reduceAdd, Nat.reduceLT, Int32.reduceToNatClampNeg, true_and, and_true, and_self, reduceCtorEq, not_false_eq_true, false_and, and_false, or_false, false_or, true_or, or_true]
      exact ⟨fun _ => C70 _ _ _ _ _ hs, fun h => absurd (by decide) h⟩
    | succ u ih =>
      intro i s2 s3 o5 o6 hi hs
      refine jrun_ok jC X k_BO_stepsToEdge_7 7 _ _ _ o_BO_stepsToEdge_7 ?_
      simp only [k_BO_stepsToEdge_7, jrun, jstep, jldi, jldl, jlda, j1, j2, jl1, jl2, jli, ja1, jbr, jald, jast, jlald, jlast, jalen, jget, jput, jfit, jdup, jdupx, jdupx2, jdup2, jcat, jset1, jset2, jkill, List.getElem?_cons_zero, List.getElem?_cons_succ, List.set_cons_zero, List.set_cons_succ, List.length_cons, List.length_nil, Nat.reduceAdd, Nat.reduceLT, Int32.reduceToNatClampNeg, true_and, and_true, and_self, reduceCtorEq, not_false_eq_true, false_and, and_false, or_false, false_or, true_or, or_true]
      have hge : ¬ (7 : Int32) ≤ nI i := by
        rw [show (7 : Int32) = nI 7 from rfl, nI_leI (by omega) (by omega)]; omega
      unfold sE at hs
      refine ⟨fun h => absurd h hge, fun _ => ⟨fun h1 => C70 _ _ _ _ _ (by rw [if_pos h1] at hs; exact hs), fun h1 => ⟨fun h2 => C70 _ _ _ _ _ (by rw [if_neg h1, if_pos h2] at hs; exact hs), fun h2 => ⟨fun h3 => C70 _ _ _ _ _ (by rw [if_neg h1, if_neg h2, if_pos h3] at hs; exact hs), fun h3 => ⟨fun h4 => ?_, fun h4 => C70 _ _ _ _ _ (by rw [if_neg h1, if_neg h2, if_neg h3, if_neg h4] at hs; exact hs)⟩⟩⟩⟩⟩
      rw [if_neg h1, if_neg h2, if_neg h3, if_pos h4] at hs
      refine jrun_ok jC X k_BO_stepsToEdge_58 58 _ _ _ o_BO_stepsToEdge_58 ?_
      simp only [k_BO_stepsToEdge_58, jrun, jstep, jldi, jldl, jlda, j1, j2, jl1, jl2, jli, ja1, jbr, jald, jast, jlald, jlast, jalen, jget, jput, jfit, jdup, jdupx, jdupx2, jdup2, jcat, jset1, jset2, jkill, List.getElem?_cons_zero, List.getElem?_cons_succ, List.set_cons_zero, List.set_cons_succ, List.length_cons, List.length_nil, Nat.reduceAdd, Nat.reduceLT, Int32.reduceToNatClampNeg, true_and, and_true, and_self, reduceCtorEq, not_false_eq_true, false_and, and_false, or_false, false_or, true_or, or_true, nI_1]
      exact ih (i + 1) _ _ _ _ (by omega) hs
  refine jrun_ok jC X k_BO_stepsToEdge_0 0 _ _ _ o_BO_stepsToEdge_0 ?_
  simp only [k_BO_stepsToEdge_0, jrun, jstep, jldi, jldl, jlda, j1, j2, jl1, jl2, jli, ja1, jbr, jald, jast, jlald, jlast, jalen, jget, jput, jfit, jdup, jdupx, jdupx2, jdup2, jcat, jset1, jset2, jkill, List.getElem?_cons_zero, List.getElem?_cons_succ, List.set_cons_zero, List.set_cons_succ, List.length_cons, List.length_nil, Nat.reduceAdd, Nat.reduceLT, Int32.reduceToNatClampNeg, true_and, and_true, and_self, reduceCtorEq, not_false_eq_true, false_and, and_false, or_false, false_or, true_or, or_true]
  exact hloop 7 0 _ _ _ _ (by omega) rfl
set_option maxRecDepth 100000 in
set_option maxHeartbeats 4000000 in
theorem cx_BO_middle (l : Launch) (E : jE) (σ : Nat → jcell) (n : Nat) (x : Int32) : jMet l E jcl jtb lw_tbl y_BO_middle { frames := 0, cells := 0, slots := 0, locals := 0 } [.inl x] σ n (fun r σ' n' => r = some (.inl (miF x)) ∧ σ' = σ ∧ n' = n) := by
  refine jMet_of (hY := rfl) false (fun h => by cases h) (by decide) (Nat.le_of_ble_eq_true rfl) [some (.inl x), none, none] rfl ?_
  intro M hl hR X hr
  have C35 : ∀ (o1 o2 : Option jv) (s0 s1 : Int32), s1 + s0 = miF x → jJ E jcl 3 M (jQ E jcl M (fun r σ' n' => r = some (.inl (miF x)) ∧ σ' = σ ∧ n' = n) 0 0) n 0 0 35 [some (.inl x), o1, o2] [.inl s0, .inl s1] σ := by
    intro o1 o2 s0 s1 hs
    refine jrun_ok jC X k_BO_middle_35 35 _ _ _ o_BO_middle_35 ?_
    simp only [k_BO_middle_35, jrun, jstep, jldi, jldl, jlda, j1, j2, jl1, jl2, jli, ja1, jbr, jald, jast, jlald, jlast, jalen, jget, jput, jfit, jdup, jdupx, jdupx2, jdup2, jcat, jset1, jset2, jkill, List.getElem?_cons_zero, List.getElem?_cons_succ, List.set_cons_zero, List.set_cons_succ, List.length_cons, List.length_nil, Nat.reduceAdd, Nat.reduceLT, Int32.reduceToNatClampNeg, true_and, and_true, and_self, reduceCtorEq, not_false_eq_true, false_and, and_false, or_false, false_or, true_or, or_true]
    exact jk_iret X d_BO_middle_36 hr rfl (Nat.le_refl _) (Nat.le_refl _) ⟨by rw [hs], rfl, rfl⟩
  have C22 : ∀ (s1 s2 s0 : Int32), s2 = x >>> (3 &&& 31) → s0 = (if 4 ≤ x &&& 7 then 7 - (x &&& 7) else x &&& 7) → jJ E jcl 3 M (jQ E jcl M (fun r σ' n' => r = some (.inl (miF x)) ∧ σ' = σ ∧ n' = n) 0 0) n 0 0 22 [some (.inl x), some (.inl s1), some (.inl s2)] [.inl s0] σ := by
    intro s1 s2 s0 h2 h0
    refine jrun_ok jC X k_BO_middle_22 22 _ _ _ o_BO_middle_22 ?_
    simp only [k_BO_middle_22, jrun, jstep, jldi, jldl, jlda, j1, j2, jl1, jl2, jli, ja1, jbr, jald, jast, jlald, jlast, jalen, jget, jput, jfit, jdup, jdupx, jdupx2, jdup2, jcat, jset1, jset2, jkill, List.getElem?_cons_zero, List.getElem?_cons_succ, List.set_cons_zero, List.set_cons_succ, List.length_cons, List.length_nil, Nat.reduceAdd, Nat.reduceLT, Int32.reduceToNatClampNeg, true_and, and_true, and_self, reduceCtorEq, not_false_eq_true, false_and, and_false, or_false, false_or, true_or, or_true]
    subst h2
    subst h0
    refine ⟨fun h4 => ?_, fun h4 => C35 _ _ _ _ (by unfold miF; rw [if_neg h4])⟩
    refine jrun_ok jC X k_BO_middle_31 31 _ _ _ o_BO_middle_31 ?_
    simp only [k_BO_middle_31, jrun, jstep, jldi, jldl, jlda, j1, j2, jl1, jl2, jli, ja1, jbr, jald, jast, jlald, jlast, jalen, jget, jput, jfit, jdup, jdupx, jdupx2, jdup2, jcat, jset1, jset2, jkill, List.getElem?_cons_zero, List.getElem?_cons_succ, List.set_cons_zero, List.set_cons_succ, List.length_cons, List.length_nil, Nat.reduceAdd, Nat.reduceLT, Int32.reduceToNatClampNeg, true_and, and_true, and_self, reduceCtorEq, not_false_eq_true, false_and, and_false, or_false, false_or, true_or, or_true]
    exact C35 _ _ _ _ (by unfold miF; rw [if_pos h4])
  refine jrun_ok jC X k_BO_middle_0 0 _ _ _ o_BO_middle_0 ?_
  simp only [k_BO_middle_0, jrun, jstep, jldi, jldl, jlda, j1, j2, jl1, jl2, jli, ja1, jbr, jald, jast, jlald, jlast, jalen, jget, jput, jfit, jdup, jdupx, jdupx2, jdup2, jcat, jset1, jset2, jkill, List.getElem?_cons_zero, List.getElem?_cons_succ, List.set_cons_zero, List.set_cons_succ, List.length_cons, List.length_nil, Nat.reduceAdd, Nat.reduceLT, Int32.reduceToNatClampNeg, true_and, and_true, and_self, reduceCtorEq, not_false_eq_true, false_and, and_false, or_false, false_or, true_or, or_true]
  refine ⟨fun h4 => ?_, fun h4 => C22 _ _ _ rfl (by rw [if_neg h4])⟩
  refine jrun_ok jC X k_BO_middle_18 18 _ _ _ o_BO_middle_18 ?_
  simp only [k_BO_middle_18, jrun, jstep, jldi, jldl, jlda, j1, j2, jl1, jl2, jli, ja1, jbr, jald, jast, jlald, jlast, jalen, jget, jput, jfit, jdup, jdupx, jdupx2, jdup2, jcat, jset1, jset2, jkill, List.getElem?_cons_zero, List.getElem?_cons_succ, List.set_cons_zero, List.set_cons_succ, List.length_cons, List.length_nil, Nat.reduceAdd, Nat.reduceLT, Int32.reduceToNatClampNeg, true_and, and_true, and_self, reduceCtorEq, not_false_eq_true, false_and, and_false, or_false, false_or, true_or, or_true]
  exact C22 _ _ _ rfl (by rw [if_pos h4])
set_option maxRecDepth 100000 in
set_option maxHeartbeats 4000000 in
theorem cx_BO_worthOf (l : Launch) (E : jE) (σ : Nat → jcell) (n : Nat) (x y : Int32) : jMet l E jcl jtb lw_tbl y_BO_worthOf { frames := 1, cells := 0, slots := 0, locals := 40 } [.inl x, .inl y] σ n (fun r σ' n' => r = some (.inl (woF x y)) ∧ σ' = σ ∧ n' = n) := by
  refine jMet_of (hY := rfl) false (fun h => by cases h) (by decide) (Nat.le_of_ble_eq_true rfl) [some (.inl x), some (.inl y)] rfl ?_
  intro M hl hR X hr
  have C64 : ∀ s0 s1 s2 : Int32, s2 + s1 * s0 = woF x y → jJ E jcl 2 M (jQ E jcl M (fun r σ' n' => r = some (.inl (woF x y)) ∧ σ' = σ ∧ n' = n) 0 0) n 0 0 64 [some (.inl x), some (.inl y)] [.inl s0, .inl s1, .inl s2] σ := by
    intro s0 s1 s2 hs
    refine jrun_ok jC X k_BO_worthOf_64 64 _ _ _ o_BO_worthOf_64 ?_
    simp only [k_BO_worthOf_64, jrun, jstep, jldi, jldl, jlda, j1, j2, jl1, jl2, jli, ja1, jbr, jald, jast, jlald, jlast, jalen, jget, jput, jfit, jdup, jdupx, jdupx2, jdup2, jcat, jset1, jset2, jkill, List.getElem?_cons_zero, List.getElem?_cons_succ, List.set_cons_zero, List.set_cons_succ, List.length_cons, List.length_nil, Nat.reduceAdd, Nat.reduceLT, Int32.reduceToNatClampNeg, true_and, and_true, and_self, reduceCtorEq, not_false_eq_true, false_and, and_false, or_false, false_or, true_or, or_true]
    exact jk_iret X d_BO_worthOf_66 hr rfl (Nat.le_refl _) (Nat.le_refl _) ⟨by rw [hs], rfl, rfl⟩
  have C40 : (x &&& 7).toInt = 1 → jJ E jcl 2 M (jQ E jcl M (fun r σ' n' => r = some (.inl (woF x y)) ∧ σ' = σ ∧ n' = n) 0 0) n 0 0 40 [some (.inl x), some (.inl y)] [] σ := by
    intro hk
    refine jrun_ok jC X k_BO_worthOf_40 40 _ _ _ o_BO_worthOf_40 ?_
    simp only [k_BO_worthOf_40, jrun, jstep, jldi, jldl, jlda, j1, j2, jl1, jl2, jli, ja1, jbr, jald, jast, jlald, jlast, jalen, jget, jput, jfit, jdup, jdupx, jdupx2, jdup2, jcat, jset1, jset2, jkill, List.getElem?_cons_zero, List.getElem?_cons_succ, List.set_cons_zero, List.set_cons_succ, List.length_cons, List.length_nil, Nat.reduceAdd, Nat.reduceLT, Int32.reduceToNatClampNeg, true_and, and_true, and_self, reduceCtorEq, not_false_eq_true, false_and, and_false, or_false, false_or, true_or, or_true]
    refine ⟨fun h8 => ?_, fun h8 => C64 _ _ _ (by unfold woF; rw [if_pos hk, if_neg h8])⟩
    refine jrun_ok jC X k_BO_worthOf_58 58 _ _ _ o_BO_worthOf_58 ?_
    simp only [k_BO_worthOf_58, jrun, jstep, jldi, jldl, jlda, j1, j2, jl1, jl2, jli, ja1, jbr, jald, jast, jlald, jlast, jalen, jget, jput, jfit, jdup, jdupx, jdupx2, jdup2, jcat, jset1, jset2, jkill, List.getElem?_cons_zero, List.getElem?_cons_succ, List.set_cons_zero, List.set_cons_succ, List.length_cons, List.length_nil, Nat.reduceAdd, Nat.reduceLT, Int32.reduceToNatClampNeg, true_and, and_true, and_self, reduceCtorEq, not_false_eq_true, false_and, and_false, or_false, false_or, true_or, or_true]
    exact C64 _ _ _ (by unfold woF; rw [if_pos hk, if_pos h8])
  have C67 : (x &&& 7).toInt = 2 → jJ E jcl 2 M (jQ E jcl M (fun r σ' n' => r = some (.inl (woF x y)) ∧ σ' = σ ∧ n' = n) 0 0) n 0 0 67 [some (.inl x), some (.inl y)] [] σ := by
    intro hk
    refine jrun_ok jC X k_BO_worthOf_67 67 _ _ _ o_BO_worthOf_67 ?_
    simp only [k_BO_worthOf_67, jrun, jstep, jldi, jldl, jlda, j1, j2, jl1, jl2, jli, ja1, jbr, jald, jast, jlald, jlast, jalen, jget, jput, jfit, jdup, jdupx, jdupx2, jdup2, jcat, jset1, jset2, jkill, List.getElem?_cons_zero, List.getElem?_cons_succ, List.set_cons_zero, List.set_cons_succ, List.length_cons, List.length_nil, Nat.reduceAdd, Nat.reduceLT, Int32.reduceToNatClampNeg, true_and, and_true, and_self, reduceCtorEq, not_false_eq_true, false_and, and_false, or_false, false_or, true_or, or_true]
    refine jk_Sg X hR d_BO_worthOf_72 q_BO_worthOf_72 m_BO_middle s_BO_middle (r := [.inl 4, .inl 320]) (cx_BO_middle M.2.1 E _ _ y) rfl rfl ⟨Nat.le_of_ble_eq_true rfl, Nat.le_of_ble_eq_true rfl⟩ (c' := 0) rfl (s' := 0) rfl ⟨Nat.le_of_ble_eq_true rfl, Nat.le_of_ble_eq_true rfl⟩ (Nat.le_of_ble_eq_true rfl) (pc' := 75) rfl ?_
    rintro _ _ _ ⟨rfl, rfl, hn2⟩
    obtain rfl : n = _ := hn2.symm
    simp only [Option.toList_some, List.cons_append, List.nil_append]
    refine jrun_ok jC X k_BO_worthOf_75 75 _ _ _ o_BO_worthOf_75 ?_
    simp only [k_BO_worthOf_75, jrun, jstep, jldi, jldl, jlda, j1, j2, jl1, jl2, jli, ja1, jbr, jald, jast, jlald, jlast, jalen, jget, jput, jfit, jdup, jdupx, jdupx2, jdup2, jcat, jset1, jset2, jkill, List.getElem?_cons_zero, List.getElem?_cons_succ, List.set_cons_zero, List.set_cons_succ, List.length_cons, List.length_nil, Nat.reduceAdd, Nat.reduceLT, Int32.reduceToNatClampNeg, true_and, and_true, and_self, reduceCtorEq, not_false_eq_true, false_and, and_false, or_false, false_or, true_or, or_true]
    exact jk_iret X d_BO_worthOf_77 hr rfl (Nat.le_refl _) (Nat.le_refl _) ⟨by unfold woF; rw [if_neg (by rw [hk]; decide), if_pos hk], rfl, rfl⟩
  have C78 : (x &&& 7).toInt = 3 → jJ E jcl 2 M (jQ E jcl M (fun r σ' n' => r = some (.inl (woF x y)) ∧ σ' = σ ∧ n' = n) 0 0) n 0 0 78 [some (.inl x), some (.inl y)] [] σ := by
    intro hk
    refine jrun_ok jC X k_BO_worthOf_78 78 _ _ _ o_BO_worthOf_78 ?_
    simp only [k_BO_worthOf_78, jrun, jstep, jldi, jldl, jlda, j1, j2, jl1, jl2, jli, ja1, jbr, jald, jast, jlald, jlast, jalen, jget, jput, jfit, jdup, jdupx, jdupx2, jdup2, jcat, jset1, jset2, jkill, List.getElem?_cons_zero, List.getElem?_cons_succ, List.set_cons_zero, List.set_cons_succ, List.length_cons, List.length_nil, Nat.reduceAdd, Nat.reduceLT, Int32.reduceToNatClampNeg, true_and, and_true, and_self, reduceCtorEq, not_false_eq_true, false_and, and_false, or_false, false_or, true_or, or_true]
    refine jk_Sg X hR d_BO_worthOf_83 q_BO_worthOf_83 m_BO_middle s_BO_middle (r := [.inl 3, .inl 330]) (cx_BO_middle M.2.1 E _ _ y) rfl rfl ⟨Nat.le_of_ble_eq_true rfl, Nat.le_of_ble_eq_true rfl⟩ (c' := 0) rfl (s' := 0) rfl ⟨Nat.le_of_ble_eq_true rfl, Nat.le_of_ble_eq_true rfl⟩ (Nat.le_of_ble_eq_true rfl) (pc' := 86) rfl ?_
    rintro _ _ _ ⟨rfl, rfl, hn2⟩
    obtain rfl : n = _ := hn2.symm
    simp only [Option.toList_some, List.cons_append, List.nil_append]
    refine jrun_ok jC X k_BO_worthOf_86 86 _ _ _ o_BO_worthOf_86 ?_
    simp only [k_BO_worthOf_86, jrun, jstep, jldi, jldl, jlda, j1, j2, jl1, jl2, jli, ja1, jbr, jald, jast, jlald, jlast, jalen, jget, jput, jfit, jdup, jdupx, jdupx2, jdup2, jcat, jset1, jset2, jkill, List.getElem?_cons_zero, List.getElem?_cons_succ, List.set_cons_zero, List.set_cons_succ, List.length_cons, List.length_nil, Nat.reduceAdd, Nat.reduceLT, Int32.reduceToNatClampNeg, true_and, and_true, and_self, reduceCtorEq, not_false_eq_true, false_and, and_false, or_false, false_or, true_or, or_true]
    exact jk_iret X d_BO_worthOf_88 hr rfl (Nat.le_refl _) (Nat.le_refl _) ⟨by unfold woF; rw [if_neg (by rw [hk]; decide), if_neg (by rw [hk]; decide), if_pos hk], rfl, rfl⟩
  have C89 : (x &&& 7).toInt = 4 → jJ E jcl 2 M (jQ E jcl M (fun r σ' n' => r = some (.inl (woF x y)) ∧ σ' = σ ∧ n' = n) 0 0) n 0 0 89 [some (.inl x), some (.inl y)] [] σ := by
    intro hk
    refine jrun_ok jC X k_BO_worthOf_89 89 _ _ _ o_BO_worthOf_89 ?_
    simp only [k_BO_worthOf_89, jrun, jstep, jldi, jldl, jlda, j1, j2, jl1, jl2, jli, ja1, jbr, jald, jast, jlald, jlast, jalen, jget, jput, jfit, jdup, jdupx, jdupx2, jdup2, jcat, jset1, jset2, jkill, List.getElem?_cons_zero, List.getElem?_cons_succ, List.set_cons_zero, List.set_cons_succ, List.length_cons, List.length_nil, Nat.reduceAdd, Nat.reduceLT, Int32.reduceToNatClampNeg, true_and, and_true, and_self, reduceCtorEq, not_false_eq_true, false_and, and_false, or_false, false_or, true_or, or_true]
    exact jk_iret X d_BO_worthOf_92 hr rfl (Nat.le_refl _) (Nat.le_refl _) ⟨by unfold woF; rw [if_neg (by rw [hk]; decide), if_neg (by rw [hk]; decide), if_neg (by rw [hk]; decide), if_pos hk], rfl, rfl⟩
  have C93 : (x &&& 7).toInt = 5 → jJ E jcl 2 M (jQ E jcl M (fun r σ' n' => r = some (.inl (woF x y)) ∧ σ' = σ ∧ n' = n) 0 0) n 0 0 93 [some (.inl x), some (.inl y)] [] σ := by
    intro hk
    refine jrun_ok jC X k_BO_worthOf_93 93 _ _ _ o_BO_worthOf_93 ?_
    simp only [k_BO_worthOf_93, jrun, jstep, jldi, jldl, jlda, j1, j2, jl1, jl2, jli, ja1, jbr, jald, jast, jlald, jlast, jalen, jget, jput, jfit, jdup, jdupx, jdupx2, jdup2, jcat, jset1, jset2, jkill, List.getElem?_cons_zero, List.getElem?_cons_succ, List.set_cons_zero, List.set_cons_succ, List.length_cons, List.length_nil, Nat.reduceAdd, Nat.reduceLT, Int32.reduceToNatClampNeg, true_and, and_true, and_self, reduceCtorEq, not_false_eq_true, false_and, and_false, or_false, false_or, true_or, or_true]
    refine jk_Sg X hR d_BO_worthOf_97 q_BO_worthOf_97 m_BO_middle s_BO_middle (r := [.inl 900]) (cx_BO_middle M.2.1 E _ _ y) rfl rfl ⟨Nat.le_of_ble_eq_true rfl, Nat.le_of_ble_eq_true rfl⟩ (c' := 0) rfl (s' := 0) rfl ⟨Nat.le_of_ble_eq_true rfl, Nat.le_of_ble_eq_true rfl⟩ (Nat.le_of_ble_eq_true rfl) (pc' := 100) rfl ?_
    rintro _ _ _ ⟨rfl, rfl, hn2⟩
    obtain rfl : n = _ := hn2.symm
    simp only [Option.toList_some, List.cons_append, List.nil_append]
    refine jrun_ok jC X k_BO_worthOf_100 100 _ _ _ o_BO_worthOf_100 ?_
    simp only [k_BO_worthOf_100, jrun, jstep, jldi, jldl, jlda, j1, j2, jl1, jl2, jli, ja1, jbr, jald, jast, jlald, jlast, jalen, jget, jput, jfit, jdup, jdupx, jdupx2, jdup2, jcat, jset1, jset2, jkill, List.getElem?_cons_zero, List.getElem?_cons_succ, List.set_cons_zero, List.set_cons_succ, List.length_cons, List.length_nil, Nat.reduceAdd, Nat.reduceLT, Int32.reduceToNatClampNeg, true_and, and_true, and_self, reduceCtorEq, not_false_eq_true, false_and, and_false, or_false, false_or, true_or, or_true]
    exact jk_iret X d_BO_worthOf_101 hr rfl (Nat.le_refl _) (Nat.le_refl _) ⟨by unfold woF; rw [if_neg (by rw [hk]; decide), if_neg (by rw [hk]; decide), if_neg (by rw [hk]; decide), if_neg (by rw [hk]; decide), if_pos hk], rfl, rfl⟩
  have C102 : ((x &&& 7).toInt < 1 ∨ 5 < (x &&& 7).toInt) → jJ E jcl 2 M (jQ E jcl M (fun r σ' n' => r = some (.inl (woF x y)) ∧ σ' = σ ∧ n' = n) 0 0) n 0 0 102 [some (.inl x), some (.inl y)] [] σ := by
    intro hk
    refine jrun_ok jC X k_BO_worthOf_102 102 _ _ _ o_BO_worthOf_102 ?_
    simp only [k_BO_worthOf_102, jrun, jstep, jldi, jldl, jlda, j1, j2, jl1, jl2, jli, ja1, jbr, jald, jast, jlald, jlast, jalen, jget, jput, jfit, jdup, jdupx, jdupx2, jdup2, jcat, jset1, jset2, jkill, List.getElem?_cons_zero, List.getElem?_cons_succ, List.set_cons_zero, List.set_cons_succ, List.length_cons, List.length_nil, Nat.reduceAdd, Nat.reduceLT, Int32.reduceToNatClampNeg, true_and, and_true, and_self, reduceCtorEq, not_false_eq_true, false_and, and_false, or_false, false_or, true_or, or_true]
    exact jk_iret X d_BO_worthOf_103 hr rfl (Nat.le_refl _) (Nat.le_refl _) ⟨by unfold woF; rw [if_neg (by omega), if_neg (by omega), if_neg (by omega), if_neg (by omega), if_neg (by omega)], rfl, rfl⟩
  refine jrun_ok jC X k_BO_worthOf_0 0 _ _ _ o_BO_worthOf_0 ?_
  simp only [k_BO_worthOf_0, jrun, jstep, jldi, jldl, jlda, j1, j2, jl1, jl2, jli, ja1, jbr, jald, jast, jlald, jlast, jalen, jget, jput, jfit, jdup, jdupx, jdupx2, jdup2, jcat, jset1, jset2, jkill, List.getElem?_cons_zero, List.getElem?_cons_succ, List.set_cons_zero, List.set_cons_succ, List.length_cons, List.length_nil, Nat.reduceAdd, Nat.reduceLT, Int32.reduceToNatClampNeg, true_and, and_true, and_self, reduceCtorEq, not_false_eq_true, false_and, and_false, or_false, false_or, true_or, or_true]
  refine jk_tab X d_BO_worthOf_4 [40, 67, 78, 89, 93] (by decide) (by decide) (td := 102) (by decide) (fun h => C102 h) ?_
  intro i t hi hx
  match i, hi, hx with
  | 0, hi, hx => cases hi; exact C40 (by rw [hx]; rfl)
  | 1, hi, hx => cases hi; exact C67 (by rw [hx]; rfl)
  | 2, hi, hx => cases hi; exact C78 (by rw [hx]; rfl)
  | 3, hi, hx => cases hi; exact C89 (by rw [hx]; rfl)
  | 4, hi, hx => cases hi; exact C93 (by rw [hx]; rfl)
  | i + 5, hi, _ => cases hi


theorem vu_us {α : Type} {A : Nat → α} {k : Nat} {x : α} : va_up A k x k = x := by simp [va_up]
theorem vu_uu {α : Type} {A : Nat → α} {k : Nat} {x y : α} : va_up (va_up A k x) k y = va_up A k y := by
  funext j
  by_cases h : j = k <;> simp [va_up, h]
noncomputable def hI (x : Int32) : Nat → Nat → Int32
  | 0, _ => -1
  | t + 1, i => if hop5 x (nI t) = 5 ∧ hopc x t = i then nI t else hI x t i
set_option maxRecDepth 100000 in
set_option maxHeartbeats 4000000 in
theorem cx_BO_fillHops (l : Launch) (E : jE) (σ : Nat → jcell) (n : Nat) (a n0 : Nat) (hab : a < n0) (hn0 : n0 + 11 ≤ n) (F : Nat → Int32) (A : Nat → Nat → Int32) (L : Nat → Nat → Int64) (s : Nat) (hs : s < 64) : jMet l E jcl jtb lw_tbl y_BO_fillHops { frames := 2, cells := 0, slots := 0, locals := 80 } [.inr (.inr (some (.inl (a)))), .inl (nI s)] (bdP σ a n0 F A L) n (fun r σ' n' => ∃ (g : Nat → Int32), r = none ∧ n' = n ∧ σ' = (bdP σ a n0 F (va_up A 8 g) L) ∧ (∀ i, i < 8 → g (s * 8 + i) = hI (nI s) 64 i) ∧ ∀ j, ¬ (s * 8 ≤ j ∧ j < s * 8 + 8) → g j = A 8 j) := by
  refine jMet_of (hY := rfl) false (fun h => by cases h) (by decide) (Nat.le_of_ble_eq_true rfl) [some (.inr (.inr (some (.inl (a))))), some (.inl (nI s)), none, none, none, none] rfl ?_
  intro M hl hR X hr
  have hb0 : (n0 < n) = True := eq_true (by omega)
  have hb1 : (n0 + 1 < n) = True := eq_true (by omega)
  have hb2 : (n0 + 2 < n) = True := eq_true (by omega)
  have hb3 : (n0 + 3 < n) = True := eq_true (by omega)
  have hb4 : (n0 + 4 < n) = True := eq_true (by omega)
  have hb5 : (n0 + 5 < n) = True := eq_true (by omega)
  have hb6 : (n0 + 6 < n) = True := eq_true (by omega)
  have hb7 : (n0 + 7 < n) = True := eq_true (by omega)
  have hb8 : (n0 + 8 < n) = True := eq_true (by omega)
  have hb9 : (n0 + 9 < n) = True := eq_true (by omega)
  have hb10 : (n0 + 10 < n) = True := eq_true (by omega)
  have haa : (a < n) = True := eq_true (by omega)
  have hloop : ∀ (u i : Nat) (g : Nat → Int32) (o4 o5 : Option jv), i + u = 64 → (∀ k, k < 8 → g (s * 8 + k) = hI (nI s) i k) → (∀ j, ¬ (s * 8 ≤ j ∧ j < s * 8 + 8) → g j = A 8 j) → jJ E jcl 6 M (jQ E jcl M (fun r σ' n' => ∃ (g : Nat → Int32), r = none ∧ n' = n ∧ σ' = (bdP σ a n0 F (va_up A 8 g) L) ∧ (∀ i, i < 8 → g (s * 8 + i) = hI (nI s) 64 i) ∧ ∀ j, ¬ (s * 8 ≤ j ∧ j < s * 8 + 8) → g j = A 8 j) 0 0) n 0 0 20 [some (.inr (.inr (some (.inl (a))))), some (.inl (nI s)), some (.inl (nI (s * 8 + hopc (nI s) i))), some (.inl (nI i)), o4, o5] [] (bdP σ a n0 F (va_up A 8 g) L) := by
    intro u
    induction u with
    | zero =>
      intro i g o4 o5 hi hg1 hg2
      obtain rfl : i = 64 := by omega
      refine jrun_ok jC X k_BO_fillHops_20 20 _ _ _ o_BO_fillHops_20 ?_
      simp only [k_BO_fillHops_20, jrun, jstep, jldi, jldl, jlda, j1, j2, jl1, jl2, jli, ja1, jbr, jald, jast, jlald, jlast, jalen, jget, jput, jfit, jdup, jdupx, jdupx2, jdup2, jcat, jset1, jset2, jkill, List.getElem?_cons_zero, List.getElem?_cons_succ, List.set_cons_zero, List.set_cons_succ, List.length_cons, List.length_nil, Nat.reduceAdd, Nat.reduceLT, Int32.reduceToNatClampNeg, true_and, and_true, and_self, reduceCtorEq, not_false_eq_true, false_and, and_false, or_false, false_or, true_or, or_true, bd_a, bd_ua, bd_l, vp_nar_int32, haa, bd_r0 hab, bd_u0 hab, hb0, bd_r1 hab, bd_u1 hab, hb1, bd_r2 hab, bd_u2 hab, hb2, bd_r3 hab, bd_u3 hab, hb3, bd_r4 hab, bd_u4 hab, hb4, bd_r5 hab, bd_u5 hab, hb5, bd_r6 hab, bd_u6 hab, hb6, bd_r7 hab, bd_u7 hab, hb7, bd_r8 hab, bd_u8 hab, hb8, bd_r9 hab, bd_u9 hab, hb9, bd_r10 hab, bd_u10 hab, hb10, bd_f0, bd_f1, bd_f2, bd_f3, bd_f4, bd_f5, bd_f6, bd_f7, bd_f8, bd_f9, bd_f10, bd_f11, bd_f12, bd_f13, bd_f14, bd_f15, bd_f16, bd_s2, bd_s3, bd_s4, bd_s5, bd_s6, bd_s16, vu_uu, vu_us]
      refine ⟨fun _ => ?_, fun h => absurd (by decide) h⟩
      exact jk_vret X d_BO_fillHops_77 hr (Nat.le_refl _) (Nat.le_refl _) ⟨g, rfl, rfl, rfl, hg1, hg2⟩
    | succ u ih =>
      intro i g o4 o5 hi hg1 hg2
      have hge : ¬ (64 : Int32) ≤ nI i := by
        rw [show (64 : Int32) = nI 64 from rfl, nI_leI (by omega) (by omega)]; omega
      have hm1 := hopc_mono (nI s) (i + 1) u
      rw [show i + 1 + u = 64 by omega] at hm1
      have hm8 := hopc_8 s hs
      refine jrun_ok jC X k_BO_fillHops_20 20 _ _ _ o_BO_fillHops_20 ?_
      simp only [k_BO_fillHops_20, jrun, jstep, jldi, jldl, jlda, j1, j2, jl1, jl2, jli, ja1, jbr, jald, jast, jlald, jlast, jalen, jget, jput, jfit, jdup, jdupx, jdupx2, jdup2, jcat, jset1, jset2, jkill, List.getElem?_cons_zero, List.getElem?_cons_succ, List.set_cons_zero, List.set_cons_succ, List.length_cons, List.length_nil, Nat.reduceAdd, Nat.reduceLT, Int32.reduceToNatClampNeg, true_and, and_true, and_self, reduceCtorEq, not_false_eq_true, false_and, and_false, or_false, false_or, true_or, or_true, bd_a, bd_ua, bd_l, vp_nar_int32, haa, bd_r0 hab, bd_u0 hab, hb0, bd_r1 hab, bd_u1 hab, hb1, bd_r2 hab, bd_u2 hab, hb2, bd_r3 hab, bd_u3 hab, hb3, bd_r4 hab, bd_u4 hab, hb4, bd_r5 hab, bd_u5 hab, hb5, bd_r6 hab, bd_u6 hab, hb6, bd_r7 hab, bd_u7 hab, hb7, bd_r8 hab, bd_u8 hab, hb8, bd_r9 hab, bd_u9 hab, hb9, bd_r10 hab, bd_u10 hab, hb10, bd_f0, bd_f1, bd_f2, bd_f3, bd_f4, bd_f5, bd_f6, bd_f7, bd_f8, bd_f9, bd_f10, bd_f11, bd_f12, bd_f13, bd_f14, bd_f15, bd_f16, bd_s2, bd_s3, bd_s4, bd_s5, bd_s6, bd_s16, nI_1, vu_uu, vu_us]
      refine ⟨fun h => absurd h hge, fun _ => ⟨fun h5 => ?_, fun h5 => ⟨?_, ?_⟩⟩⟩
      · have e : hopc (nI s) (i + 1) = hopc (nI s) i := by
          show hopc (nI s) i + _ = _
          rw [if_neg (show ¬ hop5 (nI s) (nI i) = 5 from h5)]; rfl
        refine jrun_ok jC X k_BO_fillHops_71 71 _ _ _ o_BO_fillHops_71 ?_
        simp only [k_BO_fillHops_71, jrun, jstep, jldi, jldl, jlda, j1, j2, jl1, jl2, jli, ja1, jbr, jald, jast, jlald, jlast, jalen, jget, jput, jfit, jdup, jdupx, jdupx2, jdup2, jcat, jset1, jset2, jkill, List.getElem?_cons_zero, List.getElem?_cons_succ, List.set_cons_zero, List.set_cons_succ, List.length_cons, List.length_nil, Nat.reduceAdd, Nat.reduceLT, Int32.reduceToNatClampNeg, true_and, and_true, and_self, reduceCtorEq, not_false_eq_true, false_and, and_false, or_false, false_or, true_or, or_true, nI_1]
        rw [← e]
        exact ih (i + 1) _ _ _ (by omega) (fun k hk => by
          rw [hg1 k hk]
          show hI (nI s) i k = if hop5 (nI s) (nI i) = 5 ∧ hopc (nI s) i = k then nI i else hI (nI s) i k
          rw [if_neg (fun h9 => h5 h9.1)]) hg2
      · have e : hopc (nI s) (i + 1) = hopc (nI s) i + 1 := by
          show hopc (nI s) i + _ = _
          rw [if_pos (show hop5 (nI s) (nI i) = 5 from h5)]
        exact vp_in_nI (by omega) (by decide)
      · have e : hopc (nI s) (i + 1) = hopc (nI s) i + 1 := by
          show hopc (nI s) i + _ = _
          rw [if_pos (show hop5 (nI s) (nI i) = 5 from h5)]
        refine jrun_ok jC X k_BO_fillHops_71 71 _ _ _ o_BO_fillHops_71 ?_
        simp only [k_BO_fillHops_71, jrun, jstep, jldi, jldl, jlda, j1, j2, jl1, jl2, jli, ja1, jbr, jald, jast, jlald, jlast, jalen, jget, jput, jfit, jdup, jdupx, jdupx2, jdup2, jcat, jset1, jset2, jkill, List.getElem?_cons_zero, List.getElem?_cons_succ, List.set_cons_zero, List.set_cons_succ, List.length_cons, List.length_nil, Nat.reduceAdd, Nat.reduceLT, Int32.reduceToNatClampNeg, true_and, and_true, and_self, reduceCtorEq, not_false_eq_true, false_and, and_false, or_false, false_or, true_or, or_true, nI_1]
        rw [Nat.add_assoc, ← e]
        exact ih (i + 1) _ _ _ (by omega) (fun k hk => by
          show upd g _ _ _ = if hop5 (nI s) (nI i) = 5 ∧ hopc (nI s) i = k then nI i else hI (nI s) i k
          by_cases hk9 : hopc (nI s) i = k
          · rw [if_pos ⟨h5, hk9⟩, show s * 8 + k = (nI (s * 8 + hopc (nI s) i)).toNatClampNeg by rw [nI_clamp (by omega), hk9]]
            exact upd_s
          · rw [if_neg (fun h9 => hk9 h9.2), ← hg1 k hk]
            exact upd_o (by rw [nI_clamp (by omega)]; omega)) (fun j hj => by
          rw [← hg2 j hj]
          exact upd_o (by rw [nI_clamp (by omega)]; omega))
  have e8 : nI s * 8 = nI (s * 8) := by rw [show (8 : Int32) = nI 8 from rfl, pk_mul]
  have e9 : nI (s * 8) + 8 = nI (s * 8 + 8) := by rw [show (8 : Int32) = nI 8 from rfl, nI_add]
  refine jrun_ok jC X k_BO_fillHops_0 0 _ _ _ o_BO_fillHops_0 ?_
  simp only [k_BO_fillHops_0, jrun, jstep, jldi, jldl, jlda, j1, j2, jl1, jl2, jli, ja1, jbr, jald, jast, jlald, jlast, jalen, jget, jput, jfit, jdup, jdupx, jdupx2, jdup2, jcat, jset1, jset2, jkill, List.getElem?_cons_zero, List.getElem?_cons_succ, List.set_cons_zero, List.set_cons_succ, List.length_cons, List.length_nil, Nat.reduceAdd, Nat.reduceLT, Int32.reduceToNatClampNeg, true_and, and_true, and_self, reduceCtorEq, not_false_eq_true, false_and, and_false, or_false, false_or, true_or, or_true, bd_a, bd_ua, bd_l, vp_nar_int32, haa, bd_r0 hab, bd_u0 hab, hb0, bd_r1 hab, bd_u1 hab, hb1, bd_r2 hab, bd_u2 hab, hb2, bd_r3 hab, bd_u3 hab, hb3, bd_r4 hab, bd_u4 hab, hb4, bd_r5 hab, bd_u5 hab, hb5, bd_r6 hab, bd_u6 hab, hb6, bd_r7 hab, bd_u7 hab, hb7, bd_r8 hab, bd_u8 hab, hb8, bd_r9 hab, bd_u9 hab, hb9, bd_r10 hab, bd_u10 hab, hb10, bd_f0, bd_f1, bd_f2, bd_f3, bd_f4, bd_f5, bd_f6, bd_f7, bd_f8, bd_f9, bd_f10, bd_f11, bd_f12, bd_f13, bd_f14, bd_f15, bd_f16, bd_s2, bd_s3, bd_s4, bd_s5, bd_s6, bd_s16, e8, e9]
  refine jk_Sg X hR d_BO_fillHops_15 q_BO_fillHops_15 m_AR_fill s_AR_fill (r := []) (c_AR_fill M.2.1 E _ _ (n0 + 8) (by omega) 512 (by decide) _ (bd_r8 hab) (s * 8) (s * 8 + 8) (by omega) (by omega) (-1)) rfl rfl ⟨Nat.le_of_ble_eq_true rfl, Nat.le_of_ble_eq_true rfl⟩ (c' := 0) rfl (s' := 0) rfl ⟨Nat.le_of_ble_eq_true rfl, Nat.le_of_ble_eq_true rfl⟩ (Nat.le_of_ble_eq_true rfl) (pc' := 18) rfl ?_
  rintro _ _ _ ⟨g8, rfl, hn2, rfl, hg8⟩
  obtain rfl : n = _ := hn2.symm
  simp only [Option.toList_none, List.nil_append, bd_u8 hab]
  refine jrun_ok jC X k_BO_fillHops_18 18 _ _ _ o_BO_fillHops_18 ?_
  simp only [k_BO_fillHops_18, jrun, jstep, jldi, jldl, jlda, j1, j2, jl1, jl2, jli, ja1, jbr, jald, jast, jlald, jlast, jalen, jget, jput, jfit, jdup, jdupx, jdupx2, jdup2, jcat, jset1, jset2, jkill, List.getElem?_cons_zero, List.getElem?_cons_succ, List.set_cons_zero, List.set_cons_succ, List.length_cons, List.length_nil, Nat.reduceAdd, Nat.reduceLT, Int32.reduceToNatClampNeg, true_and, and_true, and_self, reduceCtorEq, not_false_eq_true, false_and, and_false, or_false, false_or, true_or, or_true]
  exact hloop 64 0 _ _ _ (by omega) (fun k hk => by rw [hg8, if_pos ⟨by omega, by omega⟩]; rfl) (fun j hj => by rw [hg8, if_neg hj])


