theorem in_of {q : Int32} {N : Nat} (hN : N < 2 ^ 31) (h : ∃ k : Nat, k < N ∧ q = nI k) : vp_in q N := by
  obtain ⟨k, hk, rfl⟩ := h
  exact vp_in_nI hk hN
theorem c_MT_isAttackedQ (l : Launch) (E : jE) (σ : Nat → jcell) (n : Nat) (t m : Nat) (fs : List jv) (men : Nat → Int32) (ht : t < n) (h0 : σ t = .inr (12, fs)) (hf : fs[24]? = some (.inr (.inr (some (.inl m))))) (hm : m < n) (h1 : σ m = .inl (.int, 64, .inl men)) (q : Int32) (hq : ∃ k : Nat, k < 64 ∧ q = nI k) (w : Int32) : jMet l E jcl jtb lw_tbl y_MT_isAttacked { frames := 2, cells := 0, slots := 0, locals := 90 } [.inr (.inr (some (.inl (t)))), .inl q, .inl w] σ n (poB σ n) := by
  obtain ⟨k, hk, rfl⟩ := hq
  exact c_MT_isAttacked l E σ n t m fs men ht h0 hf hm h1 k hk w
set_option maxRecDepth 100000 in
set_option maxHeartbeats 4000000 in
theorem c_MT_isInCheck (l : Launch) (E : jE) (σ : Nat → jcell) (n : Nat) (t m : Nat) (fs : List jv) (men : Nat → Int32) (ht : t < n) (h0 : σ t = .inr (12, fs)) (hf : fs[24]? = some (.inr (.inr (some (.inl m))))) (hm : m < n) (h1 : σ m = .inl (.int, 64, .inl men)) (w : Int32) : jMet l E jcl jtb lw_tbl y_MT_isInCheck { frames := 3, cells := 0, slots := 0, locals := 130 } [.inr (.inr (some (.inl (t)))), .inl w] σ n (fun r σ' n' => poB σ n r σ' n') := by
  refine jMet_of (hY := rfl) false (fun h => by cases h) (by decide) (Nat.le_of_ble_eq_true rfl) [some (.inr (.inr (some (.inl (t))))), some (.inl w)] rfl ?_
  intro M hl hR X hr
  refine jrun_ok jC X k_MT_isInCheck_0 0 _ _ _ o_MT_isInCheck_0 ?_
  simp only [k_MT_isInCheck_0, jrun, jstep, jldi, jldl, jlda, j1, j2, jl1, jl2, jli, ja1, jbr, jald, jast, jlald, jlast, jalen, jget, jput, jfit, jdup, jdupx, jdupx2, jdup2, jcat, jset1, jset2, jkill, List.getElem?_cons_zero, List.getElem?_cons_succ, List.set_cons_zero, List.set_cons_succ, List.length_cons, List.length_nil, Nat.reduceAdd, Nat.reduceLT, Int32.reduceToNatClampNeg, true_and, and_true, and_self, reduceCtorEq, not_false_eq_true, false_and, and_false, or_false, false_or, true_or, or_true]
  refine jk_Vg X hR d_MT_isInCheck_3 q_MT_isInCheck_3 m_MT_kingOf i_MT_kingOf e_MT_kingOf (ci := 12) rfl rfl ht h0 (c_MT_kingOf M.2.1 E _ _ _ _ _ _ ht h0 hf hm h1 w) rfl rfl ⟨Nat.le_of_ble_eq_true rfl, Nat.le_of_ble_eq_true rfl⟩ (c' := 0) rfl (s' := 0) rfl ⟨Nat.le_of_ble_eq_true rfl, Nat.le_of_ble_eq_true rfl⟩ (Nat.le_of_ble_eq_true rfl) (pc' := 6) rfl ?_
  rintro _ _ _ ⟨j, hj, rfl, rfl, rfl⟩
  simp only [Option.toList_some, List.cons_append, List.nil_append]
  refine jrun_ok jC X k_MT_isInCheck_6 6 _ _ _ o_MT_isInCheck_6 ?_
  simp only [k_MT_isInCheck_6, jrun, jstep, jldi, jldl, jlda, j1, j2, jl1, jl2, jli, ja1, jbr, jald, jast, jlald, jlast, jalen, jget, jput, jfit, jdup, jdupx, jdupx2, jdup2, jcat, jset1, jset2, jkill, List.getElem?_cons_zero, List.getElem?_cons_succ, List.set_cons_zero, List.set_cons_succ, List.length_cons, List.length_nil, Nat.reduceAdd, Nat.reduceLT, Int32.reduceToNatClampNeg, true_and, and_true, and_self, reduceCtorEq, not_false_eq_true, false_and, and_false, or_false, false_or, true_or, or_true]
  refine jk_VB X hR d_MT_isInCheck_9 q_MT_isInCheck_9 m_MT_isAttacked i_MT_isAttacked e_MT_isAttacked (ci := 12) rfl rfl ht h0 (c_MT_isAttacked M.2.1 E _ _ _ _ _ _ ht h0 hf hm h1 j hj _) rfl rfl ⟨Nat.le_of_ble_eq_true rfl, Nat.le_of_ble_eq_true rfl⟩ ⟨rfl, rfl⟩ ⟨Nat.le_of_ble_eq_true rfl, Nat.le_of_ble_eq_true rfl⟩ (Nat.le_of_ble_eq_true rfl) (pc' := 12) rfl ?_
  intro b hb
  exact jk_iret X d_MT_isInCheck_12 hr (bo_n hb) (Nat.le_refl _) (Nat.le_refl _) ⟨_, hb, rfl, rfl, rfl⟩
set_option maxRecDepth 100000 in
set_option maxHeartbeats 4000000 in
theorem c_MT_isTaking (l : Launch) (E : jE) (σ : Nat → jcell) (n : Nat) (t m : Nat) (fs : List jv) (men : Nat → Int32) (ht : t < n) (h0 : σ t = .inr (12, fs)) (hf : fs[24]? = some (.inr (.inr (some (.inl m))))) (hm : m < n) (h1 : σ m = .inl (.int, 64, .inl men)) (mv : Int32) (hfr : vp_in (mv - mv / 64 * 64) 64) (hto : vp_in (mv / 64 - mv / 64 / 64 * 64) 64) : jMet l E jcl jtb lw_tbl y_MT_isTaking { frames := 1, cells := 0, slots := 0, locals := 40 } [.inr (.inr (some (.inl (t)))), .inl mv] σ n (fun r σ' n' => poB σ n r σ' n') := by
  refine jMet_of (hY := rfl) false (fun h => by cases h) (by decide) (Nat.le_of_ble_eq_true rfl) [some (.inr (.inr (some (.inl (t))))), some (.inl mv), none, none] rfl ?_
  intro M hl hR X hr
  have C51 : ∀ (s0 : Int32), (s0 = 0 ∨ s0 = 1) → jJ E jcl 4 M (jQ E jcl M (fun r σ' n' => poB σ n r σ' n') 0 0) n 0 0 51 [some (.inr (.inr (some (.inl (t))))), some (.inl mv), some (.inl (mv - mv / 64 * 64)), some (.inl (mv / 64 - mv / 64 / 64 * 64))] [.inl s0] σ := by
    intro s0 c0
    exact jk_iret X d_MT_isTaking_51 hr (by first | rfl | exact bo_n (by assumption)) (Nat.le_refl _) (Nat.le_refl _) ⟨_, (by first | exact Or.inl rfl | exact Or.inr rfl | assumption), rfl, rfl, rfl⟩
  have C50 : jJ E jcl 4 M (jQ E jcl M (fun r σ' n' => poB σ n r σ' n') 0 0) n 0 0 50 [some (.inr (.inr (some (.inl (t))))), some (.inl mv), some (.inl (mv - mv / 64 * 64)), some (.inl (mv / 64 - mv / 64 / 64 * 64))] [] σ := by
    refine jrun_ok jC X k_MT_isTaking_50 50 _ _ _ o_MT_isTaking_50 ?_
    simp only [k_MT_isTaking_50, jrun, jstep, jldi, jldl, jlda, j1, j2, jl1, jl2, jli, ja1, jbr, jald, jast, jlald, jlast, jalen, jget, jput, jfit, jdup, jdupx, jdupx2, jdup2, jcat, jset1, jset2, jkill, List.getElem?_cons_zero, List.getElem?_cons_succ, List.set_cons_zero, List.set_cons_succ, List.length_cons, List.length_nil, Nat.reduceAdd, Nat.reduceLT, Int32.reduceToNatClampNeg, true_and, and_true, and_self, reduceCtorEq, not_false_eq_true, false_and, and_false, or_false, false_or, true_or, or_true, h0, hf, h1, ht, hm]
    exact C51 _ (by first | assumption | omega | (simp_all; done) | decide)
  have C46 : jJ E jcl 4 M (jQ E jcl M (fun r σ' n' => poB σ n r σ' n') 0 0) n 0 0 46 [some (.inr (.inr (some (.inl (t))))), some (.inl mv), some (.inl (mv - mv / 64 * 64)), some (.inl (mv / 64 - mv / 64 / 64 * 64))] [] σ := by
    refine jrun_ok jC X k_MT_isTaking_46 46 _ _ _ o_MT_isTaking_46 ?_
    simp only [k_MT_isTaking_46, jrun, jstep, jldi, jldl, jlda, j1, j2, jl1, jl2, jli, ja1, jbr, jald, jast, jlald, jlast, jalen, jget, jput, jfit, jdup, jdupx, jdupx2, jdup2, jcat, jset1, jset2, jkill, List.getElem?_cons_zero, List.getElem?_cons_succ, List.set_cons_zero, List.set_cons_succ, List.length_cons, List.length_nil, Nat.reduceAdd, Nat.reduceLT, Int32.reduceToNatClampNeg, true_and, and_true, and_self, reduceCtorEq, not_false_eq_true, false_and, and_false, or_false, false_or, true_or, or_true, h0, hf, h1, ht, hm]
    exact C51 _ (by first | assumption | omega | (simp_all; done) | decide)
  have C31 : ∀ (s0 : Int32), jJ E jcl 4 M (jQ E jcl M (fun r σ' n' => poB σ n r σ' n') 0 0) n 0 0 31 [some (.inr (.inr (some (.inl (t))))), some (.inl mv), some (.inl (mv - mv / 64 * 64)), some (.inl (mv / 64 - mv / 64 / 64 * 64))] [.inl s0] σ := by
    intro s0
    refine jrun_ok jC X k_MT_isTaking_31 31 _ _ _ o_MT_isTaking_31 ?_
    simp only [k_MT_isTaking_31, jrun, jstep, jldi, jldl, jlda, j1, j2, jl1, jl2, jli, ja1, jbr, jald, jast, jlald, jlast, jalen, jget, jput, jfit, jdup, jdupx, jdupx2, jdup2, jcat, jset1, jset2, jkill, List.getElem?_cons_zero, List.getElem?_cons_succ, List.set_cons_zero, List.set_cons_succ, List.length_cons, List.length_nil, Nat.reduceAdd, Nat.reduceLT, Int32.reduceToNatClampNeg, true_and, and_true, and_self, reduceCtorEq, not_false_eq_true, false_and, and_false, or_false, false_or, true_or, or_true, h0, hf, h1, ht, hm]
    exact ⟨fun h32 => C50, fun h32 => ⟨by decide, ⟨by decide, ⟨fun h43 => C50, fun h43 => C46⟩⟩⟩⟩
  refine jrun_ok jC X k_MT_isTaking_0 0 _ _ _ o_MT_isTaking_0 ?_
  simp only [k_MT_isTaking_0, jrun, jstep, jldi, jldl, jlda, j1, j2, jl1, jl2, jli, ja1, jbr, jald, jast, jlald, jlast, jalen, jget, jput, jfit, jdup, jdupx, jdupx2, jdup2, jcat, jset1, jset2, jkill, List.getElem?_cons_zero, List.getElem?_cons_succ, List.set_cons_zero, List.set_cons_succ, List.length_cons, List.length_nil, Nat.reduceAdd, Nat.reduceLT, Int32.reduceToNatClampNeg, true_and, and_true, and_self, reduceCtorEq, not_false_eq_true, false_and, and_false, or_false, false_or, true_or, or_true, h0, hf, h1, ht, hm]
  refine ⟨by decide, ⟨by decide, ⟨by decide, ⟨hto, ⟨fun h19 => C46, fun h19 => ⟨hfr, ?_⟩⟩⟩⟩⟩⟩
  refine jk_Si X hR d_MT_isTaking_28 q_MT_isTaking_28 m_MT_kind s_MT_kind (c_MT_kind M.2.1 E _ _ _) rfl rfl ⟨Nat.le_of_ble_eq_true rfl, Nat.le_of_ble_eq_true rfl⟩ ⟨rfl, rfl⟩ ⟨Nat.le_of_ble_eq_true rfl, Nat.le_of_ble_eq_true rfl⟩ (Nat.le_of_ble_eq_true rfl) (pc' := 31) rfl ?_
  exact C31 _
set_option maxRecDepth 100000 in
set_option maxHeartbeats 4000000 in
theorem c_MT_isClear (l : Launch) (E : jE) (σ : Nat → jcell) (n : Nat) (t m : Nat) (fs : List jv) (men : Nat → Int32) (ht : t < n) (h0 : σ t = .inr (12, fs)) (hf : fs[24]? = some (.inr (.inr (some (.inl m))))) (hm : m < n) (h1 : σ m = .inl (.int, 64, .inl men)) (x y : Int32) (a b : Nat) (hx : x = nI a) (hy : y = nI b) (ha : a ≤ 65) (hb : b < 64) : jMet l E jcl jtb lw_tbl y_MT_isClear { frames := 0, cells := 0, slots := 0, locals := 0 } [.inr (.inr (some (.inl (t)))), .inl x, .inl y] σ n (fun r σ' n' => poB σ n r σ' n') := by
  refine jMet_of (hY := rfl) false (fun h => by cases h) (by decide) (Nat.le_of_ble_eq_true rfl) [some (.inr (.inr (some (.inl (t))))), some (.inl x), some (.inl y), none, none] rfl ?_
  intro M hl hR X hr
  subst hx; subst hy
  have hloop : ∀ (u i : Nat) (v3 : Int32), b + 1 - i ≤ u → i ≤ 65 → (v3 = 0 ∨ v3 = 1) → jJ E jcl 5 M (jQ E jcl M (fun r σ' n' => poB σ n r σ' n') 0 0) n 0 0 5 [some (.inr (.inr (some (.inl (t))))), some (.inl (nI a)), some (.inl (nI b)), some (.inl v3), some (.inl (nI i))] [] σ := by
    intro u
    induction u with
    | zero =>
      intro i v3 hu hi c0
      have C37 : ∀ (v3 : Int32), (v3 = 0 ∨ v3 = 1) → jJ E jcl 5 M (jQ E jcl M (fun r σ' n' => poB σ n r σ' n') 0 0) n 0 0 37 [some (.inr (.inr (some (.inl (t))))), some (.inl (nI a)), some (.inl (nI b)), some (.inl v3), some (.inl (nI i))] [] σ := by
        intro v3 c0
        refine jrun_ok jC X k_MT_isClear_37 37 _ _ _ o_MT_isClear_37 ?_
        simp only [k_MT_isClear_37, jrun, jstep, jldi, jldl, jlda, j1, j2, jl1, jl2, jli, ja1, jbr, jald, jast, jlald, jlast, jalen, jget, jput, jfit, jdup, jdupx, jdupx2, jdup2, jcat, jset1, jset2, jkill, List.getElem?_cons_zero, List.getElem?_cons_succ, List.set_cons_zero, List.set_cons_succ, List.length_cons, List.length_nil, Nat.reduceAdd, Nat.reduceLT, Int32.reduceToNatClampNeg, true_and, and_true, and_self, reduceCtorEq, not_false_eq_true, false_and, and_false, or_false, false_or, true_or, or_true, h0, hf, h1, ht, hm]
        refine ?_
        exact jk_iret X d_MT_isClear_38 hr (bo_n (by assumption)) (Nat.le_refl _) (Nat.le_refl _) ⟨_, (by assumption), rfl, rfl, rfl⟩
      refine jrun_ok jC X k_MT_isClear_5 5 _ _ _ o_MT_isClear_5 ?_
      simp only [k_MT_isClear_5, jrun, jstep, jldi, jldl, jlda, j1, j2, jl1, jl2, jli, ja1, jbr, jald, jast, jlald, jlast, jalen, jget, jput, jfit, jdup, jdupx, jdupx2, jdup2, jcat, jset1, jset2, jkill, List.getElem?_cons_zero, List.getElem?_cons_succ, List.set_cons_zero, List.set_cons_succ, List.length_cons, List.length_nil, Nat.reduceAdd, Nat.reduceLT, Int32.reduceToNatClampNeg, true_and, and_true, and_self, reduceCtorEq, not_false_eq_true, false_and, and_false, or_false, false_or, true_or, or_true, h0, hf, h1, ht, hm]
      refine ⟨fun _ => C37 _ c0, fun h => absurd ?_ h⟩
      rw [nI_ltI (by omega) (by omega)]; omega
    | succ u ih =>
      intro i v3 hu hi c0
      have C37 : ∀ (v3 : Int32), (v3 = 0 ∨ v3 = 1) → jJ E jcl 5 M (jQ E jcl M (fun r σ' n' => poB σ n r σ' n') 0 0) n 0 0 37 [some (.inr (.inr (some (.inl (t))))), some (.inl (nI a)), some (.inl (nI b)), some (.inl v3), some (.inl (nI i))] [] σ := by
        intro v3 c0
        refine jrun_ok jC X k_MT_isClear_37 37 _ _ _ o_MT_isClear_37 ?_
        simp only [k_MT_isClear_37, jrun, jstep, jldi, jldl, jlda, j1, j2, jl1, jl2, jli, ja1, jbr, jald, jast, jlald, jlast, jalen, jget, jput, jfit, jdup, jdupx, jdupx2, jdup2, jcat, jset1, jset2, jkill, List.getElem?_cons_zero, List.getElem?_cons_succ, List.set_cons_zero, List.set_cons_succ, List.length_cons, List.length_nil, Nat.reduceAdd, Nat.reduceLT, Int32.reduceToNatClampNeg, true_and, and_true, and_self, reduceCtorEq, not_false_eq_true, false_and, and_false, or_false, false_or, true_or, or_true, h0, hf, h1, ht, hm]
        refine ?_
        exact jk_iret X d_MT_isClear_38 hr (bo_n (by assumption)) (Nat.le_refl _) (Nat.le_refl _) ⟨_, (by assumption), rfl, rfl, rfl⟩
      by_cases hib : b < i
      · refine jrun_ok jC X k_MT_isClear_5 5 _ _ _ o_MT_isClear_5 ?_
        simp only [k_MT_isClear_5, jrun, jstep, jldi, jldl, jlda, j1, j2, jl1, jl2, jli, ja1, jbr, jald, jast, jlald, jlast, jalen, jget, jput, jfit, jdup, jdupx, jdupx2, jdup2, jcat, jset1, jset2, jkill, List.getElem?_cons_zero, List.getElem?_cons_succ, List.set_cons_zero, List.set_cons_succ, List.length_cons, List.length_nil, Nat.reduceAdd, Nat.reduceLT, Int32.reduceToNatClampNeg, true_and, and_true, and_self, reduceCtorEq, not_false_eq_true, false_and, and_false, or_false, false_or, true_or, or_true, h0, hf, h1, ht, hm]
        refine ⟨fun _ => C37 _ c0, fun h => absurd ?_ h⟩
        rw [nI_ltI (by omega) (by omega)]; exact hib
      have C30 : ∀ (v3 s0 : Int32), (v3 = 0 ∨ v3 = 1) → (s0 = 0 ∨ s0 = 1) → jJ E jcl 5 M (jQ E jcl M (fun r σ' n' => poB σ n r σ' n') 0 0) n 0 0 30 [some (.inr (.inr (some (.inl (t))))), some (.inl (nI a)), some (.inl (nI b)), some (.inl v3), some (.inl (nI i))] [.inl s0] σ := by
        intro v3 s0 c0 c1
        refine jrun_ok jC X k_MT_isClear_30 30 _ _ _ o_MT_isClear_30 ?_
        simp only [k_MT_isClear_30, jrun, jstep, jldi, jldl, jlda, j1, j2, jl1, jl2, jli, ja1, jbr, jald, jast, jlald, jlast, jalen, jget, jput, jfit, jdup, jdupx, jdupx2, jdup2, jcat, jset1, jset2, jkill, List.getElem?_cons_zero, List.getElem?_cons_succ, List.set_cons_zero, List.set_cons_succ, List.length_cons, List.length_nil, Nat.reduceAdd, Nat.reduceLT, Int32.reduceToNatClampNeg, true_and, and_true, and_self, reduceCtorEq, not_false_eq_true, false_and, and_false, or_false, false_or, true_or, or_true]
        rw [nI_1]
        exact ih (i + 1) s0 (by omega) (by omega) c1
      have C29 : ∀ (v3 : Int32), (v3 = 0 ∨ v3 = 1) → jJ E jcl 5 M (jQ E jcl M (fun r σ' n' => poB σ n r σ' n') 0 0) n 0 0 29 [some (.inr (.inr (some (.inl (t))))), some (.inl (nI a)), some (.inl (nI b)), some (.inl v3), some (.inl (nI i))] [] σ := by
        intro v3 c0
        refine jrun_ok jC X k_MT_isClear_29 29 _ _ _ o_MT_isClear_29 ?_
        simp only [k_MT_isClear_29, jrun, jstep, jldi, jldl, jlda, j1, j2, jl1, jl2, jli, ja1, jbr, jald, jast, jlald, jlast, jalen, jget, jput, jfit, jdup, jdupx, jdupx2, jdup2, jcat, jset1, jset2, jkill, List.getElem?_cons_zero, List.getElem?_cons_succ, List.set_cons_zero, List.set_cons_succ, List.length_cons, List.length_nil, Nat.reduceAdd, Nat.reduceLT, Int32.reduceToNatClampNeg, true_and, and_true, and_self, reduceCtorEq, not_false_eq_true, false_and, and_false, or_false, false_or, true_or, or_true, h0, hf, h1, ht, hm]
        exact C30 _ _ (by assumption) (by first | assumption | exact Or.inl rfl | exact Or.inr rfl)
      refine jrun_ok jC X k_MT_isClear_5 5 _ _ _ o_MT_isClear_5 ?_
      simp only [k_MT_isClear_5, jrun, jstep, jldi, jldl, jlda, j1, j2, jl1, jl2, jli, ja1, jbr, jald, jast, jlald, jlast, jalen, jget, jput, jfit, jdup, jdupx, jdupx2, jdup2, jcat, jset1, jset2, jkill, List.getElem?_cons_zero, List.getElem?_cons_succ, List.set_cons_zero, List.set_cons_succ, List.length_cons, List.length_nil, Nat.reduceAdd, Nat.reduceLT, Int32.reduceToNatClampNeg, true_and, and_true, and_self, reduceCtorEq, not_false_eq_true, false_and, and_false, or_false, false_or, true_or, or_true, h0, hf, h1, ht, hm]
      exact ⟨fun h8 => C37 _ c0, fun h8 => ⟨fun h12 => C29 _ (by first | assumption | omega | (simp_all; done) | decide), fun h12 => ⟨(vp_in_nI (by omega) (by omega)), ⟨fun h22 => C29 _ (by first | assumption | omega | (simp_all; done) | decide), fun h22 => C30 _ _ (by assumption) (by first | assumption | exact Or.inl rfl | exact Or.inr rfl)⟩⟩⟩⟩
  refine jrun_ok jC X k_MT_isClear_0 0 _ _ _ o_MT_isClear_0 ?_
  simp only [k_MT_isClear_0, jrun, jstep, jldi, jldl, jlda, j1, j2, jl1, jl2, jli, ja1, jbr, jald, jast, jlald, jlast, jalen, jget, jput, jfit, jdup, jdupx, jdupx2, jdup2, jcat, jset1, jset2, jkill, List.getElem?_cons_zero, List.getElem?_cons_succ, List.set_cons_zero, List.set_cons_succ, List.length_cons, List.length_nil, Nat.reduceAdd, Nat.reduceLT, Int32.reduceToNatClampNeg, true_and, and_true, and_self, reduceCtorEq, not_false_eq_true, false_and, and_false, or_false, false_or, true_or, or_true]
  exact hloop (b + 1) a 1 (by omega) ha (Or.inr rfl)

