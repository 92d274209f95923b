theorem va_self {α : Type} (f : Nat → α) (k : Nat) : va_up f k (f k) = f := by
  funext j
  unfold va_up
  split
  next h => rw [h]
  next => rfl
section TXC
variable {σ : Nat → jcell} {a n : Nat} {F : Nat → Int32} {A : Nat → Nat → Int32} {sd ri pa cl nu mv : Int32} {men km kr li : Nat → Int32}
theorem ta_mtf : mtf (ta_fl n F) sd ri pa cl nu mv = ta_fl n (va_up (va_up (va_up (va_up (va_up (va_up F 25 sd) 26 ri) 27 pa) 28 cl) 29 nu) 33 mv) := by
  simp [mtf, ta_fl, va_up]
theorem txS_ta (ha : a < n) : txS (txA σ a n F A) (a, n + 19, n + 20, n + 21, n + 22) (ta_fl n F) sd ri pa cl nu mv men km kr li = txA σ a n (va_up (va_up (va_up (va_up (va_up (va_up F 25 sd) 26 ri) 27 pa) 28 cl) 29 nu) 33 mv) (va_up (va_up (va_up (va_up A 19 men) 20 km) 21 kr) 22 li) := by
  funext p
  unfold txS
  dsimp only
  by_cases h0 : p = a
  · subst h0
    rw [if_pos rfl, ta_a, ta_mtf]
  rw [if_neg h0]
  by_cases h1 : p = n + 19
  · subst h1
    rw [if_pos rfl, ta_r19 ha]
    simp [va_up]
  rw [if_neg h1]
  by_cases h2 : p = n + 20
  · subst h2
    rw [if_pos rfl, ta_r20 ha]
    simp [va_up]
  rw [if_neg h2]
  by_cases h3 : p = n + 21
  · subst h3
    rw [if_pos rfl, ta_r21 ha]
    simp [va_up]
  rw [if_neg h3]
  by_cases h4 : p = n + 22
  · subst h4
    rw [if_pos rfl, ta_r22 ha]
    simp [va_up]
  rw [if_neg h4]
  unfold txA
  rw [if_neg h0, if_neg h0]
  by_cases h5 : n ≤ p ∧ p < n + 25
  · rw [if_pos h5, if_pos h5]
    have e1 : ¬ p - n = 19 := by omega
    have e2 : ¬ p - n = 20 := by omega
    have e3 : ¬ p - n = 21 := by omega
    have e4 : ¬ p - n = 22 := by omega
    simp [va_up, e1, e2, e3, e4]
  · rw [if_neg h5, if_neg h5]
theorem ta_id (ha : a < n) : txS (txA σ a n F A) (a, n + 19, n + 20, n + 21, n + 22) (ta_fl n F) (F 25) (F 26) (F 27) (F 28) (F 29) (F 33) (A 19) (A 20) (A 21) (A 22) = txA σ a n F A := by
  rw [txS_ta ha]
  congr 1
  · funext j
    simp only [va_up]
    repeat' split
    all_goals simp_all
  · funext j
    simp only [va_up]
    repeat' split
    all_goals simp_all
end TXC
theorem c_MT_findMovesA (l : Launch) (E : jE) (σ : Nat → jcell) (n : Nat) (a n0 : Nat) (hab : a < n0) (hn0 : n0 + 25 ≤ n) (F : Nat → Int32) (A : Nat → Nat → Int32) (h25 : F 25 = 0 ∨ F 25 = 1) : jMet l E jcl jtb lw_tbl y_MT_findMoves { frames := 5, cells := 0, slots := 0, locals := 220 } [.inr (.inr (some (.inl (a))))] (txA σ a n0 F A) n (fun r σ' n' => ∃ F' A', r = none ∧ n' = n ∧ σ' = (txA σ a n0 F' A')) := by
  have h := c_MT_findMoves l E (txA σ a n0 F A) n (a, n0 + 19, n0 + 20, n0 + 21, n0 + 22) (ta_fl n0 F) ⟨⟨by show a < n0 + 19; omega, by show n0 + 19 < n0 + 20; omega, by show n0 + 20 < n0 + 21; omega, by show n0 + 21 < n0 + 22; omega, by show n0 + 22 < n; omega⟩, rfl, rfl, rfl, rfl, rfl⟩ (F 25) (F 26) (F 27) (F 28) (F 29) (F 33) (A 19) (A 20) (A 21) (A 22) h25
  rw [ta_id hab] at h
  refine jMet_post h ?_
  rintro r σ' n' ⟨q, m2, k2, r2, l2, -, -, h1, h2, h3⟩
  exact ⟨_, _, h1, h2, h3.trans (txS_ta hab)⟩
set_option maxRecDepth 100000 in
set_option maxHeartbeats 4000000 in
/-- the beginning of the first game is placed -/
theorem c_MT_place_00 (l : Launch) (E : jE) (σ : Nat → jcell) (n : Nat) (a n0 : Nat) (hab : a < n0) (hn0 : n0 + 25 ≤ n) (F : Nat → Int32) (A : Nat → Nat → Int32) (hz : A 12 0 = 0) : jMet l E jcl jtb lw_tbl y_MT_place { frames := 6, cells := 0, slots := 0, locals := 280 } [.inr (.inr (some (.inl (a)))), .inl 0, .inl 0] (txA σ a n0 F A) n (fun r σ' n' => ∃ F' A', r = none ∧ n' = n ∧ σ' = (txA σ a n0 F' A')) := by
  refine jMet_of (hY := rfl) false (fun h => by cases h) (by decide) (Nat.le_of_ble_eq_true rfl) [some (.inr (.inr (some (.inl (a))))), some (.inl 0), some (.inl 0), none, none] rfl ?_
  intro M hl hR X hr
  have hb11 : (n0 + 11 < n) = True := eq_true (by omega)
  have hb12 : (n0 + 12 < n) = True := eq_true (by omega)
  have hb19 : (n0 + 19 < n) = True := eq_true (by omega)
  have haa : (a < n) = True := eq_true (by omega)
  have z0 : vp_in 0 10 := by unfold vp_in; decide
  have z1 : vp_in 1 10 := by unfold vp_in; decide
  have z2 : vp_in 2 10 := by unfold vp_in; decide
  have z3 : vp_in 3 10 := by unfold vp_in; decide
  have z4 : vp_in 4 10 := by unfold vp_in; decide
  have hloop : ∀ (u i : Nat) (A : Nat → Nat → Int32), i + u = 64 → A 12 0 = 0 → jJ E jcl 5 M (jQ E jcl M (fun r σ' n' => ∃ F' A', r = none ∧ n' = n ∧ σ' = (txA σ a n0 F' A')) 0 0) n 0 0 42 [some (.inr (.inr (some (.inl (a))))), some (.inl 0), some (.inl 0), some (.inl 0), some (.inl (nI i))] [] (txA σ a n0 F A) := by
    intro u
    induction u with
    | zero =>
      intro i A hi hA
      obtain rfl : i = 64 := by omega
      refine jrun_ok jC X k_MT_place_42 42 _ _ _ o_MT_place_42 ?_
      simp only [k_MT_place_42, jrun, jstep, jldi, jldl, jlda, j1, j2, jl1, jl2, jli, ja1, jbr, jald, jast, jlald, jlast, jalen, jget, jput, jfit, jdup, jdupx, jdupx2, jdup2, jcat, jset1, jset2, jkill, List.getElem?_cons_zero, List.getElem?_cons_succ, List.set_cons_zero, List.set_cons_succ, List.length_cons, List.length_nil, Nat.reduceAdd, Nat.reduceLT, Int32.reduceToNatClampNeg, true_and, and_true, and_self, reduceCtorEq, not_false_eq_true, false_and, and_false, or_false, false_or, true_or, or_true, ta_a, ta_ua, ta_l, vp_nar_int32, haa, ta_r11 hab, ta_u11 hab, ta_f16, ta_r12 hab, ta_u12 hab, ta_f17, ta_r19 hab, ta_u19 hab, ta_f24, ta_f25, ta_s25, ta_f26, ta_s26, ta_f27, ta_s27, ta_f28, ta_s28, ta_f29, ta_s29, hb11, hb12, hb19]
      refine ⟨fun _ => ?_, fun h => absurd (by decide) h⟩
      refine jrun_ok jC X k_MT_place_74 74 _ _ _ o_MT_place_74 ?_
      simp only [k_MT_place_74, jrun, jstep, jldi, jldl, jlda, j1, j2, jl1, jl2, jli, ja1, jbr, jald, jast, jlald, jlast, jalen, jget, jput, jfit, jdup, jdupx, jdupx2, jdup2, jcat, jset1, jset2, jkill, List.getElem?_cons_zero, List.getElem?_cons_succ, List.set_cons_zero, List.set_cons_succ, List.length_cons, List.length_nil, Nat.reduceAdd, Nat.reduceLT, Int32.reduceToNatClampNeg, true_and, and_true, and_self, reduceCtorEq, not_false_eq_true, false_and, and_false, or_false, false_or, true_or, or_true, ta_a, ta_ua, ta_l, vp_nar_int32, haa, ta_r11 hab, ta_u11 hab, ta_f16, ta_r12 hab, ta_u12 hab, ta_f17, ta_r19 hab, ta_u19 hab, ta_f24, ta_f25, ta_s25, ta_f26, ta_s26, ta_f27, ta_s27, ta_f28, ta_s28, ta_f29, ta_s29, hb11, hb12, hb19, Int32.reduceMul, Int32.reduceAdd, Int32.zero_add, Int32.reduceSub, z0, z1, z2, z3, z4]
      refine jrun_ok jC X k_MT_place_147 147 _ _ _ o_MT_place_147 ?_
      simp only [k_MT_place_147, jrun, jstep, jldi, jldl, jlda, j1, j2, jl1, jl2, jli, ja1, jbr, jald, jast, jlald, jlast, jalen, jget, jput, jfit, jdup, jdupx, jdupx2, jdup2, jcat, jset1, jset2, jkill, List.getElem?_cons_zero, List.getElem?_cons_succ, List.set_cons_zero, List.set_cons_succ, List.length_cons, List.length_nil, Nat.reduceAdd, Nat.reduceLT, Int32.reduceToNatClampNeg, true_and, and_true, and_self, reduceCtorEq, not_false_eq_true, false_and, and_false, or_false, false_or, true_or, or_true, ta_a, ta_ua, ta_l, vp_nar_int32, haa, ta_r11 hab, ta_u11 hab, ta_f16, ta_r12 hab, ta_u12 hab, ta_f17, ta_r19 hab, ta_u19 hab, ta_f24, ta_f25, ta_s25, ta_f26, ta_s26, ta_f27, ta_s27, ta_f28, ta_s28, ta_f29, ta_s29, hb11, hb12, hb19, Int32.reduceMul, Int32.reduceAdd, Int32.zero_add, Int32.reduceSub]
      refine ⟨fun _ => ?_, fun h => absurd (by decide) h⟩
      refine jrun_ok jC X k_MT_place_180 180 _ _ _ o_MT_place_180 ?_
      simp only [k_MT_place_180, jrun, jstep, jldi, jldl, jlda, j1, j2, jl1, jl2, jli, ja1, jbr, jald, jast, jlald, jlast, jalen, jget, jput, jfit, jdup, jdupx, jdupx2, jdup2, jcat, jset1, jset2, jkill, List.getElem?_cons_zero, List.getElem?_cons_succ, List.set_cons_zero, List.set_cons_succ, List.length_cons, List.length_nil, Nat.reduceAdd, Nat.reduceLT, Int32.reduceToNatClampNeg, true_and, and_true, and_self, reduceCtorEq, not_false_eq_true, false_and, and_false, or_false, false_or, true_or, or_true]
      refine jk_Vg X hR d_MT_place_181 q_MT_place_181 m_MT_findMoves i_MT_findMoves e_MT_findMoves (ci := 12) rfl rfl (by omega) ta_a (c_MT_findMovesA M.2.1 E _ _ _ _ hab hn0 _ _ (by left; simp [va_up, hA])) rfl rfl ⟨Nat.le_of_ble_eq_true rfl, Nat.le_of_ble_eq_true rfl⟩ (c' := 0) rfl (s' := 0) rfl ⟨Nat.le_of_ble_eq_true rfl, Nat.le_of_ble_eq_true rfl⟩ (Nat.le_of_ble_eq_true rfl) (pc' := 184) rfl ?_
      rintro _ _ _ ⟨F2, A2, rfl, hn2, rfl⟩
      obtain rfl : n = _ := hn2.symm
      simp only [Option.toList_none, List.nil_append]
      exact jk_vret X d_MT_place_184 hr (Nat.le_refl _) (Nat.le_refl _) ⟨F2, A2, rfl, rfl, rfl⟩
    | succ u ih =>
      intro i A hi hA
      have hge : ¬ (64 : Int32) ≤ nI i := by
        rw [show (64 : Int32) = nI 64 from rfl, nI_leI (by omega) (by omega)]; omega
      refine jrun_ok jC X k_MT_place_42 42 _ _ _ o_MT_place_42 ?_
      simp only [k_MT_place_42, jrun, jstep, jldi, jldl, jlda, j1, j2, jl1, jl2, jli, ja1, jbr, jald, jast, jlald, jlast, jalen, jget, jput, jfit, jdup, jdupx, jdupx2, jdup2, jcat, jset1, jset2, jkill, List.getElem?_cons_zero, List.getElem?_cons_succ, List.set_cons_zero, List.set_cons_succ, List.length_cons, List.length_nil, Nat.reduceAdd, Nat.reduceLT, Int32.reduceToNatClampNeg, true_and, and_true, and_self, reduceCtorEq, not_false_eq_true, false_and, and_false, or_false, false_or, true_or, or_true, ta_a, ta_ua, ta_l, vp_nar_int32, haa, ta_r11 hab, ta_u11 hab, ta_f16, ta_r12 hab, ta_u12 hab, ta_f17, ta_r19 hab, ta_u19 hab, ta_f24, ta_f25, ta_s25, ta_f26, ta_s26, ta_f27, ta_s27, ta_f28, ta_s28, ta_f29, ta_s29, hb11, hb12, hb19, Int32.reduceMul, Int32.reduceAdd, Int32.zero_add, Int32.reduceSub]
      refine ⟨fun h => absurd h hge, fun _ => ⟨vp_in_nI (by omega) (by omega), vp_in_nI (by omega) (by omega), ?_⟩⟩
      rw [nI_1]
      exact ih (i + 1) _ (by omega) (by simp [va_up, hA])
  refine jrun_ok jC X k_MT_place_0 0 _ _ _ o_MT_place_0 ?_
  simp only [k_MT_place_0, jrun, jstep, jldi, jldl, jlda, j1, j2, jl1, jl2, jli, ja1, jbr, jald, jast, jlald, jlast, jalen, jget, jput, jfit, jdup, jdupx, jdupx2, jdup2, jcat, jset1, jset2, jkill, List.getElem?_cons_zero, List.getElem?_cons_succ, List.set_cons_zero, List.set_cons_succ, List.length_cons, List.length_nil, Nat.reduceAdd, Nat.reduceLT, Int32.reduceToNatClampNeg, true_and, and_true, and_self, reduceCtorEq, not_false_eq_true, false_and, and_false, or_false, false_or, true_or, or_true]
  refine jrun_ok jC X k_MT_place_5 5 _ _ _ o_MT_place_5 ?_
  simp only [k_MT_place_5, jrun, jstep, jldi, jldl, jlda, j1, j2, jl1, jl2, jli, ja1, jbr, jald, jast, jlald, jlast, jalen, jget, jput, jfit, jdup, jdupx, jdupx2, jdup2, jcat, jset1, jset2, jkill, List.getElem?_cons_zero, List.getElem?_cons_succ, List.set_cons_zero, List.set_cons_succ, List.length_cons, List.length_nil, Nat.reduceAdd, Nat.reduceLT, Int32.reduceToNatClampNeg, true_and, and_true, and_self, reduceCtorEq, not_false_eq_true, false_and, and_false, or_false, false_or, true_or, or_true]
  refine ⟨fun _ => ?_, fun h => absurd (by decide) h⟩
  refine jrun_ok jC X k_MT_place_39 39 _ _ _ o_MT_place_39 ?_
  simp only [k_MT_place_39, jrun, jstep, jldi, jldl, jlda, j1, j2, jl1, jl2, jli, ja1, jbr, jald, jast, jlald, jlast, jalen, jget, jput, jfit, jdup, jdupx, jdupx2, jdup2, jcat, jset1, jset2, jkill, List.getElem?_cons_zero, List.getElem?_cons_succ, List.set_cons_zero, List.set_cons_succ, List.length_cons, List.length_nil, Nat.reduceAdd, Nat.reduceLT, Int32.reduceToNatClampNeg, true_and, and_true, and_self, reduceCtorEq, not_false_eq_true, false_and, and_false, or_false, false_or, true_or, or_true]
  exact hloop 64 0 A (by omega) hz

