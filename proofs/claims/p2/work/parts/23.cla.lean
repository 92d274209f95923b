set_option maxRecDepth 100000 in
set_option maxHeartbeats 4000000 in
theorem c_AR_rangeCheck (l : Launch) (E : jE) (σ : Nat → jcell) (n : Nat) (x y z : Int32) (h1 : y ≤ z) (h2 : 0 ≤ y) (h3 : z ≤ x) : jMet l E jcl jtb lw_tbl y_AR_rangeCheck { frames := 0, cells := 0, slots := 0, locals := 0 } [.inl x, .inl y, .inl z] σ n (fun r σ' n' => r = none ∧ n' = n ∧ σ' = σ) := by
  refine jMet_of (hY := rfl) false (fun h => by cases h) (by decide) (Nat.le_of_ble_eq_true rfl) [some (.inl x), some (.inl y), some (.inl z)] rfl ?_
  intro M hl hR X hr
  refine jrun_ok jC X k_AR_rangeCheck_0 0 _ _ _ o_AR_rangeCheck_0 ?_
  simp only [k_AR_rangeCheck_0, jrun, jstep, jldi, jldl, jlda, j1, j2, jl1, jl2, jli, ja1, jbr, jald, jast, jlald, jlast, jalen, jget, jput, jfit, jdup, jdupx, jdupx2, jdup2, jcat, jset1, jset2, jkill, List.getElem?_cons_zero, List.getElem?_cons_succ, List.set_cons_zero, List.set_cons_succ, List.length_cons, List.length_nil, Nat.reduceAdd, Nat.reduceLT, Int32.reduceToNatClampNeg, true_and, and_true, and_self, reduceCtorEq, not_false_eq_true, false_and, and_false, or_false, false_or, true_or, or_true]
  refine ⟨fun _ => ?_, fun h => absurd h1 h⟩
  refine jrun_ok jC X k_AR_rangeCheck_46 46 _ _ _ o_AR_rangeCheck_46 ?_
  simp only [k_AR_rangeCheck_46, jrun, jstep, jldi, jldl, jlda, j1, j2, jl1, jl2, jli, ja1, jbr, jald, jast, jlald, jlast, jalen, jget, jput, jfit, jdup, jdupx, jdupx2, jdup2, jcat, jset1, jset2, jkill, List.getElem?_cons_zero, List.getElem?_cons_succ, List.set_cons_zero, List.set_cons_succ, List.length_cons, List.length_nil, Nat.reduceAdd, Nat.reduceLT, Int32.reduceToNatClampNeg, true_and, and_true, and_self, reduceCtorEq, not_false_eq_true, false_and, and_false, or_false, false_or, true_or, or_true]
  refine ⟨fun _ => ?_, fun h => absurd h2 h⟩
  refine jrun_ok jC X k_AR_rangeCheck_59 59 _ _ _ o_AR_rangeCheck_59 ?_
  simp only [k_AR_rangeCheck_59, jrun, jstep, jldi, jldl, jlda, j1, j2, jl1, jl2, jli, ja1, jbr, jald, jast, jlald, jlast, jalen, jget, jput, jfit, jdup, jdupx, jdupx2, jdup2, jcat, jset1, jset2, jkill, List.getElem?_cons_zero, List.getElem?_cons_succ, List.set_cons_zero, List.set_cons_succ, List.length_cons, List.length_nil, Nat.reduceAdd, Nat.reduceLT, Int32.reduceToNatClampNeg, true_and, and_true, and_self, reduceCtorEq, not_false_eq_true, false_and, and_false, or_false, false_or, true_or, or_true]
  refine ⟨fun _ => ?_, fun h => absurd h3 h⟩
  exact jk_vret X d_AR_rangeCheck_73 hr (Nat.le_refl _) (Nat.le_refl _) ⟨rfl, rfl, rfl⟩
theorem upd_s {f : Nat → Int32} {i : Nat} {v : Int32} : upd f i v i = v := by simp [upd]
theorem upd_o {f : Nat → Int32} {i j : Nat} {v : Int32} (h : j ≠ i) : upd f i v j = f j := by simp [upd, h]
theorem updL_s {f : Nat → Int64} {i : Nat} {v : Int64} : vp_updL f i v i = v := by simp [vp_updL]
theorem updL_o {f : Nat → Int64} {i j : Nat} {v : Int64} (h : j ≠ i) : vp_updL f i v j = f j := by simp [vp_updL, h]
set_option maxRecDepth 100000 in
set_option maxHeartbeats 4000000 in
theorem c_AR_fill2 (l : Launch) (E : jE) (σ : Nat → jcell) (n : Nat) (p : Nat) (hp : p < n) (len : Nat) (hl2 : len < 2 ^ 31) (f : Nat → Int32) (h : σ p = .inl (.int, len, .inl f)) (v : Int32) : jMet l E jcl jtb lw_tbl y_AR_fill2 { frames := 0, cells := 0, slots := 0, locals := 0 } [.inr (.inr (some (.inl (p)))), .inl v] σ n (fun r σ' n' => ∃ g : Nat → Int32, r = none ∧ n' = n ∧ σ' = jup σ p (.inl (.int, len, .inl g)) ∧ ∀ j, j < len → g j = v) := by
  refine jMet_of (hY := rfl) false (fun h => by cases h) (by decide) (Nat.le_of_ble_eq_true rfl) [some (.inr (.inr (some (.inl (p))))), some (.inl v), none, none] rfl ?_
  intro M hl hR X hr
  have hpn : (p < n) = True := eq_true hp
  have hj2 : (FieldType.int ∈ jtys) = True := eq_true (by decide)
  have hloop : ∀ (u i : Nat) (g : Nat → Int32), i + u = len → (∀ j, j < i → g j = v) → jJ E jcl 4 M (jQ E jcl M (fun r σ' n' => ∃ g : Nat → Int32, r = none ∧ n' = n ∧ σ' = jup σ p (.inl (.int, len, .inl g)) ∧ ∀ j, j < len → g j = v) 0 0) n 0 0 5 [some (.inr (.inr (some (.inl (p))))), some (.inl v), some (.inl (nI i)), some (.inl (nI len))] [] (jup σ p (.inl (.int, len, .inl g))) := by
    intro u
    induction u with
    | zero =>
      intro i g hi hg
      obtain rfl : i = len := by omega
      refine jrun_ok jC X k_AR_fill2_5 5 _ _ _ o_AR_fill2_5 ?_
      simp only [k_AR_fill2_5, jrun, jstep, jldi, jldl, jlda, j1, j2, jl1, jl2, jli, ja1, jbr, jald, jast, jlald, jlast, jalen, jget, jput, jfit, jdup, jdupx, jdupx2, jdup2, jcat, jset1, jset2, jkill, List.getElem?_cons_zero, List.getElem?_cons_succ, List.set_cons_zero, List.set_cons_succ, List.length_cons, List.length_nil, Nat.reduceAdd, Nat.reduceLT, Int32.reduceToNatClampNeg, true_and, and_true, and_self, reduceCtorEq, not_false_eq_true, false_and, and_false, or_false, false_or, true_or, or_true, jup_s, jup_jup, hpn, vp_nar_int32]
      refine ⟨fun _ => ?_, fun h => absurd (nI_le (Nat.le_refl _) hl2) h⟩
      exact jk_vret X d_AR_fill2_20 hr (Nat.le_refl _) (Nat.le_refl _) ⟨g, rfl, rfl, rfl, hg⟩
    | succ u ih =>
      intro i g hi hg
      have hc : (nI i).toNatClampNeg = i := nI_clamp (by omega)
      refine jrun_ok jC X k_AR_fill2_5 5 _ _ _ o_AR_fill2_5 ?_
      simp only [k_AR_fill2_5, jrun, jstep, jldi, jldl, jlda, j1, j2, jl1, jl2, jli, ja1, jbr, jald, jast, jlald, jlast, jalen, jget, jput, jfit, jdup, jdupx, jdupx2, jdup2, jcat, jset1, jset2, jkill, List.getElem?_cons_zero, List.getElem?_cons_succ, List.set_cons_zero, List.set_cons_succ, List.length_cons, List.length_nil, Nat.reduceAdd, Nat.reduceLT, Int32.reduceToNatClampNeg, true_and, and_true, and_self, reduceCtorEq, not_false_eq_true, false_and, and_false, or_false, false_or, true_or, or_true, jup_s, jup_jup, hpn, vp_nar_int32, hc, nI_1]
      refine ⟨fun h => absurd h (nI_ge (by omega) hl2), fun _ => ⟨vp_in_nI (by omega) hl2, ?_⟩⟩
      exact ih (i + 1) _ (by omega) (by
        intro j hj
        by_cases hji : j = i
        · subst hji; exact upd_s
        · rw [upd_o hji]; exact hg j (by omega))
  refine jrun_ok jC X k_AR_fill2_0 0 _ _ _ o_AR_fill2_0 ?_
  simp only [k_AR_fill2_0, jrun, jstep, jldi, jldl, jlda, j1, j2, jl1, jl2, jli, ja1, jbr, jald, jast, jlald, jlast, jalen, jget, jput, jfit, jdup, jdupx, jdupx2, jdup2, jcat, jset1, jset2, jkill, List.getElem?_cons_zero, List.getElem?_cons_succ, List.set_cons_zero, List.set_cons_succ, List.length_cons, List.length_nil, Nat.reduceAdd, Nat.reduceLT, Int32.reduceToNatClampNeg, true_and, and_true, and_self, reduceCtorEq, not_false_eq_true, false_and, and_false, or_false, false_or, true_or, or_true, h, hpn, hj2]
  have hh := hloop len 0 f (by omega) (fun j hj => by omega)
  rw [jup_id h] at hh
  exact hh
set_option maxRecDepth 100000 in
set_option maxHeartbeats 4000000 in
theorem c_AR_fill3 (l : Launch) (E : jE) (σ : Nat → jcell) (n : Nat) (p : Nat) (hp : p < n) (len : Nat) (hl2 : len < 2 ^ 31) (f : Nat → Int64) (h : σ p = .inl (.long, len, .inr (.inl f))) (v : Int64) : jMet l E jcl jtb lw_tbl y_AR_fill3 { frames := 0, cells := 0, slots := 0, locals := 0 } [.inr (.inr (some (.inl (p)))), .inr (.inl v)] σ n (fun r σ' n' => ∃ g : Nat → Int64, r = none ∧ n' = n ∧ σ' = jup σ p (.inl (.long, len, .inr (.inl g))) ∧ ∀ j, j < len → g j = v) := by
  refine jMet_of (hY := rfl) false (fun h => by cases h) (by decide) (Nat.le_of_ble_eq_true rfl) [some (.inr (.inr (some (.inl (p))))), some (.inr (.inl v)), none, none, none] rfl ?_
  intro M hl hR X hr
  have hpn : (p < n) = True := eq_true hp
  have hj2 : (FieldType.long ∈ jtys) = True := eq_true (by decide)
  have hloop : ∀ (u i : Nat) (g : Nat → Int64), i + u = len → (∀ j, j < i → g j = v) → jJ E jcl 5 M (jQ E jcl M (fun r σ' n' => ∃ g : Nat → Int64, r = none ∧ n' = n ∧ σ' = jup σ p (.inl (.long, len, .inr (.inl g))) ∧ ∀ j, j < len → g j = v) 0 0) n 0 0 6 [some (.inr (.inr (some (.inl (p))))), some (.inr (.inl v)), none, some (.inl (nI i)), some (.inl (nI len))] [] (jup σ p (.inl (.long, len, .inr (.inl g)))) := by
    intro u
    induction u with
    | zero =>
      intro i g hi hg
      obtain rfl : i = len := by omega
      refine jrun_ok jC X k_AR_fill3_6 6 _ _ _ o_AR_fill3_6 ?_
      simp only [k_AR_fill3_6, jrun, jstep, jldi, jldl, jlda, j1, j2, jl1, jl2, jli, ja1, jbr, jald, jast, jlald, jlast, jalen, jget, jput, jfit, jdup, jdupx, jdupx2, jdup2, jcat, jset1, jset2, jkill, List.getElem?_cons_zero, List.getElem?_cons_succ, List.set_cons_zero, List.set_cons_succ, List.length_cons, List.length_nil, Nat.reduceAdd, Nat.reduceLT, Int32.reduceToNatClampNeg, true_and, and_true, and_self, reduceCtorEq, not_false_eq_true, false_and, and_false, or_false, false_or, true_or, or_true, jup_s, jup_jup, hpn]
      refine ⟨fun _ => ?_, fun h => absurd (nI_le (Nat.le_refl _) hl2) h⟩
      exact jk_vret X d_AR_fill3_22 hr (Nat.le_refl _) (Nat.le_refl _) ⟨g, rfl, rfl, rfl, hg⟩
    | succ u ih =>
      intro i g hi hg
      have hc : (nI i).toNatClampNeg = i := nI_clamp (by omega)
      refine jrun_ok jC X k_AR_fill3_6 6 _ _ _ o_AR_fill3_6 ?_
      simp only [k_AR_fill3_6, jrun, jstep, jldi, jldl, jlda, j1, j2, jl1, jl2, jli, ja1, jbr, jald, jast, jlald, jlast, jalen, jget, jput, jfit, jdup, jdupx, jdupx2, jdup2, jcat, jset1, jset2, jkill, List.getElem?_cons_zero, List.getElem?_cons_succ, List.set_cons_zero, List.set_cons_succ, List.length_cons, List.length_nil, Nat.reduceAdd, Nat.reduceLT, Int32.reduceToNatClampNeg, true_and, and_true, and_self, reduceCtorEq, not_false_eq_true, false_and, and_false, or_false, false_or, true_or, or_true, jup_s, jup_jup, hpn, hc, nI_1]
      refine ⟨fun h => absurd h (nI_ge (by omega) hl2), fun _ => ⟨vp_in_nI (by omega) hl2, ?_⟩⟩
      exact ih (i + 1) _ (by omega) (by
        intro j hj
        by_cases hji : j = i
        · subst hji; exact updL_s
        · rw [updL_o hji]; exact hg j (by omega))
  refine jrun_ok jC X k_AR_fill3_0 0 _ _ _ o_AR_fill3_0 ?_
  simp only [k_AR_fill3_0, jrun, jstep, jldi, jldl, jlda, j1, j2, jl1, jl2, jli, ja1, jbr, jald, jast, jlald, jlast, jalen, jget, jput, jfit, jdup, jdupx, jdupx2, jdup2, jcat, jset1, jset2, jkill, List.getElem?_cons_zero, List.getElem?_cons_succ, List.set_cons_zero, List.set_cons_succ, List.length_cons, List.length_nil, Nat.reduceAdd, Nat.reduceLT, Int32.reduceToNatClampNeg, true_and, and_true, and_self, reduceCtorEq, not_false_eq_true, false_and, and_false, or_false, false_or, true_or, or_true, h, hpn, hj2]
  have hh := hloop len 0 f (by omega) (fun j hj => by omega)
  rw [jup_id h] at hh
  exact hh
set_option maxRecDepth 100000 in
set_option maxHeartbeats 4000000 in
theorem c_AR_fill (l : Launch) (E : jE) (σ : Nat → jcell) (n : Nat) (p : Nat) (hp : p < n) (len : Nat) (hl2 : len < 2 ^ 31) (f : Nat → Int32) (h : σ p = .inl (.int, len, .inl f)) (a b : Nat) (hab : a ≤ b) (hb : b ≤ len) (v : Int32) : jMet l E jcl jtb lw_tbl y_AR_fill { frames := 1, cells := 0, slots := 0, locals := 40 } [.inr (.inr (some (.inl (p)))), .inl (nI a), .inl (nI b), .inl v] σ n (fun r σ' n' => ∃ g : Nat → Int32, r = none ∧ n' = n ∧ σ' = jup σ p (.inl (.int, len, .inl g)) ∧ ∀ j, g j = if a ≤ j ∧ j < b then v else f j) := by
  refine jMet_of (hY := rfl) false (fun h => by cases h) (by decide) (Nat.le_of_ble_eq_true rfl) [some (.inr (.inr (some (.inl (p))))), some (.inl (nI a)), some (.inl (nI b)), some (.inl v), none] rfl ?_
  intro M hl hR X hr
  have hpn : (p < n) = True := eq_true hp
  have hj2 : (FieldType.int ∈ jtys) = True := eq_true (by decide)
  have hloop : ∀ (u i : Nat) (g : Nat → Int32), a ≤ i → i + u = b → (∀ j, g j = if a ≤ j ∧ j < i then v else f j) → jJ E jcl 5 M (jQ E jcl M (fun r σ' n' => ∃ g : Nat → Int32, r = none ∧ n' = n ∧ σ' = jup σ p (.inl (.int, len, .inl g)) ∧ ∀ j, g j = if a ≤ j ∧ j < b then v else f j) 0 0) n 0 0 10 [some (.inr (.inr (some (.inl (p))))), some (.inl (nI a)), some (.inl (nI b)), some (.inl v), some (.inl (nI i))] [] (jup σ p (.inl (.int, len, .inl g))) := by
    intro u
    induction u with
    | zero =>
      intro i g ha hi hg
      obtain rfl : i = b := by omega
      refine jrun_ok jC X k_AR_fill_10 10 _ _ _ o_AR_fill_10 ?_
      simp only [k_AR_fill_10, jrun, jstep, jldi, jldl, jlda, j1, j2, jl1, jl2, jli, ja1, jbr, jald, jast, jlald, jlast, jalen, jget, jput, jfit, jdup, jdupx, jdupx2, jdup2, jcat, jset1, jset2, jkill, List.getElem?_cons_zero, List.getElem?_cons_succ, List.set_cons_zero, List.set_cons_succ, List.length_cons, List.length_nil, Nat.reduceAdd, Nat.reduceLT, Int32.reduceToNatClampNeg, true_and, and_true, and_self, reduceCtorEq, not_false_eq_true, false_and, and_false, or_false, false_or, true_or, or_true, jup_s, jup_jup, hpn, vp_nar_int32]
      refine ⟨fun _ => ?_, fun h => absurd (nI_le (Nat.le_refl _) (by omega)) h⟩
      exact jk_vret X d_AR_fill_27 hr (Nat.le_refl _) (Nat.le_refl _) ⟨g, rfl, rfl, rfl, hg⟩
    | succ u ih =>
      intro i g ha hi hg
      have hc : (nI i).toNatClampNeg = i := nI_clamp (by omega)
      refine jrun_ok jC X k_AR_fill_10 10 _ _ _ o_AR_fill_10 ?_
      simp only [k_AR_fill_10, jrun, jstep, jldi, jldl, jlda, j1, j2, jl1, jl2, jli, ja1, jbr, jald, jast, jlald, jlast, jalen, jget, jput, jfit, jdup, jdupx, jdupx2, jdup2, jcat, jset1, jset2, jkill, List.getElem?_cons_zero, List.getElem?_cons_succ, List.set_cons_zero, List.set_cons_succ, List.length_cons, List.length_nil, Nat.reduceAdd, Nat.reduceLT, Int32.reduceToNatClampNeg, true_and, and_true, and_self, reduceCtorEq, not_false_eq_true, false_and, and_false, or_false, false_or, true_or, or_true, jup_s, jup_jup, hpn, vp_nar_int32, hc, nI_1]
      refine ⟨fun h => absurd h (nI_ge (by omega) (by omega)), fun _ => ⟨vp_in_nI (by omega) hl2, ?_⟩⟩
      exact ih (i + 1) _ (by omega) (by omega) (by
        intro j
        by_cases hji : j = i
        · subst hji; rw [upd_s, if_pos ⟨ha, by omega⟩]
        · rw [upd_o hji, hg j]
          by_cases h9 : a ≤ j ∧ j < i
          · rw [if_pos h9, if_pos ⟨h9.1, by omega⟩]
          · rw [if_neg h9, if_neg (by omega)])
  refine jrun_ok jC X k_AR_fill_0 0 _ _ _ o_AR_fill_0 ?_
  simp only [k_AR_fill_0, jrun, jstep, jldi, jldl, jlda, j1, j2, jl1, jl2, jli, ja1, jbr, jald, jast, jlald, jlast, jalen, jget, jput, jfit, jdup, jdupx, jdupx2, jdup2, jcat, jset1, jset2, jkill, List.getElem?_cons_zero, List.getElem?_cons_succ, List.set_cons_zero, List.set_cons_succ, List.length_cons, List.length_nil, Nat.reduceAdd, Nat.reduceLT, Int32.reduceToNatClampNeg, true_and, and_true, and_self, reduceCtorEq, not_false_eq_true, false_and, and_false, or_false, false_or, true_or, or_true, h, hpn, hj2]
  refine jk_Sg X hR d_AR_fill_4 q_AR_fill_4 m_AR_rangeCheck s_AR_rangeCheck (r := []) (c_AR_rangeCheck M.2.1 E _ _ (nI len) (nI a) (nI b) (nI_le hab (by omega)) (nI_pos' (by omega)) (nI_le hb hl2)) rfl rfl ⟨Nat.le_of_ble_eq_true rfl, Nat.le_of_ble_eq_true rfl⟩ (c' := 0) rfl (s' := 0) rfl ⟨Nat.le_of_ble_eq_true rfl, Nat.le_of_ble_eq_true rfl⟩ (Nat.le_of_ble_eq_true rfl) (pc' := 7) rfl ?_
  rintro _ _ _ ⟨rfl, hn2, rfl⟩
  obtain rfl : n = _ := hn2.symm
  simp only [Option.toList_none, List.nil_append]
  refine jrun_ok jC X k_AR_fill_7 7 _ _ _ o_AR_fill_7 ?_
  simp only [k_AR_fill_7, jrun, jstep, jldi, jldl, jlda, j1, j2, jl1, jl2, jli, ja1, jbr, jald, jast, jlald, jlast, jalen, jget, jput, jfit, jdup, jdupx, jdupx2, jdup2, jcat, jset1, jset2, jkill, List.getElem?_cons_zero, List.getElem?_cons_succ, List.set_cons_zero, List.set_cons_succ, List.length_cons, List.length_nil, Nat.reduceAdd, Nat.reduceLT, Int32.reduceToNatClampNeg, true_and, and_true, and_self, reduceCtorEq, not_false_eq_true, false_and, and_false, or_false, false_or, true_or, or_true]
  have hh := hloop (b - a) a f (Nat.le_refl _) (by omega) (fun j => by rw [if_neg (by omega)])
  rw [jup_id h] at hh
  exact hh
set_option maxRecDepth 100000 in
set_option maxHeartbeats 4000000 in
theorem c_BO_stepsToEdge (l : Launch) (E : jE) (σ : Nat → jcell) (n : Nat) (x y : Int32) : jMet l E jcl jtb lw_tbl y_BO_stepsToEdge { frames := 0, cells := 0, slots := 0, locals := 0 } [.inl x, .inl y] σ n (fun r σ' n' => poI σ n r σ' n') := by
  refine jMet_of (hY := rfl) false (fun h => by cases h) (by decide) (Nat.le_of_ble_eq_true rfl) [some (.inl x), some (.inl y), none, none, none, none, none] rfl ?_
  intro M hl hR X hr
  have C70 : ∀ (s2 s3 s4 : Int32) (o5 o6 : Option jv), jJ E jcl 7 M (jQ E jcl M (fun r σ' n' => poI σ n r σ' n') 0 0) n 0 0 70 [some (.inl x), some (.inl y), some (.inl s2), some (.inl s3), some (.inl s4), o5, o6] [] σ := by
    intro s2 s3 s4 o5 o6
    refine jrun_ok jC X k_BO_stepsToEdge_70 70 _ _ _ o_BO_stepsToEdge_70 ?_
    simp only [k_BO_stepsToEdge_70, jrun, jstep, jldi, jldl, jlda, j1, j2, jl1, jl2, jli, ja1, jbr, jald, jast, jlald, jlast, jalen, jget, jput, jfit, jdup, jdupx, jdupx2, jdup2, jcat, jset1, jset2, jkill, List.getElem?_cons_zero, List.getElem?_cons_succ, List.set_cons_zero, List.set_cons_succ, List.length_cons, List.length_nil, Nat.reduceAdd, Nat.reduceLT, Int32.reduceToNatClampNeg, true_and, and_true, and_self, reduceCtorEq, not_false_eq_true, false_and, and_false, or_false, false_or, true_or, or_true]
    exact jk_iret X d_BO_stepsToEdge_71 hr rfl (Nat.le_refl _) (Nat.le_refl _) ⟨_, rfl, rfl, rfl⟩
  have hloop : ∀ (u i : Nat) (s2 s3 : Int32) (o5 o6 : Option jv), i + u = 7 → jJ E jcl 7 M (jQ E jcl M (fun r σ' n' => poI σ n r σ' n') 0 0) n 0 0 7 [some (.inl x), some (.inl y), some (.inl s2), some (.inl s3), some (.inl (nI i)), o5, o6] [] σ := by
    intro u
    induction u with
    | zero =>
      intro i s2 s3 o5 o6 hi
      obtain rfl : i = 7 := by omega
      refine jrun_ok jC X k_BO_stepsToEdge_7 7 _ _ _ o_BO_stepsToEdge_7 ?_
      simp only [k_BO_stepsToEdge_7, jrun, jstep, jldi, jldl, jlda, j1, j2, jl1, jl2, jli, ja1, jbr, jald, jast, jlald, jlast, jalen, jget, jput, jfit, jdup, jdupx, jdupx2, jdup2, jcat, jset1, jset2, jkill, List.getElem?_cons_zero, List.getElem?_cons_succ, List.set_cons_zero, List.set_cons_succ, List.length_cons, List.length_nil, Nat.reduceAdd, Nat.reduceLT, Int32.reduceToNatClampNeg, true_and, and_true, and_self, reduceCtorEq, not_false_eq_true, false_and, and_false, or_false, false_or, true_or, or_true]
      exact ⟨fun _ => C70 _ _ _ _ _, fun h => absurd (by decide) h⟩
    | succ u ih =>
      intro i s2 s3 o5 o6 hi
      refine jrun_ok jC X k_BO_stepsToEdge_7 7 _ _ _ o_BO_stepsToEdge_7 ?_
      simp only [k_BO_stepsToEdge_7, jrun, jstep, jldi, jldl, jlda, j1, j2, jl1, jl2, jli, ja1, jbr, jald, jast, jlald, jlast, jalen, jget, jput, jfit, jdup, jdupx, jdupx2, jdup2, jcat, jset1, jset2, jkill, List.getElem?_cons_zero, List.getElem?_cons_succ, List.set_cons_zero, List.set_cons_succ, List.length_cons, List.length_nil, Nat.reduceAdd, Nat.reduceLT, Int32.reduceToNatClampNeg, true_and, and_true, and_self, reduceCtorEq, not_false_eq_true, false_and, and_false, or_false, false_or, true_or, or_true]
      refine ⟨fun _ => C70 _ _ _ _ _, fun _ => ⟨fun _ => C70 _ _ _ _ _, fun _ => ⟨fun _ => C70 _ _ _ _ _, fun _ => ⟨fun _ => C70 _ _ _ _ _, fun _ => ⟨fun _ => ?_, fun _ => C70 _ _ _ _ _⟩⟩⟩⟩⟩
      refine jrun_ok jC X k_BO_stepsToEdge_58 58 _ _ _ o_BO_stepsToEdge_58 ?_
      simp only [k_BO_stepsToEdge_58, jrun, jstep, jldi, jldl, jlda, j1, j2, jl1, jl2, jli, ja1, jbr, jald, jast, jlald, jlast, jalen, jget, jput, jfit, jdup, jdupx, jdupx2, jdup2, jcat, jset1, jset2, jkill, List.getElem?_cons_zero, List.getElem?_cons_succ, List.set_cons_zero, List.set_cons_succ, List.length_cons, List.length_nil, Nat.reduceAdd, Nat.reduceLT, Int32.reduceToNatClampNeg, true_and, and_true, and_self, reduceCtorEq, not_false_eq_true, false_and, and_false, or_false, false_or, true_or, or_true, nI_1]
      exact ih (i + 1) _ _ _ _ (by omega)
  refine jrun_ok jC X k_BO_stepsToEdge_0 0 _ _ _ o_BO_stepsToEdge_0 ?_
  simp only [k_BO_stepsToEdge_0, jrun, jstep, jldi, jldl, jlda, j1, j2, jl1, jl2, jli, ja1, jbr, jald, jast, jlald, jlast, jalen, jget, jput, jfit, jdup, jdupx, jdupx2, jdup2, jcat, jset1, jset2, jkill, List.getElem?_cons_zero, List.getElem?_cons_succ, List.set_cons_zero, List.set_cons_succ, List.length_cons, List.length_nil, Nat.reduceAdd, Nat.reduceLT, Int32.reduceToNatClampNeg, true_and, and_true, and_self, reduceCtorEq, not_false_eq_true, false_and, and_false, or_false, false_or, true_or, or_true]
  exact hloop 7 0 _ _ _ _ (by omega)
set_option maxRecDepth 100000 in
set_option maxHeartbeats 4000000 in
theorem c_BO_middle (l : Launch) (E : jE) (σ : Nat → jcell) (n : Nat) (x : Int32) : jMet l E jcl jtb lw_tbl y_BO_middle { frames := 0, cells := 0, slots := 0, locals := 0 } [.inl x] σ n (fun r σ' n' => poI σ n r σ' n') := by
  refine jMet_of (hY := rfl) false (fun h => by cases h) (by decide) (Nat.le_of_ble_eq_true rfl) [some (.inl x), none, none] rfl ?_
  intro M hl hR X hr
  have C35 : ∀ (o1 o2 : Option jv) (s0 s1 : Int32), jJ E jcl 3 M (jQ E jcl M (fun r σ' n' => poI σ n r σ' n') 0 0) n 0 0 35 [some (.inl x), o1, o2] [.inl s0, .inl s1] σ := by
    intro o1 o2 s0 s1
    refine jrun_ok jC X k_BO_middle_35 35 _ _ _ o_BO_middle_35 ?_
    simp only [k_BO_middle_35, jrun, jstep, jldi, jldl, jlda, j1, j2, jl1, jl2, jli, ja1, jbr, jald, jast, jlald, jlast, jalen, jget, jput, jfit, jdup, jdupx, jdupx2, jdup2, jcat, jset1, jset2, jkill, List.getElem?_cons_zero, List.getElem?_cons_succ, List.set_cons_zero, List.set_cons_succ, List.length_cons, List.length_nil, Nat.reduceAdd, Nat.reduceLT, Int32.reduceToNatClampNeg, true_and, and_true, and_self, reduceCtorEq, not_false_eq_true, false_and, and_false, or_false, false_or, true_or, or_true]
    exact jk_iret X d_BO_middle_36 hr rfl (Nat.le_refl _) (Nat.le_refl _) ⟨_, rfl, rfl, rfl⟩
  have C22 : ∀ (s1 s2 s0 : Int32), jJ E jcl 3 M (jQ E jcl M (fun r σ' n' => poI σ n r σ' n') 0 0) n 0 0 22 [some (.inl x), some (.inl s1), some (.inl s2)] [.inl s0] σ := by
    intro s1 s2 s0
    refine jrun_ok jC X k_BO_middle_22 22 _ _ _ o_BO_middle_22 ?_
    simp only [k_BO_middle_22, jrun, jstep, jldi, jldl, jlda, j1, j2, jl1, jl2, jli, ja1, jbr, jald, jast, jlald, jlast, jalen, jget, jput, jfit, jdup, jdupx, jdupx2, jdup2, jcat, jset1, jset2, jkill, List.getElem?_cons_zero, List.getElem?_cons_succ, List.set_cons_zero, List.set_cons_succ, List.length_cons, List.length_nil, Nat.reduceAdd, Nat.reduceLT, Int32.reduceToNatClampNeg, true_and, and_true, and_self, reduceCtorEq, not_false_eq_true, false_and, and_false, or_false, false_or, true_or, or_true]
    refine ⟨fun _ => ?_, fun _ => C35 _ _ _ _⟩
    refine jrun_ok jC X k_BO_middle_31 31 _ _ _ o_BO_middle_31 ?_
    simp only [k_BO_middle_31, jrun, jstep, jldi, jldl, jlda, j1, j2, jl1, jl2, jli, ja1, jbr, jald, jast, jlald, jlast, jalen, jget, jput, jfit, jdup, jdupx, jdupx2, jdup2, jcat, jset1, jset2, jkill, List.getElem?_cons_zero, List.getElem?_cons_succ, List.set_cons_zero, List.set_cons_succ, List.length_cons, List.length_nil, Nat.reduceAdd, Nat.reduceLT, Int32.reduceToNatClampNeg, true_and, and_true, and_self, reduceCtorEq, not_false_eq_true, false_and, and_false, or_false, false_or, true_or, or_true]
    exact C35 _ _ _ _
  refine jrun_ok jC X k_BO_middle_0 0 _ _ _ o_BO_middle_0 ?_
  simp only [k_BO_middle_0, jrun, jstep, jldi, jldl, jlda, j1, j2, jl1, jl2, jli, ja1, jbr, jald, jast, jlald, jlast, jalen, jget, jput, jfit, jdup, jdupx, jdupx2, jdup2, jcat, jset1, jset2, jkill, List.getElem?_cons_zero, List.getElem?_cons_succ, List.set_cons_zero, List.set_cons_succ, List.length_cons, List.length_nil, Nat.reduceAdd, Nat.reduceLT, Int32.reduceToNatClampNeg, true_and, and_true, and_self, reduceCtorEq, not_false_eq_true, false_and, and_false, or_false, false_or, true_or, or_true]
  refine ⟨fun _ => ?_, fun _ => C22 _ _ _⟩
  refine jrun_ok jC X k_BO_middle_18 18 _ _ _ o_BO_middle_18 ?_
  simp only [k_BO_middle_18, jrun, jstep, jldi, jldl, jlda, j1, j2, jl1, jl2, jli, ja1, jbr, jald, jast, jlald, jlast, jalen, jget, jput, jfit, jdup, jdupx, jdupx2, jdup2, jcat, jset1, jset2, jkill, List.getElem?_cons_zero, List.getElem?_cons_succ, List.set_cons_zero, List.set_cons_succ, List.length_cons, List.length_nil, Nat.reduceAdd, Nat.reduceLT, Int32.reduceToNatClampNeg, true_and, and_true, and_self, reduceCtorEq, not_false_eq_true, false_and, and_false, or_false, false_or, true_or, or_true]
  exact C22 _ _ _
set_option maxRecDepth 100000 in
set_option maxHeartbeats 4000000 in
theorem c_BO_worthOf (l : Launch) (E : jE) (σ : Nat → jcell) (n : Nat) (x y : Int32) : jMet l E jcl jtb lw_tbl y_BO_worthOf { frames := 1, cells := 0, slots := 0, locals := 40 } [.inl x, .inl y] σ n (fun r σ' n' => poI σ n r σ' n') := by
  refine jMet_of (hY := rfl) false (fun h => by cases h) (by decide) (Nat.le_of_ble_eq_true rfl) [some (.inl x), some (.inl y)] rfl ?_
  intro M hl hR X hr
  have C64 : ∀ s0 s1 s2 : Int32, jJ E jcl 2 M (jQ E jcl M (fun r σ' n' => poI σ n r σ' n') 0 0) n 0 0 64 [some (.inl x), some (.inl y)] [.inl s0, .inl s1, .inl s2] σ := by
    intro s0 s1 s2
    refine jrun_ok jC X k_BO_worthOf_64 64 _ _ _ o_BO_worthOf_64 ?_
    simp only [k_BO_worthOf_64, jrun, jstep, jldi, jldl, jlda, j1, j2, jl1, jl2, jli, ja1, jbr, jald, jast, jlald, jlast, jalen, jget, jput, jfit, jdup, jdupx, jdupx2, jdup2, jcat, jset1, jset2, jkill, List.getElem?_cons_zero, List.getElem?_cons_succ, List.set_cons_zero, List.set_cons_succ, List.length_cons, List.length_nil, Nat.reduceAdd, Nat.reduceLT, Int32.reduceToNatClampNeg, true_and, and_true, and_self, reduceCtorEq, not_false_eq_true, false_and, and_false, or_false, false_or, true_or, or_true]
    exact jk_iret X d_BO_worthOf_66 hr rfl (Nat.le_refl _) (Nat.le_refl _) ⟨_, rfl, rfl, rfl⟩
  have C40 : jJ E jcl 2 M (jQ E jcl M (fun r σ' n' => poI σ n r σ' n') 0 0) n 0 0 40 [some (.inl x), some (.inl y)] [] σ := by
    refine jrun_ok jC X k_BO_worthOf_40 40 _ _ _ o_BO_worthOf_40 ?_
    simp only [k_BO_worthOf_40, jrun, jstep, jldi, jldl, jlda, j1, j2, jl1, jl2, jli, ja1, jbr, jald, jast, jlald, jlast, jalen, jget, jput, jfit, jdup, jdupx, jdupx2, jdup2, jcat, jset1, jset2, jkill, List.getElem?_cons_zero, List.getElem?_cons_succ, List.set_cons_zero, List.set_cons_succ, List.length_cons, List.length_nil, Nat.reduceAdd, Nat.reduceLT, Int32.reduceToNatClampNeg, true_and, and_true, and_self, reduceCtorEq, not_false_eq_true, false_and, and_false, or_false, false_or, true_or, or_true]
    refine ⟨fun _ => ?_, fun _ => C64 _ _ _⟩
    refine jrun_ok jC X k_BO_worthOf_58 58 _ _ _ o_BO_worthOf_58 ?_
    simp only [k_BO_worthOf_58, jrun, jstep, jldi, jldl, jlda, j1, j2, jl1, jl2, jli, ja1, jbr, jald, jast, jlald, jlast, jalen, jget, jput, jfit, jdup, jdupx, jdupx2, jdup2, jcat, jset1, jset2, jkill, List.getElem?_cons_zero, List.getElem?_cons_succ, List.set_cons_zero, List.set_cons_succ, List.length_cons, List.length_nil, Nat.reduceAdd, Nat.reduceLT, Int32.reduceToNatClampNeg, true_and, and_true, and_self, reduceCtorEq, not_false_eq_true, false_and, and_false, or_false, false_or, true_or, or_true]
    exact C64 _ _ _
  have C67 : jJ E jcl 2 M (jQ E jcl M (fun r σ' n' => poI σ n r σ' n') 0 0) n 0 0 67 [some (.inl x), some (.inl y)] [] σ := by
    refine jrun_ok jC X k_BO_worthOf_67 67 _ _ _ o_BO_worthOf_67 ?_
    simp only [k_BO_worthOf_67, jrun, jstep, jldi, jldl, jlda, j1, j2, jl1, jl2, jli, ja1, jbr, jald, jast, jlald, jlast, jalen, jget, jput, jfit, jdup, jdupx, jdupx2, jdup2, jcat, jset1, jset2, jkill, List.getElem?_cons_zero, List.getElem?_cons_succ, List.set_cons_zero, List.set_cons_succ, List.length_cons, List.length_nil, Nat.reduceAdd, Nat.reduceLT, Int32.reduceToNatClampNeg, true_and, and_true, and_self, reduceCtorEq, not_false_eq_true, false_and, and_false, or_false, false_or, true_or, or_true]
    refine jk_Sg X hR d_BO_worthOf_72 q_BO_worthOf_72 m_BO_middle s_BO_middle (r := [.inl 4, .inl 320]) (c_BO_middle M.2.1 E _ _ y) rfl rfl ⟨Nat.le_of_ble_eq_true rfl, Nat.le_of_ble_eq_true rfl⟩ (c' := 0) rfl (s' := 0) rfl ⟨Nat.le_of_ble_eq_true rfl, Nat.le_of_ble_eq_true rfl⟩ (Nat.le_of_ble_eq_true rfl) (pc' := 75) rfl ?_
    rintro _ _ _ ⟨v, rfl, rfl, hn2⟩
    obtain rfl : n = _ := hn2.symm
    simp only [Option.toList_some, List.cons_append, List.nil_append]
    refine jrun_ok jC X k_BO_worthOf_75 75 _ _ _ o_BO_worthOf_75 ?_
    simp only [k_BO_worthOf_75, jrun, jstep, jldi, jldl, jlda, j1, j2, jl1, jl2, jli, ja1, jbr, jald, jast, jlald, jlast, jalen, jget, jput, jfit, jdup, jdupx, jdupx2, jdup2, jcat, jset1, jset2, jkill, List.getElem?_cons_zero, List.getElem?_cons_succ, List.set_cons_zero, List.set_cons_succ, List.length_cons, List.length_nil, Nat.reduceAdd, Nat.reduceLT, Int32.reduceToNatClampNeg, true_and, and_true, and_self, reduceCtorEq, not_false_eq_true, false_and, and_false, or_false, false_or, true_or, or_true]
    exact jk_iret X d_BO_worthOf_77 hr rfl (Nat.le_refl _) (Nat.le_refl _) ⟨_, rfl, rfl, rfl⟩
  have C78 : jJ E jcl 2 M (jQ E jcl M (fun r σ' n' => poI σ n r σ' n') 0 0) n 0 0 78 [some (.inl x), some (.inl y)] [] σ := by
    refine jrun_ok jC X k_BO_worthOf_78 78 _ _ _ o_BO_worthOf_78 ?_
    simp only [k_BO_worthOf_78, jrun, jstep, jldi, jldl, jlda, j1, j2, jl1, jl2, jli, ja1, jbr, jald, jast, jlald, jlast, jalen, jget, jput, jfit, jdup, jdupx, jdupx2, jdup2, jcat, jset1, jset2, jkill, List.getElem?_cons_zero, List.getElem?_cons_succ, List.set_cons_zero, List.set_cons_succ, List.length_cons, List.length_nil, Nat.reduceAdd, Nat.reduceLT, Int32.reduceToNatClampNeg, true_and, and_true, and_self, reduceCtorEq, not_false_eq_true, false_and, and_false, or_false, false_or, true_or, or_true]
    refine jk_Sg X hR d_BO_worthOf_83 q_BO_worthOf_83 m_BO_middle s_BO_middle (r := [.inl 3, .inl 330]) (c_BO_middle M.2.1 E _ _ y) rfl rfl ⟨Nat.le_of_ble_eq_true rfl, Nat.le_of_ble_eq_true rfl⟩ (c' := 0) rfl (s' := 0) rfl ⟨Nat.le_of_ble_eq_true rfl, Nat.le_of_ble_eq_true rfl⟩ (Nat.le_of_ble_eq_true rfl) (pc' := 86) rfl ?_
    rintro _ _ _ ⟨v, rfl, rfl, hn2⟩
    obtain rfl : n = _ := hn2.symm
    simp only [Option.toList_some, List.cons_append, List.nil_append]
    refine jrun_ok jC X k_BO_worthOf_86 86 _ _ _ o_BO_worthOf_86 ?_
    simp only [k_BO_worthOf_86, jrun, jstep, jldi, jldl, jlda, j1, j2, jl1, jl2, jli, ja1, jbr, jald, jast, jlald, jlast, jalen, jget, jput, jfit, jdup, jdupx, jdupx2, jdup2, jcat, jset1, jset2, jkill, List.getElem?_cons_zero, List.getElem?_cons_succ, List.set_cons_zero, List.set_cons_succ, List.length_cons, List.length_nil, Nat.reduceAdd, Nat.reduceLT, Int32.reduceToNatClampNeg, true_and, and_true, and_self, reduceCtorEq, not_false_eq_true, false_and, and_false, or_false, false_or, true_or, or_true]
    exact jk_iret X d_BO_worthOf_88 hr rfl (Nat.le_refl _) (Nat.le_refl _) ⟨_, rfl, rfl, rfl⟩
  have C89 : jJ E jcl 2 M (jQ E jcl M (fun r σ' n' => poI σ n r σ' n') 0 0) n 0 0 89 [some (.inl x), some (.inl y)] [] σ := by
    refine jrun_ok jC X k_BO_worthOf_89 89 _ _ _ o_BO_worthOf_89 ?_
    simp only [k_BO_worthOf_89, jrun, jstep, jldi, jldl, jlda, j1, j2, jl1, jl2, jli, ja1, jbr, jald, jast, jlald, jlast, jalen, jget, jput, jfit, jdup, jdupx, jdupx2, jdup2, jcat, jset1, jset2, jkill, List.getElem?_cons_zero, List.getElem?_cons_succ, List.set_cons_zero, List.set_cons_succ, List.length_cons, List.length_nil, Nat.reduceAdd, Nat.reduceLT, Int32.reduceToNatClampNeg, true_and, and_true, and_self, reduceCtorEq, not_false_eq_true, false_and, and_false, or_false, false_or, true_or, or_true]
    exact jk_iret X d_BO_worthOf_92 hr rfl (Nat.le_refl _) (Nat.le_refl _) ⟨_, rfl, rfl, rfl⟩
  have C93 : jJ E jcl 2 M (jQ E jcl M (fun r σ' n' => poI σ n r σ' n') 0 0) n 0 0 93 [some (.inl x), some (.inl y)] [] σ := by
    refine jrun_ok jC X k_BO_worthOf_93 93 _ _ _ o_BO_worthOf_93 ?_
    simp only [k_BO_worthOf_93, jrun, jstep, jldi, jldl, jlda, j1, j2, jl1, jl2, jli, ja1, jbr, jald, jast, jlald, jlast, jalen, jget, jput, jfit, jdup, jdupx, jdupx2, jdup2, jcat, jset1, jset2, jkill, List.getElem?_cons_zero, List.getElem?_cons_succ, List.set_cons_zero, List.set_cons_succ, List.length_cons, List.length_nil, Nat.reduceAdd, Nat.reduceLT, Int32.reduceToNatClampNeg, true_and, and_true, and_self, reduceCtorEq, not_false_eq_true, false_and, and_false, or_false, false_or, true_or, or_true]
    refine jk_Sg X hR d_BO_worthOf_97 q_BO_worthOf_97 m_BO_middle s_BO_middle (r := [.inl 900]) (c_BO_middle M.2.1 E _ _ y) rfl rfl ⟨Nat.le_of_ble_eq_true rfl, Nat.le_of_ble_eq_true rfl⟩ (c' := 0) rfl (s' := 0) rfl ⟨Nat.le_of_ble_eq_true rfl, Nat.le_of_ble_eq_true rfl⟩ (Nat.le_of_ble_eq_true rfl) (pc' := 100) rfl ?_
    rintro _ _ _ ⟨v, rfl, rfl, hn2⟩
    obtain rfl : n = _ := hn2.symm
    simp only [Option.toList_some, List.cons_append, List.nil_append]
    refine jrun_ok jC X k_BO_worthOf_100 100 _ _ _ o_BO_worthOf_100 ?_
    simp only [k_BO_worthOf_100, jrun, jstep, jldi, jldl, jlda, j1, j2, jl1, jl2, jli, ja1, jbr, jald, jast, jlald, jlast, jalen, jget, jput, jfit, jdup, jdupx, jdupx2, jdup2, jcat, jset1, jset2, jkill, List.getElem?_cons_zero, List.getElem?_cons_succ, List.set_cons_zero, List.set_cons_succ, List.length_cons, List.length_nil, Nat.reduceAdd, Nat.reduceLT, Int32.reduceToNatClampNeg, true_and, and_true, and_self, reduceCtorEq, not_false_eq_true, false_and, and_false, or_false, false_or, true_or, or_true]
    exact jk_iret X d_BO_worthOf_101 hr rfl (Nat.le_refl _) (Nat.le_refl _) ⟨_, rfl, rfl, rfl⟩
  have C102 : jJ E jcl 2 M (jQ E jcl M (fun r σ' n' => poI σ n r σ' n') 0 0) n 0 0 102 [some (.inl x), some (.inl y)] [] σ := by
    refine jrun_ok jC X k_BO_worthOf_102 102 _ _ _ o_BO_worthOf_102 ?_
    simp only [k_BO_worthOf_102, jrun, jstep, jldi, jldl, jlda, j1, j2, jl1, jl2, jli, ja1, jbr, jald, jast, jlald, jlast, jalen, jget, jput, jfit, jdup, jdupx, jdupx2, jdup2, jcat, jset1, jset2, jkill, List.getElem?_cons_zero, List.getElem?_cons_succ, List.set_cons_zero, List.set_cons_succ, List.length_cons, List.length_nil, Nat.reduceAdd, Nat.reduceLT, Int32.reduceToNatClampNeg, true_and, and_true, and_self, reduceCtorEq, not_false_eq_true, false_and, and_false, or_false, false_or, true_or, or_true]
    exact jk_iret X d_BO_worthOf_103 hr rfl (Nat.le_refl _) (Nat.le_refl _) ⟨_, rfl, rfl, rfl⟩
  refine jrun_ok jC X k_BO_worthOf_0 0 _ _ _ o_BO_worthOf_0 ?_
  simp only [k_BO_worthOf_0, jrun, jstep, jldi, jldl, jlda, j1, j2, jl1, jl2, jli, ja1, jbr, jald, jast, jlald, jlast, jalen, jget, jput, jfit, jdup, jdupx, jdupx2, jdup2, jcat, jset1, jset2, jkill, List.getElem?_cons_zero, List.getElem?_cons_succ, List.set_cons_zero, List.set_cons_succ, List.length_cons, List.length_nil, Nat.reduceAdd, Nat.reduceLT, Int32.reduceToNatClampNeg, true_and, and_true, and_self, reduceCtorEq, not_false_eq_true, false_and, and_false, or_false, false_or, true_or, or_true]
  refine jk_tab X d_BO_worthOf_4 [40, 67, 78, 89, 93] (by decide) (by decide) (td := 102) (by decide) (fun _ => C102) ?_
  intro i t hi _
  match i, hi with
  | 0, hi => cases hi; exact C40
  | 1, hi => cases hi; exact C67
  | 2, hi => cases hi; exact C78
  | 3, hi => cases hi; exact C89
  | 4, hi => cases hi; exact C93
  | i + 5, hi => cases hi

