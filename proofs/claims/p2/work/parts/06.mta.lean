set_option maxRecDepth 100000 in
set_option maxHeartbeats 4000000 in
theorem c_MT_kind (l : Launch) (E : jE) (σ : Nat → jcell) (n : Nat) (x : Int32) : jMet l E jcl jtb lw_tbl y_MT_kind { frames := 0, cells := 0, slots := 0, locals := 0 } [.inl x] σ n (fun r σ' n' => r = some (.inl (x &&& 7)) ∧ σ' = σ ∧ n' = n) := by
  refine jMet_of (hY := rfl) false (fun h => by cases h) (by decide) (Nat.le_of_ble_eq_true rfl) [some (.inl x)] rfl ?_
  intro M hl hR X hr
  refine jrun_ok jC X k_MT_kind_0 0 _ _ _ o_MT_kind_0 ?_
  simp only [k_MT_kind_0, jrun, jstep, jldi, jldl, jlda, j1, j2, jl1, jl2, jli, ja1, jbr, jald, jast, jlald, jlast, jalen, jget, jput, jfit, jdup, jdupx, jdupx2, jdup2, jcat, jset1, jset2, jkill, List.getElem?_cons_zero, List.getElem?_cons_succ, List.set_cons_zero, List.set_cons_succ, List.length_cons, List.length_nil, Nat.reduceAdd, Nat.reduceLT, Int32.reduceToNatClampNeg, true_and, and_true, and_self, reduceCtorEq, not_false_eq_true, false_and, and_false, or_false, false_or, true_or, or_true]
  exact jk_iret X d_MT_kind_4 hr rfl (Nat.le_refl _) (Nat.le_refl _) ⟨rfl, rfl, rfl⟩
def mt_sideOf (x : Int32) : Int32 := if x = 0 then -1 else x >>> (3 &&& 31)
set_option maxRecDepth 100000 in
set_option maxHeartbeats 4000000 in
theorem c_MT_sideOf (l : Launch) (E : jE) (σ : Nat → jcell) (n : Nat) (x : Int32) : jMet l E jcl jtb lw_tbl y_MT_sideOf { frames := 0, cells := 0, slots := 0, locals := 0 } [.inl x] σ n (fun r σ' n' => r = some (.inl (mt_sideOf x)) ∧ σ' = σ ∧ n' = n) := by
  refine jMet_of (hY := rfl) false (fun h => by cases h) (by decide) (Nat.le_of_ble_eq_true rfl) [some (.inl x)] rfl ?_
  intro M hl hR X hr
  refine jrun_ok jC X k_MT_sideOf_0 0 _ _ _ o_MT_sideOf_0 ?_
  simp only [k_MT_sideOf_0, jrun, jstep, jldi, jldl, jlda, j1, j2, jl1, jl2, jli, ja1, jbr, jald, jast, jlald, jlast, jalen, jget, jput, jfit, jdup, jdupx, jdupx2, jdup2, jcat, jset1, jset2, jkill, List.getElem?_cons_zero, List.getElem?_cons_succ, List.set_cons_zero, List.set_cons_succ, List.length_cons, List.length_nil, Nat.reduceAdd, Nat.reduceLT, Int32.reduceToNatClampNeg, true_and, and_true, and_self, reduceCtorEq, not_false_eq_true, false_and, and_false, or_false, false_or, true_or, or_true]
  refine ⟨fun h => ?_, fun h => ?_⟩
  · refine jrun_ok jC X k_MT_sideOf_8 8 _ _ _ o_MT_sideOf_8 ?_
    simp only [k_MT_sideOf_8, jrun, jstep, jldi, jldl, jlda, j1, j2, jl1, jl2, jli, ja1, jbr, jald, jast, jlald, jlast, jalen, jget, jput, jfit, jdup, jdupx, jdupx2, jdup2, jcat, jset1, jset2, jkill, List.getElem?_cons_zero, List.getElem?_cons_succ, List.set_cons_zero, List.set_cons_succ, List.length_cons, List.length_nil, Nat.reduceAdd, Nat.reduceLT, Int32.reduceToNatClampNeg, true_and, and_true, and_self, reduceCtorEq, not_false_eq_true, false_and, and_false, or_false, false_or, true_or, or_true]
    exact jk_iret X d_MT_sideOf_11 hr rfl (Nat.le_refl _) (Nat.le_refl _) ⟨by rw [mt_sideOf, if_neg h], rfl, rfl⟩
  · exact jk_iret X d_MT_sideOf_11 hr rfl (Nat.le_refl _) (Nat.le_refl _) ⟨by rw [mt_sideOf, if_pos h], rfl, rfl⟩
def mt_step (a b c : Int32) : Int32 := if a - a / 8 * 8 + b < 0 ∨ 8 ≤ a - a / 8 * 8 + b ∨ a / 8 + c < 0 ∨ 8 ≤ a / 8 + c then -1 else 8 * (a / 8 + c) + (a - a / 8 * 8 + b)
set_option maxRecDepth 100000 in
set_option maxHeartbeats 4000000 in
/-- the square beside, or -1 -/
theorem c_MT_step (l : Launch) (E : jE) (σ : Nat → jcell) (n : Nat) (a b c : Int32) : jMet l E jcl jtb lw_tbl y_MT_step { frames := 0, cells := 0, slots := 0, locals := 0 } [.inl a, .inl b, .inl c] σ n (fun r σ' n' => r = some (.inl (mt_step a b c)) ∧ σ' = σ ∧ n' = n) := by
  refine jMet_of (hY := rfl) false (fun h => by cases h) (by decide) (Nat.le_of_ble_eq_true rfl) [some (.inl a), some (.inl b), some (.inl c), none, none] rfl ?_
  intro M hl hR X hr
  refine jrun_ok jC X k_MT_step_0 0 _ _ _ o_MT_step_0 ?_
  simp only [k_MT_step_0, jrun, jstep, jldi, jldl, jlda, j1, j2, jl1, jl2, jli, ja1, jbr, jald, jast, jlald, jlast, jalen, jget, jput, jfit, jdup, jdupx, jdupx2, jdup2, jcat, jset1, jset2, jkill, List.getElem?_cons_zero, List.getElem?_cons_succ, List.set_cons_zero, List.set_cons_succ, List.length_cons, List.length_nil, Nat.reduceAdd, Nat.reduceLT, Int32.reduceToNatClampNeg, true_and, and_true, and_self, reduceCtorEq, not_false_eq_true, false_and, and_false, or_false, false_or, true_or, or_true]
  have hno : ¬ (8 : Int32) = 0 := by decide
  have hend : ∀ (lv : List (Option jv)), (a - a / 8 * 8 + b < 0 ∨ 8 ≤ a - a / 8 * 8 + b ∨ a / 8 + c < 0 ∨ 8 ≤ a / 8 + c) → jJ E jcl 5 M (jQ E jcl M (fun r σ' n' => r = some (.inl (mt_step a b c)) ∧ σ' = σ ∧ n' = n) 0 0) n 0 0 47 lv [] σ := by
    intro lv h
    refine jrun_ok jC X k_MT_step_47 47 _ _ _ o_MT_step_47 ?_
    simp only [k_MT_step_47, jrun, jstep, jldi, jldl, jlda, j1, j2, jl1, jl2, jli, ja1, jbr, jald, jast, jlald, jlast, jalen, jget, jput, jfit, jdup, jdupx, jdupx2, jdup2, jcat, jset1, jset2, jkill, List.getElem?_cons_zero, List.getElem?_cons_succ, List.set_cons_zero, List.set_cons_succ, List.length_cons, List.length_nil, Nat.reduceAdd, Nat.reduceLT, Int32.reduceToNatClampNeg, true_and, and_true, and_self, reduceCtorEq, not_false_eq_true, false_and, and_false, or_false, false_or, true_or, or_true]
    exact jk_iret X d_MT_step_48 hr rfl (Nat.le_refl _) (Nat.le_refl _) ⟨by rw [mt_step, if_pos h], rfl, rfl⟩
  refine ⟨hno, hno, fun h => hend _ (Or.inl h), fun h1 => ⟨fun h => hend _ (Or.inr (Or.inl h)), fun h2 => ⟨fun h => hend _ (Or.inr (Or.inr (Or.inl h))), fun h3 => ⟨fun h => hend _ (Or.inr (Or.inr (Or.inr h))), fun h4 => ?_⟩⟩⟩⟩
  exact jk_iret X d_MT_step_48 hr rfl (Nat.le_refl _) (Nat.le_refl _) ⟨by rw [mt_step, if_neg (by rintro (h | h | h | h) <;> contradiction)], rfl, rfl⟩
def mt_stands (men : Nat → Int32) (q x : Int32) : Int32 := if q < 0 then 0 else if men q.toNatClampNeg = x then 1 else 0
set_option maxRecDepth 100000 in
set_option maxHeartbeats 4000000 in
theorem c_MT_stands (l : Launch) (E : jE) (σ : Nat → jcell) (n : Nat) (t m : Nat) (fs : List jv) (men : Nat → Int32) (ht : t < n) (h0 : σ t = .inr (12, fs)) (hf : fs[24]? = some (.inr (.inr (some (.inl m))))) (hm : m < n) (h1 : σ m = .inl (.int, 64, .inl men)) (q x : Int32) (hq : q < 0 ∨ vp_in q 64) : jMet l E jcl jtb lw_tbl y_MT_stands { frames := 0, cells := 0, slots := 0, locals := 0 } [.inr (.inr (some (.inl (t)))), .inl q, .inl x] σ n (fun r σ' n' => r = some (.inl (mt_stands men q x)) ∧ σ' = σ ∧ n' = n) := by
  refine jMet_of (hY := rfl) false (fun h => by cases h) (by decide) (Nat.le_of_ble_eq_true rfl) [some (.inr (.inr (some (.inl (t))))), some (.inl q), some (.inl x)] rfl ?_
  intro M hl hR X hr
  refine jrun_ok jC X k_MT_stands_0 0 _ _ _ o_MT_stands_0 ?_
  simp only [k_MT_stands_0, jrun, jstep, jldi, jldl, jlda, j1, j2, jl1, jl2, jli, ja1, jbr, jald, jast, jlald, jlast, jalen, jget, jput, jfit, jdup, jdupx, jdupx2, jdup2, jcat, jset1, jset2, jkill, List.getElem?_cons_zero, List.getElem?_cons_succ, List.set_cons_zero, List.set_cons_succ, List.length_cons, List.length_nil, Nat.reduceAdd, Nat.reduceLT, Int32.reduceToNatClampNeg, true_and, and_true, and_self, reduceCtorEq, not_false_eq_true, false_and, and_false, or_false, false_or, true_or, or_true, h0, hf, h1, ht, hm]
  have hend : ∀ (lv : List (Option jv)), mt_stands men q x = 0 → jJ E jcl 3 M (jQ E jcl M (fun r σ' n' => r = some (.inl (mt_stands men q x)) ∧ σ' = σ ∧ n' = n) 0 0) n 0 0 18 lv [] σ := by
    intro lv h
    refine jrun_ok jC X k_MT_stands_18 18 _ _ _ o_MT_stands_18 ?_
    simp only [k_MT_stands_18, jrun, jstep, jldi, jldl, jlda, j1, j2, jl1, jl2, jli, ja1, jbr, jald, jast, jlald, jlast, jalen, jget, jput, jfit, jdup, jdupx, jdupx2, jdup2, jcat, jset1, jset2, jkill, List.getElem?_cons_zero, List.getElem?_cons_succ, List.set_cons_zero, List.set_cons_succ, List.length_cons, List.length_nil, Nat.reduceAdd, Nat.reduceLT, Int32.reduceToNatClampNeg, true_and, and_true, and_self, reduceCtorEq, not_false_eq_true, false_and, and_false, or_false, false_or, true_or, or_true]
    exact jk_iret X d_MT_stands_19 hr rfl (Nat.le_refl _) (Nat.le_refl _) ⟨by rw [h], rfl, rfl⟩
  refine ⟨fun h => hend _ (by rw [mt_stands, if_pos h]), fun h => ⟨hq.resolve_left h, fun h2 => hend _ (by rw [mt_stands, if_neg h, if_neg h2]), fun h2 => ?_⟩⟩
  exact jk_iret X d_MT_stands_19 hr rfl (Nat.le_refl _) (Nat.le_refl _) ⟨by rw [mt_stands, if_neg h, if_pos h2], rfl, rfl⟩

