set_option maxRecDepth 100000 in
set_option maxHeartbeats 4000000 in
theorem c_MT_kind (l : Launch) (E : jE) (σ : Nat → jcell) (n : Nat) (x : Int32) : jMet l E jcl jtb lw_tbl y_MT_kind { frames := 0, cells := 0, slots := 0, locals := 0 } [.inl x] σ n (fun r σ' n' => r = some (.inl (x &&& 7)) ∧ σ' = σ ∧ n' = n) := by
  refine jMet_of (hY := rfl) false (fun h => by cases h) (by decide) (Nat.le_of_ble_eq_true rfl) [some (.inl x)] rfl ?_
  intro M hl hR X hr
  refine jrun_ok jC X k_MT_kind_0 0 _ _ _ o_MT_kind_0 ?_
  simp only [k_MT_kind_0, jrun, jstep, jldi, j1, j2, List.getElem?_cons_zero, List.getElem?_cons_succ, Nat.reduceAdd]
  exact jk_iret X d_MT_kind_4 hr rfl (Nat.le_refl _) (Nat.le_refl _) ⟨rfl, rfl, rfl⟩
set_option maxRecDepth 100000 in
set_option maxHeartbeats 4000000 in
/-- the step from a square: -1, or the square there -/
theorem c_MT_step (l : Launch) (E : jE) (σ : Nat → jcell) (n : Nat) (a b c : Int32) : jMet l E jcl jtb lw_tbl y_MT_step { frames := 0, cells := 0, slots := 0, locals := 0 } [.inl a, .inl b, .inl c] σ n (fun r σ' n' => ∃ v : Int32, r = some (.inl v) ∧ σ' = σ ∧ n' = n) := by
  refine jMet_of (hY := rfl) false (fun h => by cases h) (by decide) (Nat.le_of_ble_eq_true rfl) [some (.inl a), some (.inl b), some (.inl c), none, none] rfl ?_
  intro M hl hR X hr
  refine jrun_ok jC X k_MT_step_0 0 _ _ _ o_MT_step_0 ?_
  simp only [k_MT_step_0, jrun, jstep, jldi, j1, j2, List.getElem?_cons_zero, List.getElem?_cons_succ, Nat.reduceAdd, jset1, jkill, List.set_cons_succ, List.set_cons_zero, jbr]
  trace_state
  sorry
