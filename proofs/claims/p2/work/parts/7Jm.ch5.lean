/-! numbers written: the contract names no fact, so any table of facts serves -/
theorem aMe_nf {P P' : Type} {F : aFt P} {F' : aFt P'} {l : Launch} {E : jE} {cl : List vw_C} {tb : jTb} {Ts : List Jvm.Cond} {T : List aKd} {K : Nat → Nat} {n : Nat} {JX : (Nat → jcell) → Prop} {G : aCon} (h1 : G.2.2.2.1.2.2.2.2 = []) (h2 : G.2.2.2.2.1.2.2.1.2.2.2 = []) (p0 : P) (h : aMe F l E cl tb Ts T K n JX G) : aMe F' l E cl tb Ts T K n JX G := by
  intro p σ ρ hH hX hA hM
  refine jMet_post (h p0 σ ρ hH hX hA ⟨hM.1, hM.2.1, hM.2.2.1, by rw [h1]; intro q hq; cases hq⟩) ?_
  rintro r σ' n' ⟨q1, q2, q3, q4, q5, q6, xs, q7, q8, q9⟩
  exact ⟨q1, q2, q3, q4, q5, q6, xs, q7, ⟨q8.1, q8.2.1, q8.2.2.1, by rw [h2]; intro q hq; cases hq⟩, q9⟩
section BYN
variable {l : Launch} {E : jE} {K : Nat → Nat} {n : Nat}
theorem az_BYnumbera (h : aMe (fF K n) l E jcl jtb lw_tbl fa_T K n (fJX K n) ag_BYadda) : aMe (fF K n) l E jcl jtb lw_tbl fa_T K n (fJX K n) ag_BYnumbera := aMe_nf rfl rfl ((fun _ => 0, 0, 0, 0), none) (ae_BYnumCa (F := rH 0 K n) (JX := fJX K n) fJX_jx (rH_shf 0 K n) rH_dpa rH_dpr rH_dpm (aMe_nf rfl rfl (Sum.inl (fun _ => 0, fun _ => 0)) h) rw_rqB rw_rqC rw_rqD rw_rqE rw_rqW0)
theorem az_BYnumberw (h : aMe (fF K n) l E jcl jtb lw_tbl fa_T K n (fJX K n) ag_BYaddw) : aMe (fF K n) l E jcl jtb lw_tbl fa_T K n (fJX K n) ag_BYnumberw := aMe_nf rfl rfl ((fun _ => 0, 0, 0, 0), none) (ae_BYnumCw (F := rH 0 K n) (JX := fJX K n) fJX_jx (rH_shf 0 K n) rH_dpa rH_dpr rH_dpm (aMe_nf rfl rfl (Sum.inl (fun _ => 0, fun _ => 0)) h) rw_rqB rw_rqC rw_rqD rw_rqE rw_rqW0)
end BYN
