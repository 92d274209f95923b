/-! the reference: closing: the third table over the first level; attacks -/
theorem aSm_w {vs : List jv} {q Q : aDe} {c c' : jcell} (h2 : Q.2.2 = none) (h3 : ∀ f ∈ q.2.1, f ∈ Q.2.1) (h : aSm vs Q c c') : aSm vs q c c' := by
  rcases h with h | ⟨k, fs, fs', e1, e2, e3, e4⟩ | ⟨ty, m, g1, g2, f, z, e0, -⟩
  · exact Or.inl h
  · exact Or.inr (Or.inl ⟨k, fs, fs', e1, e2, e3, fun f hf => e4 f (h3 f hf)⟩)
  · rw [h2] at e0
    cases e0
theorem rm_ra : ∀ k ∈ List.range 58, (rm_dep.getD (342 + k) []).all (fun q => (ra_dep.getD (342 + k) []).any (fun Q => Nat.beq Q.1 q.1 && (Q.2.2.isNone && q.2.1.all (fun f => Q.2.1.any (fun g => Nat.beq g f))))) = true := by decide +kernel
theorem rm_ral : ra_dep.length ≤ 450 := by decide +kernel
theorem rH_opa {N : Int} {K : Nat → Nat} {n : Nat} : aOc (rH N K n) ra_dep := fun _ p o x y c σ h => rH_op (by decide +kernel) p o x y c σ h
theorem rH_dpr {N : Int} {K : Nat → Nat} {n : Nat} : aDp (rH N K n) K n ra_dep := rF_dp (by decide +kernel) (rB3_hi N K n) (fun p k j vs σ σ' hk h hb => by
  have hk2 := Nat.lt_of_lt_of_le hk rm_ral
  cases c0 : rOk3 k with
  | true => exact (rB3_o c0).mpr (rB2_st h ((rB3_o c0).mp hb))
  | false =>
    have h0 : ¬ (k ≤ 341 ∨ (400 ≤ k ∧ k ≤ 449)) := fun h9 => by
      have e9 : rOk3 k = true := by
        unfold rOk3
        rw [Bool.or_eq_true, Bool.and_eq_true]
        rcases h9 with h9 | h9
        · exact Or.inl (Nat.ble_eq_true_of_le h9)
        · exact Or.inr ⟨Nat.ble_eq_true_of_le h9.1, Nat.ble_eq_true_of_le h9.2⟩
      rw [c0] at e9
      cases e9
    refine rB3_st (fun a ha q hq e => ?_) hb
    have h1 := rm_ra (k - 342) (List.mem_range.mpr (by omega))
    rw [show 342 + (k - 342) = k by omega] at h1
    obtain ⟨Q, hQ, h2⟩ := List.any_eq_true.mp (List.all_eq_true.mp h1 q hq)
    rw [Bool.and_eq_true, Bool.and_eq_true] at h2
    obtain ⟨h2, h3, h4⟩ := h2
    have e2 := Nat.eq_of_beq_eq_true h2
    exact aSm_w (Option.isNone_iff_eq_none.mp h3) (fun f hf => by
      obtain ⟨g, hg, h5⟩ := List.any_eq_true.mp (List.all_eq_true.mp h4 f hf)
      rw [← Nat.eq_of_beq_eq_true h5]
      exact hg) (h a ha Q hQ (e2.trans e))) rH_opa
theorem rH_jx {K : Nat → Nat} {n : Nat} : aJx K n fa_Pk (fun _ => True) := fun _ _ _ _ => ⟨fun _ _ => trivial, by intros; trivial⟩
section CL
variable {l : Launch} {E : jE} {K : Nat → Nat} {n : Nat} {P : Type} {F : aFt P} {JX : (Nat → jcell) → Prop}
theorem az_MEattacks (h : aMe F l E jcl jtb lw_tbl fa_T K n JX ag_MEattX) : aMe F l E jcl jtb lw_tbl fa_T K n JX ag_MEattacks := fun p σ ρ hH hX hA hM => jMet_post (h p σ ρ hH hX hA hM) (fun r σ' n' ⟨h1, h2, h3, h4, h5, h6, xs, x1, ⟨m1, m2, m3, _⟩, x3⟩ => ⟨h1, h2, h3, h4, h5, h6, xs, x1, ⟨m1, m2, m3, fun q hq => by cases hq⟩, x3⟩)
end CL
