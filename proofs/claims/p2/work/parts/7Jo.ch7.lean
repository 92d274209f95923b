/-! a tag whose name is a static row, by the check and one step by hand -/
theorem ck_GAsetTagX3 : am_GAsetTagX3.2.2.2.2.2.all (fun c => !([64].any (fun k => Nat.beq k c.1)) || (aRo c.2.1.2.2.1.length c.2.2.2 && (match aCpt am_GAsetTagX3.2.1 ag_GAsetTagf3.2.2.2.2.2.2 3 3 c.2.1 67 with
  | some L => L.all (fun q => am_GAsetTagX3.2.2.2.2.2.any (fun c2 => Nat.beq c2.1 q.1 && aTo am_GAsetTagX3.2.1 c.2.2.2 c2 q.2))
  | none => false))) = true := by decide +kernel
theorem dk_GAsetTagX3 : decode prog_7_method_19_code 64 = .ok (.invokestatic 130, 3) := by decide +kernel
theorem tk_3 : (List.range 3).all (fun i => decide (-128 ≤ (tv_3.getD i 0).toInt) && decide ((tv_3.getD i 0).toInt ≤ 127)) = true := by decide +kernel
section STG
variable {P : Type} {F : (Nat → Nat) → Nat → aFt P} {JX : (Nat → Nat) → Nat → (Nat → jcell) → Prop} {l : Launch} {E : jE}
theorem az_GAsetTagf3 (hJ : ∀ (K : Nat → Nat) (n : Nat), aJx K n fa_Pk (JX K n)) (hD : ∀ (K : Nat → Nat) (n : Nat), aDp (F K n) K n fi_dep) (h : gMe F JX l E jtb am_GAsetTagX3 an_GAsetTagX3 [64] 8 prog_7_method_19_code false) (K : Nat → Nat) (n : Nat) : aMe (F K n) l E jcl jtb lw_tbl fa_T K n (JX K n) ag_GAsetTagf3 := by
  intro p σ ρ hH hX hA hM
  refine h _ ag_GAsetTagf3.2.2.2.2.2.2 ⟨by decide, by decide⟩ K n p σ ρ hH hX hA hM (fun w => w = (K, n, σ, 0, 0)) rfl (fun G hG => by cases hG) ?_ ?_
  · intro K1 n1 σ0 ca sl hw
    cases hw
    exact ⟨⟨Nat.zero_le _, Nat.zero_le _⟩, fun r σ' hp => hp⟩
  · intro M hl hR hsz X hok c hc hx K1 n1 σ0 ca sl hw ρ' lv st σ1 hx0 hcx IH
    cases hw
    have hk := List.all_eq_true.mp ck_GAsetTagX3 c hc
    rw [Bool.or_eq_true, hx] at hk
    have hk := hk.resolve_left (fun h9 => by cases h9)
    rw [Bool.and_eq_true] at hk
    obtain ⟨hro, hk⟩ := hk
    have X : jX E "ChessHouse$Game" lw_tbl jcl jtb 8 false prog_7_method_19_code M := X
    obtain ⟨k, hk1, hk2⟩ := List.any_eq_true.mp hx
    have hk2 := Nat.eq_of_beq_eq_true hk2
    rcases List.mem_cons.mp hk1 with rfl | hk1
    · split at hk
      next L hL =>
        rw [← hk2]
        refine aCpt_ok (C := am_GAsetTagX3.2.1) (rm := ag_GAsetTagf3.2.2.2.2.2.2) (f := fun i => tv_3.getD i 0) ⟨Nat.le_refl _, Nat.le_refl _⟩ X hR (hJ K n) (aFq_dp (hD K n) p) hA.1.symm dk_GAsetTagX3 ⟨jTA_in (wi := 1197) (jtF_ok rfl) rfl, jTA_in (wi := 1199) (jtF_ok rfl) rfl, jTA_in (wi := 1198) (jtF_ok rfl) rfl, jTA_in (wi := 331) (jtF_ok rfl) rfl⟩ rfl (by decide) (fun i hi => ?_) hL hx0 hcx (gArr (m := am_GAsetTagX3) hA.1.symm hk hx0 (gDf hro hcx) (IH K n σ 0 0 rfl))
        have ht := List.all_eq_true.mp tk_3 i (List.mem_range.mpr hi)
        rw [Bool.and_eq_true, decide_eq_true_eq, decide_eq_true_eq] at ht
        exact ht
      next => cases hk
    · cases hk1
end STG
