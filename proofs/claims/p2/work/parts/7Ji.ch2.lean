/-! the words of a line: the row ALL by hand -/
theorem ck_WOtake : am_WOtake.2.2.2.2.2.all (fun c => !([63, 70].any (fun k => Nat.beq k c.1)) || gPk am_WOtake (.inr (some (.inr 4000))) 3 c) = true := by decide +kernel
theorem dk_WOtake63 : decode prog_13_method_2_code 63 = .ok (.getstatic 34, 3) := by decide +kernel
theorem dk_WOtake70 : decode prog_13_method_2_code 70 = .ok (.getstatic 34, 3) := by decide +kernel
theorem jNW_in {Ts : List Jvm.Cond} {wi : Nat} {w : Jvm.Cond} (h : Ts[wi]? = some w) (hg : jnest w = true) : w ∈ jNW Ts := List.mem_filter.mpr ⟨List.mem_of_getElem? h, hg⟩
section WTK
variable {P : Type} {F : (Nat → Nat) → Nat → aFt P} {JX : (Nat → Nat) → Nat → (Nat → jcell) → Prop} {l : Launch} {E : jE}
theorem az_WOtake (h : gMe F JX l E jtb am_WOtake an_WOtake [63, 70] 8 prog_13_method_2_code false) (K : Nat → Nat) (n : Nat) : aMe (F K n) l E jcl jtb lw_tbl fa_T K n (JX K n) ag_WOtakeH := by
  intro p σ ρ hH hX hA hM
  refine h _ ag_WOtake.2.2.2.2.2.2 ⟨Nat.le_refl _, Nat.le_refl _⟩ K n p σ ρ hH hX hA hM (fun w => w = (K, n, σ, 0, 0)) rfl (fun G hG => by cases hG) ?_ ?_
  · intro K1 n1 σ0 ca sl hw
    cases hw
    exact ⟨⟨Nat.zero_le _, Nat.zero_le _⟩, fun r σ' hp => hp⟩
  · intro M hl hR hsz X hok c hc hx K1 n1 σ0 ca sl hw ρ' lv st σ1 hx0 hcx IH
    cases hw
    have hk := List.all_eq_true.mp ck_WOtake c hc
    rw [Bool.or_eq_true, hx] at hk
    have hk : gPk am_WOtake (.inr (some (.inr 4000))) 3 c = true := hk.resolve_left (fun h9 => by cases h9)
    have hgo := gPk_ok hk (ρ0 := ρ) hA.1.symm hx0 hcx (IH K n σ 0 0 rfl) (v := .inr (.inr (some (.inr 4000)))) (show aG K n (.inr (some (.inr 4000))) _ from ⟨Nat.le_refl _, Nat.le_refl _⟩)
    have hj : ("ChessHouse$Command", "ALL", "[LChessHouse$Command;", Sum.inr 4000) ∈ js0.2.1 := List.mem_of_getElem? (i := 28) rfl
    have X : jX E "ChessHouse$Words" lw_tbl jcl jtb 8 false prog_13_method_2_code M := X
    have hw : Jvm.Cond.fieldLinkNest "ChessHouse$Words" 34 "ChessHouse$Command" "ALL" "[LChessHouse$Command;" "ChessHouse" ∈ jNW lw_tbl := jNW_in (wi := 979) (jtF_ok rfl) rfl
    obtain ⟨k, hk1, hk2⟩ := List.any_eq_true.mp hx
    have hk2 := Nat.eq_of_beq_eq_true hk2
    rcases List.mem_cons.mp hk1 with rfl | hk1
    · rw [← hk2] at hgo ⊢
      exact jk_gsn X dk_WOtake63 hj hw hgo
    · rcases List.mem_cons.mp hk1 with rfl | hk1
      · rw [← hk2] at hgo ⊢
        exact jk_gsn X dk_WOtake70 hj hw hgo
      · cases hk1
end WTK
