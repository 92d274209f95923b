section
/-! the reference: uN -/
noncomputable def ag_rqW0 : aCon := (y_BO_inCheck, false, 1, ([(.inr none, none)], ([], [], [([(0, 1)], -1), ([(0, -1)], 1)], [])), (none, [.inl (1, 1)], ([], [], [], [(7938, [0, 1])]), [[]]), ([], []), { frames := 0, cells := 0, slots := 0, locals := 0 })
noncomputable def ag_rqA : aCon := (y_BO_inCheck, false, 6, ([(.inr none, none), (.inr none, none), (.inr none, none), (.inr none, none), (.inl (-1, 1), none), (.inl (1, 18), none)], ([], [], [([(1, 1)], -10), ([(1, -1)], 10), ([(4, -1)], 0), ([(3, -1)], 999999999999999999)], [(1683, [0, 1, 2]), (1667, [2, 3, 4]), (7938, [0, 5])])), (none, [], ([], [], [([(5, -1)], 17)], []), [[]]), ([], []), { frames := 0, cells := 0, slots := 0, locals := 0 })
noncomputable def ag_rqB : aCon := (y_BO_inCheck, false, 4, ([(.inr none, none), (.inr none, none), (.inr none, none), (.inl (1, 17), none)], ([], [], [([(1, 1)], -10), ([(1, -1)], 10)], [(1683, [0, 1, 2]), (7938, [0, 3])])), (none, [.inl (2, 18)], ([], [], [([(4, 1), (3, -1)], -1), ([(4, -1), (3, 1)], 1)], [(7938, [2, 4])]), [[]]), ([], []), { frames := 0, cells := 0, slots := 0, locals := 0 })
noncomputable def ag_rqC : aCon := (y_BO_inCheck, false, 4, ([(.inr none, none), (.inr none, none), (.inl (-1, 1), none), (.inl (0, 18), none)], ([], [], [([(1, 1)], 0), ([(1, -1)], 0), ([(2, 1)], -1)], [(1667, [0, 1, 2]), (7938, [0, 3])])), (none, [], ([], [], [([(0, 1)], -1), ([(3, 1)], -1)], []), [[]]), ([], []), { frames := 0, cells := 0, slots := 0, locals := 0 })
noncomputable def ag_rqD : aCon := (y_BO_inCheck, false, 4, ([(.inr none, none), (.inr none, none), (.inr none, none), (.inl (1, 18), none)], ([], [], [([(1, 1)], -10), ([(1, -1)], 10)], [(1699, [0, 1, 2]), (7938, [0, 3])])), (none, [.inl (0, 17)], ([], [], [([(4, 1), (3, -1)], 1), ([(4, -1), (3, 1)], -1)], [(7938, [2, 4])]), [[]]), ([], []), { frames := 0, cells := 0, slots := 0, locals := 0 })
section FA
variable {l : Launch} {E : jE} {K : Nat → Nat} {n : Nat} {P : Type} {F : aFt P} {sh : P → List jv → P} {JX : (Nat → jcell) → Prop}
noncomputable def ak_MMputNumC : List jI := [(.lload_n 1, 1, (1, 0, 0, 0, 0)), (.lconst 0, 1, (0, 0, 0, 0, 0)), (.lcmp, 1, (0, 0, 0, 0, 0)), (.ifCond .ge 9, 3, (12, 0, 0, 0, 0)), (.aload_n 0, 1, (0, 0, 0, 0, 0)), (.bipush 45, 2, (0, 0, 0, 45, 0)), (.invokevirtual 81, 3, (0, 0, 2399, 0, 0)), (.lload_n 1, 1, (1, 0, 0, 0, 0)), (.lconst 0, 1, (0, 0, 0, 0, 0)), (.lcmp, 1, (0, 0, 0, 0, 0)), (.ifCond .ge 8, 3, (23, 0, 0, 0, 0)), (.lload_n 1, 1, (999, 0, 0, 0, 0)), (.lneg, 1, (999, 0, 0, 0, 0)), (.goto 4, 3, (999, 0, 0, 0, 0)), (.lload_n 1, 1, (1, 0, 0, 0, 0)), (.lstore_n 3, 1, (3, 0, 0, 0, 0)), (.lconst 1, 1, (0, 0, 0, 0, 1)), (.lstore 5, 2, (5, 0, 0, 0, 0)), (.lload 5, 2, (5, 0, 0, 0, 0)), (.ldc2_w 85, 3, (0, 0, 2411, 0, 10)), (.lmul, 1, (1, 0, 0, 0, 0)), (.lload_n 3, 1, (3, 0, 0, 0, 0)), (.lcmp, 1, (1, 0, 0, 0, 0)), (.ifCond .gt 14, 3, (50, 0, 0, 0, 0)), (.lload 5, 2, (5, 0, 0, 0, 0)), (.ldc2_w 85, 3, (0, 0, 2411, 0, 10)), (.lmul, 1, (1, 0, 0, 0, 0)), (.lstore 5, 2, (5, 0, 0, 0, 0)), (.goto (-19), 3, (28, 0, 0, 0, 0)), (.lload 5, 2, (5, 0, 0, 0, 0)), (.lconst 0, 1, (0, 0, 0, 0, 0)), (.lcmp, 1, (1, 0, 0, 0, 0)), (.ifCond .le 31, 3, (85, 0, 0, 0, 0)), (.aload_n 0, 1, (0, 0, 0, 0, 0)), (.bipush 48, 2, (0, 0, 0, 48, 0)), (.lload_n 3, 1, (3, 0, 0, 0, 0)), (.lload 5, 2, (5, 0, 0, 0, 0)), (.ldiv, 1, (0, 0, 0, 0, 0)), (.ldc2_w 85, 3, (0, 0, 2411, 0, 10)), (.lrem, 1, (0, 0, 0, 0, 0)), (.l2i, 1, (0, 0, 0, 0, 0)), (.iadd, 1, (0, 0, 0, 0, 0)), (.i2c, 1, (0, 0, 0, 0, 0)), (.invokevirtual 81, 3, (0, 0, 2399, 0, 0)), (.lload 5, 2, (5, 0, 0, 0, 0)), (.ldc2_w 85, 3, (0, 0, 2411, 0, 10)), (.ldiv, 1, (1, 0, 0, 0, 0)), (.lstore 5, 2, (5, 0, 0, 0, 0)), (.goto (-32), 3, (50, 0, 0, 0, 0)), (.return_, 1, (0, 0, 0, 0, 0))]
theorem ao_MMputNumC : jokLG jtF lk_MM "ChessHouseModel" jcl jtb 7 prog_15_method_10_code 0 ak_MMputNumC = true := by decide +kernel
noncomputable def ag_MMputNumC : aCon := (y_MM_putNumber, false, 2, ([(.inr (some (.inl (false, 55))), none), (.inr none, none)], ([], [], [([(1, 1)], 999999999999999999), ([(1, -1)], 999999999999999999)], [])), (none, [], ([], [], [], []), [[]]), ([(55, 3)], [(57, ([], 0))]), { frames := 1, cells := 0, slots := 0, locals := 21 })
noncomputable def am_MMputNumC : aMi := (("ChessHouseModel", lw_tbl, jcl, none, [(81, 2399, 0)], [], [], [ag_rqW0, ag_rqA, ag_rqB, ag_rqC, ag_rqD], [(26, 0, [.inr (.inl 0)], [2]), (39, 1, [.inl 5, .inr (.inl 27929), .inr (.inl 27930), .inl 3, .inr (.inl 27674), .inr (.inl 128009)], [2, 3, 4, 5, 6, 7]), (45, 2, [.inl 5, .inr (.inl 27929), .inr (.inl 0), .inr (.inl 128009)], [2, 3, 4, 5]), (57, 3, [.inl 5, .inr (.inl 27673), .inr (.inl 27674), .inr (.inl 128009)], [2, 3, 4, 5]), (80, 4, [.inl 5, .inr (.inl 28185), .inr (.inl 0), .inr (.inl 128009)], [2, 3, 4, 5])]), (fa_T, fa_TB, fa_Pk, [(55, 3)], [(57, ([], 0))], rm_dep, 2), [ag_MMput], ag_MMputNumC, ak_MMputNumC, [(18, ([some 0, some 1, none, none, none, none, none], [], [(.inr (some (.inl (false, 55))), none), (.inr none, none)], ([], [], [([(1, 1)], 999999999999999999), ([(1, -1)], 999999999999999999)], [(0, [])])), [], [([], 3), ([], 0), ([], 0)]), (24, ([some 0, none, none, none, none, none, none], [2], [(.inr (some (.inl (false, 55))), none), (.inr none, none), (.inr none, none)], ([], [], [([(1, 1)], 999999999999999999), ([(1, -1)], 999999999999999999), ([(2, -1)], 999999999999999999)], [(0, [])])), [.inr (.inl 0)], [([], 2), ([], 0), ([], 0)]), (28, ([some 0, none, none, some 2, none, some 3, none], [], [(.inr (some (.inl (false, 55))), none), (.inr none, none), (.inr none, none), (.inr none, none), (.inl (1, 27), none)], ([], [], [([(1, 1)], 999999999999999999), ([(1, -1)], 999999999999999999), ([(2, -1)], 999999999999999999), ([(4, -1)], 18)], [(7938, [3, 4]), (0, [])])), [.inl 3, .inl 5, .inr (.inl 128009)], [([], 1), ([(4, -1)], 18), ([], 0)]), (50, ([some 0, none, none, some 2, none, some 3, none], [], [(.inr (some (.inl (false, 55))), none), (.inr none, none), (.inr none, none), (.inr none, none), (.inl (0, 27), none)], ([], [], [([(4, -1)], 18)], [(7938, [3, 4]), (0, [])])), [.inl 3, .inl 5, .inr (.inl 128009)], [([], 0), ([(4, 1)], 0), ([], 0)]), (0, aEn ag_MMputNumC, [], [([], 4), ([], 0), ([], 0)])])
noncomputable def al_MMputNumC : List (Nat × Nat × Nat) := []
noncomputable def an_MMputNumC : List aCon := []
theorem ac_MMputNumC_o : aOkc am_MMputNumC.2.1 am_MMputNumC.2.2.2.1 = true := by decide +kernel
theorem ac_MMputNumC_0 : ((am_MMputNumC.2.2.2.2.2.drop 0).take 1).all (gCk1 am_MMputNumC al_MMputNumC an_MMputNumC [] [] [18] 22) = true := by decide +kernel
theorem ac_MMputNumC_1 : ((am_MMputNumC.2.2.2.2.2.drop 1).take 1).all (gCk1 am_MMputNumC al_MMputNumC an_MMputNumC [] [] [18] 22) = true := by decide +kernel
theorem ac_MMputNumC_2 : ((am_MMputNumC.2.2.2.2.2.drop 2).take 1).all (gCk1 am_MMputNumC al_MMputNumC an_MMputNumC [] [] [18] 22) = true := by decide +kernel
theorem ac_MMputNumC_3 : ((am_MMputNumC.2.2.2.2.2.drop 3).take 1).all (gCk1 am_MMputNumC al_MMputNumC an_MMputNumC [] [] [18] 22) = true := by decide +kernel
theorem ac_MMputNumC_4 : ((am_MMputNumC.2.2.2.2.2.drop 4).take 1).all (gCk1 am_MMputNumC al_MMputNumC an_MMputNumC [] [] [18] 22) = true := by decide +kernel
theorem ac_MMputNumC : gChk am_MMputNumC al_MMputNumC an_MMputNumC [] [] [18] 22 = true := gChk_1 ac_MMputNumC_o (all_dr 0 1 1 rfl ac_MMputNumC_0 (all_dr 1 1 2 rfl ac_MMputNumC_1 (all_dr 2 1 3 rfl ac_MMputNumC_2 (all_dr 3 1 4 rfl ac_MMputNumC_3 (all_dr 4 1 5 rfl ac_MMputNumC_4 (show (am_MMputNumC.2.2.2.2.2.drop 5).all (gCk1 am_MMputNumC al_MMputNumC an_MMputNumC [] [] [18] 22) = true from rfl))))))
theorem ae_MMputNumC {F : (Nat → Nat) → Nat → aFt P} {JX : (Nat → Nat) → Nat → (Nat → jcell) → Prop} (hJ : ∀ (K : Nat → Nat) (n : Nat), aJx K n fa_Pk (JX K n)) (hS : ∀ (K : Nat → Nat) (n : Nat), aShf (F K n) sh) (hD : ∀ (K : Nat → Nat) (n : Nat), aDp (F K n) K n fa_dep) (hD1 : ∀ (K : Nat → Nat) (n : Nat), aDp (F K n) K n ra_dep) (hD2 : ∀ (K : Nat → Nat) (n : Nat), aDp (F K n) K n rm_dep) (hh_rqA : ∀ (K : Nat → Nat) (n : Nat), aGho (F K n) fa_T K n (JX K n) ag_rqA) (hh_rqB : ∀ (K : Nat → Nat) (n : Nat), aGho (F K n) fa_T K n (JX K n) ag_rqB) (hh_rqC : ∀ (K : Nat → Nat) (n : Nat), aGho (F K n) fa_T K n (JX K n) ag_rqC) (hh_rqD : ∀ (K : Nat → Nat) (n : Nat), aGho (F K n) fa_T K n (JX K n) ag_rqD) (hh_rqW0 : ∀ (K : Nat → Nat) (n : Nat), aGho (F K n) fa_T K n (JX K n) ag_rqW0) (hmn : gMn F []) : gMe F JX l E jtb am_MMputNumC an_MMputNumC [18] 7 prog_15_method_10_code false := gMe_of (m := am_MMputNumC) (lk := al_MMputNumC) (mg := an_MMputNumC) (gi := []) (mo := []) (ex := [18]) (f := 22) rfl (fun h => by cases h) rfl rfl (by decide) (fun _ _ => jtF_ok) lo_MM (fun q h => by cases h) (aAllc (fun G h => by obtain rfl := Option.some.inj h; exact ql_MM_81) (fun q h => by cases h)) (fun q h => by cases h) jC (fun K n => aAllc ⟨ad_MMput, ae_MMput (hJ K n) (hS K n) (hD K n)⟩ (fun G h => by cases h)) (fun K n => aAllc (hh_rqW0 K n) (aAllc (hh_rqA K n) (aAllc (hh_rqB K n) (aAllc (hh_rqC K n) (aAllc (hh_rqD K n) (fun G h => by cases h)))))) fa_tb hJ hS hD2 hmn ao_MMputNumC ac_MMputNumC (List.mem_of_getElem? (i := 4) rfl)
end FA
end
section
/-! the reference: rules of uN -/
theorem rqT (k : Nat) (hk : k < 19) : (10 : Int) ^ k ≤ 1000000000000000000 ∧ 1 ≤ (10 : Int) ^ k := by
  match k, hk with
  | 0, _ => exact ⟨by decide, by decide⟩
  | 1, _ => exact ⟨by decide, by decide⟩
  | 2, _ => exact ⟨by decide, by decide⟩
  | 3, _ => exact ⟨by decide, by decide⟩
  | 4, _ => exact ⟨by decide, by decide⟩
  | 5, _ => exact ⟨by decide, by decide⟩
  | 6, _ => exact ⟨by decide, by decide⟩
  | 7, _ => exact ⟨by decide, by decide⟩
  | 8, _ => exact ⟨by decide, by decide⟩
  | 9, _ => exact ⟨by decide, by decide⟩
  | 10, _ => exact ⟨by decide, by decide⟩
  | 11, _ => exact ⟨by decide, by decide⟩
  | 12, _ => exact ⟨by decide, by decide⟩
  | 13, _ => exact ⟨by decide, by decide⟩
  | 14, _ => exact ⟨by decide, by decide⟩
  | 15, _ => exact ⟨by decide, by decide⟩
  | 16, _ => exact ⟨by decide, by decide⟩
  | 17, _ => exact ⟨by decide, by decide⟩
  | 18, _ => exact ⟨by decide, by decide⟩
  | k + 19, h => omega
theorem rqM {x y : Int64} (h : y.toInt = 10) {k : Nat} (hk : k < 18) (hx : x.toInt = 10 ^ k) : (x * y).toInt = 10 ^ (k + 1) := by
  have h1 := rqT (k + 1) (by omega)
  have e : (10 : Int) ^ (k + 1) = 10 ^ k * 10 := Int.pow_succ 10 k
  rw [Int64.toInt_mul, hx, h, ← e, Int.bmod_eq_of_le (by omega) (by omega)]
theorem rqQ {x y : Int64} (h : y.toInt = 10) {k : Nat} (hk : k < 18) (hx : x.toInt = 10 ^ (k + 1)) : (x / y).toInt = 10 ^ k := by
  have h1 := rqT k (by omega)
  have e : (10 : Int) ^ (k + 1) = 10 ^ k * 10 := Int.pow_succ 10 k
  rw [Int64.toInt_div, hx, h, e, Int.mul_tdiv_cancel _ (by decide), Int.bmod_eq_of_le (by omega) (by omega)]
theorem rqO {x y : Int64} (h : y.toInt = 10) (hx : x.toInt = 1) : (x / y).toInt = 0 := by
  rw [Int64.toInt_div, hx, h]
  decide
theorem rw_rvN3 {N : Int} {K : Nat → Nat} {n : Nat} {JX : (Nat → jcell) → Prop} : aGho (rH N K n) fa_T K n JX ag_rvN3 := by
  refine aGho_of ⟨rfl, rfl⟩ ?_
  intro p σ ρ hH hX hA hM0
  have hG := aAG_of hA.1 (fun i e v he hv => (hA.2 i e v he hv).1)
  clear hA
  obtain ⟨v0, rfl, g0⟩ := rA_1 hG
  clear hG
  obtain ⟨x0, rfl, b0, d0⟩ := aG_int g0
  dsimp only at b0 d0
  obtain ⟨m1, m2, m3, m4⟩ := hM0
  clear m1 m2 m3 m4
  have hd : (0 ≤ (1 * x0.toInt + 0) + -1 ∧ 0 ≤ (-1 * x0.toInt + 0) + 1) ∨ (0 ≤ (1 * x0.toInt + 0) + -2 ∧ 0 ≤ (-1 * x0.toInt + 0) + 2) ∨ (0 ≤ (1 * x0.toInt + 0) + -3 ∧ 0 ≤ (-1 * x0.toInt + 0) + 3) := by
    omega
  rcases hd with ⟨w0, w1⟩ | ⟨w0, w1⟩ | ⟨w0, w1⟩
  · exact ⟨p, fun _ => rfl, ⟨(fun q h => by cases h), fun q h => (by cases h), (fun f h => by cases h), (fun f h => by cases h)⟩, _, List.mem_of_getElem? (i := 0) rfl, (aAllc ⟨_, rfl, w0⟩ (aAllc ⟨_, rfl, w1⟩ (fun f h => by cases h)))⟩
  · exact ⟨p, fun _ => rfl, ⟨(fun q h => by cases h), fun q h => (by cases h), (fun f h => by cases h), (fun f h => by cases h)⟩, _, List.mem_of_getElem? (i := 1) rfl, (aAllc ⟨_, rfl, w0⟩ (aAllc ⟨_, rfl, w1⟩ (fun f h => by cases h)))⟩
  · exact ⟨p, fun _ => rfl, ⟨(fun q h => by cases h), fun q h => (by cases h), (fun f h => by cases h), (fun f h => by cases h)⟩, _, List.mem_of_getElem? (i := 2) rfl, (aAllc ⟨_, rfl, w0⟩ (aAllc ⟨_, rfl, w1⟩ (fun f h => by cases h)))⟩
theorem rw_rqW0 {N : Int} {K : Nat → Nat} {n : Nat} {JX : (Nat → jcell) → Prop} : aGho (rH N K n) fa_T K n JX ag_rqW0 := by
  refine aGho_n1 (b := (1, 1)) rfl rfl ?_
  intro p σ ρ hH hX hA hM0
  have hG := aAG_of hA.1 (fun i e v he hv => (hA.2 i e v he hv).1)
  clear hA
  obtain ⟨v0, rfl, g0⟩ := rA_1 hG
  clear hG
  obtain ⟨x0, rfl⟩ := aG_lng g0
  obtain ⟨m1, m2, m3, m4⟩ := hM0
  have l0 : 0 ≤ (1 * x0.toInt + 0) + -1 := by
    obtain ⟨z, e6, e7⟩ := m3 ([(0, 1)], -1) (List.mem_of_getElem? (i := 0) rfl)
    obtain rfl : (1 * x0.toInt + 0) = z := Option.some.inj (show some (1 * x0.toInt + 0) = some z from e6)
    exact e7
  have l1 : 0 ≤ (-1 * x0.toInt + 0) + 1 := by
    obtain ⟨z, e6, e7⟩ := m3 ([(0, -1)], 1) (List.mem_of_getElem? (i := 1) rfl)
    obtain rfl : (-1 * x0.toInt + 0) = z := Option.some.inj (show some (-1 * x0.toInt + 0) = some z from e6)
    exact e7
  clear m1 m2 m3 m4
  obtain ⟨x1, e1⟩ := rI32x (z := 1) (by omega) (by omega)
  have b1 : 1 ≤ x1.toInt := by omega
  have d1 : x1.toInt ≤ 1 := by omega
  have q0 : rB3 N K n p 496 [rL x0, rI x1] σ := ro3_496.mpr (by
    exact Or.inr ⟨by omega, by omega, by rw [show (x1.toInt - 1).toNat = 0 by omega]; omega⟩)
  exact ⟨p, x1, fun _ => rfl, b1, d1, ⟨(fun q h => by cases h), fun q h => (by cases h), (fun f h => by cases h), (aAllc ⟨_, rfl, (rF_b (r := 7938) (by decide) rfl).mpr q0⟩ (fun f h => by cases h))⟩, [], List.mem_cons_self, fun f h => (by cases h)⟩
theorem rw_rqA {N : Int} {K : Nat → Nat} {n : Nat} {JX : (Nat → jcell) → Prop} : aGho (rH N K n) fa_T K n JX ag_rqA := by
  refine aGho_of ⟨rfl, rfl⟩ ?_
  intro p σ ρ hH hX hA hM0
  have hG := aAG_of hA.1 (fun i e v he hv => (hA.2 i e v he hv).1)
  clear hA
  obtain ⟨v0, v1, v2, v3, v4, v5, rfl, g0, g1, g2, g3, g4, g5⟩ := rA_6 hG
  clear hG
  obtain ⟨x0, rfl⟩ := aG_lng g0
  obtain ⟨x1, rfl⟩ := aG_lng g1
  obtain ⟨x2, rfl⟩ := aG_lng g2
  obtain ⟨x3, rfl⟩ := aG_lng g3
  obtain ⟨x4, rfl, b4, d4⟩ := aG_int g4
  dsimp only at b4 d4
  obtain ⟨x5, rfl, b5, d5⟩ := aG_int g5
  dsimp only at b5 d5
  obtain ⟨m1, m2, m3, m4⟩ := hM0
  have l0 : 0 ≤ (1 * x1.toInt + 0) + -10 := by
    obtain ⟨z, e6, e7⟩ := m3 ([(1, 1)], -10) (List.mem_of_getElem? (i := 0) rfl)
    obtain rfl : (1 * x1.toInt + 0) = z := Option.some.inj (show some (1 * x1.toInt + 0) = some z from e6)
    exact e7
  have l1 : 0 ≤ (-1 * x1.toInt + 0) + 10 := by
    obtain ⟨z, e6, e7⟩ := m3 ([(1, -1)], 10) (List.mem_of_getElem? (i := 1) rfl)
    obtain rfl : (-1 * x1.toInt + 0) = z := Option.some.inj (show some (-1 * x1.toInt + 0) = some z from e6)
    exact e7
  have l2 : 0 ≤ (-1 * x4.toInt + 0) + 0 := by
    obtain ⟨z, e6, e7⟩ := m3 ([(4, -1)], 0) (List.mem_of_getElem? (i := 2) rfl)
    obtain rfl : (-1 * x4.toInt + 0) = z := Option.some.inj (show some (-1 * x4.toInt + 0) = some z from e6)
    exact e7
  have l3 : 0 ≤ (-1 * x3.toInt + 0) + 999999999999999999 := by
    obtain ⟨z, e6, e7⟩ := m3 ([(3, -1)], 999999999999999999) (List.mem_of_getElem? (i := 3) rfl)
    obtain rfl : (-1 * x3.toInt + 0) = z := Option.some.inj (show some (-1 * x3.toInt + 0) = some z from e6)
    exact e7
  have f0 : rB3 N K n p 105 [rL x0, rL x1, rL x2] σ := by
    obtain ⟨w, e6, e7⟩ := m4 (1683, [0, 1, 2]) (List.mem_of_getElem? (i := 0) rfl)
    obtain rfl : [rL x0, rL x1, rL x2] = w := Option.some.inj (show some [rL x0, rL x1, rL x2] = some w from e6)
    exact (rF_b (r := 1683) (by decide) rfl).mp e7
  have f0 : x2 = x0 * x1 := Sum.inl.inj (Sum.inr.inj (ro3_105.mp f0))
  have f1 : rB3 N K n p 104 [rL x2, rL x3, rI x4] σ := by
    obtain ⟨w, e6, e7⟩ := m4 (1667, [2, 3, 4]) (List.mem_of_getElem? (i := 1) rfl)
    obtain rfl : [rL x2, rL x3, rI x4] = w := Option.some.inj (show some [rL x2, rL x3, rI x4] = some w from e6)
    exact (rF_b (r := 1667) (by decide) rfl).mp e7
  have f1 : x4 = lg_cmp x2 x3 := Sum.inl.inj (ro3_104.mp f1)
  have f2 : rB3 N K n p 496 [rL x0, rI x5] σ := by
    obtain ⟨w, e6, e7⟩ := m4 (7938, [0, 5]) (List.mem_of_getElem? (i := 2) rfl)
    obtain rfl : [rL x0, rI x5] = w := Option.some.inj (show some [rL x0, rI x5] = some w from e6)
    exact (rF_b (r := 7938) (by decide) rfl).mp e7
  have f2 := ro3_496.mp f2
  clear m1 m2 m3 m4
  have r0 : 0 ≤ (-1 * x5.toInt + 0) + 17 := by
    have e2 : x2 = x0 * x1 := f0
    have e4 : x4 = lg_cmp x2 x3 := f1
    by_cases h18 : x5.toInt = 18
    · rcases f2 with f2 | ⟨-, -, f2⟩
      · omega
      · rw [show (x5.toInt - 1).toNat = 17 by omega] at f2
        have m1 := rqM (x := x0) (y := x1) (by omega) (k := 17) (by omega) f2
        rw [← e2, show (10 : Int) ^ (17 + 1) = 1000000000000000000 from by decide] at m1
        rcases aLc_c x2 x3 with ⟨h1, h2⟩ | ⟨h1, h2⟩ | ⟨h1, h2⟩ <;> rw [← e4] at h2 <;> omega
    · omega
  exact ⟨p, fun _ => rfl, ⟨(fun q h => by cases h), fun q h => (by cases h), (aAllc ⟨_, rfl, r0⟩ (fun f h => by cases h)), (fun f h => by cases h)⟩, [], List.mem_cons_self, fun f h => (by cases h)⟩
theorem rw_rqB {N : Int} {K : Nat → Nat} {n : Nat} {JX : (Nat → jcell) → Prop} : aGho (rH N K n) fa_T K n JX ag_rqB := by
  refine aGho_n1 (b := (2, 18)) rfl rfl ?_
  intro p σ ρ hH hX hA hM0
  have hG := aAG_of hA.1 (fun i e v he hv => (hA.2 i e v he hv).1)
  clear hA
  obtain ⟨v0, v1, v2, v3, rfl, g0, g1, g2, g3⟩ := rA_4 hG
  clear hG
  obtain ⟨x0, rfl⟩ := aG_lng g0
  obtain ⟨x1, rfl⟩ := aG_lng g1
  obtain ⟨x2, rfl⟩ := aG_lng g2
  obtain ⟨x3, rfl, b3, d3⟩ := aG_int g3
  dsimp only at b3 d3
  obtain ⟨m1, m2, m3, m4⟩ := hM0
  have l0 : 0 ≤ (1 * x1.toInt + 0) + -10 := by
    obtain ⟨z, e6, e7⟩ := m3 ([(1, 1)], -10) (List.mem_of_getElem? (i := 0) rfl)
    obtain rfl : (1 * x1.toInt + 0) = z := Option.some.inj (show some (1 * x1.toInt + 0) = some z from e6)
    exact e7
  have l1 : 0 ≤ (-1 * x1.toInt + 0) + 10 := by
    obtain ⟨z, e6, e7⟩ := m3 ([(1, -1)], 10) (List.mem_of_getElem? (i := 1) rfl)
    obtain rfl : (-1 * x1.toInt + 0) = z := Option.some.inj (show some (-1 * x1.toInt + 0) = some z from e6)
    exact e7
  have f0 : rB3 N K n p 105 [rL x0, rL x1, rL x2] σ := by
    obtain ⟨w, e6, e7⟩ := m4 (1683, [0, 1, 2]) (List.mem_of_getElem? (i := 0) rfl)
    obtain rfl : [rL x0, rL x1, rL x2] = w := Option.some.inj (show some [rL x0, rL x1, rL x2] = some w from e6)
    exact (rF_b (r := 1683) (by decide) rfl).mp e7
  have f0 : x2 = x0 * x1 := Sum.inl.inj (Sum.inr.inj (ro3_105.mp f0))
  have f1 : rB3 N K n p 496 [rL x0, rI x3] σ := by
    obtain ⟨w, e6, e7⟩ := m4 (7938, [0, 3]) (List.mem_of_getElem? (i := 1) rfl)
    obtain rfl : [rL x0, rI x3] = w := Option.some.inj (show some [rL x0, rI x3] = some w from e6)
    exact (rF_b (r := 7938) (by decide) rfl).mp e7
  have f1 := ro3_496.mp f1
  clear m1 m2 m3 m4
  obtain ⟨x4, e4⟩ := rI32x (z := x3.toInt + 1) (by omega) (by omega)
  have b4 : 2 ≤ x4.toInt := by omega
  have d4 : x4.toInt ≤ 18 := by omega
  have r0 : 0 ≤ (1 * x4.toInt + (-1 * x3.toInt + 0)) + -1 := by
    omega
  have r1 : 0 ≤ (-1 * x4.toInt + (1 * x3.toInt + 0)) + 1 := by
    omega
  have q0 : rB3 N K n p 496 [rL x2, rI x4] σ := ro3_496.mpr (by
    have e2 : x2 = x0 * x1 := f0
    rcases f1 with f1 | ⟨-, -, f1⟩
    · omega
    · refine Or.inr ⟨by omega, by omega, ?_⟩
      have m1 := rqM (x := x0) (y := x1) (by omega) (k := (x3.toInt - 1).toNat) (by omega) f1
      rw [← e2, show (x3.toInt - 1).toNat + 1 = (x4.toInt - 1).toNat by omega] at m1
      exact m1)
  exact ⟨p, x4, fun _ => rfl, b4, d4, ⟨(fun q h => by cases h), fun q h => (by cases h), (aAllc ⟨_, rfl, r0⟩ (aAllc ⟨_, rfl, r1⟩ (fun f h => by cases h))), (aAllc ⟨_, rfl, (rF_b (r := 7938) (by decide) rfl).mpr q0⟩ (fun f h => by cases h))⟩, [], List.mem_cons_self, fun f h => (by cases h)⟩
theorem rw_rqC {N : Int} {K : Nat → Nat} {n : Nat} {JX : (Nat → jcell) → Prop} : aGho (rH N K n) fa_T K n JX ag_rqC := by
  refine aGho_of ⟨rfl, rfl⟩ ?_
  intro p σ ρ hH hX hA hM0
  have hG := aAG_of hA.1 (fun i e v he hv => (hA.2 i e v he hv).1)
  clear hA
  obtain ⟨v0, v1, v2, v3, rfl, g0, g1, g2, g3⟩ := rA_4 hG
  clear hG
  obtain ⟨x0, rfl⟩ := aG_lng g0
  obtain ⟨x1, rfl⟩ := aG_lng g1
  obtain ⟨x2, rfl, b2, d2⟩ := aG_int g2
  dsimp only at b2 d2
  obtain ⟨x3, rfl, b3, d3⟩ := aG_int g3
  dsimp only at b3 d3
  obtain ⟨m1, m2, m3, m4⟩ := hM0
  have l0 : 0 ≤ (1 * x1.toInt + 0) + 0 := by
    obtain ⟨z, e6, e7⟩ := m3 ([(1, 1)], 0) (List.mem_of_getElem? (i := 0) rfl)
    obtain rfl : (1 * x1.toInt + 0) = z := Option.some.inj (show some (1 * x1.toInt + 0) = some z from e6)
    exact e7
  have l1 : 0 ≤ (-1 * x1.toInt + 0) + 0 := by
    obtain ⟨z, e6, e7⟩ := m3 ([(1, -1)], 0) (List.mem_of_getElem? (i := 1) rfl)
    obtain rfl : (-1 * x1.toInt + 0) = z := Option.some.inj (show some (-1 * x1.toInt + 0) = some z from e6)
    exact e7
  have l2 : 0 ≤ (1 * x2.toInt + 0) + -1 := by
    obtain ⟨z, e6, e7⟩ := m3 ([(2, 1)], -1) (List.mem_of_getElem? (i := 2) rfl)
    obtain rfl : (1 * x2.toInt + 0) = z := Option.some.inj (show some (1 * x2.toInt + 0) = some z from e6)
    exact e7
  have f0 : rB3 N K n p 104 [rL x0, rL x1, rI x2] σ := by
    obtain ⟨w, e6, e7⟩ := m4 (1667, [0, 1, 2]) (List.mem_of_getElem? (i := 0) rfl)
    obtain rfl : [rL x0, rL x1, rI x2] = w := Option.some.inj (show some [rL x0, rL x1, rI x2] = some w from e6)
    exact (rF_b (r := 1667) (by decide) rfl).mp e7
  have f0 : x2 = lg_cmp x0 x1 := Sum.inl.inj (ro3_104.mp f0)
  have f1 : rB3 N K n p 496 [rL x0, rI x3] σ := by
    obtain ⟨w, e6, e7⟩ := m4 (7938, [0, 3]) (List.mem_of_getElem? (i := 1) rfl)
    obtain rfl : [rL x0, rI x3] = w := Option.some.inj (show some [rL x0, rI x3] = some w from e6)
    exact (rF_b (r := 7938) (by decide) rfl).mp e7
  have f1 := ro3_496.mp f1
  clear m1 m2 m3 m4
  have r0 : 0 ≤ (1 * x0.toInt + 0) + -1 := by
    have e4 : x2 = lg_cmp x0 x1 := f0
    rcases aLc_c x0 x1 with ⟨h1, h2⟩ | ⟨h1, h2⟩ | ⟨h1, h2⟩ <;> rw [← e4] at h2
    · omega
    · omega
    · rcases f1 with f1 | f1 <;> omega
  have r1 : 0 ≤ (1 * x3.toInt + 0) + -1 := by
    have e4 : x2 = lg_cmp x0 x1 := f0
    rcases aLc_c x0 x1 with ⟨h1, h2⟩ | ⟨h1, h2⟩ | ⟨h1, h2⟩ <;> rw [← e4] at h2
    · omega
    · omega
    · rcases f1 with f1 | f1 <;> omega
  exact ⟨p, fun _ => rfl, ⟨(fun q h => by cases h), fun q h => (by cases h), (aAllc ⟨_, rfl, r0⟩ (aAllc ⟨_, rfl, r1⟩ (fun f h => by cases h))), (fun f h => by cases h)⟩, [], List.mem_cons_self, fun f h => (by cases h)⟩
theorem rw_rqD {N : Int} {K : Nat → Nat} {n : Nat} {JX : (Nat → jcell) → Prop} : aGho (rH N K n) fa_T K n JX ag_rqD := by
  refine aGho_n1 (b := (0, 17)) rfl rfl ?_
  intro p σ ρ hH hX hA hM0
  have hG := aAG_of hA.1 (fun i e v he hv => (hA.2 i e v he hv).1)
  clear hA
  obtain ⟨v0, v1, v2, v3, rfl, g0, g1, g2, g3⟩ := rA_4 hG
  clear hG
  obtain ⟨x0, rfl⟩ := aG_lng g0
  obtain ⟨x1, rfl⟩ := aG_lng g1
  obtain ⟨x2, rfl⟩ := aG_lng g2
  obtain ⟨x3, rfl, b3, d3⟩ := aG_int g3
  dsimp only at b3 d3
  obtain ⟨m1, m2, m3, m4⟩ := hM0
  have l0 : 0 ≤ (1 * x1.toInt + 0) + -10 := by
    obtain ⟨z, e6, e7⟩ := m3 ([(1, 1)], -10) (List.mem_of_getElem? (i := 0) rfl)
    obtain rfl : (1 * x1.toInt + 0) = z := Option.some.inj (show some (1 * x1.toInt + 0) = some z from e6)
    exact e7
  have l1 : 0 ≤ (-1 * x1.toInt + 0) + 10 := by
    obtain ⟨z, e6, e7⟩ := m3 ([(1, -1)], 10) (List.mem_of_getElem? (i := 1) rfl)
    obtain rfl : (-1 * x1.toInt + 0) = z := Option.some.inj (show some (-1 * x1.toInt + 0) = some z from e6)
    exact e7
  have f0 : rB3 N K n p 106 [rL x0, rL x1, rL x2] σ := by
    obtain ⟨w, e6, e7⟩ := m4 (1699, [0, 1, 2]) (List.mem_of_getElem? (i := 0) rfl)
    obtain rfl : [rL x0, rL x1, rL x2] = w := Option.some.inj (show some [rL x0, rL x1, rL x2] = some w from e6)
    exact (rF_b (r := 1699) (by decide) rfl).mp e7
  have f0 : ¬ x1 = 0 ∧ x2 = x0 / x1 := ⟨(ro3_106.mp f0).1, Sum.inl.inj (Sum.inr.inj ((ro3_106.mp f0).2))⟩
  have f1 : rB3 N K n p 496 [rL x0, rI x3] σ := by
    obtain ⟨w, e6, e7⟩ := m4 (7938, [0, 3]) (List.mem_of_getElem? (i := 1) rfl)
    obtain rfl : [rL x0, rI x3] = w := Option.some.inj (show some [rL x0, rI x3] = some w from e6)
    exact (rF_b (r := 7938) (by decide) rfl).mp e7
  have f1 := ro3_496.mp f1
  clear m1 m2 m3 m4
  obtain ⟨x4, e4⟩ := rI32x (z := x3.toInt - 1) (by omega) (by omega)
  have b4 : 0 ≤ x4.toInt := by omega
  have d4 : x4.toInt ≤ 17 := by omega
  have r0 : 0 ≤ (1 * x4.toInt + (-1 * x3.toInt + 0)) + 1 := by
    omega
  have r1 : 0 ≤ (-1 * x4.toInt + (1 * x3.toInt + 0)) + -1 := by
    omega
  have q0 : rB3 N K n p 496 [rL x2, rI x4] σ := ro3_496.mpr (by
    have e2 : x2 = x0 / x1 := f0.2
    rcases f1 with f1 | ⟨-, -, f1⟩
    · omega
    · by_cases h1 : x3.toInt = 1
      · refine Or.inl ⟨by omega, ?_⟩
        rw [show (x3.toInt - 1).toNat = 0 by omega] at f1
        rw [e2]
        exact rqO (by omega) f1
      · refine Or.inr ⟨by omega, by omega, ?_⟩
        rw [show (x3.toInt - 1).toNat = (x4.toInt - 1).toNat + 1 by omega] at f1
        rw [e2]
        exact rqQ (by omega) (by omega) f1)
  exact ⟨p, x4, fun _ => rfl, b4, d4, ⟨(fun q h => by cases h), fun q h => (by cases h), (aAllc ⟨_, rfl, r0⟩ (aAllc ⟨_, rfl, r1⟩ (fun f h => by cases h))), (aAllc ⟨_, rfl, (rF_b (r := 7938) (by decide) rfl).mpr q0⟩ (fun f h => by cases h))⟩, [], List.mem_cons_self, fun f h => (by cases h)⟩
end
section
noncomputable def kz_118 : List jI := [(.aload_n 0, 1, (0, 0, 0, 0, 0)), (.getfield 468, 3, (11, 7, 2309, 0, 0)), (.ifnonnull 17, 3, (139, 0, 0, 0, 0))]
theorem oz_118 : jokL "ChessHouseModel" lw_tbl jcl jtb 9 false prog_15_method_53_code 118 kz_118 = true := jokLF_ok (fun _ _ => jtF_ok) lo_MM (by decide +kernel)
noncomputable def kz_128 : List jI := [(.dup, 1, (0, 0, 0, 0, 0)), (.bipush 8, 2, (0, 0, 0, 8, 0)), (.bipush 8, 2, (0, 0, 0, 8, 0))]
theorem oz_128 : jokL "ChessHouseModel" lw_tbl jcl jtb 9 false prog_15_method_53_code 128 kz_128 = true := jokLF_ok (fun _ _ => jtF_ok) lo_MM (by decide +kernel)
noncomputable def kz_136 : List jI := [(.goto 7, 3, (143, 0, 0, 0, 0))]
theorem oz_136 : jokL "ChessHouseModel" lw_tbl jcl jtb 9 false prog_15_method_53_code 136 kz_136 = true := jokLF_ok (fun _ _ => jtF_ok) lo_MM (by decide +kernel)
noncomputable def kz_139 : List jI := [(.aload_n 0, 1, (0, 0, 0, 0, 0)), (.getfield 468, 3, (11, 7, 2309, 0, 0)), (.putfield 468, 3, (11, 7, 2309, 3, 0))]
theorem oz_139 : jokL "ChessHouseModel" lw_tbl jcl jtb 9 false prog_15_method_53_code 139 kz_139 = true := jokLF_ok (fun _ _ => jtF_ok) lo_MM (by decide +kernel)
noncomputable def kz_143 : List jI := [(.putfield 468, 3, (11, 7, 2309, 3, 0))]
theorem oz_143 : jokL "ChessHouseModel" lw_tbl jcl jtb 9 false prog_15_method_53_code 143 kz_143 = true := jokLF_ok (fun _ _ => jtF_ok) lo_MM (by decide +kernel)
theorem dz_125 : decode prog_15_method_53_code 125 = .ok (.new 472, 3) := by decide +kernel
theorem dz_133 : decode prog_15_method_53_code 133 = .ok (.invokespecial 474, 3) := by decide +kernel
theorem qz_133 : jlm lw_tbl 3048 "ChessHouseModel" 474 ⟨"ChessHouseModel$Ends", "<init>", "(II)V"⟩ = true := jlm_of (Or.inl (jtF_ok rfl))
noncomputable def ze_118 : aCu := (118, ([some 0, some 5, none, some 6, some 7, none, none, none, none], [0], [(.inr (some (.inl (false, 55))), none), (.inr (some (.inl (false, 62))), none), (.inl (0, 1), none), (.inl (0, 300), none), (.inr (some (.inl (true, 109))), none), (.inl (0, 63), none), (.inl (0, 63), none), (.inl (0, 63), none)], ([(0, 5, 1), (1, 5, 2), (1, 6, 3), (0, 7, 4)], [], [], [(5873, [1]), (6370, [1, 5]), (7665, [5]), (6401, [1]), (3521, [1]), (7395, [1, 2, 3]), (7409, [1]), (384, []), (3859, [1, 2, 3]), (6385, [0])])), [.inl 1, .inl 3, .inl 4], [([], 1), ([], 0), ([], 0)])
noncomputable def ze_146 : aCu := (146, ([some 0, some 5, none, some 6, some 7, none, none, none, none], [], [(.inr (some (.inl (false, 55))), none), (.inr (some (.inl (false, 62))), none), (.inl (0, 1), none), (.inl (0, 300), none), (.inr (some (.inl (true, 109))), none), (.inl (0, 63), none), (.inl (0, 63), none), (.inl (0, 63), none), (.inr (some (.inl (false, 109))), none)], ([(0, 5, 1), (1, 5, 2), (1, 6, 3), (0, 7, 8)], [], [], [(5873, [1]), (6370, [1, 5]), (5649, [8])])), [.inl 1, .inl 3, .inl 4, .inr (.inr (0, 7))], [([], 0), ([], 0), ([], 0)])
noncomputable def zK (K : Nat → Nat) (n : Nat) : Nat → Nat := fun a => if a < n then K a else 109 + (a - n)
theorem zK_gw {K : Nat → Nat} {n : Nat} : gW K n (zK K n) (n + 5) := ⟨by omega, fun a ha => if_pos ha⟩
theorem zK_ki {K : Nat → Nat} {n : Nat} : zKi n (zK K n) (n + 5) := fun a h1 h2 => by
  unfold zK
  rw [if_neg (by omega)]
  omega
theorem zK_at {K : Nat → Nat} {n : Nat} (k : Nat) : zK K n (n + k) = 109 + k := by
  unfold zK
  rw [if_neg (by omega)]
  omega
theorem aCe_gw {K K' : Nat → Nat} {n n' : Nat} (h : gW K n K' n') {d : aKd} {c : jcell} (hc : aCe K n d c) : aCe K' n' d c := by
  rcases d with q | q
  · rcases c with ⟨t, m, g | g | g⟩ | y
    · exact hc
    · exact hc
    · exact hc
    · exact hc.elim
  · obtain ⟨fs, rfl, h1, h2⟩ := aCe_obj hc
    exact ⟨rfl, h1, fun f t v ht hv => aG_gw h (h2 f t v ht hv)⟩
/-- a field of the reference's object is written -/
theorem zFr_put {K : Nat → Nat} {n : Nat} {md : List (Nat × Nat)} {σ0 σ : Nat → jcell} (h : aFr K n md σ0 σ) {a c f : Nat} {fs : List jv} {v : jv} (hs : σ a = .inr (c, fs)) (hm : (K a, f) ∈ md) : aFr K n md σ0 (jup σ a (.inr (c, fs.set f v))) := by
  intro b hb c1 gs he
  obtain ⟨gs', e1, e2, e3⟩ := h b hb c1 gs he
  by_cases e : b = a
  · subst e
    rw [hs] at e1
    cases e1
    refine ⟨fs.set f v, jup_s, by rw [List.length_set]; exact e2, fun g w hw hn => ?_⟩
    have hg : g ≠ f := fun e => hn (by rw [e]; exact hm)
    rw [List.getElem?_set_ne (Ne.symm hg)]
    exact e3 g w hw hn
  · exact ⟨gs', by rw [jup_n e]; exact e1, e2, e3⟩
noncomputable def zOb (n : Nat) : jcell := .inr (14, [.inl 0, .inl 8, .inl 8, .inr (.inr (some (.inl (n + 1)))), .inr (.inr (some (.inl (n + 1 + 1)))), .inr (.inr (some (.inl (n + 1 + 2)))), .inl 0, .inl 0, .inl 0, .inl 0, .inl 0, .inl 0, .inr (.inr (some (.inl (n + 1 + 3)))), .inl 0])
noncomputable def zCs : List jcell := [.inl (.long, 327680, .inr (.inl fun _ => 0)), .inl (.boolean, 6, .inl fun _ => 0), .inl (.int, 6, .inl fun _ => 0), .inl (.int, 64, .inl fun _ => 0)]
noncomputable def zS3 (σ : Nat → jcell) (n : Nat) (o : jcell) : Nat → jcell := jmk (jup σ n o) n (n + 1) (zOb n) zCs
theorem zS3_lo {σ : Nat → jcell} {n a : Nat} {o : jcell} (h : a < n) : zS3 σ n o a = σ a := by
  unfold zS3
  rw [jmk_lo (by omega) (by omega), jup_n (by omega)]
theorem zS3_hi {σ : Nat → jcell} {n k : Nat} {o c : jcell} (h : zCs[k]? = some c) : zS3 σ n o (n + 1 + k) = c := jmk_at (by omega) h
theorem zS3_ob {σ : Nat → jcell} {n : Nat} {o : jcell} : zS3 σ n o n = zOb n := jmk_a
/-- the new cells are of their kinds -/
theorem zS3_new {K : Nat → Nat} {σ : Nat → jcell} {n : Nat} {o : jcell} : ∀ a, n ≤ a → a < n + 5 → ∀ d, fa_T[zK K n a]? = some d → aCe (zK K n) (n + 5) d (zS3 σ n o a) := by
  intro a h1 h2 d hd
  have hk : ∀ k, k < 5 → aG (zK K n) (n + 5) (.inr (some (.inl (false, 109 + k)))) (.inr (.inr (some (.inl (n + k))))) := fun k hk => ⟨by omega, Or.inl (zK_at k)⟩
  obtain ⟨k, rfl⟩ := Nat.exists_eq_add_of_le h1
  rw [zK_at] at hd
  have hz : ∀ i : Nat, (0 : Int32).toInt = 0 := fun _ => rfl
  match k, h2, hd with
  | 0, _, hd =>
    obtain rfl := Option.some.inj hd
    rw [show n + 0 = n from rfl, zS3_ob]
    refine ⟨rfl, rfl, fun f t v ht hv => ?_⟩
    match f, ht, hv with
    | 0, ht, hv => cases ht; cases hv; exact ⟨by decide, by decide⟩
    | 1, ht, hv => cases ht; cases hv; exact ⟨by decide, by decide⟩
    | 2, ht, hv => cases ht; cases hv; exact ⟨by decide, by decide⟩
    | 3, ht, hv => cases ht; cases hv; exact hk 1 (by decide)
    | 4, ht, hv => cases ht; cases hv; exact hk 2 (by decide)
    | 5, ht, hv => cases ht; cases hv; exact hk 3 (by decide)
    | 6, ht, hv => cases ht; cases hv; exact ⟨by decide, by decide⟩
    | 7, ht, hv => cases ht; cases hv; exact ⟨by decide, by decide⟩
    | 8, ht, hv => cases ht; cases hv; exact ⟨by decide, by decide⟩
    | 9, ht, hv => cases ht; cases hv; exact ⟨by decide, by decide⟩
    | 10, ht, hv => cases ht; cases hv; exact ⟨by decide, by decide⟩
    | 11, ht, hv => cases ht; cases hv; exact ⟨by decide, by decide⟩
    | 12, ht, hv => cases ht; cases hv; exact hk 4 (by decide)
    | 13, ht, hv => cases ht; cases hv; exact ⟨by decide, by decide⟩
    | f + 14, ht, hv => cases ht
  | 1, _, hd =>
    obtain rfl := Option.some.inj hd
    rw [show n + 1 = n + 1 + 0 from rfl, zS3_hi (k := 0) rfl]
    exact ⟨rfl, rfl, rfl⟩
  | 2, _, hd =>
    obtain rfl := Option.some.inj hd
    rw [show n + 2 = n + 1 + 1 from rfl, zS3_hi (k := 1) rfl]
    exact ⟨rfl, rfl, by decide, fun i _ => ⟨(show aIn _ 0 from ⟨by decide, by decide⟩), fun q hq => by cases hq⟩⟩
  | 3, _, hd =>
    obtain rfl := Option.some.inj hd
    rw [show n + 3 = n + 1 + 2 from rfl, zS3_hi (k := 2) rfl]
    exact ⟨rfl, rfl, by decide, fun i _ => ⟨(show aIn _ 0 from ⟨by decide, by decide⟩), fun q hq => by cases hq⟩⟩
  | 4, _, hd =>
    obtain rfl := Option.some.inj hd
    rw [show n + 4 = n + 1 + 3 from rfl, zS3_hi (k := 3) rfl]
    exact ⟨rfl, rfl, by decide, fun i _ => ⟨(show aIn _ 0 from ⟨by decide, by decide⟩), fun q hq => by cases hq⟩⟩
  | k + 5, h2, _ => omega
theorem zH_of {K : Nat → Nat} {σ : Nat → jcell} {n : Nat} {o : jcell} (h : aH fa_T K n σ) : aH fa_T (zK K n) (n + 5) (zS3 σ n o) := by
  intro a ha d hd
  by_cases hn : a < n
  · rw [zS3_lo hn]
    refine aCe_gw zK_gw (h a hn d ?_)
    rw [← hd]
    unfold zK
    rw [if_pos hn]
  · exact zS3_new a (by omega) ha d hd

set_option maxRecDepth 100000 in
set_option maxHeartbeats 4000000 in
theorem zEx_ends {N : Int} {JX : (Nat → Nat) → Nat → (Nat → jcell) → Prop} {l : Launch} {E : jE} (hJg : ∀ (K : Nat → Nat) (n : Nat) (σ σ' : Nat → jcell), JX K n σ → (∀ a, a < n → ¬ K a = 55 → σ' a = σ a) → JX (zK K n) (n + 5) σ') : zEx 5 327770 (fun K n => rH N K n) JX l E jtb am_MMendsG [118] 9 prog_15_method_53_code := by
  intro post rm hf1 hf2 K n p σ ρ r3 r4 M hl hR hsz X hok c hc hx K1 n1 σ0 ca sl hw ρ' lv st σ1 hx0 hcx IH
  obtain rfl : c = ze_118 := by
    obtain ⟨i, hi⟩ := List.getElem?_of_mem hc
    rcases i with _ | _ | _ | _ | i
    · obtain rfl := Option.some.inj hi
      exact absurd hx (by decide)
    · exact (Option.some.inj hi).symm
    · obtain rfl := Option.some.inj hi
      exact absurd hx (by decide)
    · obtain rfl := Option.some.inj hi
      exact absurd hx (by decide)
    · cases hi
  have X : jX E "ChessHouseModel" lw_tbl jcl jtb 9 false prog_15_method_53_code M := X
  obtain ⟨hA, hL, hSk, ⟨p9, m1, m2, m3, m4⟩, hH, hJX, hfr, hfa⟩ := hcx
  replace hH : aH fa_T K1 n1 σ1 := hH
  have hG := aAG_of hA.1 (fun i e v he hv => (hA.2 i e v he hv).1)
  obtain ⟨v0, v1, v2, v3, v4, v5, v6, v7, rfl, g0, g1, g2, g3, g4, g5, g6, g7⟩ := rA_8 hG
  clear hG
  obtain ⟨x0, rfl, b0, d0⟩ := rG_ref (by decide) g0
  obtain ⟨x1, rfl, b1, d1⟩ := rG_ref (by decide) g1
  obtain ⟨y5, rfl, -⟩ := aG_int g5
  have hlv : lv[0]? = some (some (rR x0)) := by
    obtain ⟨v, e1, e2⟩ := hL.2 0 0 rfl
    obtain rfl : rR x0 = v := Option.some.inj e1
    exact e2
  obtain ⟨w0, s0, rfl, k1, k2⟩ := aSk_1 hSk
  obtain rfl : rR x0 = w0 := Option.some.inj k1
  have hs0 : s0 = [] := by
    cases s0 with
    | nil => rfl
    | cons => exact k2.elim
  subst hs0
  have fE : rB3 N K1 n1 p9 399 [rR x0] σ1 := by
    obtain ⟨w, e6, e7⟩ := m4 (6385, [0]) (List.mem_of_getElem? (i := 9) rfl)
    obtain rfl : [rR x0] = w := Option.some.inj (show some [rR x0] = some w from e6)
    unfold aFq at e7
    rw [if_neg (by decide)] at e7
    exact (rF_b (r := 6385) (by decide) rfl).mp e7
  have fG : rB3 N K1 n1 p9 367 [rR x1] σ1 := by
    obtain ⟨w, e6, e7⟩ := m4 (5873, [1]) (List.mem_of_getElem? (i := 0) rfl)
    obtain rfl : [rR x1] = w := Option.some.inj (show some [rR x1] = some w from e6)
    unfold aFq at e7
    rw [if_neg (by decide)] at e7
    exact (rF_b (r := 5873) (by decide) rfl).mp e7
  have fM : rB3 N K1 n1 p9 398 [rR x1, rI y5] σ1 := by
    obtain ⟨w, e6, e7⟩ := m4 (6370, [1, 5]) (List.mem_of_getElem? (i := 1) rfl)
    obtain rfl : [rR x1, rI y5] = w := Option.some.inj (show some [rR x1, rI y5] = some w from e6)
    unfold aFq at e7
    rw [if_neg (by decide)] at e7
    exact (rF_b (r := 6370) (by decide) rfl).mp e7
  obtain ⟨fs, hs, hf0, hf⟩ := aCe_obj (hH x0 b0 _ (by rw [d0]; rfl))
  replace hs : σ1 x0 = .inr (11, fs) := hs
  have hlen : fs.length = 19 := hf0
  have hak : (x0 < n1) = True := eq_true b0
  have hne : x1 ≠ x0 := fun e => by
    rw [e, d0] at d1
    cases d1
  obtain ⟨a50, c50, fs50, w50, e501, s50, t50, e504⟩ := m1 (0, 5, 1) (List.mem_of_getElem? (i := 0) rfl)
  obtain rfl : x0 = a50 := Sum.inl.inj (Option.some.inj (Sum.inr.inj (Sum.inr.inj (Option.some.inj (show some (rR x0) = some _ from e501)))))
  rw [hs] at s50
  cases s50
  obtain ⟨a51, c51, fs51, w51, e511, s51, t51, e514⟩ := m1 (1, 5, 2) (List.mem_of_getElem? (i := 1) rfl)
  obtain rfl : x1 = a51 := Sum.inl.inj (Option.some.inj (Sum.inr.inj (Sum.inr.inj (Option.some.inj (show some (rR x1) = some _ from e511)))))
  obtain ⟨a52, c52, fs52, w52, e521, s52, t52, e524⟩ := m1 (1, 6, 3) (List.mem_of_getElem? (i := 2) rfl)
  obtain rfl : x1 = a52 := Sum.inl.inj (Option.some.inj (Sum.inr.inj (Sum.inr.inj (Option.some.inj (show some (rR x1) = some _ from e521)))))
  have hlt : ∀ v, aLt (ze_146.2.2.2.map (aRn [rR x0, rR x1, v2, v3, v4, rI y5, v6, v7, v])) (ze_118.2.2.2.map (aRn [rR x0, rR x1, v2, v3, v4, rI y5, v6, v7])) := fun v => ⟨rfl, Or.inl (show (0 : Nat) < 1 by decide)⟩
  have hxn : ∀ v, aX [rR x0, rR x1, v2, v3, v4, rI y5, v6, v7] [rR x0, rR x1, v2, v3, v4, rI y5, v6, v7, v] := fun v => aX_apps (ws := [v])
  have hLn : ∀ v, aLv [rR x0, rR x1, v2, v3, v4, rI y5, v6, v7, v] ze_146.2.1.1 lv := fun v => ⟨hL.1, fun i k hk => by
    obtain ⟨u, u1, u2⟩ := hL.2 i k hk
    exact ⟨u, hxn v _ _ u1, u2⟩⟩
  rcases ro3_399.mp fE with ⟨o, hz⟩ | ⟨q, o, hq⟩
  · -- the tables are made
    have hw : (K1, n1, σ0, ca, sl) = (K, n, σ, 0, 0) := hw.resolve_right (fun h9 => h9.2.2.2.1 hz)
    cases hw
    obtain ⟨c1, c2⟩ := r3 hz
    obtain ⟨-, -, c9, fs9, o3, o4⟩ := o
    rw [hs] at o3
    cases o3
    refine jrun_ok jC X kz_118 118 _ _ _ oz_118 ?_
    simp only [kz_118, jrun, jstep, jldi, jldl, jlda, j1, j2, jl1, jl2, jli, ja1, jbr, jget, jput, jfit, jdup, jcat, List.getElem?_cons_zero, List.getElem?_cons_succ, List.set_cons_zero, List.set_cons_succ, List.length_cons, List.length_nil, Nat.reduceAdd, Nat.reduceLT, Int32.reduceToNatClampNeg, true_and, and_true, and_self, reduceCtorEq, not_false_eq_true, not_true_eq_false, false_implies, true_implies, false_and, and_false, or_false, false_or, true_or, or_true, hlv, hs, o4, hak]
    refine jk_nw jC X hR (w1 := 3046) (w2 := 3047) (w3 := 332) (ci := 14) dz_125 (q := ("ChessHouseModel$Ends", F_ME, 14)) rfl (jtF_ok rfl) (jtF_ok rfl) (jtF_ok rfl) (by decide +kernel) (fs := [.inl 0, .inl 0, .inl 0, .inr (.inr none), .inr (.inr none), .inr (.inr none), .inl 0, .inl 0, .inl 0, .inl 0, .inl 0, .inl 0, .inr (.inr none), .inl 0]) rfl (n' := n + 1) rfl (c' := 1) rfl (s' := 14) rfl ⟨by rw [c1]; decide, by rw [c2]; decide⟩ (pc' := 128) rfl ?_
    refine jrun_ok jC X kz_128 128 _ _ _ oz_128 ?_
    simp only [kz_128, jrun, jstep, jldi, jldl, jlda, j1, j2, jl1, jl2, jli, ja1, jbr, jget, jput, jfit, jdup, jcat, List.getElem?_cons_zero, List.getElem?_cons_succ, List.set_cons_zero, List.set_cons_succ, List.length_cons, List.length_nil, Nat.reduceAdd, Nat.reduceLT, Int32.reduceToNatClampNeg, true_and, and_true, and_self, reduceCtorEq, not_false_eq_true, not_true_eq_false, false_implies, true_implies, false_and, and_false, or_false, false_or, true_or, or_true]
    refine jk_Ig X hR (Y := y_ME_init) dz_133 qz_133 m_ME_init i_ME_init rfl rfl (vals := [.inl 8, .inl 8]) (r := [rR n, rR x0]) (c_ME_init M.2.1 E (jup σ1 n (.inr (14, [.inl 0, .inl 0, .inl 0, .inr (.inr none), .inr (.inr none), .inr (.inr none), .inl 0, .inl 0, .inl 0, .inl 0, .inl 0, .inl 0, .inr (.inr none), .inl 0]))) (n + 1) n (by omega) jup_s) rfl rfl ⟨Nat.le_trans (by decide) hf1, Nat.le_trans (by decide) hf2⟩ (c' := 5) rfl (s' := 327770) rfl ⟨by rw [c1]; exact Nat.le_refl _, by rw [c2]; exact Nat.le_refl _⟩ (Nat.le_of_ble_eq_true rfl) (pc' := 136) rfl ?_
    rintro _ _ _ ⟨rfl, rfl, rfl⟩
    show jJ E jcl 9 M _ (n + 5) 5 327770 136 lv [rR n, rR x0] (zS3 σ1 n (.inr (14, [.inl 0, .inl 0, .inl 0, .inr (.inr none), .inr (.inr none), .inr (.inr none), .inl 0, .inl 0, .inl 0, .inl 0, .inl 0, .inl 0, .inr (.inr none), .inl 0])))
    refine jrun_ok jC X kz_136 136 _ _ _ oz_136 ?_
    simp only [kz_136, jrun, jstep, jldi, jldl, jlda, j1, j2, jl1, jl2, jli, ja1, jbr, jget, jput, jfit, jdup, jcat, List.getElem?_cons_zero, List.getElem?_cons_succ, List.set_cons_zero, List.set_cons_succ, List.length_cons, List.length_nil, Nat.reduceAdd, Nat.reduceLT, Int32.reduceToNatClampNeg, true_and, and_true, and_self, reduceCtorEq, not_false_eq_true, not_true_eq_false, false_implies, true_implies, false_and, and_false, or_false, false_or, true_or, or_true]
    have hs3 : zS3 σ1 n (.inr (14, [.inl 0, .inl 0, .inl 0, .inr (.inr none), .inr (.inr none), .inr (.inr none), .inl 0, .inl 0, .inl 0, .inl 0, .inl 0, .inl 0, .inr (.inr none), .inl 0])) x0 = .inr (11, fs) := (zS3_lo b0).trans hs
    have hak5 : (x0 < n + 5) = True := eq_true (by omega)
    have hl7 : (7 < fs.length) = True := eq_true (by omega)
    refine jrun_ok jC X kz_143 143 _ _ _ oz_143 ?_
    simp only [kz_143, jrun, jstep, jldi, jldl, jlda, j1, j2, jl1, jl2, jli, ja1, jbr, jget, jput, jfit, jdup, jcat, List.getElem?_cons_zero, List.getElem?_cons_succ, List.set_cons_zero, List.set_cons_succ, List.length_cons, List.length_nil, Nat.reduceAdd, Nat.reduceLT, Int32.reduceToNatClampNeg, true_and, and_true, and_self, reduceCtorEq, not_false_eq_true, not_true_eq_false, false_implies, true_implies, false_and, and_false, or_false, false_or, true_or, or_true, hs3, hak5, hl7]
    refine IH (zK K n) (n + 5) (gS n σ (jup (zS3 σ1 n (.inr (14, [.inl 0, .inl 0, .inl 0, .inr (.inr none), .inr (.inr none), .inr (.inr none), .inl 0, .inl 0, .inl 0, .inl 0, .inl 0, .inl 0, .inr (.inr none), .inl 0]))) x0 (.inr (11, fs.set 7 (rR n))))) 5 327770 (Or.inr ⟨hz, zK_gw, (show ¬ n + 5 = n by omega), fun h9 => h9 n (show n < n + 5 by omega) (zK_at 0), fun a ha => if_pos ha, rfl, zK_ki⟩) ze_146 (List.mem_of_getElem? (i := 2) rfl) [rR x0, rR x1, v2, v3, v4, rI y5, v6, v7, rR n] lv [] _ (hlt _) (hx0.tr (hxn _)) ?_
    have hgz : ∀ a, a < n → ¬ K a = 55 → jup (zS3 σ1 n (.inr (14, [.inl 0, .inl 0, .inl 0, .inr (.inr none), .inr (.inr none), .inr (.inr none), .inl 0, .inl 0, .inl 0, .inl 0, .inl 0, .inl 0, .inr (.inr none), .inl 0]))) x0 (.inr (11, fs.set 7 (rR n))) a = σ1 a := fun a ha hk => by
      rw [jup_n (fun e => hk (by rw [e]; exact d0))]
      exact zS3_lo ha
    have hgq : gY (fun k => ¬ k = 55) K n σ1 (zK K n) (n + 5) (jup (zS3 σ1 n (.inr (14, [.inl 0, .inl 0, .inl 0, .inr (.inr none), .inr (.inr none), .inr (.inr none), .inl 0, .inl 0, .inl 0, .inl 0, .inl 0, .inl 0, .inr (.inr none), .inl 0]))) x0 (.inr (11, fs.set 7 (rR n)))) := fun a ha hk => ⟨by omega, zK_gw.2 a ha, hgz a ha hk⟩
    have hO : ∀ k, 62 ≤ k → k ≤ 87 → ¬ k = 55 := fun k h1 h2 => by omega
    have hx1 : jup (zS3 σ1 n (.inr (14, [.inl 0, .inl 0, .inl 0, .inr (.inr none), .inr (.inr none), .inr (.inr none), .inl 0, .inl 0, .inl 0, .inl 0, .inl 0, .inl 0, .inr (.inr none), .inl 0]))) x0 (.inr (11, fs.set 7 (rR n))) x1 = σ1 x1 := hgz x1 b1 (by rw [d1]; decide)
    have hR2 : aR (zK K n) (n + 5) ze_146.2.1.2.2.1 [rR x0, rR x1, v2, v3, v4, rI y5, v6, v7, rR n] := by
      have hA2 := aR_gw (zK_gw (K := K) (n := n)) hA
      refine ⟨rfl, fun i e v he hv => ?_⟩
      by_cases hi : i < 8
      · have h1 : ze_118.2.1.2.2.1[i]? = some e := by
          rw [← he]
          match i, hi with
          | 0, _ | 1, _ | 2, _ | 3, _ | 4, _ | 5, _ | 6, _ | 7, _ => rfl
        have h2 : [rR x0, rR x1, v2, v3, v4, rI y5, v6, v7][i]? = some v := by
          rw [← hv]
          match i, hi with
          | 0, _ | 1, _ | 2, _ | 3, _ | 4, _ | 5, _ | 6, _ | 7, _ => rfl
        have h3 := hA2.2 i e v h1 h2
        refine ⟨h3.1, ?_⟩
        have h4 : e.2 = none := by
          match i, hi, h1 with
          | 0, _, h1 | 1, _, h1 | 2, _, h1 | 3, _, h1 | 4, _, h1 | 5, _, h1 | 6, _, h1 | 7, _, h1 => exact (congrArg Prod.snd (Option.some.inj h1)).symm
        rw [h4]
        trivial
      · have hi2 : i < 9 := (List.getElem?_eq_some_iff.mp hv).1
        obtain rfl : i = 8 := by omega
        cases he
        cases hv
        exact ⟨⟨by omega, Or.inl (zK_at 0)⟩, trivial⟩
    refine ⟨hR2, hLn _, trivial, ⟨p9, ?_, fun q hq => (by cases hq), fun f hf => (by cases hf), ?_⟩, ?_, ?_, ?_, ?_⟩
    · refine aAllc ⟨x0, 11, fs.set 7 (rR n), w50, rfl, jup_s, by rw [List.getElem?_set_ne (by decide)]; exact t50, e504⟩ (aAllc ⟨x1, c51, fs51, w51, rfl, hx1.trans s51, t51, e514⟩ (aAllc ⟨x1, c52, fs52, w52, rfl, hx1.trans s52, t52, e524⟩ (aAllc ⟨x0, 11, fs.set 7 (rR n), rR n, rfl, jup_s, by rw [List.getElem?_set_self (by omega)], rfl⟩ (fun f h => by cases h))))
    · have wr : ∀ {r : Nat} {vs : List jv} {σ9 : Nat → jcell}, ¬ r = 0 → rH N (zK K n) (n + 5) p9 r vs σ9 → aFq (rH N (zK K n) (n + 5)) p p9 r vs σ9 := fun h0 h9 => by
        unfold aFq
        rw [if_neg h0]
        exact h9
      refine aAllc ⟨_, rfl, wr (by decide) ((rF_b (r := 5873) (by decide) rfl).mpr (rGT_gy hgq hO fG))⟩ (aAllc ⟨_, rfl, wr (by decide) ((rF_b (r := 6370) (by decide) rfl).mpr (rMNV_gy hgq hO fM))⟩ (aAllc ⟨_, rfl, wr (by decide) ((rF_b (r := 5649) (by decide) rfl).mpr (ro3_353.mpr ⟨fun _ => 0, ⟨n + 1 + 2, ⟨by omega, zK_at 0, 14, [.inl 0, .inl 8, .inl 8, .inr (.inr (some (.inl (n + 1)))), .inr (.inr (some (.inl (n + 1 + 1)))), .inr (.inr (some (.inl (n + 1 + 2)))), .inl 0, .inl 0, .inl 0, .inl 0, .inl 0, .inl 0, .inr (.inr (some (.inl (n + 1 + 3)))), .inl 0], ?_, rfl⟩, by omega, zK_at 3, ?_⟩, fun j _ _ => (show ((0 : Int32)).toInt ≤ 100000000 by decide)⟩))⟩ (fun f h => by cases h)))
      · rw [jup_n (by omega)]
        exact zS3_ob
      · rw [jup_n (by omega)]
        exact zS3_hi (k := 2) rfl
    · refine aH_up (zH_of hH) (fun d hd => ?_)
      rw [show zK K n x0 = 55 from (if_pos b0).trans d0] at hd
      obtain rfl := Option.some.inj hd
      refine ⟨rfl, by rw [List.length_set]; exact hf0, fun f t v ht hv => ?_⟩
      by_cases h7 : f = 7
      · subst h7
        rw [List.getElem?_set_self (by omega)] at hv
        cases hv
        cases ht
        exact ⟨by omega, Or.inl (zK_at 0)⟩
      · rw [List.getElem?_set_ne (fun e => h7 e.symm)] at hv
        exact aG_gw zK_gw (hf f t v ht hv)
    · exact hJg K n σ1 _ hJX (fun a ha hk => hgz a ha hk)
    · refine aFr_gw zK_gw ?_
      have h1 := zFr_put hfr (f := 7) (v := rR n) hs (by rw [d0]; decide)
      intro a ha c1 gs he
      obtain ⟨gs', e1, e2, e3⟩ := h1 a ha c1 gs he
      refine ⟨gs', ?_, e2, e3⟩
      rw [← e1]
      by_cases e : a = x0
      · subst e
        rw [jup_s, jup_s]
      · rw [jup_n e, jup_n e]
        exact zS3_lo ha
    · refine aFa_gw zK_gw ?_
      have h1 := aFa_obj hfa (x := .inr (11, fs.set 7 (rR n))) hs
      have he : ∀ a, a < n → jup (zS3 σ1 n (.inr (14, [.inl 0, .inl 0, .inl 0, .inr (.inr none), .inr (.inr none), .inr (.inr none), .inl 0, .inl 0, .inl 0, .inl 0, .inl 0, .inl 0, .inr (.inr none), .inl 0]))) x0 (.inr (11, fs.set 7 (rR n))) a = jup σ1 x0 (.inr (11, fs.set 7 (rR n))) a := fun a ha => by
        by_cases e : a = x0
        · subst e
          rw [jup_s, jup_s]
        · rw [jup_n e, jup_n e]
          exact zS3_lo ha
      intro a ha
      rw [he a ha]
      exact h1 a ha
  · -- they are there
    obtain ⟨-, -, c9, fs9, o3, o4⟩ := o
    rw [hs] at o3
    cases o3
    have hl7 : (7 < fs.length) = True := eq_true (by omega)
    obtain ⟨gq, hq1, hq2⟩ := hq
    have hqk : q < n1 ∧ K1 q = 109 := by
      obtain ⟨r, ⟨h1, h2, -⟩, -⟩ := hq1
      exact ⟨h1, h2⟩
    refine jrun_ok jC X kz_118 118 _ _ _ oz_118 ?_
    simp only [kz_118, jrun, jstep, jldi, jldl, jlda, j1, j2, jl1, jl2, jli, ja1, jbr, jget, jput, jfit, jdup, jcat, List.getElem?_cons_zero, List.getElem?_cons_succ, List.set_cons_zero, List.set_cons_succ, List.length_cons, List.length_nil, Nat.reduceAdd, Nat.reduceLT, Int32.reduceToNatClampNeg, true_and, and_true, and_self, reduceCtorEq, not_false_eq_true, not_true_eq_false, false_implies, true_implies, false_and, and_false, or_false, false_or, true_or, or_true, hlv, hs, o4, hak]
    refine jrun_ok jC X kz_139 139 _ _ _ oz_139 ?_
    simp only [kz_139, jrun, jstep, jldi, jldl, jlda, j1, j2, jl1, jl2, jli, ja1, jbr, jget, jput, jfit, jdup, jcat, List.getElem?_cons_zero, List.getElem?_cons_succ, List.set_cons_zero, List.set_cons_succ, List.length_cons, List.length_nil, Nat.reduceAdd, Nat.reduceLT, Int32.reduceToNatClampNeg, true_and, and_true, and_self, reduceCtorEq, not_false_eq_true, not_true_eq_false, false_implies, true_implies, false_and, and_false, or_false, false_or, true_or, or_true, hlv, hs, o4, hak, hl7]
    have hset : jup σ1 x0 (.inr (11, fs.set 7 (rR q))) = σ1 := by
      have e1 : fs.set 7 (rR q) = fs := by
        apply List.ext_getElem?
        intro i
        by_cases h7 : i = 7
        · subst h7
          rw [List.getElem?_set_self (by omega), o4]
        · rw [List.getElem?_set_ne (fun e => h7 e.symm)]
      rw [e1]
      exact jup_id hs
    rw [hset]
    refine IH K1 n1 σ0 ca sl hw ze_146 (List.mem_of_getElem? (i := 2) rfl) [rR x0, rR x1, v2, v3, v4, rI y5, v6, v7, rR q] lv [] _ (hlt _) (hx0.tr (hxn _)) ?_
    have hR2 : aR K1 n1 ze_146.2.1.2.2.1 [rR x0, rR x1, v2, v3, v4, rI y5, v6, v7, rR q] := by
      refine ⟨rfl, fun i e v he hv => ?_⟩
      by_cases hi : i < 8
      · have h1 : ze_118.2.1.2.2.1[i]? = some e := by
          rw [← he]
          match i, hi with
          | 0, _ | 1, _ | 2, _ | 3, _ | 4, _ | 5, _ | 6, _ | 7, _ => rfl
        have h2 : [rR x0, rR x1, v2, v3, v4, rI y5, v6, v7][i]? = some v := by
          rw [← hv]
          match i, hi with
          | 0, _ | 1, _ | 2, _ | 3, _ | 4, _ | 5, _ | 6, _ | 7, _ => rfl
        have h3 := hA.2 i e v h1 h2
        refine ⟨h3.1, ?_⟩
        have h4 : e.2 = none := by
          match i, hi, h1 with
          | 0, _, h1 | 1, _, h1 | 2, _, h1 | 3, _, h1 | 4, _, h1 | 5, _, h1 | 6, _, h1 | 7, _, h1 => exact (congrArg Prod.snd (Option.some.inj h1)).symm
        rw [h4]
        trivial
      · have hi2 : i < 9 := (List.getElem?_eq_some_iff.mp hv).1
        obtain rfl : i = 8 := by omega
        cases he
        cases hv
        exact ⟨⟨hqk.1, Or.inl hqk.2⟩, trivial⟩
    refine ⟨hR2, hLn _, trivial, ⟨p9, ?_, fun q hq => (by cases hq), fun f hf => (by cases hf), ?_⟩, hH, hJX, hfr, hfa⟩
    · exact aAllc ⟨x0, 11, fs, w50, rfl, hs, t50, e504⟩ (aAllc ⟨x1, c51, fs51, w51, rfl, s51, t51, e514⟩ (aAllc ⟨x1, c52, fs52, w52, rfl, s52, t52, e524⟩ (aAllc ⟨x0, 11, fs, rR q, rfl, hs, o4, rfl⟩ (fun f h => by cases h))))
    · have wr : ∀ {r : Nat} {vs : List jv} {σ9 : Nat → jcell}, ¬ r = 0 → rH N K1 n1 p9 r vs σ9 → aFq (rH N K1 n1) p p9 r vs σ9 := fun h0 h9 => by
        unfold aFq
        rw [if_neg h0]
        exact h9
      exact aAllc ⟨_, rfl, wr (by decide) ((rF_b (r := 5873) (by decide) rfl).mpr fG)⟩ (aAllc ⟨_, rfl, wr (by decide) ((rF_b (r := 6370) (by decide) rfl).mpr fM)⟩ (aAllc ⟨_, rfl, wr (by decide) ((rF_b (r := 5649) (by decide) rfl).mpr (ro3_353.mpr ⟨gq, hq1, hq2⟩))⟩ (fun f h => by cases h)))
end
section
noncomputable def kn_0 : List jI := [(.iload_n 1, 1, (1, 0, 0, 0, 0)), (.iload_n 2, 1, (2, 0, 0, 0, 0)), (.iload_n 3, 1, (3, 0, 0, 0, 0)), (.iload 4, 2, (4, 0, 0, 0, 0)), (.iload 5, 2, (5, 0, 0, 0, 0))]
theorem on_0 : jokL "ChessHouseModel$Ends" lw_tbl jcl jtb 7 false prog_17_method_11_code 0 kn_0 = true := jokLF_ok (fun _ _ => jtF_ok) lo_ME (by decide +kernel)
noncomputable def kn_10 : List jI := [(.istore 6, 2, (6, 0, 0, 0, 0)), (.aload_n 0, 1, (0, 0, 0, 0, 0)), (.getfield 8, 3, (14, 3, 3056, 0, 0)), (.iload 6, 2, (6, 0, 0, 0, 0)), (.iconst 3, 1, (0, 0, 0, 3, 0)), (.ishr, 1, (0, 0, 0, 0, 0))]
theorem on_10 : jokL "ChessHouseModel$Ends" lw_tbl jcl jtb 7 false prog_17_method_11_code 10 kn_10 = true := jokLF_ok (fun _ _ => jtF_ok) lo_ME (by decide +kernel)
noncomputable def kn_20 : List jI := [(.laload, 1, (0, 0, 0, 0, 0)), (.bipush 8, 2, (0, 0, 0, 8, 0)), (.iload 6, 2, (6, 0, 0, 0, 0)), (.bipush 7, 2, (0, 0, 0, 7, 0)), (.iand, 1, (0, 0, 0, 0, 0)), (.imul, 1, (0, 0, 0, 0, 0)), (.lshr, 1, (0, 0, 0, 0, 0)), (.ldc2_w 64, 3, (0, 0, 3158, 0, 255)), (.land, 1, (0, 0, 0, 0, 0)), (.l2i, 1, (0, 0, 0, 0, 0)), (.iconst 1, 1, (0, 0, 0, 1, 0)), (.isub, 1, (0, 0, 0, 0, 0))]
theorem on_20 : jokL "ChessHouseModel$Ends" lw_tbl jcl jtb 7 false prog_17_method_11_code 20 kn_20 = true := jokLF_ok (fun _ _ => jtF_ok) lo_ME (by decide +kernel)
theorem dn_7 : decode prog_17_method_11_code 7 = .ok (.invokestatic 60, 3) := by decide +kernel
theorem dn_37 : decode prog_17_method_11_code 37 = .ok (.ireturn, 1) := by decide +kernel
theorem qn_7 : jlm lw_tbl 3154 "ChessHouseModel$Ends" 60 ⟨"ChessHouseModel$Ends", "cell", "(IIIII)I"⟩ = true := jlm_of (Or.inl (jtF_ok rfl))
theorem kn_a (L : Int64) : (L &&& 255).toInt = ((L.toBitVec.toNat % 2 ^ 8 : Nat) : Int) := by
  have h1 : (L &&& 255).toBitVec.toNat = L.toBitVec.toNat % 2 ^ 8 := by
    rw [Int64.toBitVec_and, BitVec.toNat_and, show ((255 : Int64).toBitVec.toNat) = 2 ^ 8 - 1 from rfl, Nat.and_two_pow_sub_one_eq_mod]
  have h2 := Nat.mod_lt L.toBitVec.toNat (show 0 < 2 ^ 8 by decide)
  show (L &&& 255).toBitVec.toInt = _
  rw [BitVec.toInt_eq_toNat_of_lt (by rw [h1]; omega), h1]
theorem kn_z {L : Int64} (h : ((L &&& 255).toInt32 - 1).toInt < 0) : ∀ i, i < 8 → L.toBitVec.getLsbD i = false := by
  have h1 := kn_a L
  have h2 := Nat.mod_lt L.toBitVec.toNat (show 0 < 2 ^ 8 by decide)
  have h3 : (L &&& 255).toInt32.toInt = ((L.toBitVec.toNat % 2 ^ 8 : Nat) : Int) := by
    rw [Int64.toInt_toInt32, h1, Int.bmod_eq_of_le (by omega) (by omega)]
  rw [Int32.toInt_sub, h3, show (1 : Int32).toInt = 1 from rfl, Int.bmod_eq_of_le (by omega) (by omega)] at h
  have h4 : L.toBitVec.toNat % 2 ^ 8 = 0 := by omega
  intro i hi
  have h5 : (L.toBitVec.toNat % 2 ^ 8).testBit i = false := by rw [h4]; exact Nat.zero_testBit i
  rw [Nat.testBit_mod_two_pow] at h5
  rw [← BitVec.testBit_toNat]
  simpa [hi] using h5
theorem kn_s {a : Int32} (h0 : 0 ≤ a.toInt) : (8 * (a &&& 7)).toInt = 8 * (a.toInt % 8) := by
  have e : (a &&& 7).toInt = a.toInt % 8 := aAnd_m (y := 7) h0 (by decide) (by decide)
  rw [Int32.toInt_mul, e, show (8 : Int32).toInt = 8 from rfl, Int.bmod_eq_of_le (by omega) (by omega)]
theorem kn_b {a : Int32} {w : Int64} (h0 : 0 ≤ a.toInt) (h : ((w >>> ((8 * (a &&& 7)).toInt64 &&& 63) &&& 255).toInt32 - 1).toInt < 0) : ∀ i, i < 8 → w.toBitVec.getLsbD (8 * (a.toInt % 8).toNat + i) = false := by
  have e := kn_s h0
  have h1 := kn_z h
  intro i hi
  have h2 := h1 i hi
  have e1 : 8 * (a &&& 7) = Int32.ofInt (8 * (a.toInt % 8)) := by
    apply Int32.toInt_inj.mp
    rw [e, Int32.toInt_ofInt_of_le (by omega) (by omega)]
  have h3 := rShb (L := w) (t := 8 * (a.toInt % 8)) rfl (by omega) (by omega) (i := (i : Int)) (by omega) (by omega)
  rw [← e1] at h3
  have e2 : (8 * (a.toInt % 8) + (i : Int)).toNat = 8 * (a.toInt % 8).toNat + i := by omega
  unfold rBt at h3
  rw [e2, show ((i : Int)).toNat = i from rfl] at h3
  cases h4 : w.toBitVec.getLsbD (8 * (a.toInt % 8).toNat + i) with
  | false => rfl
  | true =>
    have h5 := h3.mpr h4
    rw [h2] at h5
    cases h5
theorem kn_i {a : Int32} (h0 : 0 ≤ a.toInt) (h1 : a.toInt ≤ 2621439) : vp_in (a >>> (3 &&& 31)) 327680 ∧ (a >>> (3 &&& 31)).toNatClampNeg = (a.toInt / 8).toNat := by
  obtain ⟨c, c1, c2⟩ := aShr_l a 3
  obtain rfl := c2 3 (by decide) rfl
  have e : (a >>> (3 &&& 31)).toInt = a.toInt / 8 := c1
  refine ⟨fun h => ?_, ?_⟩
  · rcases h with h | h
    · have h9 := Int32.lt_iff_toInt_lt.mp h
      rw [e, show (0 : Int32).toInt = 0 from rfl] at h9
      omega
    · have h9 : 327680 ≤ (a >>> (3 &&& 31)).toInt.toNat := h
      rw [e] at h9
      omega
  · show (a >>> (3 &&& 31)).toInt.toNat = _
    rw [e]
section KNX
variable {l : Launch} {E : jE} {K : Nat → Nat} {n : Nat} {JX : (Nat → jcell) → Prop} {N : Int}
set_option maxRecDepth 100000 in
set_option maxHeartbeats 4000000 in
theorem az_MEknownX (hc : aMe (rH N K n) l E jcl jtb lw_tbl fa_T K n JX ag_MEcellX) : aMe (rH N K n) l E jcl jtb lw_tbl fa_T K n JX ag_MEknownX := by
  intro p σ ρ hH hX hA hM
  have hG := aAG_of hA.1 (fun i e v he hv => (hA.2 i e v he hv).1)
  obtain ⟨v0, v1, v2, v3, v4, v5, rfl, g0, g1, g2, g3, g4, g5⟩ := rA_6 hG
  clear hG
  obtain ⟨x0, rfl, b0, d0⟩ := rG_ref (by decide) g0
  obtain ⟨x1, rfl, b1⟩ := aG_int g1
  obtain ⟨x2, rfl, b2⟩ := aG_int g2
  obtain ⟨x3, rfl, b3⟩ := aG_int g3
  obtain ⟨x4, rfl, b4⟩ := aG_int g4
  obtain ⟨x5, rfl, b5⟩ := aG_int g5
  refine jMet_of (hY := rfl) false (fun h => by cases h) (by decide) (Nat.le_of_ble_eq_true rfl) [some (rR x0), some (rI x1), some (rI x2), some (rI x3), some (rI x4), some (rI x5), none] rfl ?_
  intro M hl hR X hr
  subst hl
  refine jrun_ok jC X kn_0 0 _ _ _ on_0 ?_
  simp only [kn_0, jrun, jstep, jldi, jldl, jlda, j1, j2, jl1, jl2, jli, ja1, jbr, jald, jast, jlald, jlast, jalen, jget, jput, jfit, jdup, jdupx, jdupx2, jdup2, jcat, jset1, jset2, jkill, List.getElem?_cons_zero, List.getElem?_cons_succ, List.set_cons_zero, List.set_cons_succ, List.length_cons, List.length_nil, Nat.reduceAdd, Nat.reduceLT, Int32.reduceToNatClampNeg, true_and, and_true, and_self, reduceCtorEq, not_false_eq_true, false_and, and_false, or_false, false_or, true_or, or_true]
  have hAc : aR K n ag_MEcellX.2.2.2.1.1 [rI x1, rI x2, rI x3, rI x4, rI x5] := by
    refine ⟨rfl, fun i e v he hv => ?_⟩
    match i, he, hv with
    | 0, he, hv => cases he; cases hv; exact ⟨b1, trivial⟩
    | 1, he, hv => cases he; cases hv; exact ⟨b2, trivial⟩
    | 2, he, hv => cases he; cases hv; exact ⟨b3, trivial⟩
    | 3, he, hv => cases he; cases hv; exact ⟨b4, trivial⟩
    | 4, he, hv => cases he; cases hv; exact ⟨b5, trivial⟩
    | i + 5, he, _ => cases he
  have hMc := hc p σ [rI x1, rI x2, rI x3, rI x4, rI x5] hH hX hAc ⟨fun q h => (by cases h), fun q h => (by cases h), fun q h => (by cases h), fun q h => (by cases h)⟩
  refine jk_Sg X hR dn_7 qn_7 m_ME_cell s_ME_cell (vals := [rI x1, rI x2, rI x3, rI x4, rI x5]) (r := []) hMc rfl rfl ⟨Nat.le_of_ble_eq_true rfl, Nat.le_of_ble_eq_true rfl⟩ (c' := 0) rfl (s' := 0) rfl ⟨Nat.le_refl _, Nat.le_refl _⟩ (by decide) (pc' := 10) rfl ?_
  rintro v σ' n' ⟨rfl, p1, p2, p3, p4, p5, xs, p6, p7, -⟩
  obtain ⟨w, rfl⟩ : ∃ w, v = some w := by
    cases v with
    | none => cases p5
    | some w => exact ⟨w, rfl⟩
  obtain ⟨a, rfl, ha⟩ := aG_int (p6.2 5 (.inl (0, 2621439), none) w rfl rfl).1
  obtain ⟨z1, k1, k2⟩ := p7.2.2.1 ([(5, 1), (0, -524288), (1, -262144), (2, -4096), (3, -64), (4, -1)], 524288) (List.mem_of_getElem? (i := 0) rfl)
  obtain ⟨z2, k3, k4⟩ := p7.2.2.1 ([(5, -1), (0, 524288), (1, 262144), (2, 4096), (3, 64), (4, 1)], -524288) (List.mem_of_getElem? (i := 1) rfl)
  obtain rfl : (1 * a.toInt + (-524288 * x1.toInt + (-262144 * x2.toInt + (-4096 * x3.toInt + (-64 * x4.toInt + (-1 * x5.toInt + 0)))))) = z1 := Option.some.inj k1
  obtain rfl : (-1 * a.toInt + (524288 * x1.toInt + (262144 * x2.toInt + (4096 * x3.toInt + (64 * x4.toInt + (1 * x5.toInt + 0)))))) = z2 := Option.some.inj k3
  dsimp only at k2 k4
  have ea : a.toInt = 524288 * x1.toInt + 262144 * x2.toInt + 4096 * x3.toInt + 64 * x4.toInt + x5.toInt - 524288 := by omega
  have a1 : 0 ≤ a.toInt := ha.1
  have a2 : a.toInt ≤ 2621439 := ha.2
  obtain ⟨fs, hs, hf0, hf⟩ := aCe_obj (p1 x0 b0 _ (by rw [d0]; rfl))
  replace hs : σ' x0 = .inr (14, fs) := hs
  have hlen : fs.length = 14 := hf0
  have h3 : fs[3]? = some fs[3] := List.getElem?_eq_getElem (by omega)
  obtain ⟨t, ht, t1, t2⟩ := rG_ref (by decide) (hf 3 (.inr (some (.inl (false, 110)))) _ rfl h3)
  rw [ht] at h3
  have hrow := p1 t t1 (.inl (.long, 327680, (0, 0), [])) (by rw [t2]; rfl)
  obtain ⟨g, hg⟩ : ∃ g, σ' t = .inl (.long, 327680, .inr (.inl g)) := by
    revert hrow
    cases σ' t with
    | inr y => exact fun h => h.elim
    | inl y =>
      obtain ⟨ty, m, g⟩ := y
      rcases g with g | g | g
      · exact fun h => absurd rfl h.2.2.1
      · exact fun h => ⟨g, by rw [h.1, h.2.1]⟩
      · exact fun h => h.elim
  have hk0 : (x0 < n') = True := eq_true b0
  have hk1 : (t < n') = True := eq_true t1
  obtain ⟨i1, i2⟩ := kn_i a1 a2
  have hin : vp_in (a >>> (3 &&& 31)) 327680 = True := eq_true i1
  refine jrun_ok jC X kn_10 10 _ _ _ on_10 ?_
  simp only [kn_10, jrun, jstep, jldi, jldl, jlda, j1, j2, jl1, jl2, jli, ja1, jbr, jald, jast, jlald, jlast, jalen, jget, jput, jfit, jdup, jdupx, jdupx2, jdup2, jcat, jset1, jset2, jkill, List.getElem?_cons_zero, List.getElem?_cons_succ, List.set_cons_zero, List.set_cons_succ, List.length_cons, List.length_nil, Nat.reduceAdd, Nat.reduceLT, Int32.reduceToNatClampNeg, true_and, and_true, and_self, reduceCtorEq, not_false_eq_true, false_and, and_false, or_false, false_or, true_or, or_true, Option.toList, List.cons_append, List.nil_append, hs, h3, hk0]
  refine jrun_ok jC X kn_20 20 _ _ _ on_20 ?_
  simp only [kn_20, jrun, jstep, jldi, jldl, jlda, j1, j2, jl1, jl2, jli, ja1, jbr, jald, jast, jlald, jlast, jalen, jget, jput, jfit, jdup, jdupx, jdupx2, jdup2, jcat, jset1, jset2, jkill, List.getElem?_cons_zero, List.getElem?_cons_succ, List.set_cons_zero, List.set_cons_succ, List.length_cons, List.length_nil, Nat.reduceAdd, Nat.reduceLT, Int32.reduceToNatClampNeg, true_and, and_true, and_self, reduceCtorEq, not_false_eq_true, false_and, and_false, or_false, false_or, true_or, or_true, hg, hk1, hin]
  refine jk_iret X dn_37 hr rfl (Nat.le_refl _) (Nat.le_refl _) ⟨rfl, p1, p2, p3, ?_, rfl, [], ?_, ⟨fun q h => (by cases h), fun q h => (by cases h), fun q h => (by cases h), ?_⟩, [], List.mem_cons_self, fun f h => (by cases h)⟩
  · intro a9 ha9
    obtain ⟨q1, q2⟩ := p4 a9 ha9
    exact ⟨fun ty m g h => (by
      obtain ⟨g', e1, e2⟩ := q1 ty m g h
      exact ⟨g', e1, fun i _ => e2 i (fun q hq => by cases hq)⟩), fun ty m g h => (by
      obtain ⟨g', e1, e2⟩ := q2 ty m g h
      exact ⟨g', e1, fun i _ => e2 i (fun q hq => by cases hq)⟩)⟩
  · refine ⟨rfl, fun i e v he hv => ?_⟩
    match i, he, hv with
    | 0, he, hv => cases he; cases hv; exact ⟨g0, trivial⟩
    | 1, he, hv => cases he; cases hv; exact ⟨b1, trivial⟩
    | 2, he, hv => cases he; cases hv; exact ⟨b2, trivial⟩
    | 3, he, hv => cases he; cases hv; exact ⟨b3, trivial⟩
    | 4, he, hv => cases he; cases hv; exact ⟨b4, trivial⟩
    | 5, he, hv => cases he; cases hv; exact ⟨b5, trivial⟩
    | 6, he, hv => cases he; cases hv; exact ⟨⟨Int32.le_toInt _, by have := Int32.toInt_lt (((g (a >>> (3 &&& 31)).toNatClampNeg >>> ((8 * (a &&& 7)).toInt64 &&& 63)) &&& 255).toInt32 - 1); omega⟩, trivial⟩
    | i + 7, he, _ => cases he
  · refine aAllc ⟨_, rfl, (rF_b (r := 7607) (by decide) rfl).mpr (ro3_475.mpr (fun h => ?_))⟩ (fun f h => by cases h)
    rw [← ea]
    refine ⟨a1, by omega, g, ⟨t, ⟨b0, d0, 14, fs, hs, h3⟩, t1, t2, hg⟩, fun i hi => ?_⟩
    rw [← i2]
    exact kn_b a1 h i hi
end KNX
end
section
noncomputable def kq_18 : List jI := [(.lload_n 1, 1, (1, 0, 0, 0, 0)), (.lneg, 1, (0, 0, 0, 0, 0)), (.goto 4, 3, (24, 0, 0, 0, 0))]
theorem oq_18 : jokL "ChessHouseModel" lw_tbl jcl jtb 7 false prog_15_method_10_code 18 kq_18 = true := jokLF_ok (fun _ _ => jtF_ok) lo_MM (by decide +kernel)
noncomputable def zp_18 : aCu := (18, ([some 0, some 1, none, none, none, none, none], [], [(.inr (some (.inl (false, 55))), none), (.inr none, none)], ([], [], [([(1, 1)], 999999999999999999), ([(1, -1)], 999999999999999999)], [(0, [])])), [], [([], 3), ([], 0), ([], 0)])
noncomputable def zp_24 : aCu := (24, ([some 0, none, none, none, none, none, none], [2], [(.inr (some (.inl (false, 55))), none), (.inr none, none), (.inr none, none)], ([], [], [([(1, 1)], 999999999999999999), ([(1, -1)], 999999999999999999), ([(2, -1)], 999999999999999999)], [(0, [])])), [.inr (.inl 0)], [([], 2), ([], 0), ([], 0)])
set_option maxRecDepth 100000 in
set_option maxHeartbeats 4000000 in
theorem az_MMputNumB {N : Int} {JX : (Nat → Nat) → Nat → (Nat → jcell) → Prop} {l : Launch} {E : jE} (hJ : ∀ (K : Nat → Nat) (n : Nat), aJx K n fa_Pk (JX K n)) (K : Nat → Nat) (n : Nat) : aMe (rH N K n) l E jcl jtb lw_tbl fa_T K n (JX K n) ag_MMputNumB := by
  intro p σ ρ hH hX hA hM
  have h := ae_MMputNumC (l := l) (E := E) (F := fun K n => rH N K n) (JX := JX) hJ (fun K n => rH_shf N K n) (fun K n => rH_dpa) (fun K n => rH_dpr) (fun K n => rH_dpm) (fun K n => rw_rqA) (fun K n => rw_rqB) (fun K n => rw_rqC) (fun K n => rw_rqD) (fun K n => rw_rqW0) rMn_nil
  refine h _ { frames := 1, cells := 0, slots := 0, locals := 21 } ⟨Nat.le_refl _, Nat.le_refl _⟩ K n p σ ρ hH hX hA hM (fun w => w = (K, n, σ, 0, 0)) rfl (fun G hG => by cases hG) ?_ ?_
  · intro K1 n1 σ0 ca sl hw
    cases hw
    exact ⟨⟨Nat.zero_le _, Nat.zero_le _⟩, fun r σ' hp => hp⟩
  · intro M hl hR hsz X hok c hc hx K1 n1 σ0 ca sl hw ρ' lv st σ1 hx0 hcx IH
    cases hw
    obtain rfl : c = zp_18 := by
      obtain ⟨i, hi⟩ := List.getElem?_of_mem hc
      rcases i with _ | _ | _ | _ | _ | i
      · exact (Option.some.inj hi).symm
      · obtain rfl := Option.some.inj hi
        exact absurd hx (by decide)
      · obtain rfl := Option.some.inj hi
        exact absurd hx (by decide)
      · obtain rfl := Option.some.inj hi
        exact absurd hx (by decide)
      · obtain rfl := Option.some.inj hi
        exact absurd hx (by decide)
      · cases hi
    obtain ⟨hA1, hL, hSk, ⟨p9, m1, m2, m3, m4⟩, hHp⟩ := hcx
    have hG := aAG_of hA1.1 (fun i e v he hv => (hA1.2 i e v he hv).1)
    obtain ⟨v0, v1, rfl, g0, g1⟩ := rA_2 hG
    obtain ⟨v, rfl⟩ := aG_lng g1
    have hlv : lv[1]? = some (some (rL v)) := by
      obtain ⟨u, e1, e2⟩ := hL.2 1 1 rfl
      obtain rfl : rL v = u := Option.some.inj e1
      exact e2
    have hst : st = [] := by
      cases st with
      | nil => rfl
      | cons => exact hSk.elim
    subst hst
    obtain ⟨z1, k1, k2⟩ := m3 ([(1, 1)], 999999999999999999) (List.mem_of_getElem? (i := 0) rfl)
    obtain ⟨z2, k3, k4⟩ := m3 ([(1, -1)], 999999999999999999) (List.mem_of_getElem? (i := 1) rfl)
    obtain rfl : (1 * v.toInt + 0) = z1 := Option.some.inj k1
    obtain rfl : (-1 * v.toInt + 0) = z2 := Option.some.inj k3
    dsimp only at k2 k4
    have en : (-v).toInt = - v.toInt := by
      rw [Int64.toInt_neg, Int.bmod_eq_of_le (by omega) (by omega)]
    refine jrun_ok jC X kq_18 18 _ _ _ oq_18 ?_
    simp only [kq_18, jrun, jstep, jldi, jldl, jlda, j1, j2, jl1, jl2, jli, ja1, jbr, jald, jast, jlald, jlast, jalen, jget, jput, jfit, jdup, jdupx, jdupx2, jdup2, jcat, jset1, jset2, jkill, List.getElem?_cons_zero, List.getElem?_cons_succ, List.set_cons_zero, List.set_cons_succ, List.length_cons, List.length_nil, Nat.reduceAdd, Nat.reduceLT, Int32.reduceToNatClampNeg, true_and, and_true, and_self, reduceCtorEq, not_false_eq_true, false_and, and_false, or_false, false_or, true_or, or_true, hlv]
    refine IH K n σ 0 0 rfl zp_24 (List.mem_of_getElem? (i := 1) rfl) [v0, rL v, rL (-v)] lv [rL (-v)] σ1 ⟨rfl, Or.inl (show (2 : Nat) < 3 by decide)⟩ (hx0.tr (aX_apps (ρ := [v0, rL v]) (ws := [rL (-v)]))) ?_
    refine ⟨⟨rfl, fun i e u he hu => ?_⟩, ⟨hL.1, fun i k hk => ?_⟩, ⟨rfl, trivial⟩, ⟨p9, fun q hq => (by cases hq), fun q hq => (by cases hq), aAllc ⟨1 * v.toInt + 0, rfl, by dsimp only; omega⟩ (aAllc ⟨-1 * v.toInt + 0, rfl, by dsimp only; omega⟩ (aAllc ⟨-1 * (-v).toInt + 0, rfl, by dsimp only; omega⟩ (fun f hf => by cases hf))), aAllc (m4 (0, []) (List.mem_of_getElem? (i := 0) rfl)) (fun f hf => by cases hf)⟩, hHp⟩
    · match i, he, hu with
      | 0, he, hu => cases he; cases hu; exact ⟨g0, trivial⟩
      | 1, he, hu => cases he; cases hu; exact ⟨trivial, trivial⟩
      | 2, he, hu => cases he; cases hu; exact ⟨trivial, trivial⟩
      | i + 3, he, _ => cases he
    · match i, hk with
      | 0, hk =>
        cases hk
        obtain ⟨u, e1, e2⟩ := hL.2 0 0 rfl
        exact ⟨u, e1, e2⟩
      | 1, hk => cases hk
      | 2, hk => cases hk
      | 3, hk => cases hk
      | 4, hk => cases hk
      | 5, hk => cases hk
      | 6, hk => cases hk
      | i + 7, hk => cases hk
end
section
/-! the reference: all its contracts closed -/
section RZ
variable {K : Nat → Nat} {n : Nat} {JX : (Nat → jcell) → Prop}
theorem rz_rjF2 : aGho (rH 0 K n) fa_T K n JX ag_rjF2 := rw_rjF2
theorem rz_rjF3 : aGho (rH 0 K n) fa_T K n JX ag_rjF3 := rw_rjF3
theorem rz_rjF4 : aGho (rH 0 K n) fa_T K n JX ag_rjF4 := rw_rjF4
theorem rz_rjF5 : aGho (rH 0 K n) fa_T K n JX ag_rjF5 := rw_rjF5
theorem rz_rkA0 : aGho (rH 0 K n) fa_T K n JX ag_rkA0 := rw_rkA0
theorem rz_rkA1 : aGho (rH 0 K n) fa_T K n JX ag_rkA1 := rw_rkA1
theorem rz_rkAn : aGho (rH 0 K n) fa_T K n JX ag_rkAn := rw_rkAn
theorem rz_rkQa : aGho (rH 0 K n) fa_T K n JX ag_rkQa := rw_rkQa
theorem rz_rkQb : aGho (rH 0 K n) fa_T K n JX ag_rkQb := rw_rkQb
theorem rz_rkQc : aGho (rH 0 K n) fa_T K n JX ag_rkQc := rw_rkQc
theorem rz_rkQd : aGho (rH 0 K n) fa_T K n JX ag_rkQd := rw_rkQd
theorem rz_rkRY0 : aGho (rH 0 K n) fa_T K n JX ag_rkRY0 := rw_rkRY0
theorem rz_rkRY1 : aGho (rH 0 K n) fa_T K n JX ag_rkRY1 := rw_rkRY1
theorem rz_rkRY2 : aGho (rH 0 K n) fa_T K n JX ag_rkRY2 := rw_rkRY2
theorem rz_rkRY3 : aGho (rH 0 K n) fa_T K n JX ag_rkRY3 := rw_rkRY3
theorem rz_rkRY4 : aGho (rH 0 K n) fa_T K n JX ag_rkRY4 := rw_rkRY4
theorem rz_rkRY5 : aGho (rH 0 K n) fa_T K n JX ag_rkRY5 := rw_rkRY5
theorem rz_rkRY6 : aGho (rH 0 K n) fa_T K n JX ag_rkRY6 := rw_rkRY6
theorem rz_rkRY7 : aGho (rH 0 K n) fa_T K n JX ag_rkRY7 := rw_rkRY7
theorem rz_rkRYnd : aGho (rH 0 K n) fa_T K n JX ag_rkRYnd := rw_rkRYnd
theorem rz_rkRYnu : aGho (rH 0 K n) fa_T K n JX ag_rkRYnu := rw_rkRYnu
theorem rz_rkRYq0 : aGho (rH 0 K n) fa_T K n JX ag_rkRYq0 := rw_rkRYq0
theorem rz_rkRYq1 : aGho (rH 0 K n) fa_T K n JX ag_rkRYq1 := rw_rkRYq1
theorem rz_rkRYq2 : aGho (rH 0 K n) fa_T K n JX ag_rkRYq2 := rw_rkRYq2
theorem rz_rkRYq3 : aGho (rH 0 K n) fa_T K n JX ag_rkRYq3 := rw_rkRYq3
theorem rz_rvQID : aGho (rH 0 K n) fa_T K n JX ag_rvQID := rH_of (by decide +kernel) (rG_of (by decide +kernel) rw_rvQID)
theorem rz_rvST1 : aGho (rH 0 K n) fa_T K n JX ag_rvST1 := rH_of (by decide +kernel) (rG_of (by decide +kernel) rw_rvST1)
theorem rz_rvSTna : aGho (rH 0 K n) fa_T K n JX ag_rvSTna := rH_of (by decide +kernel) (rG_of (by decide +kernel) rw_rvSTna)
theorem rz_rvSTnb : aGho (rH 0 K n) fa_T K n JX ag_rvSTnb := rH_of (by decide +kernel) (rG_of (by decide +kernel) rw_rvSTnb)
theorem rz_rvSTnc : aGho (rH 0 K n) fa_T K n JX ag_rvSTnc := rH_of (by decide +kernel) (rG_of (by decide +kernel) rw_rvSTnc)
theorem rz_rvSTnd : aGho (rH 0 K n) fa_T K n JX ag_rvSTnd := rH_of (by decide +kernel) (rG_of (by decide +kernel) rw_rvSTnd)
theorem rz_rvTRI : aGho (rH 0 K n) fa_T K n JX ag_rvTRI := rH_of (by decide +kernel) (rG_of (by decide +kernel) rw_rvTRI)
theorem rz_rvTRI0b : aGho (rH 0 K n) fa_T K n JX ag_rvTRI0b := rH_of (by decide +kernel) (rG_of (by decide +kernel) rw_rvTRI0b)
theorem rz_rwA7 : aGho (rH 0 K n) fa_T K n JX ag_rwA7 := rH_of (by decide +kernel) (rG_of (by decide +kernel) rw_rwA7)
theorem rz_rwFR : aGho (rH 0 K n) fa_T K n JX ag_rwFR := rH_of (by decide +kernel) (rG_of (by decide +kernel) rw_rwFR)
theorem rz_rwRKa : aGho (rH 0 K n) fa_T K n JX ag_rwRKa := rH_of (by decide +kernel) (rG_of (by decide +kernel) rw_rwRKa)
theorem rz_rwRKb : aGho (rH 0 K n) fa_T K n JX ag_rwRKb := rH_of (by decide +kernel) (rG_of (by decide +kernel) rw_rwRKb)
theorem rz_rwRKd : aGho (rH 0 K n) fa_T K n JX ag_rwRKd := rH_of (by decide +kernel) (rG_of (by decide +kernel) rw_rwRKd)
theorem rz_rwRM : aGho (rH 0 K n) fa_T K n JX ag_rwRM := rH_of (by decide +kernel) (rG_of (by decide +kernel) rw_rwRM)
theorem rz_rwRMa : aGho (rH 0 K n) fa_T K n JX ag_rwRMa := rH_of (by decide +kernel) (rG_of (by decide +kernel) rw_rwRMa)
theorem rz_rwRMb : aGho (rH 0 K n) fa_T K n JX ag_rwRMb := rH_of (by decide +kernel) (rG_of (by decide +kernel) rw_rwRMb)
theorem rz_rwS7 : aGho (rH 0 K n) fa_T K n JX ag_rwS7 := rH_of (by decide +kernel) (rG_of (by decide +kernel) rw_rwS7)
theorem rz_rkC0 : aGho (rH 0 K n) fa_T K n JX ag_rkC0 := rw_rkC0
theorem rz_rkCb : aGho (rH 0 K n) fa_T K n JX ag_rkCb := rw_rkCb
theorem rz_rkCe : aGho (rH 0 K n) fa_T K n JX ag_rkCe := rw_rkCe
theorem rz_rkCi : aGho (rH 0 K n) fa_T K n JX ag_rkCi := rw_rkCi
theorem rz_rkCk : aGho (rH 0 K n) fa_T K n JX ag_rkCk := rw_rkCk
theorem rz_rkCm : aGho (rH 0 K n) fa_T K n JX ag_rkCm := rw_rkCm
theorem rz_rkCn : aGho (rH 0 K n) fa_T K n JX ag_rkCn := rw_rkCn
theorem rz_rkCp : aGho (rH 0 K n) fa_T K n JX ag_rkCp := rw_rkCp
theorem rz_rkCs : aGho (rH 0 K n) fa_T K n JX ag_rkCs := rw_rkCs
theorem rz_rkD0 : aGho (rH 0 K n) fa_T K n JX ag_rkD0 := rw_rkD0
theorem rz_rkE0 : aGho (rH 0 K n) fa_T K n JX ag_rkE0 := rw_rkE0
theorem rz_rkEa : aGho (rH 0 K n) fa_T K n JX ag_rkEa := rw_rkEa
theorem rz_rkEb14 : aGho (rH 0 K n) fa_T K n JX ag_rkEb14 := rw_rkEb14
theorem rz_rkEb6 : aGho (rH 0 K n) fa_T K n JX ag_rkEb6 := rw_rkEb6
theorem rz_rkEc1 : aGho (rH 0 K n) fa_T K n JX ag_rkEc1 := rw_rkEc1
theorem rz_rkEc2 : aGho (rH 0 K n) fa_T K n JX ag_rkEc2 := rw_rkEc2
theorem rz_rkEc3 : aGho (rH 0 K n) fa_T K n JX ag_rkEc3 := rw_rkEc3
theorem rz_rkEn : aGho (rH 0 K n) fa_T K n JX ag_rkEn := rw_rkEn
theorem rz_rkEv : aGho (rH 0 K n) fa_T K n JX ag_rkEv := rw_rkEv
theorem rz_rkEz : aGho (rH 0 K n) fa_T K n JX ag_rkEz := rw_rkEz
theorem rz_rkG1 : aGho (rH 0 K n) fa_T K n JX ag_rkG1 := rw_rkG1
theorem rz_rkG2 : aGho (rH 0 K n) fa_T K n JX ag_rkG2 := rw_rkG2
theorem rz_rkG3 : aGho (rH 0 K n) fa_T K n JX ag_rkG3 := rw_rkG3
theorem rz_rkG5 : aGho (rH 0 K n) fa_T K n JX ag_rkG5 := rw_rkG5
theorem rz_rkK0 : aGho (rH 0 K n) fa_T K n JX ag_rkK0 := rw_rkK0
theorem rz_rkK1 : aGho (rH 0 K n) fa_T K n JX ag_rkK1 := rw_rkK1
theorem rz_rkMa : aGho (rH 0 K n) fa_T K n JX ag_rkMa := rw_rkMa
theorem rz_rkMb : aGho (rH 0 K n) fa_T K n JX ag_rkMb := rw_rkMb
theorem rz_rkMr : aGho (rH 0 K n) fa_T K n JX ag_rkMr := rw_rkMr
theorem rz_rkN0 : aGho (rH 0 K n) fa_T K n JX ag_rkN0 := rw_rkN0
theorem rz_rkN1 : aGho (rH 0 K n) fa_T K n JX ag_rkN1 := rw_rkN1
theorem rz_rkNr : aGho (rH 0 K n) fa_T K n JX ag_rkNr := rw_rkNr
theorem rz_rkNs : aGho (rH 0 K n) fa_T K n JX ag_rkNs := rw_rkNs
theorem rz_rkO0 : aGho (rH 0 K n) fa_T K n JX ag_rkO0 := rw_rkO0
theorem rz_rkO1 : aGho (rH 0 K n) fa_T K n JX ag_rkO1 := rw_rkO1
theorem rz_rkP0 : aGho (rH 0 K n) fa_T K n JX ag_rkP0 := rw_rkP0
theorem rz_rkP1 : aGho (rH 0 K n) fa_T K n JX ag_rkP1 := rw_rkP1
theorem rz_rkP2 : aGho (rH 0 K n) fa_T K n JX ag_rkP2 := rw_rkP2
theorem rz_rkP3 : aGho (rH 0 K n) fa_T K n JX ag_rkP3 := rw_rkP3
theorem rz_rkS2 : aGho (rH 0 K n) fa_T K n JX ag_rkS2 := rw_rkS2
theorem rz_rkS3 : aGho (rH 0 K n) fa_T K n JX ag_rkS3 := rw_rkS3
theorem rz_rkS4 : aGho (rH 0 K n) fa_T K n JX ag_rkS4 := rw_rkS4
theorem rz_rkT0 : aGho (rH 0 K n) fa_T K n JX ag_rkT0 := rw_rkT0
theorem rz_rkW1 : aGho (rH 0 K n) fa_T K n JX ag_rkW1 := rw_rkW1
theorem rz_rkWa : aGho (rH 0 K n) fa_T K n JX ag_rkWa := rw_rkWa
theorem rz_rkWb : aGho (rH 0 K n) fa_T K n JX ag_rkWb := rw_rkWb
theorem rz_rkWi : aGho (rH 0 K n) fa_T K n JX ag_rkWi := rw_rkWi
theorem rz_rkX0 : aGho (rH 0 K n) fa_T K n JX ag_rkX0 := rw_rkX0
theorem rz_rkX3584 : aGho (rH 0 K n) fa_T K n JX ag_rkX3584 := rw_rkX3584
theorem rz_rkX56 : aGho (rH 0 K n) fa_T K n JX ag_rkX56 := rw_rkX56
theorem rz_rkZn : aGho (rH 0 K n) fa_T K n JX ag_rkZn := rw_rkZn
theorem rz_rnP : aGho (rH 0 K n) fa_T K n JX ag_rnP := rw_rnP
theorem rz_rnQ : aGho (rH 0 K n) fa_T K n JX ag_rnQ := rw_rnQ
theorem rz_rvAL : aGho (rH 0 K n) fa_T K n JX ag_rvAL := rH_of (by decide +kernel) (rG_of (by decide +kernel) rw_rvAL)
theorem rz_rvCLX : aGho (rH 0 K n) fa_T K n JX ag_rvCLX := rH_of (by decide +kernel) (rG_of (by decide +kernel) rw_rvCLX)
theorem rz_rvDIR : aGho (rH 0 K n) fa_T K n JX ag_rvDIR := rH_of (by decide +kernel) (rG_of (by decide +kernel) rw_rvDIR)
theorem rz_rvDM : aGho (rH 0 K n) fa_T K n JX ag_rvDM := rH_of (by decide +kernel) (rG_of (by decide +kernel) rw_rvDM)
theorem rz_rvKD : aGho (rH 0 K n) fa_T K n JX ag_rvKD := rH_of (by decide +kernel) (rG_of (by decide +kernel) rw_rvKD)
theorem rz_rvLO0 : aGho (rH 0 K n) fa_T K n JX ag_rvLO0 := rH_of (by decide +kernel) (rG_of (by decide +kernel) rw_rvLO0)
theorem rz_rvLO1 : aGho (rH 0 K n) fa_T K n JX ag_rvLO1 := rH_of (by decide +kernel) (rG_of (by decide +kernel) rw_rvLO1)
theorem rz_rvLO10 : aGho (rH 0 K n) fa_T K n JX ag_rvLO10 := rH_of (by decide +kernel) (rG_of (by decide +kernel) rw_rvLO10)
theorem rz_rvLO2 : aGho (rH 0 K n) fa_T K n JX ag_rvLO2 := rH_of (by decide +kernel) (rG_of (by decide +kernel) rw_rvLO2)
theorem rz_rvLO3 : aGho (rH 0 K n) fa_T K n JX ag_rvLO3 := rH_of (by decide +kernel) (rG_of (by decide +kernel) rw_rvLO3)
theorem rz_rvLO4 : aGho (rH 0 K n) fa_T K n JX ag_rvLO4 := rH_of (by decide +kernel) (rG_of (by decide +kernel) rw_rvLO4)
theorem rz_rvLO5 : aGho (rH 0 K n) fa_T K n JX ag_rvLO5 := rH_of (by decide +kernel) (rG_of (by decide +kernel) rw_rvLO5)
theorem rz_rvLO6 : aGho (rH 0 K n) fa_T K n JX ag_rvLO6 := rH_of (by decide +kernel) (rG_of (by decide +kernel) rw_rvLO6)
theorem rz_rvLO7 : aGho (rH 0 K n) fa_T K n JX ag_rvLO7 := rH_of (by decide +kernel) (rG_of (by decide +kernel) rw_rvLO7)
theorem rz_rvLO8 : aGho (rH 0 K n) fa_T K n JX ag_rvLO8 := rH_of (by decide +kernel) (rG_of (by decide +kernel) rw_rvLO8)
theorem rz_rvLO9 : aGho (rH 0 K n) fa_T K n JX ag_rvLO9 := rH_of (by decide +kernel) (rG_of (by decide +kernel) rw_rvLO9)
theorem rz_rvM4d1 : aGho (rH 0 K n) fa_T K n JX ag_rvM4d1 := rH_of (by decide +kernel) (rG_of (by decide +kernel) rw_rvM4d1)
theorem rz_rvM4d2 : aGho (rH 0 K n) fa_T K n JX ag_rvM4d2 := rH_of (by decide +kernel) (rG_of (by decide +kernel) rw_rvM4d2)
theorem rz_rvM4u1 : aGho (rH 0 K n) fa_T K n JX ag_rvM4u1 := rH_of (by decide +kernel) (rG_of (by decide +kernel) rw_rvM4u1)
theorem rz_rvM4u2 : aGho (rH 0 K n) fa_T K n JX ag_rvM4u2 := rH_of (by decide +kernel) (rG_of (by decide +kernel) rw_rvM4u2)
theorem rz_rvM5d : aGho (rH 0 K n) fa_T K n JX ag_rvM5d := rH_of (by decide +kernel) (rG_of (by decide +kernel) rw_rvM5d)
theorem rz_rvM5u : aGho (rH 0 K n) fa_T K n JX ag_rvM5u := rH_of (by decide +kernel) (rG_of (by decide +kernel) rw_rvM5u)
theorem rz_rvSD : aGho (rH 0 K n) fa_T K n JX ag_rvSD := rH_of (by decide +kernel) (rG_of (by decide +kernel) rw_rvSD)
theorem rz_rvSGa : aGho (rH 0 K n) fa_T K n JX ag_rvSGa := rH_of (by decide +kernel) (rG_of (by decide +kernel) rw_rvSGa)
theorem rz_rvSQ1 : aGho (rH 0 K n) fa_T K n JX ag_rvSQ1 := rH_of (by decide +kernel) (rG_of (by decide +kernel) rw_rvSQ1)
theorem rz_rvTR64 : aGho (rH 0 K n) fa_T K n JX ag_rvTR64 := rH_of (by decide +kernel) (rG_of (by decide +kernel) rw_rvTR64)
theorem rz_rvTRv : aGho (rH 0 K n) fa_T K n JX ag_rvTRv := rH_of (by decide +kernel) (rG_of (by decide +kernel) rw_rvTRv)
theorem rz_rwA0 : aGho (rH 0 K n) fa_T K n JX ag_rwA0 := rH_of (by decide +kernel) (rG_of (by decide +kernel) rw_rwA0)
theorem rz_rwAe : aGho (rH 0 K n) fa_T K n JX ag_rwAe := rH_of (by decide +kernel) (rG_of (by decide +kernel) rw_rwAe)
theorem rz_rwAm : aGho (rH 0 K n) fa_T K n JX ag_rwAm := rH_of (by decide +kernel) (rG_of (by decide +kernel) rw_rwAm)
theorem rz_rwAn : aGho (rH 0 K n) fa_T K n JX ag_rwAn := rH_of (by decide +kernel) (rG_of (by decide +kernel) rw_rwAn)
theorem rz_rwAo : aGho (rH 0 K n) fa_T K n JX ag_rwAo := rH_of (by decide +kernel) (rG_of (by decide +kernel) rw_rwAo)
theorem rz_rwAo0 : aGho (rH 0 K n) fa_T K n JX ag_rwAo0 := rH_of (by decide +kernel) (rG_of (by decide +kernel) rw_rwAo0)
theorem rz_rwB00 : aGho (rH 0 K n) fa_T K n JX ag_rwB00 := rH_of (by decide +kernel) (rG_of (by decide +kernel) rw_rwB00)
theorem rz_rwB01 : aGho (rH 0 K n) fa_T K n JX ag_rwB01 := rH_of (by decide +kernel) (rG_of (by decide +kernel) rw_rwB01)
theorem rz_rwB02 : aGho (rH 0 K n) fa_T K n JX ag_rwB02 := rH_of (by decide +kernel) (rG_of (by decide +kernel) rw_rwB02)
theorem rz_rwB1 : aGho (rH 0 K n) fa_T K n JX ag_rwB1 := rH_of (by decide +kernel) (rG_of (by decide +kernel) rw_rwB1)
theorem rz_rwB2 : aGho (rH 0 K n) fa_T K n JX ag_rwB2 := rH_of (by decide +kernel) (rG_of (by decide +kernel) rw_rwB2)
theorem rz_rwB5 : aGho (rH 0 K n) fa_T K n JX ag_rwB5 := rH_of (by decide +kernel) (rG_of (by decide +kernel) rw_rwB5)
theorem rz_rwBB0 : aGho (rH 0 K n) fa_T K n JX ag_rwBB0 := rH_of (by decide +kernel) (rG_of (by decide +kernel) rw_rwBB0)
theorem rz_rwBBe : aGho (rH 0 K n) fa_T K n JX ag_rwBBe := rH_of (by decide +kernel) (rG_of (by decide +kernel) rw_rwBBe)
theorem rz_rwBBn : aGho (rH 0 K n) fa_T K n JX ag_rwBBn := rH_of (by decide +kernel) (rG_of (by decide +kernel) rw_rwBBn)
theorem rz_rwBBs : aGho (rH 0 K n) fa_T K n JX ag_rwBBs := rH_of (by decide +kernel) (rG_of (by decide +kernel) rw_rwBBs)
theorem rz_rwBR0 : aGho (rH 0 K n) fa_T K n JX ag_rwBR0 := rH_of (by decide +kernel) (rG_of (by decide +kernel) rw_rwBR0)
theorem rz_rwBR1 : aGho (rH 0 K n) fa_T K n JX ag_rwBR1 := rH_of (by decide +kernel) (rG_of (by decide +kernel) rw_rwBR1)
theorem rz_rwBR2 : aGho (rH 0 K n) fa_T K n JX ag_rwBR2 := rH_of (by decide +kernel) (rG_of (by decide +kernel) rw_rwBR2)
theorem rz_rwC00 : aGho (rH 0 K n) fa_T K n JX ag_rwC00 := rH_of (by decide +kernel) (rG_of (by decide +kernel) rw_rwC00)
theorem rz_rwC01 : aGho (rH 0 K n) fa_T K n JX ag_rwC01 := rH_of (by decide +kernel) (rG_of (by decide +kernel) rw_rwC01)
theorem rz_rwC1 : aGho (rH 0 K n) fa_T K n JX ag_rwC1 := rH_of (by decide +kernel) (rG_of (by decide +kernel) rw_rwC1)
theorem rz_rwC2 : aGho (rH 0 K n) fa_T K n JX ag_rwC2 := rH_of (by decide +kernel) (rG_of (by decide +kernel) rw_rwC2)
theorem rz_rwFDd : aGho (rH 0 K n) fa_T K n JX ag_rwFDd := rH_of (by decide +kernel) (rG_of (by decide +kernel) rw_rwFDd)
theorem rz_rwFDu : aGho (rH 0 K n) fa_T K n JX ag_rwFDu := rH_of (by decide +kernel) (rG_of (by decide +kernel) rw_rwFDu)
theorem rz_rwFE0 : aGho (rH 0 K n) fa_T K n JX ag_rwFE0 := rH_of (by decide +kernel) (rG_of (by decide +kernel) rw_rwFE0)
theorem rz_rwFE1 : aGho (rH 0 K n) fa_T K n JX ag_rwFE1 := rH_of (by decide +kernel) (rG_of (by decide +kernel) rw_rwFE1)
theorem rz_rwFL0 : aGho (rH 0 K n) fa_T K n JX ag_rwFL0 := rH_of (by decide +kernel) (rG_of (by decide +kernel) rw_rwFL0)
theorem rz_rwFLn : aGho (rH 0 K n) fa_T K n JX ag_rwFLn := rH_of (by decide +kernel) (rG_of (by decide +kernel) rw_rwFLn)
theorem rz_rwFLz : aGho (rH 0 K n) fa_T K n JX ag_rwFLz := rH_of (by decide +kernel) (rG_of (by decide +kernel) rw_rwFLz)
theorem rz_rwFMA : aGho (rH 0 K n) fa_T K n JX ag_rwFMA := rH_of (by decide +kernel) (rG_of (by decide +kernel) rw_rwFMA)
theorem rz_rwIC : aGho (rH 0 K n) fa_T K n JX ag_rwIC := rH_of (by decide +kernel) (rG_of (by decide +kernel) rw_rwIC)
theorem rz_rwK0 : aGho (rH 0 K n) fa_T K n JX ag_rwK0 := rH_of (by decide +kernel) (rG_of (by decide +kernel) rw_rwK0)
theorem rz_rwK1d : aGho (rH 0 K n) fa_T K n JX ag_rwK1d := rH_of (by decide +kernel) (rG_of (by decide +kernel) rw_rwK1d)
theorem rz_rwK1u : aGho (rH 0 K n) fa_T K n JX ag_rwK1u := rH_of (by decide +kernel) (rG_of (by decide +kernel) rw_rwK1u)
theorem rz_rwK2d : aGho (rH 0 K n) fa_T K n JX ag_rwK2d := rH_of (by decide +kernel) (rG_of (by decide +kernel) rw_rwK2d)
theorem rz_rwK2u : aGho (rH 0 K n) fa_T K n JX ag_rwK2u := rH_of (by decide +kernel) (rG_of (by decide +kernel) rw_rwK2u)
theorem rz_rwK98 : aGho (rH 0 K n) fa_T K n JX ag_rwK98 := rH_of (by decide +kernel) (rG_of (by decide +kernel) rw_rwK98)
theorem rz_rwK98b : aGho (rH 0 K n) fa_T K n JX ag_rwK98b := rH_of (by decide +kernel) (rG_of (by decide +kernel) rw_rwK98b)
theorem rz_rwKP0 : aGho (rH 0 K n) fa_T K n JX ag_rwKP0 := rH_of (by decide +kernel) (rG_of (by decide +kernel) rw_rwKP0)
theorem rz_rwKPe : aGho (rH 0 K n) fa_T K n JX ag_rwKPe := rH_of (by decide +kernel) (rG_of (by decide +kernel) rw_rwKPe)
theorem rz_rwKPn : aGho (rH 0 K n) fa_T K n JX ag_rwKPn := rH_of (by decide +kernel) (rG_of (by decide +kernel) rw_rwKPn)
theorem rz_rwKPs : aGho (rH 0 K n) fa_T K n JX ag_rwKPs := rH_of (by decide +kernel) (rG_of (by decide +kernel) rw_rwKPs)
theorem rz_rwKR0 : aGho (rH 0 K n) fa_T K n JX ag_rwKR0 := rH_of (by decide +kernel) (rG_of (by decide +kernel) rw_rwKR0)
theorem rz_rwKR1 : aGho (rH 0 K n) fa_T K n JX ag_rwKR1 := rH_of (by decide +kernel) (rG_of (by decide +kernel) rw_rwKR1)
theorem rz_rwKR2 : aGho (rH 0 K n) fa_T K n JX ag_rwKR2 := rH_of (by decide +kernel) (rG_of (by decide +kernel) rw_rwKR2)
theorem rz_rwKe : aGho (rH 0 K n) fa_T K n JX ag_rwKe := rH_of (by decide +kernel) (rG_of (by decide +kernel) rw_rwKe)
theorem rz_rwKnd : aGho (rH 0 K n) fa_T K n JX ag_rwKnd := rH_of (by decide +kernel) (rG_of (by decide +kernel) rw_rwKnd)
theorem rz_rwKnu : aGho (rH 0 K n) fa_T K n JX ag_rwKnu := rH_of (by decide +kernel) (rG_of (by decide +kernel) rw_rwKnu)
theorem rz_rwKs : aGho (rH 0 K n) fa_T K n JX ag_rwKs := rH_of (by decide +kernel) (rG_of (by decide +kernel) rw_rwKs)
theorem rz_rwKy : aGho (rH 0 K n) fa_T K n JX ag_rwKy := rH_of (by decide +kernel) (rG_of (by decide +kernel) rw_rwKy)
theorem rz_rwN98 : aGho (rH 0 K n) fa_T K n JX ag_rwN98 := rH_of (by decide +kernel) (rG_of (by decide +kernel) rw_rwN98)
theorem rz_rwNEd : aGho (rH 0 K n) fa_T K n JX ag_rwNEd := rH_of (by decide +kernel) (rG_of (by decide +kernel) rw_rwNEd)
theorem rz_rwNEu : aGho (rH 0 K n) fa_T K n JX ag_rwNEu := rH_of (by decide +kernel) (rG_of (by decide +kernel) rw_rwNEu)
theorem rz_rwNH : aGho (rH 0 K n) fa_T K n JX ag_rwNH := rH_of (by decide +kernel) (rG_of (by decide +kernel) rw_rwNH)
theorem rz_rwNZ : aGho (rH 0 K n) fa_T K n JX ag_rwNZ := rH_of (by decide +kernel) (rG_of (by decide +kernel) rw_rwNZ)
theorem rz_rwNa : aGho (rH 0 K n) fa_T K n JX ag_rwNa := rH_of (by decide +kernel) (rG_of (by decide +kernel) rw_rwNa)
theorem rz_rwNba : aGho (rH 0 K n) fa_T K n JX ag_rwNba := rH_of (by decide +kernel) (rG_of (by decide +kernel) rw_rwNba)
theorem rz_rwNbb : aGho (rH 0 K n) fa_T K n JX ag_rwNbb := rH_of (by decide +kernel) (rG_of (by decide +kernel) rw_rwNbb)
theorem rz_rwNbc : aGho (rH 0 K n) fa_T K n JX ag_rwNbc := rH_of (by decide +kernel) (rG_of (by decide +kernel) rw_rwNbc)
theorem rz_rwNnd : aGho (rH 0 K n) fa_T K n JX ag_rwNnd := rH_of (by decide +kernel) (rG_of (by decide +kernel) rw_rwNnd)
theorem rz_rwNnu : aGho (rH 0 K n) fa_T K n JX ag_rwNnu := rH_of (by decide +kernel) (rG_of (by decide +kernel) rw_rwNnu)
theorem rz_rwNyld : aGho (rH 0 K n) fa_T K n JX ag_rwNyld := rH_of (by decide +kernel) (rG_of (by decide +kernel) rw_rwNyld)
theorem rz_rwNylu : aGho (rH 0 K n) fa_T K n JX ag_rwNylu := rH_of (by decide +kernel) (rG_of (by decide +kernel) rw_rwNylu)
theorem rz_rwNyrd : aGho (rH 0 K n) fa_T K n JX ag_rwNyrd := rH_of (by decide +kernel) (rG_of (by decide +kernel) rw_rwNyrd)
theorem rz_rwNyru : aGho (rH 0 K n) fa_T K n JX ag_rwNyru := rH_of (by decide +kernel) (rG_of (by decide +kernel) rw_rwNyru)
theorem rz_rwP0 : aGho (rH 0 K n) fa_T K n JX ag_rwP0 := rH_of (by decide +kernel) (rG_of (by decide +kernel) rw_rwP0)
theorem rz_rwP1 : aGho (rH 0 K n) fa_T K n JX ag_rwP1 := rH_of (by decide +kernel) (rG_of (by decide +kernel) rw_rwP1)
theorem rz_rwP1n : aGho (rH 0 K n) fa_T K n JX ag_rwP1n := rH_of (by decide +kernel) (rG_of (by decide +kernel) rw_rwP1n)
theorem rz_rwPF : aGho (rH 0 K n) fa_T K n JX ag_rwPF := rH_of (by decide +kernel) (rG_of (by decide +kernel) rw_rwPF)
theorem rz_rwR1 : aGho (rH 0 K n) fa_T K n JX ag_rwR1 := rH_of (by decide +kernel) (rG_of (by decide +kernel) rw_rwR1)
theorem rz_rwR2 : aGho (rH 0 K n) fa_T K n JX ag_rwR2 := rH_of (by decide +kernel) (rG_of (by decide +kernel) rw_rwR2)
theorem rz_rwRM1 : aGho (rH 0 K n) fa_T K n JX ag_rwRM1 := rH_of (by decide +kernel) (rG_of (by decide +kernel) rw_rwRM1)
theorem rz_rwRMe : aGho (rH 0 K n) fa_T K n JX ag_rwRMe := rH_of (by decide +kernel) (rG_of (by decide +kernel) rw_rwRMe)
theorem rz_rwRT : aGho (rH 0 K n) fa_T K n JX ag_rwRT := rH_of (by decide +kernel) (rG_of (by decide +kernel) rw_rwRT)
theorem rz_rwSD0 : aGho (rH 0 K n) fa_T K n JX ag_rwSD0 := rH_of (by decide +kernel) (rG_of (by decide +kernel) rw_rwSD0)
theorem rz_rwSD1 : aGho (rH 0 K n) fa_T K n JX ag_rwSD1 := rH_of (by decide +kernel) (rG_of (by decide +kernel) rw_rwSD1)
theorem rz_rwSDa : aGho (rH 0 K n) fa_T K n JX ag_rwSDa := rH_of (by decide +kernel) (rG_of (by decide +kernel) rw_rwSDa)
theorem rz_rwSDb : aGho (rH 0 K n) fa_T K n JX ag_rwSDb := rH_of (by decide +kernel) (rG_of (by decide +kernel) rw_rwSDb)
theorem rz_rwSO0 : aGho (rH 0 K n) fa_T K n JX ag_rwSO0 := rH_of (by decide +kernel) (rG_of (by decide +kernel) rw_rwSO0)
theorem rz_rwSO1 : aGho (rH 0 K n) fa_T K n JX ag_rwSO1 := rH_of (by decide +kernel) (rG_of (by decide +kernel) rw_rwSO1)
theorem rz_rwTCAd : aGho (rH 0 K n) fa_T K n JX ag_rwTCAd := rH_of (by decide +kernel) (rG_of (by decide +kernel) rw_rwTCAd)
theorem rz_rwTCAu : aGho (rH 0 K n) fa_T K n JX ag_rwTCAu := rH_of (by decide +kernel) (rG_of (by decide +kernel) rw_rwTCAu)
theorem rz_rwTM : aGho (rH 0 K n) fa_T K n JX ag_rwTM := rH_of (by decide +kernel) (rG_of (by decide +kernel) rw_rwTM)
theorem rz_rwTNf0 : aGho (rH 0 K n) fa_T K n JX ag_rwTNf0 := rH_of (by decide +kernel) (rG_of (by decide +kernel) rw_rwTNf0)
theorem rz_rwTNf1 : aGho (rH 0 K n) fa_T K n JX ag_rwTNf1 := rH_of (by decide +kernel) (rG_of (by decide +kernel) rw_rwTNf1)
theorem rz_rwTNk0 : aGho (rH 0 K n) fa_T K n JX ag_rwTNk0 := rH_of (by decide +kernel) (rG_of (by decide +kernel) rw_rwTNk0)
theorem rz_rwTNk1 : aGho (rH 0 K n) fa_T K n JX ag_rwTNk1 := rH_of (by decide +kernel) (rG_of (by decide +kernel) rw_rwTNk1)
theorem rz_rwTNx00 : aGho (rH 0 K n) fa_T K n JX ag_rwTNx00 := rH_of (by decide +kernel) (rG_of (by decide +kernel) rw_rwTNx00)
theorem rz_rwTNx01 : aGho (rH 0 K n) fa_T K n JX ag_rwTNx01 := rH_of (by decide +kernel) (rG_of (by decide +kernel) rw_rwTNx01)
theorem rz_rwTNx11 : aGho (rH 0 K n) fa_T K n JX ag_rwTNx11 := rH_of (by decide +kernel) (rG_of (by decide +kernel) rw_rwTNx11)
theorem rz_rwU0a : aGho (rH 0 K n) fa_T K n JX ag_rwU0a := rH_of (by decide +kernel) (rG_of (by decide +kernel) rw_rwU0a)
theorem rz_rwU0b : aGho (rH 0 K n) fa_T K n JX ag_rwU0b := rH_of (by decide +kernel) (rG_of (by decide +kernel) rw_rwU0b)
theorem rz_rwU0c : aGho (rH 0 K n) fa_T K n JX ag_rwU0c := rH_of (by decide +kernel) (rG_of (by decide +kernel) rw_rwU0c)
theorem rz_rwU0p : aGho (rH 0 K n) fa_T K n JX ag_rwU0p := rH_of (by decide +kernel) (rG_of (by decide +kernel) rw_rwU0p)
theorem rz_rwU1n : aGho (rH 0 K n) fa_T K n JX ag_rwU1n := rH_of (by decide +kernel) (rG_of (by decide +kernel) rw_rwU1n)
theorem rz_rwU2 : aGho (rH 0 K n) fa_T K n JX ag_rwU2 := rH_of (by decide +kernel) (rG_of (by decide +kernel) rw_rwU2)
theorem rz_rwU3a : aGho (rH 0 K n) fa_T K n JX ag_rwU3a := rH_of (by decide +kernel) (rG_of (by decide +kernel) rw_rwU3a)
theorem rz_rwU3b : aGho (rH 0 K n) fa_T K n JX ag_rwU3b := rH_of (by decide +kernel) (rG_of (by decide +kernel) rw_rwU3b)
theorem rz_rwWN0 : aGho (rH 0 K n) fa_T K n JX ag_rwWN0 := rH_of (by decide +kernel) (rG_of (by decide +kernel) rw_rwWN0)
theorem rz_rwWN1 : aGho (rH 0 K n) fa_T K n JX ag_rwWN1 := rH_of (by decide +kernel) (rG_of (by decide +kernel) rw_rwWN1)
theorem rz_rwWY : aGho (rH 0 K n) fa_T K n JX ag_rwWY := rH_of (by decide +kernel) (rG_of (by decide +kernel) rw_rwWY)
theorem rz_rgL0 : aGho (rH 0 K n) fa_T K n JX ag_rgL0 := rw_rgL0
theorem rz_rgLb : aGho (rH 0 K n) fa_T K n JX ag_rgLb := rw_rgLb
theorem rz_rgLe : aGho (rH 0 K n) fa_T K n JX ag_rgLe := rw_rgLe
theorem rz_rgLn : aGho (rH 0 K n) fa_T K n JX ag_rgLn := rw_rgLn
theorem rz_rgLs : aGho (rH 0 K n) fa_T K n JX ag_rgLs := rw_rgLs
theorem rz_riE : aGho (rH 0 K n) fa_T K n JX ag_riE := rw_riE
theorem rz_riG : aGho (rH 0 K n) fa_T K n JX ag_riG := rw_riG
theorem rz_riG0 : aGho (rH 0 K n) fa_T K n JX ag_riG0 := rw_riG0
theorem rz_riG2 : aGho (rH 0 K n) fa_T K n JX ag_riG2 := rw_riG2
theorem rz_riG3 : aGho (rH 0 K n) fa_T K n JX ag_riG3 := rw_riG3
theorem rz_riG4 : aGho (rH 0 K n) fa_T K n JX ag_riG4 := rw_riG4
theorem rz_riG5 : aGho (rH 0 K n) fa_T K n JX ag_riG5 := rw_riG5
theorem rz_riG6 : aGho (rH 0 K n) fa_T K n JX ag_riG6 := rw_riG6
theorem rz_riH : aGho (rH 0 K n) fa_T K n JX ag_riH := rw_riH
theorem rz_riL0 : aGho (rH 0 K n) fa_T K n JX ag_riL0 := rw_riL0
theorem rz_riL1 : aGho (rH 0 K n) fa_T K n JX ag_riL1 := rw_riL1
theorem rz_riL2 : aGho (rH 0 K n) fa_T K n JX ag_riL2 := rw_riL2
theorem rz_riL3 : aGho (rH 0 K n) fa_T K n JX ag_riL3 := rw_riL3
theorem rz_riM0 : aGho (rH 0 K n) fa_T K n JX ag_riM0 := rw_riM0
theorem rz_riMn : aGho (rH 0 K n) fa_T K n JX ag_riMn := rw_riMn
theorem rz_riMs : aGho (rH 0 K n) fa_T K n JX ag_riMs := rw_riMs
theorem rz_riN : aGho (rH 0 K n) fa_T K n JX ag_riN := rw_riN
theorem rz_riO : aGho (rH 0 K n) fa_T K n JX ag_riO := rw_riO
theorem rz_riP0 : aGho (rH 0 K n) fa_T K n JX ag_riP0 := rw_riP0
theorem rz_riPe : aGho (rH 0 K n) fa_T K n JX ag_riPe := rw_riPe
theorem rz_riPn : aGho (rH 0 K n) fa_T K n JX ag_riPn := rw_riPn
theorem rz_riPs : aGho (rH 0 K n) fa_T K n JX ag_riPs := rw_riPs
theorem rz_riRC0 : aGho (rH 0 K n) fa_T K n JX ag_riRC0 := rw_riRC0
theorem rz_riRC1 : aGho (rH 0 K n) fa_T K n JX ag_riRC1 := rw_riRC1
theorem rz_riRC2 : aGho (rH 0 K n) fa_T K n JX ag_riRC2 := rw_riRC2
theorem rz_riRC3 : aGho (rH 0 K n) fa_T K n JX ag_riRC3 := rw_riRC3
theorem rz_riS0 : aGho (rH 0 K n) fa_T K n JX ag_riS0 := rw_riS0
theorem rz_riS1 : aGho (rH 0 K n) fa_T K n JX ag_riS1 := rw_riS1
theorem rz_riSd : aGho (rH 0 K n) fa_T K n JX ag_riSd := rw_riSd
theorem rz_riT1 : aGho (rH 0 K n) fa_T K n JX ag_riT1 := rw_riT1
theorem rz_riT2 : aGho (rH 0 K n) fa_T K n JX ag_riT2 := rw_riT2
theorem rz_riT3 : aGho (rH 0 K n) fa_T K n JX ag_riT3 := rw_riT3
theorem rz_riT4 : aGho (rH 0 K n) fa_T K n JX ag_riT4 := rw_riT4
theorem rz_riU : aGho (rH 0 K n) fa_T K n JX ag_riU := rw_riU
theorem rz_rjK3 : aGho (rH 0 K n) fa_T K n JX ag_rjK3 := rw_rjK3
theorem rz_rjK4 : aGho (rH 0 K n) fa_T K n JX ag_rjK4 := rw_rjK4
theorem rz_rkU0 : aGho (rH 0 K n) fa_T K n JX ag_rkU0 := rw_rkU0
theorem rz_rkUe : aGho (rH 0 K n) fa_T K n JX ag_rkUe := rw_rkUe
theorem rz_rkUn : aGho (rH 0 K n) fa_T K n JX ag_rkUn := rw_rkUn
theorem rz_rkUy : aGho (rH 0 K n) fa_T K n JX ag_rkUy := rw_rkUy
theorem rz_rkY0 : aGho (rH 0 K n) fa_T K n JX ag_rkY0 := rw_rkY0
theorem rz_rkY1 : aGho (rH 0 K n) fa_T K n JX ag_rkY1 := rw_rkY1
theorem rz_rkY2 : aGho (rH 0 K n) fa_T K n JX ag_rkY2 := rw_rkY2
theorem rz_rkY3 : aGho (rH 0 K n) fa_T K n JX ag_rkY3 := rw_rkY3
theorem rz_rkY4 : aGho (rH 0 K n) fa_T K n JX ag_rkY4 := rw_rkY4
theorem rz_rkY5 : aGho (rH 0 K n) fa_T K n JX ag_rkY5 := rw_rkY5
theorem rz_rnB : aGho (rH 0 K n) fa_T K n JX ag_rnB := rw_rnB
theorem rz_rnFv : aGho (rH 0 K n) fa_T K n JX ag_rnFv := rw_rnFv
theorem rz_rnGv : aGho (rH 0 K n) fa_T K n JX ag_rnGv := rw_rnGv
theorem rz_rnN1 : aGho (rH 0 K n) fa_T K n JX ag_rnN1 := rw_rnN1
theorem rz_rnN2 : aGho (rH 0 K n) fa_T K n JX ag_rnN2 := rw_rnN2
theorem rz_rsJ : aGho (rH 0 K n) fa_T K n JX ag_rsJ := rw_rsJ
theorem rz_rvA0 : aGho (rH 0 K n) fa_T K n JX ag_rvA0 := rH_of (by decide +kernel) (rG_of (by decide +kernel) rw_rvA0)
theorem rz_rvA1 : aGho (rH 0 K n) fa_T K n JX ag_rvA1 := rH_of (by decide +kernel) (rG_of (by decide +kernel) rw_rvA1)
theorem rz_rvAP : aGho (rH 0 K n) fa_T K n JX ag_rvAP := rH_of (by decide +kernel) (rG_of (by decide +kernel) rw_rvAP)
theorem rz_rvAe : aGho (rH 0 K n) fa_T K n JX ag_rvAe := rH_of (by decide +kernel) (rG_of (by decide +kernel) rw_rvAe)
theorem rz_rvAe0 : aGho (rH 0 K n) fa_T K n JX ag_rvAe0 := rH_of (by decide +kernel) (rG_of (by decide +kernel) rw_rvAe0)
theorem rz_rvAi : aGho (rH 0 K n) fa_T K n JX ag_rvAi := rH_of (by decide +kernel) (rG_of (by decide +kernel) rw_rvAi)
theorem rz_rvAn : aGho (rH 0 K n) fa_T K n JX ag_rvAn := rH_of (by decide +kernel) (rG_of (by decide +kernel) rw_rvAn)
theorem rz_rvAs0 : aGho (rH 0 K n) fa_T K n JX ag_rvAs0 := rH_of (by decide +kernel) (rG_of (by decide +kernel) rw_rvAs0)
theorem rz_rvAs1 : aGho (rH 0 K n) fa_T K n JX ag_rvAs1 := rH_of (by decide +kernel) (rG_of (by decide +kernel) rw_rvAs1)
theorem rz_rvB0 : aGho (rH 0 K n) fa_T K n JX ag_rvB0 := rH_of (by decide +kernel) (rG_of (by decide +kernel) rw_rvB0)
theorem rz_rvB1 : aGho (rH 0 K n) fa_T K n JX ag_rvB1 := rH_of (by decide +kernel) (rG_of (by decide +kernel) rw_rvB1)
theorem rz_rvBE : aGho (rH 0 K n) fa_T K n JX ag_rvBE := rH_of (by decide +kernel) (rG_of (by decide +kernel) rw_rvBE)
theorem rz_rvBFo : aGho (rH 0 K n) fa_T K n JX ag_rvBFo := rH_of (by decide +kernel) (rG_of (by decide +kernel) rw_rvBFo)
theorem rz_rvBFp : aGho (rH 0 K n) fa_T K n JX ag_rvBFp := rH_of (by decide +kernel) (rG_of (by decide +kernel) rw_rvBFp)
theorem rz_rvBO : aGho (rH 0 K n) fa_T K n JX ag_rvBO := rH_of (by decide +kernel) (rG_of (by decide +kernel) rw_rvBO)
theorem rz_rvBT1 : aGho (rH 0 K n) fa_T K n JX ag_rvBT1 := rH_of (by decide +kernel) (rG_of (by decide +kernel) rw_rvBT1)
theorem rz_rvC0 : aGho (rH 0 K n) fa_T K n JX ag_rvC0 := rH_of (by decide +kernel) (rG_of (by decide +kernel) rw_rvC0)
theorem rz_rvCASd : aGho (rH 0 K n) fa_T K n JX ag_rvCASd := rH_of (by decide +kernel) (rG_of (by decide +kernel) rw_rvCASd)
theorem rz_rvCASu : aGho (rH 0 K n) fa_T K n JX ag_rvCASu := rH_of (by decide +kernel) (rG_of (by decide +kernel) rw_rvCASu)
theorem rz_rvCAq : aGho (rH 0 K n) fa_T K n JX ag_rvCAq := rH_of (by decide +kernel) (rG_of (by decide +kernel) rw_rvCAq)
theorem rz_rvCE : aGho (rH 0 K n) fa_T K n JX ag_rvCE := rH_of (by decide +kernel) (rG_of (by decide +kernel) rw_rvCE)
theorem rz_rvCJ0 : aGho (rH 0 K n) fa_T K n JX ag_rvCJ0 := rH_of (by decide +kernel) (rG_of (by decide +kernel) rw_rvCJ0)
theorem rz_rvCJ1 : aGho (rH 0 K n) fa_T K n JX ag_rvCJ1 := rH_of (by decide +kernel) (rG_of (by decide +kernel) rw_rvCJ1)
theorem rz_rvCL0 : aGho (rH 0 K n) fa_T K n JX ag_rvCL0 := rH_of (by decide +kernel) (rG_of (by decide +kernel) rw_rvCL0)
theorem rz_rvCL1 : aGho (rH 0 K n) fa_T K n JX ag_rvCL1 := rH_of (by decide +kernel) (rG_of (by decide +kernel) rw_rvCL1)
theorem rz_rvCLc : aGho (rH 0 K n) fa_T K n JX ag_rvCLc := rH_of (by decide +kernel) (rG_of (by decide +kernel) rw_rvCLc)
theorem rz_rvCLm : aGho (rH 0 K n) fa_T K n JX ag_rvCLm := rH_of (by decide +kernel) (rG_of (by decide +kernel) rw_rvCLm)
theorem rz_rvCLo : aGho (rH 0 K n) fa_T K n JX ag_rvCLo := rH_of (by decide +kernel) (rG_of (by decide +kernel) rw_rvCLo)
theorem rz_rvCLp : aGho (rH 0 K n) fa_T K n JX ag_rvCLp := rH_of (by decide +kernel) (rG_of (by decide +kernel) rw_rvCLp)
theorem rz_rvCN1 : aGho (rH 0 K n) fa_T K n JX ag_rvCN1 := rH_of (by decide +kernel) (rG_of (by decide +kernel) rw_rvCN1)
theorem rz_rvCT : aGho (rH 0 K n) fa_T K n JX ag_rvCT := rH_of (by decide +kernel) (rG_of (by decide +kernel) rw_rvCT)
theorem rz_rvCTr2 : aGho (rH 0 K n) fa_T K n JX ag_rvCTr2 := rH_of (by decide +kernel) (rG_of (by decide +kernel) rw_rvCTr2)
theorem rz_rvCV : aGho (rH 0 K n) fa_T K n JX ag_rvCV := rH_of (by decide +kernel) (rG_of (by decide +kernel) rw_rvCV)
theorem rz_rvCVz : aGho (rH 0 K n) fa_T K n JX ag_rvCVz := rH_of (by decide +kernel) (rG_of (by decide +kernel) rw_rvCVz)
theorem rz_rvCe1b : aGho (rH 0 K n) fa_T K n JX ag_rvCe1b := rH_of (by decide +kernel) (rG_of (by decide +kernel) rw_rvCe1b)
theorem rz_rvCe2 : aGho (rH 0 K n) fa_T K n JX ag_rvCe2 := rH_of (by decide +kernel) (rG_of (by decide +kernel) rw_rvCe2)
theorem rz_rvCf : aGho (rH 0 K n) fa_T K n JX ag_rvCf := rH_of (by decide +kernel) (rG_of (by decide +kernel) rw_rvCf)
theorem rz_rvCi : aGho (rH 0 K n) fa_T K n JX ag_rvCi := rH_of (by decide +kernel) (rG_of (by decide +kernel) rw_rvCi)
theorem rz_rvCn10 : aGho (rH 0 K n) fa_T K n JX ag_rvCn10 := rH_of (by decide +kernel) (rG_of (by decide +kernel) rw_rvCn10)
theorem rz_rvCn11 : aGho (rH 0 K n) fa_T K n JX ag_rvCn11 := rH_of (by decide +kernel) (rG_of (by decide +kernel) rw_rvCn11)
theorem rz_rvCn2 : aGho (rH 0 K n) fa_T K n JX ag_rvCn2 := rH_of (by decide +kernel) (rG_of (by decide +kernel) rw_rvCn2)
theorem rz_rvCs : aGho (rH 0 K n) fa_T K n JX ag_rvCs := rH_of (by decide +kernel) (rG_of (by decide +kernel) rw_rvCs)
theorem rz_rvDM2 : aGho (rH 0 K n) fa_T K n JX ag_rvDM2 := rH_of (by decide +kernel) (rG_of (by decide +kernel) rw_rvDM2)
theorem rz_rvEN0 : aGho (rH 0 K n) fa_T K n JX ag_rvEN0 := rH_of (by decide +kernel) (rG_of (by decide +kernel) rw_rvEN0)
theorem rz_rvENn : aGho (rH 0 K n) fa_T K n JX ag_rvENn := rH_of (by decide +kernel) (rG_of (by decide +kernel) rw_rvENn)
theorem rz_rvENs : aGho (rH 0 K n) fa_T K n JX ag_rvENs := rH_of (by decide +kernel) (rG_of (by decide +kernel) rw_rvENs)
theorem rz_rvEP000 : aGho (rH 0 K n) fa_T K n JX ag_rvEP000 := rH_of (by decide +kernel) (rG_of (by decide +kernel) rw_rvEP000)
theorem rz_rvEP001 : aGho (rH 0 K n) fa_T K n JX ag_rvEP001 := rH_of (by decide +kernel) (rG_of (by decide +kernel) rw_rvEP001)
theorem rz_rvEP010 : aGho (rH 0 K n) fa_T K n JX ag_rvEP010 := rH_of (by decide +kernel) (rG_of (by decide +kernel) rw_rvEP010)
theorem rz_rvEP011 : aGho (rH 0 K n) fa_T K n JX ag_rvEP011 := rH_of (by decide +kernel) (rG_of (by decide +kernel) rw_rvEP011)
theorem rz_rvEPn : aGho (rH 0 K n) fa_T K n JX ag_rvEPn := rH_of (by decide +kernel) (rG_of (by decide +kernel) rw_rvEPn)
theorem rz_rvFE0 : aGho (rH 0 K n) fa_T K n JX ag_rvFE0 := rH_of (by decide +kernel) (rG_of (by decide +kernel) rw_rvFE0)
theorem rz_rvFE1 : aGho (rH 0 K n) fa_T K n JX ag_rvFE1 := rH_of (by decide +kernel) (rG_of (by decide +kernel) rw_rvFE1)
theorem rz_rvFL0 : aGho (rH 0 K n) fa_T K n JX ag_rvFL0 := rH_of (by decide +kernel) (rG_of (by decide +kernel) rw_rvFL0)
theorem rz_rvFLn : aGho (rH 0 K n) fa_T K n JX ag_rvFLn := rH_of (by decide +kernel) (rG_of (by decide +kernel) rw_rvFLn)
theorem rz_rvFLz : aGho (rH 0 K n) fa_T K n JX ag_rvFLz := rH_of (by decide +kernel) (rG_of (by decide +kernel) rw_rvFLz)
theorem rz_rvFMA : aGho (rH 0 K n) fa_T K n JX ag_rvFMA := rH_of (by decide +kernel) (rG_of (by decide +kernel) rw_rvFMA)
theorem rz_rvG1 : aGho (rH 0 K n) fa_T K n JX ag_rvG1 := rH_of (by decide +kernel) (rG_of (by decide +kernel) rw_rvG1)
theorem rz_rvG20 : aGho (rH 0 K n) fa_T K n JX ag_rvG20 := rH_of (by decide +kernel) (rG_of (by decide +kernel) rw_rvG20)
theorem rz_rvG21 : aGho (rH 0 K n) fa_T K n JX ag_rvG21 := rH_of (by decide +kernel) (rG_of (by decide +kernel) rw_rvG21)
theorem rz_rvG300 : aGho (rH 0 K n) fa_T K n JX ag_rvG300 := rH_of (by decide +kernel) (rG_of (by decide +kernel) rw_rvG300)
theorem rz_rvG301 : aGho (rH 0 K n) fa_T K n JX ag_rvG301 := rH_of (by decide +kernel) (rG_of (by decide +kernel) rw_rvG301)
theorem rz_rvG310 : aGho (rH 0 K n) fa_T K n JX ag_rvG310 := rH_of (by decide +kernel) (rG_of (by decide +kernel) rw_rvG310)
theorem rz_rvG311 : aGho (rH 0 K n) fa_T K n JX ag_rvG311 := rH_of (by decide +kernel) (rG_of (by decide +kernel) rw_rvG311)
theorem rz_rvGP : aGho (rH 0 K n) fa_T K n JX ag_rvGP := rH_of (by decide +kernel) (rG_of (by decide +kernel) rw_rvGP)
theorem rz_rvGQ : aGho (rH 0 K n) fa_T K n JX ag_rvGQ := rH_of (by decide +kernel) (rG_of (by decide +kernel) rw_rvGQ)
theorem rz_rvGY : aGho (rH 0 K n) fa_T K n JX ag_rvGY := rH_of (by decide +kernel) (rG_of (by decide +kernel) rw_rvGY)
theorem rz_rvGZ : aGho (rH 0 K n) fa_T K n JX ag_rvGZ := rH_of (by decide +kernel) (rG_of (by decide +kernel) rw_rvGZ)
theorem rz_rvGl00 : aGho (rH 0 K n) fa_T K n JX ag_rvGl00 := rH_of (by decide +kernel) (rG_of (by decide +kernel) rw_rvGl00)
theorem rz_rvGl01 : aGho (rH 0 K n) fa_T K n JX ag_rvGl01 := rH_of (by decide +kernel) (rG_of (by decide +kernel) rw_rvGl01)
theorem rz_rvGl10 : aGho (rH 0 K n) fa_T K n JX ag_rvGl10 := rH_of (by decide +kernel) (rG_of (by decide +kernel) rw_rvGl10)
theorem rz_rvGl11 : aGho (rH 0 K n) fa_T K n JX ag_rvGl11 := rH_of (by decide +kernel) (rG_of (by decide +kernel) rw_rvGl11)
theorem rz_rvGs00 : aGho (rH 0 K n) fa_T K n JX ag_rvGs00 := rH_of (by decide +kernel) (rG_of (by decide +kernel) rw_rvGs00)
theorem rz_rvGs01 : aGho (rH 0 K n) fa_T K n JX ag_rvGs01 := rH_of (by decide +kernel) (rG_of (by decide +kernel) rw_rvGs01)
theorem rz_rvGs10 : aGho (rH 0 K n) fa_T K n JX ag_rvGs10 := rH_of (by decide +kernel) (rG_of (by decide +kernel) rw_rvGs10)
theorem rz_rvGs11 : aGho (rH 0 K n) fa_T K n JX ag_rvGs11 := rH_of (by decide +kernel) (rG_of (by decide +kernel) rw_rvGs11)
theorem rz_rvHK : aGho (rH 0 K n) fa_T K n JX ag_rvHK := rH_of (by decide +kernel) (rG_of (by decide +kernel) rw_rvHK)
theorem rz_rvHK2 : aGho (rH 0 K n) fa_T K n JX ag_rvHK2 := rH_of (by decide +kernel) (rG_of (by decide +kernel) rw_rvHK2)
theorem rz_rvHKs : aGho (rH 0 K n) fa_T K n JX ag_rvHKs := rH_of (by decide +kernel) (rG_of (by decide +kernel) rw_rvHKs)
theorem rz_rvHLn : aGho (rH 0 K n) fa_T K n JX ag_rvHLn := rH_of (by decide +kernel) (rG_of (by decide +kernel) rw_rvHLn)
theorem rz_rvHM0 : aGho (rH 0 K n) fa_T K n JX ag_rvHM0 := rH_of (by decide +kernel) (rG_of (by decide +kernel) rw_rvHM0)
theorem rz_rvHM1 : aGho (rH 0 K n) fa_T K n JX ag_rvHM1 := rH_of (by decide +kernel) (rG_of (by decide +kernel) rw_rvHM1)
theorem rz_rvHMa : aGho (rH 0 K n) fa_T K n JX ag_rvHMa := rH_of (by decide +kernel) (rG_of (by decide +kernel) rw_rvHMa)
theorem rz_rvHMb : aGho (rH 0 K n) fa_T K n JX ag_rvHMb := rH_of (by decide +kernel) (rG_of (by decide +kernel) rw_rvHMb)
theorem rz_rvHMp : aGho (rH 0 K n) fa_T K n JX ag_rvHMp := rH_of (by decide +kernel) (rG_of (by decide +kernel) rw_rvHMp)
theorem rz_rvIC : aGho (rH 0 K n) fa_T K n JX ag_rvIC := rH_of (by decide +kernel) (rG_of (by decide +kernel) rw_rvIC)
theorem rz_rvIL0 : aGho (rH 0 K n) fa_T K n JX ag_rvIL0 := rH_of (by decide +kernel) (rG_of (by decide +kernel) rw_rvIL0)
theorem rz_rvIL1 : aGho (rH 0 K n) fa_T K n JX ag_rvIL1 := rH_of (by decide +kernel) (rG_of (by decide +kernel) rw_rvIL1)
theorem rz_rvJe0 : aGho (rH 0 K n) fa_T K n JX ag_rvJe0 := rH_of (by decide +kernel) (rG_of (by decide +kernel) rw_rvJe0)
theorem rz_rvJe1 : aGho (rH 0 K n) fa_T K n JX ag_rvJe1 := rH_of (by decide +kernel) (rG_of (by decide +kernel) rw_rvJe1)
theorem rz_rvJn0 : aGho (rH 0 K n) fa_T K n JX ag_rvJn0 := rH_of (by decide +kernel) (rG_of (by decide +kernel) rw_rvJn0)
theorem rz_rvJn1 : aGho (rH 0 K n) fa_T K n JX ag_rvJn1 := rH_of (by decide +kernel) (rG_of (by decide +kernel) rw_rvJn1)
theorem rz_rvJs : aGho (rH 0 K n) fa_T K n JX ag_rvJs := rH_of (by decide +kernel) (rG_of (by decide +kernel) rw_rvJs)
theorem rz_rvJy0 : aGho (rH 0 K n) fa_T K n JX ag_rvJy0 := rH_of (by decide +kernel) (rG_of (by decide +kernel) rw_rvJy0)
theorem rz_rvJy1 : aGho (rH 0 K n) fa_T K n JX ag_rvJy1 := rH_of (by decide +kernel) (rG_of (by decide +kernel) rw_rvJy1)
theorem rz_rvK0 : aGho (rH 0 K n) fa_T K n JX ag_rvK0 := rH_of (by decide +kernel) (rG_of (by decide +kernel) rw_rvK0)
theorem rz_rvK1d : aGho (rH 0 K n) fa_T K n JX ag_rvK1d := rH_of (by decide +kernel) (rG_of (by decide +kernel) rw_rvK1d)
theorem rz_rvK1u : aGho (rH 0 K n) fa_T K n JX ag_rvK1u := rH_of (by decide +kernel) (rG_of (by decide +kernel) rw_rvK1u)
theorem rz_rvK2d : aGho (rH 0 K n) fa_T K n JX ag_rvK2d := rH_of (by decide +kernel) (rG_of (by decide +kernel) rw_rvK2d)
theorem rz_rvK2u : aGho (rH 0 K n) fa_T K n JX ag_rvK2u := rH_of (by decide +kernel) (rG_of (by decide +kernel) rw_rvK2u)
theorem rz_rvK3d : aGho (rH 0 K n) fa_T K n JX ag_rvK3d := rH_of (by decide +kernel) (rG_of (by decide +kernel) rw_rvK3d)
theorem rz_rvK3u : aGho (rH 0 K n) fa_T K n JX ag_rvK3u := rH_of (by decide +kernel) (rG_of (by decide +kernel) rw_rvK3u)
theorem rz_rvK4d : aGho (rH 0 K n) fa_T K n JX ag_rvK4d := rH_of (by decide +kernel) (rG_of (by decide +kernel) rw_rvK4d)
theorem rz_rvK4u : aGho (rH 0 K n) fa_T K n JX ag_rvK4u := rH_of (by decide +kernel) (rG_of (by decide +kernel) rw_rvK4u)
theorem rz_rvKF : aGho (rH 0 K n) fa_T K n JX ag_rvKF := rH_of (by decide +kernel) (rG_of (by decide +kernel) rw_rvKF)
theorem rz_rvKF2 : aGho (rH 0 K n) fa_T K n JX ag_rvKF2 := rH_of (by decide +kernel) (rG_of (by decide +kernel) rw_rvKF2)
theorem rz_rvKO : aGho (rH 0 K n) fa_T K n JX ag_rvKO := rH_of (by decide +kernel) (rG_of (by decide +kernel) rw_rvKO)
theorem rz_rvKb : aGho (rH 0 K n) fa_T K n JX ag_rvKb := rH_of (by decide +kernel) (rG_of (by decide +kernel) rw_rvKb)
theorem rz_rvKnd : aGho (rH 0 K n) fa_T K n JX ag_rvKnd := rH_of (by decide +kernel) (rG_of (by decide +kernel) rw_rvKnd)
theorem rz_rvKnu : aGho (rH 0 K n) fa_T K n JX ag_rvKnu := rH_of (by decide +kernel) (rG_of (by decide +kernel) rw_rvKnu)
theorem rz_rvKs : aGho (rH 0 K n) fa_T K n JX ag_rvKs := rH_of (by decide +kernel) (rG_of (by decide +kernel) rw_rvKs)
theorem rz_rvLF0 : aGho (rH 0 K n) fa_T K n JX ag_rvLF0 := rH_of (by decide +kernel) (rG_of (by decide +kernel) rw_rvLF0)
theorem rz_rvLFn : aGho (rH 0 K n) fa_T K n JX ag_rvLFn := rH_of (by decide +kernel) (rG_of (by decide +kernel) rw_rvLFn)
theorem rz_rvLFs : aGho (rH 0 K n) fa_T K n JX ag_rvLFs := rH_of (by decide +kernel) (rG_of (by decide +kernel) rw_rvLFs)
theorem rz_rvLGy : aGho (rH 0 K n) fa_T K n JX ag_rvLGy := rH_of (by decide +kernel) (rG_of (by decide +kernel) rw_rvLGy)
theorem rz_rvLN1 : aGho (rH 0 K n) fa_T K n JX ag_rvLN1 := rH_of (by decide +kernel) (rG_of (by decide +kernel) rw_rvLN1)
theorem rz_rvLN2 : aGho (rH 0 K n) fa_T K n JX ag_rvLN2 := rH_of (by decide +kernel) (rG_of (by decide +kernel) rw_rvLN2)
theorem rz_rvLN3 : aGho (rH 0 K n) fa_T K n JX ag_rvLN3 := rH_of (by decide +kernel) (rG_of (by decide +kernel) rw_rvLN3)
theorem rz_rvLN4 : aGho (rH 0 K n) fa_T K n JX ag_rvLN4 := rH_of (by decide +kernel) (rG_of (by decide +kernel) rw_rvLN4)
theorem rz_rvLS0a : aGho (rH 0 K n) fa_T K n JX ag_rvLS0a := rH_of (by decide +kernel) (rG_of (by decide +kernel) rw_rvLS0a)
theorem rz_rvLS0b0 : aGho (rH 0 K n) fa_T K n JX ag_rvLS0b0 := rH_of (by decide +kernel) (rG_of (by decide +kernel) rw_rvLS0b0)
theorem rz_rvLS0b1 : aGho (rH 0 K n) fa_T K n JX ag_rvLS0b1 := rH_of (by decide +kernel) (rG_of (by decide +kernel) rw_rvLS0b1)
theorem rz_rvLS1a : aGho (rH 0 K n) fa_T K n JX ag_rvLS1a := rH_of (by decide +kernel) (rG_of (by decide +kernel) rw_rvLS1a)
theorem rz_rvLS1b : aGho (rH 0 K n) fa_T K n JX ag_rvLS1b := rH_of (by decide +kernel) (rG_of (by decide +kernel) rw_rvLS1b)
theorem rz_rvLd0 : aGho (rH 0 K n) fa_T K n JX ag_rvLd0 := rH_of (by decide +kernel) (rG_of (by decide +kernel) rw_rvLd0)
theorem rz_rvLdv : aGho (rH 0 K n) fa_T K n JX ag_rvLdv := rH_of (by decide +kernel) (rG_of (by decide +kernel) rw_rvLdv)
theorem rz_rvLdv0 : aGho (rH 0 K n) fa_T K n JX ag_rvLdv0 := rH_of (by decide +kernel) (rG_of (by decide +kernel) rw_rvLdv0)
theorem rz_rvLdv1 : aGho (rH 0 K n) fa_T K n JX ag_rvLdv1 := rH_of (by decide +kernel) (rG_of (by decide +kernel) rw_rvLdv1)
theorem rz_rvMCa00 : aGho (rH 0 K n) fa_T K n JX ag_rvMCa00 := rH_of (by decide +kernel) (rG_of (by decide +kernel) rw_rvMCa00)
theorem rz_rvMCa01 : aGho (rH 0 K n) fa_T K n JX ag_rvMCa01 := rH_of (by decide +kernel) (rG_of (by decide +kernel) rw_rvMCa01)
theorem rz_rvMCa10 : aGho (rH 0 K n) fa_T K n JX ag_rvMCa10 := rH_of (by decide +kernel) (rG_of (by decide +kernel) rw_rvMCa10)
theorem rz_rvMCa11 : aGho (rH 0 K n) fa_T K n JX ag_rvMCa11 := rH_of (by decide +kernel) (rG_of (by decide +kernel) rw_rvMCa11)
theorem rz_rvMCc00 : aGho (rH 0 K n) fa_T K n JX ag_rvMCc00 := rH_of (by decide +kernel) (rG_of (by decide +kernel) rw_rvMCc00)
theorem rz_rvMCc01 : aGho (rH 0 K n) fa_T K n JX ag_rvMCc01 := rH_of (by decide +kernel) (rG_of (by decide +kernel) rw_rvMCc01)
theorem rz_rvMCc10 : aGho (rH 0 K n) fa_T K n JX ag_rvMCc10 := rH_of (by decide +kernel) (rG_of (by decide +kernel) rw_rvMCc10)
theorem rz_rvMCc11 : aGho (rH 0 K n) fa_T K n JX ag_rvMCc11 := rH_of (by decide +kernel) (rG_of (by decide +kernel) rw_rvMCc11)
theorem rz_rvMCn00 : aGho (rH 0 K n) fa_T K n JX ag_rvMCn00 := rH_of (by decide +kernel) (rG_of (by decide +kernel) rw_rvMCn00)
theorem rz_rvMCn01 : aGho (rH 0 K n) fa_T K n JX ag_rvMCn01 := rH_of (by decide +kernel) (rG_of (by decide +kernel) rw_rvMCn01)
theorem rz_rvMCn10 : aGho (rH 0 K n) fa_T K n JX ag_rvMCn10 := rH_of (by decide +kernel) (rG_of (by decide +kernel) rw_rvMCn10)
theorem rz_rvMCn11 : aGho (rH 0 K n) fa_T K n JX ag_rvMCn11 := rH_of (by decide +kernel) (rG_of (by decide +kernel) rw_rvMCn11)
theorem rz_rvMCr00 : aGho (rH 0 K n) fa_T K n JX ag_rvMCr00 := rH_of (by decide +kernel) (rG_of (by decide +kernel) rw_rvMCr00)
theorem rz_rvMCr01 : aGho (rH 0 K n) fa_T K n JX ag_rvMCr01 := rH_of (by decide +kernel) (rG_of (by decide +kernel) rw_rvMCr01)
theorem rz_rvMCr10 : aGho (rH 0 K n) fa_T K n JX ag_rvMCr10 := rH_of (by decide +kernel) (rG_of (by decide +kernel) rw_rvMCr10)
theorem rz_rvMCr11 : aGho (rH 0 K n) fa_T K n JX ag_rvMCr11 := rH_of (by decide +kernel) (rG_of (by decide +kernel) rw_rvMCr11)
theorem rz_rvMCy00 : aGho (rH 0 K n) fa_T K n JX ag_rvMCy00 := rH_of (by decide +kernel) (rG_of (by decide +kernel) rw_rvMCy00)
theorem rz_rvMCy01 : aGho (rH 0 K n) fa_T K n JX ag_rvMCy01 := rH_of (by decide +kernel) (rG_of (by decide +kernel) rw_rvMCy01)
theorem rz_rvMCy10 : aGho (rH 0 K n) fa_T K n JX ag_rvMCy10 := rH_of (by decide +kernel) (rG_of (by decide +kernel) rw_rvMCy10)
theorem rz_rvMCy11 : aGho (rH 0 K n) fa_T K n JX ag_rvMCy11 := rH_of (by decide +kernel) (rG_of (by decide +kernel) rw_rvMCy11)
theorem rz_rvMP1 : aGho (rH 0 K n) fa_T K n JX ag_rvMP1 := rH_of (by decide +kernel) (rG_of (by decide +kernel) rw_rvMP1)
theorem rz_rvMP2 : aGho (rH 0 K n) fa_T K n JX ag_rvMP2 := rH_of (by decide +kernel) (rG_of (by decide +kernel) rw_rvMP2)
theorem rz_rvMPl : aGho (rH 0 K n) fa_T K n JX ag_rvMPl := rH_of (by decide +kernel) (rG_of (by decide +kernel) rw_rvMPl)
theorem rz_rvMPs : aGho (rH 0 K n) fa_T K n JX ag_rvMPs := rH_of (by decide +kernel) (rG_of (by decide +kernel) rw_rvMPs)
theorem rz_rvN00 : aGho (rH 0 K n) fa_T K n JX ag_rvN00 := rH_of (by decide +kernel) (rG_of (by decide +kernel) rw_rvN00)
theorem rz_rvN01 : aGho (rH 0 K n) fa_T K n JX ag_rvN01 := rH_of (by decide +kernel) (rG_of (by decide +kernel) rw_rvN01)
theorem rz_rvN02 : aGho (rH 0 K n) fa_T K n JX ag_rvN02 := rH_of (by decide +kernel) (rG_of (by decide +kernel) rw_rvN02)
theorem rz_rvN1 : aGho (rH 0 K n) fa_T K n JX ag_rvN1 := rH_of (by decide +kernel) (rG_of (by decide +kernel) rw_rvN1)
theorem rz_rvN5 : aGho (rH 0 K n) fa_T K n JX ag_rvN5 := rH_of (by decide +kernel) (rG_of (by decide +kernel) rw_rvN5)
theorem rz_rvNH1 : aGho (rH 0 K n) fa_T K n JX ag_rvNH1 := rH_of (by decide +kernel) (rG_of (by decide +kernel) rw_rvNH1)
theorem rz_rvNL : aGho (rH 0 K n) fa_T K n JX ag_rvNL := rH_of (by decide +kernel) (rG_of (by decide +kernel) rw_rvNL)
theorem rz_rvNP0 : aGho (rH 0 K n) fa_T K n JX ag_rvNP0 := rH_of (by decide +kernel) (rG_of (by decide +kernel) rw_rvNP0)
theorem rz_rvNP1 : aGho (rH 0 K n) fa_T K n JX ag_rvNP1 := rH_of (by decide +kernel) (rG_of (by decide +kernel) rw_rvNP1)
theorem rz_rvNPN0 : aGho (rH 0 K n) fa_T K n JX ag_rvNPN0 := rH_of (by decide +kernel) (rG_of (by decide +kernel) rw_rvNPN0)
theorem rz_rvNPN1 : aGho (rH 0 K n) fa_T K n JX ag_rvNPN1 := rH_of (by decide +kernel) (rG_of (by decide +kernel) rw_rvNPN1)
theorem rz_rvNPa : aGho (rH 0 K n) fa_T K n JX ag_rvNPa := rH_of (by decide +kernel) (rG_of (by decide +kernel) rw_rvNPa)
theorem rz_rvNPba : aGho (rH 0 K n) fa_T K n JX ag_rvNPba := rH_of (by decide +kernel) (rG_of (by decide +kernel) rw_rvNPba)
theorem rz_rvNPbb : aGho (rH 0 K n) fa_T K n JX ag_rvNPbb := rH_of (by decide +kernel) (rG_of (by decide +kernel) rw_rvNPbb)
theorem rz_rvNPbc : aGho (rH 0 K n) fa_T K n JX ag_rvNPbc := rH_of (by decide +kernel) (rG_of (by decide +kernel) rw_rvNPbc)
theorem rz_rvNPnd : aGho (rH 0 K n) fa_T K n JX ag_rvNPnd := rH_of (by decide +kernel) (rG_of (by decide +kernel) rw_rvNPnd)
theorem rz_rvNPnu : aGho (rH 0 K n) fa_T K n JX ag_rvNPnu := rH_of (by decide +kernel) (rG_of (by decide +kernel) rw_rvNPnu)
theorem rz_rvNPyld : aGho (rH 0 K n) fa_T K n JX ag_rvNPyld := rH_of (by decide +kernel) (rG_of (by decide +kernel) rw_rvNPyld)
theorem rz_rvNPylu : aGho (rH 0 K n) fa_T K n JX ag_rvNPylu := rH_of (by decide +kernel) (rG_of (by decide +kernel) rw_rvNPylu)
theorem rz_rvNPyrd : aGho (rH 0 K n) fa_T K n JX ag_rvNPyrd := rH_of (by decide +kernel) (rG_of (by decide +kernel) rw_rvNPyrd)
theorem rz_rvNPyru : aGho (rH 0 K n) fa_T K n JX ag_rvNPyru := rH_of (by decide +kernel) (rG_of (by decide +kernel) rw_rvNPyru)
theorem rz_rvNe : aGho (rH 0 K n) fa_T K n JX ag_rvNe := rH_of (by decide +kernel) (rG_of (by decide +kernel) rw_rvNe)
theorem rz_rvNf0 : aGho (rH 0 K n) fa_T K n JX ag_rvNf0 := rH_of (by decide +kernel) (rG_of (by decide +kernel) rw_rvNf0)
theorem rz_rvNfn : aGho (rH 0 K n) fa_T K n JX ag_rvNfn := rH_of (by decide +kernel) (rG_of (by decide +kernel) rw_rvNfn)
theorem rz_rvNr0 : aGho (rH 0 K n) fa_T K n JX ag_rvNr0 := rH_of (by decide +kernel) (rG_of (by decide +kernel) rw_rvNr0)
theorem rz_rvNrn : aGho (rH 0 K n) fa_T K n JX ag_rvNrn := rH_of (by decide +kernel) (rG_of (by decide +kernel) rw_rvNrn)
theorem rz_rvOF0 : aGho (rH 0 K n) fa_T K n JX ag_rvOF0 := rH_of (by decide +kernel) (rG_of (by decide +kernel) rw_rvOF0)
theorem rz_rvOF1 : aGho (rH 0 K n) fa_T K n JX ag_rvOF1 := rH_of (by decide +kernel) (rG_of (by decide +kernel) rw_rvOF1)
theorem rz_rvOFd : aGho (rH 0 K n) fa_T K n JX ag_rvOFd := rH_of (by decide +kernel) (rG_of (by decide +kernel) rw_rvOFd)
theorem rz_rvOFu : aGho (rH 0 K n) fa_T K n JX ag_rvOFu := rH_of (by decide +kernel) (rG_of (by decide +kernel) rw_rvOFu)
theorem rz_rvON1 : aGho (rH 0 K n) fa_T K n JX ag_rvON1 := rH_of (by decide +kernel) (rG_of (by decide +kernel) rw_rvON1)
theorem rz_rvONa : aGho (rH 0 K n) fa_T K n JX ag_rvONa := rH_of (by decide +kernel) (rG_of (by decide +kernel) rw_rvONa)
theorem rz_rvONb : aGho (rH 0 K n) fa_T K n JX ag_rvONb := rH_of (by decide +kernel) (rG_of (by decide +kernel) rw_rvONb)
theorem rz_rvONc : aGho (rH 0 K n) fa_T K n JX ag_rvONc := rH_of (by decide +kernel) (rG_of (by decide +kernel) rw_rvONc)
theorem rz_rvONd : aGho (rH 0 K n) fa_T K n JX ag_rvONd := rH_of (by decide +kernel) (rG_of (by decide +kernel) rw_rvONd)
theorem rz_rvOW : aGho (rH 0 K n) fa_T K n JX ag_rvOW := rH_of (by decide +kernel) (rG_of (by decide +kernel) rw_rvOW)
theorem rz_rvP1n : aGho (rH 0 K n) fa_T K n JX ag_rvP1n := rH_of (by decide +kernel) (rG_of (by decide +kernel) rw_rvP1n)
theorem rz_rvP1y : aGho (rH 0 K n) fa_T K n JX ag_rvP1y := rH_of (by decide +kernel) (rG_of (by decide +kernel) rw_rvP1y)
theorem rz_rvP2n : aGho (rH 0 K n) fa_T K n JX ag_rvP2n := rH_of (by decide +kernel) (rG_of (by decide +kernel) rw_rvP2n)
theorem rz_rvP2p0 : aGho (rH 0 K n) fa_T K n JX ag_rvP2p0 := rH_of (by decide +kernel) (rG_of (by decide +kernel) rw_rvP2p0)
theorem rz_rvP2p1 : aGho (rH 0 K n) fa_T K n JX ag_rvP2p1 := rH_of (by decide +kernel) (rG_of (by decide +kernel) rw_rvP2p1)
theorem rz_rvP2y : aGho (rH 0 K n) fa_T K n JX ag_rvP2y := rH_of (by decide +kernel) (rG_of (by decide +kernel) rw_rvP2y)
theorem rz_rvP30 : aGho (rH 0 K n) fa_T K n JX ag_rvP30 := rH_of (by decide +kernel) (rG_of (by decide +kernel) rw_rvP30)
theorem rz_rvP3a : aGho (rH 0 K n) fa_T K n JX ag_rvP3a := rH_of (by decide +kernel) (rG_of (by decide +kernel) rw_rvP3a)
theorem rz_rvP3nd0 : aGho (rH 0 K n) fa_T K n JX ag_rvP3nd0 := rH_of (by decide +kernel) (rG_of (by decide +kernel) rw_rvP3nd0)
theorem rz_rvP3nd1 : aGho (rH 0 K n) fa_T K n JX ag_rvP3nd1 := rH_of (by decide +kernel) (rG_of (by decide +kernel) rw_rvP3nd1)
theorem rz_rvP3nu0 : aGho (rH 0 K n) fa_T K n JX ag_rvP3nu0 := rH_of (by decide +kernel) (rG_of (by decide +kernel) rw_rvP3nu0)
theorem rz_rvP3nu1 : aGho (rH 0 K n) fa_T K n JX ag_rvP3nu1 := rH_of (by decide +kernel) (rG_of (by decide +kernel) rw_rvP3nu1)
theorem rz_rvP3s : aGho (rH 0 K n) fa_T K n JX ag_rvP3s := rH_of (by decide +kernel) (rG_of (by decide +kernel) rw_rvP3s)
theorem rz_rvP3y : aGho (rH 0 K n) fa_T K n JX ag_rvP3y := rH_of (by decide +kernel) (rG_of (by decide +kernel) rw_rvP3y)
theorem rz_rvPE : aGho (rH 0 K n) fa_T K n JX ag_rvPE := rH_of (by decide +kernel) (rG_of (by decide +kernel) rw_rvPE)
theorem rz_rvPF : aGho (rH 0 K n) fa_T K n JX ag_rvPF := rH_of (by decide +kernel) (rG_of (by decide +kernel) rw_rvPF)
theorem rz_rvPGa : aGho (rH 0 K n) fa_T K n JX ag_rvPGa := rH_of (by decide +kernel) (rG_of (by decide +kernel) rw_rvPGa)
theorem rz_rvPGb : aGho (rH 0 K n) fa_T K n JX ag_rvPGb := rH_of (by decide +kernel) (rG_of (by decide +kernel) rw_rvPGb)
theorem rz_rvPGc : aGho (rH 0 K n) fa_T K n JX ag_rvPGc := rH_of (by decide +kernel) (rG_of (by decide +kernel) rw_rvPGc)
theorem rz_rvPGe : aGho (rH 0 K n) fa_T K n JX ag_rvPGe := rH_of (by decide +kernel) (rG_of (by decide +kernel) rw_rvPGe)
theorem rz_rvPGz : aGho (rH 0 K n) fa_T K n JX ag_rvPGz := rH_of (by decide +kernel) (rG_of (by decide +kernel) rw_rvPGz)
theorem rz_rvPON0 : aGho (rH 0 K n) fa_T K n JX ag_rvPON0 := rH_of (by decide +kernel) (rG_of (by decide +kernel) rw_rvPON0)
theorem rz_rvPON1 : aGho (rH 0 K n) fa_T K n JX ag_rvPON1 := rH_of (by decide +kernel) (rG_of (by decide +kernel) rw_rvPON1)
theorem rz_rvPQ0 : aGho (rH 0 K n) fa_T K n JX ag_rvPQ0 := rH_of (by decide +kernel) (rG_of (by decide +kernel) rw_rvPQ0)
theorem rz_rvPQ1 : aGho (rH 0 K n) fa_T K n JX ag_rvPQ1 := rH_of (by decide +kernel) (rG_of (by decide +kernel) rw_rvPQ1)
theorem rz_rvPV : aGho (rH 0 K n) fa_T K n JX ag_rvPV := rH_of (by decide +kernel) (rG_of (by decide +kernel) rw_rvPV)
theorem rz_rvPWN : aGho (rH 0 K n) fa_T K n JX ag_rvPWN := rH_of (by decide +kernel) (rG_of (by decide +kernel) rw_rvPWN)
theorem rz_rvPa : aGho (rH 0 K n) fa_T K n JX ag_rvPa := rH_of (by decide +kernel) (rG_of (by decide +kernel) rw_rvPa)
theorem rz_rvPb : aGho (rH 0 K n) fa_T K n JX ag_rvPb := rH_of (by decide +kernel) (rG_of (by decide +kernel) rw_rvPb)
theorem rz_rvPc00 : aGho (rH 0 K n) fa_T K n JX ag_rvPc00 := rH_of (by decide +kernel) (rG_of (by decide +kernel) rw_rvPc00)
theorem rz_rvPc01 : aGho (rH 0 K n) fa_T K n JX ag_rvPc01 := rH_of (by decide +kernel) (rG_of (by decide +kernel) rw_rvPc01)
theorem rz_rvPc1 : aGho (rH 0 K n) fa_T K n JX ag_rvPc1 := rH_of (by decide +kernel) (rG_of (by decide +kernel) rw_rvPc1)
theorem rz_rvPc10 : aGho (rH 0 K n) fa_T K n JX ag_rvPc10 := rH_of (by decide +kernel) (rG_of (by decide +kernel) rw_rvPc10)
theorem rz_rvPc11 : aGho (rH 0 K n) fa_T K n JX ag_rvPc11 := rH_of (by decide +kernel) (rG_of (by decide +kernel) rw_rvPc11)
theorem rz_rvPd0 : aGho (rH 0 K n) fa_T K n JX ag_rvPd0 := rH_of (by decide +kernel) (rG_of (by decide +kernel) rw_rvPd0)
theorem rz_rvPd1 : aGho (rH 0 K n) fa_T K n JX ag_rvPd1 := rH_of (by decide +kernel) (rG_of (by decide +kernel) rw_rvPd1)
theorem rz_rvPd10 : aGho (rH 0 K n) fa_T K n JX ag_rvPd10 := rH_of (by decide +kernel) (rG_of (by decide +kernel) rw_rvPd10)
theorem rz_rvPd11 : aGho (rH 0 K n) fa_T K n JX ag_rvPd11 := rH_of (by decide +kernel) (rG_of (by decide +kernel) rw_rvPd11)
theorem rz_rvR0 : aGho (rH 0 K n) fa_T K n JX ag_rvR0 := rH_of (by decide +kernel) (rG_of (by decide +kernel) rw_rvR0)
theorem rz_rvRCa0 : aGho (rH 0 K n) fa_T K n JX ag_rvRCa0 := rH_of (by decide +kernel) (rG_of (by decide +kernel) rw_rvRCa0)
theorem rz_rvRCa1 : aGho (rH 0 K n) fa_T K n JX ag_rvRCa1 := rH_of (by decide +kernel) (rG_of (by decide +kernel) rw_rvRCa1)
theorem rz_rvRCa2 : aGho (rH 0 K n) fa_T K n JX ag_rvRCa2 := rH_of (by decide +kernel) (rG_of (by decide +kernel) rw_rvRCa2)
theorem rz_rvRCa3 : aGho (rH 0 K n) fa_T K n JX ag_rvRCa3 := rH_of (by decide +kernel) (rG_of (by decide +kernel) rw_rvRCa3)
theorem rz_rvRCb0 : aGho (rH 0 K n) fa_T K n JX ag_rvRCb0 := rH_of (by decide +kernel) (rG_of (by decide +kernel) rw_rvRCb0)
theorem rz_rvRCb1 : aGho (rH 0 K n) fa_T K n JX ag_rvRCb1 := rH_of (by decide +kernel) (rG_of (by decide +kernel) rw_rvRCb1)
theorem rz_rvRCb2 : aGho (rH 0 K n) fa_T K n JX ag_rvRCb2 := rH_of (by decide +kernel) (rG_of (by decide +kernel) rw_rvRCb2)
theorem rz_rvRCb3 : aGho (rH 0 K n) fa_T K n JX ag_rvRCb3 := rH_of (by decide +kernel) (rG_of (by decide +kernel) rw_rvRCb3)
theorem rz_rvRCc0 : aGho (rH 0 K n) fa_T K n JX ag_rvRCc0 := rH_of (by decide +kernel) (rG_of (by decide +kernel) rw_rvRCc0)
theorem rz_rvRCc1 : aGho (rH 0 K n) fa_T K n JX ag_rvRCc1 := rH_of (by decide +kernel) (rG_of (by decide +kernel) rw_rvRCc1)
theorem rz_rvRCc2 : aGho (rH 0 K n) fa_T K n JX ag_rvRCc2 := rH_of (by decide +kernel) (rG_of (by decide +kernel) rw_rvRCc2)
theorem rz_rvRCc3 : aGho (rH 0 K n) fa_T K n JX ag_rvRCc3 := rH_of (by decide +kernel) (rG_of (by decide +kernel) rw_rvRCc3)
theorem rz_rvRE : aGho (rH 0 K n) fa_T K n JX ag_rvRE := rH_of (by decide +kernel) (rG_of (by decide +kernel) rw_rvRE)
theorem rz_rvRGY00 : aGho (rH 0 K n) fa_T K n JX ag_rvRGY00 := rH_of (by decide +kernel) (rG_of (by decide +kernel) rw_rvRGY00)
theorem rz_rvRGY01 : aGho (rH 0 K n) fa_T K n JX ag_rvRGY01 := rH_of (by decide +kernel) (rG_of (by decide +kernel) rw_rvRGY01)
theorem rz_rvRGY10 : aGho (rH 0 K n) fa_T K n JX ag_rvRGY10 := rH_of (by decide +kernel) (rG_of (by decide +kernel) rw_rvRGY10)
theorem rz_rvRGY11 : aGho (rH 0 K n) fa_T K n JX ag_rvRGY11 := rH_of (by decide +kernel) (rG_of (by decide +kernel) rw_rvRGY11)
theorem rz_rvRK : aGho (rH 0 K n) fa_T K n JX ag_rvRK := rH_of (by decide +kernel) (rG_of (by decide +kernel) rw_rvRK)
theorem rz_rvRN0 : aGho (rH 0 K n) fa_T K n JX ag_rvRN0 := rH_of (by decide +kernel) (rG_of (by decide +kernel) rw_rvRN0)
theorem rz_rvRN1 : aGho (rH 0 K n) fa_T K n JX ag_rvRN1 := rH_of (by decide +kernel) (rG_of (by decide +kernel) rw_rvRN1)
theorem rz_rvRN10 : aGho (rH 0 K n) fa_T K n JX ag_rvRN10 := rH_of (by decide +kernel) (rG_of (by decide +kernel) rw_rvRN10)
theorem rz_rvRN11 : aGho (rH 0 K n) fa_T K n JX ag_rvRN11 := rH_of (by decide +kernel) (rG_of (by decide +kernel) rw_rvRN11)
theorem rz_rvRN2 : aGho (rH 0 K n) fa_T K n JX ag_rvRN2 := rH_of (by decide +kernel) (rG_of (by decide +kernel) rw_rvRN2)
theorem rz_rvRN3 : aGho (rH 0 K n) fa_T K n JX ag_rvRN3 := rH_of (by decide +kernel) (rG_of (by decide +kernel) rw_rvRN3)
theorem rz_rvRN4 : aGho (rH 0 K n) fa_T K n JX ag_rvRN4 := rH_of (by decide +kernel) (rG_of (by decide +kernel) rw_rvRN4)
theorem rz_rvRN5 : aGho (rH 0 K n) fa_T K n JX ag_rvRN5 := rH_of (by decide +kernel) (rG_of (by decide +kernel) rw_rvRN5)
theorem rz_rvRN6 : aGho (rH 0 K n) fa_T K n JX ag_rvRN6 := rH_of (by decide +kernel) (rG_of (by decide +kernel) rw_rvRN6)
theorem rz_rvRN7 : aGho (rH 0 K n) fa_T K n JX ag_rvRN7 := rH_of (by decide +kernel) (rG_of (by decide +kernel) rw_rvRN7)
theorem rz_rvRN8 : aGho (rH 0 K n) fa_T K n JX ag_rvRN8 := rH_of (by decide +kernel) (rG_of (by decide +kernel) rw_rvRN8)
theorem rz_rvRN9 : aGho (rH 0 K n) fa_T K n JX ag_rvRN9 := rH_of (by decide +kernel) (rG_of (by decide +kernel) rw_rvRN9)
theorem rz_rvRS25 : aGho (rH 0 K n) fa_T K n JX ag_rvRS25 := rH_of (by decide +kernel) (rG_of (by decide +kernel) rw_rvRS25)
theorem rz_rvRS61 : aGho (rH 0 K n) fa_T K n JX ag_rvRS61 := rH_of (by decide +kernel) (rG_of (by decide +kernel) rw_rvRS61)
theorem rz_rvRS62 : aGho (rH 0 K n) fa_T K n JX ag_rvRS62 := rH_of (by decide +kernel) (rG_of (by decide +kernel) rw_rvRS62)
theorem rz_rvRT1 : aGho (rH 0 K n) fa_T K n JX ag_rvRT1 := rH_of (by decide +kernel) (rG_of (by decide +kernel) rw_rvRT1)
theorem rz_rvRT2 : aGho (rH 0 K n) fa_T K n JX ag_rvRT2 := rH_of (by decide +kernel) (rG_of (by decide +kernel) rw_rvRT2)
theorem rz_rvRW32 : aGho (rH 0 K n) fa_T K n JX ag_rvRW32 := rH_of (by decide +kernel) (rG_of (by decide +kernel) rw_rvRW32)
theorem rz_rvRW41 : aGho (rH 0 K n) fa_T K n JX ag_rvRW41 := rH_of (by decide +kernel) (rG_of (by decide +kernel) rw_rvRW41)
theorem rz_rvRW51 : aGho (rH 0 K n) fa_T K n JX ag_rvRW51 := rH_of (by decide +kernel) (rG_of (by decide +kernel) rw_rvRW51)
theorem rz_rvRW52 : aGho (rH 0 K n) fa_T K n JX ag_rvRW52 := rH_of (by decide +kernel) (rG_of (by decide +kernel) rw_rvRW52)
theorem rz_rvRX : aGho (rH 0 K n) fa_T K n JX ag_rvRX := rH_of (by decide +kernel) (rG_of (by decide +kernel) rw_rvRX)
theorem rz_rvRi : aGho (rH 0 K n) fa_T K n JX ag_rvRi := rH_of (by decide +kernel) (rG_of (by decide +kernel) rw_rvRi)
theorem rz_rvRj : aGho (rH 0 K n) fa_T K n JX ag_rvRj := rH_of (by decide +kernel) (rG_of (by decide +kernel) rw_rvRj)
theorem rz_rvRo : aGho (rH 0 K n) fa_T K n JX ag_rvRo := rH_of (by decide +kernel) (rG_of (by decide +kernel) rw_rvRo)
theorem rz_rvRp : aGho (rH 0 K n) fa_T K n JX ag_rvRp := rH_of (by decide +kernel) (rG_of (by decide +kernel) rw_rvRp)
theorem rz_rvS1 : aGho (rH 0 K n) fa_T K n JX ag_rvS1 := rH_of (by decide +kernel) (rG_of (by decide +kernel) rw_rvS1)
theorem rz_rvS2 : aGho (rH 0 K n) fa_T K n JX ag_rvS2 := rH_of (by decide +kernel) (rG_of (by decide +kernel) rw_rvS2)
theorem rz_rvS3a : aGho (rH 0 K n) fa_T K n JX ag_rvS3a := rH_of (by decide +kernel) (rG_of (by decide +kernel) rw_rvS3a)
theorem rz_rvS3b : aGho (rH 0 K n) fa_T K n JX ag_rvS3b := rH_of (by decide +kernel) (rG_of (by decide +kernel) rw_rvS3b)
theorem rz_rvS3k : aGho (rH 0 K n) fa_T K n JX ag_rvS3k := rH_of (by decide +kernel) (rG_of (by decide +kernel) rw_rvS3k)
theorem rz_rvS4a : aGho (rH 0 K n) fa_T K n JX ag_rvS4a := rH_of (by decide +kernel) (rG_of (by decide +kernel) rw_rvS4a)
theorem rz_rvS4b0 : aGho (rH 0 K n) fa_T K n JX ag_rvS4b0 := rH_of (by decide +kernel) (rG_of (by decide +kernel) rw_rvS4b0)
theorem rz_rvS4b1 : aGho (rH 0 K n) fa_T K n JX ag_rvS4b1 := rH_of (by decide +kernel) (rG_of (by decide +kernel) rw_rvS4b1)
theorem rz_rvS4ka : aGho (rH 0 K n) fa_T K n JX ag_rvS4ka := rH_of (by decide +kernel) (rG_of (by decide +kernel) rw_rvS4ka)
theorem rz_rvS4kb : aGho (rH 0 K n) fa_T K n JX ag_rvS4kb := rH_of (by decide +kernel) (rG_of (by decide +kernel) rw_rvS4kb)
theorem rz_rvS4kc : aGho (rH 0 K n) fa_T K n JX ag_rvS4kc := rH_of (by decide +kernel) (rG_of (by decide +kernel) rw_rvS4kc)
theorem rz_rvS4l : aGho (rH 0 K n) fa_T K n JX ag_rvS4l := rH_of (by decide +kernel) (rG_of (by decide +kernel) rw_rvS4l)
theorem rz_rvSE0 : aGho (rH 0 K n) fa_T K n JX ag_rvSE0 := rH_of (by decide +kernel) (rG_of (by decide +kernel) rw_rvSE0)
theorem rz_rvSE1 : aGho (rH 0 K n) fa_T K n JX ag_rvSE1 := rH_of (by decide +kernel) (rG_of (by decide +kernel) rw_rvSE1)
theorem rz_rvSEn : aGho (rH 0 K n) fa_T K n JX ag_rvSEn := rH_of (by decide +kernel) (rG_of (by decide +kernel) rw_rvSEn)
theorem rz_rvSGb : aGho (rH 0 K n) fa_T K n JX ag_rvSGb := rH_of (by decide +kernel) (rG_of (by decide +kernel) rw_rvSGb)
theorem rz_rvSH : aGho (rH 0 K n) fa_T K n JX ag_rvSH := rH_of (by decide +kernel) (rG_of (by decide +kernel) rw_rvSH)
theorem rz_rvST0 : aGho (rH 0 K n) fa_T K n JX ag_rvST0 := rH_of (by decide +kernel) (rG_of (by decide +kernel) rw_rvST0)
theorem rz_rvT0a : aGho (rH 0 K n) fa_T K n JX ag_rvT0a := rH_of (by decide +kernel) (rG_of (by decide +kernel) rw_rvT0a)
theorem rz_rvT0b0 : aGho (rH 0 K n) fa_T K n JX ag_rvT0b0 := rH_of (by decide +kernel) (rG_of (by decide +kernel) rw_rvT0b0)
theorem rz_rvT0b1 : aGho (rH 0 K n) fa_T K n JX ag_rvT0b1 := rH_of (by decide +kernel) (rG_of (by decide +kernel) rw_rvT0b1)
theorem rz_rvT0ka : aGho (rH 0 K n) fa_T K n JX ag_rvT0ka := rH_of (by decide +kernel) (rG_of (by decide +kernel) rw_rvT0ka)
theorem rz_rvT0kb : aGho (rH 0 K n) fa_T K n JX ag_rvT0kb := rH_of (by decide +kernel) (rG_of (by decide +kernel) rw_rvT0kb)
theorem rz_rvT0kc : aGho (rH 0 K n) fa_T K n JX ag_rvT0kc := rH_of (by decide +kernel) (rG_of (by decide +kernel) rw_rvT0kc)
theorem rz_rvT1 : aGho (rH 0 K n) fa_T K n JX ag_rvT1 := rH_of (by decide +kernel) (rG_of (by decide +kernel) rw_rvT1)
theorem rz_rvT2 : aGho (rH 0 K n) fa_T K n JX ag_rvT2 := rH_of (by decide +kernel) (rG_of (by decide +kernel) rw_rvT2)
theorem rz_rvT3 : aGho (rH 0 K n) fa_T K n JX ag_rvT3 := rH_of (by decide +kernel) (rG_of (by decide +kernel) rw_rvT3)
theorem rz_rvTK : aGho (rH 0 K n) fa_T K n JX ag_rvTK := rH_of (by decide +kernel) (rG_of (by decide +kernel) rw_rvTK)
theorem rz_rvTK10 : aGho (rH 0 K n) fa_T K n JX ag_rvTK10 := rH_of (by decide +kernel) (rG_of (by decide +kernel) rw_rvTK10)
theorem rz_rvTK11 : aGho (rH 0 K n) fa_T K n JX ag_rvTK11 := rH_of (by decide +kernel) (rG_of (by decide +kernel) rw_rvTK11)
theorem rz_rvTK2 : aGho (rH 0 K n) fa_T K n JX ag_rvTK2 := rH_of (by decide +kernel) (rG_of (by decide +kernel) rw_rvTK2)
theorem rz_rvTR0 : aGho (rH 0 K n) fa_T K n JX ag_rvTR0 := rH_of (by decide +kernel) (rG_of (by decide +kernel) rw_rvTR0)
theorem rz_rvTRI0 : aGho (rH 0 K n) fa_T K n JX ag_rvTRI0 := rH_of (by decide +kernel) (rG_of (by decide +kernel) rw_rvTRI0)
theorem rz_rvTS : aGho (rH 0 K n) fa_T K n JX ag_rvTS := rH_of (by decide +kernel) (rG_of (by decide +kernel) rw_rvTS)
theorem rz_rvTW0 : aGho (rH 0 K n) fa_T K n JX ag_rvTW0 := rH_of (by decide +kernel) (rG_of (by decide +kernel) rw_rvTW0)
theorem rz_rvTW1 : aGho (rH 0 K n) fa_T K n JX ag_rvTW1 := rH_of (by decide +kernel) (rG_of (by decide +kernel) rw_rvTW1)
theorem rz_rvTX : aGho (rH 0 K n) fa_T K n JX ag_rvTX := rH_of (by decide +kernel) (rG_of (by decide +kernel) rw_rvTX)
theorem rz_rvTg1 : aGho (rH 0 K n) fa_T K n JX ag_rvTg1 := rw_rvTg1
theorem rz_rvTg2 : aGho (rH 0 K n) fa_T K n JX ag_rvTg2 := rw_rvTg2
theorem rz_rvU1 : aGho (rH 0 K n) fa_T K n JX ag_rvU1 := rH_of (by decide +kernel) (rG_of (by decide +kernel) rw_rvU1)
theorem rz_rvU2 : aGho (rH 0 K n) fa_T K n JX ag_rvU2 := rH_of (by decide +kernel) (rG_of (by decide +kernel) rw_rvU2)
theorem rz_rvU3 : aGho (rH 0 K n) fa_T K n JX ag_rvU3 := rH_of (by decide +kernel) (rG_of (by decide +kernel) rw_rvU3)
theorem rz_rvU4 : aGho (rH 0 K n) fa_T K n JX ag_rvU4 := rH_of (by decide +kernel) (rG_of (by decide +kernel) rw_rvU4)
theorem rz_rvU5 : aGho (rH 0 K n) fa_T K n JX ag_rvU5 := rH_of (by decide +kernel) (rG_of (by decide +kernel) rw_rvU5)
theorem rz_rvUCa0 : aGho (rH 0 K n) fa_T K n JX ag_rvUCa0 := rH_of (by decide +kernel) (rG_of (by decide +kernel) rw_rvUCa0)
theorem rz_rvUCa1 : aGho (rH 0 K n) fa_T K n JX ag_rvUCa1 := rH_of (by decide +kernel) (rG_of (by decide +kernel) rw_rvUCa1)
theorem rz_rvUCa2 : aGho (rH 0 K n) fa_T K n JX ag_rvUCa2 := rH_of (by decide +kernel) (rG_of (by decide +kernel) rw_rvUCa2)
theorem rz_rvUCa3 : aGho (rH 0 K n) fa_T K n JX ag_rvUCa3 := rH_of (by decide +kernel) (rG_of (by decide +kernel) rw_rvUCa3)
theorem rz_rvUD : aGho (rH 0 K n) fa_T K n JX ag_rvUD := rH_of (by decide +kernel) (rG_of (by decide +kernel) rw_rvUD)
theorem rz_rvUDc : aGho (rH 0 K n) fa_T K n JX ag_rvUDc := rH_of (by decide +kernel) (rG_of (by decide +kernel) rw_rvUDc)
theorem rz_rvW0 : aGho (rH 0 K n) fa_T K n JX ag_rvW0 := rH_of (by decide +kernel) (rG_of (by decide +kernel) rw_rvW0)
theorem rz_rvWE : aGho (rH 0 K n) fa_T K n JX ag_rvWE := rH_of (by decide +kernel) (rG_of (by decide +kernel) rw_rvWE)
theorem rz_rvWHa : aGho (rH 0 K n) fa_T K n JX ag_rvWHa := rH_of (by decide +kernel) (rG_of (by decide +kernel) rw_rvWHa)
theorem rz_rvWHb0 : aGho (rH 0 K n) fa_T K n JX ag_rvWHb0 := rH_of (by decide +kernel) (rG_of (by decide +kernel) rw_rvWHb0)
theorem rz_rvWHb1 : aGho (rH 0 K n) fa_T K n JX ag_rvWHb1 := rH_of (by decide +kernel) (rG_of (by decide +kernel) rw_rvWHb1)
theorem rz_rvWHcd : aGho (rH 0 K n) fa_T K n JX ag_rvWHcd := rH_of (by decide +kernel) (rG_of (by decide +kernel) rw_rvWHcd)
theorem rz_rvWHcu : aGho (rH 0 K n) fa_T K n JX ag_rvWHcu := rH_of (by decide +kernel) (rG_of (by decide +kernel) rw_rvWHcu)
theorem rz_rvWe : aGho (rH 0 K n) fa_T K n JX ag_rvWe := rH_of (by decide +kernel) (rG_of (by decide +kernel) rw_rvWe)
theorem rz_rvWn : aGho (rH 0 K n) fa_T K n JX ag_rvWn := rH_of (by decide +kernel) (rG_of (by decide +kernel) rw_rvWn)
theorem rz_rvWo : aGho (rH 0 K n) fa_T K n JX ag_rvWo := rH_of (by decide +kernel) (rG_of (by decide +kernel) rw_rvWo)
theorem rz_rvWz : aGho (rH 0 K n) fa_T K n JX ag_rvWz := rH_of (by decide +kernel) (rG_of (by decide +kernel) rw_rvWz)
theorem rz_rvY5 : aGho (rH 0 K n) fa_T K n JX ag_rvY5 := rH_of (by decide +kernel) (rG_of (by decide +kernel) rw_rvY5)
theorem rz_rvYe : aGho (rH 0 K n) fa_T K n JX ag_rvYe := rH_of (by decide +kernel) (rG_of (by decide +kernel) rw_rvYe)
theorem rz_rvYk : aGho (rH 0 K n) fa_T K n JX ag_rvYk := rH_of (by decide +kernel) (rG_of (by decide +kernel) rw_rvYk)
theorem rz_rvYq : aGho (rH 0 K n) fa_T K n JX ag_rvYq := rH_of (by decide +kernel) (rG_of (by decide +kernel) rw_rvYq)
theorem rz_rvYr1 : aGho (rH 0 K n) fa_T K n JX ag_rvYr1 := rH_of (by decide +kernel) (rG_of (by decide +kernel) rw_rvYr1)
theorem rz_rvYr2 : aGho (rH 0 K n) fa_T K n JX ag_rvYr2 := rH_of (by decide +kernel) (rG_of (by decide +kernel) rw_rvYr2)
theorem rz_rwCT10 : aGho (rH 0 K n) fa_T K n JX ag_rwCT10 := rH_of (by decide +kernel) (rG_of (by decide +kernel) rw_rwCT10)
theorem rz_rwCT11 : aGho (rH 0 K n) fa_T K n JX ag_rwCT11 := rH_of (by decide +kernel) (rG_of (by decide +kernel) rw_rwCT11)
theorem rz_rwCi0 : aGho (rH 0 K n) fa_T K n JX ag_rwCi0 := rH_of (by decide +kernel) (rG_of (by decide +kernel) rw_rwCi0)
theorem rz_rwCi1 : aGho (rH 0 K n) fa_T K n JX ag_rwCi1 := rH_of (by decide +kernel) (rG_of (by decide +kernel) rw_rwCi1)
theorem rz_rwCi2 : aGho (rH 0 K n) fa_T K n JX ag_rwCi2 := rH_of (by decide +kernel) (rG_of (by decide +kernel) rw_rwCi2)
theorem rz_rwCie : aGho (rH 0 K n) fa_T K n JX ag_rwCie := rH_of (by decide +kernel) (rG_of (by decide +kernel) rw_rwCie)
theorem rz_rwCis : aGho (rH 0 K n) fa_T K n JX ag_rwCis := rH_of (by decide +kernel) (rG_of (by decide +kernel) rw_rwCis)
theorem rz_rwDV : aGho (rH 0 K n) fa_T K n JX ag_rwDV := rH_of (by decide +kernel) (rG_of (by decide +kernel) rw_rwDV)
theorem rz_rwG0 : aGho (rH 0 K n) fa_T K n JX ag_rwG0 := rH_of (by decide +kernel) (rG_of (by decide +kernel) rw_rwG0)
theorem rz_rwGC00 : aGho (rH 0 K n) fa_T K n JX ag_rwGC00 := rH_of (by decide +kernel) (rG_of (by decide +kernel) rw_rwGC00)
theorem rz_rwGC01 : aGho (rH 0 K n) fa_T K n JX ag_rwGC01 := rH_of (by decide +kernel) (rG_of (by decide +kernel) rw_rwGC01)
theorem rz_rwGC10 : aGho (rH 0 K n) fa_T K n JX ag_rwGC10 := rH_of (by decide +kernel) (rG_of (by decide +kernel) rw_rwGC10)
theorem rz_rwGC11 : aGho (rH 0 K n) fa_T K n JX ag_rwGC11 := rH_of (by decide +kernel) (rG_of (by decide +kernel) rw_rwGC11)
theorem rz_rwGD34 : aGho (rH 0 K n) fa_T K n JX ag_rwGD34 := rH_of (by decide +kernel) (rG_of (by decide +kernel) rw_rwGD34)
theorem rz_rwGD35 : aGho (rH 0 K n) fa_T K n JX ag_rwGD35 := rH_of (by decide +kernel) (rG_of (by decide +kernel) rw_rwGD35)
theorem rz_rwGD36 : aGho (rH 0 K n) fa_T K n JX ag_rwGD36 := rH_of (by decide +kernel) (rG_of (by decide +kernel) rw_rwGD36)
theorem rz_rwGD37 : aGho (rH 0 K n) fa_T K n JX ag_rwGD37 := rH_of (by decide +kernel) (rG_of (by decide +kernel) rw_rwGD37)
theorem rz_rwGD40 : aGho (rH 0 K n) fa_T K n JX ag_rwGD40 := rH_of (by decide +kernel) (rG_of (by decide +kernel) rw_rwGD40)
theorem rz_rwGD41 : aGho (rH 0 K n) fa_T K n JX ag_rwGD41 := rH_of (by decide +kernel) (rG_of (by decide +kernel) rw_rwGD41)
theorem rz_rwGD42 : aGho (rH 0 K n) fa_T K n JX ag_rwGD42 := rH_of (by decide +kernel) (rG_of (by decide +kernel) rw_rwGD42)
theorem rz_rwGD43 : aGho (rH 0 K n) fa_T K n JX ag_rwGD43 := rH_of (by decide +kernel) (rG_of (by decide +kernel) rw_rwGD43)
theorem rz_rwGD50 : aGho (rH 0 K n) fa_T K n JX ag_rwGD50 := rH_of (by decide +kernel) (rG_of (by decide +kernel) rw_rwGD50)
theorem rz_rwGD51 : aGho (rH 0 K n) fa_T K n JX ag_rwGD51 := rH_of (by decide +kernel) (rG_of (by decide +kernel) rw_rwGD51)
theorem rz_rwGD52 : aGho (rH 0 K n) fa_T K n JX ag_rwGD52 := rH_of (by decide +kernel) (rG_of (by decide +kernel) rw_rwGD52)
theorem rz_rwGD53 : aGho (rH 0 K n) fa_T K n JX ag_rwGD53 := rH_of (by decide +kernel) (rG_of (by decide +kernel) rw_rwGD53)
theorem rz_rwGD54 : aGho (rH 0 K n) fa_T K n JX ag_rwGD54 := rH_of (by decide +kernel) (rG_of (by decide +kernel) rw_rwGD54)
theorem rz_rwGD55 : aGho (rH 0 K n) fa_T K n JX ag_rwGD55 := rH_of (by decide +kernel) (rG_of (by decide +kernel) rw_rwGD55)
theorem rz_rwGD56 : aGho (rH 0 K n) fa_T K n JX ag_rwGD56 := rH_of (by decide +kernel) (rG_of (by decide +kernel) rw_rwGD56)
theorem rz_rwGD57 : aGho (rH 0 K n) fa_T K n JX ag_rwGD57 := rH_of (by decide +kernel) (rG_of (by decide +kernel) rw_rwGD57)
theorem rz_rwGK : aGho (rH 0 K n) fa_T K n JX ag_rwGK := rH_of (by decide +kernel) (rG_of (by decide +kernel) rw_rwGK)
theorem rz_rwGN : aGho (rH 0 K n) fa_T K n JX ag_rwGN := rH_of (by decide +kernel) (rG_of (by decide +kernel) rw_rwGN)
theorem rz_rwGP : aGho (rH 0 K n) fa_T K n JX ag_rwGP := rH_of (by decide +kernel) (rG_of (by decide +kernel) rw_rwGP)
theorem rz_rwGS : aGho (rH 0 K n) fa_T K n JX ag_rwGS := rH_of (by decide +kernel) (rG_of (by decide +kernel) rw_rwGS)
theorem rz_rwKT : aGho (rH 0 K n) fa_T K n JX ag_rwKT := rH_of (by decide +kernel) (rG_of (by decide +kernel) rw_rwKT)
theorem rz_rwMC0 : aGho (rH 0 K n) fa_T K n JX ag_rwMC0 := rH_of (by decide +kernel) (rG_of (by decide +kernel) rw_rwMC0)
theorem rz_rwMC00 : aGho (rH 0 K n) fa_T K n JX ag_rwMC00 := rH_of (by decide +kernel) (rG_of (by decide +kernel) rw_rwMC00)
theorem rz_rwMC01 : aGho (rH 0 K n) fa_T K n JX ag_rwMC01 := rH_of (by decide +kernel) (rG_of (by decide +kernel) rw_rwMC01)
theorem rz_rwMC10 : aGho (rH 0 K n) fa_T K n JX ag_rwMC10 := rH_of (by decide +kernel) (rG_of (by decide +kernel) rw_rwMC10)
theorem rz_rwMC11 : aGho (rH 0 K n) fa_T K n JX ag_rwMC11 := rH_of (by decide +kernel) (rG_of (by decide +kernel) rw_rwMC11)
theorem rz_rwNOd : aGho (rH 0 K n) fa_T K n JX ag_rwNOd := rH_of (by decide +kernel) (rG_of (by decide +kernel) rw_rwNOd)
theorem rz_rwNOu : aGho (rH 0 K n) fa_T K n JX ag_rwNOu := rH_of (by decide +kernel) (rG_of (by decide +kernel) rw_rwNOu)
theorem rz_rwOW : aGho (rH 0 K n) fa_T K n JX ag_rwOW := rH_of (by decide +kernel) (rG_of (by decide +kernel) rw_rwOW)
theorem rz_rwPG0 : aGho (rH 0 K n) fa_T K n JX ag_rwPG0 := rH_of (by decide +kernel) (rG_of (by decide +kernel) rw_rwPG0)
theorem rz_rwPG10 : aGho (rH 0 K n) fa_T K n JX ag_rwPG10 := rH_of (by decide +kernel) (rG_of (by decide +kernel) rw_rwPG10)
theorem rz_rwPG11 : aGho (rH 0 K n) fa_T K n JX ag_rwPG11 := rH_of (by decide +kernel) (rG_of (by decide +kernel) rw_rwPG11)
theorem rz_rwPG20 : aGho (rH 0 K n) fa_T K n JX ag_rwPG20 := rH_of (by decide +kernel) (rG_of (by decide +kernel) rw_rwPG20)
theorem rz_rwPG21 : aGho (rH 0 K n) fa_T K n JX ag_rwPG21 := rH_of (by decide +kernel) (rG_of (by decide +kernel) rw_rwPG21)
theorem rz_rwPG3l0 : aGho (rH 0 K n) fa_T K n JX ag_rwPG3l0 := rH_of (by decide +kernel) (rG_of (by decide +kernel) rw_rwPG3l0)
theorem rz_rwPG3l1 : aGho (rH 0 K n) fa_T K n JX ag_rwPG3l1 := rH_of (by decide +kernel) (rG_of (by decide +kernel) rw_rwPG3l1)
theorem rz_rwPG3r0 : aGho (rH 0 K n) fa_T K n JX ag_rwPG3r0 := rH_of (by decide +kernel) (rG_of (by decide +kernel) rw_rwPG3r0)
theorem rz_rwPG3r1 : aGho (rH 0 K n) fa_T K n JX ag_rwPG3r1 := rH_of (by decide +kernel) (rG_of (by decide +kernel) rw_rwPG3r1)
theorem rz_rwPG4l0 : aGho (rH 0 K n) fa_T K n JX ag_rwPG4l0 := rH_of (by decide +kernel) (rG_of (by decide +kernel) rw_rwPG4l0)
theorem rz_rwPG4l1 : aGho (rH 0 K n) fa_T K n JX ag_rwPG4l1 := rH_of (by decide +kernel) (rG_of (by decide +kernel) rw_rwPG4l1)
theorem rz_rwPG4r0 : aGho (rH 0 K n) fa_T K n JX ag_rwPG4r0 := rH_of (by decide +kernel) (rG_of (by decide +kernel) rw_rwPG4r0)
theorem rz_rwPG4r1 : aGho (rH 0 K n) fa_T K n JX ag_rwPG4r1 := rH_of (by decide +kernel) (rG_of (by decide +kernel) rw_rwPG4r1)
theorem rz_rwRG00 : aGho (rH 0 K n) fa_T K n JX ag_rwRG00 := rH_of (by decide +kernel) (rG_of (by decide +kernel) rw_rwRG00)
theorem rz_rwRG01 : aGho (rH 0 K n) fa_T K n JX ag_rwRG01 := rH_of (by decide +kernel) (rG_of (by decide +kernel) rw_rwRG01)
theorem rz_rwRG10 : aGho (rH 0 K n) fa_T K n JX ag_rwRG10 := rH_of (by decide +kernel) (rG_of (by decide +kernel) rw_rwRG10)
theorem rz_rwRG11 : aGho (rH 0 K n) fa_T K n JX ag_rwRG11 := rH_of (by decide +kernel) (rG_of (by decide +kernel) rw_rwRG11)
theorem rz_rwRK1 : aGho (rH 0 K n) fa_T K n JX ag_rwRK1 := rH_of (by decide +kernel) (rG_of (by decide +kernel) rw_rwRK1)
theorem rz_rwRY0 : aGho (rH 0 K n) fa_T K n JX ag_rwRY0 := rH_of (by decide +kernel) (rG_of (by decide +kernel) rw_rwRY0)
theorem rz_rwRY1 : aGho (rH 0 K n) fa_T K n JX ag_rwRY1 := rH_of (by decide +kernel) (rG_of (by decide +kernel) rw_rwRY1)
theorem rz_rwRY2 : aGho (rH 0 K n) fa_T K n JX ag_rwRY2 := rH_of (by decide +kernel) (rG_of (by decide +kernel) rw_rwRY2)
theorem rz_rwRY3 : aGho (rH 0 K n) fa_T K n JX ag_rwRY3 := rH_of (by decide +kernel) (rG_of (by decide +kernel) rw_rwRY3)
theorem rz_rwRY4 : aGho (rH 0 K n) fa_T K n JX ag_rwRY4 := rH_of (by decide +kernel) (rG_of (by decide +kernel) rw_rwRY4)
theorem rz_rwRY5 : aGho (rH 0 K n) fa_T K n JX ag_rwRY5 := rH_of (by decide +kernel) (rG_of (by decide +kernel) rw_rwRY5)
theorem rz_rwRY6 : aGho (rH 0 K n) fa_T K n JX ag_rwRY6 := rH_of (by decide +kernel) (rG_of (by decide +kernel) rw_rwRY6)
theorem rz_rwRY7 : aGho (rH 0 K n) fa_T K n JX ag_rwRY7 := rH_of (by decide +kernel) (rG_of (by decide +kernel) rw_rwRY7)
theorem rz_rwRYnd : aGho (rH 0 K n) fa_T K n JX ag_rwRYnd := rH_of (by decide +kernel) (rG_of (by decide +kernel) rw_rwRYnd)
theorem rz_rwRYnu : aGho (rH 0 K n) fa_T K n JX ag_rwRYnu := rH_of (by decide +kernel) (rG_of (by decide +kernel) rw_rwRYnu)
theorem rz_rwRYq0 : aGho (rH 0 K n) fa_T K n JX ag_rwRYq0 := rH_of (by decide +kernel) (rG_of (by decide +kernel) rw_rwRYq0)
theorem rz_rwRYq1 : aGho (rH 0 K n) fa_T K n JX ag_rwRYq1 := rH_of (by decide +kernel) (rG_of (by decide +kernel) rw_rwRYq1)
theorem rz_rwRYq2 : aGho (rH 0 K n) fa_T K n JX ag_rwRYq2 := rH_of (by decide +kernel) (rG_of (by decide +kernel) rw_rwRYq2)
theorem rz_rwRYq3 : aGho (rH 0 K n) fa_T K n JX ag_rwRYq3 := rH_of (by decide +kernel) (rG_of (by decide +kernel) rw_rwRYq3)
theorem rz_rwRYz : aGho (rH 0 K n) fa_T K n JX ag_rwRYz := rH_of (by decide +kernel) (rG_of (by decide +kernel) rw_rwRYz)
theorem rz_rwSDx : aGho (rH 0 K n) fa_T K n JX ag_rwSDx := rH_of (by decide +kernel) (rG_of (by decide +kernel) rw_rwSDx)
theorem rz_rwSF0 : aGho (rH 0 K n) fa_T K n JX ag_rwSF0 := rH_of (by decide +kernel) (rG_of (by decide +kernel) rw_rwSF0)
theorem rz_rwSF1 : aGho (rH 0 K n) fa_T K n JX ag_rwSF1 := rH_of (by decide +kernel) (rG_of (by decide +kernel) rw_rwSF1)
theorem rz_rwTH00 : aGho (rH 0 K n) fa_T K n JX ag_rwTH00 := rH_of (by decide +kernel) (rG_of (by decide +kernel) rw_rwTH00)
theorem rz_rwTH01 : aGho (rH 0 K n) fa_T K n JX ag_rwTH01 := rH_of (by decide +kernel) (rG_of (by decide +kernel) rw_rwTH01)
theorem rz_rwTH10 : aGho (rH 0 K n) fa_T K n JX ag_rwTH10 := rH_of (by decide +kernel) (rG_of (by decide +kernel) rw_rwTH10)
theorem rz_rwTH11 : aGho (rH 0 K n) fa_T K n JX ag_rwTH11 := rH_of (by decide +kernel) (rG_of (by decide +kernel) rw_rwTH11)
theorem rz_rxB0 : aGho (rH 0 K n) fa_T K n JX ag_rxB0 := rH_of (by decide +kernel) (rG_of (by decide +kernel) rw_rxB0)
theorem rz_rxE0 : aGho (rH 0 K n) fa_T K n JX ag_rxE0 := rH_of (by decide +kernel) (rG_of (by decide +kernel) rw_rxE0)
theorem rz_rxEs : aGho (rH 0 K n) fa_T K n JX ag_rxEs := rH_of (by decide +kernel) (rG_of (by decide +kernel) rw_rxEs)
theorem rz_rxF : aGho (rH 0 K n) fa_T K n JX ag_rxF := rH_of (by decide +kernel) (rG_of (by decide +kernel) rw_rxF)
theorem rz_rxFs : aGho (rH 0 K n) fa_T K n JX ag_rxFs := rH_of (by decide +kernel) (rG_of (by decide +kernel) rw_rxFs)
theorem rz_rxGY : aGho (rH 0 K n) fa_T K n JX ag_rxGY := rH_of (by decide +kernel) (rG_of (by decide +kernel) rw_rxGY)
theorem rz_rxI0 : aGho (rH 0 K n) fa_T K n JX ag_rxI0 := rH_of (by decide +kernel) (rG_of (by decide +kernel) rw_rxI0)
theorem rz_rxJ0 : aGho (rH 0 K n) fa_T K n JX ag_rxJ0 := rH_of (by decide +kernel) (rG_of (by decide +kernel) rw_rxJ0)
theorem rz_rxJ1 : aGho (rH 0 K n) fa_T K n JX ag_rxJ1 := rH_of (by decide +kernel) (rG_of (by decide +kernel) rw_rxJ1)
theorem rz_rxJb0 : aGho (rH 0 K n) fa_T K n JX ag_rxJb0 := rH_of (by decide +kernel) (rG_of (by decide +kernel) rw_rxJb0)
theorem rz_rxJb1 : aGho (rH 0 K n) fa_T K n JX ag_rxJb1 := rH_of (by decide +kernel) (rG_of (by decide +kernel) rw_rxJb1)
theorem rz_rxJe0 : aGho (rH 0 K n) fa_T K n JX ag_rxJe0 := rH_of (by decide +kernel) (rG_of (by decide +kernel) rw_rxJe0)
theorem rz_rxJe1 : aGho (rH 0 K n) fa_T K n JX ag_rxJe1 := rH_of (by decide +kernel) (rG_of (by decide +kernel) rw_rxJe1)
theorem rz_rxJs : aGho (rH 0 K n) fa_T K n JX ag_rxJs := rH_of (by decide +kernel) (rG_of (by decide +kernel) rw_rxJs)
theorem rz_rxJy : aGho (rH 0 K n) fa_T K n JX ag_rxJy := rH_of (by decide +kernel) (rG_of (by decide +kernel) rw_rxJy)
theorem rz_rxL0 : aGho (rH 0 K n) fa_T K n JX ag_rxL0 := rH_of (by decide +kernel) (rG_of (by decide +kernel) rw_rxL0)
theorem rz_rxLG0 : aGho (rH 0 K n) fa_T K n JX ag_rxLG0 := rH_of (by decide +kernel) (rG_of (by decide +kernel) rw_rxLG0)
theorem rz_rxLG1 : aGho (rH 0 K n) fa_T K n JX ag_rxLG1 := rH_of (by decide +kernel) (rG_of (by decide +kernel) rw_rxLG1)
theorem rz_rxLS0a : aGho (rH 0 K n) fa_T K n JX ag_rxLS0a := rH_of (by decide +kernel) (rG_of (by decide +kernel) rw_rxLS0a)
theorem rz_rxLS0c : aGho (rH 0 K n) fa_T K n JX ag_rxLS0c := rH_of (by decide +kernel) (rG_of (by decide +kernel) rw_rxLS0c)
theorem rz_rxLS1a : aGho (rH 0 K n) fa_T K n JX ag_rxLS1a := rH_of (by decide +kernel) (rG_of (by decide +kernel) rw_rxLS1a)
theorem rz_rxLS1b : aGho (rH 0 K n) fa_T K n JX ag_rxLS1b := rH_of (by decide +kernel) (rG_of (by decide +kernel) rw_rxLS1b)
theorem rz_rxLn : aGho (rH 0 K n) fa_T K n JX ag_rxLn := rH_of (by decide +kernel) (rG_of (by decide +kernel) rw_rxLn)
theorem rz_rxLs : aGho (rH 0 K n) fa_T K n JX ag_rxLs := rH_of (by decide +kernel) (rG_of (by decide +kernel) rw_rxLs)
theorem rz_rxSG : aGho (rH 0 K n) fa_T K n JX ag_rxSG := rH_of (by decide +kernel) (rG_of (by decide +kernel) rw_rxSG)
theorem rz_rzE : aGho (rH 0 K n) fa_T K n JX ag_rzE := rH_of (by decide +kernel) rw_rzE
theorem rz_rzG : aGho (rH 0 K n) fa_T K n JX ag_rzG := rH_of (by decide +kernel) rw_rzG
theorem rz_rzM0 : aGho (rH 0 K n) fa_T K n JX ag_rzM0 := rH_of (by decide +kernel) rw_rzM0
theorem rz_rzMn : aGho (rH 0 K n) fa_T K n JX ag_rzMn := rH_of (by decide +kernel) rw_rzMn
theorem rz_rzMs : aGho (rH 0 K n) fa_T K n JX ag_rzMs := rH_of (by decide +kernel) rw_rzMs
theorem rz_rzN : aGho (rH 0 K n) fa_T K n JX ag_rzN := rH_of (by decide +kernel) rw_rzN
theorem rz_rzNp : aGho (rH 0 K n) fa_T K n JX ag_rzNp := rH_of (by decide +kernel) rw_rzNp
theorem rz_rzP0 : aGho (rH 0 K n) fa_T K n JX ag_rzP0 := rH_of (by decide +kernel) rw_rzP0
theorem rz_rzPe : aGho (rH 0 K n) fa_T K n JX ag_rzPe := rH_of (by decide +kernel) rw_rzPe
theorem rz_rzPn : aGho (rH 0 K n) fa_T K n JX ag_rzPn := rH_of (by decide +kernel) rw_rzPn
theorem rz_rzPs : aGho (rH 0 K n) fa_T K n JX ag_rzPs := rH_of (by decide +kernel) rw_rzPs
theorem rz_rzR0 : aGho (rH 0 K n) fa_T K n JX ag_rzR0 := rH_of (by decide +kernel) rw_rzR0
theorem rz_rzR1 : aGho (rH 0 K n) fa_T K n JX ag_rzR1 := rH_of (by decide +kernel) rw_rzR1
theorem rz_rzR2 : aGho (rH 0 K n) fa_T K n JX ag_rzR2 := rH_of (by decide +kernel) rw_rzR2
theorem rz_rzRn : aGho (rH 0 K n) fa_T K n JX ag_rzRn := rH_of (by decide +kernel) rw_rzRn
theorem rz_rzS0 : aGho (rH 0 K n) fa_T K n JX ag_rzS0 := rH_of (by decide +kernel) rw_rzS0
theorem rz_rzSL : aGho (rH 0 K n) fa_T K n JX ag_rzSL := rH_of (by decide +kernel) rw_rzSL
theorem rz_rzT1 : aGho (rH 0 K n) fa_T K n JX ag_rzT1 := rH_of (by decide +kernel) rw_rzT1
theorem rz_rzT2 : aGho (rH 0 K n) fa_T K n JX ag_rzT2 := rH_of (by decide +kernel) rw_rzT2
theorem rz_rzT3 : aGho (rH 0 K n) fa_T K n JX ag_rzT3 := rH_of (by decide +kernel) rw_rzT3
theorem rz_raA0 : aGho (rH 0 K n) fa_T K n JX ag_raA0 := rH_of (by decide +kernel) rw_raA0
theorem rz_raC : aGho (rH 0 K n) fa_T K n JX ag_raC := rH_of (by decide +kernel) rw_raC
theorem rz_raCT : aGho (rH 0 K n) fa_T K n JX ag_raCT := rH_of (by decide +kernel) rw_raCT
theorem rz_raD0 : aGho (rH 0 K n) fa_T K n JX ag_raD0 := rH_of (by decide +kernel) rw_raD0
theorem rz_raDn : aGho (rH 0 K n) fa_T K n JX ag_raDn := rH_of (by decide +kernel) rw_raDn
theorem rz_raE : aGho (rH 0 K n) fa_T K n JX ag_raE := rH_of (by decide +kernel) rw_raE
theorem rz_raLc : aGho (rH 0 K n) fa_T K n JX ag_raLc := rH_of (by decide +kernel) rw_raLc
theorem rz_raLn : aGho (rH 0 K n) fa_T K n JX ag_raLn := rH_of (by decide +kernel) rw_raLn
theorem rz_raM : aGho (rH 0 K n) fa_T K n JX ag_raM := rH_of (by decide +kernel) rw_raM
theorem rz_raN : aGho (rH 0 K n) fa_T K n JX ag_raN := rH_of (by decide +kernel) rw_raN
theorem rz_raP : aGho (rH 0 K n) fa_T K n JX ag_raP := rH_of (by decide +kernel) rw_raP
theorem rz_rbN : aGho (rH 0 K n) fa_T K n JX ag_rbN := rH_of (by decide +kernel) rw_rbN
theorem rz_rbP : aGho (rH 0 K n) fa_T K n JX ag_rbP := rH_of (by decide +kernel) rw_rbP
theorem rz_rcC3 : aGho (rH 0 K n) fa_T K n JX ag_rcC3 := rH_of (by decide +kernel) rw_rcC3
theorem rz_rcIk : aGho (rH 0 K n) fa_T K n JX ag_rcIk := rH_of (by decide +kernel) rw_rcIk
theorem rz_rcIy : aGho (rH 0 K n) fa_T K n JX ag_rcIy := rH_of (by decide +kernel) rw_rcIy
theorem rz_rcIz : aGho (rH 0 K n) fa_T K n JX ag_rcIz := rH_of (by decide +kernel) rw_rcIz
theorem rz_rcLG : aGho (rH 0 K n) fa_T K n JX ag_rcLG := rH_of (by decide +kernel) rw_rcLG
theorem rz_rcNK : aGho (rH 0 K n) fa_T K n JX ag_rcNK := rH_of (by decide +kernel) rw_rcNK
theorem rz_rdB0 : aGho (rH 0 K n) fa_T K n JX ag_rdB0 := rH_of (by decide +kernel) rw_rdB0
theorem rz_rdBn : aGho (rH 0 K n) fa_T K n JX ag_rdBn := rH_of (by decide +kernel) rw_rdBn
theorem rz_rdF : aGho (rH 0 K n) fa_T K n JX ag_rdF := rH_of (by decide +kernel) rw_rdF
theorem rz_rdNEd : aGho (rH 0 K n) fa_T K n JX ag_rdNEd := rH_of (by decide +kernel) rw_rdNEd
theorem rz_rdNEu : aGho (rH 0 K n) fa_T K n JX ag_rdNEu := rH_of (by decide +kernel) rw_rdNEu
theorem rz_rdS1 : aGho (rH 0 K n) fa_T K n JX ag_rdS1 := rH_of (by decide +kernel) rw_rdS1
theorem rz_rdS2 : aGho (rH 0 K n) fa_T K n JX ag_rdS2 := rH_of (by decide +kernel) rw_rdS2
theorem rz_rdS3 : aGho (rH 0 K n) fa_T K n JX ag_rdS3 := rH_of (by decide +kernel) rw_rdS3
theorem rz_rdUP : aGho (rH 0 K n) fa_T K n JX ag_rdUP := rH_of (by decide +kernel) rw_rdUP
theorem rz_rdk : aGho (rH 0 K n) fa_T K n JX ag_rdk := rH_of (by decide +kernel) rw_rdk
theorem rz_reC0 : aGho (rH 0 K n) fa_T K n JX ag_reC0 := rH_of (by decide +kernel) rw_reC0
theorem rz_reCG : aGho (rH 0 K n) fa_T K n JX ag_reCG := rH_of (by decide +kernel) rw_reCG
theorem rz_reE : aGho (rH 0 K n) fa_T K n JX ag_reE := rH_of (by decide +kernel) rw_reE
theorem rz_reG : aGho (rH 0 K n) fa_T K n JX ag_reG := rH_of (by decide +kernel) rw_reG
theorem rz_reND : aGho (rH 0 K n) fa_T K n JX ag_reND := rH_of (by decide +kernel) rw_reND
theorem rz_reR0 : aGho (rH 0 K n) fa_T K n JX ag_reR0 := rH_of (by decide +kernel) rw_reR0
theorem rz_reR1 : aGho (rH 0 K n) fa_T K n JX ag_reR1 := rH_of (by decide +kernel) rw_reR1
theorem rz_reR2 : aGho (rH 0 K n) fa_T K n JX ag_reR2 := rH_of (by decide +kernel) rw_reR2
theorem rz_reR3 : aGho (rH 0 K n) fa_T K n JX ag_reR3 := rH_of (by decide +kernel) rw_reR3
theorem rz_reS0 : aGho (rH 0 K n) fa_T K n JX ag_reS0 := rH_of (by decide +kernel) rw_reS0
theorem rz_reSn : aGho (rH 0 K n) fa_T K n JX ag_reSn := rH_of (by decide +kernel) rw_reSn
theorem rz_reSs : aGho (rH 0 K n) fa_T K n JX ag_reSs := rH_of (by decide +kernel) rw_reSs
theorem rz_reU0 : aGho (rH 0 K n) fa_T K n JX ag_reU0 := rH_of (by decide +kernel) rw_reU0
theorem rz_reU1 : aGho (rH 0 K n) fa_T K n JX ag_reU1 := rH_of (by decide +kernel) rw_reU1
theorem rz_reU10 : aGho (rH 0 K n) fa_T K n JX ag_reU10 := rH_of (by decide +kernel) rw_reU10
theorem rz_reU11 : aGho (rH 0 K n) fa_T K n JX ag_reU11 := rH_of (by decide +kernel) rw_reU11
theorem rz_reU12 : aGho (rH 0 K n) fa_T K n JX ag_reU12 := rH_of (by decide +kernel) rw_reU12
theorem rz_reU13 : aGho (rH 0 K n) fa_T K n JX ag_reU13 := rH_of (by decide +kernel) rw_reU13
theorem rz_reU14 : aGho (rH 0 K n) fa_T K n JX ag_reU14 := rH_of (by decide +kernel) rw_reU14
theorem rz_reU15 : aGho (rH 0 K n) fa_T K n JX ag_reU15 := rH_of (by decide +kernel) rw_reU15
theorem rz_reU16 : aGho (rH 0 K n) fa_T K n JX ag_reU16 := rH_of (by decide +kernel) rw_reU16
theorem rz_reU17 : aGho (rH 0 K n) fa_T K n JX ag_reU17 := rH_of (by decide +kernel) rw_reU17
theorem rz_reU18 : aGho (rH 0 K n) fa_T K n JX ag_reU18 := rH_of (by decide +kernel) rw_reU18
theorem rz_reU19 : aGho (rH 0 K n) fa_T K n JX ag_reU19 := rH_of (by decide +kernel) rw_reU19
theorem rz_reU2 : aGho (rH 0 K n) fa_T K n JX ag_reU2 := rH_of (by decide +kernel) rw_reU2
theorem rz_reU20 : aGho (rH 0 K n) fa_T K n JX ag_reU20 := rH_of (by decide +kernel) rw_reU20
theorem rz_reU21 : aGho (rH 0 K n) fa_T K n JX ag_reU21 := rH_of (by decide +kernel) rw_reU21
theorem rz_reU22 : aGho (rH 0 K n) fa_T K n JX ag_reU22 := rH_of (by decide +kernel) rw_reU22
theorem rz_reU23 : aGho (rH 0 K n) fa_T K n JX ag_reU23 := rH_of (by decide +kernel) rw_reU23
theorem rz_reU24 : aGho (rH 0 K n) fa_T K n JX ag_reU24 := rH_of (by decide +kernel) rw_reU24
theorem rz_reU25 : aGho (rH 0 K n) fa_T K n JX ag_reU25 := rH_of (by decide +kernel) rw_reU25
theorem rz_reU26 : aGho (rH 0 K n) fa_T K n JX ag_reU26 := rH_of (by decide +kernel) rw_reU26
theorem rz_reU27 : aGho (rH 0 K n) fa_T K n JX ag_reU27 := rH_of (by decide +kernel) rw_reU27
theorem rz_reU28 : aGho (rH 0 K n) fa_T K n JX ag_reU28 := rH_of (by decide +kernel) rw_reU28
theorem rz_reU29 : aGho (rH 0 K n) fa_T K n JX ag_reU29 := rH_of (by decide +kernel) rw_reU29
theorem rz_reU3 : aGho (rH 0 K n) fa_T K n JX ag_reU3 := rH_of (by decide +kernel) rw_reU3
theorem rz_reU30 : aGho (rH 0 K n) fa_T K n JX ag_reU30 := rH_of (by decide +kernel) rw_reU30
theorem rz_reU31 : aGho (rH 0 K n) fa_T K n JX ag_reU31 := rH_of (by decide +kernel) rw_reU31
theorem rz_reU4 : aGho (rH 0 K n) fa_T K n JX ag_reU4 := rH_of (by decide +kernel) rw_reU4
theorem rz_reU5 : aGho (rH 0 K n) fa_T K n JX ag_reU5 := rH_of (by decide +kernel) rw_reU5
theorem rz_reU6 : aGho (rH 0 K n) fa_T K n JX ag_reU6 := rH_of (by decide +kernel) rw_reU6
theorem rz_reU7 : aGho (rH 0 K n) fa_T K n JX ag_reU7 := rH_of (by decide +kernel) rw_reU7
theorem rz_reU8 : aGho (rH 0 K n) fa_T K n JX ag_reU8 := rH_of (by decide +kernel) rw_reU8
theorem rz_reU9 : aGho (rH 0 K n) fa_T K n JX ag_reU9 := rH_of (by decide +kernel) rw_reU9
theorem rz_reZ0 : aGho (rH 0 K n) fa_T K n JX ag_reZ0 := rH_of (by decide +kernel) rw_reZ0
theorem rz_reZe : aGho (rH 0 K n) fa_T K n JX ag_reZe := rH_of (by decide +kernel) rw_reZe
theorem rz_reZn : aGho (rH 0 K n) fa_T K n JX ag_reZn := rH_of (by decide +kernel) rw_reZn
theorem rz_reZs : aGho (rH 0 K n) fa_T K n JX ag_reZs := rH_of (by decide +kernel) rw_reZs
theorem rz_rfM0 : aGho (rH 0 K n) fa_T K n JX ag_rfM0 := rH_of (by decide +kernel) rw_rfM0
theorem rz_rfM1 : aGho (rH 0 K n) fa_T K n JX ag_rfM1 := rH_of (by decide +kernel) rw_rfM1
theorem rz_rfM10 : aGho (rH 0 K n) fa_T K n JX ag_rfM10 := rH_of (by decide +kernel) rw_rfM10
theorem rz_rfM2 : aGho (rH 0 K n) fa_T K n JX ag_rfM2 := rH_of (by decide +kernel) rw_rfM2
theorem rz_rfM3 : aGho (rH 0 K n) fa_T K n JX ag_rfM3 := rH_of (by decide +kernel) rw_rfM3
theorem rz_rfM4 : aGho (rH 0 K n) fa_T K n JX ag_rfM4 := rH_of (by decide +kernel) rw_rfM4
theorem rz_rfM5 : aGho (rH 0 K n) fa_T K n JX ag_rfM5 := rH_of (by decide +kernel) rw_rfM5
theorem rz_rfM6 : aGho (rH 0 K n) fa_T K n JX ag_rfM6 := rH_of (by decide +kernel) rw_rfM6
theorem rz_rfM7 : aGho (rH 0 K n) fa_T K n JX ag_rfM7 := rH_of (by decide +kernel) rw_rfM7
theorem rz_rfM8 : aGho (rH 0 K n) fa_T K n JX ag_rfM8 := rH_of (by decide +kernel) rw_rfM8
theorem rz_rfM9 : aGho (rH 0 K n) fa_T K n JX ag_rfM9 := rH_of (by decide +kernel) rw_rfM9
theorem rz_rfMe : aGho (rH 0 K n) fa_T K n JX ag_rfMe := rH_of (by decide +kernel) rw_rfMe
theorem rz_rfS0 : aGho (rH 0 K n) fa_T K n JX ag_rfS0 := rH_of (by decide +kernel) rw_rfS0
theorem rz_rfS1 : aGho (rH 0 K n) fa_T K n JX ag_rfS1 := rH_of (by decide +kernel) rw_rfS1
theorem rz_rfSe : aGho (rH 0 K n) fa_T K n JX ag_rfSe := rH_of (by decide +kernel) rw_rfSe
theorem rz_rfV0 : aGho (rH 0 K n) fa_T K n JX ag_rfV0 := rH_of (by decide +kernel) rw_rfV0
theorem rz_rfV1 : aGho (rH 0 K n) fa_T K n JX ag_rfV1 := rH_of (by decide +kernel) rw_rfV1
theorem rz_rgC0 : aGho (rH 0 K n) fa_T K n JX ag_rgC0 := rH_of (by decide +kernel) rw_rgC0
theorem rz_rgCe : aGho (rH 0 K n) fa_T K n JX ag_rgCe := rH_of (by decide +kernel) rw_rgCe
theorem rz_rgCnd : aGho (rH 0 K n) fa_T K n JX ag_rgCnd := rH_of (by decide +kernel) rw_rgCnd
theorem rz_rgCnu : aGho (rH 0 K n) fa_T K n JX ag_rgCnu := rH_of (by decide +kernel) rw_rgCnu
theorem rz_rgCs : aGho (rH 0 K n) fa_T K n JX ag_rgCs := rH_of (by decide +kernel) rw_rgCs
theorem rz_rgCy : aGho (rH 0 K n) fa_T K n JX ag_rgCy := rH_of (by decide +kernel) rw_rgCy
theorem rz_rgE0 : aGho (rH 0 K n) fa_T K n JX ag_rgE0 := rH_of (by decide +kernel) rw_rgE0
theorem rz_rgE1 : aGho (rH 0 K n) fa_T K n JX ag_rgE1 := rH_of (by decide +kernel) rw_rgE1
theorem rz_rgE2 : aGho (rH 0 K n) fa_T K n JX ag_rgE2 := rH_of (by decide +kernel) rw_rgE2
theorem rz_rgF0 : aGho (rH 0 K n) fa_T K n JX ag_rgF0 := rw_rgF0
theorem rz_rgF1 : aGho (rH 0 K n) fa_T K n JX ag_rgF1 := rw_rgF1
theorem rz_rgJ0 : aGho (rH 0 K n) fa_T K n JX ag_rgJ0 := rH_of (by decide +kernel) rw_rgJ0
theorem rz_rgJ10 : aGho (rH 0 K n) fa_T K n JX ag_rgJ10 := rH_of (by decide +kernel) rw_rgJ10
theorem rz_rgJ11 : aGho (rH 0 K n) fa_T K n JX ag_rgJ11 := rH_of (by decide +kernel) rw_rgJ11
theorem rz_rgK0 : aGho (rH 0 K n) fa_T K n JX ag_rgK0 := rH_of (by decide +kernel) rw_rgK0
theorem rz_rgK10 : aGho (rH 0 K n) fa_T K n JX ag_rgK10 := rH_of (by decide +kernel) rw_rgK10
theorem rz_rgK11 : aGho (rH 0 K n) fa_T K n JX ag_rgK11 := rH_of (by decide +kernel) rw_rgK11
theorem rz_rgM0 : aGho (rH 0 K n) fa_T K n JX ag_rgM0 := rH_of (by decide +kernel) rw_rgM0
theorem rz_rgM1 : aGho (rH 0 K n) fa_T K n JX ag_rgM1 := rH_of (by decide +kernel) rw_rgM1
theorem rz_rgMa : aGho (rH 0 K n) fa_T K n JX ag_rgMa := rw_rgMa
theorem rz_rgMb : aGho (rH 0 K n) fa_T K n JX ag_rgMb := rw_rgMb
theorem rz_rgMc : aGho (rH 0 K n) fa_T K n JX ag_rgMc := rw_rgMc
theorem rz_rgMk : aGho (rH 0 K n) fa_T K n JX ag_rgMk := rH_of (by decide +kernel) rw_rgMk
theorem rz_rgO2 : aGho (rH 0 K n) fa_T K n JX ag_rgO2 := rH_of (by decide +kernel) rw_rgO2
theorem rz_rgO6 : aGho (rH 0 K n) fa_T K n JX ag_rgO6 := rH_of (by decide +kernel) rw_rgO6
theorem rz_rgQ1 : aGho (rH 0 K n) fa_T K n JX ag_rgQ1 := rw_rgQ1
theorem rz_rgQ2 : aGho (rH 0 K n) fa_T K n JX ag_rgQ2 := rw_rgQ2
theorem rz_rgQ3 : aGho (rH 0 K n) fa_T K n JX ag_rgQ3 := rw_rgQ3
theorem rz_rgQ4 : aGho (rH 0 K n) fa_T K n JX ag_rgQ4 := rw_rgQ4
theorem rz_rgS : aGho (rH 0 K n) fa_T K n JX ag_rgS := rw_rgS
theorem rz_rgT : aGho (rH 0 K n) fa_T K n JX ag_rgT := rw_rgT
theorem rz_rgV0 : aGho (rH 0 K n) fa_T K n JX ag_rgV0 := rw_rgV0
theorem rz_rgV1 : aGho (rH 0 K n) fa_T K n JX ag_rgV1 := rw_rgV1
theorem rz_rgV2 : aGho (rH 0 K n) fa_T K n JX ag_rgV2 := rw_rgV2
theorem rz_rgV3 : aGho (rH 0 K n) fa_T K n JX ag_rgV3 := rw_rgV3
theorem rz_rgV4 : aGho (rH 0 K n) fa_T K n JX ag_rgV4 := rw_rgV4
theorem rz_rgV5 : aGho (rH 0 K n) fa_T K n JX ag_rgV5 := rw_rgV5
theorem rz_rgV60 : aGho (rH 0 K n) fa_T K n JX ag_rgV60 := rw_rgV60
theorem rz_rgV61 : aGho (rH 0 K n) fa_T K n JX ag_rgV61 := rw_rgV61
theorem rz_rgV7 : aGho (rH 0 K n) fa_T K n JX ag_rgV7 := rw_rgV7
theorem rz_rgV8 : aGho (rH 0 K n) fa_T K n JX ag_rgV8 := rw_rgV8
theorem rz_rgV9 : aGho (rH 0 K n) fa_T K n JX ag_rgV9 := rw_rgV9
theorem rz_rgVa : aGho (rH 0 K n) fa_T K n JX ag_rgVa := rw_rgVa
theorem rz_rgVb : aGho (rH 0 K n) fa_T K n JX ag_rgVb := rw_rgVb
theorem rz_rgVc : aGho (rH 0 K n) fa_T K n JX ag_rgVc := rw_rgVc
theorem rz_rhB1570 : aGho (rH 0 K n) fa_T K n JX ag_rhB1570 := rH_of (by decide +kernel) rw_rhB1570
theorem rz_rhB1575 : aGho (rH 0 K n) fa_T K n JX ag_rhB1575 := rH_of (by decide +kernel) rw_rhB1575
theorem rz_rhB1580 : aGho (rH 0 K n) fa_T K n JX ag_rhB1580 := rH_of (by decide +kernel) rw_rhB1580
theorem rz_rhB1590 : aGho (rH 0 K n) fa_T K n JX ag_rhB1590 := rH_of (by decide +kernel) rw_rhB1590
theorem rz_rhB1595 : aGho (rH 0 K n) fa_T K n JX ag_rhB1595 := rH_of (by decide +kernel) rw_rhB1595
theorem rz_rhB1600 : aGho (rH 0 K n) fa_T K n JX ag_rhB1600 := rH_of (by decide +kernel) rw_rhB1600
theorem rz_rhB1605 : aGho (rH 0 K n) fa_T K n JX ag_rhB1605 := rH_of (by decide +kernel) rw_rhB1605
theorem rz_rhB1612 : aGho (rH 0 K n) fa_T K n JX ag_rhB1612 := rH_of (by decide +kernel) rw_rhB1612
theorem rz_rhB1620 : aGho (rH 0 K n) fa_T K n JX ag_rhB1620 := rH_of (by decide +kernel) rw_rhB1620
theorem rz_rhB1630 : aGho (rH 0 K n) fa_T K n JX ag_rhB1630 := rH_of (by decide +kernel) rw_rhB1630
theorem rz_rhG : aGho (rH 0 K n) fa_T K n JX ag_rhG := rH_of (by decide +kernel) rw_rhG
theorem rz_rhV : aGho (rH 0 K n) fa_T K n JX ag_rhV := rH_of (by decide +kernel) rw_rhV
theorem rz_rjA : aGho (rH 0 K n) fa_T K n JX ag_rjA := rw_rjA
theorem rz_rjB1 : aGho (rH 0 K n) fa_T K n JX ag_rjB1 := rw_rjB1
theorem rz_rjC : aGho (rH 0 K n) fa_T K n JX ag_rjC := rw_rjC
theorem rz_rjD : aGho (rH 0 K n) fa_T K n JX ag_rjD := rw_rjD
theorem rz_rjE : aGho (rH 0 K n) fa_T K n JX ag_rjE := rw_rjE
theorem rz_rjF : aGho (rH 0 K n) fa_T K n JX ag_rjF := rw_rjF
theorem rz_rjFb : aGho (rH 0 K n) fa_T K n JX ag_rjFb := rw_rjFb
theorem rz_rjG : aGho (rH 0 K n) fa_T K n JX ag_rjG := rw_rjG
theorem rz_rjG2 : aGho (rH 0 K n) fa_T K n JX ag_rjG2 := rw_rjG2
theorem rz_rjH : aGho (rH 0 K n) fa_T K n JX ag_rjH := rw_rjH
theorem rz_rjH0 : aGho (rH 0 K n) fa_T K n JX ag_rjH0 := rw_rjH0
theorem rz_rjH1 : aGho (rH 0 K n) fa_T K n JX ag_rjH1 := rw_rjH1
theorem rz_rjI : aGho (rH 0 K n) fa_T K n JX ag_rjI := rw_rjI
theorem rz_rjK : aGho (rH 0 K n) fa_T K n JX ag_rjK := rw_rjK
theorem rz_rjK2 : aGho (rH 0 K n) fa_T K n JX ag_rjK2 := rw_rjK2
theorem rz_rjL0 : aGho (rH 0 K n) fa_T K n JX ag_rjL0 := rw_rjL0
theorem rz_rjL1 : aGho (rH 0 K n) fa_T K n JX ag_rjL1 := rw_rjL1
theorem rz_rjL2 : aGho (rH 0 K n) fa_T K n JX ag_rjL2 := rw_rjL2
theorem rz_rjL3 : aGho (rH 0 K n) fa_T K n JX ag_rjL3 := rw_rjL3
theorem rz_rjN0 : aGho (rH 0 K n) fa_T K n JX ag_rjN0 := rw_rjN0
theorem rz_rjN1 : aGho (rH 0 K n) fa_T K n JX ag_rjN1 := rw_rjN1
theorem rz_rjN2 : aGho (rH 0 K n) fa_T K n JX ag_rjN2 := rw_rjN2
theorem rz_rjO : aGho (rH 0 K n) fa_T K n JX ag_rjO := rw_rjO
theorem rz_rjRC0 : aGho (rH 0 K n) fa_T K n JX ag_rjRC0 := rw_rjRC0
theorem rz_rjRC1 : aGho (rH 0 K n) fa_T K n JX ag_rjRC1 := rw_rjRC1
theorem rz_rjRC2 : aGho (rH 0 K n) fa_T K n JX ag_rjRC2 := rw_rjRC2
theorem rz_rjRC3 : aGho (rH 0 K n) fa_T K n JX ag_rjRC3 := rw_rjRC3
theorem rz_rjT : aGho (rH 0 K n) fa_T K n JX ag_rjT := rw_rjT (Int.le_refl _)
theorem rz_rjU : aGho (rH 0 K n) fa_T K n JX ag_rjU := rw_rjU
theorem rz_rjV3 : aGho (rH 0 K n) fa_T K n JX ag_rjV3 := rw_rjV3
theorem rz_rjV4 : aGho (rH 0 K n) fa_T K n JX ag_rjV4 := rw_rjV4
theorem rz_rjV5 : aGho (rH 0 K n) fa_T K n JX ag_rjV5 := rw_rjV5
theorem rz_rjV6 : aGho (rH 0 K n) fa_T K n JX ag_rjV6 := rw_rjV6
theorem rz_rjW : aGho (rH 0 K n) fa_T K n JX ag_rjW := rw_rjW
theorem rz_rjW1 : aGho (rH 0 K n) fa_T K n JX ag_rjW1 := rw_rjW1
theorem rz_rlAT : aGho (rH 0 K n) fa_T K n JX ag_rlAT := rw_rlAT
theorem rz_rlAU : aGho (rH 0 K n) fa_T K n JX ag_rlAU := rw_rlAU
theorem rz_rlGE : aGho (rH 0 K n) fa_T K n JX ag_rlGE := rw_rlGE
theorem rz_rlGX : aGho (rH 0 K n) fa_T K n JX ag_rlGX := rw_rlGX
theorem rz_rlL0 : aGho (rH 0 K n) fa_T K n JX ag_rlL0 := rw_rlL0
theorem rz_rlL1 : aGho (rH 0 K n) fa_T K n JX ag_rlL1 := rw_rlL1
theorem rz_rlLe : aGho (rH 0 K n) fa_T K n JX ag_rlLe := rw_rlLe
theorem rz_rlLp : aGho (rH 0 K n) fa_T K n JX ag_rlLp := rw_rlLp
theorem rz_rlLz : aGho (rH 0 K n) fa_T K n JX ag_rlLz := rw_rlLz
theorem rz_rlM3 : aGho (rH 0 K n) fa_T K n JX ag_rlM3 := rw_rlM3
theorem rz_rlMZ : aGho (rH 0 K n) fa_T K n JX ag_rlMZ := rw_rlMZ
theorem rz_rlMc : aGho (rH 0 K n) fa_T K n JX ag_rlMc := rw_rlMc
theorem rz_rlTC : aGho (rH 0 K n) fa_T K n JX ag_rlTC := rw_rlTC
theorem rz_rlTD : aGho (rH 0 K n) fa_T K n JX ag_rlTD := rw_rlTD
theorem rz_rn0 : aGho (rH 0 K n) fa_T K n JX ag_rn0 := rw_rn0
theorem rz_rnF0 : aGho (rH 0 K n) fa_T K n JX ag_rnF0 := rw_rnF0
theorem rz_rnFn : aGho (rH 0 K n) fa_T K n JX ag_rnFn := rw_rnFn
theorem rz_rnFs : aGho (rH 0 K n) fa_T K n JX ag_rnFs := rw_rnFs
theorem rz_rnG0 : aGho (rH 0 K n) fa_T K n JX ag_rnG0 := rw_rnG0
theorem rz_rnGa : aGho (rH 0 K n) fa_T K n JX ag_rnGa := rw_rnGa
theorem rz_rnGb : aGho (rH 0 K n) fa_T K n JX ag_rnGb := rw_rnGb
theorem rz_rnGn : aGho (rH 0 K n) fa_T K n JX ag_rnGn := rw_rnGn
theorem rz_rnM : aGho (rH 0 K n) fa_T K n JX ag_rnM := rw_rnM
theorem rz_rnT : aGho (rH 0 K n) fa_T K n JX ag_rnT := rw_rnT
theorem rz_rnW : aGho (rH 0 K n) fa_T K n JX ag_rnW := rw_rnW
theorem rz_roA : aGho (rH 0 K n) fa_T K n JX ag_roA := rw_roA
theorem rz_roC : aGho (rH 0 K n) fa_T K n JX ag_roC := rw_roC
theorem rz_roK : aGho (rH 0 K n) fa_T K n JX ag_roK := rw_roK
theorem rz_roL0 : aGho (rH 0 K n) fa_T K n JX ag_roL0 := rw_roL0
theorem rz_roL1 : aGho (rH 0 K n) fa_T K n JX ag_roL1 := rw_roL1
theorem rz_roLa : aGho (rH 0 K n) fa_T K n JX ag_roLa := rw_roLa
theorem rz_roLb : aGho (rH 0 K n) fa_T K n JX ag_roLb := rw_roLb
theorem rz_roLr : aGho (rH 0 K n) fa_T K n JX ag_roLr := rw_roLr
theorem rz_roLs : aGho (rH 0 K n) fa_T K n JX ag_roLs := rw_roLs
theorem rz_roM : aGho (rH 0 K n) fa_T K n JX ag_roM := rw_roM
theorem rz_roMZ : aGho (rH 0 K n) fa_T K n JX ag_roMZ := rw_roMZ
theorem rz_roMk : aGho (rH 0 K n) fa_T K n JX ag_roMk := rw_roMk
theorem rz_roN : aGho (rH 0 K n) fa_T K n JX ag_roN := rw_roN
theorem rz_roP : aGho (rH 0 K n) fa_T K n JX ag_roP := rw_roP
theorem rz_roR : aGho (rH 0 K n) fa_T K n JX ag_roR := rw_roR
theorem rz_rpG : aGho (rH 0 K n) fa_T K n JX ag_rpG := rw_rpG
theorem rz_rpN : aGho (rH 0 K n) fa_T K n JX ag_rpN := rw_rpN
theorem rz_rpP : aGho (rH 0 K n) fa_T K n JX ag_rpP := rw_rpP
theorem rz_rpS : aGho (rH 0 K n) fa_T K n JX ag_rpS := rw_rpS
theorem rz_rpZ : aGho (rH 0 K n) fa_T K n JX ag_rpZ := rw_rpZ
theorem rz_rq1 : aGho (rH 0 K n) fa_T K n JX ag_rq1 := rw_rq1
theorem rz_rq2 : aGho (rH 0 K n) fa_T K n JX ag_rq2 := rw_rq2
theorem rz_rq3 : aGho (rH 0 K n) fa_T K n JX ag_rq3 := rw_rq3
theorem rz_rqG0A : aGho (rH 0 K n) fa_T K n JX ag_rqG0A := rw_rqG0A
theorem rz_rqG0B : aGho (rH 0 K n) fa_T K n JX ag_rqG0B := rw_rqG0B
theorem rz_rqG0C : aGho (rH 0 K n) fa_T K n JX ag_rqG0C := rw_rqG0C
theorem rz_rqG1dA : aGho (rH 0 K n) fa_T K n JX ag_rqG1dA := rw_rqG1dA
theorem rz_rqG1dB : aGho (rH 0 K n) fa_T K n JX ag_rqG1dB := rw_rqG1dB
theorem rz_rqG1dC : aGho (rH 0 K n) fa_T K n JX ag_rqG1dC := rw_rqG1dC
theorem rz_rqG1uA : aGho (rH 0 K n) fa_T K n JX ag_rqG1uA := rw_rqG1uA
theorem rz_rqG1uB : aGho (rH 0 K n) fa_T K n JX ag_rqG1uB := rw_rqG1uB
theorem rz_rqG1uC : aGho (rH 0 K n) fa_T K n JX ag_rqG1uC := rw_rqG1uC
theorem rz_rqG2dA : aGho (rH 0 K n) fa_T K n JX ag_rqG2dA := rw_rqG2dA
theorem rz_rqG2dB : aGho (rH 0 K n) fa_T K n JX ag_rqG2dB := rw_rqG2dB
theorem rz_rqG2dC : aGho (rH 0 K n) fa_T K n JX ag_rqG2dC := rw_rqG2dC
theorem rz_rqG2uA : aGho (rH 0 K n) fa_T K n JX ag_rqG2uA := rw_rqG2uA
theorem rz_rqG2uB : aGho (rH 0 K n) fa_T K n JX ag_rqG2uB := rw_rqG2uB
theorem rz_rqG2uC : aGho (rH 0 K n) fa_T K n JX ag_rqG2uC := rw_rqG2uC
theorem rz_rqG3dA : aGho (rH 0 K n) fa_T K n JX ag_rqG3dA := rw_rqG3dA
theorem rz_rqG3dB : aGho (rH 0 K n) fa_T K n JX ag_rqG3dB := rw_rqG3dB
theorem rz_rqG3dC : aGho (rH 0 K n) fa_T K n JX ag_rqG3dC := rw_rqG3dC
theorem rz_rqG3uA : aGho (rH 0 K n) fa_T K n JX ag_rqG3uA := rw_rqG3uA
theorem rz_rqG3uB : aGho (rH 0 K n) fa_T K n JX ag_rqG3uB := rw_rqG3uB
theorem rz_rqG3uC : aGho (rH 0 K n) fa_T K n JX ag_rqG3uC := rw_rqG3uC
theorem rz_rqGyA : aGho (rH 0 K n) fa_T K n JX ag_rqGyA := rw_rqGyA
theorem rz_rqGyB : aGho (rH 0 K n) fa_T K n JX ag_rqGyB := rw_rqGyB
theorem rz_rqGyC : aGho (rH 0 K n) fa_T K n JX ag_rqGyC := rw_rqGyC
theorem rz_rqH0d : aGho (rH 0 K n) fa_T K n JX ag_rqH0d := rw_rqH0d
theorem rz_rqH0u : aGho (rH 0 K n) fa_T K n JX ag_rqH0u := rw_rqH0u
theorem rz_rqH1d : aGho (rH 0 K n) fa_T K n JX ag_rqH1d := rw_rqH1d
theorem rz_rqH1u : aGho (rH 0 K n) fa_T K n JX ag_rqH1u := rw_rqH1u
theorem rz_rqH2d : aGho (rH 0 K n) fa_T K n JX ag_rqH2d := rw_rqH2d
theorem rz_rqH2u : aGho (rH 0 K n) fa_T K n JX ag_rqH2u := rw_rqH2u
theorem rz_rqH3d : aGho (rH 0 K n) fa_T K n JX ag_rqH3d := rw_rqH3d
theorem rz_rqH3u : aGho (rH 0 K n) fa_T K n JX ag_rqH3u := rw_rqH3u
theorem rz_rqHa : aGho (rH 0 K n) fa_T K n JX ag_rqHa := rw_rqHa
theorem rz_rqHb : aGho (rH 0 K n) fa_T K n JX ag_rqHb := rw_rqHb
theorem rz_rqHy : aGho (rH 0 K n) fa_T K n JX ag_rqHy := rw_rqHy
theorem rz_rqM : aGho (rH 0 K n) fa_T K n JX ag_rqM := rw_rqM
theorem rz_rqNd : aGho (rH 0 K n) fa_T K n JX ag_rqNd := rw_rqNd
theorem rz_rqNu : aGho (rH 0 K n) fa_T K n JX ag_rqNu := rw_rqNu
theorem rz_rqS : aGho (rH 0 K n) fa_T K n JX ag_rqS := rw_rqS
theorem rz_rqY : aGho (rH 0 K n) fa_T K n JX ag_rqY := rw_rqY
theorem rz_rqZ : aGho (rH 0 K n) fa_T K n JX ag_rqZ := rw_rqZ
theorem rz_rqz0 : aGho (rH 0 K n) fa_T K n JX ag_rqz0 := rw_rqz0
theorem rz_rqz1 : aGho (rH 0 K n) fa_T K n JX ag_rqz1 := rw_rqz1
theorem rz_rqz2 : aGho (rH 0 K n) fa_T K n JX ag_rqz2 := rw_rqz2
theorem rz_rsG : aGho (rH 0 K n) fa_T K n JX ag_rsG := rw_rsG
theorem rz_rsH : aGho (rH 0 K n) fa_T K n JX ag_rsH := rw_rsH
theorem rz_rsI : aGho (rH 0 K n) fa_T K n JX ag_rsI := rw_rsI
theorem rz_rsN : aGho (rH 0 K n) fa_T K n JX ag_rsN := rw_rsN
theorem rz_rsO : aGho (rH 0 K n) fa_T K n JX ag_rsO := rw_rsO
theorem rz_rsR : aGho (rH 0 K n) fa_T K n JX ag_rsR := rw_rsR
theorem rz_rsY : aGho (rH 0 K n) fa_T K n JX ag_rsY := rw_rsY
theorem rz_rsZ : aGho (rH 0 K n) fa_T K n JX ag_rsZ := rw_rsZ
theorem rz_rtM : aGho (rH 0 K n) fa_T K n JX ag_rtM := rw_rtM
theorem rz_rtT1 : aGho (rH 0 K n) fa_T K n JX ag_rtT1 := rw_rtT1
theorem rz_rtT17 : aGho (rH 0 K n) fa_T K n JX ag_rtT17 := rw_rtT17
theorem rz_rtT2 : aGho (rH 0 K n) fa_T K n JX ag_rtT2 := rw_rtT2
theorem rz_rtT3 : aGho (rH 0 K n) fa_T K n JX ag_rtT3 := rw_rtT3
theorem rz_rtT38 : aGho (rH 0 K n) fa_T K n JX ag_rtT38 := rw_rtT38
theorem rz_rtT4 : aGho (rH 0 K n) fa_T K n JX ag_rtT4 := rw_rtT4
theorem rz_rtT5 : aGho (rH 0 K n) fa_T K n JX ag_rtT5 := rw_rtT5
theorem rz_rtT6 : aGho (rH 0 K n) fa_T K n JX ag_rtT6 := rw_rtT6
theorem rz_rtT7 : aGho (rH 0 K n) fa_T K n JX ag_rtT7 := rw_rtT7
theorem rz_rtU : aGho (rH 0 K n) fa_T K n JX ag_rtU := rw_rtU
theorem rz_rvC10 : aGho (rH 0 K n) fa_T K n JX ag_rvC10 := rH_of (by decide +kernel) (rG_of (by decide +kernel) rw_rvC10)
theorem rz_rvC1e : aGho (rH 0 K n) fa_T K n JX ag_rvC1e := rH_of (by decide +kernel) (rG_of (by decide +kernel) rw_rvC1e)
theorem rz_rvC1nd : aGho (rH 0 K n) fa_T K n JX ag_rvC1nd := rH_of (by decide +kernel) (rG_of (by decide +kernel) rw_rvC1nd)
theorem rz_rvC1nu : aGho (rH 0 K n) fa_T K n JX ag_rvC1nu := rH_of (by decide +kernel) (rG_of (by decide +kernel) rw_rvC1nu)
theorem rz_rvC1s : aGho (rH 0 K n) fa_T K n JX ag_rvC1s := rH_of (by decide +kernel) (rG_of (by decide +kernel) rw_rvC1s)
theorem rz_rvC1y : aGho (rH 0 K n) fa_T K n JX ag_rvC1y := rH_of (by decide +kernel) (rG_of (by decide +kernel) rw_rvC1y)
theorem rz_rvCO6 : aGho (rH 0 K n) fa_T K n JX ag_rvCO6 := rH_of (by decide +kernel) (rG_of (by decide +kernel) rw_rvCO6)
theorem rz_rvDG : aGho (rH 0 K n) fa_T K n JX ag_rvDG := rH_of (by decide +kernel) (rG_of (by decide +kernel) rw_rvDG)
theorem rz_rvFOy : aGho (rH 0 K n) fa_T K n JX ag_rvFOy := rH_of (by decide +kernel) (rG_of (by decide +kernel) rw_rvFOy)
theorem rz_rvHKd : aGho (rH 0 K n) fa_T K n JX ag_rvHKd := rH_of (by decide +kernel) (rG_of (by decide +kernel) rw_rvHKd)
theorem rz_rvHP0 : aGho (rH 0 K n) fa_T K n JX ag_rvHP0 := rH_of (by decide +kernel) (rG_of (by decide +kernel) rw_rvHP0)
theorem rz_rvHPe : aGho (rH 0 K n) fa_T K n JX ag_rvHPe := rH_of (by decide +kernel) (rG_of (by decide +kernel) rw_rvHPe)
theorem rz_rvHPn : aGho (rH 0 K n) fa_T K n JX ag_rvHPn := rH_of (by decide +kernel) (rG_of (by decide +kernel) rw_rvHPn)
theorem rz_rvHPs : aGho (rH 0 K n) fa_T K n JX ag_rvHPs := rH_of (by decide +kernel) (rG_of (by decide +kernel) rw_rvHPs)
theorem rz_rvLF1 : aGho (rH 0 K n) fa_T K n JX ag_rvLF1 := rH_of (by decide +kernel) (rG_of (by decide +kernel) rw_rvLF1)
theorem rz_rvLFy : aGho (rH 0 K n) fa_T K n JX ag_rvLFy := rH_of (by decide +kernel) (rG_of (by decide +kernel) rw_rvLFy)
theorem rz_rvLFz : aGho (rH 0 K n) fa_T K n JX ag_rvLFz := rH_of (by decide +kernel) (rG_of (by decide +kernel) rw_rvLFz)
theorem rz_rvLd : aGho (rH 0 K n) fa_T K n JX ag_rvLd := rH_of (by decide +kernel) (rG_of (by decide +kernel) rw_rvLd)
theorem rz_rvLd2 : aGho (rH 0 K n) fa_T K n JX ag_rvLd2 := rH_of (by decide +kernel) (rG_of (by decide +kernel) rw_rvLd2)
theorem rz_rvLdy : aGho (rH 0 K n) fa_T K n JX ag_rvLdy := rH_of (by decide +kernel) (rG_of (by decide +kernel) rw_rvLdy)
theorem rz_rvLdz : aGho (rH 0 K n) fa_T K n JX ag_rvLdz := rH_of (by decide +kernel) (rG_of (by decide +kernel) rw_rvLdz)
theorem rz_rvME : aGho (rH 0 K n) fa_T K n JX ag_rvME := rH_of (by decide +kernel) (rG_of (by decide +kernel) rw_rvME)
theorem rz_rvMH0 : aGho (rH 0 K n) fa_T K n JX ag_rvMH0 := rH_of (by decide +kernel) (rG_of (by decide +kernel) rw_rvMH0)
theorem rz_rvMH1 : aGho (rH 0 K n) fa_T K n JX ag_rvMH1 := rH_of (by decide +kernel) (rG_of (by decide +kernel) rw_rvMH1)
theorem rz_rvMHu : aGho (rH 0 K n) fa_T K n JX ag_rvMHu := rH_of (by decide +kernel) (rG_of (by decide +kernel) rw_rvMHu)
theorem rz_rvN3 : aGho (rH 0 K n) fa_T K n JX ag_rvN3 := rw_rvN3
theorem rz_rvPS0 : aGho (rH 0 K n) fa_T K n JX ag_rvPS0 := rH_of (by decide +kernel) (rG_of (by decide +kernel) rw_rvPS0)
theorem rz_rvPS1 : aGho (rH 0 K n) fa_T K n JX ag_rvPS1 := rH_of (by decide +kernel) (rG_of (by decide +kernel) rw_rvPS1)
theorem rz_rvPSy0 : aGho (rH 0 K n) fa_T K n JX ag_rvPSy0 := rH_of (by decide +kernel) (rG_of (by decide +kernel) rw_rvPSy0)
theorem rz_rvPSy1 : aGho (rH 0 K n) fa_T K n JX ag_rvPSy1 := rH_of (by decide +kernel) (rG_of (by decide +kernel) rw_rvPSy1)
theorem rz_rvPW : aGho (rH 0 K n) fa_T K n JX ag_rvPW := rH_of (by decide +kernel) rw_rvPW
theorem rz_rvPW1 : aGho (rH 0 K n) fa_T K n JX ag_rvPW1 := rH_of (by decide +kernel) (rG_of (by decide +kernel) rw_rvPW1)
theorem rz_rvPW2 : aGho (rH 0 K n) fa_T K n JX ag_rvPW2 := rH_of (by decide +kernel) (rG_of (by decide +kernel) rw_rvPW2)
theorem rz_rvQI2 : aGho (rH 0 K n) fa_T K n JX ag_rvQI2 := rH_of (by decide +kernel) (rG_of (by decide +kernel) rw_rvQI2)
theorem rz_rvR9 : aGho (rH 0 K n) fa_T K n JX ag_rvR9 := rH_of (by decide +kernel) (rG_of (by decide +kernel) rw_rvR9)
theorem rz_rvSG0 : aGho (rH 0 K n) fa_T K n JX ag_rvSG0 := rH_of (by decide +kernel) (rG_of (by decide +kernel) rw_rvSG0)
theorem rz_rvSG1 : aGho (rH 0 K n) fa_T K n JX ag_rvSG1 := rH_of (by decide +kernel) (rG_of (by decide +kernel) rw_rvSG1)
theorem rz_rvSGe : aGho (rH 0 K n) fa_T K n JX ag_rvSGe := rH_of (by decide +kernel) (rG_of (by decide +kernel) rw_rvSGe)
theorem rz_rvSGm : aGho (rH 0 K n) fa_T K n JX ag_rvSGm := rH_of (by decide +kernel) rw_rvSGm
theorem rz_rvSGn : aGho (rH 0 K n) fa_T K n JX ag_rvSGn := rH_of (by decide +kernel) rw_rvSGn
theorem rz_rvTRh : aGho (rH 0 K n) fa_T K n JX ag_rvTRh := rH_of (by decide +kernel) rw_rvTRh
theorem rz_rvTRp : aGho (rH 0 K n) fa_T K n JX ag_rvTRp := rH_of (by decide +kernel) (rG_of (by decide +kernel) rw_rvTRp)
theorem rz_rvTg3 : aGho (rH 0 K n) fa_T K n JX ag_rvTg3 := rw_rvTg3
theorem rz_rvTg4 : aGho (rH 0 K n) fa_T K n JX ag_rvTg4 := rw_rvTg4
theorem rz_rvTg5 : aGho (rH 0 K n) fa_T K n JX ag_rvTg5 := rw_rvTg5
theorem rz_rvUCb0 : aGho (rH 0 K n) fa_T K n JX ag_rvUCb0 := rH_of (by decide +kernel) (rG_of (by decide +kernel) rw_rvUCb0)
theorem rz_ryC0 : aGho (rH 0 K n) fa_T K n JX ag_ryC0 := rH_of (by decide +kernel) rw_ryC0
theorem rz_ryCe : aGho (rH 0 K n) fa_T K n JX ag_ryCe := rH_of (by decide +kernel) rw_ryCe
theorem rz_ryCn : aGho (rH 0 K n) fa_T K n JX ag_ryCn := rH_of (by decide +kernel) rw_ryCn
theorem rz_rjT1 : aGho (rH 0 K n) fa_T K n JX ag_rjT1 := rw_rjT1
end RZ
section ZZ
variable {l : Launch} {E : jE}
theorem zz_MMfeedX (K : Nat → Nat) (n : Nat) : aMe (rH 0 K n) l E jcl jtb lw_tbl fa_T K n (fun _ => True) ag_MMfeedX := ae_MMfeedX rH_jx (rH_shf 0 K n) rH_dpa rH_dpr rH_dpm rz_rjF2 rz_rjF3 rz_rjF4 rz_rjF5
theorem zz_MMoutX (K : Nat → Nat) (n : Nat) : aMe (rH 0 K n) l E jcl jtb lw_tbl fa_T K n (fun _ => True) ag_MMoutX := ae_MMoutX rH_jx (rH_shf 0 K n) rH_dpa rH_dpr rH_dpm
theorem zz_MMsizeX (K : Nat → Nat) (n : Nat) : aMe (rH 0 K n) l E jcl jtb lw_tbl fa_T K n (fun _ => True) ag_MMsizeX := ae_MMsizeX rH_jx (rH_shf 0 K n) rH_dpa rH_dpr rH_dpm
theorem zz_MEattX (K : Nat → Nat) (n : Nat) : aMe (rH 0 K n) l E jcl jtb lw_tbl fa_T K n (fun _ => True) ag_MEattX := ae_MEattX rH_jx (rH_shf 0 K n) rH_dpa rH_dpr rH_dpm rz_rkA0 rz_rkA1 rz_rkAn rz_rkQa rz_rkQb rz_rkQc rz_rkQd rz_rkRY0 rz_rkRY1 rz_rkRY2 rz_rkRY3 rz_rkRY4 rz_rkRY5 rz_rkRY6 rz_rkRY7 rz_rkRYnd rz_rkRYnu rz_rkRYq0 rz_rkRYq1 rz_rkRYq2 rz_rkRYq3 rz_rvQID rz_rvST1 rz_rvSTna rz_rvSTnb rz_rvSTnc rz_rvSTnd rz_rvTRI rz_rvTRI0b rz_rwA7 rz_rwFR rz_rwRKa rz_rwRKb rz_rwRKd rz_rwRM rz_rwRMa rz_rwRMb rz_rwS7
theorem zz_MEcellX (K : Nat → Nat) (n : Nat) : aMe (rH 0 K n) l E jcl jtb lw_tbl fa_T K n (fun _ => True) ag_MEcellX := ae_MEcellX rH_jx (rH_shf 0 K n) rH_dpa rH_dpr rH_dpm
theorem zg_MMendsG : zCon 5 327770 (fun K n => rH 0 K n) fa_T (fun _ _ _ => True) l E jcl jtb lw_tbl ag_MMendsG := zMe (m := am_MMendsG) (ae_MMendsG (F := fun K n => rH 0 K n) (JX := fun _ _ _ => True) (fun K n => rH_jx) (fun K n => (rH_shf 0 K n)) (fun K n => rH_dpa) (fun K n => rH_dpr) (fun K n => rH_dpm) (fun K n => (az_MEattacks (zz_MEattX K n))) (fun K n => (az_MEknownX (zz_MEcellX K n))) (fun K n => (az_MMputNumB (JX := fun _ _ _ => True) (fun K n => rH_jx) K n)) (fun K n => rz_rkA0) (fun K n => rz_rkA1) (fun K n => rz_rkAn) (fun K n => rz_rkC0) (fun K n => rz_rkCb) (fun K n => rz_rkCe) (fun K n => rz_rkCi) (fun K n => rz_rkCk) (fun K n => rz_rkCm) (fun K n => rz_rkCn) (fun K n => rz_rkCp) (fun K n => rz_rkCs) (fun K n => rz_rkD0) (fun K n => rz_rkE0) (fun K n => rz_rkEa) (fun K n => rz_rkEb14) (fun K n => rz_rkEb6) (fun K n => rz_rkEc1) (fun K n => rz_rkEc2) (fun K n => rz_rkEc3) (fun K n => rz_rkEn) (fun K n => rz_rkEv) (fun K n => rz_rkEz) (fun K n => rz_rkG1) (fun K n => rz_rkG2) (fun K n => rz_rkG3) (fun K n => rz_rkG5) (fun K n => rz_rkK0) (fun K n => rz_rkK1) (fun K n => rz_rkMa) (fun K n => rz_rkMb) (fun K n => rz_rkMr) (fun K n => rz_rkN0) (fun K n => rz_rkN1) (fun K n => rz_rkNr) (fun K n => rz_rkNs) (fun K n => rz_rkO0) (fun K n => rz_rkO1) (fun K n => rz_rkP0) (fun K n => rz_rkP1) (fun K n => rz_rkP2) (fun K n => rz_rkP3) (fun K n => rz_rkQa) (fun K n => rz_rkQb) (fun K n => rz_rkQc) (fun K n => rz_rkQd) (fun K n => rz_rkRY0) (fun K n => rz_rkRY1) (fun K n => rz_rkRY2) (fun K n => rz_rkRY3) (fun K n => rz_rkRY4) (fun K n => rz_rkRY5) (fun K n => rz_rkRY6) (fun K n => rz_rkRY7) (fun K n => rz_rkRYnd) (fun K n => rz_rkRYnu) (fun K n => rz_rkRYq0) (fun K n => rz_rkRYq1) (fun K n => rz_rkRYq2) (fun K n => rz_rkRYq3) (fun K n => rz_rkS2) (fun K n => rz_rkS3) (fun K n => rz_rkS4) (fun K n => rz_rkT0) (fun K n => rz_rkW1) (fun K n => rz_rkWa) (fun K n => rz_rkWb) (fun K n => rz_rkWi) (fun K n => rz_rkX0) (fun K n => rz_rkX3584) (fun K n => rz_rkX56) (fun K n => rz_rkZn) (fun K n => rz_rnP) (fun K n => rz_rnQ) (fun K n => rz_rvAL) (fun K n => rz_rvCLX) (fun K n => rz_rvDIR) (fun K n => rz_rvDM) (fun K n => rz_rvKD) (fun K n => rz_rvLO0) (fun K n => rz_rvLO1) (fun K n => rz_rvLO10) (fun K n => rz_rvLO2) (fun K n => rz_rvLO3) (fun K n => rz_rvLO4) (fun K n => rz_rvLO5) (fun K n => rz_rvLO6) (fun K n => rz_rvLO7) (fun K n => rz_rvLO8) (fun K n => rz_rvLO9) (fun K n => rz_rvM4d1) (fun K n => rz_rvM4d2) (fun K n => rz_rvM4u1) (fun K n => rz_rvM4u2) (fun K n => rz_rvM5d) (fun K n => rz_rvM5u) (fun K n => rz_rvQID) (fun K n => rz_rvSD) (fun K n => rz_rvSGa) (fun K n => rz_rvSQ1) (fun K n => rz_rvST1) (fun K n => rz_rvSTna) (fun K n => rz_rvSTnb) (fun K n => rz_rvSTnc) (fun K n => rz_rvSTnd) (fun K n => rz_rvTR64) (fun K n => rz_rvTRI) (fun K n => rz_rvTRI0b) (fun K n => rz_rvTRv) (fun K n => rz_rwA0) (fun K n => rz_rwA7) (fun K n => rz_rwAe) (fun K n => rz_rwAm) (fun K n => rz_rwAn) (fun K n => rz_rwAo) (fun K n => rz_rwAo0) (fun K n => rz_rwB00) (fun K n => rz_rwB01) (fun K n => rz_rwB02) (fun K n => rz_rwB1) (fun K n => rz_rwB2) (fun K n => rz_rwB5) (fun K n => rz_rwBB0) (fun K n => rz_rwBBe) (fun K n => rz_rwBBn) (fun K n => rz_rwBBs) (fun K n => rz_rwBR0) (fun K n => rz_rwBR1) (fun K n => rz_rwBR2) (fun K n => rz_rwC00) (fun K n => rz_rwC01) (fun K n => rz_rwC1) (fun K n => rz_rwC2) (fun K n => rz_rwFDd) (fun K n => rz_rwFDu) (fun K n => rz_rwFE0) (fun K n => rz_rwFE1) (fun K n => rz_rwFL0) (fun K n => rz_rwFLn) (fun K n => rz_rwFLz) (fun K n => rz_rwFMA) (fun K n => rz_rwFR) (fun K n => rz_rwIC) (fun K n => rz_rwK0) (fun K n => rz_rwK1d) (fun K n => rz_rwK1u) (fun K n => rz_rwK2d) (fun K n => rz_rwK2u) (fun K n => rz_rwK98) (fun K n => rz_rwK98b) (fun K n => rz_rwKP0) (fun K n => rz_rwKPe) (fun K n => rz_rwKPn) (fun K n => rz_rwKPs) (fun K n => rz_rwKR0) (fun K n => rz_rwKR1) (fun K n => rz_rwKR2) (fun K n => rz_rwKe) (fun K n => rz_rwKnd) (fun K n => rz_rwKnu) (fun K n => rz_rwKs) (fun K n => rz_rwKy) (fun K n => rz_rwN98) (fun K n => rz_rwNEd) (fun K n => rz_rwNEu) (fun K n => rz_rwNH) (fun K n => rz_rwNZ) (fun K n => rz_rwNa) (fun K n => rz_rwNba) (fun K n => rz_rwNbb) (fun K n => rz_rwNbc) (fun K n => rz_rwNnd) (fun K n => rz_rwNnu) (fun K n => rz_rwNyld) (fun K n => rz_rwNylu) (fun K n => rz_rwNyrd) (fun K n => rz_rwNyru) (fun K n => rz_rwP0) (fun K n => rz_rwP1) (fun K n => rz_rwP1n) (fun K n => rz_rwPF) (fun K n => rz_rwR1) (fun K n => rz_rwR2) (fun K n => rz_rwRKa) (fun K n => rz_rwRKb) (fun K n => rz_rwRKd) (fun K n => rz_rwRM) (fun K n => rz_rwRM1) (fun K n => rz_rwRMa) (fun K n => rz_rwRMb) (fun K n => rz_rwRMe) (fun K n => rz_rwRT) (fun K n => rz_rwS7) (fun K n => rz_rwSD0) (fun K n => rz_rwSD1) (fun K n => rz_rwSDa) (fun K n => rz_rwSDb) (fun K n => rz_rwSO0) (fun K n => rz_rwSO1) (fun K n => rz_rwTCAd) (fun K n => rz_rwTCAu) (fun K n => rz_rwTM) (fun K n => rz_rwTNf0) (fun K n => rz_rwTNf1) (fun K n => rz_rwTNk0) (fun K n => rz_rwTNk1) (fun K n => rz_rwTNx00) (fun K n => rz_rwTNx01) (fun K n => rz_rwTNx11) (fun K n => rz_rwU0a) (fun K n => rz_rwU0b) (fun K n => rz_rwU0c) (fun K n => rz_rwU0p) (fun K n => rz_rwU1n) (fun K n => rz_rwU2) (fun K n => rz_rwU3a) (fun K n => rz_rwU3b) (fun K n => rz_rwWN0) (fun K n => rz_rwWN1) (fun K n => rz_rwWY) rMn_nil) rfl rfl (fun G h => by cases h) (zEx_ends (fun _ _ _ _ _ _ => trivial))
theorem zg_MMaskedG : zCon 5 327770 (fun K n => rH 0 K n) fa_T (fun _ _ _ => True) l E jcl jtb lw_tbl ag_MMaskedG := zMe (m := am_MMaskedG) (ae_MMaskedG (F := fun K n => rH 0 K n) (JX := fun _ _ _ => True) (fun K n => rH_jx) (fun K n => (rH_shf 0 K n)) (fun K n => rH_dpa) (fun K n => rH_dpr) (fun K n => rH_dpm) (fun K n => (az_MMputNumB (JX := fun _ _ _ => True) (fun K n => rH_jx) K n)) (fun K n => rz_rgL0) (fun K n => rz_rgLb) (fun K n => rz_rgLe) (fun K n => rz_rgLn) (fun K n => rz_rgLs) (fun K n => rz_riE) (fun K n => rz_riG) (fun K n => rz_riG0) (fun K n => rz_riG2) (fun K n => rz_riG3) (fun K n => rz_riG4) (fun K n => rz_riG5) (fun K n => rz_riG6) (fun K n => rz_riH) (fun K n => rz_riL0) (fun K n => rz_riL1) (fun K n => rz_riL2) (fun K n => rz_riL3) (fun K n => rz_riM0) (fun K n => rz_riMn) (fun K n => rz_riMs) (fun K n => rz_riN) (fun K n => rz_riO) (fun K n => rz_riP0) (fun K n => rz_riPe) (fun K n => rz_riPn) (fun K n => rz_riPs) (fun K n => rz_riRC0) (fun K n => rz_riRC1) (fun K n => rz_riRC2) (fun K n => rz_riRC3) (fun K n => rz_riS0) (fun K n => rz_riS1) (fun K n => rz_riSd) (fun K n => rz_riT1) (fun K n => rz_riT2) (fun K n => rz_riT3) (fun K n => rz_riT4) (fun K n => rz_riU) (fun K n => rz_rjK3) (fun K n => rz_rjK4) (fun K n => rz_rkRY0) (fun K n => rz_rkRY1) (fun K n => rz_rkRY2) (fun K n => rz_rkRY3) (fun K n => rz_rkRY4) (fun K n => rz_rkRY5) (fun K n => rz_rkRY6) (fun K n => rz_rkRY7) (fun K n => rz_rkRYnd) (fun K n => rz_rkRYnu) (fun K n => rz_rkRYq0) (fun K n => rz_rkRYq1) (fun K n => rz_rkRYq2) (fun K n => rz_rkRYq3) (fun K n => rz_rkU0) (fun K n => rz_rkUe) (fun K n => rz_rkUn) (fun K n => rz_rkUy) (fun K n => rz_rkY0) (fun K n => rz_rkY1) (fun K n => rz_rkY2) (fun K n => rz_rkY3) (fun K n => rz_rkY4) (fun K n => rz_rkY5) (fun K n => rz_rnB) (fun K n => rz_rnFv) (fun K n => rz_rnGv) (fun K n => rz_rnN1) (fun K n => rz_rnN2) (fun K n => rz_rnP) (fun K n => rz_rnQ) (fun K n => rz_rsJ) (fun K n => rz_rvA0) (fun K n => rz_rvA1) (fun K n => rz_rvAL) (fun K n => rz_rvAP) (fun K n => rz_rvAe) (fun K n => rz_rvAe0) (fun K n => rz_rvAi) (fun K n => rz_rvAn) (fun K n => rz_rvAs0) (fun K n => rz_rvAs1) (fun K n => rz_rvB0) (fun K n => rz_rvB1) (fun K n => rz_rvBE) (fun K n => rz_rvBFo) (fun K n => rz_rvBFp) (fun K n => rz_rvBO) (fun K n => rz_rvBT1) (fun K n => rz_rvC0) (fun K n => rz_rvCASd) (fun K n => rz_rvCASu) (fun K n => rz_rvCAq) (fun K n => rz_rvCE) (fun K n => rz_rvCJ0) (fun K n => rz_rvCJ1) (fun K n => rz_rvCL0) (fun K n => rz_rvCL1) (fun K n => rz_rvCLX) (fun K n => rz_rvCLc) (fun K n => rz_rvCLm) (fun K n => rz_rvCLo) (fun K n => rz_rvCLp) (fun K n => rz_rvCN1) (fun K n => rz_rvCT) (fun K n => rz_rvCTr2) (fun K n => rz_rvCV) (fun K n => rz_rvCVz) (fun K n => rz_rvCe1b) (fun K n => rz_rvCe2) (fun K n => rz_rvCf) (fun K n => rz_rvCi) (fun K n => rz_rvCn10) (fun K n => rz_rvCn11) (fun K n => rz_rvCn2) (fun K n => rz_rvCs) (fun K n => rz_rvDIR) (fun K n => rz_rvDM) (fun K n => rz_rvDM2) (fun K n => rz_rvEN0) (fun K n => rz_rvENn) (fun K n => rz_rvENs) (fun K n => rz_rvEP000) (fun K n => rz_rvEP001) (fun K n => rz_rvEP010) (fun K n => rz_rvEP011) (fun K n => rz_rvEPn) (fun K n => rz_rvFE0) (fun K n => rz_rvFE1) (fun K n => rz_rvFL0) (fun K n => rz_rvFLn) (fun K n => rz_rvFLz) (fun K n => rz_rvFMA) (fun K n => rz_rvG1) (fun K n => rz_rvG20) (fun K n => rz_rvG21) (fun K n => rz_rvG300) (fun K n => rz_rvG301) (fun K n => rz_rvG310) (fun K n => rz_rvG311) (fun K n => rz_rvGP) (fun K n => rz_rvGQ) (fun K n => rz_rvGY) (fun K n => rz_rvGZ) (fun K n => rz_rvGl00) (fun K n => rz_rvGl01) (fun K n => rz_rvGl10) (fun K n => rz_rvGl11) (fun K n => rz_rvGs00) (fun K n => rz_rvGs01) (fun K n => rz_rvGs10) (fun K n => rz_rvGs11) (fun K n => rz_rvHK) (fun K n => rz_rvHK2) (fun K n => rz_rvHKs) (fun K n => rz_rvHLn) (fun K n => rz_rvHM0) (fun K n => rz_rvHM1) (fun K n => rz_rvHMa) (fun K n => rz_rvHMb) (fun K n => rz_rvHMp) (fun K n => rz_rvIC) (fun K n => rz_rvIL0) (fun K n => rz_rvIL1) (fun K n => rz_rvJe0) (fun K n => rz_rvJe1) (fun K n => rz_rvJn0) (fun K n => rz_rvJn1) (fun K n => rz_rvJs) (fun K n => rz_rvJy0) (fun K n => rz_rvJy1) (fun K n => rz_rvK0) (fun K n => rz_rvK1d) (fun K n => rz_rvK1u) (fun K n => rz_rvK2d) (fun K n => rz_rvK2u) (fun K n => rz_rvK3d) (fun K n => rz_rvK3u) (fun K n => rz_rvK4d) (fun K n => rz_rvK4u) (fun K n => rz_rvKD) (fun K n => rz_rvKF) (fun K n => rz_rvKF2) (fun K n => rz_rvKO) (fun K n => rz_rvKb) (fun K n => rz_rvKnd) (fun K n => rz_rvKnu) (fun K n => rz_rvKs) (fun K n => rz_rvLF0) (fun K n => rz_rvLFn) (fun K n => rz_rvLFs) (fun K n => rz_rvLGy) (fun K n => rz_rvLN1) (fun K n => rz_rvLN2) (fun K n => rz_rvLN3) (fun K n => rz_rvLN4) (fun K n => rz_rvLO0) (fun K n => rz_rvLO1) (fun K n => rz_rvLO10) (fun K n => rz_rvLO2) (fun K n => rz_rvLO3) (fun K n => rz_rvLO4) (fun K n => rz_rvLO5) (fun K n => rz_rvLO6) (fun K n => rz_rvLO7) (fun K n => rz_rvLO8) (fun K n => rz_rvLO9) (fun K n => rz_rvLS0a) (fun K n => rz_rvLS0b0) (fun K n => rz_rvLS0b1) (fun K n => rz_rvLS1a) (fun K n => rz_rvLS1b) (fun K n => rz_rvLd0) (fun K n => rz_rvLdv) (fun K n => rz_rvLdv0) (fun K n => rz_rvLdv1) (fun K n => rz_rvM4d1) (fun K n => rz_rvM4d2) (fun K n => rz_rvM4u1) (fun K n => rz_rvM4u2) (fun K n => rz_rvM5d) (fun K n => rz_rvM5u) (fun K n => rz_rvMCa00) (fun K n => rz_rvMCa01) (fun K n => rz_rvMCa10) (fun K n => rz_rvMCa11) (fun K n => rz_rvMCc00) (fun K n => rz_rvMCc01) (fun K n => rz_rvMCc10) (fun K n => rz_rvMCc11) (fun K n => rz_rvMCn00) (fun K n => rz_rvMCn01) (fun K n => rz_rvMCn10) (fun K n => rz_rvMCn11) (fun K n => rz_rvMCr00) (fun K n => rz_rvMCr01) (fun K n => rz_rvMCr10) (fun K n => rz_rvMCr11) (fun K n => rz_rvMCy00) (fun K n => rz_rvMCy01) (fun K n => rz_rvMCy10) (fun K n => rz_rvMCy11) (fun K n => rz_rvMP1) (fun K n => rz_rvMP2) (fun K n => rz_rvMPl) (fun K n => rz_rvMPs) (fun K n => rz_rvN00) (fun K n => rz_rvN01) (fun K n => rz_rvN02) (fun K n => rz_rvN1) (fun K n => rz_rvN5) (fun K n => rz_rvNH1) (fun K n => rz_rvNL) (fun K n => rz_rvNP0) (fun K n => rz_rvNP1) (fun K n => rz_rvNPN0) (fun K n => rz_rvNPN1) (fun K n => rz_rvNPa) (fun K n => rz_rvNPba) (fun K n => rz_rvNPbb) (fun K n => rz_rvNPbc) (fun K n => rz_rvNPnd) (fun K n => rz_rvNPnu) (fun K n => rz_rvNPyld) (fun K n => rz_rvNPylu) (fun K n => rz_rvNPyrd) (fun K n => rz_rvNPyru) (fun K n => rz_rvNe) (fun K n => rz_rvNf0) (fun K n => rz_rvNfn) (fun K n => rz_rvNr0) (fun K n => rz_rvNrn) (fun K n => rz_rvOF0) (fun K n => rz_rvOF1) (fun K n => rz_rvOFd) (fun K n => rz_rvOFu) (fun K n => rz_rvON1) (fun K n => rz_rvONa) (fun K n => rz_rvONb) (fun K n => rz_rvONc) (fun K n => rz_rvONd) (fun K n => rz_rvOW) (fun K n => rz_rvP1n) (fun K n => rz_rvP1y) (fun K n => rz_rvP2n) (fun K n => rz_rvP2p0) (fun K n => rz_rvP2p1) (fun K n => rz_rvP2y) (fun K n => rz_rvP30) (fun K n => rz_rvP3a) (fun K n => rz_rvP3nd0) (fun K n => rz_rvP3nd1) (fun K n => rz_rvP3nu0) (fun K n => rz_rvP3nu1) (fun K n => rz_rvP3s) (fun K n => rz_rvP3y) (fun K n => rz_rvPE) (fun K n => rz_rvPF) (fun K n => rz_rvPGa) (fun K n => rz_rvPGb) (fun K n => rz_rvPGc) (fun K n => rz_rvPGe) (fun K n => rz_rvPGz) (fun K n => rz_rvPON0) (fun K n => rz_rvPON1) (fun K n => rz_rvPQ0) (fun K n => rz_rvPQ1) (fun K n => rz_rvPV) (fun K n => rz_rvPWN) (fun K n => rz_rvPa) (fun K n => rz_rvPb) (fun K n => rz_rvPc00) (fun K n => rz_rvPc01) (fun K n => rz_rvPc1) (fun K n => rz_rvPc10) (fun K n => rz_rvPc11) (fun K n => rz_rvPd0) (fun K n => rz_rvPd1) (fun K n => rz_rvPd10) (fun K n => rz_rvPd11) (fun K n => rz_rvQID) (fun K n => rz_rvR0) (fun K n => rz_rvRCa0) (fun K n => rz_rvRCa1) (fun K n => rz_rvRCa2) (fun K n => rz_rvRCa3) (fun K n => rz_rvRCb0) (fun K n => rz_rvRCb1) (fun K n => rz_rvRCb2) (fun K n => rz_rvRCb3) (fun K n => rz_rvRCc0) (fun K n => rz_rvRCc1) (fun K n => rz_rvRCc2) (fun K n => rz_rvRCc3) (fun K n => rz_rvRE) (fun K n => rz_rvRGY00) (fun K n => rz_rvRGY01) (fun K n => rz_rvRGY10) (fun K n => rz_rvRGY11) (fun K n => rz_rvRK) (fun K n => rz_rvRN0) (fun K n => rz_rvRN1) (fun K n => rz_rvRN10) (fun K n => rz_rvRN11) (fun K n => rz_rvRN2) (fun K n => rz_rvRN3) (fun K n => rz_rvRN4) (fun K n => rz_rvRN5) (fun K n => rz_rvRN6) (fun K n => rz_rvRN7) (fun K n => rz_rvRN8) (fun K n => rz_rvRN9) (fun K n => rz_rvRS25) (fun K n => rz_rvRS61) (fun K n => rz_rvRS62) (fun K n => rz_rvRT1) (fun K n => rz_rvRT2) (fun K n => rz_rvRW32) (fun K n => rz_rvRW41) (fun K n => rz_rvRW51) (fun K n => rz_rvRW52) (fun K n => rz_rvRX) (fun K n => rz_rvRi) (fun K n => rz_rvRj) (fun K n => rz_rvRo) (fun K n => rz_rvRp) (fun K n => rz_rvS1) (fun K n => rz_rvS2) (fun K n => rz_rvS3a) (fun K n => rz_rvS3b) (fun K n => rz_rvS3k) (fun K n => rz_rvS4a) (fun K n => rz_rvS4b0) (fun K n => rz_rvS4b1) (fun K n => rz_rvS4ka) (fun K n => rz_rvS4kb) (fun K n => rz_rvS4kc) (fun K n => rz_rvS4l) (fun K n => rz_rvSD) (fun K n => rz_rvSE0) (fun K n => rz_rvSE1) (fun K n => rz_rvSEn) (fun K n => rz_rvSGa) (fun K n => rz_rvSGb) (fun K n => rz_rvSH) (fun K n => rz_rvSQ1) (fun K n => rz_rvST0) (fun K n => rz_rvST1) (fun K n => rz_rvSTna) (fun K n => rz_rvSTnb) (fun K n => rz_rvSTnc) (fun K n => rz_rvSTnd) (fun K n => rz_rvT0a) (fun K n => rz_rvT0b0) (fun K n => rz_rvT0b1) (fun K n => rz_rvT0ka) (fun K n => rz_rvT0kb) (fun K n => rz_rvT0kc) (fun K n => rz_rvT1) (fun K n => rz_rvT2) (fun K n => rz_rvT3) (fun K n => rz_rvTK) (fun K n => rz_rvTK10) (fun K n => rz_rvTK11) (fun K n => rz_rvTK2) (fun K n => rz_rvTR0) (fun K n => rz_rvTR64) (fun K n => rz_rvTRI) (fun K n => rz_rvTRI0) (fun K n => rz_rvTRI0b) (fun K n => rz_rvTRv) (fun K n => rz_rvTS) (fun K n => rz_rvTW0) (fun K n => rz_rvTW1) (fun K n => rz_rvTX) (fun K n => rz_rvTg1) (fun K n => rz_rvTg2) (fun K n => rz_rvU1) (fun K n => rz_rvU2) (fun K n => rz_rvU3) (fun K n => rz_rvU4) (fun K n => rz_rvU5) (fun K n => rz_rvUCa0) (fun K n => rz_rvUCa1) (fun K n => rz_rvUCa2) (fun K n => rz_rvUCa3) (fun K n => rz_rvUD) (fun K n => rz_rvUDc) (fun K n => rz_rvW0) (fun K n => rz_rvWE) (fun K n => rz_rvWHa) (fun K n => rz_rvWHb0) (fun K n => rz_rvWHb1) (fun K n => rz_rvWHcd) (fun K n => rz_rvWHcu) (fun K n => rz_rvWe) (fun K n => rz_rvWn) (fun K n => rz_rvWo) (fun K n => rz_rvWz) (fun K n => rz_rvY5) (fun K n => rz_rvYe) (fun K n => rz_rvYk) (fun K n => rz_rvYq) (fun K n => rz_rvYr1) (fun K n => rz_rvYr2) (fun K n => rz_rwA0) (fun K n => rz_rwA7) (fun K n => rz_rwAe) (fun K n => rz_rwAm) (fun K n => rz_rwAn) (fun K n => rz_rwAo) (fun K n => rz_rwAo0) (fun K n => rz_rwB00) (fun K n => rz_rwB01) (fun K n => rz_rwB02) (fun K n => rz_rwB1) (fun K n => rz_rwB2) (fun K n => rz_rwB5) (fun K n => rz_rwBB0) (fun K n => rz_rwBBe) (fun K n => rz_rwBBn) (fun K n => rz_rwBBs) (fun K n => rz_rwBR0) (fun K n => rz_rwBR1) (fun K n => rz_rwBR2) (fun K n => rz_rwC00) (fun K n => rz_rwC01) (fun K n => rz_rwC1) (fun K n => rz_rwC2) (fun K n => rz_rwCT10) (fun K n => rz_rwCT11) (fun K n => rz_rwCi0) (fun K n => rz_rwCi1) (fun K n => rz_rwCi2) (fun K n => rz_rwCie) (fun K n => rz_rwCis) (fun K n => rz_rwDV) (fun K n => rz_rwFDd) (fun K n => rz_rwFDu) (fun K n => rz_rwFE0) (fun K n => rz_rwFE1) (fun K n => rz_rwFL0) (fun K n => rz_rwFLn) (fun K n => rz_rwFLz) (fun K n => rz_rwFMA) (fun K n => rz_rwFR) (fun K n => rz_rwG0) (fun K n => rz_rwGC00) (fun K n => rz_rwGC01) (fun K n => rz_rwGC10) (fun K n => rz_rwGC11) (fun K n => rz_rwGD34) (fun K n => rz_rwGD35) (fun K n => rz_rwGD36) (fun K n => rz_rwGD37) (fun K n => rz_rwGD40) (fun K n => rz_rwGD41) (fun K n => rz_rwGD42) (fun K n => rz_rwGD43) (fun K n => rz_rwGD50) (fun K n => rz_rwGD51) (fun K n => rz_rwGD52) (fun K n => rz_rwGD53) (fun K n => rz_rwGD54) (fun K n => rz_rwGD55) (fun K n => rz_rwGD56) (fun K n => rz_rwGD57) (fun K n => rz_rwGK) (fun K n => rz_rwGN) (fun K n => rz_rwGP) (fun K n => rz_rwGS) (fun K n => rz_rwIC) (fun K n => rz_rwK0) (fun K n => rz_rwK1d) (fun K n => rz_rwK1u) (fun K n => rz_rwK2d) (fun K n => rz_rwK2u) (fun K n => rz_rwK98) (fun K n => rz_rwK98b) (fun K n => rz_rwKP0) (fun K n => rz_rwKPe) (fun K n => rz_rwKPn) (fun K n => rz_rwKPs) (fun K n => rz_rwKR0) (fun K n => rz_rwKR1) (fun K n => rz_rwKR2) (fun K n => rz_rwKT) (fun K n => rz_rwKe) (fun K n => rz_rwKnd) (fun K n => rz_rwKnu) (fun K n => rz_rwKs) (fun K n => rz_rwKy) (fun K n => rz_rwMC0) (fun K n => rz_rwMC00) (fun K n => rz_rwMC01) (fun K n => rz_rwMC10) (fun K n => rz_rwMC11) (fun K n => rz_rwN98) (fun K n => rz_rwNEd) (fun K n => rz_rwNEu) (fun K n => rz_rwNH) (fun K n => rz_rwNOd) (fun K n => rz_rwNOu) (fun K n => rz_rwNZ) (fun K n => rz_rwNa) (fun K n => rz_rwNba) (fun K n => rz_rwNbb) (fun K n => rz_rwNbc) (fun K n => rz_rwNnd) (fun K n => rz_rwNnu) (fun K n => rz_rwNyld) (fun K n => rz_rwNylu) (fun K n => rz_rwNyrd) (fun K n => rz_rwNyru) (fun K n => rz_rwOW) (fun K n => rz_rwP0) (fun K n => rz_rwP1) (fun K n => rz_rwP1n) (fun K n => rz_rwPF) (fun K n => rz_rwPG0) (fun K n => rz_rwPG10) (fun K n => rz_rwPG11) (fun K n => rz_rwPG20) (fun K n => rz_rwPG21) (fun K n => rz_rwPG3l0) (fun K n => rz_rwPG3l1) (fun K n => rz_rwPG3r0) (fun K n => rz_rwPG3r1) (fun K n => rz_rwPG4l0) (fun K n => rz_rwPG4l1) (fun K n => rz_rwPG4r0) (fun K n => rz_rwPG4r1) (fun K n => rz_rwR1) (fun K n => rz_rwR2) (fun K n => rz_rwRG00) (fun K n => rz_rwRG01) (fun K n => rz_rwRG10) (fun K n => rz_rwRG11) (fun K n => rz_rwRK1) (fun K n => rz_rwRKa) (fun K n => rz_rwRKb) (fun K n => rz_rwRKd) (fun K n => rz_rwRM) (fun K n => rz_rwRM1) (fun K n => rz_rwRMa) (fun K n => rz_rwRMb) (fun K n => rz_rwRMe) (fun K n => rz_rwRT) (fun K n => rz_rwRY0) (fun K n => rz_rwRY1) (fun K n => rz_rwRY2) (fun K n => rz_rwRY3) (fun K n => rz_rwRY4) (fun K n => rz_rwRY5) (fun K n => rz_rwRY6) (fun K n => rz_rwRY7) (fun K n => rz_rwRYnd) (fun K n => rz_rwRYnu) (fun K n => rz_rwRYq0) (fun K n => rz_rwRYq1) (fun K n => rz_rwRYq2) (fun K n => rz_rwRYq3) (fun K n => rz_rwRYz) (fun K n => rz_rwS7) (fun K n => rz_rwSD0) (fun K n => rz_rwSD1) (fun K n => rz_rwSDa) (fun K n => rz_rwSDb) (fun K n => rz_rwSDx) (fun K n => rz_rwSF0) (fun K n => rz_rwSF1) (fun K n => rz_rwSO0) (fun K n => rz_rwSO1) (fun K n => rz_rwTCAd) (fun K n => rz_rwTCAu) (fun K n => rz_rwTH00) (fun K n => rz_rwTH01) (fun K n => rz_rwTH10) (fun K n => rz_rwTH11) (fun K n => rz_rwTM) (fun K n => rz_rwTNf0) (fun K n => rz_rwTNf1) (fun K n => rz_rwTNk0) (fun K n => rz_rwTNk1) (fun K n => rz_rwTNx00) (fun K n => rz_rwTNx01) (fun K n => rz_rwTNx11) (fun K n => rz_rwU0a) (fun K n => rz_rwU0b) (fun K n => rz_rwU0c) (fun K n => rz_rwU0p) (fun K n => rz_rwU1n) (fun K n => rz_rwU2) (fun K n => rz_rwU3a) (fun K n => rz_rwU3b) (fun K n => rz_rwWN0) (fun K n => rz_rwWN1) (fun K n => rz_rwWY) (fun K n => rz_rxB0) (fun K n => rz_rxE0) (fun K n => rz_rxEs) (fun K n => rz_rxF) (fun K n => rz_rxFs) (fun K n => rz_rxGY) (fun K n => rz_rxI0) (fun K n => rz_rxJ0) (fun K n => rz_rxJ1) (fun K n => rz_rxJb0) (fun K n => rz_rxJb1) (fun K n => rz_rxJe0) (fun K n => rz_rxJe1) (fun K n => rz_rxJs) (fun K n => rz_rxJy) (fun K n => rz_rxL0) (fun K n => rz_rxLG0) (fun K n => rz_rxLG1) (fun K n => rz_rxLS0a) (fun K n => rz_rxLS0c) (fun K n => rz_rxLS1a) (fun K n => rz_rxLS1b) (fun K n => rz_rxLn) (fun K n => rz_rxLs) (fun K n => rz_rxSG) (fun K n => rz_rzE) (fun K n => rz_rzG) (fun K n => rz_rzM0) (fun K n => rz_rzMn) (fun K n => rz_rzMs) (fun K n => rz_rzN) (fun K n => rz_rzNp) (fun K n => rz_rzP0) (fun K n => rz_rzPe) (fun K n => rz_rzPn) (fun K n => rz_rzPs) (fun K n => rz_rzR0) (fun K n => rz_rzR1) (fun K n => rz_rzR2) (fun K n => rz_rzRn) (fun K n => rz_rzS0) (fun K n => rz_rzSL) (fun K n => rz_rzT1) (fun K n => rz_rzT2) (fun K n => rz_rzT3) (rMn_rH 0)) rfl rfl (aAllc ⟨ad_MMendsG, zg_MMendsG⟩ (fun G h => by cases h)) zEx_nil
theorem zg_MMcommandG : zCon 5 327770 (fun K n => rH 0 K n) fa_T (fun _ _ _ => True) l E jcl jtb lw_tbl ag_MMcommandG := zMe (m := am_MMcommandG) (ae_MMcommandG (F := fun K n => rH 0 K n) (JX := fun _ _ _ => True) (fun K n => rH_jx) (fun K n => (rH_shf 0 K n)) (fun K n => rH_dpa) (fun K n => rH_dpr) (fun K n => rH_dpm) (fun K n => (az_MMputNumB (JX := fun _ _ _ => True) (fun K n => rH_jx) K n)) (fun K n => (az_MTsayLineS)) (fun K n => rz_raA0) (fun K n => rz_raC) (fun K n => rz_raCT) (fun K n => rz_raD0) (fun K n => rz_raDn) (fun K n => rz_raE) (fun K n => rz_raLc) (fun K n => rz_raLn) (fun K n => rz_raM) (fun K n => rz_raN) (fun K n => rz_raP) (fun K n => rz_rbN) (fun K n => rz_rbP) (fun K n => rz_rcC3) (fun K n => rz_rcIk) (fun K n => rz_rcIy) (fun K n => rz_rcIz) (fun K n => rz_rcLG) (fun K n => rz_rcNK) (fun K n => rz_rdB0) (fun K n => rz_rdBn) (fun K n => rz_rdF) (fun K n => rz_rdNEd) (fun K n => rz_rdNEu) (fun K n => rz_rdS1) (fun K n => rz_rdS2) (fun K n => rz_rdS3) (fun K n => rz_rdUP) (fun K n => rz_rdk) (fun K n => rz_reC0) (fun K n => rz_reCG) (fun K n => rz_reE) (fun K n => rz_reG) (fun K n => rz_reND) (fun K n => rz_reR0) (fun K n => rz_reR1) (fun K n => rz_reR2) (fun K n => rz_reR3) (fun K n => rz_reS0) (fun K n => rz_reSn) (fun K n => rz_reSs) (fun K n => rz_reU0) (fun K n => rz_reU1) (fun K n => rz_reU10) (fun K n => rz_reU11) (fun K n => rz_reU12) (fun K n => rz_reU13) (fun K n => rz_reU14) (fun K n => rz_reU15) (fun K n => rz_reU16) (fun K n => rz_reU17) (fun K n => rz_reU18) (fun K n => rz_reU19) (fun K n => rz_reU2) (fun K n => rz_reU20) (fun K n => rz_reU21) (fun K n => rz_reU22) (fun K n => rz_reU23) (fun K n => rz_reU24) (fun K n => rz_reU25) (fun K n => rz_reU26) (fun K n => rz_reU27) (fun K n => rz_reU28) (fun K n => rz_reU29) (fun K n => rz_reU3) (fun K n => rz_reU30) (fun K n => rz_reU31) (fun K n => rz_reU4) (fun K n => rz_reU5) (fun K n => rz_reU6) (fun K n => rz_reU7) (fun K n => rz_reU8) (fun K n => rz_reU9) (fun K n => rz_reZ0) (fun K n => rz_reZe) (fun K n => rz_reZn) (fun K n => rz_reZs) (fun K n => rz_rfM0) (fun K n => rz_rfM1) (fun K n => rz_rfM10) (fun K n => rz_rfM2) (fun K n => rz_rfM3) (fun K n => rz_rfM4) (fun K n => rz_rfM5) (fun K n => rz_rfM6) (fun K n => rz_rfM7) (fun K n => rz_rfM8) (fun K n => rz_rfM9) (fun K n => rz_rfMe) (fun K n => rz_rfS0) (fun K n => rz_rfS1) (fun K n => rz_rfSe) (fun K n => rz_rfV0) (fun K n => rz_rfV1) (fun K n => rz_rgC0) (fun K n => rz_rgCe) (fun K n => rz_rgCnd) (fun K n => rz_rgCnu) (fun K n => rz_rgCs) (fun K n => rz_rgCy) (fun K n => rz_rgE0) (fun K n => rz_rgE1) (fun K n => rz_rgE2) (fun K n => rz_rgF0) (fun K n => rz_rgF1) (fun K n => rz_rgJ0) (fun K n => rz_rgJ10) (fun K n => rz_rgJ11) (fun K n => rz_rgK0) (fun K n => rz_rgK10) (fun K n => rz_rgK11) (fun K n => rz_rgL0) (fun K n => rz_rgLb) (fun K n => rz_rgLe) (fun K n => rz_rgLn) (fun K n => rz_rgLs) (fun K n => rz_rgM0) (fun K n => rz_rgM1) (fun K n => rz_rgMa) (fun K n => rz_rgMb) (fun K n => rz_rgMc) (fun K n => rz_rgMk) (fun K n => rz_rgO2) (fun K n => rz_rgO6) (fun K n => rz_rgQ1) (fun K n => rz_rgQ2) (fun K n => rz_rgQ3) (fun K n => rz_rgQ4) (fun K n => rz_rgS) (fun K n => rz_rgT) (fun K n => rz_rgV0) (fun K n => rz_rgV1) (fun K n => rz_rgV2) (fun K n => rz_rgV3) (fun K n => rz_rgV4) (fun K n => rz_rgV5) (fun K n => rz_rgV60) (fun K n => rz_rgV61) (fun K n => rz_rgV7) (fun K n => rz_rgV8) (fun K n => rz_rgV9) (fun K n => rz_rgVa) (fun K n => rz_rgVb) (fun K n => rz_rgVc) (fun K n => rz_rhB1570) (fun K n => rz_rhB1575) (fun K n => rz_rhB1580) (fun K n => rz_rhB1590) (fun K n => rz_rhB1595) (fun K n => rz_rhB1600) (fun K n => rz_rhB1605) (fun K n => rz_rhB1612) (fun K n => rz_rhB1620) (fun K n => rz_rhB1630) (fun K n => rz_rhG) (fun K n => rz_rhV) (fun K n => rz_riE) (fun K n => rz_riG) (fun K n => rz_riG0) (fun K n => rz_riG2) (fun K n => rz_riG3) (fun K n => rz_riG4) (fun K n => rz_riG5) (fun K n => rz_riM0) (fun K n => rz_riMn) (fun K n => rz_riMs) (fun K n => rz_riN) (fun K n => rz_riO) (fun K n => rz_riP0) (fun K n => rz_riPe) (fun K n => rz_riPn) (fun K n => rz_riPs) (fun K n => rz_riS0) (fun K n => rz_riS1) (fun K n => rz_riSd) (fun K n => rz_riT1) (fun K n => rz_riT2) (fun K n => rz_riT3) (fun K n => rz_riT4) (fun K n => rz_riU) (fun K n => rz_rjA) (fun K n => rz_rjB1) (fun K n => rz_rjC) (fun K n => rz_rjD) (fun K n => rz_rjE) (fun K n => rz_rjF) (fun K n => rz_rjFb) (fun K n => rz_rjG) (fun K n => rz_rjG2) (fun K n => rz_rjH) (fun K n => rz_rjH0) (fun K n => rz_rjH1) (fun K n => rz_rjI) (fun K n => rz_rjK) (fun K n => rz_rjK2) (fun K n => rz_rjL0) (fun K n => rz_rjL1) (fun K n => rz_rjL2) (fun K n => rz_rjL3) (fun K n => rz_rjN0) (fun K n => rz_rjN1) (fun K n => rz_rjN2) (fun K n => rz_rjO) (fun K n => rz_rjRC0) (fun K n => rz_rjRC1) (fun K n => rz_rjRC2) (fun K n => rz_rjRC3) (fun K n => rz_rjT) (fun K n => rz_rjU) (fun K n => rz_rjV3) (fun K n => rz_rjV4) (fun K n => rz_rjV5) (fun K n => rz_rjV6) (fun K n => rz_rjW) (fun K n => rz_rjW1) (fun K n => rz_rkRY0) (fun K n => rz_rkRY1) (fun K n => rz_rkRY2) (fun K n => rz_rkRY3) (fun K n => rz_rkRY4) (fun K n => rz_rkRY5) (fun K n => rz_rkRY6) (fun K n => rz_rkRY7) (fun K n => rz_rkRYnd) (fun K n => rz_rkRYnu) (fun K n => rz_rkRYq0) (fun K n => rz_rkRYq1) (fun K n => rz_rkRYq2) (fun K n => rz_rkRYq3) (fun K n => rz_rkU0) (fun K n => rz_rkUe) (fun K n => rz_rkUn) (fun K n => rz_rkUy) (fun K n => rz_rlAT) (fun K n => rz_rlAU) (fun K n => rz_rlGE) (fun K n => rz_rlGX) (fun K n => rz_rlL0) (fun K n => rz_rlL1) (fun K n => rz_rlLe) (fun K n => rz_rlLp) (fun K n => rz_rlLz) (fun K n => rz_rlM3) (fun K n => rz_rlMZ) (fun K n => rz_rlMc) (fun K n => rz_rlTC) (fun K n => rz_rlTD) (fun K n => rz_rn0) (fun K n => rz_rnB) (fun K n => rz_rnF0) (fun K n => rz_rnFn) (fun K n => rz_rnFs) (fun K n => rz_rnFv) (fun K n => rz_rnG0) (fun K n => rz_rnGa) (fun K n => rz_rnGb) (fun K n => rz_rnGn) (fun K n => rz_rnGv) (fun K n => rz_rnM) (fun K n => rz_rnN1) (fun K n => rz_rnN2) (fun K n => rz_rnP) (fun K n => rz_rnQ) (fun K n => rz_rnT) (fun K n => rz_rnW) (fun K n => rz_roA) (fun K n => rz_roC) (fun K n => rz_roK) (fun K n => rz_roL0) (fun K n => rz_roL1) (fun K n => rz_roLa) (fun K n => rz_roLb) (fun K n => rz_roLr) (fun K n => rz_roLs) (fun K n => rz_roM) (fun K n => rz_roMZ) (fun K n => rz_roMk) (fun K n => rz_roN) (fun K n => rz_roP) (fun K n => rz_roR) (fun K n => rz_rpG) (fun K n => rz_rpN) (fun K n => rz_rpP) (fun K n => rz_rpS) (fun K n => rz_rpZ) (fun K n => rz_rq1) (fun K n => rz_rq2) (fun K n => rz_rq3) (fun K n => rz_rqG0A) (fun K n => rz_rqG0B) (fun K n => rz_rqG0C) (fun K n => rz_rqG1dA) (fun K n => rz_rqG1dB) (fun K n => rz_rqG1dC) (fun K n => rz_rqG1uA) (fun K n => rz_rqG1uB) (fun K n => rz_rqG1uC) (fun K n => rz_rqG2dA) (fun K n => rz_rqG2dB) (fun K n => rz_rqG2dC) (fun K n => rz_rqG2uA) (fun K n => rz_rqG2uB) (fun K n => rz_rqG2uC) (fun K n => rz_rqG3dA) (fun K n => rz_rqG3dB) (fun K n => rz_rqG3dC) (fun K n => rz_rqG3uA) (fun K n => rz_rqG3uB) (fun K n => rz_rqG3uC) (fun K n => rz_rqGyA) (fun K n => rz_rqGyB) (fun K n => rz_rqGyC) (fun K n => rz_rqH0d) (fun K n => rz_rqH0u) (fun K n => rz_rqH1d) (fun K n => rz_rqH1u) (fun K n => rz_rqH2d) (fun K n => rz_rqH2u) (fun K n => rz_rqH3d) (fun K n => rz_rqH3u) (fun K n => rz_rqHa) (fun K n => rz_rqHb) (fun K n => rz_rqHy) (fun K n => rz_rqM) (fun K n => rz_rqNd) (fun K n => rz_rqNu) (fun K n => rz_rqS) (fun K n => rz_rqY) (fun K n => rz_rqZ) (fun K n => rz_rqz0) (fun K n => rz_rqz1) (fun K n => rz_rqz2) (fun K n => rz_rsG) (fun K n => rz_rsH) (fun K n => rz_rsI) (fun K n => rz_rsJ) (fun K n => rz_rsN) (fun K n => rz_rsO) (fun K n => rz_rsR) (fun K n => rz_rsY) (fun K n => rz_rsZ) (fun K n => rz_rtM) (fun K n => rz_rtT1) (fun K n => rz_rtT17) (fun K n => rz_rtT2) (fun K n => rz_rtT3) (fun K n => rz_rtT38) (fun K n => rz_rtT4) (fun K n => rz_rtT5) (fun K n => rz_rtT6) (fun K n => rz_rtT7) (fun K n => rz_rtU) (fun K n => rz_rvAL) (fun K n => rz_rvB0) (fun K n => rz_rvB1) (fun K n => rz_rvBT1) (fun K n => rz_rvC0) (fun K n => rz_rvC10) (fun K n => rz_rvC1e) (fun K n => rz_rvC1nd) (fun K n => rz_rvC1nu) (fun K n => rz_rvC1s) (fun K n => rz_rvC1y) (fun K n => rz_rvCASd) (fun K n => rz_rvCASu) (fun K n => rz_rvCAq) (fun K n => rz_rvCE) (fun K n => rz_rvCJ0) (fun K n => rz_rvCJ1) (fun K n => rz_rvCL0) (fun K n => rz_rvCL1) (fun K n => rz_rvCLX) (fun K n => rz_rvCO6) (fun K n => rz_rvCT) (fun K n => rz_rvCe1b) (fun K n => rz_rvCe2) (fun K n => rz_rvCf) (fun K n => rz_rvCi) (fun K n => rz_rvCn10) (fun K n => rz_rvCn11) (fun K n => rz_rvCn2) (fun K n => rz_rvCs) (fun K n => rz_rvDG) (fun K n => rz_rvDIR) (fun K n => rz_rvDM) (fun K n => rz_rvDM2) (fun K n => rz_rvEN0) (fun K n => rz_rvENn) (fun K n => rz_rvENs) (fun K n => rz_rvEP000) (fun K n => rz_rvEP001) (fun K n => rz_rvEP010) (fun K n => rz_rvEP011) (fun K n => rz_rvEPn) (fun K n => rz_rvFE0) (fun K n => rz_rvFE1) (fun K n => rz_rvFL0) (fun K n => rz_rvFLn) (fun K n => rz_rvFLz) (fun K n => rz_rvFMA) (fun K n => rz_rvFOy) (fun K n => rz_rvG1) (fun K n => rz_rvG20) (fun K n => rz_rvG21) (fun K n => rz_rvG300) (fun K n => rz_rvG301) (fun K n => rz_rvG310) (fun K n => rz_rvG311) (fun K n => rz_rvGY) (fun K n => rz_rvGZ) (fun K n => rz_rvGl00) (fun K n => rz_rvGl01) (fun K n => rz_rvGl10) (fun K n => rz_rvGl11) (fun K n => rz_rvGs00) (fun K n => rz_rvGs01) (fun K n => rz_rvGs10) (fun K n => rz_rvGs11) (fun K n => rz_rvHK) (fun K n => rz_rvHK2) (fun K n => rz_rvHKd) (fun K n => rz_rvHKs) (fun K n => rz_rvHM0) (fun K n => rz_rvHM1) (fun K n => rz_rvHMa) (fun K n => rz_rvHMb) (fun K n => rz_rvHP0) (fun K n => rz_rvHPe) (fun K n => rz_rvHPn) (fun K n => rz_rvHPs) (fun K n => rz_rvIC) (fun K n => rz_rvIL0) (fun K n => rz_rvIL1) (fun K n => rz_rvJe0) (fun K n => rz_rvJe1) (fun K n => rz_rvJn0) (fun K n => rz_rvJn1) (fun K n => rz_rvJs) (fun K n => rz_rvJy0) (fun K n => rz_rvJy1) (fun K n => rz_rvK0) (fun K n => rz_rvK1d) (fun K n => rz_rvK1u) (fun K n => rz_rvK2d) (fun K n => rz_rvK2u) (fun K n => rz_rvK3d) (fun K n => rz_rvK3u) (fun K n => rz_rvK4d) (fun K n => rz_rvK4u) (fun K n => rz_rvKD) (fun K n => rz_rvKF) (fun K n => rz_rvKF2) (fun K n => rz_rvKO) (fun K n => rz_rvKb) (fun K n => rz_rvKnd) (fun K n => rz_rvKnu) (fun K n => rz_rvKs) (fun K n => rz_rvLF0) (fun K n => rz_rvLF1) (fun K n => rz_rvLFn) (fun K n => rz_rvLFs) (fun K n => rz_rvLFy) (fun K n => rz_rvLFz) (fun K n => rz_rvLGy) (fun K n => rz_rvLO0) (fun K n => rz_rvLO1) (fun K n => rz_rvLO10) (fun K n => rz_rvLO2) (fun K n => rz_rvLO3) (fun K n => rz_rvLO4) (fun K n => rz_rvLO5) (fun K n => rz_rvLO6) (fun K n => rz_rvLO7) (fun K n => rz_rvLO8) (fun K n => rz_rvLO9) (fun K n => rz_rvLS0a) (fun K n => rz_rvLS0b0) (fun K n => rz_rvLS0b1) (fun K n => rz_rvLS1a) (fun K n => rz_rvLS1b) (fun K n => rz_rvLd) (fun K n => rz_rvLd2) (fun K n => rz_rvLdy) (fun K n => rz_rvLdz) (fun K n => rz_rvM4d1) (fun K n => rz_rvM4d2) (fun K n => rz_rvM4u1) (fun K n => rz_rvM4u2) (fun K n => rz_rvM5d) (fun K n => rz_rvM5u) (fun K n => rz_rvMCa00) (fun K n => rz_rvMCa01) (fun K n => rz_rvMCa10) (fun K n => rz_rvMCa11) (fun K n => rz_rvMCc00) (fun K n => rz_rvMCc01) (fun K n => rz_rvMCc10) (fun K n => rz_rvMCc11) (fun K n => rz_rvMCn00) (fun K n => rz_rvMCn01) (fun K n => rz_rvMCn10) (fun K n => rz_rvMCn11) (fun K n => rz_rvMCr00) (fun K n => rz_rvMCr01) (fun K n => rz_rvMCr10) (fun K n => rz_rvMCr11) (fun K n => rz_rvMCy00) (fun K n => rz_rvMCy01) (fun K n => rz_rvMCy10) (fun K n => rz_rvMCy11) (fun K n => rz_rvME) (fun K n => rz_rvMH0) (fun K n => rz_rvMH1) (fun K n => rz_rvMHu) (fun K n => rz_rvN00) (fun K n => rz_rvN01) (fun K n => rz_rvN02) (fun K n => rz_rvN1) (fun K n => rz_rvN3) (fun K n => rz_rvN5) (fun K n => rz_rvNH1) (fun K n => rz_rvNL) (fun K n => rz_rvNP0) (fun K n => rz_rvNP1) (fun K n => rz_rvNPN0) (fun K n => rz_rvNPN1) (fun K n => rz_rvNPa) (fun K n => rz_rvNPba) (fun K n => rz_rvNPbb) (fun K n => rz_rvNPbc) (fun K n => rz_rvNPnd) (fun K n => rz_rvNPnu) (fun K n => rz_rvNPyld) (fun K n => rz_rvNPylu) (fun K n => rz_rvNPyrd) (fun K n => rz_rvNPyru) (fun K n => rz_rvNe) (fun K n => rz_rvNf0) (fun K n => rz_rvNfn) (fun K n => rz_rvNr0) (fun K n => rz_rvNrn) (fun K n => rz_rvOF0) (fun K n => rz_rvOF1) (fun K n => rz_rvOFd) (fun K n => rz_rvOFu) (fun K n => rz_rvON1) (fun K n => rz_rvONa) (fun K n => rz_rvONb) (fun K n => rz_rvONc) (fun K n => rz_rvONd) (fun K n => rz_rvOW) (fun K n => rz_rvP1n) (fun K n => rz_rvP1y) (fun K n => rz_rvP2n) (fun K n => rz_rvP2p0) (fun K n => rz_rvP2p1) (fun K n => rz_rvP2y) (fun K n => rz_rvP30) (fun K n => rz_rvP3a) (fun K n => rz_rvP3nd0) (fun K n => rz_rvP3nd1) (fun K n => rz_rvP3nu0) (fun K n => rz_rvP3nu1) (fun K n => rz_rvP3s) (fun K n => rz_rvP3y) (fun K n => rz_rvPE) (fun K n => rz_rvPF) (fun K n => rz_rvPGe) (fun K n => rz_rvPON0) (fun K n => rz_rvPON1) (fun K n => rz_rvPQ0) (fun K n => rz_rvPQ1) (fun K n => rz_rvPS0) (fun K n => rz_rvPS1) (fun K n => rz_rvPSy0) (fun K n => rz_rvPSy1) (fun K n => rz_rvPV) (fun K n => rz_rvPW) (fun K n => rz_rvPW1) (fun K n => rz_rvPW2) (fun K n => rz_rvPWN) (fun K n => rz_rvPa) (fun K n => rz_rvPb) (fun K n => rz_rvPc00) (fun K n => rz_rvPc01) (fun K n => rz_rvPc1) (fun K n => rz_rvPc10) (fun K n => rz_rvPc11) (fun K n => rz_rvPd0) (fun K n => rz_rvPd1) (fun K n => rz_rvPd10) (fun K n => rz_rvPd11) (fun K n => rz_rvQI2) (fun K n => rz_rvQID) (fun K n => rz_rvR0) (fun K n => rz_rvR9) (fun K n => rz_rvRCc0) (fun K n => rz_rvRCc1) (fun K n => rz_rvRCc2) (fun K n => rz_rvRCc3) (fun K n => rz_rvRE) (fun K n => rz_rvRGY00) (fun K n => rz_rvRGY01) (fun K n => rz_rvRGY10) (fun K n => rz_rvRGY11) (fun K n => rz_rvRK) (fun K n => rz_rvRN0) (fun K n => rz_rvRN1) (fun K n => rz_rvRN10) (fun K n => rz_rvRN11) (fun K n => rz_rvRN2) (fun K n => rz_rvRN3) (fun K n => rz_rvRN4) (fun K n => rz_rvRN5) (fun K n => rz_rvRN6) (fun K n => rz_rvRN7) (fun K n => rz_rvRN8) (fun K n => rz_rvRN9) (fun K n => rz_rvRS25) (fun K n => rz_rvRS61) (fun K n => rz_rvRS62) (fun K n => rz_rvRT1) (fun K n => rz_rvRT2) (fun K n => rz_rvRW32) (fun K n => rz_rvRW41) (fun K n => rz_rvRW51) (fun K n => rz_rvRW52) (fun K n => rz_rvRX) (fun K n => rz_rvRi) (fun K n => rz_rvRj) (fun K n => rz_rvRo) (fun K n => rz_rvRp) (fun K n => rz_rvS1) (fun K n => rz_rvS2) (fun K n => rz_rvS3a) (fun K n => rz_rvS3b) (fun K n => rz_rvS3k) (fun K n => rz_rvS4a) (fun K n => rz_rvS4b0) (fun K n => rz_rvS4b1) (fun K n => rz_rvS4ka) (fun K n => rz_rvS4kb) (fun K n => rz_rvS4kc) (fun K n => rz_rvS4l) (fun K n => rz_rvSD) (fun K n => rz_rvSG0) (fun K n => rz_rvSG1) (fun K n => rz_rvSGa) (fun K n => rz_rvSGb) (fun K n => rz_rvSGe) (fun K n => rz_rvSGm) (fun K n => rz_rvSGn) (fun K n => rz_rvSH) (fun K n => rz_rvSQ1) (fun K n => rz_rvST0) (fun K n => rz_rvST1) (fun K n => rz_rvSTna) (fun K n => rz_rvSTnb) (fun K n => rz_rvSTnc) (fun K n => rz_rvSTnd) (fun K n => rz_rvT0a) (fun K n => rz_rvT0b0) (fun K n => rz_rvT0b1) (fun K n => rz_rvT0ka) (fun K n => rz_rvT0kb) (fun K n => rz_rvT0kc) (fun K n => rz_rvT1) (fun K n => rz_rvT2) (fun K n => rz_rvT3) (fun K n => rz_rvTK) (fun K n => rz_rvTK10) (fun K n => rz_rvTK11) (fun K n => rz_rvTK2) (fun K n => rz_rvTR0) (fun K n => rz_rvTR64) (fun K n => rz_rvTRI) (fun K n => rz_rvTRI0b) (fun K n => rz_rvTRh) (fun K n => rz_rvTRp) (fun K n => rz_rvTRv) (fun K n => rz_rvTS) (fun K n => rz_rvTW0) (fun K n => rz_rvTW1) (fun K n => rz_rvTX) (fun K n => rz_rvTg1) (fun K n => rz_rvTg2) (fun K n => rz_rvTg3) (fun K n => rz_rvTg4) (fun K n => rz_rvTg5) (fun K n => rz_rvU1) (fun K n => rz_rvU2) (fun K n => rz_rvU3) (fun K n => rz_rvU4) (fun K n => rz_rvU5) (fun K n => rz_rvUCa0) (fun K n => rz_rvUCa1) (fun K n => rz_rvUCa2) (fun K n => rz_rvUCa3) (fun K n => rz_rvUCb0) (fun K n => rz_rvUD) (fun K n => rz_rvUDc) (fun K n => rz_rvW0) (fun K n => rz_rvWE) (fun K n => rz_rvWHa) (fun K n => rz_rvWHb0) (fun K n => rz_rvWHb1) (fun K n => rz_rvWHcd) (fun K n => rz_rvWHcu) (fun K n => rz_rvWe) (fun K n => rz_rvWn) (fun K n => rz_rvWo) (fun K n => rz_rvWz) (fun K n => rz_rvY5) (fun K n => rz_rvYe) (fun K n => rz_rvYk) (fun K n => rz_rvYq) (fun K n => rz_rvYr1) (fun K n => rz_rvYr2) (fun K n => rz_rwA0) (fun K n => rz_rwA7) (fun K n => rz_rwAe) (fun K n => rz_rwAm) (fun K n => rz_rwAn) (fun K n => rz_rwAo) (fun K n => rz_rwAo0) (fun K n => rz_rwB00) (fun K n => rz_rwB01) (fun K n => rz_rwB02) (fun K n => rz_rwB1) (fun K n => rz_rwB2) (fun K n => rz_rwB5) (fun K n => rz_rwBB0) (fun K n => rz_rwBBe) (fun K n => rz_rwBBn) (fun K n => rz_rwBBs) (fun K n => rz_rwBR0) (fun K n => rz_rwBR1) (fun K n => rz_rwBR2) (fun K n => rz_rwC00) (fun K n => rz_rwC01) (fun K n => rz_rwC1) (fun K n => rz_rwC2) (fun K n => rz_rwCT10) (fun K n => rz_rwCT11) (fun K n => rz_rwCi0) (fun K n => rz_rwCi1) (fun K n => rz_rwCi2) (fun K n => rz_rwCie) (fun K n => rz_rwCis) (fun K n => rz_rwDV) (fun K n => rz_rwFDd) (fun K n => rz_rwFDu) (fun K n => rz_rwFE0) (fun K n => rz_rwFE1) (fun K n => rz_rwFL0) (fun K n => rz_rwFLn) (fun K n => rz_rwFLz) (fun K n => rz_rwFMA) (fun K n => rz_rwFR) (fun K n => rz_rwG0) (fun K n => rz_rwGC00) (fun K n => rz_rwGC01) (fun K n => rz_rwGC10) (fun K n => rz_rwGC11) (fun K n => rz_rwGD34) (fun K n => rz_rwGD35) (fun K n => rz_rwGD36) (fun K n => rz_rwGD37) (fun K n => rz_rwGD40) (fun K n => rz_rwGD41) (fun K n => rz_rwGD42) (fun K n => rz_rwGD43) (fun K n => rz_rwGD50) (fun K n => rz_rwGD51) (fun K n => rz_rwGD52) (fun K n => rz_rwGD53) (fun K n => rz_rwGD54) (fun K n => rz_rwGD55) (fun K n => rz_rwGD56) (fun K n => rz_rwGD57) (fun K n => rz_rwGK) (fun K n => rz_rwGN) (fun K n => rz_rwGP) (fun K n => rz_rwGS) (fun K n => rz_rwIC) (fun K n => rz_rwK0) (fun K n => rz_rwK1d) (fun K n => rz_rwK1u) (fun K n => rz_rwK2d) (fun K n => rz_rwK2u) (fun K n => rz_rwK98) (fun K n => rz_rwK98b) (fun K n => rz_rwKP0) (fun K n => rz_rwKPe) (fun K n => rz_rwKPn) (fun K n => rz_rwKPs) (fun K n => rz_rwKR0) (fun K n => rz_rwKR1) (fun K n => rz_rwKR2) (fun K n => rz_rwKT) (fun K n => rz_rwKe) (fun K n => rz_rwKnd) (fun K n => rz_rwKnu) (fun K n => rz_rwKs) (fun K n => rz_rwKy) (fun K n => rz_rwMC0) (fun K n => rz_rwMC00) (fun K n => rz_rwMC01) (fun K n => rz_rwMC10) (fun K n => rz_rwMC11) (fun K n => rz_rwN98) (fun K n => rz_rwNEd) (fun K n => rz_rwNEu) (fun K n => rz_rwNH) (fun K n => rz_rwNOd) (fun K n => rz_rwNOu) (fun K n => rz_rwNZ) (fun K n => rz_rwNa) (fun K n => rz_rwNba) (fun K n => rz_rwNbb) (fun K n => rz_rwNbc) (fun K n => rz_rwNnd) (fun K n => rz_rwNnu) (fun K n => rz_rwNyld) (fun K n => rz_rwNylu) (fun K n => rz_rwNyrd) (fun K n => rz_rwNyru) (fun K n => rz_rwOW) (fun K n => rz_rwP0) (fun K n => rz_rwP1) (fun K n => rz_rwP1n) (fun K n => rz_rwPF) (fun K n => rz_rwPG0) (fun K n => rz_rwPG10) (fun K n => rz_rwPG11) (fun K n => rz_rwPG20) (fun K n => rz_rwPG21) (fun K n => rz_rwPG3l0) (fun K n => rz_rwPG3l1) (fun K n => rz_rwPG3r0) (fun K n => rz_rwPG3r1) (fun K n => rz_rwPG4l0) (fun K n => rz_rwPG4l1) (fun K n => rz_rwPG4r0) (fun K n => rz_rwPG4r1) (fun K n => rz_rwR1) (fun K n => rz_rwR2) (fun K n => rz_rwRG00) (fun K n => rz_rwRG01) (fun K n => rz_rwRG10) (fun K n => rz_rwRG11) (fun K n => rz_rwRK1) (fun K n => rz_rwRKa) (fun K n => rz_rwRKb) (fun K n => rz_rwRKd) (fun K n => rz_rwRM) (fun K n => rz_rwRM1) (fun K n => rz_rwRMa) (fun K n => rz_rwRMb) (fun K n => rz_rwRMe) (fun K n => rz_rwRT) (fun K n => rz_rwRY0) (fun K n => rz_rwRY1) (fun K n => rz_rwRY2) (fun K n => rz_rwRY3) (fun K n => rz_rwRY4) (fun K n => rz_rwRY5) (fun K n => rz_rwRY6) (fun K n => rz_rwRY7) (fun K n => rz_rwRYnd) (fun K n => rz_rwRYnu) (fun K n => rz_rwRYq0) (fun K n => rz_rwRYq1) (fun K n => rz_rwRYq2) (fun K n => rz_rwRYq3) (fun K n => rz_rwRYz) (fun K n => rz_rwS7) (fun K n => rz_rwSD0) (fun K n => rz_rwSD1) (fun K n => rz_rwSDa) (fun K n => rz_rwSDb) (fun K n => rz_rwSDx) (fun K n => rz_rwSF0) (fun K n => rz_rwSF1) (fun K n => rz_rwSO0) (fun K n => rz_rwSO1) (fun K n => rz_rwTCAd) (fun K n => rz_rwTCAu) (fun K n => rz_rwTH00) (fun K n => rz_rwTH01) (fun K n => rz_rwTH10) (fun K n => rz_rwTH11) (fun K n => rz_rwTM) (fun K n => rz_rwTNf0) (fun K n => rz_rwTNf1) (fun K n => rz_rwTNk0) (fun K n => rz_rwTNk1) (fun K n => rz_rwTNx00) (fun K n => rz_rwTNx01) (fun K n => rz_rwTNx11) (fun K n => rz_rwU0a) (fun K n => rz_rwU0b) (fun K n => rz_rwU0c) (fun K n => rz_rwU0p) (fun K n => rz_rwU1n) (fun K n => rz_rwU2) (fun K n => rz_rwU3a) (fun K n => rz_rwU3b) (fun K n => rz_rwWN0) (fun K n => rz_rwWN1) (fun K n => rz_rwWY) (fun K n => rz_rxB0) (fun K n => rz_rxE0) (fun K n => rz_rxEs) (fun K n => rz_rxF) (fun K n => rz_rxFs) (fun K n => rz_rxGY) (fun K n => rz_rxI0) (fun K n => rz_rxJ0) (fun K n => rz_rxJ1) (fun K n => rz_rxJb0) (fun K n => rz_rxJb1) (fun K n => rz_rxJe0) (fun K n => rz_rxJe1) (fun K n => rz_rxJs) (fun K n => rz_rxJy) (fun K n => rz_rxL0) (fun K n => rz_rxLG0) (fun K n => rz_rxLG1) (fun K n => rz_rxLS0a) (fun K n => rz_rxLS0c) (fun K n => rz_rxLS1a) (fun K n => rz_rxLS1b) (fun K n => rz_rxLn) (fun K n => rz_rxLs) (fun K n => rz_rxSG) (fun K n => rz_ryC0) (fun K n => rz_ryCe) (fun K n => rz_ryCn) (fun K n => rz_rzE) (fun K n => rz_rzG) (fun K n => rz_rzM0) (fun K n => rz_rzMn) (fun K n => rz_rzMs) (fun K n => rz_rzN) (fun K n => rz_rzNp) (fun K n => rz_rzP0) (fun K n => rz_rzPe) (fun K n => rz_rzPn) (fun K n => rz_rzPs) (fun K n => rz_rzR0) (fun K n => rz_rzR1) (fun K n => rz_rzR2) (fun K n => rz_rzRn) (fun K n => rz_rzS0) (fun K n => rz_rzSL) (fun K n => rz_rzT1) (fun K n => rz_rzT2) (fun K n => rz_rzT3) (rMn_rH 0)) rfl rfl (aAllc ⟨ad_MMaskedG, zg_MMaskedG⟩ (fun G h => by cases h)) zEx_nil
theorem zg_MMendG : zCon 5 327770 (fun K n => rH 0 K n) fa_T (fun _ _ _ => True) l E jcl jtb lw_tbl ag_MMendG := zMe (m := am_MMendG) (ae_MMendG (F := fun K n => rH 0 K n) (JX := fun _ _ _ => True) (fun K n => rH_jx) (fun K n => (rH_shf 0 K n)) (fun K n => rH_dpa) (fun K n => rH_dpr) (fun K n => rH_dpm) (fun K n => rz_rjT1) rMn_nil) rfl rfl (aAllc ⟨ad_MMcommandG, zg_MMcommandG⟩ (fun G h => by cases h)) zEx_nil
end ZZ
end
section
/-! GROWTH: from a cut on (constructors) -/
section GCU
variable {P : Type} {F : (Nat → Nat) → Nat → aFt P} {JX : (Nat → Nat) → Nat → (Nat → jcell) → Prop} {l : Launch} {E : jE} {tb : jTb} {nL : Nat} {cc : ByteArray} {m : aMi} {sh : P → List jv → P}
noncomputable def gCut (F : (Nat → Nat) → Nat → aFt P) (JX : (Nat → Nat) → Nat → (Nat → jcell) → Prop) (l : Launch) (E : jE) (tb : jTb) (m : aMi) (nL : Nat) (cc : ByteArray) : Prop := ∀ (post : jPo) (rm : Room), (m.2.2.2.1.2.2.2.2.2.2.frames ≤ rm.frames ∧ m.2.2.2.1.2.2.2.2.2.2.locals ≤ rm.locals) → ∀ (n0 : Nat) (p : P) (ρ : List jv) (Wp : gV → Prop), m.2.1.2.2.2.2.2.2 = ρ.length →
    (∀ (K : Nat → Nat) (n : Nat) (σ0 : Nat → jcell) (ca sl : Nat), Wp (K, n, σ0, ca, sl) → (ca ≤ rm.cells ∧ sl ≤ rm.slots) ∧ ∀ (r : Option jv) (σ' : Nat → jcell), aPo m.2.1 K n (JX K n) (F K n) p ρ σ0 m.2.2.2.1 r σ' n → post r σ' n) →
    ∀ (M : jM), M.2.1 = l → M.2.2.2.1 = rm → M.2.2.2.2.1.heap.size = E.2.2.2 + n0 → jX E m.1.1 m.1.2.1 m.1.2.2.1 tb nL false cc M → M.2.2.2.2.2.2.2.2.1.sig.returnType = m.1.2.2.2.1 →
    ∀ (K : Nat → Nat) (n : Nat) (σ0 : Nat → jcell) (ca sl : Nat), Wp (K, n, σ0, ca, sl) → ∀ c ∈ m.2.2.2.2.2, ∀ (ρ' : List jv) (lv : List (Option jv)) (st : List jv) (σ : Nat → jcell), aX ρ ρ' → aCx (aFq (F K n) p) (aHp m.2.1 K n (JX K n) ρ σ0) K n c.2.1 ρ' lv st σ → jJ E m.1.2.2.1 nL M (jQ E m.1.2.2.1 M post rm.cells rm.slots) n ca sl c.1 lv st σ
theorem gCut_of {f : Nat} {g : Nat → Option Jvm.Cond} {L : jLk} (hgg : ∀ i w, g i = some w → m.1.2.1[i]? = some w) (hL : jLkOk m.1.1 m.1.2.1 m.1.2.2.1 tb L) (hsp : ∀ q ∈ m.1.2.2.2.2.2.1, aSpP m.1.1 m.1.2.1 q) (hg : ∀ q ∈ m.1.2.2.2.2.1, ∀ G, m.2.2.1[q.2.2]? = some G → jlm m.1.2.1 q.2.1 m.1.1 q.1 G.1.1 = true) (hC : jCl m.1.2.1 m.1.2.2.1) (hG : ∀ K n, ∀ G ∈ m.2.2.1, aGd m.1.2.1 G ∧ aMe (F K n) l E m.1.2.2.1 tb m.1.2.1 m.2.1.1 K n (JX K n) G) (hU : ∀ K n, ∀ G ∈ m.1.2.2.2.2.2.2.2.1, aGho (F K n) m.2.1.1 K n (JX K n) G) (hT : aTB m.2.1.2.1 tb) (hJ : ∀ K n, aJx K n m.2.1.2.2.1 (JX K n)) (hS : ∀ K n, aShf (F K n) sh) (hD : ∀ K n, aDp (F K n) K n m.2.1.2.2.2.2.2.1) (hok : jokLG g L m.1.1 m.1.2.2.1 tb nL cc 0 m.2.2.2.2.1 = true) (hch : gChk m [] [] [] [] [] f = true) : gCut F JX l E tb m nL cc := by
  intro post rm hfl n0 p ρ Wp hρ hW1 M hl hR hsz X hr
  unfold gChk at hch
  rw [Bool.and_eq_true] at hch
  obtain ⟨h0, h1⟩ := hch
  simp only [aOkc, Bool.and_eq_true, decide_eq_true_eq] at h0
  obtain ⟨o1, o2, o3, o4, o5, o6, o7, o8⟩ := h0
  have hok9 := jokLG_ok hgg hL hok
  have key : ∀ (R : List Nat), ∀ (K : Nat → Nat) (n : Nat) (σ0 : Nat → jcell) (ca sl : Nat), Wp (K, n, σ0, ca, sl) → ∀ c ∈ m.2.2.2.2.2, ∀ (ρ' : List jv) (lv : List (Option jv)) (st : List jv) (σ : Nat → jcell), c.2.2.2.map (aRn ρ') = R → aX ρ ρ' → aCx (aFq (F K n) p) (aHp m.2.1 K n (JX K n) ρ σ0) K n c.2.1 ρ' lv st σ → jJ E m.1.2.2.1 nL M (jQ E m.1.2.2.1 M post rm.cells rm.slots) n ca sl c.1 lv st σ := by
    intro R
    induction aLt_acc R.length R rfl with
    | intro R _ ih =>
      intro K n σ0 ca sl hw c hcm ρ' lv st σ hR0 hx0 hc
      have h2 := List.all_eq_true.mp h1 c hcm
      unfold gCk1 at h2
      rw [Bool.and_eq_true, Bool.or_eq_true] at h2
      obtain ⟨h2, h3⟩ := h2
      rcases h3 with h3 | h3
      · cases h3
      · split at h3
        next is hs =>
          refine gRun_ok (lk := []) (mg := []) (gi := []) (mo := []) (n0 := n0) hsp hg (fun q hq => by cases hq) hC X hl hfl hR hsz hr hG (fun G hG => by cases hG) hU hT hJ hS hD (fun _ _ _ _ _ r hr => by cases hr) o4 hρ hok9 hW1 (R0 := R) (fun K n σ0 ca sl hw c2 hc2 ρ2 lv' st' σ' hlt hx hcx => ih _ hlt K n σ0 ca sl hw c2 hc2 ρ2 lv' st' σ' rfl hx hcx) f is c.1 c.2.1 K n σ0 ca sl hw ρ' lv st σ h3 (aSuf_ok hok9 hs) hx0 (fun g hg => ?_) hR0 hc
          exact aEv_df (by rw [hc.1.1]; exact List.all_eq_true.mp h2 g hg)
        next => cases h3
  exact fun K n σ0 ca sl hw c hcm ρ' lv st σ hx hc => key _ K n σ0 ca sl hw c hcm ρ' lv st σ rfl hx hc
end GCU
end
