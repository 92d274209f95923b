section
section FA
variable {l : Launch} {E : jE} {K : Nat → Nat} {n : Nat} {P : Type} {F : aFt P} {sh : P → List jv → P} {JX : (Nat → jcell) → Prop}
noncomputable def ag_MBsayNumZ : aCon := (y_MB_sayNumber, false, 2, ([(.inr (some (.inl (false, 88))), none), (.inl (-2147483648, 2147483647), none), (.inr (some (.inl (false, 61))), none), (.inl (0, 96), none)], ([(0, 35, 2), (0, 36, 3)], [], [], [])), (none, [.inl (1, 99)], ([(0, 36, 4)], [], [([(4, -1), (3, 1)], 3)], []), [[]]), ([(88, 36)], [(61, ([], 0))]), { frames := 1, cells := 0, slots := 0, locals := 21 })
noncomputable def am_MBsayNumZ : aMi := (("ChessHouseModel$Board", lw_tbl, jcl, none, [(311, 2875, 0)], [], [], [], []), (fa_T, fa_TB, fa_Pk, [(88, 36)], [(61, ([], 0))], rm_dep, 4), [ag_MBsayX], ag_MBsayNumZ, ak_MBsayNumX, [(0, aEn ag_MBsayNumZ, [], [([], 0)])])
theorem ac_MBsayNumZ : aChk am_MBsayNumZ 70 = true := by rw [fs_Chk]; decide +kernel
theorem ad_MBsayNumZ : aGd lw_tbl ag_MBsayNumZ := ⟨rfl, rfl, m_MB_sayNumber, i_MB_sayNumber, e_MB_sayNumber⟩
theorem ae_MBsayNumZ (hJ : aJx K n fa_Pk JX) (hS : aShf F sh) (hD : aDp F K n fa_dep) (hD1 : aDp F K n ra_dep) (hD2 : aDp F K n rm_dep) : aMe F l E jcl jtb lw_tbl fa_T K n JX ag_MBsayNumZ := aMe_of (m := am_MBsayNumZ) (f := 70) rfl rfl rfl rfl rfl (by decide) (fun _ _ => jtF_ok) lo_MB (fun q h => by cases h) (aAllc (fun G h => by obtain rfl := Option.some.inj h; exact ql_MB_311) (fun q h => by cases h)) jC (aAllc ⟨ad_MBsayX, ae_MBsayX hJ hS hD hD1⟩ (fun G h => by cases h)) (fun G h => by cases h) fa_tb hJ hS hD2 ao_MBsayNumX ac_MBsayNumZ (List.mem_of_getElem? (i := 0) rfl)
noncomputable def ag_MBwriteZ : aCon := (y_MB_write, false, 2, ([(.inr (some (.inl (false, 88))), none), (.inr (some (.inl (false, 61))), none)], ([], [], [], [])), (none, [.inl (0, 100)], ([(0, 36, 2)], [], [], []), [[]]), ([(88, 36), (88, 35)], [(61, ([], 0))]), { frames := 2, cells := 0, slots := 0, locals := 44 })
noncomputable def am_MBwriteZ : aMi := (("ChessHouseModel$Board", lw_tbl, jcl, none, [(270, 2445, 1), (311, 2875, 0), (315, 2879, 2)], [], [], [], []), (fa_T, fa_TB, fa_Pk, [(88, 36), (88, 35)], [(61, ([], 0))], rm_dep, 2), [ag_MBsayX, ag_MBletterX, ag_MBsayNumZ], ag_MBwriteZ, ak_MBwriteX, [(13, ([some 0, none, some 2, none, none, none], [], [(.inr (some (.inl (false, 88))), none), (.inr (some (.inl (false, 61))), none), (.inl (-1, 7), none), (.inl (0, 76), none)], ([(0, 36, 3), (0, 35, 1)], [], [([(2, -9), (3, -1)], 63)], [(0, [])])), [.inl 2, .inr (.inr (0, 36))], [([], 1), ([(3, -1)], 76), ([], 2), ([], 0), ([], 0)]), (22, ([some 0, none, some 2, some 3, some 4, none], [], [(.inr (some (.inl (false, 88))), none), (.inr (some (.inl (false, 61))), none), (.inl (0, 7), none), (.inl (0, 0), none), (.inl (0, 8), none), (.inl (0, 76), none)], ([(0, 36, 5), (0, 35, 1)], [], [([(4, 1), (5, -1), (2, -9)], 63)], [(0, [])])), [.inl 2, .inl 3, .inl 4, .inr (.inr (0, 36))], [([], 1), ([(5, -1)], 76), ([], 1), ([], 0), ([], 0)]), (22, ([some 0, none, some 2, some 3, some 4, none], [], [(.inr (some (.inl (false, 88))), none), (.inr (some (.inl (false, 61))), none), (.inl (0, 7), none), (.inl (1, 8), none), (.inl (1, 8), none), (.inl (0, 74), none)], ([(0, 36, 5), (0, 35, 1)], [], [([(4, 1), (3, -1)], 0), ([(4, 1), (5, -1), (2, -9)], 62)], [(0, [])])), [.inl 2, .inl 3, .inl 4, .inr (.inr (0, 36))], [([], 1), ([(5, -1)], 76), ([], 0), ([(3, -1)], 8), ([], 0)]), (144, ([some 0, none, some 2, none, none, none], [], [(.inr (some (.inl (false, 88))), none), (.inr (some (.inl (false, 61))), none), (.inl (0, 4), none), (.inl (2, 78), none)], ([(0, 36, 3), (0, 35, 1)], [], [([(2, 1), (3, -1)], 74)], [(0, [])])), [.inl 2, .inr (.inr (0, 36))], [([], 0), ([(2, -1)], 4), ([], 0), ([], 0), ([], 0)]), (0, aEn ag_MBwriteZ, [], [([], 2), ([], 0), ([], 0), ([], 0), ([], 0)])])
theorem ac_MBwriteZ_o : aOkc am_MBwriteZ.2.1 am_MBwriteZ.2.2.2.1 = true := by decide +kernel
theorem ac_MBwriteZ_0 : ((am_MBwriteZ.2.2.2.2.2.drop 0).take 1).all (aCk1 am_MBwriteZ 50) = true := by rw [fs_Ck1]; decide +kernel
theorem ac_MBwriteZ_1 : ((am_MBwriteZ.2.2.2.2.2.drop 1).take 1).all (aCk1 am_MBwriteZ 50) = true := by rw [fs_Ck1]; decide +kernel
theorem ac_MBwriteZ_2 : ((am_MBwriteZ.2.2.2.2.2.drop 2).take 1).all (aCk1 am_MBwriteZ 50) = true := by rw [fs_Ck1]; decide +kernel
theorem ac_MBwriteZ_3 : ((am_MBwriteZ.2.2.2.2.2.drop 3).take 1).all (aCk1 am_MBwriteZ 50) = true := by rw [fs_Ck1]; decide +kernel
theorem ac_MBwriteZ_4 : ((am_MBwriteZ.2.2.2.2.2.drop 4).take 1).all (aCk1 am_MBwriteZ 50) = true := by rw [fs_Ck1]; decide +kernel
theorem ac_MBwriteZ : aChk am_MBwriteZ 50 = true := aChk_1 ac_MBwriteZ_o (all_dr 0 1 1 rfl ac_MBwriteZ_0 (all_dr 1 1 2 rfl ac_MBwriteZ_1 (all_dr 2 1 3 rfl ac_MBwriteZ_2 (all_dr 3 1 4 rfl ac_MBwriteZ_3 (all_dr 4 1 5 rfl ac_MBwriteZ_4 (show (am_MBwriteZ.2.2.2.2.2.drop 5).all (aCk1 am_MBwriteZ 50) = true from rfl))))))
theorem ad_MBwriteZ : aGd lw_tbl ag_MBwriteZ := ⟨rfl, rfl, m_MB_write, i_MB_write, e_MB_write⟩
theorem ae_MBwriteZ (hJ : aJx K n fa_Pk JX) (hS : aShf F sh) (hD : aDp F K n fa_dep) (hD1 : aDp F K n ra_dep) (hD2 : aDp F K n rm_dep) (hh_rvKD : aGho F fa_T K n JX ag_rvKD) : aMe F l E jcl jtb lw_tbl fa_T K n JX ag_MBwriteZ := aMe_of (m := am_MBwriteZ) (f := 50) rfl rfl rfl rfl rfl (by decide) (fun _ _ => jtF_ok) lo_MB (fun q h => by cases h) (aAllc (fun G h => by obtain rfl := Option.some.inj h; exact ql_MB_270) (aAllc (fun G h => by obtain rfl := Option.some.inj h; exact ql_MB_311) (aAllc (fun G h => by obtain rfl := Option.some.inj h; exact ql_MB_315) (fun q h => by cases h)))) jC (aAllc ⟨ad_MBsayX, ae_MBsayX hJ hS hD hD1⟩ (aAllc ⟨ad_MBletterX, ae_MBletterX hJ hS hD hD1 hh_rvKD⟩ (aAllc ⟨ad_MBsayNumZ, ae_MBsayNumZ hJ hS hD hD1 hD2⟩ (fun G h => by cases h)))) (fun G h => by cases h) fa_tb hJ hS hD2 ao_MBwriteX ac_MBwriteZ (List.mem_of_getElem? (i := 4) rfl)
end FA
end
section
section FA
variable {l : Launch} {E : jE} {K : Nat → Nat} {n : Nat} {P : Type} {F : aFt P} {sh : P → List jv → P} {JX : (Nat → jcell) → Prop}
noncomputable def ak_MMtellX : List jI := [(.aload_n 0, 1, (0, 0, 0, 0, 0)), (.getfield 20, 3, (11, 5, 2307, 0, 0)), (.getfield 165, 3, (12, 5, 2019, 0, 0)), (.istore_n 1, 1, (1, 0, 0, 0, 0)), (.iconst 0, 1, (0, 0, 0, 0, 0)), (.istore_n 2, 1, (2, 0, 0, 0, 0)), (.aload_n 0, 1, (0, 0, 0, 0, 0)), (.getfield 20, 3, (11, 5, 2307, 0, 0)), (.getfield 226, 3, (12, 6, 2021, 0, 0)), (.istore_n 3, 1, (3, 0, 0, 0, 0)), (.iload_n 3, 1, (3, 0, 0, 0, 0)), (.ifCond .le 32, 3, (51, 0, 0, 0, 0)), (.aload_n 0, 1, (0, 0, 0, 0, 0)), (.getfield 39, 3, (11, 17, 2319, 0, 0)), (.iload_n 2, 1, (2, 0, 0, 0, 0)), (.iload_n 3, 1, (3, 0, 0, 0, 0)), (.iastore, 1, (0, 0, 0, 0, 0)), (.iinc 2 1, 3, (0, 0, 0, 1, 0)), (.aload_n 0, 1, (0, 0, 0, 0, 0)), (.getfield 20, 3, (11, 5, 2307, 0, 0)), (.getfield 307, 3, (12, 8, 2026, 0, 0)), (.sipush 301, 3, (0, 0, 0, 301, 0)), (.iload_n 1, 1, (1, 0, 0, 0, 0)), (.imul, 1, (0, 0, 0, 0, 0)), (.iload_n 3, 1, (3, 0, 0, 0, 0)), (.iadd, 1, (0, 0, 0, 0, 0)), (.iaload, 1, (0, 0, 0, 0, 0)), (.istore_n 3, 1, (3, 0, 0, 0, 0)), (.goto (-30), 3, (18, 0, 0, 0, 0)), (.iconst 0, 1, (0, 0, 0, 0, 0)), (.istore_n 3, 1, (3, 0, 0, 0, 0)), (.iload_n 3, 1, (3, 0, 0, 0, 0)), (.bipush 64, 2, (0, 0, 0, 64, 0)), (.if_icmp .ge 32, 3, (88, 0, 0, 0, 0)), (.aload_n 0, 1, (0, 0, 0, 0, 0)), (.getfield 27, 3, (11, 6, 2308, 0, 0)), (.getfield 343, 3, (13, 2, 2175, 0, 0)), (.iload_n 3, 1, (3, 0, 0, 0, 0)), (.aload_n 0, 1, (0, 0, 0, 0, 0)), (.getfield 20, 3, (11, 5, 2307, 0, 0)), (.getfield 366, 3, (12, 16, 2040, 0, 0)), (.bipush 64, 2, (0, 0, 0, 64, 0)), (.iload_n 1, 1, (1, 0, 0, 0, 0)), (.imul, 1, (0, 0, 0, 0, 0)), (.iload_n 3, 1, (3, 0, 0, 0, 0)), (.iadd, 1, (0, 0, 0, 0, 0)), (.iaload, 1, (0, 0, 0, 0, 0)), (.iastore, 1, (0, 0, 0, 0, 0)), (.iinc 3 1, 3, (0, 0, 0, 1, 0)), (.goto (-32), 3, (53, 0, 0, 0, 0)), (.aload_n 0, 1, (0, 0, 0, 0, 0)), (.getfield 27, 3, (11, 6, 2308, 0, 0)), (.aload_n 0, 1, (0, 0, 0, 0, 0)), (.getfield 20, 3, (11, 5, 2307, 0, 0)), (.getfield 369, 3, (12, 17, 2042, 0, 0)), (.iconst 5, 1, (0, 0, 0, 5, 0)), (.iload_n 1, 1, (1, 0, 0, 0, 0)), (.imul, 1, (0, 0, 0, 0, 0)), (.iaload, 1, (0, 0, 0, 0, 0)), (.putfield 344, 3, (13, 3, 2177, 0, 0)), (.aload_n 0, 1, (0, 0, 0, 0, 0)), (.getfield 27, 3, (11, 6, 2308, 0, 0)), (.aload_n 0, 1, (0, 0, 0, 0, 0)), (.getfield 20, 3, (11, 5, 2307, 0, 0)), (.getfield 369, 3, (12, 17, 2042, 0, 0)), (.iconst 5, 1, (0, 0, 0, 5, 0)), (.iload_n 1, 1, (1, 0, 0, 0, 0)), (.imul, 1, (0, 0, 0, 0, 0)), (.iconst 1, 1, (0, 0, 0, 1, 0)), (.iadd, 1, (0, 0, 0, 0, 0)), (.iaload, 1, (0, 0, 0, 0, 0)), (.putfield 348, 3, (13, 4, 2179, 0, 0)), (.aload_n 0, 1, (0, 0, 0, 0, 0)), (.getfield 27, 3, (11, 6, 2308, 0, 0)), (.aload_n 0, 1, (0, 0, 0, 0, 0)), (.getfield 20, 3, (11, 5, 2307, 0, 0)), (.getfield 369, 3, (12, 17, 2042, 0, 0)), (.iconst 5, 1, (0, 0, 0, 5, 0)), (.iload_n 1, 1, (1, 0, 0, 0, 0)), (.imul, 1, (0, 0, 0, 0, 0)), (.iconst 2, 1, (0, 0, 0, 2, 0)), (.iadd, 1, (0, 0, 0, 0, 0)), (.iaload, 1, (0, 0, 0, 0, 0)), (.putfield 352, 3, (13, 5, 2181, 0, 0)), (.aload_n 0, 1, (0, 0, 0, 0, 0)), (.getfield 27, 3, (11, 6, 2308, 0, 0)), (.aload_n 0, 1, (0, 0, 0, 0, 0)), (.getfield 20, 3, (11, 5, 2307, 0, 0)), (.getfield 369, 3, (12, 17, 2042, 0, 0)), (.iconst 5, 1, (0, 0, 0, 5, 0)), (.iload_n 1, 1, (1, 0, 0, 0, 0)), (.imul, 1, (0, 0, 0, 0, 0)), (.iconst 3, 1, (0, 0, 0, 3, 0)), (.iadd, 1, (0, 0, 0, 0, 0)), (.iaload, 1, (0, 0, 0, 0, 0)), (.putfield 356, 3, (13, 6, 2183, 0, 0)), (.aload_n 0, 1, (0, 0, 0, 0, 0)), (.getfield 27, 3, (11, 6, 2308, 0, 0)), (.aload_n 0, 1, (0, 0, 0, 0, 0)), (.getfield 20, 3, (11, 5, 2307, 0, 0)), (.getfield 369, 3, (12, 17, 2042, 0, 0)), (.iconst 5, 1, (0, 0, 0, 5, 0)), (.iload_n 1, 1, (1, 0, 0, 0, 0)), (.imul, 1, (0, 0, 0, 0, 0)), (.iconst 4, 1, (0, 0, 0, 4, 0)), (.iadd, 1, (0, 0, 0, 0, 0)), (.iaload, 1, (0, 0, 0, 0, 0)), (.putfield 360, 3, (13, 7, 2185, 0, 0)), (.aload_n 0, 1, (0, 0, 0, 0, 0)), (.getfield 27, 3, (11, 6, 2308, 0, 0)), (.iconst 0, 1, (0, 0, 0, 0, 0)), (.invokevirtual 372, 3, (1, 0, 2856, 0, 0)), (.iload_n 2, 1, (2, 0, 0, 0, 0)), (.iconst 1, 1, (0, 0, 0, 1, 0)), (.isub, 1, (0, 0, 0, 0, 0)), (.istore_n 3, 1, (3, 0, 0, 0, 0)), (.iload_n 3, 1, (3, 0, 0, 0, 0)), (.ifCond .lt 70, 3, (269, 0, 0, 0, 0)), (.aload_n 0, 1, (0, 0, 0, 0, 0)), (.getfield 27, 3, (11, 6, 2308, 0, 0)), (.aload_n 0, 1, (0, 0, 0, 0, 0)), (.getfield 27, 3, (11, 6, 2308, 0, 0)), (.getfield 360, 3, (13, 7, 2185, 0, 0)), (.aload_n 0, 1, (0, 0, 0, 0, 0)), (.getfield 27, 3, (11, 6, 2308, 0, 0)), (.getfield 344, 3, (13, 3, 2177, 0, 0)), (.iadd, 1, (0, 0, 0, 0, 0)), (.putfield 360, 3, (13, 7, 2185, 0, 0)), (.aload_n 0, 1, (0, 0, 0, 0, 0)), (.getfield 27, 3, (11, 6, 2308, 0, 0)), (.aload_n 0, 1, (0, 0, 0, 0, 0)), (.getfield 20, 3, (11, 5, 2307, 0, 0)), (.getfield 289, 3, (12, 9, 2028, 0, 0)), (.sipush 301, 3, (0, 0, 0, 301, 0)), (.iload_n 1, 1, (1, 0, 0, 0, 0)), (.imul, 1, (0, 0, 0, 0, 0)), (.aload_n 0, 1, (0, 0, 0, 0, 0)), (.getfield 39, 3, (11, 17, 2319, 0, 0)), (.iload_n 3, 1, (3, 0, 0, 0, 0)), (.iaload, 1, (0, 0, 0, 0, 0)), (.iadd, 1, (0, 0, 0, 0, 0)), (.iaload, 1, (0, 0, 0, 0, 0)), (.bipush 10, 2, (0, 0, 0, 10, 0)), (.invokevirtual 375, 3, (0, 0, 2860, 0, 0)), (.aload_n 0, 1, (0, 0, 0, 0, 0)), (.getfield 27, 3, (11, 6, 2308, 0, 0)), (.iload_n 2, 1, (2, 0, 0, 0, 0)), (.iload_n 3, 1, (3, 0, 0, 0, 0)), (.isub, 1, (0, 0, 0, 0, 0)), (.invokevirtual 372, 3, (1, 0, 2856, 0, 0)), (.iinc 3 (-1), 3, (0, 0, 0, (-1), 0)), (.goto (-68), 3, (198, 0, 0, 0, 0)), (.aload_n 0, 1, (0, 0, 0, 0, 0)), (.getfield 27, 3, (11, 6, 2308, 0, 0)), (.iload_n 2, 1, (2, 0, 0, 0, 0)), (.putfield 378, 3, (13, 8, 2187, 0, 0)), (.return_, 1, (0, 0, 0, 0, 0))]
theorem ao_MMtellX : jokLG jtF lk_MM "ChessHouseModel" jcl jtb 4 prog_15_method_45_code 0 ak_MMtellX = true := by decide +kernel
noncomputable def ag_MMtellX : aCon := (y_MM_tellBoard, false, 1, ([(.inr (some (.inl (false, 55))), none), (.inr (some (.inl (false, 62))), none), (.inr (some (.inl (false, 88))), none), (.inl (0, 1), none), (.inl (0, 300), none)], ([(0, 5, 1), (0, 6, 2), (1, 5, 3), (1, 6, 4)], [], [], [(5873, [1])])), (none, [.inl (0, 300), .inl (0, 1298)], ([(2, 8, 5), (2, 7, 6)], [], [], [(5873, [1]), (6340, [2, 1, 3, 4]), (2738, [2, 5])]), [[]]), ([(88, 3), (88, 4), (88, 5), (88, 6), (88, 7), (88, 8)], [(60, ([], 0)), (90, ([], 0)), (91, ([], 0)), (92, ([], 0)), (93, ([], 0)), (94, ([], 0)), (95, ([], 0)), (96, ([], 0)), (97, ([], 0)), (98, ([], 0)), (99, ([], 0)), (100, ([], 0)), (101, ([], 0)), (102, ([], 0))]), { frames := 3, cells := 0, slots := 0, locals := 74 })
noncomputable def am_MMtellX : aMi := (("ChessHouseModel", lw_tbl, jcl, none, [(372, 2856, 1), (375, 2860, 0)], [], [], [ag_rnB, ag_riP0, ag_riPs, ag_riPn, ag_riPe, ag_riM0, ag_riMs, ag_riMn, ag_rzR0, ag_rzR1, ag_rzR2, ag_rzRn, ag_riS0, ag_riG0, ag_rvTg1, ag_riS1, ag_riG2, ag_rvCLX, ag_riG, ag_riT1, ag_rvPF, ag_riSd, ag_riT2, ag_riT3, ag_riG3, ag_riT4, ag_riG4, ag_riE, ag_riG5, ag_riN], [(0, 0, [], [1, 3, 4]), (9, 1, [.inr (.inl 0)], [0, 1, 3, 4, 5]), (28, 2, [.inr (.inl 2), .inr (.inl 1), .inr (.inl 0)], [0, 1, 5, 3, 4, 6, 7]), (47, 3, [.inr (.inl 100940), .inl 3, .inl 2, .inr (.inl 0)], [0, 1, 3, 4, 5, 6, 7, 8]), (52, 4, [.inl 2, .inl 3], [0, 1, 3, 4, 5, 6]), (52, 5, [.inr (.inl 0)], [2, 1, 3, 5]), (81, 6, [.inr (.inl 2), .inr (.inl 1), .inr (.inl 0)], [2, 1, 5, 3, 6, 7]), (85, 7, [.inr (.inl 101675), .inl 3], [2, 1, 3, 5, 6]), (103, 8, [.inr (.inr (1, 17)), .inr (.inl 0)], [1, 5, 3, 4, 6]), (123, 9, [.inr (.inr (1, 17)), .inr (.inl 0)], [1, 5, 3, 4, 6]), (143, 10, [.inr (.inr (1, 17)), .inr (.inl 0)], [1, 5, 3, 4, 6]), (183, 11, [.inr (.inr (1, 17)), .inr (.inl 0)], [1, 5, 3, 4, 6]), (191, 100012, [.inl 2, .inl 3, .inr (.inr (2, 3)), .inr (.inr (2, 4)), .inr (.inr (2, 5))], [0, 1, 2, 3, 4, 5, 6, 7, 8, 9]), (191, 13, [.inr (.inl 0)], [2, 5]), (191, 14, [.inr (.inl 0)], [5]), (197, 15, [.inl 2, .inr (.inl 0)], [0, 1, 2, 3, 4, 5, 6]), (197, 16, [.inl 2, .inr (.inl 0), .inr (.inl 92920)], [2, 5, 6, 7]), (246, 17, [.inr (.inl 0), .inr (.inl 0)], [5, 6]), (248, 18, [.inl 2, .inl 3, .inr (.inl 35592), .inr (.inl 0)], [0, 1, 2, 3, 4, 5, 6, 7, 8]), (248, 100019, [.inl 2, .inl 3, .inr (.inl 35592), .inr (.inl 0)], [0, 1, 2, 3, 4, 5, 6, 7, 8]), (248, 20, [.inr (.inr (2, 3)), .inr (.inr (2, 4)), .inr (.inr (2, 5))], [2, 5, 6, 7]), (253, 21, [.inr (.inl 7416), .inr (.inl 18168), .inr (.inr (2, 3))], [2, 5, 6, 7]), (253, 22, [.inl 2, .inl 3, .inr (.inl 35592), .inr (.inl 7416)], [0, 1, 2, 3, 4, 5, 6, 7, 8]), (253, 100023, [.inl 2, .inl 3], [0, 1, 2, 3, 4, 5, 6]), (260, 24, [.inl 2, .inl 3, .inr (.inl 0)], [2, 5, 6, 7]), (260, 14, [.inr (.inl 0)], [5]), (266, 25, [.inl 2, .inr (.inl 120397), .inl 3], [0, 1, 2, 3, 4, 5, 6, 7]), (266, 26, [.inl 2, .inl 3, .inr (.inl 92920)], [2, 5, 6, 7]), (269, 27, [.inl 2, .inl 3], [0, 1, 2, 3, 4, 5, 6]), (269, 28, [.inl 2, .inl 3], [2, 5, 6]), (269, 29, [.inr (.inr (2, 7))], [2, 5])]), (fa_T, fa_TB, fa_Pk, [(88, 3), (88, 4), (88, 5), (88, 6), (88, 7), (88, 8)], [(60, ([], 0)), (90, ([], 0)), (91, ([], 0)), (92, ([], 0)), (93, ([], 0)), (94, ([], 0)), (95, ([], 0)), (96, ([], 0)), (97, ([], 0)), (98, ([], 0)), (99, ([], 0)), (100, ([], 0)), (101, ([], 0)), (102, ([], 0))], rm_dep, 5), [ag_MBmakeX, ag_MBenterX], ag_MMtellX, ak_MMtellX, [(18, ([some 0, some 3, some 5, some 6], [], [(.inr (some (.inl (false, 55))), none), (.inr (some (.inl (false, 62))), none), (.inr (some (.inl (false, 88))), none), (.inl (0, 1), none), (.inl (0, 300), none), (.inl (0, 300), none), (.inl (0, 300), none), (.inl (0, 300), none), (.inl (-2147483648, 2147483647), none), (.inl (0, 1), none)], ([(0, 5, 1), (0, 6, 2), (1, 5, 3), (1, 6, 4), (2, 8, 7), (2, 7, 8), (2, 3, 9)], [], [([(4, 1), (5, -1), (6, -1)], 0)], [(6230, [0, 1, 3, 4, 5, 6]), (3859, [1, 3, 4]), (0, []), (5873, [1])])), [.inl 2, .inl 3, .inr (.inr (2, 8)), .inr (.inr (2, 7)), .inr (.inr (2, 3))], [([], 2), ([(6, 1)], 1), ([], 0)]), (53, ([some 0, some 3, some 5, some 6], [], [(.inr (some (.inl (false, 55))), none), (.inr (some (.inl (false, 62))), none), (.inr (some (.inl (false, 88))), none), (.inl (0, 1), none), (.inl (0, 300), none), (.inl (0, 300), none), (.inl (0, 64), none), (.inl (0, 300), none), (.inl (-2147483648, 2147483647), none), (.inl (0, 1), none)], ([(0, 5, 1), (0, 6, 2), (1, 5, 3), (1, 6, 4), (2, 8, 7), (2, 7, 8), (2, 3, 9)], [], [([(4, 1), (5, -1)], 0)], [(6276, [2, 1, 3, 6]), (6261, [0, 1, 3, 4, 5]), (3859, [1, 3, 4]), (0, []), (5873, [1])])), [.inl 2, .inl 3, .inr (.inr (2, 8)), .inr (.inr (2, 7)), .inr (.inr (2, 3))], [([], 1), ([(6, -1)], 64), ([], 0)]), (198, ([some 0, some 3, some 5, some 6], [], [(.inr (some (.inl (false, 55))), none), (.inr (some (.inl (false, 62))), none), (.inr (some (.inl (false, 88))), none), (.inl (0, 1), none), (.inl (0, 300), none), (.inl (0, 300), none), (.inl (-1, 300), none), (.inl (0, 300), none), (.inl (0, 2407), none), (.inl (-2147483648, 2147483647), none), (.inl (-1, 63), none), (.inl (0, 15), none), (.inl (0, 1), none)], ([(0, 5, 1), (0, 6, 2), (1, 5, 3), (1, 6, 4), (2, 8, 7), (2, 7, 8), (2, 6, 9), (2, 5, 10), (2, 4, 11), (2, 3, 12)], [], [([(6, -1), (12, -1), (8, -2), (5, 1)], 1998), ([(6, -1), (5, 1)], -1)], [(6355, [2, 5, 6]), (6311, [0, 1, 2, 3, 4, 5, 6]), (353, [2]), (384, []), (6261, [0, 1, 3, 4, 5]), (3859, [1, 3, 4]), (5873, [1])])), [.inl 2, .inl 3, .inr (.inr (2, 8)), .inr (.inr (2, 7)), .inr (.inr (2, 6)), .inr (.inr (2, 5)), .inr (.inr (2, 4)), .inr (.inr (2, 3))], [([], 0), ([(6, 1)], 1), ([], 0)]), (0, aEn ag_MMtellX, [], [([], 3), ([], 0), ([], 0)])])
theorem ac_MMtellX_o : aOkc am_MMtellX.2.1 am_MMtellX.2.2.2.1 = true := by decide +kernel
theorem ac_MMtellX_0 : ((am_MMtellX.2.2.2.2.2.drop 0).take 1).all (aCk1 am_MMtellX 71) = true := by rw [fs_Ck1]; decide +kernel
theorem ac_MMtellX_1 : ((am_MMtellX.2.2.2.2.2.drop 1).take 1).all (aCk1 am_MMtellX 71) = true := by rw [fs_Ck1]; decide +kernel
theorem ac_MMtellX_2 : ((am_MMtellX.2.2.2.2.2.drop 2).take 1).all (aCk1 am_MMtellX 71) = true := by rw [fs_Ck1]; decide +kernel
theorem ac_MMtellX_3 : ((am_MMtellX.2.2.2.2.2.drop 3).take 1).all (aCk1 am_MMtellX 71) = true := by rw [fs_Ck1]; decide +kernel
theorem ac_MMtellX : aChk am_MMtellX 71 = true := aChk_1 ac_MMtellX_o (all_dr 0 1 1 rfl ac_MMtellX_0 (all_dr 1 1 2 rfl ac_MMtellX_1 (all_dr 2 1 3 rfl ac_MMtellX_2 (all_dr 3 1 4 rfl ac_MMtellX_3 (show (am_MMtellX.2.2.2.2.2.drop 4).all (aCk1 am_MMtellX 71) = true from rfl)))))
theorem ad_MMtellX : aGd lw_tbl ag_MMtellX := ⟨rfl, rfl, m_MM_tellBoard, i_MM_tellBoard, e_MM_tellBoard⟩
theorem ae_MMtellX (hJ : aJx K n fa_Pk JX) (hS : aShf F sh) (hD : aDp F K n fa_dep) (hD1 : aDp F K n ra_dep) (hD2 : aDp F K n rm_dep) (hh_riE : aGho F fa_T K n JX ag_riE) (hh_riG : aGho F fa_T K n JX ag_riG) (hh_riG0 : aGho F fa_T K n JX ag_riG0) (hh_riG2 : aGho F fa_T K n JX ag_riG2) (hh_riG3 : aGho F fa_T K n JX ag_riG3) (hh_riG4 : aGho F fa_T K n JX ag_riG4) (hh_riG5 : aGho F fa_T K n JX ag_riG5) (hh_riM0 : aGho F fa_T K n JX ag_riM0) (hh_riMn : aGho F fa_T K n JX ag_riMn) (hh_riMs : aGho F fa_T K n JX ag_riMs) (hh_riN : aGho F fa_T K n JX ag_riN) (hh_riP0 : aGho F fa_T K n JX ag_riP0) (hh_riPe : aGho F fa_T K n JX ag_riPe) (hh_riPn : aGho F fa_T K n JX ag_riPn) (hh_riPs : aGho F fa_T K n JX ag_riPs) (hh_riS0 : aGho F fa_T K n JX ag_riS0) (hh_riS1 : aGho F fa_T K n JX ag_riS1) (hh_riSd : aGho F fa_T K n JX ag_riSd) (hh_riT1 : aGho F fa_T K n JX ag_riT1) (hh_riT2 : aGho F fa_T K n JX ag_riT2) (hh_riT3 : aGho F fa_T K n JX ag_riT3) (hh_riT4 : aGho F fa_T K n JX ag_riT4) (hh_rnB : aGho F fa_T K n JX ag_rnB) (hh_rvCASd : aGho F fa_T K n JX ag_rvCASd) (hh_rvCASu : aGho F fa_T K n JX ag_rvCASu) (hh_rvCAq : aGho F fa_T K n JX ag_rvCAq) (hh_rvCLX : aGho F fa_T K n JX ag_rvCLX) (hh_rvDM : aGho F fa_T K n JX ag_rvDM) (hh_rvEN0 : aGho F fa_T K n JX ag_rvEN0) (hh_rvENn : aGho F fa_T K n JX ag_rvENn) (hh_rvENs : aGho F fa_T K n JX ag_rvENs) (hh_rvFMA : aGho F fa_T K n JX ag_rvFMA) (hh_rvHM0 : aGho F fa_T K n JX ag_rvHM0) (hh_rvHM1 : aGho F fa_T K n JX ag_rvHM1) (hh_rvHMa : aGho F fa_T K n JX ag_rvHMa) (hh_rvHMb : aGho F fa_T K n JX ag_rvHMb) (hh_rvK1d : aGho F fa_T K n JX ag_rvK1d) (hh_rvK1u : aGho F fa_T K n JX ag_rvK1u) (hh_rvK2d : aGho F fa_T K n JX ag_rvK2d) (hh_rvK2u : aGho F fa_T K n JX ag_rvK2u) (hh_rvKD : aGho F fa_T K n JX ag_rvKD) (hh_rvLO0 : aGho F fa_T K n JX ag_rvLO0) (hh_rvLO1 : aGho F fa_T K n JX ag_rvLO1) (hh_rvLO10 : aGho F fa_T K n JX ag_rvLO10) (hh_rvLO2 : aGho F fa_T K n JX ag_rvLO2) (hh_rvLO3 : aGho F fa_T K n JX ag_rvLO3) (hh_rvLO4 : aGho F fa_T K n JX ag_rvLO4) (hh_rvLO5 : aGho F fa_T K n JX ag_rvLO5) (hh_rvLO6 : aGho F fa_T K n JX ag_rvLO6) (hh_rvLO7 : aGho F fa_T K n JX ag_rvLO7) (hh_rvLO8 : aGho F fa_T K n JX ag_rvLO8) (hh_rvLO9 : aGho F fa_T K n JX ag_rvLO9) (hh_rvNH1 : aGho F fa_T K n JX ag_rvNH1) (hh_rvNPN0 : aGho F fa_T K n JX ag_rvNPN0) (hh_rvNPN1 : aGho F fa_T K n JX ag_rvNPN1) (hh_rvNPa : aGho F fa_T K n JX ag_rvNPa) (hh_rvNPba : aGho F fa_T K n JX ag_rvNPba) (hh_rvNPbb : aGho F fa_T K n JX ag_rvNPbb) (hh_rvNPbc : aGho F fa_T K n JX ag_rvNPbc) (hh_rvNPnd : aGho F fa_T K n JX ag_rvNPnd) (hh_rvNPnu : aGho F fa_T K n JX ag_rvNPnu) (hh_rvNPyld : aGho F fa_T K n JX ag_rvNPyld) (hh_rvNPylu : aGho F fa_T K n JX ag_rvNPylu) (hh_rvNPyrd : aGho F fa_T K n JX ag_rvNPyrd) (hh_rvNPyru : aGho F fa_T K n JX ag_rvNPyru) (hh_rvON1 : aGho F fa_T K n JX ag_rvON1) (hh_rvONa : aGho F fa_T K n JX ag_rvONa) (hh_rvONb : aGho F fa_T K n JX ag_rvONb) (hh_rvONc : aGho F fa_T K n JX ag_rvONc) (hh_rvONd : aGho F fa_T K n JX ag_rvONd) (hh_rvPF : aGho F fa_T K n JX ag_rvPF) (hh_rvPGe : aGho F fa_T K n JX ag_rvPGe) (hh_rvPWN : aGho F fa_T K n JX ag_rvPWN) (hh_rvQID : aGho F fa_T K n JX ag_rvQID) (hh_rvRT1 : aGho F fa_T K n JX ag_rvRT1) (hh_rvRT2 : aGho F fa_T K n JX ag_rvRT2) (hh_rvRX : aGho F fa_T K n JX ag_rvRX) (hh_rvS1 : aGho F fa_T K n JX ag_rvS1) (hh_rvS2 : aGho F fa_T K n JX ag_rvS2) (hh_rvS3a : aGho F fa_T K n JX ag_rvS3a) (hh_rvS3b : aGho F fa_T K n JX ag_rvS3b) (hh_rvS3k : aGho F fa_T K n JX ag_rvS3k) (hh_rvS4a : aGho F fa_T K n JX ag_rvS4a) (hh_rvS4b0 : aGho F fa_T K n JX ag_rvS4b0) (hh_rvS4b1 : aGho F fa_T K n JX ag_rvS4b1) (hh_rvS4ka : aGho F fa_T K n JX ag_rvS4ka) (hh_rvS4kb : aGho F fa_T K n JX ag_rvS4kb) (hh_rvS4kc : aGho F fa_T K n JX ag_rvS4kc) (hh_rvST0 : aGho F fa_T K n JX ag_rvST0) (hh_rvST1 : aGho F fa_T K n JX ag_rvST1) (hh_rvTRI : aGho F fa_T K n JX ag_rvTRI) (hh_rvTg1 : aGho F fa_T K n JX ag_rvTg1) (hh_rvUD : aGho F fa_T K n JX ag_rvUD) (hh_rvWHa : aGho F fa_T K n JX ag_rvWHa) (hh_rvWHb0 : aGho F fa_T K n JX ag_rvWHb0) (hh_rvWHb1 : aGho F fa_T K n JX ag_rvWHb1) (hh_rvWHcd : aGho F fa_T K n JX ag_rvWHcd) (hh_rvWHcu : aGho F fa_T K n JX ag_rvWHcu) (hh_rzR0 : aGho F fa_T K n JX ag_rzR0) (hh_rzR1 : aGho F fa_T K n JX ag_rzR1) (hh_rzR2 : aGho F fa_T K n JX ag_rzR2) (hh_rzRn : aGho F fa_T K n JX ag_rzRn) : aMe F l E jcl jtb lw_tbl fa_T K n JX ag_MMtellX := aMe_of (m := am_MMtellX) (f := 71) rfl rfl rfl rfl rfl (by decide) (fun _ _ => jtF_ok) lo_MM (fun q h => by cases h) (aAllc (fun G h => by obtain rfl := Option.some.inj h; exact ql_MM_372) (aAllc (fun G h => by obtain rfl := Option.some.inj h; exact ql_MM_375) (fun q h => by cases h))) jC (aAllc ⟨ad_MBmakeX, ae_MBmakeX hJ hS hD hD1 hh_rvCASd hh_rvCASu hh_rvCAq hh_rvCLX hh_rvDM hh_rvFMA hh_rvHM0 hh_rvHM1 hh_rvHMa hh_rvHMb hh_rvK1d hh_rvK1u hh_rvK2d hh_rvK2u hh_rvKD hh_rvLO0 hh_rvLO1 hh_rvLO10 hh_rvLO2 hh_rvLO3 hh_rvLO4 hh_rvLO5 hh_rvLO6 hh_rvLO7 hh_rvLO8 hh_rvLO9 hh_rvNH1 hh_rvNPN0 hh_rvNPN1 hh_rvNPa hh_rvNPba hh_rvNPbb hh_rvNPbc hh_rvNPnd hh_rvNPnu hh_rvNPyld hh_rvNPylu hh_rvNPyrd hh_rvNPyru hh_rvON1 hh_rvONa hh_rvONb hh_rvONc hh_rvONd hh_rvPF hh_rvPWN hh_rvQID hh_rvRT1 hh_rvRT2 hh_rvRX hh_rvS1 hh_rvS2 hh_rvS3a hh_rvS3b hh_rvS3k hh_rvS4a hh_rvS4b0 hh_rvS4b1 hh_rvS4ka hh_rvS4kb hh_rvS4kc hh_rvST0 hh_rvST1 hh_rvTRI hh_rvUD hh_rvWHa hh_rvWHb0 hh_rvWHb1 hh_rvWHcd hh_rvWHcu⟩ (aAllc ⟨ad_MBenterX, ae_MBenterX hJ hS hD hD1 hh_rvEN0 hh_rvENn hh_rvENs hh_rvPGe⟩ (fun G h => by cases h))) (aAllc hh_rnB (aAllc hh_riP0 (aAllc hh_riPs (aAllc hh_riPn (aAllc hh_riPe (aAllc hh_riM0 (aAllc hh_riMs (aAllc hh_riMn (aAllc hh_rzR0 (aAllc hh_rzR1 (aAllc hh_rzR2 (aAllc hh_rzRn (aAllc hh_riS0 (aAllc hh_riG0 (aAllc hh_rvTg1 (aAllc hh_riS1 (aAllc hh_riG2 (aAllc hh_rvCLX (aAllc hh_riG (aAllc hh_riT1 (aAllc hh_rvPF (aAllc hh_riSd (aAllc hh_riT2 (aAllc hh_riT3 (aAllc hh_riG3 (aAllc hh_riT4 (aAllc hh_riG4 (aAllc hh_riE (aAllc hh_riG5 (aAllc hh_riN (fun G h => by cases h))))))))))))))))))))))))))))))) fa_tb hJ hS hD2 ao_MMtellX ac_MMtellX (List.mem_of_getElem? (i := 3) rfl)
end FA
end
section
/-! the reference: uI -/
noncomputable def y_MM_state : jY := (⟨"ChessHouseModel", "state", "()V"⟩, prog_15_method_49_code, 3, none)
theorem m_MM_state : jmth lw_tbl y_MM_state 0 := ⟨jTA_in (wi := 2888) (jtF_ok rfl) rfl, jTA_in (wi := 314) (jtF_ok rfl) rfl, by decide, by decide, by decide +kernel⟩
theorem i_MM_state : Jvm.Cond.instanceMethod y_MM_state.1 ∈ jTA lw_tbl := jTA_in (wi := 2887) (jtF_ok rfl) rfl
theorem e_MM_state : Jvm.Cond.selects y_MM_state.1.cls y_MM_state.1 y_MM_state.1 ∈ jTA lw_tbl := jTA_in (wi := 230) (jtF_ok rfl) rfl
noncomputable def y_MM_isTooMuch : jY := (⟨"ChessHouseModel", "isTooMuch", "(IJ)Z"⟩, prog_15_method_48_code, 7, (some .boolean))
theorem m_MM_isTooMuch : jmth lw_tbl y_MM_isTooMuch 2 := ⟨jTA_in (wi := 2955) (jtF_ok rfl) rfl, jTA_in (wi := 314) (jtF_ok rfl) rfl, by decide, by decide, by decide +kernel⟩
theorem i_MM_isTooMuch : Jvm.Cond.instanceMethod y_MM_isTooMuch.1 ∈ jTA lw_tbl := jTA_in (wi := 2954) (jtF_ok rfl) rfl
theorem e_MM_isTooMuch : Jvm.Cond.selects y_MM_isTooMuch.1.cls y_MM_isTooMuch.1 y_MM_isTooMuch.1 ∈ jTA lw_tbl := jTA_in (wi := 245) (jtF_ok rfl) rfl
noncomputable def y_MM_sayLine : jY := (⟨"ChessHouseModel", "sayLine", "([II)V"⟩, prog_15_method_50_code, 4, none)
theorem m_MM_sayLine : jmth lw_tbl y_MM_sayLine 2 := ⟨jTA_in (wi := 3030) (jtF_ok rfl) rfl, jTA_in (wi := 314) (jtF_ok rfl) rfl, by decide, by decide, by decide +kernel⟩
theorem i_MM_sayLine : Jvm.Cond.instanceMethod y_MM_sayLine.1 ∈ jTA lw_tbl := jTA_in (wi := 3029) (jtF_ok rfl) rfl
theorem e_MM_sayLine : Jvm.Cond.selects y_MM_sayLine.1.cls y_MM_sayLine.1 y_MM_sayLine.1 ∈ jTA lw_tbl := jTA_in (wi := 261) (jtF_ok rfl) rfl
noncomputable def y_MM_think : jY := (⟨"ChessHouseModel", "think", "(IZ)V"⟩, prog_15_method_51_code, 3, none)
theorem m_MM_think : jmth lw_tbl y_MM_think 2 := ⟨jTA_in (wi := 2986) (jtF_ok rfl) rfl, jTA_in (wi := 314) (jtF_ok rfl) rfl, by decide, by decide, by decide +kernel⟩
theorem i_MM_think : Jvm.Cond.instanceMethod y_MM_think.1 ∈ jTA lw_tbl := jTA_in (wi := 2985) (jtF_ok rfl) rfl
theorem e_MM_think : Jvm.Cond.selects y_MM_think.1.cls y_MM_think.1 y_MM_think.1 ∈ jTA lw_tbl := jTA_in (wi := 251) (jtF_ok rfl) rfl
noncomputable def y_MM_keys : jY := (⟨"ChessHouseModel", "keys", "(III)V"⟩, prog_15_method_56_code, 5, none)
theorem m_MM_keys : jmth lw_tbl y_MM_keys 3 := ⟨jTA_in (wi := 3235) (jtF_ok rfl) rfl, jTA_in (wi := 314) (jtF_ok rfl) rfl, by decide, by decide, by decide +kernel⟩
theorem i_MM_keys : Jvm.Cond.instanceMethod y_MM_keys.1 ∈ jTA lw_tbl := jTA_in (wi := 3234) (jtF_ok rfl) rfl
theorem e_MM_keys : Jvm.Cond.selects y_MM_keys.1.cls y_MM_keys.1 y_MM_keys.1 ∈ jTA lw_tbl := jTA_in (wi := 289) (jtF_ok rfl) rfl
noncomputable def y_MM_least : jY := (⟨"ChessHouseModel", "least", "(III)V"⟩, prog_15_method_57_code, 6, none)
theorem m_MM_least : jmth lw_tbl y_MM_least 3 := ⟨jTA_in (wi := 3263) (jtF_ok rfl) rfl, jTA_in (wi := 314) (jtF_ok rfl) rfl, by decide, by decide, by decide +kernel⟩
theorem i_MM_least : Jvm.Cond.instanceMethod y_MM_least.1 ∈ jTA lw_tbl := jTA_in (wi := 3262) (jtF_ok rfl) rfl
theorem e_MM_least : Jvm.Cond.selects y_MM_least.1.cls y_MM_least.1 y_MM_least.1 ∈ jTA lw_tbl := jTA_in (wi := 295) (jtF_ok rfl) rfl
noncomputable def y_MM_test : jY := (⟨"ChessHouseModel", "test", "(II)V"⟩, prog_15_method_52_code, 4, none)
theorem m_MM_test : jmth lw_tbl y_MM_test 2 := ⟨jTA_in (wi := 3038) (jtF_ok rfl) rfl, jTA_in (wi := 314) (jtF_ok rfl) rfl, by decide, by decide, by decide +kernel⟩
theorem i_MM_test : Jvm.Cond.instanceMethod y_MM_test.1 ∈ jTA lw_tbl := jTA_in (wi := 3037) (jtF_ok rfl) rfl
theorem e_MM_test : Jvm.Cond.selects y_MM_test.1.cls y_MM_test.1 y_MM_test.1 ∈ jTA lw_tbl := jTA_in (wi := 262) (jtF_ok rfl) rfl
noncomputable def y_MM_refute : jY := (⟨"ChessHouseModel", "refute", "(III)V"⟩, prog_15_method_58_code, 6, none)
theorem m_MM_refute : jmth lw_tbl y_MM_refute 3 := ⟨jTA_in (wi := 3269) (jtF_ok rfl) rfl, jTA_in (wi := 314) (jtF_ok rfl) rfl, by decide, by decide, by decide +kernel⟩
theorem i_MM_refute : Jvm.Cond.instanceMethod y_MM_refute.1 ∈ jTA lw_tbl := jTA_in (wi := 3268) (jtF_ok rfl) rfl
theorem e_MM_refute : Jvm.Cond.selects y_MM_refute.1.cls y_MM_refute.1 y_MM_refute.1 ∈ jTA lw_tbl := jTA_in (wi := 296) (jtF_ok rfl) rfl
noncomputable def ag_riO : aCon := (y_BO_inCheck, false, 4, ([(.inr (some (.inl (false, 88))), none), (.inr (some (.inl (false, 62))), none), (.inl (0, 1), none), (.inl (0, 300), none)], ([(1, 5, 2), (1, 6, 3)], [], [], [(5873, [1]), (6340, [0, 1, 2, 3])])), (none, [], ([], [], [], [(6401, [1]), (3521, [1]), (7395, [1, 2, 3]), (7409, [1]), (384, []), (3859, [1, 2, 3]), (353, [0])]), [[]]), ([(0, 0)], []), { frames := 0, cells := 0, slots := 0, locals := 0 })
noncomputable def ag_riG6 : aCon := (y_BO_inCheck, false, 2, ([(.inr (some (.inl (false, 88))), none), (.inl (0, 304), none)], ([], [], [], [(2738, [0, 1])])), (none, [], ([], [], [], [(2722, [0, 1])]), [[]]), ([], []), { frames := 0, cells := 0, slots := 0, locals := 0 })
noncomputable def ag_riL0 : aCon := (y_BO_inCheck, false, 5, ([(.inr (some (.inl (false, 88))), none), (.inr (some (.inl (false, 105))), none), (.inl (1, 4), none), (.inl (0, 0), none), (.inl (0, 24575), none)], ([], [(1, ([], 0), 4)], [([(2, 1)], -1)], [(1538, [1, 2])])), (none, [], ([], [], [], [(401, [4]), (384, [0, 4]), (2946, [1, 4])]), [[]]), ([], []), { frames := 0, cells := 0, slots := 0, locals := 0 })
noncomputable def ag_riL1 : aCon := (y_BO_inCheck, false, 6, ([(.inr (some (.inl (false, 88))), none), (.inr (some (.inl (false, 105))), none), (.inl (1, 4), none), (.inl (1, 1), none), (.inl (0, 24575), none), (.inl (0, 24575), none)], ([], [(1, ([], 1), 5)], [([(2, 1)], -2)], [(1538, [1, 2]), (2946, [1, 4])])), (none, [], ([], [], [], [(401, [5, 0, 4]), (384, [0, 5, 0, 4]), (2962, [1, 5])]), [[]]), ([], []), { frames := 0, cells := 0, slots := 0, locals := 0 })
noncomputable def ag_riL2 : aCon := (y_BO_inCheck, false, 7, ([(.inr (some (.inl (false, 88))), none), (.inr (some (.inl (false, 105))), none), (.inl (1, 4), none), (.inl (2, 2), none), (.inl (0, 24575), none), (.inl (0, 24575), none), (.inl (0, 24575), none)], ([], [(1, ([], 2), 6)], [([(2, 1)], -3)], [(1538, [1, 2]), (2946, [1, 4]), (2962, [1, 5])])), (none, [], ([], [], [], [(401, [6, 0, 5, 0, 4]), (384, [0, 6, 0, 5, 0, 4]), (2978, [1, 6])]), [[]]), ([], []), { frames := 0, cells := 0, slots := 0, locals := 0 })
noncomputable def ag_riL3 : aCon := (y_BO_inCheck, false, 8, ([(.inr (some (.inl (false, 88))), none), (.inr (some (.inl (false, 105))), none), (.inl (1, 4), none), (.inl (3, 3), none), (.inl (0, 24575), none), (.inl (0, 24575), none), (.inl (0, 24575), none), (.inl (0, 24575), none)], ([], [(1, ([], 3), 7)], [([(2, 1)], -4)], [(1538, [1, 2]), (2946, [1, 4]), (2962, [1, 5]), (2978, [1, 6])])), (none, [], ([], [], [], [(401, [7, 0, 6, 0, 5, 0, 4]), (384, [0, 7, 0, 6, 0, 5, 0, 4]), (2994, [1, 7])]), [[]]), ([], []), { frames := 0, cells := 0, slots := 0, locals := 0 })
noncomputable def ag_riRC0 : aCon := (y_BO_inCheck, false, 4, ([(.inr (some (.inl (false, 105))), none), (.inl (0, 0), none), (.inl (0, 24575), none), (.inl (0, 24575), none)], ([], [(0, ([(1, 1)], 0), 2)], [], [(2946, [0, 3])])), (none, [], ([], [], [([(2, 1), (3, -1)], 0), ([(2, -1), (3, 1)], 0)], []), [[]]), ([], []), { frames := 0, cells := 0, slots := 0, locals := 0 })
noncomputable def ag_riRC1 : aCon := (y_BO_inCheck, false, 4, ([(.inr (some (.inl (false, 105))), none), (.inl (1, 1), none), (.inl (0, 24575), none), (.inl (0, 24575), none)], ([], [(0, ([(1, 1)], 0), 2)], [], [(2962, [0, 3])])), (none, [], ([], [], [([(2, 1), (3, -1)], 0), ([(2, -1), (3, 1)], 0)], []), [[]]), ([], []), { frames := 0, cells := 0, slots := 0, locals := 0 })
noncomputable def ag_riRC2 : aCon := (y_BO_inCheck, false, 4, ([(.inr (some (.inl (false, 105))), none), (.inl (2, 2), none), (.inl (0, 24575), none), (.inl (0, 24575), none)], ([], [(0, ([(1, 1)], 0), 2)], [], [(2978, [0, 3])])), (none, [], ([], [], [([(2, 1), (3, -1)], 0), ([(2, -1), (3, 1)], 0)], []), [[]]), ([], []), { frames := 0, cells := 0, slots := 0, locals := 0 })
noncomputable def ag_riRC3 : aCon := (y_BO_inCheck, false, 4, ([(.inr (some (.inl (false, 105))), none), (.inl (3, 3), none), (.inl (0, 24575), none), (.inl (0, 24575), none)], ([], [(0, ([(1, 1)], 0), 2)], [], [(2994, [0, 3])])), (none, [], ([], [], [([(2, 1), (3, -1)], 0), ([(2, -1), (3, 1)], 0)], []), [[]]), ([], []), { frames := 0, cells := 0, slots := 0, locals := 0 })
noncomputable def ag_riH : aCon := (y_BO_inCheck, false, 2, ([(.inr (some (.inl (false, 62))), none), (.inl (1, 2048), none)], ([(0, 33, 1)], [], [], [(7409, [0]), (384, [])])), (none, [], ([], [], [], [(1520, [])]), [[]]), ([], []), { frames := 0, cells := 0, slots := 0, locals := 0 })
noncomputable def ag_riU : aCon := (y_BO_inCheck, false, 3, ([(.inr (some (.inl (false, 88))), none), (.inr (some (.inl (false, 62))), none), (.inl (0, 24575), none)], ([], [], [], [(5490, [1, 2]), (7409, [1]), (353, [0])])), (none, [], ([], [], [], [(401, [2]), (384, [0, 2])]), [[]]), ([], []), { frames := 0, cells := 0, slots := 0, locals := 0 })
end
section
/-! the reference: rules of uI -/
theorem rSh_ra {p : rP} {a b : Nat} {r : List jv} : rSh rS1 p (rR a :: r) = rSh rS1 p (rR b :: r) := by
  show rS1 (rSh rS1 p r) (rR a) = rS1 (rSh rS1 p r) (rR b)
  generalize rSh rS1 p r = q
  obtain ⟨x, o⟩ := q
  cases o <;> rfl
theorem rLn_ra {a b : Nat} {g : Nat → Int32} : ∀ {k i : Nat} {p : rP}, rLn a p g i k → rLn b p g i k
  | 0, _, _, _ => trivial
  | k + 1, i, p, h => by
    obtain ⟨h1, h2, h3⟩ := h
    rw [rSh_ra (b := b)] at h2 h3
    exact ⟨h1, h2, rLn_ra h3⟩
theorem rLn_h {a i k : Nat} {p : rP} {g : Nat → Int32} {x : Int32} (h : rLn a p g i (k + 1)) (e : g i = x) : rLm p.1 x.toInt ∧ rGd (rSh rS1 p [rR a, rI x]).1 := by
  obtain ⟨h1, h2, -⟩ := h
  rw [e] at h1 h2
  exact ⟨h1, h2⟩
theorem rLn_d {a i k : Nat} {p : rP} {g : Nat → Int32} {x : Int32} (h : rLn a p g i (k + 1)) (e : g i = x) : rLn a (rSh rS1 p [rR a, rI x]) g (i + 1) k := by
  obtain ⟨-, -, h3⟩ := h
  rw [e] at h3
  exact h3
theorem rw_riO {N : Int} {K : Nat → Nat} {n : Nat} {JX : (Nat → jcell) → Prop} : aGho (rH N K n) fa_T K n JX ag_riO := by
  refine aGho_of ⟨rfl, rfl⟩ ?_
  intro p σ ρ hH hX hA hM0
  have hG := aAG_of hA.1 (fun i e v he hv => (hA.2 i e v he hv).1)
  clear hA
  obtain ⟨v0, v1, v2, v3, rfl, g0, g1, g2, g3⟩ := rA_4 hG
  clear hG
  obtain ⟨x0, rfl, b0, d0⟩ := rG_ref (by decide) g0
  obtain ⟨x1, rfl, b1, d1⟩ := rG_ref (by decide) g1
  obtain ⟨x2, rfl, b2, d2⟩ := aG_int g2
  dsimp only at b2 d2
  obtain ⟨x3, rfl, b3, d3⟩ := aG_int g3
  dsimp only at b3 d3
  obtain ⟨m1, m2, m3, m4⟩ := hM0
  obtain ⟨M, hM⟩ := rMe_ex hH b0 d0
  obtain ⟨T, hT⟩ := rTe_ex hH b1 d1
  obtain ⟨a0, c0, fs0, w0, e1, s0, t0, e4⟩ := m1 (1, 5, 2) (List.mem_of_getElem? (i := 0) rfl)
  obtain rfl : x1 = a0 := Sum.inl.inj (Option.some.inj (Sum.inr.inj (Sum.inr.inj (Option.some.inj (show some (rR x1) = some _ from e1)))))
  obtain rfl : rI x2 = w0 := Option.some.inj (show some (rI x2) = some w0 from e4)
  clear e1 e4
  obtain ⟨a1, c1, fs1, w1, e1, s1, t1, e4⟩ := m1 (1, 6, 3) (List.mem_of_getElem? (i := 1) rfl)
  obtain rfl : x1 = a1 := Sum.inl.inj (Option.some.inj (Sum.inr.inj (Sum.inr.inj (Option.some.inj (show some (rR x1) = some _ from e1)))))
  obtain rfl : rI x3 = w1 := Option.some.inj (show some (rI x3) = some w1 from e4)
  clear e1 e4
  have f0 : rB3 N K n p 367 [rR x1] σ := by
    obtain ⟨w, e6, e7⟩ := m4 (5873, [1]) (List.mem_of_getElem? (i := 0) rfl)
    obtain rfl : [rR x1] = w := Option.some.inj (show some [rR x1] = some w from e6)
    exact (rF_b (r := 5873) (by decide) rfl).mp e7
  have f0 := ro3_367.mp f0
  have f1 : rB3 N K n p 396 [rR x0, rR x1, rI x2, rI x3] σ := by
    obtain ⟨w, e6, e7⟩ := m4 (6340, [0, 1, 2, 3]) (List.mem_of_getElem? (i := 1) rfl)
    obtain rfl : [rR x0, rR x1, rI x2, rI x3] = w := Option.some.inj (show some [rR x0, rR x1, rI x2, rI x3] = some w from e6)
    exact (rF_b (r := 6340) (by decide) rfl).mp e7
  have f1 := ro3_396.mp f1
  clear m1 m2 m3 m4
  obtain ⟨g9, h9, o1, o2, ⟨C, y, hY, k1, k2⟩, ⟨pa, mo, u9, z, cc, v, p1, p2, p3, p4, p5, ⟨p6, p7, p8⟩, p10, p11, p12⟩⟩ := f0
  cases rOb_u o1 ⟨b1, d1, _, _, s0, t0⟩
  cases rOb_u o2 ⟨b1, d1, _, _, s1, t1⟩
  obtain ⟨pa9, mo9, v9, hs9, hX9⟩ := f1
  obtain ⟨rfl, rfl, rfl⟩ := rSt3_u ⟨p1, p2, z, p3⟩ hs9
  have q0 : rB3 N K n ((rPo3 pa mo u9 x3.toInt, none) : rP) 400 [rR x1] σ := ro3_400.mpr (by
    exact ⟨rfl, p4⟩)
  have q1 : rB3 N K n ((rPo3 pa mo u9 x3.toInt, none) : rP) 220 [rR x1] σ := ro3_220.mpr (by
    exact ⟨v, p10, p11, p12⟩)
  have q2 : rB3 N K n ((rPo3 pa mo u9 x3.toInt, none) : rP) 462 [rR x1, rI x2, rI x3] σ := ro3_462.mpr (by
    exact ⟨rfl, pa, mo, u9, ⟨p1, p2, z, p3⟩, rfl⟩)
  have q3 : rB3 N K n ((rPo3 pa mo u9 x3.toInt, none) : rP) 463 [rR x1] σ := ro3_463.mpr (by
    exact ⟨cc, p6, p7, p8⟩)
  have q4 : rB3 N K n ((rPo3 pa mo u9 x3.toInt, none) : rP) 24 [] σ := ro3_24.mpr (by
    exact p5)
  have q5 : rB3 N K n ((rPo3 pa mo u9 x3.toInt, none) : rP) 241 [rR x1, rI x2, rI x3] σ := ro3_241.mpr (by
    exact ⟨C, y, hY, k1, k2⟩)
  have q6 : rB3 N K n ((rPo3 pa mo u9 x3.toInt, none) : rP) 22 [rR x0] σ := ro3_22.mpr (by
    exact ⟨rfl, hX9⟩)
  exact ⟨((rPo3 pa mo u9 x3.toInt, none) : rP), fun h => (by cases h), ⟨(fun q h => by cases h), fun q h => (by cases h), (fun f h => by cases h), (aAllc ⟨_, rfl, (rF_b (r := 6401) (by decide) rfl).mpr q0⟩ (aAllc ⟨_, rfl, (rF_b (r := 3521) (by decide) rfl).mpr q1⟩ (aAllc ⟨_, rfl, (rF_b (r := 7395) (by decide) rfl).mpr q2⟩ (aAllc ⟨_, rfl, (rF_b (r := 7409) (by decide) rfl).mpr q3⟩ (aAllc ⟨_, rfl, (rF_b (r := 384) (by decide) rfl).mpr q4⟩ (aAllc ⟨_, rfl, (rF_b (r := 3859) (by decide) rfl).mpr q5⟩ (aAllc ⟨_, rfl, (rF_b (r := 353) (by decide) rfl).mpr q6⟩ (fun f h => by cases h))))))))⟩, [], List.mem_cons_self, fun f h => (by cases h)⟩
theorem rw_riG6 {N : Int} {K : Nat → Nat} {n : Nat} {JX : (Nat → jcell) → Prop} : aGho (rH N K n) fa_T K n JX ag_riG6 := by
  refine aGho_of ⟨rfl, rfl⟩ ?_
  intro p σ ρ hH hX hA hM0
  have hG := aAG_of hA.1 (fun i e v he hv => (hA.2 i e v he hv).1)
  clear hA
  obtain ⟨v0, v1, rfl, g0, g1⟩ := rA_2 hG
  clear hG
  obtain ⟨x0, rfl, b0, d0⟩ := rG_ref (by decide) g0
  obtain ⟨x1, rfl, b1, d1⟩ := aG_int g1
  dsimp only at b1 d1
  obtain ⟨m1, m2, m3, m4⟩ := hM0
  obtain ⟨M, hM⟩ := rMe_ex hH b0 d0
  have f0 : rB3 N K n p 171 [rR x0, rI x1] σ := by
    obtain ⟨w, e6, e7⟩ := m4 (2738, [0, 1]) (List.mem_of_getElem? (i := 0) rfl)
    obtain rfl : [rR x0, rI x1] = w := Option.some.inj (show some [rR x0, rI x1] = some w from e6)
    exact (rF_b (r := 2738) (by decide) rfl).mp e7
  have f0 := ro3_171.mp f0
  clear m1 m2 m3 m4
  have q0 : rB3 N K n p 170 [rR x0, rI x1] σ := ro3_170.mpr (by
    obtain ⟨gM, gS, gP, r1, r2, r3, kk⟩ := f0
    exact ⟨gM, gS, gP, r1, r2, r3, fun t t0 t1 => kk t t0 (by omega)⟩)
  exact ⟨p, fun _ => rfl, ⟨(fun q h => by cases h), fun q h => (by cases h), (fun f h => by cases h), (aAllc ⟨_, rfl, (rF_b (r := 2722) (by decide) rfl).mpr q0⟩ (fun f h => by cases h))⟩, [], List.mem_cons_self, fun f h => (by cases h)⟩
theorem rw_riL0 {N : Int} {K : Nat → Nat} {n : Nat} {JX : (Nat → jcell) → Prop} : aGho (rH N K n) fa_T K n JX ag_riL0 := by
  refine aGho_of ⟨rfl, rfl⟩ ?_
  intro p σ ρ hH hX hA hM0
  have hG := aAG_of hA.1 (fun i e v he hv => (hA.2 i e v he hv).1)
  clear hA
  obtain ⟨v0, v1, v2, v3, v4, rfl, g0, g1, g2, g3, g4⟩ := rA_5 hG
  clear hG
  obtain ⟨x0, rfl, b0, d0⟩ := rG_ref (by decide) g0
  obtain ⟨x1, rfl, b1, d1⟩ := rG_ref (by decide) g1
  obtain ⟨x2, rfl, b2, d2⟩ := aG_int g2
  dsimp only at b2 d2
  obtain ⟨x3, rfl, b3, d3⟩ := aG_int g3
  dsimp only at b3 d3
  obtain ⟨x4, rfl, b4, d4⟩ := aG_int g4
  dsimp only at b4 d4
  obtain ⟨m1, m2, m3, m4⟩ := hM0
  obtain ⟨M, hM⟩ := rMe_ex hH b0 d0
  obtain ⟨a, mc0, ty0, gc0, ic0, e1, sc0, jc0, e4, e5⟩ := m2 (1, ([], 0), 4) (List.mem_of_getElem? (i := 0) rfl)
  obtain rfl : x1 = a := Sum.inl.inj (Option.some.inj (Sum.inr.inj (Sum.inr.inj (Option.some.inj (show some (rR x1) = some _ from e1)))))
  obtain ⟨gc0, rfl⟩ : ∃ g, gc0 = .inl g := by
    rcases gc0 with g | g
    · exact ⟨g, rfl⟩
    · exact absurd (show some (rI x4) = some (.inr (.inl (g ic0))) from e5) (fun h => by cases h)
  have sc0 : σ x1 = .inl (ty0, mc0, .inl gc0) := sc0
  have ec0 : x4 = gc0 ic0 := Sum.inl.inj (Option.some.inj (show some (rI x4) = some _ from e5))
  have kc0 : (ic0 : Int) = 0 + 0 := by
    obtain ⟨z, e6, e7⟩ := e4
    obtain rfl : 0 = z := Option.some.inj (show some 0 = some z from e6)
    exact e7
  clear e1 e4 e5
  have l0 : 0 ≤ (1 * x2.toInt + 0) + -1 := by
    obtain ⟨z, e6, e7⟩ := m3 ([(2, 1)], -1) (List.mem_of_getElem? (i := 0) rfl)
    obtain rfl : (1 * x2.toInt + 0) = z := Option.some.inj (show some (1 * x2.toInt + 0) = some z from e6)
    exact e7
  have f0 : rB3 N K n p 96 [rR x1, rI x2] σ := by
    obtain ⟨w, e6, e7⟩ := m4 (1538, [1, 2]) (List.mem_of_getElem? (i := 0) rfl)
    obtain rfl : [rR x1, rI x2] = w := Option.some.inj (show some [rR x1, rI x2] = some w from e6)
    exact (rF_b (r := 1538) (by decide) rfl).mp e7
  have f0 := ro3_96.mp f0
  clear m1 m2 m3 m4
  obtain ⟨g, a, hr, hn⟩ := f0
  obtain ⟨g9, h9⟩ := rRw_of hH b1 d1 rfl
  obtain rfl : g = g9 := by
    rcases hr with hr | hr
    · exact rRw_u hr h9
    · have := hr.2.1; omega
  have e0 : g 0 = x4 := by
    have e := rRw_c (i := ic0) h9 sc0 ec0
    rw [show ic0 = 0 by omega] at e
    exact e
  have hn := rLn_ra (b := x0) hn
  rw [show x2.toInt.toNat = (x2.toInt.toNat - 1) + 1 by omega] at hn
  have hh := rLn_h hn e0
  have q0 : rB3 N K n p 25 [rI x4] σ := ro3_25.mpr (by
    exact hh.1)
  have q1 : rB3 N K n (rSh rS1 p [rR x0, rI x4]) 24 [] σ := ro3_24.mpr (by
    exact hh.2)
  have q2 : rB3 N K n p 184 [rR x1, rI x4] σ := ro3_184.mpr (by
    exact ⟨g, h9, by rw [e0]⟩)
  exact ⟨p, fun _ => rfl, ⟨(fun q h => by cases h), fun q h => (by cases h), (fun f h => by cases h), (aAllc ⟨_, rfl, (rF_b (r := 401) (by decide) rfl).mpr q0⟩ (aAllc ⟨_, rfl, (rF_g (r := 384) (by decide)).mpr q1⟩ (aAllc ⟨_, rfl, (rF_b (r := 2946) (by decide) rfl).mpr q2⟩ (fun f h => by cases h))))⟩, [], List.mem_cons_self, fun f h => (by cases h)⟩
theorem rw_riL1 {N : Int} {K : Nat → Nat} {n : Nat} {JX : (Nat → jcell) → Prop} : aGho (rH N K n) fa_T K n JX ag_riL1 := by
  refine aGho_of ⟨rfl, rfl⟩ ?_
  intro p σ ρ hH hX hA hM0
  have hG := aAG_of hA.1 (fun i e v he hv => (hA.2 i e v he hv).1)
  clear hA
  obtain ⟨v0, v1, v2, v3, v4, v5, rfl, g0, g1, g2, g3, g4, g5⟩ := rA_6 hG
  clear hG
  obtain ⟨x0, rfl, b0, d0⟩ := rG_ref (by decide) g0
  obtain ⟨x1, rfl, b1, d1⟩ := rG_ref (by decide) g1
  obtain ⟨x2, rfl, b2, d2⟩ := aG_int g2
  dsimp only at b2 d2
  obtain ⟨x3, rfl, b3, d3⟩ := aG_int g3
  dsimp only at b3 d3
  obtain ⟨x4, rfl, b4, d4⟩ := aG_int g4
  dsimp only at b4 d4
  obtain ⟨x5, rfl, b5, d5⟩ := aG_int g5
  dsimp only at b5 d5
  obtain ⟨m1, m2, m3, m4⟩ := hM0
  obtain ⟨M, hM⟩ := rMe_ex hH b0 d0
  obtain ⟨a, mc0, ty0, gc0, ic0, e1, sc0, jc0, e4, e5⟩ := m2 (1, ([], 1), 5) (List.mem_of_getElem? (i := 0) rfl)
  obtain rfl : x1 = a := Sum.inl.inj (Option.some.inj (Sum.inr.inj (Sum.inr.inj (Option.some.inj (show some (rR x1) = some _ from e1)))))
  obtain ⟨gc0, rfl⟩ : ∃ g, gc0 = .inl g := by
    rcases gc0 with g | g
    · exact ⟨g, rfl⟩
    · exact absurd (show some (rI x5) = some (.inr (.inl (g ic0))) from e5) (fun h => by cases h)
  have sc0 : σ x1 = .inl (ty0, mc0, .inl gc0) := sc0
  have ec0 : x5 = gc0 ic0 := Sum.inl.inj (Option.some.inj (show some (rI x5) = some _ from e5))
  have kc0 : (ic0 : Int) = 0 + 1 := by
    obtain ⟨z, e6, e7⟩ := e4
    obtain rfl : 0 = z := Option.some.inj (show some 0 = some z from e6)
    exact e7
  clear e1 e4 e5
  have l0 : 0 ≤ (1 * x2.toInt + 0) + -2 := by
    obtain ⟨z, e6, e7⟩ := m3 ([(2, 1)], -2) (List.mem_of_getElem? (i := 0) rfl)
    obtain rfl : (1 * x2.toInt + 0) = z := Option.some.inj (show some (1 * x2.toInt + 0) = some z from e6)
    exact e7
  have f0 : rB3 N K n p 96 [rR x1, rI x2] σ := by
    obtain ⟨w, e6, e7⟩ := m4 (1538, [1, 2]) (List.mem_of_getElem? (i := 0) rfl)
    obtain rfl : [rR x1, rI x2] = w := Option.some.inj (show some [rR x1, rI x2] = some w from e6)
    exact (rF_b (r := 1538) (by decide) rfl).mp e7
  have f0 := ro3_96.mp f0
  have f1 : rB3 N K n p 184 [rR x1, rI x4] σ := by
    obtain ⟨w, e6, e7⟩ := m4 (2946, [1, 4]) (List.mem_of_getElem? (i := 1) rfl)
    obtain rfl : [rR x1, rI x4] = w := Option.some.inj (show some [rR x1, rI x4] = some w from e6)
    exact (rF_b (r := 2946) (by decide) rfl).mp e7
  have f1 := ro3_184.mp f1
  clear m1 m2 m3 m4
  obtain ⟨g, a, hr, hn⟩ := f0
  obtain ⟨g9, h9⟩ := rRw_of hH b1 d1 rfl
  obtain rfl : g = g9 := by
    rcases hr with hr | hr
    · exact rRw_u hr h9
    · have := hr.2.1; omega
  have e1 : g 1 = x5 := by
    have e := rRw_c (i := ic0) h9 sc0 ec0
    rw [show ic0 = 1 by omega] at e
    exact e
  obtain ⟨u0, w0, k0⟩ := f1
  obtain rfl := rRw_u h9 w0
  have e0 : g 0 = x4 := Int32.toInt_inj.mp k0
  have hn := rLn_ra (b := x0) hn
  rw [show x2.toInt.toNat = (x2.toInt.toNat - 2) + 2 by omega] at hn
  have hh := rLn_h (rLn_d hn e0) e1
  have q0 : rB3 N K n (rSh rS1 p [rR x0, rI x4]) 25 [rI x5] σ := ro3_25.mpr (by
    exact hh.1)
  have q1 : rB3 N K n (rSh rS1 p [rR x0, rI x5, rR x0, rI x4]) 24 [] σ := ro3_24.mpr (by
    exact hh.2)
  have q2 : rB3 N K n p 185 [rR x1, rI x5] σ := ro3_185.mpr (by
    exact ⟨g, h9, by rw [e1]⟩)
  exact ⟨p, fun _ => rfl, ⟨(fun q h => by cases h), fun q h => (by cases h), (fun f h => by cases h), (aAllc ⟨_, rfl, (rF_g (r := 401) (by decide)).mpr q0⟩ (aAllc ⟨_, rfl, (rF_g (r := 384) (by decide)).mpr q1⟩ (aAllc ⟨_, rfl, (rF_b (r := 2962) (by decide) rfl).mpr q2⟩ (fun f h => by cases h))))⟩, [], List.mem_cons_self, fun f h => (by cases h)⟩
theorem rw_riL2 {N : Int} {K : Nat → Nat} {n : Nat} {JX : (Nat → jcell) → Prop} : aGho (rH N K n) fa_T K n JX ag_riL2 := by
  refine aGho_of ⟨rfl, rfl⟩ ?_
  intro p σ ρ hH hX hA hM0
  have hG := aAG_of hA.1 (fun i e v he hv => (hA.2 i e v he hv).1)
  clear hA
  obtain ⟨v0, v1, v2, v3, v4, v5, v6, rfl, g0, g1, g2, g3, g4, g5, g6⟩ := rA_7 hG
  clear hG
  obtain ⟨x0, rfl, b0, d0⟩ := rG_ref (by decide) g0
  obtain ⟨x1, rfl, b1, d1⟩ := rG_ref (by decide) g1
  obtain ⟨x2, rfl, b2, d2⟩ := aG_int g2
  dsimp only at b2 d2
  obtain ⟨x3, rfl, b3, d3⟩ := aG_int g3
  dsimp only at b3 d3
  obtain ⟨x4, rfl, b4, d4⟩ := aG_int g4
  dsimp only at b4 d4
  obtain ⟨x5, rfl, b5, d5⟩ := aG_int g5
  dsimp only at b5 d5
  obtain ⟨x6, rfl, b6, d6⟩ := aG_int g6
  dsimp only at b6 d6
  obtain ⟨m1, m2, m3, m4⟩ := hM0
  obtain ⟨M, hM⟩ := rMe_ex hH b0 d0
  obtain ⟨a, mc0, ty0, gc0, ic0, e1, sc0, jc0, e4, e5⟩ := m2 (1, ([], 2), 6) (List.mem_of_getElem? (i := 0) rfl)
  obtain rfl : x1 = a := Sum.inl.inj (Option.some.inj (Sum.inr.inj (Sum.inr.inj (Option.some.inj (show some (rR x1) = some _ from e1)))))
  obtain ⟨gc0, rfl⟩ : ∃ g, gc0 = .inl g := by
    rcases gc0 with g | g
    · exact ⟨g, rfl⟩
    · exact absurd (show some (rI x6) = some (.inr (.inl (g ic0))) from e5) (fun h => by cases h)
  have sc0 : σ x1 = .inl (ty0, mc0, .inl gc0) := sc0
  have ec0 : x6 = gc0 ic0 := Sum.inl.inj (Option.some.inj (show some (rI x6) = some _ from e5))
  have kc0 : (ic0 : Int) = 0 + 2 := by
    obtain ⟨z, e6, e7⟩ := e4
    obtain rfl : 0 = z := Option.some.inj (show some 0 = some z from e6)
    exact e7
  clear e1 e4 e5
  have l0 : 0 ≤ (1 * x2.toInt + 0) + -3 := by
    obtain ⟨z, e6, e7⟩ := m3 ([(2, 1)], -3) (List.mem_of_getElem? (i := 0) rfl)
    obtain rfl : (1 * x2.toInt + 0) = z := Option.some.inj (show some (1 * x2.toInt + 0) = some z from e6)
    exact e7
  have f0 : rB3 N K n p 96 [rR x1, rI x2] σ := by
    obtain ⟨w, e6, e7⟩ := m4 (1538, [1, 2]) (List.mem_of_getElem? (i := 0) rfl)
    obtain rfl : [rR x1, rI x2] = w := Option.some.inj (show some [rR x1, rI x2] = some w from e6)
    exact (rF_b (r := 1538) (by decide) rfl).mp e7
  have f0 := ro3_96.mp f0
  have f1 : rB3 N K n p 184 [rR x1, rI x4] σ := by
    obtain ⟨w, e6, e7⟩ := m4 (2946, [1, 4]) (List.mem_of_getElem? (i := 1) rfl)
    obtain rfl : [rR x1, rI x4] = w := Option.some.inj (show some [rR x1, rI x4] = some w from e6)
    exact (rF_b (r := 2946) (by decide) rfl).mp e7
  have f1 := ro3_184.mp f1
  have f2 : rB3 N K n p 185 [rR x1, rI x5] σ := by
    obtain ⟨w, e6, e7⟩ := m4 (2962, [1, 5]) (List.mem_of_getElem? (i := 2) rfl)
    obtain rfl : [rR x1, rI x5] = w := Option.some.inj (show some [rR x1, rI x5] = some w from e6)
    exact (rF_b (r := 2962) (by decide) rfl).mp e7
  have f2 := ro3_185.mp f2
  clear m1 m2 m3 m4
  obtain ⟨g, a, hr, hn⟩ := f0
  obtain ⟨g9, h9⟩ := rRw_of hH b1 d1 rfl
  obtain rfl : g = g9 := by
    rcases hr with hr | hr
    · exact rRw_u hr h9
    · have := hr.2.1; omega
  have e2 : g 2 = x6 := by
    have e := rRw_c (i := ic0) h9 sc0 ec0
    rw [show ic0 = 2 by omega] at e
    exact e
  obtain ⟨u0, w0, k0⟩ := f1
  obtain rfl := rRw_u h9 w0
  have e0 : g 0 = x4 := Int32.toInt_inj.mp k0
  obtain ⟨u1, w1, k1⟩ := f2
  obtain rfl := rRw_u h9 w1
  have e1 : g 1 = x5 := Int32.toInt_inj.mp k1
  have hn := rLn_ra (b := x0) hn
  rw [show x2.toInt.toNat = (x2.toInt.toNat - 3) + 3 by omega] at hn
  have hh := rLn_h (rLn_d (rLn_d hn e0) e1) e2
  have q0 : rB3 N K n (rSh rS1 p [rR x0, rI x5, rR x0, rI x4]) 25 [rI x6] σ := ro3_25.mpr (by
    exact hh.1)
  have q1 : rB3 N K n (rSh rS1 p [rR x0, rI x6, rR x0, rI x5, rR x0, rI x4]) 24 [] σ := ro3_24.mpr (by
    exact hh.2)
  have q2 : rB3 N K n p 186 [rR x1, rI x6] σ := ro3_186.mpr (by
    exact ⟨g, h9, by rw [e2]⟩)
  exact ⟨p, fun _ => rfl, ⟨(fun q h => by cases h), fun q h => (by cases h), (fun f h => by cases h), (aAllc ⟨_, rfl, (rF_g (r := 401) (by decide)).mpr q0⟩ (aAllc ⟨_, rfl, (rF_g (r := 384) (by decide)).mpr q1⟩ (aAllc ⟨_, rfl, (rF_b (r := 2978) (by decide) rfl).mpr q2⟩ (fun f h => by cases h))))⟩, [], List.mem_cons_self, fun f h => (by cases h)⟩
theorem rw_riL3 {N : Int} {K : Nat → Nat} {n : Nat} {JX : (Nat → jcell) → Prop} : aGho (rH N K n) fa_T K n JX ag_riL3 := by
  refine aGho_of ⟨rfl, rfl⟩ ?_
  intro p σ ρ hH hX hA hM0
  have hG := aAG_of hA.1 (fun i e v he hv => (hA.2 i e v he hv).1)
  clear hA
  obtain ⟨v0, v1, v2, v3, v4, v5, v6, v7, rfl, g0, g1, g2, g3, g4, g5, g6, g7⟩ := rA_8 hG
  clear hG
  obtain ⟨x0, rfl, b0, d0⟩ := rG_ref (by decide) g0
  obtain ⟨x1, rfl, b1, d1⟩ := rG_ref (by decide) g1
  obtain ⟨x2, rfl, b2, d2⟩ := aG_int g2
  dsimp only at b2 d2
  obtain ⟨x3, rfl, b3, d3⟩ := aG_int g3
  dsimp only at b3 d3
  obtain ⟨x4, rfl, b4, d4⟩ := aG_int g4
  dsimp only at b4 d4
  obtain ⟨x5, rfl, b5, d5⟩ := aG_int g5
  dsimp only at b5 d5
  obtain ⟨x6, rfl, b6, d6⟩ := aG_int g6
  dsimp only at b6 d6
  obtain ⟨x7, rfl, b7, d7⟩ := aG_int g7
  dsimp only at b7 d7
  obtain ⟨m1, m2, m3, m4⟩ := hM0
  obtain ⟨M, hM⟩ := rMe_ex hH b0 d0
  obtain ⟨a, mc0, ty0, gc0, ic0, e1, sc0, jc0, e4, e5⟩ := m2 (1, ([], 3), 7) (List.mem_of_getElem? (i := 0) rfl)
  obtain rfl : x1 = a := Sum.inl.inj (Option.some.inj (Sum.inr.inj (Sum.inr.inj (Option.some.inj (show some (rR x1) = some _ from e1)))))
  obtain ⟨gc0, rfl⟩ : ∃ g, gc0 = .inl g := by
    rcases gc0 with g | g
    · exact ⟨g, rfl⟩
    · exact absurd (show some (rI x7) = some (.inr (.inl (g ic0))) from e5) (fun h => by cases h)
  have sc0 : σ x1 = .inl (ty0, mc0, .inl gc0) := sc0
  have ec0 : x7 = gc0 ic0 := Sum.inl.inj (Option.some.inj (show some (rI x7) = some _ from e5))
  have kc0 : (ic0 : Int) = 0 + 3 := by
    obtain ⟨z, e6, e7⟩ := e4
    obtain rfl : 0 = z := Option.some.inj (show some 0 = some z from e6)
    exact e7
  clear e1 e4 e5
  have l0 : 0 ≤ (1 * x2.toInt + 0) + -4 := by
    obtain ⟨z, e6, e7⟩ := m3 ([(2, 1)], -4) (List.mem_of_getElem? (i := 0) rfl)
    obtain rfl : (1 * x2.toInt + 0) = z := Option.some.inj (show some (1 * x2.toInt + 0) = some z from e6)
    exact e7
  have f0 : rB3 N K n p 96 [rR x1, rI x2] σ := by
    obtain ⟨w, e6, e7⟩ := m4 (1538, [1, 2]) (List.mem_of_getElem? (i := 0) rfl)
    obtain rfl : [rR x1, rI x2] = w := Option.some.inj (show some [rR x1, rI x2] = some w from e6)
    exact (rF_b (r := 1538) (by decide) rfl).mp e7
  have f0 := ro3_96.mp f0
  have f1 : rB3 N K n p 184 [rR x1, rI x4] σ := by
    obtain ⟨w, e6, e7⟩ := m4 (2946, [1, 4]) (List.mem_of_getElem? (i := 1) rfl)
    obtain rfl : [rR x1, rI x4] = w := Option.some.inj (show some [rR x1, rI x4] = some w from e6)
    exact (rF_b (r := 2946) (by decide) rfl).mp e7
  have f1 := ro3_184.mp f1
  have f2 : rB3 N K n p 185 [rR x1, rI x5] σ := by
    obtain ⟨w, e6, e7⟩ := m4 (2962, [1, 5]) (List.mem_of_getElem? (i := 2) rfl)
    obtain rfl : [rR x1, rI x5] = w := Option.some.inj (show some [rR x1, rI x5] = some w from e6)
    exact (rF_b (r := 2962) (by decide) rfl).mp e7
  have f2 := ro3_185.mp f2
  have f3 : rB3 N K n p 186 [rR x1, rI x6] σ := by
    obtain ⟨w, e6, e7⟩ := m4 (2978, [1, 6]) (List.mem_of_getElem? (i := 3) rfl)
    obtain rfl : [rR x1, rI x6] = w := Option.some.inj (show some [rR x1, rI x6] = some w from e6)
    exact (rF_b (r := 2978) (by decide) rfl).mp e7
  have f3 := ro3_186.mp f3
  clear m1 m2 m3 m4
  obtain ⟨g, a, hr, hn⟩ := f0
  obtain ⟨g9, h9⟩ := rRw_of hH b1 d1 rfl
  obtain rfl : g = g9 := by
    rcases hr with hr | hr
    · exact rRw_u hr h9
    · have := hr.2.1; omega
  have e3 : g 3 = x7 := by
    have e := rRw_c (i := ic0) h9 sc0 ec0
    rw [show ic0 = 3 by omega] at e
    exact e
  obtain ⟨u0, w0, k0⟩ := f1
  obtain rfl := rRw_u h9 w0
  have e0 : g 0 = x4 := Int32.toInt_inj.mp k0
  obtain ⟨u1, w1, k1⟩ := f2
  obtain rfl := rRw_u h9 w1
  have e1 : g 1 = x5 := Int32.toInt_inj.mp k1
  obtain ⟨u2, w2, k2⟩ := f3
  obtain rfl := rRw_u h9 w2
  have e2 : g 2 = x6 := Int32.toInt_inj.mp k2
  have hn := rLn_ra (b := x0) hn
  rw [show x2.toInt.toNat = (x2.toInt.toNat - 4) + 4 by omega] at hn
  have hh := rLn_h (rLn_d (rLn_d (rLn_d hn e0) e1) e2) e3
  have q0 : rB3 N K n (rSh rS1 p [rR x0, rI x6, rR x0, rI x5, rR x0, rI x4]) 25 [rI x7] σ := ro3_25.mpr (by
    exact hh.1)
  have q1 : rB3 N K n (rSh rS1 p [rR x0, rI x7, rR x0, rI x6, rR x0, rI x5, rR x0, rI x4]) 24 [] σ := ro3_24.mpr (by
    exact hh.2)
  have q2 : rB3 N K n p 187 [rR x1, rI x7] σ := ro3_187.mpr (by
    exact ⟨g, h9, by rw [e3]⟩)
  exact ⟨p, fun _ => rfl, ⟨(fun q h => by cases h), fun q h => (by cases h), (fun f h => by cases h), (aAllc ⟨_, rfl, (rF_g (r := 401) (by decide)).mpr q0⟩ (aAllc ⟨_, rfl, (rF_g (r := 384) (by decide)).mpr q1⟩ (aAllc ⟨_, rfl, (rF_b (r := 2994) (by decide) rfl).mpr q2⟩ (fun f h => by cases h))))⟩, [], List.mem_cons_self, fun f h => (by cases h)⟩
theorem rw_riRC0 {N : Int} {K : Nat → Nat} {n : Nat} {JX : (Nat → jcell) → Prop} : aGho (rH N K n) fa_T K n JX ag_riRC0 := by
  refine aGho_of ⟨rfl, rfl⟩ ?_
  intro p σ ρ hH hX hA hM0
  have hG := aAG_of hA.1 (fun i e v he hv => (hA.2 i e v he hv).1)
  clear hA
  obtain ⟨v0, v1, v2, v3, rfl, g0, g1, g2, g3⟩ := rA_4 hG
  clear hG
  obtain ⟨x0, rfl, b0, d0⟩ := rG_ref (by decide) g0
  obtain ⟨x1, rfl, b1, d1⟩ := aG_int g1
  dsimp only at b1 d1
  obtain ⟨x2, rfl, b2, d2⟩ := aG_int g2
  dsimp only at b2 d2
  obtain ⟨x3, rfl, b3, d3⟩ := aG_int g3
  dsimp only at b3 d3
  obtain ⟨m1, m2, m3, m4⟩ := hM0
  obtain ⟨a, mc0, ty0, gc0, ic0, e1, sc0, jc0, e4, e5⟩ := m2 (0, ([(1, 1)], 0), 2) (List.mem_of_getElem? (i := 0) rfl)
  obtain rfl : x0 = a := Sum.inl.inj (Option.some.inj (Sum.inr.inj (Sum.inr.inj (Option.some.inj (show some (rR x0) = some _ from e1)))))
  obtain ⟨gc0, rfl⟩ : ∃ g, gc0 = .inl g := by
    rcases gc0 with g | g
    · exact ⟨g, rfl⟩
    · exact absurd (show some (rI x2) = some (.inr (.inl (g ic0))) from e5) (fun h => by cases h)
  have sc0 : σ x0 = .inl (ty0, mc0, .inl gc0) := sc0
  have ec0 : x2 = gc0 ic0 := Sum.inl.inj (Option.some.inj (show some (rI x2) = some _ from e5))
  have kc0 : (ic0 : Int) = (1 * x1.toInt + 0) + 0 := by
    obtain ⟨z, e6, e7⟩ := e4
    obtain rfl : (1 * x1.toInt + 0) = z := Option.some.inj (show some (1 * x1.toInt + 0) = some z from e6)
    exact e7
  clear e1 e4 e5
  have f0 : rB3 N K n p 184 [rR x0, rI x3] σ := by
    obtain ⟨w, e6, e7⟩ := m4 (2946, [0, 3]) (List.mem_of_getElem? (i := 0) rfl)
    obtain rfl : [rR x0, rI x3] = w := Option.some.inj (show some [rR x0, rI x3] = some w from e6)
    exact (rF_b (r := 2946) (by decide) rfl).mp e7
  have f0 := ro3_184.mp f0
  clear m1 m2 m3 m4
  have r0 : 0 ≤ (1 * x2.toInt + (-1 * x3.toInt + 0)) + 0 := by
    obtain ⟨g, h, e0⟩ := f0
    have e := rRw_c (i := ic0) h sc0 ec0
    rw [show ic0 = 0 by omega] at e
    rw [e] at e0
    omega
  have r1 : 0 ≤ (-1 * x2.toInt + (1 * x3.toInt + 0)) + 0 := by
    obtain ⟨g, h, e0⟩ := f0
    have e := rRw_c (i := ic0) h sc0 ec0
    rw [show ic0 = 0 by omega] at e
    rw [e] at e0
    omega
  exact ⟨p, fun _ => rfl, ⟨(fun q h => by cases h), fun q h => (by cases h), (aAllc ⟨_, rfl, r0⟩ (aAllc ⟨_, rfl, r1⟩ (fun f h => by cases h))), (fun f h => by cases h)⟩, [], List.mem_cons_self, fun f h => (by cases h)⟩
theorem rw_riRC1 {N : Int} {K : Nat → Nat} {n : Nat} {JX : (Nat → jcell) → Prop} : aGho (rH N K n) fa_T K n JX ag_riRC1 := by
  refine aGho_of ⟨rfl, rfl⟩ ?_
  intro p σ ρ hH hX hA hM0
  have hG := aAG_of hA.1 (fun i e v he hv => (hA.2 i e v he hv).1)
  clear hA
  obtain ⟨v0, v1, v2, v3, rfl, g0, g1, g2, g3⟩ := rA_4 hG
  clear hG
  obtain ⟨x0, rfl, b0, d0⟩ := rG_ref (by decide) g0
  obtain ⟨x1, rfl, b1, d1⟩ := aG_int g1
  dsimp only at b1 d1
  obtain ⟨x2, rfl, b2, d2⟩ := aG_int g2
  dsimp only at b2 d2
  obtain ⟨x3, rfl, b3, d3⟩ := aG_int g3
  dsimp only at b3 d3
  obtain ⟨m1, m2, m3, m4⟩ := hM0
  obtain ⟨a, mc0, ty0, gc0, ic0, e1, sc0, jc0, e4, e5⟩ := m2 (0, ([(1, 1)], 0), 2) (List.mem_of_getElem? (i := 0) rfl)
  obtain rfl : x0 = a := Sum.inl.inj (Option.some.inj (Sum.inr.inj (Sum.inr.inj (Option.some.inj (show some (rR x0) = some _ from e1)))))
  obtain ⟨gc0, rfl⟩ : ∃ g, gc0 = .inl g := by
    rcases gc0 with g | g
    · exact ⟨g, rfl⟩
    · exact absurd (show some (rI x2) = some (.inr (.inl (g ic0))) from e5) (fun h => by cases h)
  have sc0 : σ x0 = .inl (ty0, mc0, .inl gc0) := sc0
  have ec0 : x2 = gc0 ic0 := Sum.inl.inj (Option.some.inj (show some (rI x2) = some _ from e5))
  have kc0 : (ic0 : Int) = (1 * x1.toInt + 0) + 0 := by
    obtain ⟨z, e6, e7⟩ := e4
    obtain rfl : (1 * x1.toInt + 0) = z := Option.some.inj (show some (1 * x1.toInt + 0) = some z from e6)
    exact e7
  clear e1 e4 e5
  have f0 : rB3 N K n p 185 [rR x0, rI x3] σ := by
    obtain ⟨w, e6, e7⟩ := m4 (2962, [0, 3]) (List.mem_of_getElem? (i := 0) rfl)
    obtain rfl : [rR x0, rI x3] = w := Option.some.inj (show some [rR x0, rI x3] = some w from e6)
    exact (rF_b (r := 2962) (by decide) rfl).mp e7
  have f0 := ro3_185.mp f0
  clear m1 m2 m3 m4
  have r0 : 0 ≤ (1 * x2.toInt + (-1 * x3.toInt + 0)) + 0 := by
    obtain ⟨g, h, e0⟩ := f0
    have e := rRw_c (i := ic0) h sc0 ec0
    rw [show ic0 = 1 by omega] at e
    rw [e] at e0
    omega
  have r1 : 0 ≤ (-1 * x2.toInt + (1 * x3.toInt + 0)) + 0 := by
    obtain ⟨g, h, e0⟩ := f0
    have e := rRw_c (i := ic0) h sc0 ec0
    rw [show ic0 = 1 by omega] at e
    rw [e] at e0
    omega
  exact ⟨p, fun _ => rfl, ⟨(fun q h => by cases h), fun q h => (by cases h), (aAllc ⟨_, rfl, r0⟩ (aAllc ⟨_, rfl, r1⟩ (fun f h => by cases h))), (fun f h => by cases h)⟩, [], List.mem_cons_self, fun f h => (by cases h)⟩
theorem rw_riRC2 {N : Int} {K : Nat → Nat} {n : Nat} {JX : (Nat → jcell) → Prop} : aGho (rH N K n) fa_T K n JX ag_riRC2 := by
  refine aGho_of ⟨rfl, rfl⟩ ?_
  intro p σ ρ hH hX hA hM0
  have hG := aAG_of hA.1 (fun i e v he hv => (hA.2 i e v he hv).1)
  clear hA
  obtain ⟨v0, v1, v2, v3, rfl, g0, g1, g2, g3⟩ := rA_4 hG
  clear hG
  obtain ⟨x0, rfl, b0, d0⟩ := rG_ref (by decide) g0
  obtain ⟨x1, rfl, b1, d1⟩ := aG_int g1
  dsimp only at b1 d1
  obtain ⟨x2, rfl, b2, d2⟩ := aG_int g2
  dsimp only at b2 d2
  obtain ⟨x3, rfl, b3, d3⟩ := aG_int g3
  dsimp only at b3 d3
  obtain ⟨m1, m2, m3, m4⟩ := hM0
  obtain ⟨a, mc0, ty0, gc0, ic0, e1, sc0, jc0, e4, e5⟩ := m2 (0, ([(1, 1)], 0), 2) (List.mem_of_getElem? (i := 0) rfl)
  obtain rfl : x0 = a := Sum.inl.inj (Option.some.inj (Sum.inr.inj (Sum.inr.inj (Option.some.inj (show some (rR x0) = some _ from e1)))))
  obtain ⟨gc0, rfl⟩ : ∃ g, gc0 = .inl g := by
    rcases gc0 with g | g
    · exact ⟨g, rfl⟩
    · exact absurd (show some (rI x2) = some (.inr (.inl (g ic0))) from e5) (fun h => by cases h)
  have sc0 : σ x0 = .inl (ty0, mc0, .inl gc0) := sc0
  have ec0 : x2 = gc0 ic0 := Sum.inl.inj (Option.some.inj (show some (rI x2) = some _ from e5))
  have kc0 : (ic0 : Int) = (1 * x1.toInt + 0) + 0 := by
    obtain ⟨z, e6, e7⟩ := e4
    obtain rfl : (1 * x1.toInt + 0) = z := Option.some.inj (show some (1 * x1.toInt + 0) = some z from e6)
    exact e7
  clear e1 e4 e5
  have f0 : rB3 N K n p 186 [rR x0, rI x3] σ := by
    obtain ⟨w, e6, e7⟩ := m4 (2978, [0, 3]) (List.mem_of_getElem? (i := 0) rfl)
    obtain rfl : [rR x0, rI x3] = w := Option.some.inj (show some [rR x0, rI x3] = some w from e6)
    exact (rF_b (r := 2978) (by decide) rfl).mp e7
  have f0 := ro3_186.mp f0
  clear m1 m2 m3 m4
  have r0 : 0 ≤ (1 * x2.toInt + (-1 * x3.toInt + 0)) + 0 := by
    obtain ⟨g, h, e0⟩ := f0
    have e := rRw_c (i := ic0) h sc0 ec0
    rw [show ic0 = 2 by omega] at e
    rw [e] at e0
    omega
  have r1 : 0 ≤ (-1 * x2.toInt + (1 * x3.toInt + 0)) + 0 := by
    obtain ⟨g, h, e0⟩ := f0
    have e := rRw_c (i := ic0) h sc0 ec0
    rw [show ic0 = 2 by omega] at e
    rw [e] at e0
    omega
  exact ⟨p, fun _ => rfl, ⟨(fun q h => by cases h), fun q h => (by cases h), (aAllc ⟨_, rfl, r0⟩ (aAllc ⟨_, rfl, r1⟩ (fun f h => by cases h))), (fun f h => by cases h)⟩, [], List.mem_cons_self, fun f h => (by cases h)⟩
theorem rw_riRC3 {N : Int} {K : Nat → Nat} {n : Nat} {JX : (Nat → jcell) → Prop} : aGho (rH N K n) fa_T K n JX ag_riRC3 := by
  refine aGho_of ⟨rfl, rfl⟩ ?_
  intro p σ ρ hH hX hA hM0
  have hG := aAG_of hA.1 (fun i e v he hv => (hA.2 i e v he hv).1)
  clear hA
  obtain ⟨v0, v1, v2, v3, rfl, g0, g1, g2, g3⟩ := rA_4 hG
  clear hG
  obtain ⟨x0, rfl, b0, d0⟩ := rG_ref (by decide) g0
  obtain ⟨x1, rfl, b1, d1⟩ := aG_int g1
  dsimp only at b1 d1
  obtain ⟨x2, rfl, b2, d2⟩ := aG_int g2
  dsimp only at b2 d2
  obtain ⟨x3, rfl, b3, d3⟩ := aG_int g3
  dsimp only at b3 d3
  obtain ⟨m1, m2, m3, m4⟩ := hM0
  obtain ⟨a, mc0, ty0, gc0, ic0, e1, sc0, jc0, e4, e5⟩ := m2 (0, ([(1, 1)], 0), 2) (List.mem_of_getElem? (i := 0) rfl)
  obtain rfl : x0 = a := Sum.inl.inj (Option.some.inj (Sum.inr.inj (Sum.inr.inj (Option.some.inj (show some (rR x0) = some _ from e1)))))
  obtain ⟨gc0, rfl⟩ : ∃ g, gc0 = .inl g := by
    rcases gc0 with g | g
    · exact ⟨g, rfl⟩
    · exact absurd (show some (rI x2) = some (.inr (.inl (g ic0))) from e5) (fun h => by cases h)
  have sc0 : σ x0 = .inl (ty0, mc0, .inl gc0) := sc0
  have ec0 : x2 = gc0 ic0 := Sum.inl.inj (Option.some.inj (show some (rI x2) = some _ from e5))
  have kc0 : (ic0 : Int) = (1 * x1.toInt + 0) + 0 := by
    obtain ⟨z, e6, e7⟩ := e4
    obtain rfl : (1 * x1.toInt + 0) = z := Option.some.inj (show some (1 * x1.toInt + 0) = some z from e6)
    exact e7
  clear e1 e4 e5
  have f0 : rB3 N K n p 187 [rR x0, rI x3] σ := by
    obtain ⟨w, e6, e7⟩ := m4 (2994, [0, 3]) (List.mem_of_getElem? (i := 0) rfl)
    obtain rfl : [rR x0, rI x3] = w := Option.some.inj (show some [rR x0, rI x3] = some w from e6)
    exact (rF_b (r := 2994) (by decide) rfl).mp e7
  have f0 := ro3_187.mp f0
  clear m1 m2 m3 m4
  have r0 : 0 ≤ (1 * x2.toInt + (-1 * x3.toInt + 0)) + 0 := by
    obtain ⟨g, h, e0⟩ := f0
    have e := rRw_c (i := ic0) h sc0 ec0
    rw [show ic0 = 3 by omega] at e
    rw [e] at e0
    omega
  have r1 : 0 ≤ (-1 * x2.toInt + (1 * x3.toInt + 0)) + 0 := by
    obtain ⟨g, h, e0⟩ := f0
    have e := rRw_c (i := ic0) h sc0 ec0
    rw [show ic0 = 3 by omega] at e
    rw [e] at e0
    omega
  exact ⟨p, fun _ => rfl, ⟨(fun q h => by cases h), fun q h => (by cases h), (aAllc ⟨_, rfl, r0⟩ (aAllc ⟨_, rfl, r1⟩ (fun f h => by cases h))), (fun f h => by cases h)⟩, [], List.mem_cons_self, fun f h => (by cases h)⟩
theorem rw_riH {N : Int} {K : Nat → Nat} {n : Nat} {JX : (Nat → jcell) → Prop} : aGho (rH N K n) fa_T K n JX ag_riH := by
  refine aGho_of ⟨rfl, rfl⟩ ?_
  intro p σ ρ hH hX hA hM0
  have hG := aAG_of hA.1 (fun i e v he hv => (hA.2 i e v he hv).1)
  clear hA
  obtain ⟨v0, v1, rfl, g0, g1⟩ := rA_2 hG
  clear hG
  obtain ⟨x0, rfl, b0, d0⟩ := rG_ref (by decide) g0
  obtain ⟨x1, rfl, b1, d1⟩ := aG_int g1
  dsimp only at b1 d1
  obtain ⟨m1, m2, m3, m4⟩ := hM0
  obtain ⟨T, hT⟩ := rTe_ex hH b0 d0
  obtain ⟨a0, c0, fs0, w0, e1, s0, t0, e4⟩ := m1 (0, 33, 1) (List.mem_of_getElem? (i := 0) rfl)
  obtain rfl : x0 = a0 := Sum.inl.inj (Option.some.inj (Sum.inr.inj (Sum.inr.inj (Option.some.inj (show some (rR x0) = some _ from e1)))))
  obtain rfl : rI x1 = w0 := Option.some.inj (show some (rI x1) = some w0 from e4)
  clear e1 e4
  have f0 : rB3 N K n p 463 [rR x0] σ := by
    obtain ⟨w, e6, e7⟩ := m4 (7409, [0]) (List.mem_of_getElem? (i := 0) rfl)
    obtain rfl : [rR x0] = w := Option.some.inj (show some [rR x0] = some w from e6)
    exact (rF_b (r := 7409) (by decide) rfl).mp e7
  have f0 := ro3_463.mp f0
  have f1 : rB3 N K n p 24 [] σ := by
    obtain ⟨w, e6, e7⟩ := m4 (384, []) (List.mem_of_getElem? (i := 1) rfl)
    obtain rfl : [] = w := Option.some.inj (show some [] = some w from e6)
    exact (rF_b (r := 384) (by decide) rfl).mp e7
  have f1 := ro3_24.mp f1
  clear m1 m2 m3 m4
  have q0 : rB3 N K n p 95 [] σ := ro3_95.mpr (by
    obtain ⟨cc, o1, k1, g, r, kk⟩ := f0
    cases rOb_u o1 ⟨b0, d0, _, _, s0, t0⟩
    exact ⟨_, (kk 0 (by omega) (by omega)).1, (kk 0 (by omega) (by omega)).2⟩)
  exact ⟨p, fun _ => rfl, ⟨(fun q h => by cases h), fun q h => (by cases h), (fun f h => by cases h), (aAllc ⟨_, rfl, (rF_b (r := 1520) (by decide) rfl).mpr q0⟩ (fun f h => by cases h))⟩, [], List.mem_cons_self, fun f h => (by cases h)⟩
theorem rw_riU {N : Int} {K : Nat → Nat} {n : Nat} {JX : (Nat → jcell) → Prop} : aGho (rH N K n) fa_T K n JX ag_riU := by
  refine aGho_of ⟨rfl, rfl⟩ ?_
  intro p σ ρ hH hX hA hM0
  have hG := aAG_of hA.1 (fun i e v he hv => (hA.2 i e v he hv).1)
  clear hA
  obtain ⟨v0, v1, v2, rfl, g0, g1, g2⟩ := rA_3 hG
  clear hG
  obtain ⟨x0, rfl, b0, d0⟩ := rG_ref (by decide) g0
  obtain ⟨x1, rfl, b1, d1⟩ := rG_ref (by decide) g1
  obtain ⟨x2, rfl, b2, d2⟩ := aG_int g2
  dsimp only at b2 d2
  obtain ⟨m1, m2, m3, m4⟩ := hM0
  obtain ⟨M, hM⟩ := rMe_ex hH b0 d0
  obtain ⟨T, hT⟩ := rTe_ex hH b1 d1
  have f0 : rB3 N K n p 343 [rR x1, rI x2] σ := by
    obtain ⟨w, e6, e7⟩ := m4 (5490, [1, 2]) (List.mem_of_getElem? (i := 0) rfl)
    obtain rfl : [rR x1, rI x2] = w := Option.some.inj (show some [rR x1, rI x2] = some w from e6)
    exact (rF_b (r := 5490) (by decide) rfl).mp e7
  have f0 := ro3_343.mp f0
  have f1 : rB3 N K n p 463 [rR x1] σ := by
    obtain ⟨w, e6, e7⟩ := m4 (7409, [1]) (List.mem_of_getElem? (i := 1) rfl)
    obtain rfl : [rR x1] = w := Option.some.inj (show some [rR x1] = some w from e6)
    exact (rF_b (r := 7409) (by decide) rfl).mp e7
  have f1 := ro3_463.mp f1
  have f2 : rB3 N K n p 22 [rR x0] σ := by
    obtain ⟨w, e6, e7⟩ := m4 (353, [0]) (List.mem_of_getElem? (i := 2) rfl)
    obtain rfl : [rR x0] = w := Option.some.inj (show some [rR x0] = some w from e6)
    exact (rF_b (r := 353) (by decide) rfl).mp e7
  obtain ⟨hp, hR⟩ := ro3_22.mp f2
  obtain rfl := rMg_u hM hR.1
  clear m1 m2 m3 m4
  obtain ⟨cc, o1, k1, g, r, kk⟩ := f1
  obtain ⟨g9, c9, r9, o9, j, j0, j1, e⟩ := f0 b2
  cases rOb_u o1 o9
  obtain rfl := rRo_u r r9
  have h := kk j j0 j1
  rw [e] at h
  have q0 : rB3 N K n p 25 [rI x2] σ := ro3_25.mpr (by
    exact h.1)
  have q1 : rB3 N K n (rSh rS1 p [rR x0, rI x2]) 24 [] σ := ro3_24.mpr (by
    rw [rSh_mk hp]
    exact h.2)
  exact ⟨p, fun _ => rfl, ⟨(fun q h => by cases h), fun q h => (by cases h), (fun f h => by cases h), (aAllc ⟨_, rfl, (rF_b (r := 401) (by decide) rfl).mpr q0⟩ (aAllc ⟨_, rfl, (rF_g (r := 384) (by decide)).mpr q1⟩ (fun f h => by cases h)))⟩, [], List.mem_cons_self, fun f h => (by cases h)⟩
end
