section
section FA
variable {l : Launch} {E : jE} {K : Nat → Nat} {n : Nat} {P : Type} {F : aFt P} {sh : P → List jv → P} {JX : (Nat → jcell) → Prop}
noncomputable def ak_MTreadPosX : List jI := [(.aload_n 0, 1, (0, 0, 0, 0, 0)), (.iload_n 1, 1, (1, 0, 0, 0, 0)), (.putfield 230, 3, (12, 38, 2079, 0, 0)), (.aload_n 0, 1, (0, 0, 0, 0, 0)), (.iload_n 1, 1, (1, 0, 0, 0, 0)), (.iload_n 2, 1, (2, 0, 0, 0, 0)), (.iadd, 1, (0, 0, 0, 0, 0)), (.putfield 233, 3, (12, 39, 2080, 0, 0)), (.iconst 0, 1, (0, 0, 0, 0, 0)), (.istore_n 3, 1, (3, 0, 0, 0, 0)), (.iload_n 3, 1, (3, 0, 0, 0, 0)), (.bipush 64, 2, (0, 0, 0, 64, 0)), (.if_icmp .ge 16, 3, (33, 0, 0, 0, 0)), (.aload_n 0, 1, (0, 0, 0, 0, 0)), (.getfield 71, 3, (12, 24, 2055, 0, 0)), (.iload_n 3, 1, (3, 0, 0, 0, 0)), (.iconst 0, 1, (0, 0, 0, 0, 0)), (.iastore, 1, (0, 0, 0, 0, 0)), (.iinc 3 1, 3, (0, 0, 0, 1, 0)), (.goto (-16), 3, (14, 0, 0, 0, 0)), (.iconst 1, 1, (0, 0, 0, 1, 0)), (.istore_n 3, 1, (3, 0, 0, 0, 0)), (.bipush 7, 2, (0, 0, 0, 7, 0)), (.istore 4, 2, (4, 0, 0, 0, 0)), (.iload 4, 2, (4, 0, 0, 0, 0)), (.ifCond .lt 47, 3, (88, 0, 0, 0, 0)), (.iload_n 3, 1, (3, 0, 0, 0, 0)), (.ifCond .eq 35, 3, (80, 0, 0, 0, 0)), (.aload_n 0, 1, (0, 0, 0, 0, 0)), (.iload 4, 2, (4, 0, 0, 0, 0)), (.invokevirtual 251, 3, (3, 0, 2604, 0, 0)), (.ifCond .eq 26, 3, (80, 0, 0, 0, 0)), (.aload_n 0, 1, (0, 0, 0, 0, 0)), (.iload 4, 2, (4, 0, 0, 0, 0)), (.ifCond .le 8, 3, (68, 0, 0, 0, 0)), (.bipush 47, 2, (0, 0, 0, 47, 0)), (.goto 5, 3, (70, 0, 0, 0, 0)), (.bipush 32, 2, (0, 0, 0, 32, 0)), (.invokevirtual 244, 3, (0, 0, 2615, 0, 0)), (.ifCond .eq 7, 3, (80, 0, 0, 0, 0)), (.iconst 1, 1, (0, 0, 0, 1, 0)), (.goto 4, 3, (81, 0, 0, 0, 0)), (.iconst 0, 1, (0, 0, 0, 0, 0)), (.istore_n 3, 1, (3, 0, 0, 0, 0)), (.iinc 4 (-1), 3, (0, 0, 0, (-1), 0)), (.goto (-46), 3, (39, 0, 0, 0, 0)), (.iload_n 3, 1, (3, 0, 0, 0, 0)), (.ifCond .ne 5, 3, (94, 0, 0, 0, 0)), (.iconst 0, 1, (0, 0, 0, 0, 0)), (.ireturn, 1, (0, 0, 0, 0, 0)), (.aload_n 0, 1, (0, 0, 0, 0, 0)), (.aload_n 0, 1, (0, 0, 0, 0, 0)), (.invokevirtual 236, 3, (1, 0, 2608, 0, 0)), (.bipush 119, 2, (0, 0, 0, 119, 0)), (.if_icmp .ne 7, 3, (108, 0, 0, 0, 0)), (.iconst 0, 1, (0, 0, 0, 0, 0)), (.goto 4, 3, (109, 0, 0, 0, 0)), (.iconst 1, 1, (0, 0, 0, 1, 0)), (.putfield 122, 3, (12, 25, 2057, 0, 0)), (.aload_n 0, 1, (0, 0, 0, 0, 0)), (.invokevirtual 236, 3, (1, 0, 2608, 0, 0)), (.bipush 119, 2, (0, 0, 0, 119, 0)), (.if_icmp .eq 12, 3, (130, 0, 0, 0, 0)), (.aload_n 0, 1, (0, 0, 0, 0, 0)), (.invokevirtual 236, 3, (1, 0, 2608, 0, 0)), (.bipush 98, 2, (0, 0, 0, 98, 0)), (.if_icmp .ne 7, 3, (134, 0, 0, 0, 0)), (.iconst 1, 1, (0, 0, 0, 1, 0)), (.goto 4, 3, (135, 0, 0, 0, 0)), (.iconst 0, 1, (0, 0, 0, 0, 0)), (.istore_n 3, 1, (3, 0, 0, 0, 0)), (.aload_n 0, 1, (0, 0, 0, 0, 0)), (.dup, 1, (0, 0, 0, 0, 0)), (.getfield 230, 3, (12, 38, 2079, 0, 0)), (.iconst 1, 1, (0, 0, 0, 1, 0)), (.iadd, 1, (0, 0, 0, 0, 0)), (.putfield 230, 3, (12, 38, 2079, 0, 0)), (.iload_n 3, 1, (3, 0, 0, 0, 0)), (.ifCond .eq 48, 3, (195, 0, 0, 0, 0)), (.aload_n 0, 1, (0, 0, 0, 0, 0)), (.bipush 32, 2, (0, 0, 0, 32, 0)), (.invokevirtual 244, 3, (0, 0, 2615, 0, 0)), (.ifCond .eq 39, 3, (195, 0, 0, 0, 0)), (.aload_n 0, 1, (0, 0, 0, 0, 0)), (.invokevirtual 254, 3, (4, 0, 2619, 0, 0)), (.ifCond .eq 32, 3, (195, 0, 0, 0, 0)), (.aload_n 0, 1, (0, 0, 0, 0, 0)), (.bipush 32, 2, (0, 0, 0, 32, 0)), (.invokevirtual 244, 3, (0, 0, 2615, 0, 0)), (.ifCond .eq 23, 3, (195, 0, 0, 0, 0)), (.aload_n 0, 1, (0, 0, 0, 0, 0)), (.invokevirtual 258, 3, (5, 0, 2623, 0, 0)), (.ifCond .eq 16, 3, (195, 0, 0, 0, 0)), (.aload_n 0, 1, (0, 0, 0, 0, 0)), (.bipush 32, 2, (0, 0, 0, 32, 0)), (.invokevirtual 244, 3, (0, 0, 2615, 0, 0)), (.ifCond .eq 7, 3, (195, 0, 0, 0, 0)), (.iconst 1, 1, (0, 0, 0, 1, 0)), (.goto 4, 3, (196, 0, 0, 0, 0)), (.iconst 0, 1, (0, 0, 0, 0, 0)), (.istore_n 3, 1, (3, 0, 0, 0, 0)), (.aload_n 0, 1, (0, 0, 0, 0, 0)), (.iload_n 3, 1, (3, 0, 0, 0, 0)), (.ifCond .eq 10, 3, (209, 0, 0, 0, 0)), (.aload_n 0, 1, (0, 0, 0, 0, 0)), (.invokevirtual 261, 3, (2, 0, 2627, 0, 0)), (.goto 4, 3, (210, 0, 0, 0, 0)), (.iconst (-1), 1, (0, 0, 0, (-1), 0)), (.putfield 131, 3, (12, 28, 2063, 0, 0)), (.iload_n 3, 1, (3, 0, 0, 0, 0)), (.ifCond .eq 23, 3, (237, 0, 0, 0, 0)), (.aload_n 0, 1, (0, 0, 0, 0, 0)), (.getfield 131, 3, (12, 28, 2063, 0, 0)), (.ifCond .lt 16, 3, (237, 0, 0, 0, 0)), (.aload_n 0, 1, (0, 0, 0, 0, 0)), (.bipush 32, 2, (0, 0, 0, 32, 0)), (.invokevirtual 244, 3, (0, 0, 2615, 0, 0)), (.ifCond .eq 7, 3, (237, 0, 0, 0, 0)), (.iconst 1, 1, (0, 0, 0, 1, 0)), (.goto 4, 3, (238, 0, 0, 0, 0)), (.iconst 0, 1, (0, 0, 0, 0, 0)), (.istore_n 3, 1, (3, 0, 0, 0, 0)), (.aload_n 0, 1, (0, 0, 0, 0, 0)), (.iload_n 3, 1, (3, 0, 0, 0, 0)), (.ifCond .eq 10, 3, (251, 0, 0, 0, 0)), (.aload_n 0, 1, (0, 0, 0, 0, 0)), (.invokevirtual 261, 3, (2, 0, 2627, 0, 0)), (.goto 4, 3, (252, 0, 0, 0, 0)), (.iconst (-1), 1, (0, 0, 0, (-1), 0)), (.putfield 134, 3, (12, 29, 2065, 0, 0)), (.iload_n 3, 1, (3, 0, 0, 0, 0)), (.ifCond .eq 32, 3, (288, 0, 0, 0, 0)), (.aload_n 0, 1, (0, 0, 0, 0, 0)), (.getfield 134, 3, (12, 29, 2065, 0, 0)), (.ifCond .le 25, 3, (288, 0, 0, 0, 0)), (.aload_n 0, 1, (0, 0, 0, 0, 0)), (.getfield 230, 3, (12, 38, 2079, 0, 0)), (.aload_n 0, 1, (0, 0, 0, 0, 0)), (.getfield 233, 3, (12, 39, 2080, 0, 0)), (.if_icmp .ne 14, 3, (288, 0, 0, 0, 0)), (.aload_n 0, 1, (0, 0, 0, 0, 0)), (.invokevirtual 265, 3, (999, 6, 2631, 2, 0)), (.ifCond .eq 7, 3, (288, 0, 0, 0, 0)), (.iconst 1, 1, (0, 0, 0, 1, 0)), (.goto 4, 3, (289, 0, 0, 0, 0)), (.iconst 0, 1, (0, 0, 0, 0, 0)), (.ireturn, 1, (0, 0, 0, 0, 0))]
theorem ao_MTreadPosX : jokLG jtF lk_MT "ChessHouseModel$Texts" jcl jtb 5 prog_18_method_52_code 0 ak_MTreadPosX = true := by decide +kernel
noncomputable def ag_MTreadPosX : aCon := (y_MT_readPosition, false, 3, ([(.inr (some (.inl (false, 62))), none), (.inl (0, 1440), none), (.inl (0, 96), none)], ([], [], [], [])), (some (.inl (0, 1)), [.inl (-1, 1299)], ([(0, 29, 4)], [], [], [(4514, [0, 3])]), [[([(3, -1)], 0)], [([(4, 1)], -1), ([(4, -1)], 999)]]), ([(62, 38), (62, 39), (62, 25), (62, 26), (62, 27), (62, 28), (62, 29)], [(82, ([], 0))]), { frames := 5, cells := 0, slots := 0, locals := 122 })
noncomputable def am_MTreadPosX : aMi := (("ChessHouseModel$Texts", lw_tbl, jcl, (some .boolean), [(236, 2608, 1), (244, 2615, 0), (251, 2604, 3), (254, 2619, 4), (258, 2623, 5), (261, 2627, 2), (265, 2631, 6), (265, 2631, 7)], [], [], [ag_reZ0, ag_reZs, ag_reZn, ag_rhV, ag_rgE0, ag_rhB1570, ag_rhB1575, ag_rhB1580, ag_rhB1590, ag_rhB1595, ag_rhB1600, ag_rhB1605, ag_rhB1612, ag_rhB1620, ag_rhB1630, ag_rvSD, ag_rhG], [(13, 0, [.inr (.inl 0)], [0, 3]), (26, 1, [.inr (.inl 2), .inr (.inl 1), .inr (.inl 0)], [0, 3, 4, 5]), (30, 2, [.inr (.inl 74249), .inl 3], [0, 3, 4]), (33, 3, [.inl 3], [0, 3]), (93, 4, [.inr (.inl 0)], [0, 3]), (94, 5, [.inr (.inr (0, 38))], [3]), (146, 6, [.inr (.inr (0, 38))], [3]), (156, 7, [.inr (.inr (0, 38))], [3]), (163, 8, [.inr (.inr (0, 38))], [3]), (172, 9, [.inr (.inr (0, 38))], [3]), (179, 10, [.inr (.inr (0, 38))], [3]), (188, 11, [.inr (.inr (0, 38))], [3]), (206, 12, [.inr (.inr (0, 38))], [3]), (230, 13, [.inr (.inr (0, 38))], [3]), (248, 14, [.inr (.inr (0, 38))], [3]), (278, 15, [.inr (.inr (0, 25))], [3]), (281, 15, [.inr (.inl 0)], [3]), (289, 1004, [.inr (.inl 0)], [0, 3]), (289, 1016, [.inr (.inl 73225), .inr (.inl 0)], [0, 3, 4])]), (fa_T, fa_TB, fa_Pk, [(62, 38), (62, 39), (62, 25), (62, 26), (62, 27), (62, 28), (62, 29)], [(82, ([], 0))], ra_dep, 3), [ag_MTpass, ag_MTsignX, ag_MTreadNumX, ag_MTreadRankX, ag_MTreadRightsX, ag_MTreadPassedX, ag_MTmayStandX0, ag_MTmayStandX1], ag_MTreadPosX, ak_MTreadPosX, [(14, ([some 0, none, none, some 3, none], [], [(.inr (some (.inl (false, 62))), none), (.inl (0, 1440), none), (.inl (0, 96), none), (.inl (0, 64), none), (.inl (-1, 1299), none), (.inl (0, 1536), none)], ([(0, 29, 4), (0, 39, 5), (0, 38, 1)], [], [([(5, 1), (1, -1)], 0), ([(5, 1), (2, -1)], 0)], [(4562, [0, 3]), (0, [])])), [.inl 3, .inr (.inr (0, 29)), .inr (.inr (0, 39))], [([], 1), ([(3, -1)], 64), ([], 0)]), (39, ([some 0, none, none, some 3, some 4], [], [(.inr (some (.inl (false, 62))), none), (.inl (0, 1440), none), (.inl (0, 96), none), (.inl (0, 1), none), (.inl (-1, 7), none), (.inl (-1, 1299), none), (.inl (0, 1536), none), (.inl (0, 1800), none)], ([(0, 29, 5), (0, 39, 6), (0, 38, 7)], [], [([(1, 1), (7, -1), (4, -16)], 112)], [(5345, [0]), (0, [])])), [.inl 3, .inl 4, .inr (.inr (0, 29)), .inr (.inr (0, 39)), .inr (.inr (0, 38))], [([], 0), ([(4, 1)], 1), ([], 0)]), (0, aEn ag_MTreadPosX, [], [([], 2), ([], 0), ([], 0)])])
theorem ac_MTreadPosX_o : aOkc am_MTreadPosX.2.1 am_MTreadPosX.2.2.2.1 = true := by decide +kernel
theorem ac_MTreadPosX_0 : ((am_MTreadPosX.2.2.2.2.2.drop 0).take 1).all (aCk1 am_MTreadPosX 96) = true := by rw [fs_Ck1]; decide +kernel
theorem ac_MTreadPosX_1 : ((am_MTreadPosX.2.2.2.2.2.drop 1).take 1).all (aCk1 am_MTreadPosX 96) = true := by rw [fs_Ck1]; decide +kernel
theorem ac_MTreadPosX_2 : ((am_MTreadPosX.2.2.2.2.2.drop 2).take 1).all (aCk1 am_MTreadPosX 96) = true := by rw [fs_Ck1]; decide +kernel
theorem ac_MTreadPosX : aChk am_MTreadPosX 96 = true := aChk_1 ac_MTreadPosX_o (all_dr 0 1 1 rfl ac_MTreadPosX_0 (all_dr 1 1 2 rfl ac_MTreadPosX_1 (all_dr 2 1 3 rfl ac_MTreadPosX_2 (show (am_MTreadPosX.2.2.2.2.2.drop 3).all (aCk1 am_MTreadPosX 96) = true from rfl))))
theorem ad_MTreadPosX : aGd lw_tbl ag_MTreadPosX := ⟨rfl, rfl, m_MT_readPosition, i_MT_readPosition, e_MT_readPosition⟩
theorem ae_MTreadPosX (hJ : aJx K n fa_Pk JX) (hS : aShf F sh) (hD : aDp F K n fa_dep) (hD1 : aDp F K n ra_dep) (hh_reZ0 : aGho F fa_T K n JX ag_reZ0) (hh_reZn : aGho F fa_T K n JX ag_reZn) (hh_reZs : aGho F fa_T K n JX ag_reZs) (hh_rfM0 : aGho F fa_T K n JX ag_rfM0) (hh_rfM1 : aGho F fa_T K n JX ag_rfM1) (hh_rfM10 : aGho F fa_T K n JX ag_rfM10) (hh_rfM2 : aGho F fa_T K n JX ag_rfM2) (hh_rfM3 : aGho F fa_T K n JX ag_rfM3) (hh_rfM4 : aGho F fa_T K n JX ag_rfM4) (hh_rfM5 : aGho F fa_T K n JX ag_rfM5) (hh_rfM6 : aGho F fa_T K n JX ag_rfM6) (hh_rfM7 : aGho F fa_T K n JX ag_rfM7) (hh_rfM8 : aGho F fa_T K n JX ag_rfM8) (hh_rfM9 : aGho F fa_T K n JX ag_rfM9) (hh_rfMe : aGho F fa_T K n JX ag_rfMe) (hh_rfS0 : aGho F fa_T K n JX ag_rfS0) (hh_rfS1 : aGho F fa_T K n JX ag_rfS1) (hh_rfSe : aGho F fa_T K n JX ag_rfSe) (hh_rfV0 : aGho F fa_T K n JX ag_rfV0) (hh_rfV1 : aGho F fa_T K n JX ag_rfV1) (hh_rgC0 : aGho F fa_T K n JX ag_rgC0) (hh_rgCe : aGho F fa_T K n JX ag_rgCe) (hh_rgCnd : aGho F fa_T K n JX ag_rgCnd) (hh_rgCnu : aGho F fa_T K n JX ag_rgCnu) (hh_rgCs : aGho F fa_T K n JX ag_rgCs) (hh_rgCy : aGho F fa_T K n JX ag_rgCy) (hh_rgE0 : aGho F fa_T K n JX ag_rgE0) (hh_rgE1 : aGho F fa_T K n JX ag_rgE1) (hh_rgE2 : aGho F fa_T K n JX ag_rgE2) (hh_rgJ0 : aGho F fa_T K n JX ag_rgJ0) (hh_rgJ10 : aGho F fa_T K n JX ag_rgJ10) (hh_rgJ11 : aGho F fa_T K n JX ag_rgJ11) (hh_rgK0 : aGho F fa_T K n JX ag_rgK0) (hh_rgK10 : aGho F fa_T K n JX ag_rgK10) (hh_rgK11 : aGho F fa_T K n JX ag_rgK11) (hh_rgM0 : aGho F fa_T K n JX ag_rgM0) (hh_rgM1 : aGho F fa_T K n JX ag_rgM1) (hh_rgMk : aGho F fa_T K n JX ag_rgMk) (hh_rgO2 : aGho F fa_T K n JX ag_rgO2) (hh_rgO6 : aGho F fa_T K n JX ag_rgO6) (hh_rhB1570 : aGho F fa_T K n JX ag_rhB1570) (hh_rhB1575 : aGho F fa_T K n JX ag_rhB1575) (hh_rhB1580 : aGho F fa_T K n JX ag_rhB1580) (hh_rhB1590 : aGho F fa_T K n JX ag_rhB1590) (hh_rhB1595 : aGho F fa_T K n JX ag_rhB1595) (hh_rhB1600 : aGho F fa_T K n JX ag_rhB1600) (hh_rhB1605 : aGho F fa_T K n JX ag_rhB1605) (hh_rhB1612 : aGho F fa_T K n JX ag_rhB1612) (hh_rhB1620 : aGho F fa_T K n JX ag_rhB1620) (hh_rhB1630 : aGho F fa_T K n JX ag_rhB1630) (hh_rhG : aGho F fa_T K n JX ag_rhG) (hh_rhV : aGho F fa_T K n JX ag_rhV) (hh_rvAL : aGho F fa_T K n JX ag_rvAL) (hh_rvCLX : aGho F fa_T K n JX ag_rvCLX) (hh_rvDG : aGho F fa_T K n JX ag_rvDG) (hh_rvDIR : aGho F fa_T K n JX ag_rvDIR) (hh_rvKD : aGho F fa_T K n JX ag_rvKD) (hh_rvM4d1 : aGho F fa_T K n JX ag_rvM4d1) (hh_rvM4d2 : aGho F fa_T K n JX ag_rvM4d2) (hh_rvM4u1 : aGho F fa_T K n JX ag_rvM4u1) (hh_rvM4u2 : aGho F fa_T K n JX ag_rvM4u2) (hh_rvM5d : aGho F fa_T K n JX ag_rvM5d) (hh_rvM5u : aGho F fa_T K n JX ag_rvM5u) (hh_rvPV : aGho F fa_T K n JX ag_rvPV) (hh_rvQID : aGho F fa_T K n JX ag_rvQID) (hh_rvSD : aGho F fa_T K n JX ag_rvSD) (hh_rvSGa : aGho F fa_T K n JX ag_rvSGa) (hh_rvSGb : aGho F fa_T K n JX ag_rvSGb) (hh_rvSQ1 : aGho F fa_T K n JX ag_rvSQ1) (hh_rvST1 : aGho F fa_T K n JX ag_rvST1) (hh_rvSTna : aGho F fa_T K n JX ag_rvSTna) (hh_rvSTnb : aGho F fa_T K n JX ag_rvSTnb) (hh_rvSTnc : aGho F fa_T K n JX ag_rvSTnc) (hh_rvSTnd : aGho F fa_T K n JX ag_rvSTnd) (hh_rvTRI : aGho F fa_T K n JX ag_rvTRI) (hh_rvTRv : aGho F fa_T K n JX ag_rvTRv) (hh_rwA0 : aGho F fa_T K n JX ag_rwA0) (hh_rwAe : aGho F fa_T K n JX ag_rwAe) (hh_rwAm : aGho F fa_T K n JX ag_rwAm) (hh_rwAn : aGho F fa_T K n JX ag_rwAn) (hh_rwAo : aGho F fa_T K n JX ag_rwAo) (hh_rwAo0 : aGho F fa_T K n JX ag_rwAo0) (hh_rwB00 : aGho F fa_T K n JX ag_rwB00) (hh_rwB01 : aGho F fa_T K n JX ag_rwB01) (hh_rwB02 : aGho F fa_T K n JX ag_rwB02) (hh_rwB1 : aGho F fa_T K n JX ag_rwB1) (hh_rwB2 : aGho F fa_T K n JX ag_rwB2) (hh_rwB5 : aGho F fa_T K n JX ag_rwB5) (hh_rwC00 : aGho F fa_T K n JX ag_rwC00) (hh_rwC01 : aGho F fa_T K n JX ag_rwC01) (hh_rwC1 : aGho F fa_T K n JX ag_rwC1) (hh_rwC2 : aGho F fa_T K n JX ag_rwC2) (hh_rwFE0 : aGho F fa_T K n JX ag_rwFE0) (hh_rwFE1 : aGho F fa_T K n JX ag_rwFE1) (hh_rwFL0 : aGho F fa_T K n JX ag_rwFL0) (hh_rwFLn : aGho F fa_T K n JX ag_rwFLn) (hh_rwFLz : aGho F fa_T K n JX ag_rwFLz) (hh_rwIC : aGho F fa_T K n JX ag_rwIC) (hh_rwK0 : aGho F fa_T K n JX ag_rwK0) (hh_rwKe : aGho F fa_T K n JX ag_rwKe) (hh_rwKnd : aGho F fa_T K n JX ag_rwKnd) (hh_rwKnu : aGho F fa_T K n JX ag_rwKnu) (hh_rwKs : aGho F fa_T K n JX ag_rwKs) (hh_rwKy : aGho F fa_T K n JX ag_rwKy) (hh_rwP0 : aGho F fa_T K n JX ag_rwP0) (hh_rwP1 : aGho F fa_T K n JX ag_rwP1) (hh_rwP1n : aGho F fa_T K n JX ag_rwP1n) (hh_rwRK1 : aGho F fa_T K n JX ag_rwRK1) (hh_rwRKd : aGho F fa_T K n JX ag_rwRKd) (hh_rwSD0 : aGho F fa_T K n JX ag_rwSD0) (hh_rwSD1 : aGho F fa_T K n JX ag_rwSD1) (hh_rwSDa : aGho F fa_T K n JX ag_rwSDa) (hh_rwSDb : aGho F fa_T K n JX ag_rwSDb) : aMe F l E jcl jtb lw_tbl fa_T K n JX ag_MTreadPosX := aMe_of (m := am_MTreadPosX) (f := 96) rfl rfl rfl rfl rfl (by decide) (fun _ _ => jtF_ok) lo_MT (fun q h => by cases h) (aAllc (fun G h => by obtain rfl := Option.some.inj h; exact ql_MT_236) (aAllc (fun G h => by obtain rfl := Option.some.inj h; exact ql_MT_244) (aAllc (fun G h => by obtain rfl := Option.some.inj h; exact ql_MT_251) (aAllc (fun G h => by obtain rfl := Option.some.inj h; exact ql_MT_254) (aAllc (fun G h => by obtain rfl := Option.some.inj h; exact ql_MT_258) (aAllc (fun G h => by obtain rfl := Option.some.inj h; exact ql_MT_261) (aAllc (fun G h => by obtain rfl := Option.some.inj h; exact ql_MT_265) (aAllc (fun G h => by obtain rfl := Option.some.inj h; exact ql_MT_265) (fun q h => by cases h))))))))) jC (aAllc ⟨ad_MTpass, ae_MTpass hJ hS hD⟩ (aAllc ⟨ad_MTsignX, ae_MTsignX hJ hS hD hD1 hh_rfS0 hh_rfS1⟩ (aAllc ⟨ad_MTreadNumX, ae_MTreadNumX hJ hS hD hD1 hh_rfS0 hh_rfS1 hh_rfSe hh_rvDG hh_rvSGa hh_rvSGb⟩ (aAllc ⟨ad_MTreadRankX, ae_MTreadRankX hJ hS hD hD1 hh_rfM0 hh_rfM1 hh_rfM10 hh_rfM2 hh_rfM3 hh_rfM4 hh_rfM5 hh_rfM6 hh_rfM7 hh_rfM8 hh_rfM9 hh_rfMe hh_rfS0 hh_rfS1 hh_rfV0 hh_rfV1 hh_rvCLX⟩ (aAllc ⟨ad_MTreadRightsX, ae_MTreadRightsX hJ hS hD hD1 hh_rfS0 hh_rfS1⟩ (aAllc ⟨ad_MTreadPassedX, ae_MTreadPassedX hJ hS hD hD1 hh_rfS0 hh_rfS1⟩ (aAllc ⟨ad_MTmayStandX0, ae_MTmayStandX0 hJ hS hD hD1 hh_rgC0 hh_rgCe hh_rgCnd hh_rgCnu hh_rgCs hh_rgCy hh_rgE0 hh_rgE1 hh_rgE2 hh_rgJ0 hh_rgJ10 hh_rgK0 hh_rgK10 hh_rgM0 hh_rgM1 hh_rgMk hh_rgO2 hh_rgO6 hh_rvAL hh_rvCLX hh_rvDIR hh_rvKD hh_rvM4d1 hh_rvM4d2 hh_rvM4u1 hh_rvM4u2 hh_rvM5d hh_rvM5u hh_rvPV hh_rvQID hh_rvSD hh_rvSGa hh_rvSGb hh_rvSQ1 hh_rvST1 hh_rvSTna hh_rvSTnb hh_rvSTnc hh_rvSTnd hh_rvTRI hh_rvTRv hh_rwA0 hh_rwAe hh_rwAm hh_rwAn hh_rwAo hh_rwAo0 hh_rwB00 hh_rwB01 hh_rwB02 hh_rwB1 hh_rwB2 hh_rwB5 hh_rwC00 hh_rwC01 hh_rwC1 hh_rwC2 hh_rwFE0 hh_rwFE1 hh_rwFL0 hh_rwFLn hh_rwFLz hh_rwIC hh_rwK0 hh_rwKe hh_rwKnd hh_rwKnu hh_rwKs hh_rwKy hh_rwP0 hh_rwP1 hh_rwP1n hh_rwRK1 hh_rwRKd hh_rwSD0 hh_rwSD1 hh_rwSDa hh_rwSDb⟩ (aAllc ⟨ad_MTmayStandX1, ae_MTmayStandX1 hJ hS hD hD1 hh_rgC0 hh_rgCe hh_rgCnd hh_rgCnu hh_rgCs hh_rgCy hh_rgE0 hh_rgE1 hh_rgE2 hh_rgJ0 hh_rgJ11 hh_rgK0 hh_rgK11 hh_rgM0 hh_rgM1 hh_rgMk hh_rgO2 hh_rgO6 hh_rvAL hh_rvCLX hh_rvDIR hh_rvKD hh_rvM4d1 hh_rvM4d2 hh_rvM4u1 hh_rvM4u2 hh_rvM5d hh_rvM5u hh_rvPV hh_rvQID hh_rvSD hh_rvSGa hh_rvSGb hh_rvSQ1 hh_rvST1 hh_rvSTna hh_rvSTnb hh_rvSTnc hh_rvSTnd hh_rvTRI hh_rvTRv hh_rwA0 hh_rwAe hh_rwAm hh_rwAn hh_rwAo hh_rwAo0 hh_rwB00 hh_rwB01 hh_rwB02 hh_rwB1 hh_rwB2 hh_rwB5 hh_rwC00 hh_rwC01 hh_rwC1 hh_rwC2 hh_rwFE0 hh_rwFE1 hh_rwFL0 hh_rwFLn hh_rwFLz hh_rwIC hh_rwK0 hh_rwKe hh_rwKnd hh_rwKnu hh_rwKs hh_rwKy hh_rwP0 hh_rwP1 hh_rwP1n hh_rwRK1 hh_rwRKd hh_rwSD0 hh_rwSD1 hh_rwSDa hh_rwSDb⟩ (fun G h => by cases h))))))))) (aAllc hh_reZ0 (aAllc hh_reZs (aAllc hh_reZn (aAllc hh_rhV (aAllc hh_rgE0 (aAllc hh_rhB1570 (aAllc hh_rhB1575 (aAllc hh_rhB1580 (aAllc hh_rhB1590 (aAllc hh_rhB1595 (aAllc hh_rhB1600 (aAllc hh_rhB1605 (aAllc hh_rhB1612 (aAllc hh_rhB1620 (aAllc hh_rhB1630 (aAllc hh_rvSD (aAllc hh_rhG (fun G h => by cases h)))))))))))))))))) fa_tb hJ hS hD1 ao_MTreadPosX ac_MTreadPosX (List.mem_of_getElem? (i := 2) rfl)
end FA
end
section
/-! the reference: u8 -/
noncomputable def y_MT_behind : jY := (⟨"ChessHouseModel$Texts", "behind", "(I)C"⟩, prog_18_method_36_code, 5, (some .char))
theorem m_MT_behind : jmth lw_tbl y_MT_behind 1 := ⟨jTA_in (wi := 2697) (jtF_ok rfl) rfl, jTA_in (wi := 315) (jtF_ok rfl) rfl, by decide, by decide, by decide +kernel⟩
theorem i_MT_behind : Jvm.Cond.instanceMethod y_MT_behind.1 ∈ jTA lw_tbl := jTA_in (wi := 2696) (jtF_ok rfl) rfl
theorem e_MT_behind : Jvm.Cond.selects y_MT_behind.1.cls y_MT_behind.1 y_MT_behind.1 ∈ jTA lw_tbl := jTA_in (wi := 193) (jtF_ok rfl) rfl
noncomputable def y_MT_spellWhole : jY := (⟨"ChessHouseModel$Texts", "spellWhole", "(I)V"⟩, prog_18_method_39_code, 3, none)
theorem m_MT_spellWhole : jmth lw_tbl y_MT_spellWhole 1 := ⟨jTA_in (wi := 2761) (jtF_ok rfl) rfl, jTA_in (wi := 315) (jtF_ok rfl) rfl, by decide, by decide, by decide +kernel⟩
theorem i_MT_spellWhole : Jvm.Cond.instanceMethod y_MT_spellWhole.1 ∈ jTA lw_tbl := jTA_in (wi := 2760) (jtF_ok rfl) rfl
theorem e_MT_spellWhole : Jvm.Cond.selects y_MT_spellWhole.1.cls y_MT_spellWhole.1 y_MT_spellWhole.1 ∈ jTA lw_tbl := jTA_in (wi := 206) (jtF_ok rfl) rfl
noncomputable def y_MT_fits : jY := (⟨"ChessHouseModel$Texts", "fits", "(IIIZ)Z"⟩, prog_18_method_41_code, 10, (some .boolean))
theorem m_MT_fits : jmth lw_tbl y_MT_fits 4 := ⟨jTA_in (wi := 2670) (jtF_ok rfl) rfl, jTA_in (wi := 315) (jtF_ok rfl) rfl, by decide, by decide, by decide +kernel⟩
theorem i_MT_fits : Jvm.Cond.instanceMethod y_MT_fits.1 ∈ jTA lw_tbl := jTA_in (wi := 2669) (jtF_ok rfl) rfl
theorem e_MT_fits : Jvm.Cond.selects y_MT_fits.1.cls y_MT_fits.1 y_MT_fits.1 ∈ jTA lw_tbl := jTA_in (wi := 187) (jtF_ok rfl) rfl
noncomputable def y_MT_understood : jY := (⟨"ChessHouseModel$Texts", "understood", "(II)I"⟩, prog_18_method_42_code, 6, (some .int))
theorem m_MT_understood : jmth lw_tbl y_MT_understood 2 := ⟨jTA_in (wi := 2666) (jtF_ok rfl) rfl, jTA_in (wi := 315) (jtF_ok rfl) rfl, by decide, by decide, by decide +kernel⟩
theorem i_MT_understood : Jvm.Cond.instanceMethod y_MT_understood.1 ∈ jTA lw_tbl := jTA_in (wi := 2665) (jtF_ok rfl) rfl
theorem e_MT_understood : Jvm.Cond.selects y_MT_understood.1.cls y_MT_understood.1 y_MT_understood.1 ∈ jTA lw_tbl := jTA_in (wi := 186) (jtF_ok rfl) rfl
noncomputable def rm_dep_all : List aDe := [(0, [0, 1, 2, 3, 4, 5, 6, 7, 8, 9, 10, 11, 12, 13, 14], none), (1, [], none), (2, [0, 1], none), (3, [], none), (4, [0, 1], none), (5, [], none), (6, [0, 1, 2, 3, 4], none), (7, [], none), (8, [0, 1, 2, 3, 4, 5, 6, 7, 8, 9, 10], none), (9, [], none), (10, [], none), (11, [0, 1, 2, 3, 4, 5, 6, 7, 8, 9, 10, 11], none), (12, [], none), (13, [], none), (14, [0, 1, 2], none), (15, [0, 1, 2, 3, 4, 5, 6], none), (16, [], none), (17, [], none), (18, [], none), (19, [0, 1, 2, 3, 4, 5, 6, 7, 8, 9], none), (20, [], none), (21, [], none), (22, [], none), (23, [0, 1, 2, 3, 4, 5, 6, 7, 8, 9], none), (24, [], none), (25, [0, 1, 2, 3, 4, 5, 6, 7, 8, 9, 10, 11, 12, 13, 14, 15, 16, 17, 18], none), (26, [0, 1, 2, 3, 4, 5, 6, 7, 8, 9, 10, 11, 12, 13, 14, 15, 16], none), (27, [], none), (28, [], none), (29, [], none), (30, [], none), (31, [], none), (32, [], none), (33, [], none), (34, [], none), (35, [], none), (36, [], none), (37, [], none), (38, [], none), (39, [], none), (40, [], none), (41, [], none), (42, [], none), (43, [], none), (44, [], none), (45, [], none), (46, [], none), (47, [], none), (48, [], none), (49, [], none), (50, [], none), (51, [], none), (52, [], none), (53, [], none), (54, [], none), (55, [0, 1, 2, 3, 4, 5, 6, 7, 8, 9, 10, 11, 12, 13, 14, 15, 16, 17, 18], none), (56, [], none), (57, [], none), (58, [], none), (59, [], none), (60, [], none), (61, [], none), (62, [0, 1, 2, 3, 4, 5, 6, 7, 8, 9, 10, 11, 12, 13, 14, 15, 16, 17, 18, 19, 20, 21, 22, 23, 24, 25, 26, 27, 28, 29, 30, 31, 32, 33, 34, 35, 36, 37, 38, 39], none), (63, [], none), (64, [], none), (65, [], none), (66, [], none), (67, [], none), (68, [], none), (69, [], none), (70, [], none), (71, [], none), (72, [], none), (73, [], none), (74, [], none), (75, [], none), (76, [], none), (77, [], none), (78, [], none), (79, [], none), (80, [], none), (81, [], none), (82, [], none), (83, [], none), (84, [], none), (85, [], none), (86, [], none), (87, [], none), (88, [0, 1, 2, 3, 4, 5, 6, 7, 8, 9, 10, 11, 12, 13, 14, 15, 16, 17, 18, 19, 20, 21, 22, 23, 24, 25, 26, 27, 28, 29, 30, 31, 32, 33, 34, 35, 36], none), (89, [], none), (90, [], none), (91, [], none), (92, [], none), (93, [], none), (94, [], none), (95, [], none), (96, [], none), (97, [], none), (98, [], none), (99, [], none), (100, [], none), (101, [], none), (102, [], none), (103, [], none), (104, [], none), (105, [], none), (106, [], none), (107, [], none), (108, [], none), (109, [0, 1, 2, 3, 4, 5, 6, 7, 8, 9, 10, 11, 12, 13], none), (110, [], none), (111, [], none), (112, [], none), (113, [], none), (114, [], none)]
noncomputable def rm_dep : List (List aDe) := [[(0, [77777], none)], [(26, [0, 2, 3, 4, 5, 8], none), (27, [], none), (30, [], none)], [(9, [], some ([(2, 1)], 0)), (16, [], some ([(2, 1)], 0)), (22, [], some ([(2, 1)], 0)), (24, [], some ([(2, 1)], 0))], [], [], [], [(26, [0, 2, 3, 4, 5, 8], none), (27, [], none), (30, [], none)], [], [], [], [(88, [2, 3, 4, 5], none), (90, [], none)], [(103, [], some ([(2, 1)], 0))], [], [(88, [15, 16, 17, 18, 19, 20], none), (97, [], some ([(1, 1)], 1)), (98, [], some ([(1, 1)], 1)), (99, [], some ([(1, 1)], 1)), (100, [], some ([(1, 1)], 1)), (101, [], some ([(1, 1)], 1)), (102, [], some ([(1, 1)], 1))], [], [(88, [9, 10, 11, 12], none), (91, [], some ([(1, 64)], 0)), (92, [], some ([(1, 1)], 0)), (93, [], some ([(1, 1)], 0)), (94, [], some ([(1, 1)], 0))], [(88, [2, 3, 4, 5], none), (90, [], none)], [], [], [], [(26, [0, 2, 3, 4, 5, 8], none), (27, [], none), (30, [], none), (25, [0, 1, 2, 3, 4, 7], none), (38, [], none), (39, [], none), (42, [], none)], [(26, [0, 2, 3, 4, 5, 8], none), (27, [], none), (30, [], none), (25, [0, 1, 3, 4, 7], none), (38, [], none), (39, [], none), (42, [], none)], [(88, [2, 3, 4, 5], none), (90, [], none)], [(88, [15, 16, 17, 18, 19], none), (97, [], some ([], 1)), (98, [], some ([], 1)), (99, [], some ([], 1)), (100, [], some ([], 1)), (101, [], some ([], 1))], [], [], [(88, [15, 16, 17, 18, 19], none), (97, [], some ([], 2)), (98, [], some ([], 2)), (99, [], some ([], 2)), (100, [], some ([], 2)), (101, [], some ([], 2))], [(88, [15, 16, 17, 18, 19], none), (97, [], some ([], 3)), (98, [], some ([], 3)), (99, [], some ([], 3)), (100, [], some ([], 3)), (101, [], some ([], 3))], [(88, [15, 16, 17, 18, 19], none), (97, [], some ([(1, 1)], 1)), (98, [], some ([(1, 1)], 1)), (99, [], some ([(1, 1)], 1)), (100, [], some ([(1, 1)], 1)), (101, [], some ([(1, 1)], 1))], [], [], [], [], [], [], [], [], [], [], [], [], [], [], [], [], [], [], [], [(88, [15, 16, 17, 18, 19], none), (97, [], some ([], 4)), (98, [], some ([], 4)), (99, [], some ([], 4)), (100, [], some ([], 4)), (101, [], some ([], 4))], [(88, [21, 22], none), (103, [], some ([], 2048)), (104, [], some ([], 1))], [(88, [2], none), (90, [], none)], [(88, [2], none), (90, [], none)], [(88, [2], none), (90, [], none)], [(88, [2], none), (90, [], none)], [(88, [2], none), (90, [], none)], [(88, [2], none), (90, [], none)], [(88, [2], none), (90, [], none)], [(88, [2], none), (90, [], none)], [(88, [2], none), (90, [], none)], [(88, [2], none), (90, [], none)], [(88, [2], none), (90, [], none)], [(88, [2], none), (90, [], none)], [(88, [2], none), (90, [], none)], [(88, [2], none), (90, [], none)], [], [], [], [], [], [], [], [], [], [], [], [], [(88, [21], none), (103, [], some ([(1, 2048)], 2048))], [(88, [21], none), (103, [], some ([(1, 2048)], 4096))], [], [], [(88, [21], none), (103, [], some ([], 4096))], [], [], [], [], [], [], [], [(88, [9], none), (91, [], some ([(1, 64), (2, 1)], 0))], [(88, [9], none), (91, [], some ([(1, 64), (2, 1)], 1))], [(88, [9, 10, 11, 12], none), (91, [], some ([(1, 64)], 64)), (92, [], some ([(1, 1)], 1)), (93, [], some ([(1, 1)], 1)), (94, [], some ([(1, 1)], 1))], [(88, [21, 22], none), (103, [], some ([(1, 2048)], 2048)), (104, [], some ([(1, 1)], 1))], [(88, [21, 22], none), (103, [], some ([(1, 2048)], 2048)), (104, [], some ([(1, 1)], 1))], [], [(88, [25], none)], [], [(105, [], none), (107, [], none)], [(88, [33], none), (107, [], none)], [(88, [21, 22], none), (103, [], some ([], 2048)), (104, [], some ([], 1))], [(88, [21], none), (103, [], some ([], 2048))], [], [], [], [], [], [], [], [], [], [], [], [], [], [], [], [], [], [], [], [], [], [], [(88, [2], none), (90, [], none)], [(88, [2], none), (90, [], none)], [(88, [2], none), (90, [], none)], [(88, [2], none), (90, [], none)], [(88, [2], none), (90, [], none)], [(88, [2], none), (90, [], none)], [(88, [2], none), (90, [], none)], [(88, [2], none), (90, [], none)], [(88, [2], none), (90, [], none)], [(88, [2], none), (90, [], none)], [(88, [2], none), (90, [], none)], [], [], [], [], [(88, [2], none), (90, [], none)], [(88, [2], none), (90, [], none)], [(88, [2], none), (90, [], none)], [(88, [2], none), (90, [], none)], [], [(88, [2], none), (90, [], none)], [(88, [2], none), (90, [], none)], [(88, [2], none), (90, [], none)], [(88, [2], none), (90, [], none)], [(88, [2], none), (90, [], none)], [], [(88, [2], none), (90, [], none)], [(88, [2], none), (90, [], none)], [(88, [2], none), (90, [], none)], [(88, [2], none), (90, [], none)], [(88, [2], none), (90, [], none)], [(88, [2], none), (90, [], none)], [], [], [(88, [2], none), (90, [], none)], [], [], [], [], [], [], [], [], [], [], [], [(88, [22], none), (104, [], some ([(1, 1)], 1))], [], [(88, [9, 10, 11, 12], none), (91, [], some ([(1, 64)], 0)), (92, [], some ([(1, 1)], 0)), (93, [], some ([(1, 1)], 0)), (94, [], some ([(1, 1)], 0))], [(88, [9, 10, 11, 12], none), (91, [], some ([(1, 64)], 64)), (92, [], some ([(1, 1)], 1)), (93, [], some ([(1, 1)], 1)), (94, [], some ([(1, 1)], 1))], [(88, [9, 10, 11, 12], none), (91, [], some ([(1, 64), (2, 64)], 0)), (92, [], some ([(1, 1), (2, 1)], 0)), (93, [], some ([(1, 1), (2, 1)], 0)), (94, [], some ([(1, 1), (2, 1)], 0))], [(88, [9, 10, 11, 12], none), (91, [], some ([(1, 64), (2, 64)], 64)), (92, [], some ([(1, 1), (2, 1)], 1)), (93, [], some ([(1, 1), (2, 1)], 1)), (94, [], some ([(1, 1), (2, 1)], 1))], [(88, [9, 10, 11, 12], none), (91, [], some ([(1, 64)], 64)), (92, [], some ([(1, 1)], 1)), (93, [], some ([(1, 1)], 1)), (94, [], some ([(1, 1)], 1)), (88, [2, 3], none), (90, [], none)], [(88, [9, 10, 11, 12], none), (91, [], some ([(1, 64)], 64)), (92, [], some ([(1, 1)], 1)), (93, [], some ([(1, 1)], 1)), (94, [], some ([(1, 1)], 1)), (88, [2, 3], none), (90, [], none)], [(88, [9, 10, 11, 12], none), (91, [], some ([(1, 64)], 64)), (92, [], some ([(1, 1)], 1)), (93, [], some ([(1, 1)], 1)), (94, [], some ([(1, 1)], 1)), (88, [2, 3], none), (90, [], none)], [(88, [9, 10, 11, 12], none), (91, [], some ([(1, 64)], 64)), (92, [], some ([(1, 1)], 1)), (93, [], some ([(1, 1)], 1)), (94, [], some ([(1, 1)], 1)), (88, [2, 3], none), (90, [], none)], [], [(88, [22], none), (104, [], some ([(1, 1)], 1))], [], [(88, [22], none), (104, [], some ([(1, 1)], 1))], [(88, [33, 34], none), (107, [], none), (108, [], some ([(1, 1)], 0))], [(88, [33, 34], none), (107, [], none), (108, [], some ([(1, 1)], 1))], [(105, [], some ([], 1))], [(105, [], some ([], 2))], [(105, [], some ([], 3))], [(105, [], some ([], 4))], [(88, [34], none), (108, [], some ([(1, 1)], 1))], [(88, [1, 0], none), (89, [], none)], [], [], [(88, [2], none), (90, [], none)], [(88, [2], none), (90, [], none)], [(88, [2], none), (90, [], none)], [(88, [2, 3, 4, 5], none), (90, [], none)], [(88, [2, 3, 4, 5], none), (90, [], none)], [(88, [2, 3, 4, 5], none), (90, [], none)], [(88, [2, 3, 4, 5], none), (90, [], none)], [(88, [2, 3, 4, 5], none), (90, [], none)], [(62, [24], none), (82, [], none)], [(62, [24], none), (82, [], none)], [(62, [24], none), (82, [], none)], [(62, [24], none), (82, [], none)], [(62, [24], none), (82, [], none)], [(62, [24], none), (82, [], none)], [(62, [24], none), (82, [], none)], [(62, [24], none), (82, [], none)], [(62, [24], none), (82, [], none)], [(62, [24], none), (82, [], none)], [(62, [24], none), (82, [], none)], [(62, [24], none), (82, [], none)], [(62, [24], none), (82, [], none)], [(62, [24], none), (82, [], none)], [(62, [24], none), (82, [], none)], [(62, [24], none), (82, [], none)], [], [], [], [], [(62, [29], none)], [(62, [31], none), (84, [], none)], [(62, [24], none), (82, [], none)], [(62, [24], none), (82, [], none)], [(62, [24], none), (82, [], none)], [], [], [], [], [], [(62, [24], none), (82, [], none)], [], [], [], [], [], [], [(62, [32, 33], none), (85, [], none)], [(62, [7, 8, 9, 10, 11, 16, 17], none), (65, [], none), (66, [], none), (67, [], none), (68, [], none), (69, [], none), (74, [], none), (75, [], none)], [(62, [32, 33], none), (85, [], none)], [(62, [7, 8, 9, 10, 11, 16, 17], none), (65, [], none), (66, [], none), (67, [], none), (68, [], none), (69, [], none), (74, [], none), (75, [], none)], [(62, [7, 8, 9, 10, 11, 16, 17], none), (65, [], none), (66, [], none), (67, [], none), (68, [], none), (69, [], none), (74, [], none), (75, [], none)], [(62, [7, 8, 9, 10, 11, 16, 17], none), (65, [], none), (66, [], none), (67, [], none), (68, [], none), (69, [], none), (74, [], none), (75, [], none)], [(62, [7, 8, 9, 10, 11, 16, 17], none), (65, [], none), (66, [], none), (67, [], none), (68, [], none), (69, [], none), (74, [], none), (75, [], none)], [(62, [7, 8, 9, 10, 11, 16, 17], none), (65, [], none), (66, [], none), (67, [], none), (68, [], none), (69, [], none), (74, [], none), (75, [], none), (62, [24, 25, 26, 27], none), (82, [], none)], [(62, [8, 9, 16, 17], none), (66, [], none), (67, [], none), (74, [], none), (75, [], none), (62, [24, 25, 26, 27], none), (82, [], none), (62, [32, 33, 29], none), (85, [], none)], [(62, [7, 8, 9, 10, 11, 16, 17], none), (65, [], none), (66, [], none), (67, [], none), (68, [], none), (69, [], none), (74, [], none), (75, [], none), (62, [34], none), (86, [], some ([(3, 1)], 0))], [(62, [7, 8, 9, 10, 11, 16, 17], none), (65, [], none), (66, [], none), (67, [], none), (68, [], none), (69, [], none), (74, [], none), (75, [], none), (62, [34], none), (86, [], some ([(3, 1)], 1))], [(62, [24, 16], none), (74, [], none), (82, [], some ([(2, 1)], 0))], [(62, [24, 16], none), (74, [], none), (82, [], some ([(2, 1)], 1))], [(62, [7, 8, 9, 10, 11, 16, 17], none), (65, [], none), (66, [], none), (67, [], none), (68, [], none), (69, [], none), (74, [], none), (75, [], none), (62, [24, 25, 26, 27], none), (82, [], none), (62, [34], none), (86, [], none)], [(62, [7, 8, 9, 10, 11, 16, 17], none), (65, [], none), (66, [], none), (67, [], none), (68, [], none), (69, [], none), (74, [], none), (75, [], none), (62, [24, 25, 26, 27], none), (82, [], none), (62, [34], none), (86, [], none)], [(62, [7, 8, 9, 10, 11, 16, 17], none), (65, [], none), (66, [], none), (67, [], none), (68, [], none), (69, [], none), (74, [], none), (75, [], none), (62, [34], none), (86, [], none)], [(62, [7, 8, 9, 10, 11, 16, 17], none), (65, [], none), (66, [], none), (67, [], none), (68, [], none), (69, [], none), (74, [], none), (75, [], none)], [(62, [7, 8, 9, 10, 11, 16, 17], none), (65, [], none), (66, [], none), (67, [], none), (68, [], none), (69, [], none), (74, [], none), (75, [], none)], [(62, [7, 8, 9, 10, 11, 16, 17], none), (65, [], none), (66, [], none), (67, [], none), (68, [], none), (69, [], none), (74, [], none), (75, [], none)], [(62, [10], none), (68, [], some ([(1, 1)], 1))], [(62, [11], none), (69, [], some ([(1, 1)], 1))], [(62, [8, 9, 10, 11, 16, 17], none), (74, [], none), (75, [], none), (66, [], some ([(1, 301), (4, 1)], 0)), (67, [], some ([(1, 301), (4, 1)], 0)), (68, [], some ([(1, 301), (4, 1)], 0)), (69, [], some ([(1, 301), (4, 1)], 0))], [(62, [8], none), (66, [], some ([(1, 301), (2, 1)], 1))], [(62, [9], none), (67, [], some ([(1, 301), (2, 1)], 1))], [(62, [8, 9, 10, 11, 16, 17], none), (74, [], none), (75, [], none), (66, [], some ([(1, 301), (2, 1)], 1)), (67, [], some ([(1, 301), (2, 1)], 1)), (68, [], some ([(1, 301), (2, 1)], 1)), (69, [], some ([(1, 301), (2, 1)], 1))], [(62, [7], none), (65, [], some ([(1, 1)], 1))], [(62, [8, 9, 10, 11, 16, 17], none), (74, [], none), (75, [], none), (66, [], none), (67, [], none), (68, [], none), (69, [], none)], [(62, [7], none), (65, [], none)], [(62, [7, 8, 9, 10, 11, 16, 17], none), (65, [], none), (66, [], none), (67, [], none), (68, [], none), (69, [], none), (74, [], none), (75, [], none)], [(62, [7, 8, 9, 10, 11, 16, 17], none), (65, [], none), (66, [], none), (67, [], none), (68, [], none), (69, [], none), (74, [], none), (75, [], none)], [(62, [7, 8, 9, 10, 11, 16, 17], none), (65, [], none), (66, [], none), (67, [], none), (68, [], none), (69, [], none), (74, [], none), (75, [], none)], [(62, [7, 8, 9, 10, 11, 16, 17], none), (65, [], none), (66, [], none), (67, [], none), (68, [], none), (69, [], none), (74, [], none), (75, [], none)], [(62, [7, 8, 9, 10, 11, 16, 17], none), (65, [], none), (66, [], none), (67, [], none), (68, [], none), (69, [], none), (74, [], none), (75, [], none)], [], [], [(62, [7, 8, 9, 10, 11, 16, 17], none), (65, [], none), (66, [], none), (67, [], none), (68, [], none), (69, [], none), (74, [], none), (75, [], none)], [(62, [7, 8, 9, 10, 11, 16, 17], none), (65, [], none), (66, [], none), (67, [], none), (68, [], none), (69, [], none), (74, [], none), (75, [], none)], [(62, [7, 8, 9, 10, 11, 16, 17], none), (65, [], none), (66, [], none), (67, [], none), (68, [], none), (69, [], none), (74, [], none), (75, [], none)], [(62, [7, 8, 9, 10, 11, 16, 17], none), (65, [], none), (66, [], none), (67, [], none), (68, [], none), (69, [], none), (74, [], none), (75, [], none)], [(62, [7, 8, 9, 10, 11, 16, 17], none), (65, [], none), (66, [], none), (67, [], none), (68, [], none), (69, [], none), (74, [], none), (75, [], none)], [(62, [7, 8, 9, 10, 11, 16, 17], none), (65, [], none), (66, [], none), (67, [], none), (68, [], none), (69, [], none), (74, [], none), (75, [], none)], [(62, [7, 8, 9, 10, 11, 16, 17], none), (65, [], none), (66, [], none), (67, [], none), (68, [], none), (69, [], none), (74, [], none), (75, [], none)], [(62, [7, 8, 9, 10, 11, 16, 17], none), (65, [], none), (66, [], none), (67, [], none), (68, [], none), (69, [], none), (74, [], none), (75, [], none)], [(62, [7, 10, 11], none), (65, [], none), (68, [], none), (69, [], none)], [(62, [16, 17], none), (74, [], none), (75, [], none)], [(62, [24, 25, 26, 27], none), (82, [], none)], [(62, [24, 16], none), (82, [], none), (74, [], some ([(1, 64), (2, 1)], 0))], [(62, [24, 16], none), (82, [], none), (74, [], some ([(1, 64), (2, 1)], 1))], [(62, [24], none), (82, [], some ([(1, 1)], 0))], [(62, [24], none), (82, [], some ([(1, 1)], 1))], [(62, [7], none), (65, [], none)], [(62, [17], none), (75, [], some ([(1, 5)], 1))], [(62, [17], none), (75, [], some ([(1, 5)], 2))], [(62, [17], none), (75, [], some ([(1, 5)], 3))], [(62, [17], none), (75, [], some ([(1, 5)], 5))], [], [], [], [], [], [], [], [], [(62, [24], none), (82, [], none)], [(62, [24], none), (82, [], none)], [(62, [24], none), (82, [], none)], [(62, [24], none), (82, [], none)], [(62, [24], none), (82, [], none)], [(62, [24], none), (82, [], none)], [(62, [24], none), (82, [], none)], [(62, [24], none), (82, [], none)], [(62, [24], none), (82, [], none)], [(62, [24], none), (82, [], none)], [(62, [24], none), (82, [], none)], [(62, [24], none), (82, [], none)], [(62, [24], none), (82, [], none)], [(62, [24], none), (82, [], none)], [(62, [24], none), (82, [], none)], [(62, [24], none), (82, [], none)], [(62, [24], none), (82, [], none)], [(62, [24], none), (82, [], none)], [(62, [24], none), (82, [], none)], [(62, [24], none), (82, [], none)], [(62, [24], none), (82, [], none)], [(62, [24], none), (82, [], none)], [(62, [24], none), (82, [], none)], [(62, [24], none), (82, [], none)], [(62, [24], none), (82, [], none)], [(62, [24], none), (82, [], none)], [(62, [24], none), (82, [], none)], [(62, [24], none), (82, [], none)], [(62, [24], none), (82, [], none)], [(62, [24], none), (82, [], none)], [(62, [24], none), (82, [], none)], [(62, [24], none), (82, [], none)], [(62, [24], none), (82, [], none)], [(62, [38, 39, 22], none), (80, [], none)], [(62, [24], none), (82, [], none)], [(62, [24], none), (82, [], none)], [(62, [24], none), (82, [], none)], [(62, [24], none), (82, [], none)], [(62, [24, 25, 26, 27], none), (82, [], none)], [(62, [24, 25, 26, 27], none), (82, [], none)], [(62, [24, 25, 26, 27], none), (82, [], none)], rm_dep_all, [], [(62, [32, 33], none), (85, [], none)], [(62, [32, 33], none), (85, [], none)], [(62, [12], none), (70, [], none)], [(62, [12], none), (70, [], none)], [(62, [12], none), (70, [], none)], [(62, [37, 1, 2], none), (63, [], none)], [(62, [7, 8, 9, 10, 11, 16, 17], none), (65, [], none), (66, [], none), (67, [], none), (68, [], none), (69, [], none), (74, [], none), (75, [], none)], [(62, [18], none), (76, [], none)], [(62, [12], none), (70, [], none)], [(62, [8, 9, 16, 17], none), (66, [], none), (67, [], none), (74, [], none), (75, [], none), (62, [32, 33], none), (85, [], none)], [(109, [5], none), (112, [], none)], [(62, [37, 1, 2], none), (63, [], none)], [(62, [37, 1, 2], none), (63, [], none)], [(62, [37, 1, 2], none), (63, [], none)], [(62, [37, 1, 2], none), (63, [], none)], [(62, [37, 1, 2], none), (63, [], none)], [], [], [], [], [], [(62, [37, 1, 2], none), (63, [], none)], [(62, [37, 1, 2], none), (63, [], none)], [(62, [37, 1, 2], none), (63, [], none)], [(62, [7, 8, 9, 10, 11, 16, 17], none), (65, [], none), (66, [], none), (67, [], none), (68, [], none), (69, [], none), (74, [], none), (75, [], none), (62, [24, 25, 26, 27], none), (82, [], none), (62, [32, 33], none), (85, [], none), (62, [29, 5, 6], none)], [(62, [7, 8, 9, 10, 11, 16, 17], none), (65, [], none), (66, [], none), (67, [], none), (68, [], none), (69, [], none), (74, [], none), (75, [], none)], [(62, [7, 8, 9, 10, 11, 16, 17], none), (65, [], none), (66, [], none), (67, [], none), (68, [], none), (69, [], none), (74, [], none), (75, [], none)], [(55, [14], none), (58, [], some ([(1, 1)], 0))], [(55, [14], none), (58, [], some ([(1, 1)], 1))], [(55, [14, 15], none), (58, [], some ([(1, 1)], 0)), (59, [], some ([(1, 1)], 0))], [(55, [14, 15], none), (58, [], some ([(1, 1)], 1)), (59, [], some ([(1, 1)], 1))], [(55, [14], none), (58, [], some ([(1, 1)], 1))], [(55, [14], none), (58, [], none)], [(88, [2], none), (90, [], none)], [(88, [2], none), (90, [], none)], [(88, [2], none), (90, [], none)], [(88, [2], none), (90, [], none)], [(88, [2], none), (90, [], none)], [(88, [2], none), (90, [], none)], [(62, [24], none), (88, [2], none), (90, [], none), (82, [], some ([(2, 1)], 0))], [(62, [24], none), (88, [2], none), (90, [], none), (82, [], some ([(2, 1)], 1))], [(88, [2], none), (90, [], none)], [], [(88, [2, 3, 4, 5], none), (90, [], none)], [(62, [29], none)], [(62, [31], none), (84, [], none)], [(62, [7, 8, 9, 10, 11, 16, 17], none), (65, [], none), (66, [], none), (67, [], none), (68, [], none), (69, [], none), (74, [], none), (75, [], none), (55, [17], none), (60, [], some ([(4, 1)], 0))], [(62, [7, 8, 9, 10, 11, 16, 17], none), (65, [], none), (66, [], none), (67, [], none), (68, [], none), (69, [], none), (74, [], none), (75, [], none), (55, [17], none), (60, [], some ([(4, 1)], 1))], [(62, [7, 8, 9, 10, 11, 16, 17], none), (65, [], none), (66, [], none), (67, [], none), (68, [], none), (69, [], none), (74, [], none), (75, [], none), (55, [17], none), (60, [], none)], [(88, [2], none), (62, [16], none), (74, [], none), (90, [], some ([(3, 1)], 0))], [(88, [2], none), (62, [16], none), (74, [], none), (90, [], some ([(3, 1)], 1))], [(62, [7, 8, 9, 10, 11, 16, 17], none), (65, [], none), (66, [], none), (67, [], none), (68, [], none), (69, [], none), (74, [], none), (75, [], none), (55, [17], none), (60, [], none), (88, [2, 3, 4, 5], none), (90, [], none)], [(62, [7, 8, 9, 10, 11, 16, 17], none), (65, [], none), (66, [], none), (67, [], none), (68, [], none), (69, [], none), (74, [], none), (75, [], none), (55, [17], none), (60, [], none), (88, [2, 3, 4, 5], none), (90, [], none)], [(62, [8, 9, 16, 17], none), (66, [], none), (67, [], none), (74, [], none), (75, [], none), (88, [2, 3, 4, 5], none), (90, [], none)], [(88, [9, 10, 11, 12], none), (91, [], some ([(1, 64), (2, -64)], 0)), (92, [], some ([(1, 1), (2, -1)], 0)), (93, [], some ([(1, 1), (2, -1)], 0)), (94, [], some ([(1, 1), (2, -1)], 0))], [(62, [24], none), (82, [], none)], [(109, [5], none), (112, [], none), (55, [7], none)], [(62, [24, 25, 26, 27], none), (82, [], none)], [(62, [30, 31], none), (83, [], none), (84, [], none)], [(62, [30], none), (83, [], some ([(1, 1)], 0))], [(62, [30], none), (83, [], some ([(1, 1)], 1))], [(62, [24], none), (82, [], some ([(1, 1)], 0))], [(62, [24], none), (82, [], some ([(1, 1)], 1))], [(62, [24], none), (82, [], none)], [(62, [24], none), (82, [], none)], [(62, [24], none), (82, [], none)], [(62, [24], none), (82, [], none)], [(62, [24], none), (82, [], none)], [(62, [24, 25, 26, 27], none), (82, [], none)], [], [], [], [], [], [], [], [], [(62, [31], none), (84, [], some ([], 1))], [(62, [31], none), (84, [], some ([], 2))], [(62, [31], none), (84, [], some ([], 3))], [], [], [], [], [], [], [], [], [], [], [], [], [], [], [], [(62, [32], none), (85, [], some ([(1, 1)], 0))], [(62, [32], none), (85, [], some ([(1, 1)], 1))], [], [], [], [], [], [], [], [], [], [(62, [7, 8, 9, 10, 11, 16, 17], none), (65, [], none), (66, [], none), (67, [], none), (68, [], none), (69, [], none), (74, [], none), (75, [], none), (62, [34], none), (86, [], none)], [(62, [7, 8, 9, 10, 11, 16, 17], none), (65, [], none), (66, [], none), (67, [], none), (68, [], none), (69, [], none), (74, [], none), (75, [], none)], [], [], [(62, [7, 8, 9, 10, 11, 16, 17], none), (65, [], none), (66, [], none), (67, [], none), (68, [], none), (69, [], none), (74, [], none), (75, [], none)], [], [], [(62, [7, 8, 9, 10, 11, 16, 17], none), (65, [], none), (66, [], none), (67, [], none), (68, [], none), (69, [], none), (74, [], none), (75, [], none)], [], [(62, [7, 8, 9, 10, 11, 16, 17], none), (65, [], none), (66, [], none), (67, [], none), (68, [], none), (69, [], none), (74, [], none), (75, [], none)], [(62, [7, 8, 9, 10, 11, 16, 17], none), (65, [], none), (66, [], none), (67, [], none), (68, [], none), (69, [], none), (74, [], none), (75, [], none)], [(62, [7, 8, 9, 10, 11, 16, 17], none), (65, [], none), (66, [], none), (67, [], none), (68, [], none), (69, [], none), (74, [], none), (75, [], none)], [(62, [7, 8, 9, 10, 11, 16, 17], none), (65, [], none), (66, [], none), (67, [], none), (68, [], none), (69, [], none), (74, [], none), (75, [], none)], [(62, [8, 9, 16, 17], none), (66, [], none), (67, [], none), (74, [], none), (75, [], none)], [(62, [32, 33], none), (85, [], none)], [(62, [7, 8, 9, 10, 11, 16, 17], none), (65, [], none), (66, [], none), (67, [], none), (68, [], none), (69, [], none), (74, [], none), (75, [], none), (55, [17], none), (60, [], none)], [(62, [7, 8, 9, 10, 11, 16, 17], none), (65, [], none), (66, [], none), (67, [], none), (68, [], none), (69, [], none), (74, [], none), (75, [], none), (55, [17], none), (60, [], none)], [(62, [7, 8, 9, 10, 11, 16, 17], none), (65, [], none), (66, [], none), (67, [], none), (68, [], none), (69, [], none), (74, [], none), (75, [], none), (55, [17], none), (60, [], none)], [], [(88, [33], none), (107, [], none)], [], [], [], [], [], [(109, [3], none), (110, [], none)], [(109, [3], none), (110, [], none)], [(109, [3], none), (110, [], none)], [], [], [], [(107, [], none)], [(107, [], none)], [(107, [], none)], [(107, [], none)], [(62, [7, 8, 9, 10, 11, 16, 17], none), (65, [], none), (66, [], none), (67, [], none), (68, [], none), (69, [], none), (74, [], none), (75, [], none)], [], [], [], [], [(109, [3], none), (110, [], none)], [(109, [3], none), (110, [], none)], [(109, [3], none), (110, [], none)], [], [], [], [], [], rm_dep_all, rm_dep_all, rm_dep_all]
noncomputable def ag_rkRY0 : aCon := (y_BO_inCheck, false, 7, ([(.inl (0, 63), none), (.inl (0, 63), none), (.inl (0, 0), none), (.inl (1, 1), none), (.inl (-7, 7), none), (.inl (-7, 7), none), (.inl (-1, 63), none)], ([], [], [([(4, 1)], 0), ([(4, -1)], 0), ([(5, 1)], -1)], [(3620, [0, 1, 4, 5]), (1924, [0, 2, 3, 6])])), (none, [], ([], [], [([(6, 1)], 0)], [(5477, [0, 1, 2, 3, 6])]), [[]]), ([], []), { frames := 0, cells := 0, slots := 0, locals := 0 })
noncomputable def ag_rkRY1 : aCon := (y_BO_inCheck, false, 7, ([(.inl (0, 63), none), (.inl (0, 63), none), (.inl (0, 0), none), (.inl (-1, -1), none), (.inl (-7, 7), none), (.inl (-7, 7), none), (.inl (-1, 63), none)], ([], [], [([(4, 1)], 0), ([(4, -1)], 0), ([(5, -1)], -1)], [(3620, [0, 1, 4, 5]), (1924, [0, 2, 3, 6])])), (none, [], ([], [], [([(6, 1)], 0)], [(5477, [0, 1, 2, 3, 6])]), [[]]), ([], []), { frames := 0, cells := 0, slots := 0, locals := 0 })
noncomputable def ag_rkRY2 : aCon := (y_BO_inCheck, false, 7, ([(.inl (0, 63), none), (.inl (0, 63), none), (.inl (1, 1), none), (.inl (0, 0), none), (.inl (-7, 7), none), (.inl (-7, 7), none), (.inl (-1, 63), none)], ([], [], [([(4, 1)], -1), ([(5, 1)], 0), ([(5, -1)], 0)], [(3620, [0, 1, 4, 5]), (1924, [0, 2, 3, 6])])), (none, [], ([], [], [([(6, 1)], 0)], [(5477, [0, 1, 2, 3, 6])]), [[]]), ([], []), { frames := 0, cells := 0, slots := 0, locals := 0 })
noncomputable def ag_rkRY3 : aCon := (y_BO_inCheck, false, 7, ([(.inl (0, 63), none), (.inl (0, 63), none), (.inl (-1, -1), none), (.inl (0, 0), none), (.inl (-7, 7), none), (.inl (-7, 7), none), (.inl (-1, 63), none)], ([], [], [([(4, -1)], -1), ([(5, 1)], 0), ([(5, -1)], 0)], [(3620, [0, 1, 4, 5]), (1924, [0, 2, 3, 6])])), (none, [], ([], [], [([(6, 1)], 0)], [(5477, [0, 1, 2, 3, 6])]), [[]]), ([], []), { frames := 0, cells := 0, slots := 0, locals := 0 })
noncomputable def ag_rkRY4 : aCon := (y_BO_inCheck, false, 7, ([(.inl (0, 63), none), (.inl (0, 63), none), (.inl (1, 1), none), (.inl (1, 1), none), (.inl (-7, 7), none), (.inl (-7, 7), none), (.inl (-1, 63), none)], ([], [], [([(4, 1)], -1), ([(5, 1)], -1), ([(4, 1), (5, -1)], 0), ([(4, -1), (5, 1)], 0)], [(3620, [0, 1, 4, 5]), (1924, [0, 2, 3, 6])])), (none, [], ([], [], [([(6, 1)], 0)], [(5477, [0, 1, 2, 3, 6])]), [[]]), ([], []), { frames := 0, cells := 0, slots := 0, locals := 0 })
noncomputable def ag_rkRY5 : aCon := (y_BO_inCheck, false, 7, ([(.inl (0, 63), none), (.inl (0, 63), none), (.inl (-1, -1), none), (.inl (-1, -1), none), (.inl (-7, 7), none), (.inl (-7, 7), none), (.inl (-1, 63), none)], ([], [], [([(4, -1)], -1), ([(5, -1)], -1), ([(4, -1), (5, 1)], 0), ([(4, 1), (5, -1)], 0)], [(3620, [0, 1, 4, 5]), (1924, [0, 2, 3, 6])])), (none, [], ([], [], [([(6, 1)], 0)], [(5477, [0, 1, 2, 3, 6])]), [[]]), ([], []), { frames := 0, cells := 0, slots := 0, locals := 0 })
noncomputable def ag_rkRY6 : aCon := (y_BO_inCheck, false, 7, ([(.inl (0, 63), none), (.inl (0, 63), none), (.inl (1, 1), none), (.inl (-1, -1), none), (.inl (-7, 7), none), (.inl (-7, 7), none), (.inl (-1, 63), none)], ([], [], [([(4, 1)], -1), ([(5, -1)], -1), ([(4, 1), (5, 1)], 0), ([(4, -1), (5, -1)], 0)], [(3620, [0, 1, 4, 5]), (1924, [0, 2, 3, 6])])), (none, [], ([], [], [([(6, 1)], 0)], [(5477, [0, 1, 2, 3, 6])]), [[]]), ([], []), { frames := 0, cells := 0, slots := 0, locals := 0 })
noncomputable def ag_rkRY7 : aCon := (y_BO_inCheck, false, 7, ([(.inl (0, 63), none), (.inl (0, 63), none), (.inl (-1, -1), none), (.inl (1, 1), none), (.inl (-7, 7), none), (.inl (-7, 7), none), (.inl (-1, 63), none)], ([], [], [([(4, -1)], -1), ([(5, 1)], -1), ([(4, -1), (5, -1)], 0), ([(4, 1), (5, 1)], 0)], [(3620, [0, 1, 4, 5]), (1924, [0, 2, 3, 6])])), (none, [], ([], [], [([(6, 1)], 0)], [(5477, [0, 1, 2, 3, 6])]), [[]]), ([], []), { frames := 0, cells := 0, slots := 0, locals := 0 })
noncomputable def ag_rkRYnu : aCon := (y_BO_inCheck, false, 6, ([(.inl (0, 63), none), (.inl (0, 63), none), (.inl (-1, 1), none), (.inl (-1, 1), none), (.inl (0, 63), none), (.inl (-1, 63), none)], ([], [], [([(4, 1), (1, -1)], -1)], [(5477, [0, 1, 2, 3, 4]), (1924, [4, 2, 3, 5])])), (none, [], ([], [], [([(5, 1)], 0)], [(5477, [0, 1, 2, 3, 5])]), [[]]), ([], []), { frames := 0, cells := 0, slots := 0, locals := 0 })
noncomputable def ag_rkRYnd : aCon := (y_BO_inCheck, false, 6, ([(.inl (0, 63), none), (.inl (0, 63), none), (.inl (-1, 1), none), (.inl (-1, 1), none), (.inl (0, 63), none), (.inl (-1, 63), none)], ([], [], [([(4, -1), (1, 1)], -1)], [(5477, [0, 1, 2, 3, 4]), (1924, [4, 2, 3, 5])])), (none, [], ([], [], [([(5, 1)], 0)], [(5477, [0, 1, 2, 3, 5])]), [[]]), ([], []), { frames := 0, cells := 0, slots := 0, locals := 0 })
noncomputable def ag_rkRYq0 : aCon := (y_BO_inCheck, false, 5, ([(.inl (0, 63), none), (.inl (0, 63), none), (.inl (-1, 1), none), (.inl (1, 1), none), (.inl (0, 63), none)], ([], [], [], [(5477, [0, 1, 2, 3, 4])])), (none, [], ([], [], [([(1, 1), (4, -1)], 0)], []), [[]]), ([], []), { frames := 0, cells := 0, slots := 0, locals := 0 })
noncomputable def ag_rkRYq1 : aCon := (y_BO_inCheck, false, 5, ([(.inl (0, 63), none), (.inl (0, 63), none), (.inl (-1, 1), none), (.inl (-1, -1), none), (.inl (0, 63), none)], ([], [], [], [(5477, [0, 1, 2, 3, 4])])), (none, [], ([], [], [([(1, -1), (4, 1)], 0)], []), [[]]), ([], []), { frames := 0, cells := 0, slots := 0, locals := 0 })
noncomputable def ag_rkRYq2 : aCon := (y_BO_inCheck, false, 5, ([(.inl (0, 63), none), (.inl (0, 63), none), (.inl (1, 1), none), (.inl (0, 0), none), (.inl (0, 63), none)], ([], [], [], [(5477, [0, 1, 2, 3, 4])])), (none, [], ([], [], [([(1, 1), (4, -1)], 0)], []), [[]]), ([], []), { frames := 0, cells := 0, slots := 0, locals := 0 })
noncomputable def ag_rkRYq3 : aCon := (y_BO_inCheck, false, 5, ([(.inl (0, 63), none), (.inl (0, 63), none), (.inl (-1, -1), none), (.inl (0, 0), none), (.inl (0, 63), none)], ([], [], [], [(5477, [0, 1, 2, 3, 4])])), (none, [], ([], [], [([(1, -1), (4, 1)], 0)], []), [[]]), ([], []), { frames := 0, cells := 0, slots := 0, locals := 0 })
noncomputable def ag_rkU0 : aCon := (y_BO_inCheck, false, 2, ([(.inr (some (.inl (false, 62))), none), (.inl (-1, -1), none)], ([], [], [], [])), (none, [], ([], [], [], [(5506, [0, 1])]), [[]]), ([], []), { frames := 0, cells := 0, slots := 0, locals := 0 })
noncomputable def ag_rkUy : aCon := (y_BO_inCheck, false, 4, ([(.inr (some (.inl (false, 62))), none), (.inl (0, 2047), none), (.inl (0, 24575), none), (.inl (0, 2048), none), (.inr (some (.inl (false, 85))), none)], ([(0, 32, 4), (0, 33, 3)], [(4, ([(1, 1)], 0), 2)], [([(3, 1), (1, -1)], -1)], [])), (none, [], ([], [], [], [(5506, [0, 2])]), [[]]), ([], []), { frames := 0, cells := 0, slots := 0, locals := 0 })
noncomputable def ag_rkUe : aCon := (y_BO_inCheck, false, 2, ([(.inr (some (.inl (false, 62))), none), (.inl (-2, 24575), none)], ([], [], [], [(5506, [0, 1])])), (none, [], ([], [], [], [(5490, [0, 1])]), [[]]), ([], []), { frames := 0, cells := 0, slots := 0, locals := 0 })
noncomputable def ag_rkUn : aCon := (y_BO_inCheck, false, 2, ([(.inr (some (.inl (false, 62))), none), (.inl (-2, -1), none)], ([], [], [], [])), (none, [], ([], [], [], [(5490, [0, 1])]), [[]]), ([], []), { frames := 0, cells := 0, slots := 0, locals := 0 })
end
section
/-! the reference: u9 -/
noncomputable def y_MT_resultHere : jY := (⟨"ChessHouseModel$Texts", "resultHere", "()I"⟩, prog_18_method_63_code, 2, (some .int))
theorem m_MT_resultHere : jmth lw_tbl y_MT_resultHere 0 := ⟨jTA_in (wi := 2650) (jtF_ok rfl) rfl, jTA_in (wi := 315) (jtF_ok rfl) rfl, by decide, by decide, by decide +kernel⟩
theorem i_MT_resultHere : Jvm.Cond.instanceMethod y_MT_resultHere.1 ∈ jTA lw_tbl := jTA_in (wi := 2649) (jtF_ok rfl) rfl
theorem e_MT_resultHere : Jvm.Cond.selects y_MT_resultHere.1.cls y_MT_resultHere.1 y_MT_resultHere.1 ∈ jTA lw_tbl := jTA_in (wi := 182) (jtF_ok rfl) rfl
noncomputable def y_MT_readMoveNumber : jY := (⟨"ChessHouseModel$Texts", "readMoveNumber", "()I"⟩, prog_18_method_66_code, 4, (some .int))
theorem m_MT_readMoveNumber : jmth lw_tbl y_MT_readMoveNumber 0 := ⟨jTA_in (wi := 2658) (jtF_ok rfl) rfl, jTA_in (wi := 315) (jtF_ok rfl) rfl, by decide, by decide, by decide +kernel⟩
theorem i_MT_readMoveNumber : Jvm.Cond.instanceMethod y_MT_readMoveNumber.1 ∈ jTA lw_tbl := jTA_in (wi := 2657) (jtF_ok rfl) rfl
theorem e_MT_readMoveNumber : Jvm.Cond.selects y_MT_readMoveNumber.1.cls y_MT_readMoveNumber.1 y_MT_readMoveNumber.1 ∈ jTA lw_tbl := jTA_in (wi := 184) (jtF_ok rfl) rfl
noncomputable def y_MT_addMarkTo : jY := (⟨"ChessHouseModel$Texts", "addMarkTo", "(III)V"⟩, prog_18_method_64_code, 5, none)
theorem m_MT_addMarkTo : jmth lw_tbl y_MT_addMarkTo 3 := ⟨jTA_in (wi := 2717) (jtF_ok rfl) rfl, jTA_in (wi := 315) (jtF_ok rfl) rfl, by decide, by decide, by decide +kernel⟩
theorem i_MT_addMarkTo : Jvm.Cond.instanceMethod y_MT_addMarkTo.1 ∈ jTA lw_tbl := jTA_in (wi := 2716) (jtF_ok rfl) rfl
theorem e_MT_addMarkTo : Jvm.Cond.selects y_MT_addMarkTo.1.cls y_MT_addMarkTo.1 y_MT_addMarkTo.1 ∈ jTA lw_tbl := jTA_in (wi := 198) (jtF_ok rfl) rfl
noncomputable def y_MT_readMarks : jY := (⟨"ChessHouseModel$Texts", "readMarks", "(II)I"⟩, prog_18_method_65_code, 6, (some .int))
theorem m_MT_readMarks : jmth lw_tbl y_MT_readMarks 2 := ⟨jTA_in (wi := 2713) (jtF_ok rfl) rfl, jTA_in (wi := 315) (jtF_ok rfl) rfl, by decide, by decide, by decide +kernel⟩
theorem i_MT_readMarks : Jvm.Cond.instanceMethod y_MT_readMarks.1 ∈ jTA lw_tbl := jTA_in (wi := 2712) (jtF_ok rfl) rfl
theorem e_MT_readMarks : Jvm.Cond.selects y_MT_readMarks.1.cls y_MT_readMarks.1 y_MT_readMarks.1 ∈ jTA lw_tbl := jTA_in (wi := 197) (jtF_ok rfl) rfl
noncomputable def y_MT_readRemarks : jY := (⟨"ChessHouseModel$Texts", "readRemarks", "(II)I"⟩, prog_18_method_61_code, 11, (some .int))
theorem m_MT_readRemarks : jmth lw_tbl y_MT_readRemarks 2 := ⟨jTA_in (wi := 2642) (jtF_ok rfl) rfl, jTA_in (wi := 315) (jtF_ok rfl) rfl, by decide, by decide, by decide +kernel⟩
theorem i_MT_readRemarks : Jvm.Cond.instanceMethod y_MT_readRemarks.1 ∈ jTA lw_tbl := jTA_in (wi := 2641) (jtF_ok rfl) rfl
theorem e_MT_readRemarks : Jvm.Cond.selects y_MT_readRemarks.1.cls y_MT_readRemarks.1 y_MT_readRemarks.1 ∈ jTA lw_tbl := jTA_in (wi := 180) (jtF_ok rfl) rfl
noncomputable def ag_rlL0 : aCon := (y_BO_inCheck, false, 4, ([(.inr (some (.inl (false, 62))), none), (.inl (0, 0), none), (.inl (0, 131072), none), (.inl (0, 65536), none)], ([(0, 37, 2), (0, 1, 3)], [], [([(2, 1), (3, -1)], 0)], [])), (none, [], ([], [], [], [(5570, [0, 1])]), [[]]), ([], []), { frames := 0, cells := 0, slots := 0, locals := 0 })
noncomputable def ag_rlL1 : aCon := (y_BO_inCheck, false, 4, ([(.inr (some (.inl (false, 62))), none), (.inl (0, 65535), none), (.inl (0, 65535), none), (.inl (0, 65536), none), (.inr (some (.inl (false, 63))), none)], ([(0, 2, 4), (0, 37, 2), (0, 1, 3)], [(4, ([(2, 1)], 0), 1)], [([(3, 1), (2, -1)], -1)], [])), (none, [], ([], [], [], [(5570, [0, 1])]), [[]]), ([], []), { frames := 0, cells := 0, slots := 0, locals := 0 })
noncomputable def ag_rlLe : aCon := (y_BO_inCheck, false, 3, ([(.inr (some (.inl (false, 62))), none), (.inl (0, 65535), none), (.inl (0, 65535), none)], ([], [], [], [(5570, [0, 1]), (5570, [0, 2])])), (none, [], ([], [], [([(1, 1), (2, -1)], 0), ([(1, -1), (2, 1)], 0)], []), [[]]), ([], []), { frames := 0, cells := 0, slots := 0, locals := 0 })
noncomputable def ag_rlAT : aCon := (y_BO_inCheck, false, 1, ([(.inl (0, 131072), none)], ([], [], [([(0, -1)], 65535)], [])), (none, [], ([], [], [([(0, -1)], 65535)], []), [[]]), ([], []), { frames := 0, cells := 0, slots := 0, locals := 0 })
noncomputable def ag_rlAU : aCon := (y_BO_inCheck, false, 1, ([(.inl (0, 131072), none)], ([], [], [([(0, -1)], 65536)], [])), (none, [], ([], [], [([(0, -1)], 65536)], []), [[]]), ([], []), { frames := 0, cells := 0, slots := 0, locals := 0 })
noncomputable def ag_rlM3 : aCon := (y_BO_inCheck, false, 4, ([(.inr (some (.inl (false, 62))), none), (.inl (0, 1), none), (.inl (0, 300), none), (.inl (0, 4), none), (.inr (some (.inl (false, 70))), none)], ([(0, 12, 4)], [(4, ([(1, 301), (2, 1)], 0), 3)], [], [(5539, [0, 1, 2])])), (none, [], ([], [], [([(3, -1)], 3)], []), [[]]), ([], []), { frames := 0, cells := 0, slots := 0, locals := 0 })
noncomputable def ag_rlMZ : aCon := (y_BO_inCheck, false, 3, ([(.inr (some (.inl (false, 62))), none), (.inl (0, 1), none), (.inl (0, 300), none)], ([], [], [], [(5523, [0, 1, 2])])), (none, [], ([], [], [], [(5539, [0, 1, 2])]), [[]]), ([], []), { frames := 0, cells := 0, slots := 0, locals := 0 })
noncomputable def ag_rlMc : aCon := (y_BO_inCheck, false, 4, ([(.inr (some (.inl (false, 62))), none), (.inl (0, 1), none), (.inl (0, 300), none), (.inl (0, 3), none), (.inr (some (.inl (false, 70))), none)], ([(0, 12, 4)], [(4, ([(1, 301), (2, 1)], 0), 3)], [], [])), (none, [], ([], [], [], [(5539, [0, 1, 2])]), [[]]), ([], []), { frames := 0, cells := 0, slots := 0, locals := 0 })
noncomputable def ag_rlTC : aCon := (y_BO_inCheck, false, 3, ([(.inr (some (.inl (false, 62))), none), (.inl (0, 1), none), (.inl (0, 8), none), (.inr (some (.inl (false, 76))), none)], ([(0, 18, 3)], [(3, ([(1, 1)], 0), 2)], [], [])), (none, [], ([], [], [], [(5603, [0, 1, 2])]), [[]]), ([], []), { frames := 0, cells := 0, slots := 0, locals := 0 })
noncomputable def ag_rlTD : aCon := (y_BO_inCheck, false, 4, ([(.inr (some (.inl (false, 62))), none), (.inl (0, 1), none), (.inl (0, 8), none), (.inl (0, 7), none), (.inr (some (.inl (false, 76))), none)], ([(0, 18, 4)], [(4, ([(1, 1)], 0), 2)], [], [(5603, [0, 1, 3])])), (none, [], ([], [], [([(2, -1)], 7)], []), [[]]), ([], []), { frames := 0, cells := 0, slots := 0, locals := 0 })
noncomputable def ag_rlGX : aCon := (y_BO_inCheck, false, 2, ([(.inr (some (.inl (false, 62))), none), (.inl (1, 1), none)], ([], [], [], [(4514, [0, 1])])), (none, [], ([], [], [], [(4513, [0])]), [[]]), ([], []), { frames := 0, cells := 0, slots := 0, locals := 0 })
end
section
/-! the reference: uA -/
noncomputable def y_MT_readMove : jY := (⟨"ChessHouseModel$Texts", "readMove", "(II)I"⟩, prog_18_method_67_code, 5, (some .int))
theorem m_MT_readMove : jmth lw_tbl y_MT_readMove 2 := ⟨jTA_in (wi := 2662) (jtF_ok rfl) rfl, jTA_in (wi := 315) (jtF_ok rfl) rfl, by decide, by decide, by decide +kernel⟩
theorem i_MT_readMove : Jvm.Cond.instanceMethod y_MT_readMove.1 ∈ jTA lw_tbl := jTA_in (wi := 2661) (jtF_ok rfl) rfl
theorem e_MT_readMove : Jvm.Cond.selects y_MT_readMove.1.cls y_MT_readMove.1 y_MT_readMove.1 ∈ jTA lw_tbl := jTA_in (wi := 185) (jtF_ok rfl) rfl
noncomputable def y_MT_readLine : jY := (⟨"ChessHouseModel$Texts", "readLine", "(III)I"⟩, prog_18_method_68_code, 8, (some .int))
theorem m_MT_readLine : jmth lw_tbl y_MT_readLine 3 := ⟨jTA_in (wi := 2646) (jtF_ok rfl) rfl, jTA_in (wi := 315) (jtF_ok rfl) rfl, by decide, by decide, by decide +kernel⟩
theorem i_MT_readLine : Jvm.Cond.instanceMethod y_MT_readLine.1 ∈ jTA lw_tbl := jTA_in (wi := 2645) (jtF_ok rfl) rfl
theorem e_MT_readLine : Jvm.Cond.selects y_MT_readLine.1.cls y_MT_readLine.1 y_MT_readLine.1 ∈ jTA lw_tbl := jTA_in (wi := 181) (jtF_ok rfl) rfl
noncomputable def ag_rlLp : aCon := (y_BO_inCheck, false, 4, ([(.inr (some (.inl (false, 62))), none), (.inl (0, 65535), none), (.inl (0, 131072), none), (.inl (0, 65536), none)], ([(0, 37, 2), (0, 1, 3)], [], [([(1, 1)], -1)], [(5570, [0, 1])])), (none, [], ([], [], [([(3, 1), (2, -1)], -1)], []), [[]]), ([], []), { frames := 0, cells := 0, slots := 0, locals := 0 })
noncomputable def ag_roK : aCon := (y_BO_inCheck, false, 6, ([(.inr (some (.inl (false, 62))), none), (.inr (some (.inl (false, 65))), none), (.inl (0, 1), none), (.inl (0, 300), none), (.inl (0, 1), none), (.inl (0, 300), none)], ([(0, 7, 1)], [], [([(4, 1), (2, 1)], -1), ([(4, -1), (2, -1)], 1)], [(5587, [0, 2, 3])])), (none, [], ([], [], [], [(71126, [1, 4, 5, 0, 2, 3])]), [[]]), ([], []), { frames := 0, cells := 0, slots := 0, locals := 0 })
noncomputable def ag_roC : aCon := (y_BO_inCheck, false, 6, ([(.inr (some (.inl (false, 62))), none), (.inr (some (.inl (false, 68))), none), (.inl (0, 1), none), (.inl (0, 300), none), (.inl (0, 601), none), (.inl (-1, 300), none)], ([(0, 10, 1)], [], [([(4, 1), (2, 301)], -301), ([(4, -1), (2, -301)], 601)], [(5587, [0, 2, 3])])), (none, [], ([], [], [], [(71126, [1, 4, 5, 0, 2, 3])]), [[]]), ([], []), { frames := 0, cells := 0, slots := 0, locals := 0 })
noncomputable def ag_roN : aCon := (y_BO_inCheck, false, 6, ([(.inr (some (.inl (false, 62))), none), (.inr (some (.inl (false, 69))), none), (.inl (0, 1), none), (.inl (0, 300), none), (.inl (0, 601), none), (.inl (-1, 300), none)], ([(0, 11, 1)], [], [([(4, 1), (2, 301)], -301), ([(4, -1), (2, -301)], 601)], [(5587, [0, 2, 3])])), (none, [], ([], [], [], [(71126, [1, 4, 5, 0, 2, 3])]), [[]]), ([], []), { frames := 0, cells := 0, slots := 0, locals := 0 })
noncomputable def ag_roP : aCon := (y_BO_inCheck, false, 6, ([(.inr (some (.inl (false, 62))), none), (.inr (some (.inl (false, 66))), none), (.inl (0, 1), none), (.inl (0, 300), none), (.inl (0, 601), none), (.inl (-1, 300), none)], ([(0, 8, 1)], [], [([(4, 1), (2, 301)], -301), ([(4, -1), (2, -301)], 601)], [(5587, [0, 2, 3])])), (none, [], ([], [], [], [(71126, [1, 4, 5, 0, 2, 3])]), [[]]), ([], []), { frames := 0, cells := 0, slots := 0, locals := 0 })
noncomputable def ag_roM : aCon := (y_BO_inCheck, false, 6, ([(.inr (some (.inl (false, 62))), none), (.inr (some (.inl (false, 67))), none), (.inl (0, 1), none), (.inl (0, 300), none), (.inl (0, 601), none), (.inl (-1, 24575), none)], ([(0, 9, 1)], [], [([(4, 1), (2, 301)], -301), ([(4, -1), (2, -301)], 601)], [(5587, [0, 2, 3])])), (none, [], ([], [], [], [(71126, [1, 4, 5, 0, 2, 3])]), [[]]), ([], []), { frames := 0, cells := 0, slots := 0, locals := 0 })
noncomputable def ag_roA : aCon := (y_BO_inCheck, false, 6, ([(.inr (some (.inl (false, 62))), none), (.inr (some (.inl (false, 74))), none), (.inl (0, 1), none), (.inl (0, 300), none), (.inl (0, 127), none), (.inl (0, 15), none)], ([(0, 16, 1)], [], [([(4, 1), (2, 64)], -64), ([(4, -1), (2, -64)], 127)], [(5587, [0, 2, 3])])), (none, [], ([], [], [], [(71126, [1, 4, 5, 0, 2, 3])]), [[]]), ([], []), { frames := 0, cells := 0, slots := 0, locals := 0 })
noncomputable def ag_roR : aCon := (y_BO_inCheck, false, 6, ([(.inr (some (.inl (false, 62))), none), (.inr (some (.inl (false, 75))), none), (.inl (0, 1), none), (.inl (0, 300), none), (.inl (0, 9), none), (.inl (-2147483648, 2147483647), none)], ([(0, 17, 1)], [], [([(4, 1), (2, 5)], -5), ([(4, -1), (2, -5)], 9)], [(5587, [0, 2, 3])])), (none, [], ([], [], [], [(71126, [1, 4, 5, 0, 2, 3])]), [[]]), ([], []), { frames := 0, cells := 0, slots := 0, locals := 0 })
noncomputable def ag_roMZ : aCon := (y_BO_inCheck, false, 4, ([(.inr (some (.inl (false, 62))), none), (.inr (some (.inl (false, 70))), none), (.inl (0, 601), none), (.inl (0, 0), none)], ([(0, 12, 1)], [], [], [])), (none, [], ([], [], [], [(71093, [1, 2, 3, 0, 2])]), [[]]), ([], []), { frames := 0, cells := 0, slots := 0, locals := 0 })
noncomputable def ag_roL0 : aCon := (y_BO_inCheck, false, 4, ([(.inr (some (.inl (false, 62))), none), (.inl (0, 1), none), (.inl (0, 300), none), (.inl (0, 301), none), (.inr (some (.inl (false, 65))), none)], ([(0, 7, 4)], [(4, ([(1, 1)], 0), 2)], [([(3, 1), (2, -1)], -1)], [(7250, [0, 1])])), (none, [], ([], [], [], [(7217, [3])]), [[]]), ([], []), { frames := 0, cells := 0, slots := 0, locals := 0 })
noncomputable def ag_roL1 : aCon := (y_BO_inCheck, false, 3, ([(.inr (some (.inl (false, 62))), none), (.inl (0, 1), none), (.inl (1, 300), none)], ([], [], [], [(7217, [2]), (3859, [0, 1, 2])])), (none, [], ([], [], [], [(7250, [0, 1])]), [[]]), ([], []), { frames := 0, cells := 0, slots := 0, locals := 0 })
noncomputable def ag_roMk : aCon := (y_BO_inCheck, false, 4, ([(.inr (some (.inl (false, 62))), none), (.inl (0, 1), none), (.inl (0, 300), none), (.inl (0, 601), none)], ([], [], [([(3, 1), (1, -301), (2, -1)], 0), ([(3, -1), (1, 301), (2, 1)], 0)], [(5554, [0, 3])])), (none, [], ([], [], [], [(5523, [0, 1, 2])]), [[]]), ([], []), { frames := 0, cells := 0, slots := 0, locals := 0 })
noncomputable def ag_rpN : aCon := (y_BO_inCheck, false, 3, ([(.inr (some (.inl (false, 62))), none), (.inl (0, 1), none), (.inl (-1031072, -1), none)], ([], [], [], [(7250, [0, 1])])), (none, [], ([], [], [], [(3811, [0, 1, 2]), (7233, [2]), (5619, [0, 1, 2])]), [[]]), ([], []), { frames := 0, cells := 0, slots := 0, locals := 0 })
noncomputable def ag_rpP : aCon := (y_BO_inCheck, false, 3, ([(.inr (some (.inl (false, 62))), none), (.inl (0, 1), none), (.inl (1, 300), none)], ([], [], [], [(3859, [0, 1, 2]), (7217, [2]), (5523, [0, 1, 2])])), (none, [], ([], [], [], [(3811, [0, 1, 2]), (7233, [2]), (5619, [0, 1, 2])]), [[]]), ([], []), { frames := 0, cells := 0, slots := 0, locals := 0 })
noncomputable def ag_rpS : aCon := (y_BO_inCheck, false, 3, ([(.inr (some (.inl (false, 62))), none), (.inl (0, 1), none), (.inl (0, 300), none)], ([], [], [], [(3923, [0, 1, 2])])), (none, [], ([], [], [], [(3521, [0]), (5635, [0, 1, 2])]), [[]]), ([], []), { frames := 0, cells := 0, slots := 0, locals := 0 })
noncomputable def ag_rpG : aCon := (y_BO_inCheck, false, 4, ([(.inr (some (.inl (false, 62))), none), (.inl (0, 1), none), (.inl (0, 300), none), (.inl (0, 24575), none)], ([], [], [], [(3859, [0, 1, 2]), (5635, [0, 1, 2]), (5490, [0, 3])])), (none, [], ([], [], [], [(4260, [0, 1, 2, 3])]), [[]]), ([], []), { frames := 0, cells := 0, slots := 0, locals := 0 })
noncomputable def ag_rlLz : aCon := (y_BO_inCheck, false, 4, ([(.inr (some (.inl (false, 62))), none), (.inl (0, 65535), none), (.inl (0, 131072), none), (.inl (0, 65536), none)], ([(0, 37, 2), (0, 1, 3)], [], [([(2, 1), (3, -1)], 0)], [(5570, [0, 1])])), (none, [], ([], [], [([(1, 1)], 0), ([(1, -1)], 0)], []), [[]]), ([], []), { frames := 0, cells := 0, slots := 0, locals := 0 })
noncomputable def ag_rpZ : aCon := (y_BO_inCheck, false, 3, ([(.inr (some (.inl (false, 62))), none), (.inl (0, 1), none), (.inl (1, 300), none)], ([], [], [], [(3811, [0, 1, 2]), (7233, [2]), (5619, [0, 1, 2])])), (none, [], ([], [], [], [(3859, [0, 1, 2]), (7217, [2]), (5523, [0, 1, 2])]), [[]]), ([], []), { frames := 0, cells := 0, slots := 0, locals := 0 })
noncomputable def ag_roLs : aCon := (y_BO_inCheck, false, 6, ([(.inr (some (.inl (false, 62))), none), (.inl (0, 1), none), (.inl (0, 300), none), (.inl (0, 300), none), (.inl (0, 1), none), (.inl (0, 300), none)], ([], [], [], [(3859, [0, 1, 2]), (7250, [0, 1]), (3859, [0, 1, 3]), (5587, [0, 4, 5])])), (none, [], ([], [], [], [(7202, [0, 1, 2, 2]), (3859, [0, 1, 3, 2, 2]), (5587, [0, 4, 5, 2, 2])]), [[]]), ([], []), { frames := 0, cells := 0, slots := 0, locals := 0 })
noncomputable def ag_roLr : aCon := (y_BO_inCheck, false, 5, ([(.inr (some (.inl (false, 62))), none), (.inl (0, 1), none), (.inl (0, 300), none), (.inl (0, 1), none), (.inl (0, 300), none)], ([], [], [], [(7202, [0, 1, 2, 2]), (7217, [2]), (5587, [0, 3, 4, 2, 2])])), (none, [], ([], [], [], [(7250, [0, 1]), (3859, [0, 1, 2]), (5587, [0, 3, 4])]), [[]]), ([], []), { frames := 0, cells := 0, slots := 0, locals := 0 })
noncomputable def ag_roLa : aCon := (y_BO_inCheck, false, 2, ([(.inr (some (.inl (false, 62))), none), (.inl (0, 1), none)], ([], [], [], [(7202, [0, 1])])), (none, [], ([], [], [], [(7250, [0, 1])]), [[]]), ([], []), { frames := 0, cells := 0, slots := 0, locals := 0 })
noncomputable def ag_roLb : aCon := (y_BO_inCheck, false, 2, ([(.inr (some (.inl (false, 62))), none), (.inl (0, 1), none)], ([], [], [], [(7250, [0, 1])])), (none, [], ([], [], [], [(7202, [0, 1])]), [[]]), ([], []), { frames := 0, cells := 0, slots := 0, locals := 0 })
noncomputable def ag_rlGE : aCon := (y_BO_inCheck, false, 2, ([(.inl (0, 65536), none), (.inl (0, 131072), none)], ([], [], [([(1, 1), (0, -1)], 0)], [])), (none, [], ([], [], [([(1, 1), (0, -1)], 0)], []), [[]]), ([], []), { frames := 0, cells := 0, slots := 0, locals := 0 })
end
section
/-! the reference: uB -/
noncomputable def y_MT_readTag : jY := (⟨"ChessHouseModel$Texts", "readTag", "(I)I"⟩, prog_18_method_60_code, 7, (some .int))
theorem m_MT_readTag : jmth lw_tbl y_MT_readTag 1 := ⟨jTA_in (wi := 2581) (jtF_ok rfl) rfl, jTA_in (wi := 315) (jtF_ok rfl) rfl, by decide, by decide, by decide +kernel⟩
theorem i_MT_readTag : Jvm.Cond.instanceMethod y_MT_readTag.1 ∈ jTA lw_tbl := jTA_in (wi := 2580) (jtF_ok rfl) rfl
theorem e_MT_readTag : Jvm.Cond.selects y_MT_readTag.1.cls y_MT_readTag.1 y_MT_readTag.1 ∈ jTA lw_tbl := jTA_in (wi := 168) (jtF_ok rfl) rfl
noncomputable def y_MT_readGame : jY := (⟨"ChessHouseModel$Texts", "readGame", "(I)I"⟩, prog_18_method_69_code, 5, (some .int))
theorem m_MT_readGame : jmth lw_tbl y_MT_readGame 1 := ⟨jTA_in (wi := 2569) (jtF_ok rfl) rfl, jTA_in (wi := 315) (jtF_ok rfl) rfl, by decide, by decide, by decide +kernel⟩
theorem i_MT_readGame : Jvm.Cond.instanceMethod y_MT_readGame.1 ∈ jTA lw_tbl := jTA_in (wi := 2568) (jtF_ok rfl) rfl
theorem e_MT_readGame : Jvm.Cond.selects y_MT_readGame.1.cls y_MT_readGame.1 y_MT_readGame.1 ∈ jTA lw_tbl := jTA_in (wi := 165) (jtF_ok rfl) rfl
noncomputable def y_MT_read : jY := (⟨"ChessHouseModel$Texts", "read", "()I"⟩, prog_18_method_73_code, 3, (some .int))
theorem m_MT_read : jmth lw_tbl y_MT_read 0 := ⟨jTA_in (wi := 2565) (jtF_ok rfl) rfl, jTA_in (wi := 315) (jtF_ok rfl) rfl, by decide, by decide, by decide +kernel⟩
theorem i_MT_read : Jvm.Cond.instanceMethod y_MT_read.1 ∈ jTA lw_tbl := jTA_in (wi := 2563) (jtF_ok rfl) rfl
theorem e_MT_read : Jvm.Cond.selects y_MT_read.1.cls y_MT_read.1 y_MT_read.1 ∈ jTA lw_tbl := jTA_in (wi := 2564) (jtF_ok rfl) rfl
noncomputable def ag_rvTg1 : aCon := (y_BO_inCheck, false, 1, ([(.inl (-2147483648, 2147483647), none)], ([], [], [], [])), (none, [], ([], [], [], [(5745, [0])]), [[]]), ([], []), { frames := 0, cells := 0, slots := 0, locals := 0 })
noncomputable def ag_rvTg2 : aCon := (y_BO_inCheck, false, 1, ([(.inl (-2147483648, 2147483647), none)], ([], [], [], [])), (none, [], ([], [], [], [(5761, [0])]), [[]]), ([], []), { frames := 0, cells := 0, slots := 0, locals := 0 })
noncomputable def ag_rvTg3 : aCon := (y_BO_inCheck, false, 1, ([(.inl (-2147483648, 2147483647), none)], ([], [], [], [])), (none, [], ([], [], [], [(5777, [0])]), [[]]), ([], []), { frames := 0, cells := 0, slots := 0, locals := 0 })
noncomputable def ag_rvTg4 : aCon := (y_BO_inCheck, false, 1, ([(.inl (-2147483648, 2147483647), none)], ([], [], [], [])), (none, [], ([], [], [], [(5793, [0])]), [[]]), ([], []), { frames := 0, cells := 0, slots := 0, locals := 0 })
noncomputable def ag_rvTg5 : aCon := (y_BO_inCheck, false, 1, ([(.inl (-2147483648, 2147483647), none)], ([], [], [], [])), (none, [], ([], [], [], [(5809, [0])]), [[]]), ([], []), { frames := 0, cells := 0, slots := 0, locals := 0 })
noncomputable def ag_rqGyA : aCon := (y_BO_inCheck, false, 7, ([(.inr (some (.inl (false, 62))), none), (.inl (1, 1), none), (.inl (0, 131072), none), (.inl (0, 65536), none), (.inl (49, 49), none), (.inl (45, 45), none), (.inl (48, 48), none), (.inr (some (.inl (false, 63))), none)], ([(0, 2, 7), (0, 37, 2), (0, 1, 3)], [(7, ([(2, 1)], 0), 4), (7, ([(2, 1)], 1), 5), (7, ([(2, 1)], 2), 6)], [([(3, 1), (2, -1)], -3)], [])), (none, [], ([], [], [], [(5714, [0, 1])]), [[]]), ([], []), { frames := 0, cells := 0, slots := 0, locals := 0 })
noncomputable def ag_rqG0A : aCon := (y_BO_inCheck, false, 4, ([(.inr (some (.inl (false, 62))), none), (.inl (0, 0), none), (.inl (0, 131072), none), (.inl (0, 65536), none)], ([(0, 37, 2), (0, 1, 3)], [], [([(2, 1), (3, -1)], 2)], [])), (none, [], ([], [], [], [(5714, [0, 1])]), [[]]), ([], []), { frames := 0, cells := 0, slots := 0, locals := 0 })
noncomputable def ag_rqG1uA : aCon := (y_BO_inCheck, false, 5, ([(.inr (some (.inl (false, 62))), none), (.inl (0, 0), none), (.inl (0, 131072), none), (.inl (0, 65536), none), (.inl (0, 65535), none), (.inr (some (.inl (false, 63))), none)], ([(0, 2, 5), (0, 37, 2), (0, 1, 3)], [(5, ([(2, 1)], 0), 4)], [([(4, 1)], -50)], [])), (none, [], ([], [], [], [(5714, [0, 1])]), [[]]), ([], []), { frames := 0, cells := 0, slots := 0, locals := 0 })
noncomputable def ag_rqG1dA : aCon := (y_BO_inCheck, false, 5, ([(.inr (some (.inl (false, 62))), none), (.inl (0, 0), none), (.inl (0, 131072), none), (.inl (0, 65536), none), (.inl (0, 65535), none), (.inr (some (.inl (false, 63))), none)], ([(0, 2, 5), (0, 37, 2), (0, 1, 3)], [(5, ([(2, 1)], 0), 4)], [([(4, -1)], 48)], [])), (none, [], ([], [], [], [(5714, [0, 1])]), [[]]), ([], []), { frames := 0, cells := 0, slots := 0, locals := 0 })
noncomputable def ag_rqG2uA : aCon := (y_BO_inCheck, false, 5, ([(.inr (some (.inl (false, 62))), none), (.inl (0, 0), none), (.inl (0, 131072), none), (.inl (0, 65536), none), (.inl (0, 65535), none), (.inr (some (.inl (false, 63))), none)], ([(0, 2, 5), (0, 37, 2), (0, 1, 3)], [(5, ([(2, 1)], 1), 4)], [([(4, 1)], -46)], [])), (none, [], ([], [], [], [(5714, [0, 1])]), [[]]), ([], []), { frames := 0, cells := 0, slots := 0, locals := 0 })
noncomputable def ag_rqG2dA : aCon := (y_BO_inCheck, false, 5, ([(.inr (some (.inl (false, 62))), none), (.inl (0, 0), none), (.inl (0, 131072), none), (.inl (0, 65536), none), (.inl (0, 65535), none), (.inr (some (.inl (false, 63))), none)], ([(0, 2, 5), (0, 37, 2), (0, 1, 3)], [(5, ([(2, 1)], 1), 4)], [([(4, -1)], 44)], [])), (none, [], ([], [], [], [(5714, [0, 1])]), [[]]), ([], []), { frames := 0, cells := 0, slots := 0, locals := 0 })
noncomputable def ag_rqG3uA : aCon := (y_BO_inCheck, false, 5, ([(.inr (some (.inl (false, 62))), none), (.inl (0, 0), none), (.inl (0, 131072), none), (.inl (0, 65536), none), (.inl (0, 65535), none), (.inr (some (.inl (false, 63))), none)], ([(0, 2, 5), (0, 37, 2), (0, 1, 3)], [(5, ([(2, 1)], 2), 4)], [([(4, 1)], -49)], [])), (none, [], ([], [], [], [(5714, [0, 1])]), [[]]), ([], []), { frames := 0, cells := 0, slots := 0, locals := 0 })
noncomputable def ag_rqG3dA : aCon := (y_BO_inCheck, false, 5, ([(.inr (some (.inl (false, 62))), none), (.inl (0, 0), none), (.inl (0, 131072), none), (.inl (0, 65536), none), (.inl (0, 65535), none), (.inr (some (.inl (false, 63))), none)], ([(0, 2, 5), (0, 37, 2), (0, 1, 3)], [(5, ([(2, 1)], 2), 4)], [([(4, -1)], 47)], [])), (none, [], ([], [], [], [(5714, [0, 1])]), [[]]), ([], []), { frames := 0, cells := 0, slots := 0, locals := 0 })
noncomputable def ag_rqGyB : aCon := (y_BO_inCheck, false, 7, ([(.inr (some (.inl (false, 62))), none), (.inl (1, 1), none), (.inl (0, 131072), none), (.inl (0, 65536), none), (.inl (48, 48), none), (.inl (45, 45), none), (.inl (49, 49), none), (.inr (some (.inl (false, 63))), none)], ([(0, 2, 7), (0, 37, 2), (0, 1, 3)], [(7, ([(2, 1)], 0), 4), (7, ([(2, 1)], 1), 5), (7, ([(2, 1)], 2), 6)], [([(3, 1), (2, -1)], -3)], [])), (none, [], ([], [], [], [(5826, [0, 1])]), [[]]), ([], []), { frames := 0, cells := 0, slots := 0, locals := 0 })
noncomputable def ag_rqG0B : aCon := (y_BO_inCheck, false, 4, ([(.inr (some (.inl (false, 62))), none), (.inl (0, 0), none), (.inl (0, 131072), none), (.inl (0, 65536), none)], ([(0, 37, 2), (0, 1, 3)], [], [([(2, 1), (3, -1)], 2)], [])), (none, [], ([], [], [], [(5826, [0, 1])]), [[]]), ([], []), { frames := 0, cells := 0, slots := 0, locals := 0 })
noncomputable def ag_rqG1uB : aCon := (y_BO_inCheck, false, 5, ([(.inr (some (.inl (false, 62))), none), (.inl (0, 0), none), (.inl (0, 131072), none), (.inl (0, 65536), none), (.inl (0, 65535), none), (.inr (some (.inl (false, 63))), none)], ([(0, 2, 5), (0, 37, 2), (0, 1, 3)], [(5, ([(2, 1)], 0), 4)], [([(4, 1)], -49)], [])), (none, [], ([], [], [], [(5826, [0, 1])]), [[]]), ([], []), { frames := 0, cells := 0, slots := 0, locals := 0 })
noncomputable def ag_rqG1dB : aCon := (y_BO_inCheck, false, 5, ([(.inr (some (.inl (false, 62))), none), (.inl (0, 0), none), (.inl (0, 131072), none), (.inl (0, 65536), none), (.inl (0, 65535), none), (.inr (some (.inl (false, 63))), none)], ([(0, 2, 5), (0, 37, 2), (0, 1, 3)], [(5, ([(2, 1)], 0), 4)], [([(4, -1)], 47)], [])), (none, [], ([], [], [], [(5826, [0, 1])]), [[]]), ([], []), { frames := 0, cells := 0, slots := 0, locals := 0 })
noncomputable def ag_rqG2uB : aCon := (y_BO_inCheck, false, 5, ([(.inr (some (.inl (false, 62))), none), (.inl (0, 0), none), (.inl (0, 131072), none), (.inl (0, 65536), none), (.inl (0, 65535), none), (.inr (some (.inl (false, 63))), none)], ([(0, 2, 5), (0, 37, 2), (0, 1, 3)], [(5, ([(2, 1)], 1), 4)], [([(4, 1)], -46)], [])), (none, [], ([], [], [], [(5826, [0, 1])]), [[]]), ([], []), { frames := 0, cells := 0, slots := 0, locals := 0 })
noncomputable def ag_rqG2dB : aCon := (y_BO_inCheck, false, 5, ([(.inr (some (.inl (false, 62))), none), (.inl (0, 0), none), (.inl (0, 131072), none), (.inl (0, 65536), none), (.inl (0, 65535), none), (.inr (some (.inl (false, 63))), none)], ([(0, 2, 5), (0, 37, 2), (0, 1, 3)], [(5, ([(2, 1)], 1), 4)], [([(4, -1)], 44)], [])), (none, [], ([], [], [], [(5826, [0, 1])]), [[]]), ([], []), { frames := 0, cells := 0, slots := 0, locals := 0 })
noncomputable def ag_rqG3uB : aCon := (y_BO_inCheck, false, 5, ([(.inr (some (.inl (false, 62))), none), (.inl (0, 0), none), (.inl (0, 131072), none), (.inl (0, 65536), none), (.inl (0, 65535), none), (.inr (some (.inl (false, 63))), none)], ([(0, 2, 5), (0, 37, 2), (0, 1, 3)], [(5, ([(2, 1)], 2), 4)], [([(4, 1)], -50)], [])), (none, [], ([], [], [], [(5826, [0, 1])]), [[]]), ([], []), { frames := 0, cells := 0, slots := 0, locals := 0 })
noncomputable def ag_rqG3dB : aCon := (y_BO_inCheck, false, 5, ([(.inr (some (.inl (false, 62))), none), (.inl (0, 0), none), (.inl (0, 131072), none), (.inl (0, 65536), none), (.inl (0, 65535), none), (.inr (some (.inl (false, 63))), none)], ([(0, 2, 5), (0, 37, 2), (0, 1, 3)], [(5, ([(2, 1)], 2), 4)], [([(4, -1)], 48)], [])), (none, [], ([], [], [], [(5826, [0, 1])]), [[]]), ([], []), { frames := 0, cells := 0, slots := 0, locals := 0 })
noncomputable def ag_rqGyC : aCon := (y_BO_inCheck, false, 7, ([(.inr (some (.inl (false, 62))), none), (.inl (1, 1), none), (.inl (0, 131072), none), (.inl (0, 65536), none), (.inl (49, 49), none), (.inl (47, 47), none), (.inl (50, 50), none), (.inr (some (.inl (false, 63))), none)], ([(0, 2, 7), (0, 37, 2), (0, 1, 3)], [(7, ([(2, 1)], 0), 4), (7, ([(2, 1)], 1), 5), (7, ([(2, 1)], 2), 6)], [([(3, 1), (2, -1)], -3)], [])), (none, [], ([], [], [], [(5842, [0, 1])]), [[]]), ([], []), { frames := 0, cells := 0, slots := 0, locals := 0 })
noncomputable def ag_rqG0C : aCon := (y_BO_inCheck, false, 4, ([(.inr (some (.inl (false, 62))), none), (.inl (0, 0), none), (.inl (0, 131072), none), (.inl (0, 65536), none)], ([(0, 37, 2), (0, 1, 3)], [], [([(2, 1), (3, -1)], 2)], [])), (none, [], ([], [], [], [(5842, [0, 1])]), [[]]), ([], []), { frames := 0, cells := 0, slots := 0, locals := 0 })
noncomputable def ag_rqG1uC : aCon := (y_BO_inCheck, false, 5, ([(.inr (some (.inl (false, 62))), none), (.inl (0, 0), none), (.inl (0, 131072), none), (.inl (0, 65536), none), (.inl (0, 65535), none), (.inr (some (.inl (false, 63))), none)], ([(0, 2, 5), (0, 37, 2), (0, 1, 3)], [(5, ([(2, 1)], 0), 4)], [([(4, 1)], -50)], [])), (none, [], ([], [], [], [(5842, [0, 1])]), [[]]), ([], []), { frames := 0, cells := 0, slots := 0, locals := 0 })
noncomputable def ag_rqG1dC : aCon := (y_BO_inCheck, false, 5, ([(.inr (some (.inl (false, 62))), none), (.inl (0, 0), none), (.inl (0, 131072), none), (.inl (0, 65536), none), (.inl (0, 65535), none), (.inr (some (.inl (false, 63))), none)], ([(0, 2, 5), (0, 37, 2), (0, 1, 3)], [(5, ([(2, 1)], 0), 4)], [([(4, -1)], 48)], [])), (none, [], ([], [], [], [(5842, [0, 1])]), [[]]), ([], []), { frames := 0, cells := 0, slots := 0, locals := 0 })
noncomputable def ag_rqG2uC : aCon := (y_BO_inCheck, false, 5, ([(.inr (some (.inl (false, 62))), none), (.inl (0, 0), none), (.inl (0, 131072), none), (.inl (0, 65536), none), (.inl (0, 65535), none), (.inr (some (.inl (false, 63))), none)], ([(0, 2, 5), (0, 37, 2), (0, 1, 3)], [(5, ([(2, 1)], 1), 4)], [([(4, 1)], -48)], [])), (none, [], ([], [], [], [(5842, [0, 1])]), [[]]), ([], []), { frames := 0, cells := 0, slots := 0, locals := 0 })
noncomputable def ag_rqG2dC : aCon := (y_BO_inCheck, false, 5, ([(.inr (some (.inl (false, 62))), none), (.inl (0, 0), none), (.inl (0, 131072), none), (.inl (0, 65536), none), (.inl (0, 65535), none), (.inr (some (.inl (false, 63))), none)], ([(0, 2, 5), (0, 37, 2), (0, 1, 3)], [(5, ([(2, 1)], 1), 4)], [([(4, -1)], 46)], [])), (none, [], ([], [], [], [(5842, [0, 1])]), [[]]), ([], []), { frames := 0, cells := 0, slots := 0, locals := 0 })
noncomputable def ag_rqG3uC : aCon := (y_BO_inCheck, false, 5, ([(.inr (some (.inl (false, 62))), none), (.inl (0, 0), none), (.inl (0, 131072), none), (.inl (0, 65536), none), (.inl (0, 65535), none), (.inr (some (.inl (false, 63))), none)], ([(0, 2, 5), (0, 37, 2), (0, 1, 3)], [(5, ([(2, 1)], 2), 4)], [([(4, 1)], -51)], [])), (none, [], ([], [], [], [(5842, [0, 1])]), [[]]), ([], []), { frames := 0, cells := 0, slots := 0, locals := 0 })
noncomputable def ag_rqG3dC : aCon := (y_BO_inCheck, false, 5, ([(.inr (some (.inl (false, 62))), none), (.inl (0, 0), none), (.inl (0, 131072), none), (.inl (0, 65536), none), (.inl (0, 65535), none), (.inr (some (.inl (false, 63))), none)], ([(0, 2, 5), (0, 37, 2), (0, 1, 3)], [(5, ([(2, 1)], 2), 4)], [([(4, -1)], 49)], [])), (none, [], ([], [], [], [(5842, [0, 1])]), [[]]), ([], []), { frames := 0, cells := 0, slots := 0, locals := 0 })
noncomputable def ag_rqHa : aCon := (y_BO_inCheck, false, 3, ([(.inr (some (.inl (false, 62))), none), (.inl (0, 0), none), (.inl (0, 0), none)], ([], [], [], [(5842, [0, 1])])), (none, [], ([], [], [], [(5730, [0, 2])]), [[]]), ([], []), { frames := 0, cells := 0, slots := 0, locals := 0 })
noncomputable def ag_rqHb : aCon := (y_BO_inCheck, false, 4, ([(.inr (some (.inl (false, 62))), none), (.inl (0, 0), none), (.inl (0, 131072), none), (.inl (0, 65536), none)], ([(0, 37, 2), (0, 1, 3)], [], [([(2, 1), (3, -1)], 6)], [])), (none, [], ([], [], [], [(5730, [0, 1])]), [[]]), ([], []), { frames := 0, cells := 0, slots := 0, locals := 0 })
noncomputable def ag_rqH0u : aCon := (y_BO_inCheck, false, 5, ([(.inr (some (.inl (false, 62))), none), (.inl (0, 0), none), (.inl (0, 131072), none), (.inl (0, 65536), none), (.inl (0, 65535), none), (.inr (some (.inl (false, 63))), none)], ([(0, 2, 5), (0, 37, 2), (0, 1, 3)], [(5, ([(2, 1)], 3), 4)], [([(4, 1)], -46)], [])), (none, [], ([], [], [], [(5730, [0, 1])]), [[]]), ([], []), { frames := 0, cells := 0, slots := 0, locals := 0 })
noncomputable def ag_rqH0d : aCon := (y_BO_inCheck, false, 5, ([(.inr (some (.inl (false, 62))), none), (.inl (0, 0), none), (.inl (0, 131072), none), (.inl (0, 65536), none), (.inl (0, 65535), none), (.inr (some (.inl (false, 63))), none)], ([(0, 2, 5), (0, 37, 2), (0, 1, 3)], [(5, ([(2, 1)], 3), 4)], [([(4, -1)], 44)], [])), (none, [], ([], [], [], [(5730, [0, 1])]), [[]]), ([], []), { frames := 0, cells := 0, slots := 0, locals := 0 })
noncomputable def ag_rqH1u : aCon := (y_BO_inCheck, false, 5, ([(.inr (some (.inl (false, 62))), none), (.inl (0, 0), none), (.inl (0, 131072), none), (.inl (0, 65536), none), (.inl (0, 65535), none), (.inr (some (.inl (false, 63))), none)], ([(0, 2, 5), (0, 37, 2), (0, 1, 3)], [(5, ([(2, 1)], 4), 4)], [([(4, 1)], -50)], [])), (none, [], ([], [], [], [(5730, [0, 1])]), [[]]), ([], []), { frames := 0, cells := 0, slots := 0, locals := 0 })
noncomputable def ag_rqH1d : aCon := (y_BO_inCheck, false, 5, ([(.inr (some (.inl (false, 62))), none), (.inl (0, 0), none), (.inl (0, 131072), none), (.inl (0, 65536), none), (.inl (0, 65535), none), (.inr (some (.inl (false, 63))), none)], ([(0, 2, 5), (0, 37, 2), (0, 1, 3)], [(5, ([(2, 1)], 4), 4)], [([(4, -1)], 48)], [])), (none, [], ([], [], [], [(5730, [0, 1])]), [[]]), ([], []), { frames := 0, cells := 0, slots := 0, locals := 0 })
noncomputable def ag_rqH2u : aCon := (y_BO_inCheck, false, 5, ([(.inr (some (.inl (false, 62))), none), (.inl (0, 0), none), (.inl (0, 131072), none), (.inl (0, 65536), none), (.inl (0, 65535), none), (.inr (some (.inl (false, 63))), none)], ([(0, 2, 5), (0, 37, 2), (0, 1, 3)], [(5, ([(2, 1)], 5), 4)], [([(4, 1)], -48)], [])), (none, [], ([], [], [], [(5730, [0, 1])]), [[]]), ([], []), { frames := 0, cells := 0, slots := 0, locals := 0 })
noncomputable def ag_rqH2d : aCon := (y_BO_inCheck, false, 5, ([(.inr (some (.inl (false, 62))), none), (.inl (0, 0), none), (.inl (0, 131072), none), (.inl (0, 65536), none), (.inl (0, 65535), none), (.inr (some (.inl (false, 63))), none)], ([(0, 2, 5), (0, 37, 2), (0, 1, 3)], [(5, ([(2, 1)], 5), 4)], [([(4, -1)], 46)], [])), (none, [], ([], [], [], [(5730, [0, 1])]), [[]]), ([], []), { frames := 0, cells := 0, slots := 0, locals := 0 })
noncomputable def ag_rqH3u : aCon := (y_BO_inCheck, false, 5, ([(.inr (some (.inl (false, 62))), none), (.inl (0, 0), none), (.inl (0, 131072), none), (.inl (0, 65536), none), (.inl (0, 65535), none), (.inr (some (.inl (false, 63))), none)], ([(0, 2, 5), (0, 37, 2), (0, 1, 3)], [(5, ([(2, 1)], 6), 4)], [([(4, 1)], -51)], [])), (none, [], ([], [], [], [(5730, [0, 1])]), [[]]), ([], []), { frames := 0, cells := 0, slots := 0, locals := 0 })
noncomputable def ag_rqH3d : aCon := (y_BO_inCheck, false, 5, ([(.inr (some (.inl (false, 62))), none), (.inl (0, 0), none), (.inl (0, 131072), none), (.inl (0, 65536), none), (.inl (0, 65535), none), (.inr (some (.inl (false, 63))), none)], ([(0, 2, 5), (0, 37, 2), (0, 1, 3)], [(5, ([(2, 1)], 6), 4)], [([(4, -1)], 49)], [])), (none, [], ([], [], [], [(5730, [0, 1])]), [[]]), ([], []), { frames := 0, cells := 0, slots := 0, locals := 0 })
noncomputable def ag_rqHy : aCon := (y_BO_inCheck, false, 9, ([(.inr (some (.inl (false, 62))), none), (.inl (1, 1), none), (.inl (1, 1), none), (.inl (0, 131072), none), (.inl (0, 65536), none), (.inl (45, 45), none), (.inl (49, 49), none), (.inl (47, 47), none), (.inl (50, 50), none), (.inr (some (.inl (false, 63))), none)], ([(0, 2, 9), (0, 37, 3), (0, 1, 4)], [(9, ([(3, 1)], 3), 5), (9, ([(3, 1)], 4), 6), (9, ([(3, 1)], 5), 7), (9, ([(3, 1)], 6), 8)], [([(4, 1), (3, -1)], -7)], [(5842, [0, 1])])), (none, [], ([], [], [], [(5730, [0, 2])]), [[]]), ([], []), { frames := 0, cells := 0, slots := 0, locals := 0 })
noncomputable def ag_rqS : aCon := (y_BO_inCheck, false, 3, ([(.inr (some (.inl (false, 62))), none), (.inl (42, 42), none), (.inl (0, 0), none)], ([], [], [], [(5570, [0, 1])])), (none, [], ([], [], [], [(5666, [0, 2])]), [[]]), ([], []), { frames := 0, cells := 0, slots := 0, locals := 0 })
noncomputable def ag_rq1 : aCon := (y_BO_inCheck, false, 3, ([(.inr (some (.inl (false, 62))), none), (.inl (1, 1), none), (.inl (1, 1), none)], ([], [], [], [(5714, [0, 1])])), (none, [], ([], [], [], [(5666, [0, 2])]), [[]]), ([], []), { frames := 0, cells := 0, slots := 0, locals := 0 })
noncomputable def ag_rq2 : aCon := (y_BO_inCheck, false, 3, ([(.inr (some (.inl (false, 62))), none), (.inl (1, 1), none), (.inl (2, 2), none)], ([], [], [], [(5826, [0, 1])])), (none, [], ([], [], [], [(5666, [0, 2])]), [[]]), ([], []), { frames := 0, cells := 0, slots := 0, locals := 0 })
noncomputable def ag_rq3 : aCon := (y_BO_inCheck, false, 3, ([(.inr (some (.inl (false, 62))), none), (.inl (1, 1), none), (.inl (3, 3), none)], ([], [], [], [(5730, [0, 1])])), (none, [], ([], [], [], [(5666, [0, 2])]), [[]]), ([], []), { frames := 0, cells := 0, slots := 0, locals := 0 })
noncomputable def ag_rqNu : aCon := (y_BO_inCheck, false, 2, ([(.inr (some (.inl (false, 62))), none), (.inl (0, 65535), none)], ([], [], [([(1, 1)], -43)], [(5570, [0, 1])])), (none, [], ([], [], [], [(5857, [0])]), [[]]), ([], []), { frames := 0, cells := 0, slots := 0, locals := 0 })
noncomputable def ag_rqNd : aCon := (y_BO_inCheck, false, 2, ([(.inr (some (.inl (false, 62))), none), (.inl (0, 65535), none)], ([], [], [([(1, -1)], 41)], [(5570, [0, 1])])), (none, [], ([], [], [], [(5857, [0])]), [[]]), ([], []), { frames := 0, cells := 0, slots := 0, locals := 0 })
noncomputable def ag_rqM : aCon := (y_BO_inCheck, false, 5, ([(.inr (some (.inl (false, 62))), none), (.inl (-1, -1), none), (.inl (0, 0), none), (.inl (0, 0), none), (.inl (0, 0), none)], ([], [], [], [(5857, [0]), (5714, [0, 2]), (5826, [0, 3]), (5730, [0, 4])])), (none, [], ([], [], [], [(5666, [0, 1])]), [[]]), ([], []), { frames := 0, cells := 0, slots := 0, locals := 0 })
noncomputable def ag_rqY : aCon := (y_BO_inCheck, false, 2, ([(.inr (some (.inl (false, 62))), none), (.inl (0, 3), none)], ([], [], [], [(5666, [0, 1])])), (none, [], ([], [], [], [(5681, [0])]), [[]]), ([], []), { frames := 0, cells := 0, slots := 0, locals := 0 })
noncomputable def ag_rqZ : aCon := (y_BO_inCheck, false, 2, ([(.inr (some (.inl (false, 62))), none), (.inl (-1, 3), none)], ([], [], [], [(5681, [0]), (5666, [0, 1])])), (none, [], ([], [], [([(1, 1)], 0)], []), [[]]), ([], []), { frames := 0, cells := 0, slots := 0, locals := 0 })
noncomputable def ag_rqz0 : aCon := (y_BO_inCheck, false, 2, ([(.inr (some (.inl (false, 62))), none), (.inl (0, 0), none)], ([], [], [], [(5681, [0])])), (none, [], ([], [], [], [(5698, [0, 1])]), [[]]), ([], []), { frames := 0, cells := 0, slots := 0, locals := 0 })
noncomputable def ag_rqz1 : aCon := (y_BO_inCheck, false, 2, ([(.inr (some (.inl (false, 62))), none), (.inl (1, 1031072), none)], ([], [], [], [])), (none, [], ([], [], [], [(5698, [0, 1])]), [[]]), ([], []), { frames := 0, cells := 0, slots := 0, locals := 0 })
noncomputable def ag_rqz2 : aCon := (y_BO_inCheck, false, 2, ([(.inr (some (.inl (false, 62))), none), (.inl (0, 0), none)], ([], [], [], [(5698, [0, 1])])), (none, [], ([], [], [], [(5681, [0])]), [[]]), ([], []), { frames := 0, cells := 0, slots := 0, locals := 0 })
noncomputable def ag_rsG : aCon := (y_BO_inCheck, false, 3, ([(.inr (some (.inl (false, 62))), none), (.inl (0, 1), none), (.inl (0, 0), none)], ([], [], [], [(3859, [0, 1, 2])])), (none, [], ([], [], [], [(7202, [0, 1])]), [[]]), ([(0, 0)], []), { frames := 0, cells := 0, slots := 0, locals := 0 })
noncomputable def ag_rsH : aCon := (y_BO_inCheck, false, 2, ([(.inr (some (.inl (false, 62))), none), (.inl (0, 1), none)], ([], [], [], [(7202, [0, 1])])), (none, [], ([], [], [], [(5906, [0, 1])]), [[]]), ([], []), { frames := 0, cells := 0, slots := 0, locals := 0 })
noncomputable def ag_rsZ : aCon := (y_BO_inCheck, false, 3, ([(.inr (some (.inl (false, 62))), none), (.inl (0, 1), none), (.inl (0, 0), none)], ([], [], [], [(5906, [0, 1])])), (none, [], ([], [], [], [(5891, [0, 1, 2])]), [[]]), ([], []), { frames := 0, cells := 0, slots := 0, locals := 0 })
noncomputable def ag_rsY : aCon := (y_BO_inCheck, false, 3, ([(.inr (some (.inl (false, 62))), none), (.inl (0, 1), none), (.inl (1, 1031072), none)], ([], [], [], [])), (none, [], ([], [], [], [(5891, [0, 1, 2])]), [[]]), ([], []), { frames := 0, cells := 0, slots := 0, locals := 0 })
noncomputable def ag_rsN : aCon := (y_BO_inCheck, false, 3, ([(.inr (some (.inl (false, 62))), none), (.inl (0, 1), none), (.inl (0, 300), none)], ([], [], [], [(3859, [0, 1, 2])])), (none, [], ([], [], [], [(5587, [0, 1, 2])]), [[]]), ([], []), { frames := 0, cells := 0, slots := 0, locals := 0 })
noncomputable def ag_rsO : aCon := (y_BO_inCheck, false, 3, ([(.inr (some (.inl (false, 62))), none), (.inl (0, 1), none), (.inl (0, 300), none)], ([], [], [], [(5587, [0, 1, 2])])), (none, [], ([], [], [], [(3859, [0, 1, 2])]), [[]]), ([], []), { frames := 0, cells := 0, slots := 0, locals := 0 })
noncomputable def ag_rsI : aCon := (y_BO_inCheck, false, 3, ([(.inr (some (.inl (false, 62))), none), (.inl (0, 1), none), (.inl (0, 300), none)], ([(0, 5, 1), (0, 6, 2)], [], [], [(5873, [0])])), (none, [], ([], [], [], [(3859, [0, 1, 2]), (3923, [0, 1, 2])]), [[]]), ([], []), { frames := 0, cells := 0, slots := 0, locals := 0 })
noncomputable def ag_rsJ : aCon := (y_BO_inCheck, false, 3, ([(.inr (some (.inl (false, 62))), none), (.inl (0, 1), none), (.inl (0, 300), none)], ([(0, 5, 1), (0, 6, 2)], [], [], [(3859, [0, 1, 2]), (3923, [0, 1, 2])])), (none, [], ([], [], [], [(5873, [0])]), [[]]), ([], []), { frames := 0, cells := 0, slots := 0, locals := 0 })
noncomputable def ag_rsR : aCon := (y_BO_inCheck, false, 4, ([(.inr (some (.inl (false, 62))), none), (.inl (0, 1), none), (.inl (0, 0), none), (.inl (0, 0), none)], ([], [], [], [(5891, [0, 1, 2])])), (none, [], ([], [], [], [(3859, [0, 1, 3])]), [[]]), ([], []), { frames := 0, cells := 0, slots := 0, locals := 0 })
end
section
/-! the reference: uC -/
noncomputable def y_MT_ink : jY := (⟨"ChessHouseModel$Texts", "ink", "(C)V"⟩, prog_18_method_77_code, 2, none)
theorem m_MT_ink : jmth lw_tbl y_MT_ink 1 := ⟨jTA_in (wi := 2741) (jtF_ok rfl) rfl, jTA_in (wi := 315) (jtF_ok rfl) rfl, by decide, by decide, by decide +kernel⟩
theorem i_MT_ink : Jvm.Cond.instanceMethod y_MT_ink.1 ∈ jTA lw_tbl := jTA_in (wi := 2740) (jtF_ok rfl) rfl
theorem e_MT_ink : Jvm.Cond.selects y_MT_ink.1.cls y_MT_ink.1 y_MT_ink.1 ∈ jTA lw_tbl := jTA_in (wi := 201) (jtF_ok rfl) rfl
noncomputable def y_MT_sayNumber : jY := (⟨"ChessHouseModel$Texts", "sayNumber", "(I)V"⟩, prog_18_method_78_code, 3, none)
theorem m_MT_sayNumber : jmth lw_tbl y_MT_sayNumber 1 := ⟨jTA_in (wi := 2757) (jtF_ok rfl) rfl, jTA_in (wi := 315) (jtF_ok rfl) rfl, by decide, by decide, by decide +kernel⟩
theorem i_MT_sayNumber : Jvm.Cond.instanceMethod y_MT_sayNumber.1 ∈ jTA lw_tbl := jTA_in (wi := 2756) (jtF_ok rfl) rfl
theorem e_MT_sayNumber : Jvm.Cond.selects y_MT_sayNumber.1.cls y_MT_sayNumber.1 y_MT_sayNumber.1 ∈ jTA lw_tbl := jTA_in (wi := 205) (jtF_ok rfl) rfl
noncomputable def y_MT_sayRemark : jY := (⟨"ChessHouseModel$Texts", "sayRemark", "(I)V"⟩, prog_18_method_79_code, 3, none)
theorem m_MT_sayRemark : jmth lw_tbl y_MT_sayRemark 1 := ⟨jTA_in (wi := 2745) (jtF_ok rfl) rfl, jTA_in (wi := 315) (jtF_ok rfl) rfl, by decide, by decide, by decide +kernel⟩
theorem i_MT_sayRemark : Jvm.Cond.instanceMethod y_MT_sayRemark.1 ∈ jTA lw_tbl := jTA_in (wi := 2744) (jtF_ok rfl) rfl
theorem e_MT_sayRemark : Jvm.Cond.selects y_MT_sayRemark.1.cls y_MT_sayRemark.1 y_MT_sayRemark.1 ∈ jTA lw_tbl := jTA_in (wi := 202) (jtF_ok rfl) rfl
noncomputable def y_MT_sayMove : jY := (⟨"ChessHouseModel$Texts", "sayMove", "(IZ)V"⟩, prog_18_method_80_code, 5, none)
theorem m_MT_sayMove : jmth lw_tbl y_MT_sayMove 2 := ⟨jTA_in (wi := 2753) (jtF_ok rfl) rfl, jTA_in (wi := 315) (jtF_ok rfl) rfl, by decide, by decide, by decide +kernel⟩
theorem i_MT_sayMove : Jvm.Cond.instanceMethod y_MT_sayMove.1 ∈ jTA lw_tbl := jTA_in (wi := 2752) (jtF_ok rfl) rfl
theorem e_MT_sayMove : Jvm.Cond.selects y_MT_sayMove.1.cls y_MT_sayMove.1 y_MT_sayMove.1 ∈ jTA lw_tbl := jTA_in (wi := 204) (jtF_ok rfl) rfl
noncomputable def ag_rtT1 : aCon := (y_BO_inCheck, false, 2, ([(.inl (0, 80000), none), (.inl (0, 80000), none)], ([], [], [([(0, 1), (1, -1)], 1)], [])), (none, [], ([], [], [([(0, 1), (1, -1)], 1)], []), [[]]), ([], []), { frames := 0, cells := 0, slots := 0, locals := 0 })
noncomputable def ag_rtT2 : aCon := (y_BO_inCheck, false, 2, ([(.inl (0, 80000), none), (.inl (0, 80000), none)], ([], [], [([(0, 1), (1, -1)], 2)], [])), (none, [], ([], [], [([(0, 1), (1, -1)], 2)], []), [[]]), ([], []), { frames := 0, cells := 0, slots := 0, locals := 0 })
noncomputable def ag_rtT3 : aCon := (y_BO_inCheck, false, 2, ([(.inl (0, 80000), none), (.inl (0, 80000), none)], ([], [], [([(0, 1), (1, -1)], 3)], [])), (none, [], ([], [], [([(0, 1), (1, -1)], 3)], []), [[]]), ([], []), { frames := 0, cells := 0, slots := 0, locals := 0 })
noncomputable def ag_rtT4 : aCon := (y_BO_inCheck, false, 2, ([(.inl (0, 80000), none), (.inl (0, 80000), none)], ([], [], [([(0, 1), (1, -1)], 4)], [])), (none, [], ([], [], [([(0, 1), (1, -1)], 4)], []), [[]]), ([], []), { frames := 0, cells := 0, slots := 0, locals := 0 })
noncomputable def ag_rtM : aCon := (y_BO_inCheck, false, 5, ([(.inr (some (.inl (false, 62))), none), (.inl (0, 1), none), (.inl (1, 300), none), (.inl (-1, 24575), none), (.inl (0, 601), none), (.inr (some (.inl (false, 67))), none)], ([(0, 9, 5)], [(5, ([(4, 1)], 0), 3)], [([(4, 1), (1, -301), (2, -1)], 0), ([(4, -1), (1, 301), (2, 1)], 0)], [(3859, [0, 1, 2])])), (none, [], ([], [], [([(3, 1)], 0)], []), [[]]), ([], []), { frames := 0, cells := 0, slots := 0, locals := 0 })
noncomputable def ag_rtT5 : aCon := (y_BO_inCheck, false, 2, ([(.inl (0, 80000), none), (.inl (0, 80000), none)], ([], [], [([(0, 1), (1, -1)], 5)], [])), (none, [], ([], [], [([(0, 1), (1, -1)], 5)], []), [[]]), ([], []), { frames := 0, cells := 0, slots := 0, locals := 0 })
noncomputable def ag_rtT6 : aCon := (y_BO_inCheck, false, 2, ([(.inl (0, 80000), none), (.inl (0, 80000), none)], ([], [], [([(0, 1), (1, -1)], 6)], [])), (none, [], ([], [], [([(0, 1), (1, -1)], 6)], []), [[]]), ([], []), { frames := 0, cells := 0, slots := 0, locals := 0 })
noncomputable def ag_rtT7 : aCon := (y_BO_inCheck, false, 2, ([(.inl (0, 80000), none), (.inl (0, 80000), none)], ([], [], [([(0, 1), (1, -1)], 7)], [])), (none, [], ([], [], [([(0, 1), (1, -1)], 7)], []), [[]]), ([], []), { frames := 0, cells := 0, slots := 0, locals := 0 })
noncomputable def ag_rtT17 : aCon := (y_BO_inCheck, false, 2, ([(.inl (0, 80000), none), (.inl (0, 80000), none)], ([], [], [([(0, 1), (1, -1)], 17)], [])), (none, [], ([], [], [([(0, 1), (1, -1)], 17)], []), [[]]), ([], []), { frames := 0, cells := 0, slots := 0, locals := 0 })
noncomputable def ag_rtT38 : aCon := (y_BO_inCheck, false, 2, ([(.inl (0, 80000), none), (.inl (0, 80000), none)], ([], [], [([(0, 1), (1, -1)], 38)], [])), (none, [], ([], [], [([(0, 1), (1, -1)], 38)], []), [[]]), ([], []), { frames := 0, cells := 0, slots := 0, locals := 0 })
noncomputable def ag_rtU : aCon := (y_BO_inCheck, false, 3, ([(.inl (0, 80000), none), (.inl (0, 80000), none), (.inl (0, 300), none)], ([], [], [([(0, 1), (1, -1), (2, 5)], 19)], [])), (none, [], ([], [], [([(0, 1), (1, -1), (2, 5)], 19)], []), [[]]), ([], []), { frames := 0, cells := 0, slots := 0, locals := 0 })
end
section
/-! the reference: uD -/
noncomputable def y_MT_sayLine : jY := (⟨"ChessHouseModel$Texts", "sayLine", "(IZ)V"⟩, prog_18_method_81_code, 8, none)
theorem m_MT_sayLine : jmth lw_tbl y_MT_sayLine 2 := ⟨jTA_in (wi := 2749) (jtF_ok rfl) rfl, jTA_in (wi := 315) (jtF_ok rfl) rfl, by decide, by decide, by decide +kernel⟩
theorem i_MT_sayLine : Jvm.Cond.instanceMethod y_MT_sayLine.1 ∈ jTA lw_tbl := jTA_in (wi := 2748) (jtF_ok rfl) rfl
theorem e_MT_sayLine : Jvm.Cond.selects y_MT_sayLine.1.cls y_MT_sayLine.1 y_MT_sayLine.1 ∈ jTA lw_tbl := jTA_in (wi := 203) (jtF_ok rfl) rfl
noncomputable def y_MT_write : jY := (⟨"ChessHouseModel$Texts", "write", "()I"⟩, prog_18_method_82_code, 4, (some .int))
theorem m_MT_write : jmth lw_tbl y_MT_write 0 := ⟨jTA_in (wi := 2737) (jtF_ok rfl) rfl, jTA_in (wi := 315) (jtF_ok rfl) rfl, by decide, by decide, by decide +kernel⟩
theorem i_MT_write : Jvm.Cond.instanceMethod y_MT_write.1 ∈ jTA lw_tbl := jTA_in (wi := 2735) (jtF_ok rfl) rfl
theorem e_MT_write : Jvm.Cond.selects y_MT_write.1.cls y_MT_write.1 y_MT_write.1 ∈ jTA lw_tbl := jTA_in (wi := 2736) (jtF_ok rfl) rfl
noncomputable def ag_MTsayLineS : aCon := (y_MT_sayLine, false, 3, ([(.inr (some (.inl (false, 62))), none), (.inl (1, 300), none), (.inl (0, 0), none), (.inl (0, 1), none), (.inl (0, 79400), none)], ([(0, 5, 3), (0, 3, 4)], [], [], [(7300, [0, 3, 1, 4]), (7281, [1])])), (none, [.inl (0, 80000)], ([(0, 3, 5)], [], [], [(7313, [5])]), [[]]), ([(62, 3), (62, 36), (62, 25), (62, 26), (62, 27), (62, 28), (62, 29), (62, 33)], [(87, ([], 0)), (82, ([], 0)), (83, ([], 0)), (84, ([], 0)), (64, ([], 0)), (85, ([], 0)), (86, ([], 0))]), { frames := 400, cells := 0, slots := 0, locals := 12000 })
theorem ad_MTsayLineS : aGd lw_tbl ag_MTsayLineS := ⟨rfl, rfl, m_MT_sayLine, i_MT_sayLine, e_MT_sayLine⟩
noncomputable def ag_rjI : aCon := (y_BO_inCheck, false, 3, ([(.inr (some (.inl (false, 62))), none), (.inl (0, 1), none), (.inl (1, 300), none)], ([], [], [], [(3859, [0, 1, 2])])), (none, [.inl (0, 301)], ([], [], [], [(3876, [0, 1, 2, 3])]), [[]]), ([], []), { frames := 0, cells := 0, slots := 0, locals := 0 })
noncomputable def ag_rjJ : aCon := (y_BO_inCheck, false, 4, ([(.inr (some (.inl (false, 62))), none), (.inl (0, 1), none), (.inl (1, 300), none), (.inl (-1, -1), none)], ([], [], [], [(3859, [0, 1, 2])])), (none, [.inl (0, 301)], ([], [], [], [(3876, [0, 1, 3, 4])]), [[]]), ([], []), { frames := 0, cells := 0, slots := 0, locals := 0 })
noncomputable def ag_rjA0 : aCon := (y_BO_inCheck, false, 5, ([(.inr (some (.inl (false, 62))), none), (.inl (0, 1), none), (.inl (1, 300), none), (.inl (0, 0), none), (.inl (0, 80000), none)], ([], [], [], [(7300, [0, 1, 2, 4]), (7265, [2])])), (none, [], ([], [], [], [(7333, [0, 1, 2, 3, 4])]), [[]]), ([], []), { frames := 0, cells := 0, slots := 0, locals := 0 })
noncomputable def ag_rjA : aCon := (y_BO_inCheck, false, 5, ([(.inr (some (.inl (false, 62))), none), (.inl (0, 1), none), (.inl (1, 300), none), (.inl (0, 1), none), (.inl (0, 80000), none)], ([], [], [], [(7333, [0, 1, 2, 3, 4])])), (none, [], ([], [], [([(4, -1)], 79160)], [(3859, [0, 1, 2])]), [[]]), ([], []), { frames := 0, cells := 0, slots := 0, locals := 0 })
noncomputable def ag_rjB1 : aCon := (y_BO_inCheck, false, 7, ([(.inr (some (.inl (false, 62))), none), (.inl (0, 1), none), (.inl (1, 300), none), (.inl (1, 1), none), (.inl (-1, 300), none), (.inl (0, 80000), none), (.inl (0, 80000), none), (.inr (some (.inl (false, 69))), none)], ([(0, 11, 7)], [(7, ([(1, 301), (2, 1)], 0), 4)], [([(5, 1), (6, -1)], 240)], [(7333, [0, 1, 2, 3, 5])])), (none, [], ([], [], [], [(7349, [0, 1, 2, 4, 6])]), [[]]), ([], []), { frames := 0, cells := 0, slots := 0, locals := 0 })
noncomputable def ag_rjB0 : aCon := (y_BO_inCheck, false, 7, ([(.inr (some (.inl (false, 62))), none), (.inl (0, 1), none), (.inl (1, 300), none), (.inl (0, 0), none), (.inl (-1, -1), none), (.inl (0, 80000), none), (.inl (0, 80000), none)], ([], [], [([(5, 1), (6, -1)], 240)], [(7333, [0, 1, 2, 3, 5])])), (none, [], ([], [], [], [(7349, [0, 1, 2, 4, 6])]), [[]]), ([], []), { frames := 0, cells := 0, slots := 0, locals := 0 })
noncomputable def ag_rjO : aCon := (y_BO_inCheck, false, 5, ([(.inr (some (.inl (false, 62))), none), (.inl (0, 1), none), (.inl (1, 300), none), (.inl (0, 300), none), (.inl (0, 80000), none)], ([], [], [], [(7349, [0, 1, 2, 3, 4])])), (none, [], ([], [], [([(4, -1)], 79160), ([(3, 1)], -1)], []), [[]]), ([], []), { frames := 0, cells := 0, slots := 0, locals := 0 })
noncomputable def ag_rjC : aCon := (y_BO_inCheck, false, 6, ([(.inr (some (.inl (false, 62))), none), (.inl (0, 1), none), (.inl (1, 300), none), (.inl (1, 300), none), (.inl (0, 80000), none), (.inl (0, 80000), none)], ([], [], [([(4, 1), (5, -1)], 2)], [(7349, [0, 1, 2, 3, 4])])), (none, [.inl (0, 79400)], ([], [], [], [(7300, [0, 1, 3, 5, 6, 6]), (7281, [3, 6, 6]), (7365, [0, 1, 2, 3, 6])]), [[]]), ([], []), { frames := 0, cells := 0, slots := 0, locals := 0 })
noncomputable def ag_rjD : aCon := (y_BO_inCheck, false, 2, ([(.inl (0, 79400), none), (.inl (0, 80000), none)], ([], [], [], [(7313, [1, 0, 0])])), (none, [], ([], [], [([(0, 1), (1, -1)], 0)], []), [[]]), ([], []), { frames := 0, cells := 0, slots := 0, locals := 0 })
noncomputable def ag_rjE : aCon := (y_BO_inCheck, false, 7, ([(.inr (some (.inl (false, 62))), none), (.inl (0, 1), none), (.inl (1, 300), none), (.inl (1, 300), none), (.inl (0, 79400), none), (.inl (-1, 300), none), (.inl (0, 80000), none), (.inr (some (.inl (false, 69))), none)], ([(0, 11, 7)], [(7, ([(1, 301), (3, 1)], 0), 5)], [([(4, 1), (6, -1)], 1)], [(7365, [0, 1, 2, 3, 4])])), (none, [], ([], [], [], [(7349, [0, 1, 2, 5, 6])]), [[]]), ([], []), { frames := 0, cells := 0, slots := 0, locals := 0 })
noncomputable def ag_rjF : aCon := (y_BO_inCheck, false, 7, ([(.inr (some (.inl (false, 62))), none), (.inl (0, 1), none), (.inl (1, 300), none), (.inl (-1, 300), none), (.inl (-1, -1), none), (.inl (0, 80000), none), (.inl (0, 601), none), (.inr (some (.inl (false, 68))), none)], ([(0, 10, 7)], [(7, ([(6, 1)], 0), 3)], [([(6, 1), (1, -301), (2, -1)], 0), ([(6, -1), (1, 301), (2, 1)], 0)], [(7349, [0, 1, 2, 4, 5])])), (none, [], ([], [], [], [(7380, [0, 1, 3, 5])]), [[([(3, -1)], -1)], [([(3, 1), (2, -1)], -1)]]), ([], []), { frames := 0, cells := 0, slots := 0, locals := 0 })
noncomputable def ag_rjFb : aCon := (y_BO_inCheck, false, 4, ([(.inr (some (.inl (false, 62))), none), (.inl (0, 1), none), (.inl (1, 300), none), (.inl (0, 80000), none)], ([], [], [], [(7380, [0, 1, 2, 3])])), (none, [], ([], [], [([(3, -1)], 79160)], []), [[]]), ([], []), { frames := 0, cells := 0, slots := 0, locals := 0 })
noncomputable def ag_rjG : aCon := (y_BO_inCheck, false, 6, ([(.inr (some (.inl (false, 62))), none), (.inl (0, 1), none), (.inl (1, 300), none), (.inl (1, 1), none), (.inl (0, 80000), none), (.inl (0, 80000), none)], ([], [], [([(4, 1), (5, -1)], 1)], [(7380, [0, 1, 2, 4])])), (none, [], ([], [], [], [(7333, [0, 1, 2, 3, 5])]), [[]]), ([], []), { frames := 0, cells := 0, slots := 0, locals := 0 })
noncomputable def ag_rjG2 : aCon := (y_BO_inCheck, false, 5, ([(.inr (some (.inl (false, 62))), none), (.inl (0, 1), none), (.inl (-1, -1), none), (.inl (1, 1), none), (.inl (0, 80000), none)], ([], [], [], [(7380, [0, 1, 2, 4])])), (none, [], ([], [], [], [(7333, [0, 1, 2, 3, 4])]), [[]]), ([], []), { frames := 0, cells := 0, slots := 0, locals := 0 })
noncomputable def ag_rjH : aCon := (y_BO_inCheck, false, 5, ([(.inr (some (.inl (false, 62))), none), (.inl (0, 1), none), (.inl (-1, -1), none), (.inl (0, 1), none), (.inl (0, 80000), none)], ([], [], [], [(7333, [0, 1, 2, 3, 4])])), (none, [], ([], [], [], [(7313, [4])]), [[]]), ([], []), { frames := 0, cells := 0, slots := 0, locals := 0 })
noncomputable def ag_rjT : aCon := (y_BO_inCheck, false, 6, ([(.inr (some (.inl (false, 62))), none), (.inl (0, 1), none), (.inl (1, 300), none), (.inl (1, 1), none), (.inl (0, 80000), none), (.inl (0, 300), none), (.inr (some (.inl (false, 68))), none)], ([(0, 10, 6)], [(6, ([(1, 301)], 0), 2)], [([(4, -1)], 6000)], [(3859, [0, 1, 5])])), (none, [], ([], [], [], [(7333, [0, 1, 2, 3, 4])]), [[]]), ([(0, 0)], []), { frames := 0, cells := 0, slots := 0, locals := 0 })
noncomputable def ag_rjU : aCon := (y_BO_inCheck, false, 1, ([(.inl (0, 80000), none)], ([], [], [], [(7313, [0])])), (none, [], ([], [], [([(0, -1)], 79400)], []), [[]]), ([], []), { frames := 0, cells := 0, slots := 0, locals := 0 })
noncomputable def ag_rjK : aCon := (y_BO_inCheck, false, 4, ([(.inr (some (.inl (false, 62))), none), (.inl (0, 1), none), (.inl (0, 300), none), (.inl (0, 300), none), (.inr (some (.inl (false, 68))), none)], ([(0, 10, 4)], [(4, ([(1, 301)], 0), 3)], [], [(3859, [0, 1, 2])])), (none, [], ([], [], [([(3, 1)], -1)], []), [[]]), ([], []), { frames := 0, cells := 0, slots := 0, locals := 0 })
noncomputable def ag_rjV3 : aCon := (y_BO_inCheck, false, 3, ([(.inl (0, 80000), none), (.inl (0, 300), none), (.inl (0, 300), none)], ([], [], [([(0, -1), (1, 210)], 15)], [])), (none, [], ([], [], [([(0, -1), (1, 210)], 15)], []), [[]]), ([], []), { frames := 0, cells := 0, slots := 0, locals := 0 })
noncomputable def ag_rjV4 : aCon := (y_BO_inCheck, false, 3, ([(.inl (0, 80000), none), (.inl (0, 300), none), (.inl (0, 300), none)], ([], [], [([(0, -1), (1, 210), (2, 2)], 16)], [])), (none, [], ([], [], [([(0, -1), (1, 210), (2, 2)], 16)], []), [[]]), ([], []), { frames := 0, cells := 0, slots := 0, locals := 0 })
noncomputable def ag_rjV5 : aCon := (y_BO_inCheck, false, 3, ([(.inl (0, 80000), none), (.inl (0, 300), none), (.inl (0, 300), none)], ([], [], [([(0, -1), (1, 210)], 208)], [])), (none, [], ([], [], [([(0, -1), (1, 210)], 208)], []), [[]]), ([], []), { frames := 0, cells := 0, slots := 0, locals := 0 })
noncomputable def ag_rjV6 : aCon := (y_BO_inCheck, false, 3, ([(.inl (0, 80000), none), (.inl (0, 300), none), (.inl (0, 300), none)], ([], [], [([(0, -1), (1, 210)], 14)], [])), (none, [], ([], [], [([(0, -1), (1, 210)], 14)], []), [[]]), ([], []), { frames := 0, cells := 0, slots := 0, locals := 0 })
noncomputable def ag_rjW : aCon := (y_BO_inCheck, false, 1, ([(.inl (0, 80000), none)], ([], [], [([(0, -1)], 1884)], [])), (none, [], ([], [], [([(0, -1)], 1884)], []), [[]]), ([], []), { frames := 0, cells := 0, slots := 0, locals := 0 })
noncomputable def ag_rjW1 : aCon := (y_BO_inCheck, false, 1, ([(.inl (0, 80000), none)], ([], [], [([(0, -1)], 1681)], [])), (none, [], ([], [], [([(0, -1)], 1681)], []), [[]]), ([], []), { frames := 0, cells := 0, slots := 0, locals := 0 })
end
section
/-! the reference: uE -/
noncomputable def y_MM_split : jY := (⟨"ChessHouseModel", "split", "()V"⟩, prog_15_method_21_code, 3, none)
theorem m_MM_split : jmth lw_tbl y_MM_split 0 := ⟨jTA_in (wi := 2546) (jtF_ok rfl) rfl, jTA_in (wi := 314) (jtF_ok rfl) rfl, by decide, by decide, by decide +kernel⟩
theorem i_MM_split : Jvm.Cond.instanceMethod y_MM_split.1 ∈ jTA lw_tbl := jTA_in (wi := 2545) (jtF_ok rfl) rfl
theorem e_MM_split : Jvm.Cond.selects y_MM_split.1.cls y_MM_split.1 y_MM_split.1 ∈ jTA lw_tbl := jTA_in (wi := 161) (jtF_ok rfl) rfl
noncomputable def y_MM_number : jY := (⟨"ChessHouseModel", "number", "(III)I"⟩, prog_15_method_25_code, 10, (some .int))
theorem m_MM_number : jmth lw_tbl y_MM_number 3 := ⟨jTA_in (wi := 2806) (jtF_ok rfl) rfl, jTA_in (wi := 314) (jtF_ok rfl) rfl, by decide, by decide, by decide +kernel⟩
theorem i_MM_number : Jvm.Cond.instanceMethod y_MM_number.1 ∈ jTA lw_tbl := jTA_in (wi := 2805) (jtF_ok rfl) rfl
theorem e_MM_number : Jvm.Cond.selects y_MM_number.1.cls y_MM_number.1 y_MM_number.1 ∈ jTA lw_tbl := jTA_in (wi := 215) (jtF_ok rfl) rfl
noncomputable def y_MM_goTo : jY := (⟨"ChessHouseModel", "goTo", "(I)V"⟩, prog_15_method_28_code, 2, none)
theorem m_MM_goTo : jmth lw_tbl y_MM_goTo 1 := ⟨jTA_in (wi := 2511) (jtF_ok rfl) rfl, jTA_in (wi := 314) (jtF_ok rfl) rfl, by decide, by decide, by decide +kernel⟩
theorem i_MM_goTo : Jvm.Cond.instanceMethod y_MM_goTo.1 ∈ jTA lw_tbl := jTA_in (wi := 2510) (jtF_ok rfl) rfl
theorem e_MM_goTo : Jvm.Cond.selects y_MM_goTo.1.cls y_MM_goTo.1 y_MM_goTo.1 ∈ jTA lw_tbl := jTA_in (wi := 154) (jtF_ok rfl) rfl
noncomputable def y_MM_saySigns : jY := (⟨"ChessHouseModel", "saySigns", "(I)V"⟩, prog_15_method_32_code, 3, none)
theorem m_MM_saySigns : jmth lw_tbl y_MM_saySigns 1 := ⟨jTA_in (wi := 2774) (jtF_ok rfl) rfl, jTA_in (wi := 314) (jtF_ok rfl) rfl, by decide, by decide, by decide +kernel⟩
theorem i_MM_saySigns : Jvm.Cond.instanceMethod y_MM_saySigns.1 ∈ jTA lw_tbl := jTA_in (wi := 2773) (jtF_ok rfl) rfl
theorem e_MM_saySigns : Jvm.Cond.selects y_MM_saySigns.1.cls y_MM_saySigns.1 y_MM_saySigns.1 ∈ jTA lw_tbl := jTA_in (wi := 209) (jtF_ok rfl) rfl
noncomputable def y_MM_others : jY := (⟨"ChessHouseModel", "others", "()V"⟩, prog_15_method_33_code, 4, none)
theorem m_MM_others : jmth lw_tbl y_MM_others 0 := ⟨jTA_in (wi := 2770) (jtF_ok rfl) rfl, jTA_in (wi := 314) (jtF_ok rfl) rfl, by decide, by decide, by decide +kernel⟩
theorem i_MM_others : Jvm.Cond.instanceMethod y_MM_others.1 ∈ jTA lw_tbl := jTA_in (wi := 2769) (jtF_ok rfl) rfl
theorem e_MM_others : Jvm.Cond.selects y_MM_others.1.cls y_MM_others.1 y_MM_others.1 ∈ jTA lw_tbl := jTA_in (wi := 208) (jtF_ok rfl) rfl
noncomputable def y_MM_meant : jY := (⟨"ChessHouseModel", "meant", "(I)I"⟩, prog_15_method_34_code, 4, (some .int))
theorem m_MM_meant : jmth lw_tbl y_MM_meant 1 := ⟨jTA_in (wi := 2784) (jtF_ok rfl) rfl, jTA_in (wi := 314) (jtF_ok rfl) rfl, by decide, by decide, by decide +kernel⟩
theorem i_MM_meant : Jvm.Cond.instanceMethod y_MM_meant.1 ∈ jTA lw_tbl := jTA_in (wi := 2783) (jtF_ok rfl) rfl
theorem e_MM_meant : Jvm.Cond.selects y_MM_meant.1.cls y_MM_meant.1 y_MM_meant.1 ∈ jTA lw_tbl := jTA_in (wi := 211) (jtF_ok rfl) rfl
noncomputable def y_MM_play : jY := (⟨"ChessHouseModel", "play", "()V"⟩, prog_15_method_35_code, 4, none)
theorem m_MM_play : jmth lw_tbl y_MM_play 0 := ⟨jTA_in (wi := 2780) (jtF_ok rfl) rfl, jTA_in (wi := 314) (jtF_ok rfl) rfl, by decide, by decide, by decide +kernel⟩
theorem i_MM_play : Jvm.Cond.instanceMethod y_MM_play.1 ∈ jTA lw_tbl := jTA_in (wi := 2779) (jtF_ok rfl) rfl
theorem e_MM_play : Jvm.Cond.selects y_MM_play.1.cls y_MM_play.1 y_MM_play.1 ∈ jTA lw_tbl := jTA_in (wi := 210) (jtF_ok rfl) rfl
noncomputable def y_MM_back : jY := (⟨"ChessHouseModel", "back", "(I)V"⟩, prog_15_method_36_code, 4, none)
theorem m_MM_back : jmth lw_tbl y_MM_back 1 := ⟨jTA_in (wi := 2810) (jtF_ok rfl) rfl, jTA_in (wi := 314) (jtF_ok rfl) rfl, by decide, by decide, by decide +kernel⟩
theorem i_MM_back : Jvm.Cond.instanceMethod y_MM_back.1 ∈ jTA lw_tbl := jTA_in (wi := 2809) (jtF_ok rfl) rfl
theorem e_MM_back : Jvm.Cond.selects y_MM_back.1.cls y_MM_back.1 y_MM_back.1 ∈ jTA lw_tbl := jTA_in (wi := 216) (jtF_ok rfl) rfl
noncomputable def y_MT_addMark : jY := (⟨"ChessHouseModel$Texts", "addMark", "(I)I"⟩, prog_18_method_96_code, 2, (some .int))
theorem m_MT_addMark : jmth lw_tbl y_MT_addMark 1 := ⟨jTA_in (wi := 2824) (jtF_ok rfl) rfl, jTA_in (wi := 315) (jtF_ok rfl) rfl, by decide, by decide, by decide +kernel⟩
theorem i_MT_addMark : Jvm.Cond.instanceMethod y_MT_addMark.1 ∈ jTA lw_tbl := jTA_in (wi := 2822) (jtF_ok rfl) rfl
theorem e_MT_addMark : Jvm.Cond.selects y_MT_addMark.1.cls y_MT_addMark.1 y_MT_addMark.1 ∈ jTA lw_tbl := jTA_in (wi := 2823) (jtF_ok rfl) rfl
noncomputable def y_MM_mark : jY := (⟨"ChessHouseModel", "mark", "(I)V"⟩, prog_15_method_37_code, 3, none)
theorem m_MM_mark : jmth lw_tbl y_MM_mark 1 := ⟨jTA_in (wi := 2820) (jtF_ok rfl) rfl, jTA_in (wi := 314) (jtF_ok rfl) rfl, by decide, by decide, by decide +kernel⟩
theorem i_MM_mark : Jvm.Cond.instanceMethod y_MM_mark.1 ∈ jTA lw_tbl := jTA_in (wi := 2819) (jtF_ok rfl) rfl
theorem e_MM_mark : Jvm.Cond.selects y_MM_mark.1.cls y_MM_mark.1 y_MM_mark.1 ∈ jTA lw_tbl := jTA_in (wi := 218) (jtF_ok rfl) rfl
noncomputable def y_MM_lead : jY := (⟨"ChessHouseModel", "lead", "()V"⟩, prog_15_method_39_code, 2, none)
theorem m_MM_lead : jmth lw_tbl y_MM_lead 0 := ⟨jTA_in (wi := 2829) (jtF_ok rfl) rfl, jTA_in (wi := 314) (jtF_ok rfl) rfl, by decide, by decide, by decide +kernel⟩
theorem i_MM_lead : Jvm.Cond.instanceMethod y_MM_lead.1 ∈ jTA lw_tbl := jTA_in (wi := 2828) (jtF_ok rfl) rfl
theorem e_MM_lead : Jvm.Cond.selects y_MM_lead.1.cls y_MM_lead.1 y_MM_lead.1 ∈ jTA lw_tbl := jTA_in (wi := 219) (jtF_ok rfl) rfl
noncomputable def ag_MMputNumB : aCon := (y_MM_putNumber, false, 2, ([(.inr (some (.inl (false, 55))), none), (.inr none, none)], ([], [], [([(1, 1)], 999999999999999999), ([(1, -1)], 999999999999999999)], [])), (none, [], ([], [], [], []), [[]]), ([(55, 3)], [(57, ([], 0))]), { frames := 1, cells := 0, slots := 0, locals := 21 })
theorem ad_MMputNumB : aGd lw_tbl ag_MMputNumB := ⟨rfl, rfl, m_MM_putNumber, i_MM_putNumber, e_MM_putNumber⟩
noncomputable def ag_rnW : aCon := (y_BO_inCheck, false, 1, ([(.inl (0, 32768), none)], ([], [], [([(0, -2)], 65535)], [])), (none, [], ([], [], [([(0, -1)], 32767)], []), [[]]), ([], []), { frames := 0, cells := 0, slots := 0, locals := 0 })
noncomputable def ag_rnF0 : aCon := (y_BO_inCheck, false, 2, ([(.inr (some (.inl (false, 55))), none), (.inl (0, 0), none)], ([], [], [], [])), (none, [], ([], [], [], [(5922, [0, 1])]), [[]]), ([], []), { frames := 0, cells := 0, slots := 0, locals := 0 })
noncomputable def ag_rnFs : aCon := (y_BO_inCheck, false, 4, ([(.inr (some (.inl (false, 55))), none), (.inr (some (.inl (false, 58))), none), (.inl (0, 32767), none), (.inl (0, 65535), none)], ([(0, 14, 1)], [], [], [(5922, [0, 2])])), (none, [], ([], [], [], [(71477, [1, 2, 3, 0, 2])]), [[]]), ([], []), { frames := 0, cells := 0, slots := 0, locals := 0 })
noncomputable def ag_rnFn : aCon := (y_BO_inCheck, false, 3, ([(.inr (some (.inl (false, 55))), none), (.inl (0, 32767), none), (.inl (0, 32768), none)], ([], [], [([(2, 1), (1, -1)], -1), ([(2, -1), (1, 1)], 1)], [(5938, [0, 1])])), (none, [], ([], [], [], [(5922, [0, 2])]), [[]]), ([], []), { frames := 0, cells := 0, slots := 0, locals := 0 })
noncomputable def ag_rnFv : aCon := (y_BO_inCheck, false, 4, ([(.inr (some (.inl (false, 55))), none), (.inl (0, 32768), none), (.inl (0, 32767), none), (.inl (0, 65536), none), (.inr (some (.inl (false, 58))), none)], ([(0, 14, 4)], [(4, ([(2, 1)], 0), 3)], [([(1, 1), (2, -1)], -1)], [(5922, [0, 1])])), (none, [], ([], [], [([(3, -1)], 65535)], []), [[]]), ([], []), { frames := 0, cells := 0, slots := 0, locals := 0 })
noncomputable def ag_rnG0 : aCon := (y_BO_inCheck, false, 2, ([(.inr (some (.inl (false, 55))), none), (.inl (0, 0), none)], ([], [], [], [])), (none, [], ([], [], [], [(5954, [0, 1])]), [[]]), ([], []), { frames := 0, cells := 0, slots := 0, locals := 0 })
noncomputable def ag_rnGa : aCon := (y_BO_inCheck, false, 4, ([(.inr (some (.inl (false, 55))), none), (.inr (some (.inl (false, 58))), none), (.inl (0, 32767), none), (.inl (0, 65536), none)], ([(0, 14, 1)], [], [], [])), (none, [], ([], [], [], [(71526, [1, 2, 3, 0, 2, 3])]), [[]]), ([], []), { frames := 0, cells := 0, slots := 0, locals := 0 })
noncomputable def ag_rnGb : aCon := (y_BO_inCheck, false, 5, ([(.inr (some (.inl (false, 55))), none), (.inr (some (.inl (false, 59))), none), (.inl (0, 32767), none), (.inl (0, 65536), none), (.inl (0, 65536), none)], ([(0, 15, 1)], [], [([(3, 1), (4, -1)], -1)], [(5954, [0, 2]), (5987, [0, 2, 4])])), (none, [], ([], [], [], [(71509, [1, 2, 3, 0, 2])]), [[]]), ([], []), { frames := 0, cells := 0, slots := 0, locals := 0 })
noncomputable def ag_rnGn : aCon := (y_BO_inCheck, false, 3, ([(.inr (some (.inl (false, 55))), none), (.inl (0, 32767), none), (.inl (0, 32768), none)], ([], [], [([(2, 1), (1, -1)], -1), ([(2, -1), (1, 1)], 1)], [(5970, [0, 1])])), (none, [], ([], [], [], [(5954, [0, 2])]), [[]]), ([], []), { frames := 0, cells := 0, slots := 0, locals := 0 })
noncomputable def ag_rnGv : aCon := (y_BO_inCheck, false, 5, ([(.inr (some (.inl (false, 55))), none), (.inl (0, 32768), none), (.inl (0, 32767), none), (.inl (0, 65536), none), (.inl (0, 65536), none), (.inr (some (.inl (false, 58))), none), (.inr (some (.inl (false, 59))), none)], ([(0, 14, 5), (0, 15, 6)], [(5, ([(2, 1)], 0), 3), (6, ([(2, 1)], 0), 4)], [([(1, 1), (2, -1)], -1)], [(5954, [0, 1])])), (none, [], ([], [], [([(4, 1), (3, -1)], -1)], []), [[]]), ([], []), { frames := 0, cells := 0, slots := 0, locals := 0 })
noncomputable def ag_rnP : aCon := (y_BO_inCheck, false, 3, ([(.inr (some (.inl (false, 62))), none), (.inl (0, 1), none), (.inl (0, 300), none)], ([(0, 5, 1), (0, 6, 2)], [], [], [(5873, [0])])), (none, [], ([], [], [], [(6401, [0]), (3521, [0]), (7395, [0, 1, 2]), (7409, [0]), (384, []), (3859, [0, 1, 2])]), [[]]), ([(0, 0)], []), { frames := 0, cells := 0, slots := 0, locals := 0 })
noncomputable def ag_rnQ : aCon := (y_BO_inCheck, false, 3, ([(.inr (some (.inl (false, 62))), none), (.inl (0, 1), none), (.inl (0, 300), none)], ([(0, 5, 1), (0, 6, 2)], [], [], [(6401, [0]), (3521, [0]), (7395, [0, 1, 2]), (7409, [0]), (384, []), (3859, [0, 1, 2])])), (none, [], ([], [], [], [(5873, [0])]), [[]]), ([], []), { frames := 0, cells := 0, slots := 0, locals := 0 })
noncomputable def ag_rnM : aCon := (y_BO_inCheck, false, 5, ([(.inr (some (.inl (false, 62))), none), (.inl (0, 1), none), (.inl (0, 300), none), (.inl (-1, 24575), none), (.inl (0, 301), none), (.inr (some (.inl (false, 67))), none)], ([(0, 9, 5)], [(5, ([(1, 301), (2, 1)], 0), 3)], [], [(3876, [0, 1, 2, 4])])), (none, [], ([], [], [([(3, 1)], 0)], []), [[]]), ([], []), { frames := 0, cells := 0, slots := 0, locals := 0 })
noncomputable def ag_rnN1 : aCon := (y_BO_inCheck, false, 5, ([(.inr (some (.inl (false, 55))), none), (.inl (0, 32767), none), (.inl (0, 65536), none), (.inl (0, 65536), none), (.inl (0, 65536), none), (.inr (some (.inl (false, 58))), none)], ([(0, 14, 5)], [(5, ([(1, 1)], 0), 2)], [([(3, 1), (2, -1), (4, -1)], 0)], [])), (none, [], ([], [], [], [(6003, [0, 1, 4])]), [[]]), ([], []), { frames := 0, cells := 0, slots := 0, locals := 0 })
noncomputable def ag_rnN2 : aCon := (y_BO_inCheck, false, 4, ([(.inr (some (.inl (false, 55))), none), (.inl (0, 32767), none), (.inl (0, 65536), none), (.inl (0, 65536), none), (.inr (some (.inl (false, 58))), none)], ([(0, 14, 4)], [(4, ([(1, 1)], 0), 2)], [], [(6003, [0, 1, 3])])), (none, [], ([], [], [([(2, -1), (3, -1)], 65536)], []), [[]]), ([], []), { frames := 0, cells := 0, slots := 0, locals := 0 })
noncomputable def ag_rnB : aCon := (y_BO_inCheck, false, 3, ([(.inr (some (.inl (false, 62))), none), (.inl (0, 1), none), (.inl (0, 300), none)], ([(0, 5, 1), (0, 6, 2)], [], [], [(5873, [0])])), (none, [], ([], [], [], [(3859, [0, 1, 2])]), [[]]), ([], []), { frames := 0, cells := 0, slots := 0, locals := 0 })
end
section
/-! the reference: uF -/
noncomputable def y_MM_remark : jY := (⟨"ChessHouseModel", "remark", "(I)V"⟩, prog_15_method_38_code, 6, none)
theorem m_MM_remark : jmth lw_tbl y_MM_remark 1 := ⟨jTA_in (wi := 2525) (jtF_ok rfl) rfl, jTA_in (wi := 314) (jtF_ok rfl) rfl, by decide, by decide, by decide +kernel⟩
theorem i_MM_remark : Jvm.Cond.instanceMethod y_MM_remark.1 ∈ jTA lw_tbl := jTA_in (wi := 2524) (jtF_ok rfl) rfl
theorem e_MM_remark : Jvm.Cond.selects y_MM_remark.1.cls y_MM_remark.1 y_MM_remark.1 ∈ jTA lw_tbl := jTA_in (wi := 157) (jtF_ok rfl) rfl
noncomputable def y_MM_tagAt : jY := (⟨"ChessHouseModel", "tagAt", "(II)I"⟩, prog_15_method_42_code, 7, (some .int))
theorem m_MM_tagAt : jmth lw_tbl y_MM_tagAt 2 := ⟨jTA_in (wi := 2541) (jtF_ok rfl) rfl, jTA_in (wi := 314) (jtF_ok rfl) rfl, by decide, by decide, by decide +kernel⟩
theorem i_MM_tagAt : Jvm.Cond.instanceMethod y_MM_tagAt.1 ∈ jTA lw_tbl := jTA_in (wi := 2540) (jtF_ok rfl) rfl
theorem e_MM_tagAt : Jvm.Cond.selects y_MM_tagAt.1.cls y_MM_tagAt.1 y_MM_tagAt.1 ∈ jTA lw_tbl := jTA_in (wi := 160) (jtF_ok rfl) rfl
noncomputable def y_MM_tag : jY := (⟨"ChessHouseModel", "tag", "(I)V"⟩, prog_15_method_43_code, 9, none)
theorem m_MM_tag : jmth lw_tbl y_MM_tag 1 := ⟨jTA_in (wi := 2534) (jtF_ok rfl) rfl, jTA_in (wi := 314) (jtF_ok rfl) rfl, by decide, by decide, by decide +kernel⟩
theorem i_MM_tag : Jvm.Cond.instanceMethod y_MM_tag.1 ∈ jTA lw_tbl := jTA_in (wi := 2533) (jtF_ok rfl) rfl
theorem e_MM_tag : Jvm.Cond.selects y_MM_tag.1.cls y_MM_tag.1 y_MM_tag.1 ∈ jTA lw_tbl := jTA_in (wi := 159) (jtF_ok rfl) rfl
noncomputable def y_MM_endGame : jY := (⟨"ChessHouseModel", "endGame", "()Z"⟩, prog_15_method_40_code, 2, (some .boolean))
theorem m_MM_endGame : jmth lw_tbl y_MM_endGame 0 := ⟨jTA_in (wi := 2842) (jtF_ok rfl) rfl, jTA_in (wi := 314) (jtF_ok rfl) rfl, by decide, by decide, by decide +kernel⟩
theorem i_MM_endGame : Jvm.Cond.instanceMethod y_MM_endGame.1 ∈ jTA lw_tbl := jTA_in (wi := 2841) (jtF_ok rfl) rfl
theorem e_MM_endGame : Jvm.Cond.selects y_MM_endGame.1.cls y_MM_endGame.1 y_MM_endGame.1 ∈ jTA lw_tbl := jTA_in (wi := 221) (jtF_ok rfl) rfl
noncomputable def y_MM_writeGame : jY := (⟨"ChessHouseModel", "writeGame", "()V"⟩, prog_15_method_31_code, 3, none)
theorem m_MM_writeGame : jmth lw_tbl y_MM_writeGame 0 := ⟨jTA_in (wi := 2733) (jtF_ok rfl) rfl, jTA_in (wi := 314) (jtF_ok rfl) rfl, by decide, by decide, by decide +kernel⟩
theorem i_MM_writeGame : Jvm.Cond.instanceMethod y_MM_writeGame.1 ∈ jTA lw_tbl := jTA_in (wi := 2732) (jtF_ok rfl) rfl
theorem e_MM_writeGame : Jvm.Cond.selects y_MM_writeGame.1.cls y_MM_writeGame.1 y_MM_writeGame.1 ∈ jTA lw_tbl := jTA_in (wi := 200) (jtF_ok rfl) rfl
noncomputable def y_MM_readGame : jY := (⟨"ChessHouseModel", "readGame", "()V"⟩, prog_15_method_30_code, 5, none)
theorem m_MM_readGame : jmth lw_tbl y_MM_readGame 0 := ⟨jTA_in (wi := 2561) (jtF_ok rfl) rfl, jTA_in (wi := 314) (jtF_ok rfl) rfl, by decide, by decide, by decide +kernel⟩
theorem i_MM_readGame : Jvm.Cond.instanceMethod y_MM_readGame.1 ∈ jTA lw_tbl := jTA_in (wi := 2560) (jtF_ok rfl) rfl
theorem e_MM_readGame : Jvm.Cond.selects y_MM_readGame.1.cls y_MM_readGame.1 y_MM_readGame.1 ∈ jTA lw_tbl := jTA_in (wi := 164) (jtF_ok rfl) rfl
noncomputable def ag_rnT : aCon := (y_BO_inCheck, false, 1, ([(.inl (-65536, 65536), none)], ([], [], [], [])), (none, [], ([], [], [], []), [[([(0, -1)], 0)], [([(0, 1)], -1)]]), ([], []), { frames := 0, cells := 0, slots := 0, locals := 0 })
noncomputable def ag_rn0 : aCon := (y_BO_inCheck, false, 1, ([(.inl (-65536, 65536), none)], ([], [], [([(0, 1)], 0)], [])), (none, [], ([], [], [([(0, 1)], 0)], []), [[]]), ([], []), { frames := 0, cells := 0, slots := 0, locals := 0 })
end
section
/-! the reference: uG -/
noncomputable def y_MM_lookAtBoard : jY := (⟨"ChessHouseModel", "lookAtBoard", "()V"⟩, prog_15_method_44_code, 2, none)
theorem m_MM_lookAtBoard : jmth lw_tbl y_MM_lookAtBoard 0 := ⟨jTA_in (wi := 2505) (jtF_ok rfl) rfl, jTA_in (wi := 314) (jtF_ok rfl) rfl, by decide, by decide, by decide +kernel⟩
theorem i_MM_lookAtBoard : Jvm.Cond.instanceMethod y_MM_lookAtBoard.1 ∈ jTA lw_tbl := jTA_in (wi := 2504) (jtF_ok rfl) rfl
theorem e_MM_lookAtBoard : Jvm.Cond.selects y_MM_lookAtBoard.1.cls y_MM_lookAtBoard.1 y_MM_lookAtBoard.1 ∈ jTA lw_tbl := jTA_in (wi := 153) (jtF_ok rfl) rfl
noncomputable def y_MM_set : jY := (⟨"ChessHouseModel", "set", "(I)V"⟩, prog_15_method_29_code, 6, none)
theorem m_MM_set : jmth lw_tbl y_MM_set 1 := ⟨jTA_in (wi := 2426) (jtF_ok rfl) rfl, jTA_in (wi := 314) (jtF_ok rfl) rfl, by decide, by decide, by decide +kernel⟩
theorem i_MM_set : Jvm.Cond.instanceMethod y_MM_set.1 ∈ jTA lw_tbl := jTA_in (wi := 2425) (jtF_ok rfl) rfl
theorem e_MM_set : Jvm.Cond.selects y_MM_set.1.cls y_MM_set.1 y_MM_set.1 ∈ jTA lw_tbl := jTA_in (wi := 138) (jtF_ok rfl) rfl
noncomputable def ag_rgV0 : aCon := (y_BO_inCheck, false, 2, ([(.inr (some (.inl (false, 88))), none), (.inl (7, 7), none)], ([], [], [], [])), (none, [], ([], [], [], [(6034, [0, 1])]), [[]]), ([], []), { frames := 0, cells := 0, slots := 0, locals := 0 })
noncomputable def ag_rgV1 : aCon := (y_BO_inCheck, false, 3, ([(.inr (some (.inl (false, 88))), none), (.inl (0, 7), none), (.inl (0, 0), none)], ([], [], [], [(6034, [0, 1])])), (none, [], ([], [], [], [(6051, [0, 1, 2])]), [[]]), ([], []), { frames := 0, cells := 0, slots := 0, locals := 0 })
noncomputable def ag_rgV2 : aCon := (y_BO_inCheck, false, 4, ([(.inr (some (.inl (false, 88))), none), (.inl (0, 7), none), (.inl (0, 8), none), (.inl (0, 0), none)], ([], [], [], [(6051, [0, 1, 2])])), (none, [], ([], [], [], [(6068, [0, 1, 2, 3])]), [[]]), ([], []), { frames := 0, cells := 0, slots := 0, locals := 0 })
noncomputable def ag_rgV3 : aCon := (y_BO_inCheck, false, 7, ([(.inr (some (.inl (false, 88))), none), (.inr (some (.inl (false, 90))), none), (.inl (0, 7), none), (.inl (0, 7), none), (.inl (0, 7), none), (.inl (0, 63), none), (.inl (0, 0), none)], ([(0, 2, 1)], [], [([(5, 1), (2, -8), (3, -1), (4, -1)], 0), ([(5, -1), (2, 8), (3, 1), (4, 1)], 0), ([(3, -1), (4, -1)], 7)], [(6068, [0, 2, 3, 4])])), (none, [], ([], [], [], [(71623, [1, 5, 6, 0, 2, 3, 4])]), [[]]), ([], []), { frames := 0, cells := 0, slots := 0, locals := 0 })
noncomputable def ag_rgV4 : aCon := (y_BO_inCheck, false, 5, ([(.inr (some (.inl (false, 88))), none), (.inl (0, 7), none), (.inl (0, 8), none), (.inl (0, 7), none), (.inl (0, 8), none)], ([], [], [([(4, 1), (3, -1)], -1), ([(4, -1), (3, 1)], 1)], [(6084, [0, 1, 2, 3])])), (none, [], ([], [], [], [(6068, [0, 1, 2, 4])]), [[]]), ([], []), { frames := 0, cells := 0, slots := 0, locals := 0 })
noncomputable def ag_rgV5 : aCon := (y_BO_inCheck, false, 5, ([(.inr (some (.inl (false, 88))), none), (.inl (0, 7), none), (.inl (0, 8), none), (.inl (0, 8), none), (.inl (0, 8), none)], ([], [], [([(2, 1), (3, 1), (4, -1)], 0)], [(6068, [0, 1, 2, 3])])), (none, [], ([], [], [], [(6051, [0, 1, 4])]), [[]]), ([], []), { frames := 0, cells := 0, slots := 0, locals := 0 })
noncomputable def ag_rgV60 : aCon := (y_BO_inCheck, false, 6, ([(.inr (some (.inl (false, 88))), none), (.inr (some (.inl (false, 90))), none), (.inl (0, 7), none), (.inl (0, 7), none), (.inl (0, 63), none), (.inl (1, 6), none)], ([(0, 2, 1)], [], [([(4, 1), (2, -8), (3, -1)], 0), ([(4, -1), (2, 8), (3, 1)], 0)], [(6051, [0, 2, 3])])), (none, [], ([], [], [], [(71638, [1, 4, 5, 0, 2, 3])]), [[]]), ([], []), { frames := 0, cells := 0, slots := 0, locals := 0 })
noncomputable def ag_rgV61 : aCon := (y_BO_inCheck, false, 6, ([(.inr (some (.inl (false, 88))), none), (.inr (some (.inl (false, 90))), none), (.inl (0, 7), none), (.inl (0, 7), none), (.inl (0, 63), none), (.inl (9, 14), none)], ([(0, 2, 1)], [], [([(4, 1), (2, -8), (3, -1)], 0), ([(4, -1), (2, 8), (3, 1)], 0)], [(6051, [0, 2, 3])])), (none, [], ([], [], [], [(71638, [1, 4, 5, 0, 2, 3])]), [[]]), ([], []), { frames := 0, cells := 0, slots := 0, locals := 0 })
noncomputable def ag_rgV7 : aCon := (y_BO_inCheck, false, 4, ([(.inr (some (.inl (false, 88))), none), (.inl (0, 7), none), (.inl (0, 7), none), (.inl (0, 8), none)], ([], [], [([(3, 1), (2, -1)], -1), ([(3, -1), (2, 1)], 1)], [(6099, [0, 1, 2])])), (none, [], ([], [], [], [(6051, [0, 1, 3])]), [[]]), ([], []), { frames := 0, cells := 0, slots := 0, locals := 0 })
noncomputable def ag_rgV8 : aCon := (y_BO_inCheck, false, 4, ([(.inr (some (.inl (false, 88))), none), (.inl (0, 7), none), (.inl (8, 8), none), (.inl (-1, 7), none)], ([], [], [([(3, 1), (1, -1)], 1), ([(3, -1), (1, 1)], -1)], [(6051, [0, 1, 2])])), (none, [], ([], [], [], [(6034, [0, 3])]), [[]]), ([], []), { frames := 0, cells := 0, slots := 0, locals := 0 })
noncomputable def ag_rgV9 : aCon := (y_BO_inCheck, false, 2, ([(.inr (some (.inl (false, 88))), none), (.inl (-1, -1), none)], ([], [], [], [(6034, [0, 1])])), (none, [], ([], [], [], [(6017, [0])]), [[]]), ([], []), { frames := 0, cells := 0, slots := 0, locals := 0 })
noncomputable def ag_rgVa : aCon := (y_BO_inCheck, false, 2, ([(.inr (some (.inl (false, 88))), none), (.inl (-1, -1), none)], ([], [], [], [])), (none, [], ([], [], [], [(6146, [0, 1])]), [[]]), ([], []), { frames := 0, cells := 0, slots := 0, locals := 0 })
noncomputable def ag_rgVb : aCon := (y_BO_inCheck, false, 2, ([(.inr (some (.inl (false, 88))), none), (.inl (-1, 71), none)], ([], [], [], [(6017, [0])])), (none, [], ([], [], [], [(6146, [0, 1])]), [[]]), ([], []), { frames := 0, cells := 0, slots := 0, locals := 0 })
noncomputable def ag_rgVc : aCon := (y_BO_inCheck, false, 2, ([(.inr (some (.inl (false, 88))), none), (.inl (0, 71), none)], ([], [], [], [(6146, [0, 1])])), (none, [], ([], [], [], [(6017, [0])]), [[]]), ([], []), { frames := 0, cells := 0, slots := 0, locals := 0 })
noncomputable def ag_rgMa : aCon := (y_BO_inCheck, false, 1, ([(.inl (0, 0), none)], ([], [], [], [])), (none, [], ([], [], [], [(6161, [0])]), [[]]), ([], []), { frames := 0, cells := 0, slots := 0, locals := 0 })
noncomputable def ag_rgMb : aCon := (y_BO_inCheck, false, 3, ([(.inl (1, 14), none), (.inl (1, 7), none), (.inl (0, 6), none)], ([], [], [], [(2354, [0, 1]), (2354, [0, 2])])), (none, [], ([], [], [], [(6161, [0])]), [[]]), ([], []), { frames := 0, cells := 0, slots := 0, locals := 0 })
noncomputable def ag_rgMc : aCon := (y_BO_inCheck, false, 1, ([(.inl (0, 14), none)], ([], [], [], [(6161, [0])])), (none, [], ([], [], [], []), [[([(0, 1)], 0), ([(0, -1)], 0)], [([(0, 1)], -1), ([(0, -1)], 6)], [([(0, 1)], -9)]]), ([], []), { frames := 0, cells := 0, slots := 0, locals := 0 })
noncomputable def ag_rgF1 : aCon := (y_BO_inCheck, false, 2, ([(.inr (some (.inl (false, 88))), none), (.inl (1, 6), none)], ([], [], [], [])), (none, [], ([], [], [], [(6178, [0, 1])]), [[]]), ([], []), { frames := 0, cells := 0, slots := 0, locals := 0 })
noncomputable def ag_rgF0 : aCon := (y_BO_inCheck, false, 2, ([(.inr (some (.inl (false, 88))), none), (.inl (0, 0), none)], ([], [], [], [(3154, [0, 1]), (6017, [0])])), (none, [], ([], [], [], [(6178, [0, 1])]), [[]]), ([], []), { frames := 0, cells := 0, slots := 0, locals := 0 })
noncomputable def ag_rgQ1 : aCon := (y_BO_inCheck, false, 4, ([(.inr (some (.inl (false, 62))), none), (.inr (some (.inl (false, 84))), none), (.inl (4, 4), none), (.inl (-1, 1299), none)], ([(0, 31, 1), (0, 29, 3)], [], [], [(6193, [0])])), (none, [], ([], [], [], [(71748, [1, 2, 3, 0])]), [[]]), ([], []), { frames := 0, cells := 0, slots := 0, locals := 0 })
noncomputable def ag_rgQ2 : aCon := (y_BO_inCheck, false, 3, ([(.inr (some (.inl (false, 62))), none), (.inr (some (.inl (false, 84))), none), (.inl (0, 1299), none)], ([(0, 31, 1)], [(1, ([], 4), 2)], [], [(6209, [0])])), (none, [], ([], [], [], [(3938355, [0, 2, 0])]), [[]]), ([], []), { frames := 0, cells := 0, slots := 0, locals := 0 })
noncomputable def ag_rgQ3 : aCon := (y_BO_inCheck, false, 2, ([(.inr (some (.inl (false, 62))), none), (.inl (-1, 1299), none)], ([(0, 29, 1)], [], [], [(6193, [0])])), (none, [], ([], [], [([(1, -1)], 999), ([(1, 1)], 0)], []), [[]]), ([], []), { frames := 0, cells := 0, slots := 0, locals := 0 })
noncomputable def ag_rgQ4 : aCon := (y_BO_inCheck, false, 2, ([(.inr (some (.inl (false, 62))), none), (.inl (0, 999), none)], ([(0, 29, 1)], [], [], [])), (none, [], ([], [], [], [(6193, [0])]), [[]]), ([], []), { frames := 0, cells := 0, slots := 0, locals := 0 })
noncomputable def ag_rgL0 : aCon := (y_BO_inCheck, false, 3, ([(.inr (some (.inl (false, 62))), none), (.inr (some (.inl (false, 88))), none), (.inl (0, 0), none)], ([], [], [], [])), (none, [], ([], [], [], [(6115, [0, 1, 2])]), [[]]), ([], []), { frames := 0, cells := 0, slots := 0, locals := 0 })
noncomputable def ag_rgLs : aCon := (y_BO_inCheck, false, 5, ([(.inr (some (.inl (false, 62))), none), (.inr (some (.inl (false, 88))), none), (.inr (some (.inl (false, 82))), none), (.inl (0, 63), none), (.inl (0, 15), none), (.inr (some (.inl (false, 90))), none)], ([(1, 2, 5), (0, 24, 2)], [(5, ([(3, 1)], 0), 4)], [], [(6115, [0, 1, 3])])), (none, [], ([], [], [], [(71670, [2, 3, 4, 0, 1, 3])]), [[]]), ([], []), { frames := 0, cells := 0, slots := 0, locals := 0 })
noncomputable def ag_rgLn : aCon := (y_BO_inCheck, false, 4, ([(.inr (some (.inl (false, 62))), none), (.inr (some (.inl (false, 88))), none), (.inl (0, 63), none), (.inl (0, 64), none)], ([], [], [([(3, 1), (2, -1)], -1), ([(3, -1), (2, 1)], 1)], [(6131, [0, 1, 2])])), (none, [], ([], [], [], [(6115, [0, 1, 3])]), [[]]), ([], []), { frames := 0, cells := 0, slots := 0, locals := 0 })
noncomputable def ag_rgLe : aCon := (y_BO_inCheck, false, 6, ([(.inr (some (.inl (false, 62))), none), (.inr (some (.inl (false, 88))), none), (.inl (64, 64), none), (.inl (0, 1), none), (.inl (0, 15), none), (.inl (-1, 63), none)], ([(0, 25, 3), (0, 26, 4), (0, 27, 5), (1, 3, 3), (1, 4, 4), (1, 5, 5)], [], [], [(353, [1]), (6115, [0, 1, 2])])), (none, [], ([], [], [], [(6401, [0])]), [[]]), ([], []), { frames := 0, cells := 0, slots := 0, locals := 0 })
noncomputable def ag_rgLb : aCon := (y_BO_inCheck, false, 2, ([(.inr (some (.inl (false, 62))), none), (.inl (0, 1298), none)], ([(0, 29, 1)], [], [], [])), (none, [], ([], [], [], [(3521, [0])]), [[]]), ([], []), { frames := 0, cells := 0, slots := 0, locals := 0 })
noncomputable def ag_rgS : aCon := (y_BO_inCheck, false, 2, ([(.inr (some (.inl (false, 88))), none), (.inl (0, 0), none)], ([], [], [], [(6178, [0, 1])])), (none, [], ([], [], [], [(353, [0]), (384, [])]), [[]]), ([(0, 0)], []), { frames := 0, cells := 0, slots := 0, locals := 0 })
noncomputable def ag_rgT : aCon := (y_BO_inCheck, false, 1, ([(.inr (some (.inl (false, 62))), none)], ([], [], [], [(6401, [0]), (384, [])])), (none, [], ([], [], [], [(4513, [0])]), [[]]), ([], []), { frames := 0, cells := 0, slots := 0, locals := 0 })
end
section
/-! the reference: uH -/
noncomputable def y_MM_tellBoard : jY := (⟨"ChessHouseModel", "tellBoard", "()V"⟩, prog_15_method_45_code, 4, none)
theorem m_MM_tellBoard : jmth lw_tbl y_MM_tellBoard 0 := ⟨jTA_in (wi := 2855) (jtF_ok rfl) rfl, jTA_in (wi := 314) (jtF_ok rfl) rfl, by decide, by decide, by decide +kernel⟩
theorem i_MM_tellBoard : Jvm.Cond.instanceMethod y_MM_tellBoard.1 ∈ jTA lw_tbl := jTA_in (wi := 2854) (jtF_ok rfl) rfl
theorem e_MM_tellBoard : Jvm.Cond.selects y_MM_tellBoard.1.cls y_MM_tellBoard.1 y_MM_tellBoard.1 ∈ jTA lw_tbl := jTA_in (wi := 223) (jtF_ok rfl) rfl
noncomputable def ag_riP0 : aCon := (y_BO_inCheck, false, 5, ([(.inr (some (.inl (false, 55))), none), (.inr (some (.inl (false, 62))), none), (.inl (0, 1), none), (.inl (0, 300), none), (.inl (0, 0), none)], ([], [], [], [(3859, [1, 2, 3])])), (none, [], ([], [], [], [(6230, [0, 1, 2, 3, 4, 3])]), [[]]), ([], []), { frames := 0, cells := 0, slots := 0, locals := 0 })
noncomputable def ag_riPs : aCon := (y_BO_inCheck, false, 7, ([(.inr (some (.inl (false, 55))), none), (.inr (some (.inl (false, 62))), none), (.inr (some (.inl (false, 60))), none), (.inl (0, 1), none), (.inl (0, 300), none), (.inl (0, 300), none), (.inl (1, 300), none)], ([(0, 17, 2)], [], [], [(6230, [0, 1, 3, 4, 5, 6])])), (none, [], ([], [], [], [(71785, [2, 5, 6, 0, 1, 3, 4, 5, 6])]), [[]]), ([], []), { frames := 0, cells := 0, slots := 0, locals := 0 })
noncomputable def ag_riPn : aCon := (y_BO_inCheck, false, 8, ([(.inr (some (.inl (false, 55))), none), (.inr (some (.inl (false, 62))), none), (.inl (0, 1), none), (.inl (0, 300), none), (.inl (0, 300), none), (.inl (1, 300), none), (.inl (0, 300), none), (.inl (-1, 300), none), (.inr (some (.inl (false, 66))), none)], ([(1, 8, 8)], [(8, ([(2, 301), (5, 1)], 0), 7)], [([(6, 1), (4, -1)], -1), ([(6, -1), (4, 1)], 1)], [(6246, [0, 1, 2, 3, 4, 5])])), (none, [], ([], [], [([(7, 1)], 0), ([(5, 1), (7, -1)], -1)], [(6230, [0, 1, 2, 3, 6, 7])]), [[]]), ([], []), { frames := 0, cells := 0, slots := 0, locals := 0 })
noncomputable def ag_riPe : aCon := (y_BO_inCheck, false, 6, ([(.inr (some (.inl (false, 55))), none), (.inr (some (.inl (false, 62))), none), (.inl (0, 1), none), (.inl (0, 300), none), (.inl (0, 300), none), (.inl (0, 0), none)], ([], [], [], [(6230, [0, 1, 2, 3, 4, 5])])), (none, [], ([], [], [], [(6261, [0, 1, 2, 3, 4])]), [[]]), ([], []), { frames := 0, cells := 0, slots := 0, locals := 0 })
noncomputable def ag_riM0 : aCon := (y_BO_inCheck, false, 4, ([(.inr (some (.inl (false, 88))), none), (.inr (some (.inl (false, 62))), none), (.inl (0, 1), none), (.inl (0, 0), none)], ([], [], [], [])), (none, [], ([], [], [], [(6276, [0, 1, 2, 3])]), [[]]), ([], []), { frames := 0, cells := 0, slots := 0, locals := 0 })
noncomputable def ag_riMs : aCon := (y_BO_inCheck, false, 6, ([(.inr (some (.inl (false, 88))), none), (.inr (some (.inl (false, 62))), none), (.inr (some (.inl (false, 90))), none), (.inl (0, 1), none), (.inl (0, 63), none), (.inl (0, 15), none), (.inr (some (.inl (false, 74))), none)], ([(1, 16, 6), (0, 2, 2)], [(6, ([(3, 64), (4, 1)], 0), 5)], [], [(6276, [0, 1, 3, 4])])), (none, [], ([], [], [], [(71831, [2, 4, 5, 0, 1, 3, 4])]), [[]]), ([], []), { frames := 0, cells := 0, slots := 0, locals := 0 })
noncomputable def ag_riMn : aCon := (y_BO_inCheck, false, 5, ([(.inr (some (.inl (false, 88))), none), (.inr (some (.inl (false, 62))), none), (.inl (0, 1), none), (.inl (0, 63), none), (.inl (0, 64), none)], ([], [], [([(4, 1), (3, -1)], -1), ([(4, -1), (3, 1)], 1)], [(6292, [0, 1, 2, 3])])), (none, [], ([], [], [], [(6276, [0, 1, 2, 4])]), [[]]), ([], []), { frames := 0, cells := 0, slots := 0, locals := 0 })
noncomputable def ag_riS0 : aCon := (y_BO_inCheck, false, 10, ([(.inr (some (.inl (false, 55))), none), (.inr (some (.inl (false, 62))), none), (.inr (some (.inl (false, 88))), none), (.inl (0, 1), none), (.inl (0, 300), none), (.inl (0, 300), none), (.inl (64, 64), none), (.inl (0, 1), none), (.inl (0, 15), none), (.inl (-1, 63), none)], ([(2, 3, 7), (2, 4, 8), (2, 5, 9)], [], [], [(6261, [0, 1, 3, 4, 5]), (6276, [2, 1, 3, 6]), (4051, [1, 3, 7]), (4067, [1, 3, 8]), (4083, [1, 3, 9])])), (none, [], ([], [], [], [(353, [2]), (384, []), (7445, [0, 1, 3, 4, 5])]), [[]]), ([(0, 0)], []), { frames := 0, cells := 0, slots := 0, locals := 0 })
noncomputable def ag_riS1 : aCon := (y_BO_inCheck, false, 7, ([(.inr (some (.inl (false, 55))), none), (.inr (some (.inl (false, 62))), none), (.inr (some (.inl (false, 88))), none), (.inl (0, 1), none), (.inl (0, 300), none), (.inl (0, 300), none), (.inl (-1, 299), none)], ([], [], [([(6, 1), (5, -1)], 1), ([(6, -1), (5, 1)], -1)], [(353, [2]), (7445, [0, 1, 3, 4, 5])])), (none, [], ([], [], [], [(6311, [0, 1, 2, 3, 4, 5, 6])]), [[]]), ([], []), { frames := 0, cells := 0, slots := 0, locals := 0 })
noncomputable def ag_riG : aCon := (y_BO_inCheck, false, 9, ([(.inr (some (.inl (false, 55))), none), (.inr (some (.inl (false, 62))), none), (.inr (some (.inl (false, 88))), none), (.inl (0, 1), none), (.inl (0, 300), none), (.inl (0, 300), none), (.inl (0, 299), none), (.inl (0, 300), none), (.inl (-1, 24575), none), (.inr (some (.inl (false, 60))), none), (.inr (some (.inl (false, 67))), none)], ([(0, 17, 9), (1, 9, 10)], [(9, ([(6, 1)], 0), 7), (10, ([(3, 301), (7, 1)], 0), 8)], [], [(6311, [0, 1, 2, 3, 4, 5, 6])])), (none, [], ([], [], [([(8, 1)], 0), ([(7, 1)], -1)], []), [[]]), ([], []), { frames := 0, cells := 0, slots := 0, locals := 0 })
noncomputable def ag_riT1 : aCon := (y_BO_inCheck, false, 9, ([(.inr (some (.inl (false, 55))), none), (.inr (some (.inl (false, 62))), none), (.inr (some (.inl (false, 88))), none), (.inl (0, 1), none), (.inl (0, 300), none), (.inl (0, 300), none), (.inl (0, 299), none), (.inl (0, 300), none), (.inl (0, 24575), none), (.inr (some (.inl (false, 60))), none), (.inr (some (.inl (false, 67))), none)], ([(0, 17, 9), (1, 9, 10)], [(9, ([(6, 1)], 0), 7), (10, ([(3, 301), (7, 1)], 0), 8)], [], [(6311, [0, 1, 2, 3, 4, 5, 6])])), (none, [], ([], [], [], [(353, [2]), (384, []), (401, [8]), (384, [2, 8]), (7430, [0, 1, 3, 4, 5, 6])]), [[]]), ([(0, 0)], []), { frames := 0, cells := 0, slots := 0, locals := 0 })
noncomputable def ag_riT2 : aCon := (y_BO_inCheck, false, 9, ([(.inr (some (.inl (false, 55))), none), (.inr (some (.inl (false, 62))), none), (.inr (some (.inl (false, 88))), none), (.inl (0, 1), none), (.inl (0, 300), none), (.inl (0, 300), none), (.inl (0, 299), none), (.inl (0, 300), none), (.inl (0, 24575), none), (.inr (some (.inl (false, 60))), none), (.inr (some (.inl (false, 67))), none)], ([(0, 17, 9), (1, 9, 10)], [(9, ([(6, 1)], 0), 7), (10, ([(3, 301), (7, 1)], 0), 8)], [], [(353, [2, 2, 8]), (7430, [0, 1, 3, 4, 5, 6]), (384, []), (401, [8])])), (none, [], ([], [], [], [(6327, [0, 1, 2, 3, 4, 5, 6])]), [[]]), ([], []), { frames := 0, cells := 0, slots := 0, locals := 0 })
noncomputable def ag_riT3 : aCon := (y_BO_inCheck, false, 7, ([(.inr (some (.inl (false, 55))), none), (.inr (some (.inl (false, 62))), none), (.inr (some (.inl (false, 88))), none), (.inl (0, 1), none), (.inl (0, 300), none), (.inl (0, 300), none), (.inl (0, 299), none)], ([], [], [], [(6327, [0, 1, 2, 3, 4, 5, 6])])), (none, [], ([], [], [], [(353, [2]), (384, []), (7462, [0, 1, 3, 4, 5, 6])]), [[]]), ([(0, 0)], []), { frames := 0, cells := 0, slots := 0, locals := 0 })
noncomputable def ag_riT4 : aCon := (y_BO_inCheck, false, 8, ([(.inr (some (.inl (false, 55))), none), (.inr (some (.inl (false, 62))), none), (.inr (some (.inl (false, 88))), none), (.inl (0, 1), none), (.inl (0, 300), none), (.inl (0, 300), none), (.inl (0, 299), none), (.inl (-1, 298), none)], ([], [], [([(7, 1), (6, -1)], 1), ([(7, -1), (6, 1)], -1)], [(353, [2]), (7462, [0, 1, 3, 4, 5, 6])])), (none, [], ([], [], [], [(6311, [0, 1, 2, 3, 4, 5, 7])]), [[]]), ([], []), { frames := 0, cells := 0, slots := 0, locals := 0 })
noncomputable def ag_riE : aCon := (y_BO_inCheck, false, 7, ([(.inr (some (.inl (false, 55))), none), (.inr (some (.inl (false, 62))), none), (.inr (some (.inl (false, 88))), none), (.inl (0, 1), none), (.inl (0, 300), none), (.inl (0, 300), none), (.inl (-1, -1), none)], ([], [], [], [(6311, [0, 1, 2, 3, 4, 5, 6])])), (none, [], ([], [], [], [(6340, [2, 1, 3, 4])]), [[]]), ([], []), { frames := 0, cells := 0, slots := 0, locals := 0 })
noncomputable def ag_riN : aCon := (y_BO_inCheck, false, 2, ([(.inr (some (.inl (false, 88))), none), (.inl (-2147483648, 2147483647), none)], ([(0, 7, 1)], [], [([(1, -2)], 2597), ([(1, 1)], 0)], [])), (none, [], ([], [], [([(1, -1)], 1298)], []), [[]]), ([], []), { frames := 0, cells := 0, slots := 0, locals := 0 })
noncomputable def ag_riG0 : aCon := (y_BO_inCheck, false, 2, ([(.inr (some (.inl (false, 88))), none), (.inl (0, 0), none)], ([], [], [], [])), (none, [], ([], [], [], [(2722, [0, 1])]), [[]]), ([], []), { frames := 0, cells := 0, slots := 0, locals := 0 })
noncomputable def ag_riG2 : aCon := (y_BO_inCheck, false, 4, ([(.inr (some (.inl (false, 88))), none), (.inl (0, 300), none), (.inl (-1, 299), none), (.inl (0, 0), none)], ([], [], [([(1, 1), (2, -1)], -1), ([(1, -1), (2, 1)], 1)], [(2738, [0, 3])])), (none, [], ([], [], [], [(6355, [0, 1, 2])]), [[]]), ([], []), { frames := 0, cells := 0, slots := 0, locals := 0 })
noncomputable def ag_riG3 : aCon := (y_BO_inCheck, false, 4, ([(.inr (some (.inl (false, 88))), none), (.inl (0, 300), none), (.inl (0, 299), none), (.inl (0, 304), none)], ([], [], [([(3, 1), (1, -1), (2, 1)], 0), ([(3, -1), (1, 1), (2, -1)], 0)], [(6355, [0, 1, 2])])), (none, [], ([], [], [], [(2722, [0, 3])]), [[]]), ([], []), { frames := 0, cells := 0, slots := 0, locals := 0 })
noncomputable def ag_riG4 : aCon := (y_BO_inCheck, false, 4, ([(.inr (some (.inl (false, 88))), none), (.inl (0, 300), none), (.inl (-1, 298), none), (.inl (0, 304), none)], ([], [], [([(3, 1), (1, -1), (2, 1)], 1), ([(3, -1), (1, 1), (2, -1)], -1)], [(2738, [0, 3])])), (none, [], ([], [], [], [(6355, [0, 1, 2])]), [[]]), ([], []), { frames := 0, cells := 0, slots := 0, locals := 0 })
noncomputable def ag_riG5 : aCon := (y_BO_inCheck, false, 3, ([(.inr (some (.inl (false, 88))), none), (.inl (0, 300), none), (.inl (-1, -1), none)], ([], [], [], [(6355, [0, 1, 2])])), (none, [], ([], [], [], [(2738, [0, 1])]), [[]]), ([], []), { frames := 0, cells := 0, slots := 0, locals := 0 })
noncomputable def ag_riSd : aCon := (y_BO_inCheck, false, 4, ([(.inr (some (.inl (false, 88))), none), (.inl (0, 24575), none), (.inl (0, 1), none), (.inl (0, 1), none)], ([(0, 3, 3)], [], [], [(353, [0, 0, 1]), (1073, [2])])), (none, [], ([], [], [([(2, 1), (3, 1)], -1), ([(2, -1), (3, -1)], 1)], []), [[]]), ([], []), { frames := 0, cells := 0, slots := 0, locals := 0 })
end
section
/-! the reference: texts, sizes of subtrees, the third table's words -/
noncomputable def rCh9 (K : Nat → Nat) (n : Nat) (σ : Nat → jcell) (a k f kr len : Nat) (g : Nat → Int32) : Prop := ∃ r, rOb K n σ a k f (rR r) ∧ r < n ∧ K r = kr ∧ σ r = .inl (.char, len, .inl g)
theorem rCh9_u {K : Nat → Nat} {n : Nat} {σ : Nat → jcell} {a k k' f kr kr' len len' : Nat} {g g' : Nat → Int32} (h : rCh9 K n σ a k f kr len g) (h' : rCh9 K n σ a k' f kr' len' g') : g = g' := by
  obtain ⟨r, o, -, -, e⟩ := h
  obtain ⟨r', o', -, -, e'⟩ := h'
  cases rOb_u o o'
  rw [e] at e'
  cases e'
  rfl
theorem rCh9_c {K : Nat → Nat} {n : Nat} {σ : Nat → jcell} {a b k f kr len c m i : Nat} {fs : List jv} {ty : FieldType} {g g' : Nat → Int32} (h : rCh9 K n σ a k f kr len g') (e1 : σ a = .inr (c, fs)) (e2 : fs[f]? = some (rR b)) (e3 : σ b = .inl (ty, m, .inl g)) {v : Int32} (hv : v = g i) : (g' i).toInt = v.toInt := by
  obtain ⟨r, ⟨-, -, c', fs', e4, e5⟩, -, -, e6⟩ := h
  rw [e1] at e4
  cases e4
  rw [e2] at e5
  cases e5
  rw [e3] at e6
  cases e6
  rw [hv]
theorem rTxt_ex {K : Nat → Nat} {n : Nat} {σ : Nat → jcell} (hH : aH fa_T K n σ) {a : Nat} (ha : a < n) (hk : K a = 62) : ∃ g, rCh9 K n σ a 62 2 63 65536 g := by
  have h1 := hH a ha _ (by rw [hk]; exact (rfl : fa_T[62]? = _))
  match e : σ a, h1 with
  | .inr (c', fs), h1 =>
    obtain ⟨-, hl, h2⟩ := h1
    have hf : 2 < fs.length := by rw [hl]; decide
    obtain ⟨r, e2, h3, h4⟩ := rG_ref (k := 63) (by decide) (h2 2 _ _ rfl (List.getElem?_eq_getElem hf))
    have h5 := hH r h3 _ (by rw [h4]; exact (rfl : fa_T[63]? = _))
    obtain ⟨g, e3, -⟩ := aCe_arr h5 (show ¬ FieldType.char = FieldType.long by decide)
    exact ⟨g, r, ⟨ha, hk, c', fs, e, by rw [List.getElem?_eq_getElem hf, e2]⟩, h3, h4, e3⟩
  | .inl x, h1 => exact h1.elim
/-- the text, where it is read, how much there is of it -/
noncomputable def rAt9 (K : Nat → Nat) (n : Nat) (σ : Nat → jcell) (a : Nat) (g : Nat → Int32) (t e : Int32) : Prop := rCh9 K n σ a 62 2 63 65536 g ∧ rOb K n σ a 62 37 (rI t) ∧ rOb K n σ a 62 1 (rI e)
theorem rAt9_u {K : Nat → Nat} {n : Nat} {σ : Nat → jcell} {a : Nat} {g g' : Nat → Int32} {t e t' e' : Int32} (h : rAt9 K n σ a g t e) (h' : rAt9 K n σ a g' t' e') : g = g' ∧ t = t' ∧ e = e' := by
  obtain ⟨h1, h2, h3⟩ := h
  obtain ⟨h4, h5, h6⟩ := h'
  have e1 := rOb_u h2 h5
  have e2 := rOb_u h3 h6
  exact ⟨rCh9_u h1 h4, Sum.inl.inj e1, Sum.inl.inj e2⟩
noncomputable def rLk9 (g : Nat → Int32) (t e : Int) : Int := if t < e then (g t.toNat).toInt else 0
noncomputable def rGw9 (g : Nat → Int32) (t e c1 c2 c3 : Int) : Prop := t + 2 < e ∧ (g t.toNat).toInt = c1 ∧ (g (t + 1).toNat).toInt = c2 ∧ (g (t + 2).toNat).toInt = c3
noncomputable def rHf9 (g : Nat → Int32) (t e : Int) : Prop := rGw9 g t e 49 47 50 ∧ t + 6 < e ∧ (g (t + 3).toNat).toInt = 45 ∧ (g (t + 4).toNat).toInt = 49 ∧ (g (t + 5).toNat).toInt = 47 ∧ (g (t + 6).toNat).toInt = 50
noncomputable def rRQ9 (g : Nat → Int32) (t e : Int) : Prop := rLk9 g t e = 42 ∨ rGw9 g t e 49 45 48 ∨ rGw9 g t e 48 45 49 ∨ rHf9 g t e
/-! sizes of subtrees -/
noncomputable def rBb (pa : Int → Int) (u k : Int) : Bool := rRec pa (decide (u = 0)) (fun k b => decide (k = u) || b) 301 k
noncomputable def rSz (C : Int) (pa : Int → Int) (k : Int) : Int := (((List.range (C.toNat + 1)).countP (fun (j : Nat) => rBb pa k (j : Int)) : Nat) : Int)
theorem rBb_s {C : Int} {pa : Int → Int} (hC : C ≤ 300) (h : rPrs C pa) {u k : Int} (k0 : 1 ≤ k) (k1 : k ≤ C) : rBb pa u k = (decide (k = u) || rBb pa u (pa k)) := rRec_s hC h k0 k1
theorem rBb_0 {pa : Int → Int} {u : Int} : rBb pa u 0 = decide (u = 0) := rRec_0
theorem rBb_l {C : Int} {pa : Int → Int} (hC : C ≤ 300) (h : rPrs C pa) {u : Int} : ∀ k, 0 ≤ k → k ≤ C → rBb pa u k = true → u ≤ k := by
  refine rInd h (P := fun k => rBb pa u k = true → u ≤ k) ?_ ?_
  · intro h1
    rw [rBb_0] at h1
    have := of_decide_eq_true h1
    omega
  · intro k k0 k1 ih h1
    rw [rBb_s hC h k0 k1, Bool.or_eq_true] at h1
    have := h k k0 k1
    rcases h1 with h1 | h1
    · have := of_decide_eq_true h1
      omega
    · have := ih h1
      omega
theorem rBb_r {C : Int} {pa : Int → Int} (hC : C ≤ 300) (h : rPrs C pa) {k : Int} (k0 : 0 ≤ k) (k1 : k ≤ C) : rBb pa k k = true := by
  by_cases c : k = 0
  · rw [c, rBb_0]; rfl
  · rw [rBb_s hC h (by omega) k1, Bool.or_eq_true]
    exact Or.inl (decide_eq_true rfl)
theorem rBb_up {C : Int} {pa : Int → Int} (hC : C ≤ 300) (h : rPrs C pa) {c : Int} (c0 : 1 ≤ c) (c1 : c ≤ C) : ∀ j, 0 ≤ j → j ≤ C → rBb pa c j = true → rBb pa (pa c) j = true := by
  have hc := h c c0 c1
  refine rInd h (P := fun j => rBb pa c j = true → rBb pa (pa c) j = true) ?_ ?_
  · intro h1
    rw [rBb_0] at h1
    have := of_decide_eq_true h1
    omega
  · intro j j0 j1 ih h1
    rw [rBb_s hC h j0 j1, Bool.or_eq_true] at h1 ⊢
    refine Or.inr ?_
    rcases h1 with h1 | h1
    · rw [of_decide_eq_true h1]
      exact rBb_r hC h hc.1 (by omega)
    · exact ih h1
theorem rBb_uq {C : Int} {pa : Int → Int} (hC : C ≤ 300) (h : rPrs C pa) {c d : Int} (c0 : 1 ≤ c) (c1 : c ≤ C) (d0 : 1 ≤ d) (d1 : d ≤ C) (hp : pa c = pa d) : ∀ j, 0 ≤ j → j ≤ C → rBb pa c j = true → rBb pa d j = true → c = d := by
  have hc := h c c0 c1
  have hd := h d d0 d1
  refine rInd h (P := fun j => rBb pa c j = true → rBb pa d j = true → c = d) ?_ ?_
  · intro h1
    rw [rBb_0] at h1
    have := of_decide_eq_true h1
    omega
  · intro j j0 j1 ih h1 h2
    rw [rBb_s hC h j0 j1, Bool.or_eq_true] at h1 h2
    rcases h1 with h1 | h1
    · have e1 := of_decide_eq_true h1
      rcases h2 with h2 | h2
      · have e2 := of_decide_eq_true h2
        omega
      · rw [e1] at h2
        have := rBb_l hC h (pa c) hc.1 (by omega) h2
        omega
    · rcases h2 with h2 | h2
      · have e2 := of_decide_eq_true h2
        rw [e2] at h1
        have := rBb_l hC h (pa d) hd.1 (by omega) h1
        omega
      · exact ih h1 h2
theorem rCp_sum {α : Type} {P : α → Nat → Bool} {R Q : Nat → Bool} {L : List α} : ∀ {xs : List Nat}, (∀ j ∈ xs, L.countP (fun c => P c j) + (if Q j = true then 1 else 0) ≤ (if R j = true then 1 else 0)) → (L.map (fun c => xs.countP (P c))).sum + xs.countP Q ≤ xs.countP R
  | [], _ => by
    have e : ∀ (M : List α), (M.map (fun c => ([] : List Nat).countP (P c))).sum = 0 := fun M => by
      induction M with
      | nil => rfl
      | cons a M ih => rw [List.map_cons, List.sum_cons, ih]; rfl
    rw [e L]
    exact Nat.le_refl _
  | x :: xs, h => by
    have ih := rCp_sum (xs := xs) (fun j hj => h j (List.mem_cons_of_mem _ hj))
    have hx := h x List.mem_cons_self
    have e : ∀ (M : List α), (M.map (fun c => (x :: xs).countP (P c))).sum = (M.map (fun c => xs.countP (P c))).sum + M.countP (fun c => P c x) := fun M => by
      induction M with
      | nil => rfl
      | cons a M ih =>
        rw [List.map_cons, List.sum_cons, ih, List.map_cons, List.sum_cons, List.countP_cons, List.countP_cons]
        omega
    rw [e L, List.countP_cons, List.countP_cons]
    omega
theorem rCp_one {L : List Int} {P : Int → Bool} (hn : L.Nodup) (hu : ∀ c ∈ L, ∀ d ∈ L, P c = true → P d = true → c = d) : L.countP P ≤ 1 := by
  induction L with
  | nil => exact Nat.zero_le _
  | cons a L ih =>
    have hn2 := List.nodup_cons.mp hn
    rw [List.countP_cons]
    by_cases c : P a = true
    · have h0 : L.countP P = 0 := List.countP_eq_zero.mpr (fun d hd hp => hn2.1 (by rw [hu a List.mem_cons_self d (List.mem_cons_of_mem _ hd) c hp]; exact hd))
      rw [h0, if_pos c]
      omega
    · rw [if_neg c]
      have := ih hn2.2 (fun c hc d hd => hu c (List.mem_cons_of_mem _ hc) d (List.mem_cons_of_mem _ hd))
      omega
noncomputable def rSum (C : Int) (pa : Int → Int) : List Int → Int
  | [] => 0
  | c :: r => rSz C pa c + rSum C pa r
theorem rSum_e {C : Int} {pa : Int → Int} : ∀ {L : List Int}, rSum C pa L = ((L.map (fun c => (List.range (C.toNat + 1)).countP (fun (j : Nat) => rBb pa c (j : Int)))).sum : Nat)
  | [] => rfl
  | c :: r => by
    rw [List.map_cons, List.sum_cons]
    show rSz C pa c + rSum C pa r = _
    rw [rSum_e (L := r), Int.natCast_add]
    rfl
theorem rSz_ch {C : Int} {pa : Int → Int} (c0 : 0 ≤ C) (hC : C ≤ 300) (h : rPrs C pa) {k : Int} (k0 : 0 ≤ k) (k1 : k ≤ C) {L : List Int} (hn : L.Nodup) (hL : ∀ c, c ∈ L ↔ 1 ≤ c ∧ c ≤ C ∧ pa c = k) : rSum C pa L + 1 ≤ rSz C pa k := by
  have hs := rCp_sum (P := fun (c : Int) (j : Nat) => rBb pa c (j : Int)) (R := fun j => rBb pa k (j : Int)) (Q := fun j => decide ((j : Int) = k)) (L := L) (xs := List.range (C.toNat + 1)) (fun j hj => by
    have hjr := List.mem_range.mp hj
    have h1 : L.countP (fun c => rBb pa c (j : Int)) ≤ 1 := rCp_one hn (fun c hc d hd p1 p2 => by
      have a1 := (hL c).mp hc
      have a2 := (hL d).mp hd
      exact rBb_uq hC h a1.1 a1.2.1 a2.1 a2.2.1 (by rw [a1.2.2, a2.2.2]) j (by omega) (by omega) p1 p2)
    by_cases cz : L.countP (fun c => rBb pa c (j : Int)) = 0
    · rw [cz]
      by_cases cj : (j : Int) = k
      · rw [if_pos (decide_eq_true cj), if_pos (by rw [cj]; exact rBb_r hC h k0 k1)]
        exact Nat.le_refl _
      · rw [if_neg (fun h9 => cj (of_decide_eq_true h9))]
        omega
    · obtain ⟨c, hc, hp⟩ : ∃ c ∈ L, rBb pa c (j : Int) = true := List.countP_pos_iff.mp (by omega)
      have a1 := (hL c).mp hc
      have a2 := h c a1.1 a1.2.1
      have hup := rBb_up hC h a1.1 a1.2.1 j (by omega) (by omega) hp
      rw [a1.2.2] at hup
      have hle := rBb_l hC h j (by omega) (by omega) hp
      rw [if_pos hup, if_neg (fun h9 => by have := of_decide_eq_true h9; omega)]
      omega)
  have h2 : 1 ≤ (List.range (C.toNat + 1)).countP (fun (j : Nat) => decide ((j : Int) = k)) := List.countP_pos_iff.mpr ⟨k.toNat, List.mem_range.mpr (by omega), decide_eq_true (by omega)⟩
  rw [rSum_e]
  unfold rSz
  omega
theorem rSz_0 {C : Int} {pa : Int → Int} (c0 : 0 ≤ C) {k : Int} : rSz C pa k ≤ C + 1 := by
  unfold rSz
  have := List.countP_le_length (p := fun (j : Nat) => rBb pa k (j : Int)) (l := List.range (C.toNat + 1))
  rw [List.length_range] at this
  omega
theorem rSz_p {C : Int} {pa : Int → Int} (hC : C ≤ 300) (h : rPrs C pa) {k : Int} (k0 : 0 ≤ k) (k1 : k ≤ C) : 1 ≤ rSz C pa k := by
  unfold rSz
  have : 0 < (List.range (C.toNat + 1)).countP (fun (j : Nat) => rBb pa k (j : Int)) := List.countP_pos_iff.mpr ⟨k.toNat, List.mem_range.mpr (by omega), by rw [show ((k.toNat : Nat) : Int) = k by omega]; exact rBb_r hC h k0 k1⟩
  omega
theorem rSum_n {C : Int} {pa : Int → Int} : ∀ {L : List Int}, 0 ≤ rSum C pa L
  | [] => Int.le_refl _
  | c :: r => by
    have := rSum_n (C := C) (pa := pa) (L := r)
    show 0 ≤ rSz C pa c + rSum C pa r
    unfold rSz
    omega
/-- a chain of nodes from x on, of those from N + 1 on, and what their subtrees have -/
noncomputable def rSs (N C : Int) (y : rY) (x s : Int) : Prop := ∃ L, rCn y.2.2.2.1 x L ∧ (∀ c ∈ L, 1 ≤ c ∧ c ≤ C ∧ N + 1 ≤ c) ∧ s = rSum C y.1 L
noncomputable def rV1s (M : Int → Int) (s : Int) : Prop := M s = 0 ∨ (0 ≤ s ∧ s ≤ 63 ∧ ((1 ≤ M s ∧ M s ≤ 6) ∨ (9 ≤ M s ∧ M s ≤ 14)))
noncomputable def rPthM (K : Nat → Nat) (n : Nat) (σ : Nat → jcell) (a : Nat) (y : rY) (nd b : Int) : Prop := ∃ g, rRo K n σ a 55 17 60 301 g ∧ ∀ i, 0 ≤ i → i < b → (g i.toNat).toInt = rUa y.1 i.toNat nd ∧ 1 ≤ rUa y.1 i.toNat nd
noncomputable def rSt3 (K : Nat → Nat) (n : Nat) (σ : Nat → jcell) (a : Nat) (o : Int) (pa mo : Int → Int) (q0 : rQ) : Prop := rRy9 K n σ a 8 66 o pa ∧ rRy9 K n σ a 9 67 o mo ∧ ∃ z, rSt9 K n σ a o q0 z
theorem rSt3_u {K : Nat → Nat} {n : Nat} {σ : Nat → jcell} {a : Nat} {o : Int} {pa mo pa' mo' : Int → Int} {q0 q0' : rQ} (h : rSt3 K n σ a o pa mo q0) (h' : rSt3 K n σ a o pa' mo' q0') : pa = pa' ∧ mo = mo' ∧ q0 = q0' := by
  obtain ⟨h1, h2, z, h3⟩ := h
  obtain ⟨h4, h5, z', h6⟩ := h'
  exact ⟨rRy9_u h1 h4, rRy9_u h2 h5, (rSt9_u h3 h6).1⟩
theorem rSt3_y {K : Nat → Nat} {n : Nat} {σ : Nat → jcell} {a : Nat} {o : Int} {y : rY} (h : rTy K n σ a o y) : rSt3 K n σ a o y.1 y.2.1 y.2.2.2.2.1 := ⟨h.1, h.2.1, _, h.2.2.2.2⟩
theorem rSh_w {p : rP} {w : Int32} {z : Int} (h : (rSh rS1 p [rI w, rI w]).2 = some z) : z = w.toInt := by
  obtain ⟨q, o⟩ := p
  rcases o with _ | x
  · cases h
  · exact (Option.some.inj h).symm
theorem rSh_w2 {p : rP} {w : Int32} {z : Int} (h : p.2 = some z) : (rSh rS1 p [rI w, rI w]).2 = some w.toInt := by
  obtain ⟨q, o⟩ := p
  obtain rfl : o = some z := h
  rfl
theorem rI32w {z : Int} (h0 : 0 ≤ z) (h1 : z ≤ 100000) : ∃ x : Int32, x.toInt = z := ⟨Int32.ofInt z, by rw [Int32.toInt_ofInt_of_le (by omega) (by omega)]⟩
theorem rTy_up {K : Nat → Nat} {n : Nat} {σ : Nat → jcell} {a b c f kr : Nat} {o : Int} {fs : List jv} {fn : Int → Int} {i v : Int32} (h : rRy9 K n σ a f kr o fn) (e1 : σ a = .inr (c, fs)) (e2 : fs[f]? = some (rR b)) (hi : ¬ (301 * o ≤ i.toInt ∧ i.toInt ≤ 301 * o + 300)) : ∃ fn', rRy9 K n (jup σ b (jsto (σ b) i.toNatClampNeg v)) a f kr o fn' ∧ ∀ k, 0 ≤ 301 * o + k → 0 ≤ k → k ≤ 300 → 0 ≤ i.toInt → fn' k = fn k := by
  obtain ⟨g, h1, rfl⟩ := h
  refine ⟨_, ⟨_, rRo_up h1 e1 e2, rfl⟩, fun k k0 k1 k2 k3 => ?_⟩
  show ((upd g i.toNatClampNeg v) (301 * o + k).toNat).toInt = (g (301 * o + k).toNat).toInt
  unfold upd
  have hi2 : i.toNatClampNeg = i.toInt.toNat := rfl
  rw [if_neg (by rw [hi2]; omega)]
/-- the other game is not touched by a store into one of the tree's rows -/
theorem rTY_ot {K : Nat → Nat} {n : Nat} {σ : Nat → jcell} {a b c f kr : Nat} {o C : Int} {fs : List jv} {y : rY} {i v : Int32} (h : rTY K n σ a o C y) (h0 : 0 ≤ o) (hf : (f = 8 ∧ kr = 66) ∨ (f = 9 ∧ kr = 67) ∨ (f = 10 ∧ kr = 68) ∨ (f = 11 ∧ kr = 69)) (e1 : σ a = .inr (c, fs)) (e2 : fs[f]? = some (rR b)) (hb : K b = kr) (i0 : 0 ≤ i.toInt) (hi : ¬ (301 * o ≤ i.toInt ∧ i.toInt ≤ 301 * o + 300)) : ∃ y', rTY K n (jup σ b (jsto (σ b) i.toNatClampNeg v)) a o C y' := by
  obtain ⟨⟨h1, h2, h3, h4, g5, g6, r5, r6, e5, e6⟩, ⟨gC, rC, eC⟩, hT⟩ := h
  have hC := hT.1.2.1
  have ho : ∀ (f' kr' : Nat) (u : Int → Int), ¬ kr' = kr → ¬ kr = 62 → rRy9 K n σ a f' kr' o u → rRy9 K n (jup σ b (jsto (σ b) i.toNatClampNeg v)) a f' kr' o u := fun f' kr' u hk1 hk2 hu => by
    obtain ⟨g, r, e⟩ := hu
    exact ⟨g, rRo_o r (by omega) (by omega), e⟩
  have hS : rSt9 K n (jup σ b (jsto (σ b) i.toNatClampNeg v)) a o y.2.2.2.2.1 y.2.2.2.2.2 := ⟨g5, g6, rRo_o r5 (by omega) (by omega), rRo_o r6 (by omega) (by omega), e5, e6⟩
  have hCt : rCt9 K n (jup σ b (jsto (σ b) i.toNatClampNeg v)) a o C := ⟨gC, rRo_o rC (by omega) (by omega), eC⟩
  rcases hf with ⟨rfl, rfl⟩ | ⟨rfl, rfl⟩ | ⟨rfl, rfl⟩ | ⟨rfl, rfl⟩
  · obtain ⟨u, hu, he⟩ := rTy_up (v := v) h1 e1 e2 hi
    exact ⟨(u, y.2), ⟨hu, ho _ _ _ (by omega) (by omega) h2, ho _ _ _ (by omega) (by omega) h3, ho _ _ _ (by omega) (by omega) h4, hS⟩, hCt, (rTr_cg (y' := (u, y.2)) hT (fun k k0 k1 => he k (by omega) k0 (by omega) i0) (fun _ _ _ => rfl) (fun _ _ _ => rfl) (fun _ _ _ => rfl) rfl).1⟩
  · obtain ⟨u, hu, he⟩ := rTy_up (v := v) h2 e1 e2 hi
    exact ⟨(y.1, u, y.2.2), ⟨ho _ _ _ (by omega) (by omega) h1, hu, ho _ _ _ (by omega) (by omega) h3, ho _ _ _ (by omega) (by omega) h4, hS⟩, hCt, (rTr_cg (y' := (y.1, u, y.2.2)) hT (fun _ _ _ => rfl) (fun k k0 k1 => he k (by omega) k0 (by omega) i0) (fun _ _ _ => rfl) (fun _ _ _ => rfl) rfl).1⟩
  · obtain ⟨u, hu, he⟩ := rTy_up (v := v) h3 e1 e2 hi
    exact ⟨(y.1, y.2.1, u, y.2.2.2), ⟨ho _ _ _ (by omega) (by omega) h1, ho _ _ _ (by omega) (by omega) h2, hu, ho _ _ _ (by omega) (by omega) h4, hS⟩, hCt, (rTr_cg (y' := (y.1, y.2.1, u, y.2.2.2)) hT (fun _ _ _ => rfl) (fun _ _ _ => rfl) (fun k k0 k1 => he k (by omega) k0 (by omega) i0) (fun _ _ _ => rfl) rfl).1⟩
  · obtain ⟨u, hu, he⟩ := rTy_up (v := v) h4 e1 e2 hi
    exact ⟨(y.1, y.2.1, y.2.2.1, u, y.2.2.2.2), ⟨ho _ _ _ (by omega) (by omega) h1, ho _ _ _ (by omega) (by omega) h2, ho _ _ _ (by omega) (by omega) h3, hu, hS⟩, hCt, (rTr_cg (y' := (y.1, y.2.1, y.2.2.1, u, y.2.2.2.2)) hT (fun _ _ _ => rfl) (fun _ _ _ => rfl) (fun _ _ _ => rfl) (fun k k0 k1 => he k (by omega) k0 (by omega) i0) rfl).1⟩
end
section
/-! the reference's tables of endings: lines of men, counts, zero bits -/
noncomputable def rJq (a b : Int) : Bool := decide (b % 8 = a % 8) || decide (b / 8 = a / 8) || decide (b % 8 - a % 8 = b / 8 - a / 8) || decide (b % 8 - a % 8 = a / 8 - b / 8) || decide ((b % 8 - a % 8) * (b % 8 - a % 8) + (b / 8 - a / 8) * (b / 8 - a / 8) = 5)
noncomputable def rJn (a b : Int) : Bool := decide (-1 ≤ b % 8 - a % 8) && decide (b % 8 - a % 8 ≤ 1) && decide (-1 ≤ b / 8 - a / 8) && decide (b / 8 - a / 8 ≤ 1)
noncomputable def rJc (f : Int → Bool) : Nat → Int
  | 0 => 0
  | k + 1 => rJc f k + (if f (k : Int) = true then 1 else 0)
theorem rJc_s {f : Int → Bool} {k : Nat} : rJc f k ≤ rJc f (k + 1) := by
  show rJc f k ≤ rJc f k + (if f (k : Int) = true then 1 else 0)
  split <;> omega
theorem rJc_le {f : Int → Bool} {a b : Nat} (h : a ≤ b) : rJc f a ≤ rJc f b := by
  induction b with
  | zero => rw [show a = 0 by omega]; exact Int.le_refl _
  | succ b ih =>
    by_cases c : a = b + 1
    · rw [c]; exact Int.le_refl _
    · exact Int.le_trans (ih (by omega)) rJc_s
theorem rJc_0 {f : Int → Bool} {a : Nat} : 0 ≤ rJc f a := rJc_le (a := 0) (Nat.zero_le a)
theorem rJc_t {f : Int → Bool} {t : Int} (h : 0 ≤ t) : rJc f (t + 1).toNat = rJc f t.toNat + (if f t = true then 1 else 0) := by
  rw [show (t + 1).toNat = t.toNat + 1 by omega]
  show rJc f t.toNat + (if f ((t.toNat : Nat) : Int) = true then 1 else 0) = _
  rw [show ((t.toNat : Nat) : Int) = t by omega]
theorem rJn_9 : ∀ x : Fin 64, rJc (rJn (x.val : Int)) 64 ≤ 9 := by decide +kernel
theorem rJq_36 : ∀ x : Fin 64, rJc (rJq (x.val : Int)) 64 ≤ 36 := by decide +kernel
theorem rJn_b {x : Int} {a : Nat} (h0 : 0 ≤ x) (h1 : x ≤ 63) (ha : a ≤ 64) : rJc (rJn x) a ≤ 9 := by
  have h := rJn_9 ⟨x.toNat, by omega⟩
  dsimp only at h
  rw [show ((x.toNat : Nat) : Int) = x by omega] at h
  exact Int.le_trans (rJc_le ha) h
theorem rJq_b {x : Int} {a : Nat} (h0 : 0 ≤ x) (h1 : x ≤ 63) (ha : a ≤ 64) : rJc (rJq x) a ≤ 36 := by
  have h := rJq_36 ⟨x.toNat, by omega⟩
  dsimp only at h
  rw [show ((x.toNat : Nat) : Int) = x by omega] at h
  exact Int.le_trans (rJc_le ha) h
noncomputable def rJb (k m fr to : Int) : Int := (if k < fr then 9 else if k = fr then rJc (rJn k) to.toNat else 0) + (if m < fr then 39 else if m = fr then rJc (rJq m) to.toNat + (if m + 8 < to then 3 else 0) else 0)
theorem rJb_s {k m fr to : Int} (h : 0 ≤ to) : rJb k m fr to ≤ rJb k m fr (to + 1) := by
  unfold rJb
  have h1 := rJc_t (f := rJn k) h
  have h2 := rJc_t (f := rJq m) h
  rw [h1, h2]
  split <;> split <;> (repeat' split) <;> omega
theorem rJb_k {k m fr to : Int} (h : 0 ≤ to) (e : fr = k) (hn : rJn k to = true) : rJb k m fr to + 1 ≤ rJb k m fr (to + 1) := by
  unfold rJb
  have h1 := rJc_t (f := rJn k) h
  have h2 := rJc_t (f := rJq m) h
  rw [h1, h2, if_pos hn]
  subst e
  rw [if_neg (show ¬ fr < fr by omega), if_pos rfl, if_neg (show ¬ fr < fr by omega), if_pos rfl]
  (repeat' split) <;> omega
theorem rJb_m {k m fr to : Int} (h : 0 ≤ to) (e : fr = m) (hn : rJq m to = true) : rJb k m fr to + 1 ≤ rJb k m fr (to + 1) := by
  unfold rJb
  have h1 := rJc_t (f := rJn k) h
  have h2 := rJc_t (f := rJq m) h
  rw [h1, h2, if_pos hn]
  subst e
  rw [if_neg (show ¬ fr < fr by omega), if_pos rfl, if_neg (show ¬ fr < fr by omega), if_pos rfl]
  (repeat' split) <;> omega
theorem rJq_8 {m : Int} : rJq m (m + 8) = true := by
  unfold rJq
  rw [show decide ((m + 8) % 8 = m % 8) = true from decide_eq_true (by omega)]
  rfl
theorem rJq_16 {m : Int} : rJq m (m + 16) = true := by
  unfold rJq
  rw [show decide ((m + 16) % 8 = m % 8) = true from decide_eq_true (by omega)]
  rfl
theorem rJb_p {k m fr to : Int} (h : 0 ≤ to) (e : fr = m) (h8 : to = m + 8) : rJb k m fr to + 4 ≤ rJb k m fr (to + 1) := by
  have hn : rJq m to = true := by rw [h8]; exact rJq_8
  unfold rJb
  have h1 := rJc_t (f := rJn k) h
  have h2 := rJc_t (f := rJq m) h
  rw [h1, h2, if_pos hn]
  subst e
  rw [if_neg (show ¬ fr < fr by omega), if_pos rfl, if_neg (show ¬ fr < fr by omega), if_pos rfl, if_neg (show ¬ fr + 8 < to by omega), if_pos (show fr + 8 < to + 1 by omega)]
  (repeat' split) <;> omega
theorem rJb_e {k m fr to : Int} (hk : 0 ≤ k ∧ k ≤ 63) (hm : 0 ≤ m ∧ m ≤ 63) (ht : 0 ≤ to ∧ to ≤ 64) : rJb k m fr to ≤ rJb k m (fr + 1) 0 := by
  have h1 := rJn_b hk.1 hk.2 (show to.toNat ≤ 64 by omega)
  have h2 := rJq_b hm.1 hm.2 (show to.toNat ≤ 64 by omega)
  have h3 := rJc_0 (f := rJn k) (a := (0 : Int).toNat)
  have h4 := rJc_0 (f := rJq m) (a := (0 : Int).toNat)
  unfold rJb
  (repeat' split) <;> omega
theorem rJb_b {k m fr to : Int} (hk : 0 ≤ k ∧ k ≤ 63) (hm : 0 ≤ m ∧ m ≤ 63) (ht : 0 ≤ to ∧ to ≤ 64) : rJb k m fr to ≤ 50 := by
  have h1 := rJn_b hk.1 hk.2 (show to.toNat ≤ 64 by omega)
  have h2 := rJq_b hm.1 hm.2 (show to.toNat ≤ 64 by omega)
  unfold rJb
  (repeat' split) <;> omega
/-- kings: at most two men are a king -/
noncomputable def rJk (M : Int → Int) : Int → Bool := fun j => decide (M j = 6) || decide (M j = 14)
theorem rJk_2 {M : Int → Int} (h : rKs M) (a : Nat) : rJc (rJk M) a ≤ 2 := by
  obtain ⟨s, -, -, -, s4⟩ := h 0 (by omega) (by omega)
  obtain ⟨t, -, -, -, t4⟩ := h 1 (by omega) (by omega)
  have hh : ∀ j, rJk M j = true → j = s ∨ j = t := fun j hj => by
    unfold rJk at hj
    rw [Bool.or_eq_true, decide_eq_true_eq, decide_eq_true_eq] at hj
    rcases hj with hj | hj
    · exact Or.inl (s4 j (by omega))
    · exact Or.inr (t4 j (by omega))
  have key : ∀ a : Nat, rJc (rJk M) a ≤ (if s < a then 1 else 0) + (if t < a then 1 else 0) := by
    intro a
    induction a with
    | zero => show (0 : Int) ≤ _; split <;> split <;> omega
    | succ a ih =>
      show rJc (rJk M) a + (if rJk M (a : Int) = true then 1 else 0) ≤ _
      by_cases c : rJk M (a : Int) = true
      · rw [if_pos c]
        have h9 := hh _ c
        by_cases c2 : s = t
        · subst c2
          have h9 : (a : Int) = s := by rcases h9 with h9 | h9 <;> exact h9
          rw [if_neg (by omega)] at ih
          rw [if_pos (by omega)]
          omega
        · rcases h9 with h9 | h9
          · rw [if_neg (show ¬ s < (a : Int) by omega)] at ih
            rw [if_pos (show s < ((a + 1 : Nat) : Int) by omega)]
            split at ih <;> split <;> omega
          · rw [if_neg (show ¬ t < (a : Int) by omega)] at ih
            rw [if_pos (show t < ((a + 1 : Nat) : Int) by omega)]
            split at ih <;> split <;> omega
      · rw [if_neg c]
        split at ih <;> split at ih <;> split <;> split <;> omega
  have h9 := key a
  split at h9 <;> split at h9 <;> omega
/-- a row of longs behind a field -/
noncomputable def rJl (K : Nat → Nat) (n : Nat) (σ : Nat → jcell) (a k f kr len : Nat) (g : Nat → Int64) : Prop := ∃ r, rOb K n σ a k f (rR r) ∧ r < n ∧ K r = kr ∧ σ r = .inl (.long, len, .inr (.inl g))
theorem rJl_u {K : Nat → Nat} {n : Nat} {σ : Nat → jcell} {a k k' f kr kr' len len' : Nat} {g g' : Nat → Int64} (h : rJl K n σ a k f kr len g) (h' : rJl K n σ a k' f kr' len' g') : g = g' := by
  obtain ⟨r, o, -, -, e⟩ := h
  obtain ⟨r', o', -, -, e'⟩ := h'
  cases rOb_u o o'
  rw [e] at e'
  cases e'
  rfl
theorem rJl_st {K : Nat → Nat} {n : Nat} {σ σ' : Nat → jcell} {vs : List jv} {d : List aDe} (h : ∀ a, a < n → ∀ q ∈ d, q.1 = K a → aSm vs q (σ a) (σ' a)) {a k f kr len : Nat} {F : List Nat} {z : Option aF} {g : Nat → Int64} (hq : (k, F, z) ∈ d) (hf : f ∈ F) (hr : (kr, [], none) ∈ d) (ho : rJl K n σ a k f kr len g) : rJl K n σ' a k f kr len g := by
  obtain ⟨r, o, h1, h2, e⟩ := ho
  refine ⟨r, rOb_st h hq hf o, h1, h2, ?_⟩
  rcases h r h1 _ hr h2.symm with e1 | ⟨c', f1, f2, e3, e4, -, e5⟩ | ⟨ty, m, g1, g2, f', z', e0, -⟩
  · rw [e1]; exact e
  · rw [e3] at e
    cases e
  · cases e0
theorem rJl_ex {K : Nat → Nat} {n : Nat} {σ : Nat → jcell} (hH : aH fa_T K n σ) {a : Nat} (ha : a < n) (hk : K a = 109) : ∃ g, rJl K n σ a 109 3 110 327680 g := by
  have t1 : ∃ c ts, fa_T[109]? = some (.inr (c, ts)) ∧ ts[3]? = some (.inr (some (.inl (false, 110)))) := ⟨_, _, rfl, rfl⟩
  obtain ⟨c, ts, t1, t2⟩ := t1
  have t3 : ∃ iv el, fa_T[110]? = some (.inl (.long, 327680, iv, el)) := ⟨_, _, rfl⟩
  obtain ⟨iv, el, t3⟩ := t3
  have h1 := hH a ha _ (by rw [hk]; exact t1)
  match e : σ a, h1 with
  | .inr (c', fs), h1 =>
    obtain ⟨-, hl, h2⟩ := h1
    have hf : 3 < fs.length := by rw [hl]; exact (List.getElem?_eq_some_iff.mp t2).1
    obtain ⟨r, e2, h3, h4⟩ := rG_ref (by decide) (h2 3 _ _ t2 (List.getElem?_eq_getElem hf))
    have h5 := hH r h3 _ (by rw [h4]; exact t3)
    obtain ⟨g, e3⟩ := aCe_larr h5 rfl
    exact ⟨g, r, ⟨ha, hk, c', fs, e, by rw [List.getElem?_eq_getElem hf, e2]⟩, h3, h4, e3⟩
  | .inl x, h1 => exact h1.elim
noncomputable def rJz (x : Int64) : Nat := (List.range 64).countP (fun i => !x.toBitVec.getLsbD i)
noncomputable def rJs (g : Nat → Int64) : Nat → Nat
  | 0 => 0
  | k + 1 => rJs g k + rJz (g k)
theorem rJz_64 {x : Int64} : rJz x ≤ 64 := by
  have h := List.countP_le_length (p := fun i => !x.toBitVec.getLsbD i) (l := List.range 64)
  rw [List.length_range] at h
  exact h
theorem rJs_le {g : Nat → Int64} : ∀ k : Nat, rJs g k ≤ 64 * k
  | 0 => Nat.le_refl _
  | k + 1 => by
    have h := rJs_le (g := g) k
    have h2 := rJz_64 (x := g k)
    show rJs g k + rJz (g k) ≤ _
    omega
theorem rJs_cg {g g' : Nat → Int64} : ∀ k : Nat, (∀ i, i < k → g i = g' i) → rJs g k = rJs g' k
  | 0, _ => rfl
  | k + 1, h => by
    show rJs g k + rJz (g k) = rJs g' k + rJz (g' k)
    rw [rJs_cg k (fun i hi => h i (by omega)), h k (by omega)]
theorem rJs_up {g : Nat → Int64} {i : Nat} {x : Int64} : ∀ k : Nat, i < k → rJs (vp_updL g i x) k + rJz (g i) = rJs g k + rJz x
  | 0, h => by omega
  | k + 1, h => by
    show rJs (vp_updL g i x) k + rJz (vp_updL g i x k) + rJz (g i) = rJs g k + rJz (g k) + rJz x
    by_cases c : i = k
    · subst c
      rw [show vp_updL g i x i = x from if_pos rfl, rJs_cg (g := vp_updL g i x) (g' := g) i (fun j hj => if_neg (by omega))]
      omega
    · rw [show vp_updL g i x k = g k from if_neg (by omega)]
      have := rJs_up (g := g) (i := i) (x := x) k (by omega)
      omega
theorem rJp_le {p q : Nat → Bool} : ∀ {l : List Nat}, (∀ a ∈ l, p a = true → q a = true) → l.countP p ≤ l.countP q := fun h => List.countP_mono_left h
theorem rJp_lt {p q : Nat → Bool} : ∀ {l : List Nat}, (∀ a ∈ l, p a = true → q a = true) → (∃ a ∈ l, q a = true ∧ p a = false) → l.countP p < l.countP q
  | [], _, h => by obtain ⟨a, h, -⟩ := h; cases h
  | b :: l, h, h2 => by
    obtain ⟨a, ha, h3, h4⟩ := h2
    rw [List.countP_cons, List.countP_cons]
    rcases List.mem_cons.mp ha with rfl | ha
    · have h5 := rJp_le (l := l) (fun a ha => h a (List.mem_cons_of_mem _ ha))
      rw [if_pos h3, if_neg (by rw [h4]; decide)]
      omega
    · have h5 := rJp_lt (l := l) (fun a ha => h a (List.mem_cons_of_mem _ ha)) ⟨a, ha, h3, h4⟩
      by_cases c : p b = true
      · rw [if_pos c, if_pos (h b List.mem_cons_self c)]
        omega
      · rw [if_neg c]
        split <;> omega
theorem rJz_or {x t : Int64} : rJz (x ||| t) ≤ rJz x := rJp_le (fun a _ h => by
  rw [Int64.toBitVec_or, BitVec.getLsbD_or] at h
  cases c : x.toBitVec.getLsbD a with
  | false => rfl
  | true => rw [c] at h; cases h)
theorem rJz_lt {x t : Int64} (h : ∃ i, i < 64 ∧ x.toBitVec.getLsbD i = false ∧ t.toBitVec.getLsbD i = true) : rJz (x ||| t) < rJz x := by
  obtain ⟨i, h1, h2, h3⟩ := h
  refine rJp_lt (fun a _ h => ?_) ⟨i, List.mem_range.mpr h1, by rw [h2]; rfl, ?_⟩
  · rw [Int64.toBitVec_or, BitVec.getLsbD_or] at h
    cases c : x.toBitVec.getLsbD a with
    | false => rfl
    | true => rw [c] at h; cases h
  · rw [Int64.toBitVec_or, BitVec.getLsbD_or, h2, h3]
    rfl
/-- zero bits of the table: at most z -/
noncomputable def rJe (K : Nat → Nat) (n : Nat) (σ : Nat → jcell) (a : Nat) (z : Int) : Prop := ∃ g, rJl K n σ a 109 3 110 327680 g ∧ (rJs g 327680 : Int) ≤ z
/-- the byte of a cell is zero -/
noncomputable def rJy (K : Nat → Nat) (n : Nat) (σ : Nat → jcell) (a : Nat) (t : Int) : Prop := 0 ≤ t ∧ t < 2621440 ∧ ∃ g, rJl K n σ a 109 3 110 327680 g ∧ ∀ i, i < 8 → (g (t / 8).toNat).toBitVec.getLsbD (8 * (t % 8).toNat + i) = false
noncomputable def rJg (d : Int) : Int := if d % 256 = 255 then 3 else if d % 256 = 254 then 2 else if d % 256 = 253 then 1 else 0
theorem rJg_b {d : Int} : 0 ≤ rJg d ∧ rJg d ≤ 3 := by
  unfold rJg
  (repeat' split) <;> omega
theorem rJg_n {d : Int} (h : ¬ (d + 1) % 256 = 0) : rJg (d + 1) ≤ rJg d + 1 := by
  unfold rJg
  (repeat' split) <;> omega
theorem rJg_0 {d : Int} (h : (d + 1) % 256 = 0) : rJg d = 3 ∧ rJg (d + 1) = 0 := by
  unfold rJg
  rw [if_pos (by omega), if_neg (by omega), if_neg (by omega), if_neg (by omega)]
  exact ⟨rfl, rfl⟩
theorem rJg_s {d : Int} : rJg (d + 1) ≤ rJg d + 1 := by
  by_cases h : (d + 1) % 256 = 0
  · have := rJg_0 h; omega
  · exact rJg_n h
/-- the low byte of a long -/
theorem rJ_lo {x : Int64} (h0 : 0 ≤ x.toInt) (h : ¬ x.toInt % 256 = 0) : ∃ i, i < 8 ∧ x.toBitVec.getLsbD i = true := by
  refine Classical.byContradiction (fun hn => h ?_)
  have e : x.toBitVec.setWidth 8 = 0#8 := by
    apply BitVec.eq_of_getLsbD_eq
    intro i hi
    rw [BitVec.getLsbD_setWidth, BitVec.getLsbD_zero]
    cases c : x.toBitVec.getLsbD i with
    | false => rw [Bool.and_false]
    | true => exact absurd ⟨i, hi, c⟩ hn
  have e2 : x.toBitVec.toNat % 256 = 0 := by
    have := congrArg BitVec.toNat e
    rw [BitVec.toNat_setWidth] at this
    exact this
  have e3 : x.toInt = (x.toBitVec.toNat : Int) := by
    have h1 : x.toInt = x.toBitVec.toInt := rfl
    rw [h1, BitVec.toInt_eq_toNat_cond] at h0 ⊢
    have hlt := x.toBitVec.isLt
    split at h0
    · split <;> omega
    · omega
  rw [e3]
  omega
theorem rJ_sh {x t : Int64} {s : Int32} {w i : Nat} (ht : t = x <<< (s.toInt64 &&& 63)) (hs : s.toInt = 8 * (w : Int)) (hw : w ≤ 7) (hi : i < 8) (hb : x.toBitVec.getLsbD i = true) : t.toBitVec.getLsbD (8 * w + i) = true := by
  have h9 := rShn ⟨s.toInt.toNat, by omega⟩
  dsimp only at h9
  rw [← rOf (by omega)] at h9
  rw [ht, Int64.toBitVec_shiftLeft, BitVec.shiftLeft_eq', BitVec.getLsbD_shiftLeft, h9, show s.toInt.toNat = 8 * w by omega, show 8 * w + i - 8 * w = i by omega, hb]
  rw [show decide (8 * w + i < 64) = true from decide_eq_true (by omega), show decide (8 * w + i < 8 * w) = false from decide_eq_false (by omega)]
  rfl
end
