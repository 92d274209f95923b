section
/-! the reference: u4 -/
noncomputable def y_MT_childWith : jY := (⟨"ChessHouseModel$Texts", "childWith", "(III)I"⟩, prog_18_method_27_code, 5, (some .int))
theorem m_MT_childWith : jmth lw_tbl y_MT_childWith 3 := ⟨jTA_in (wi := 2705) (jtF_ok rfl) rfl, jTA_in (wi := 315) (jtF_ok rfl) rfl, by decide, by decide, by decide +kernel⟩
theorem i_MT_childWith : Jvm.Cond.instanceMethod y_MT_childWith.1 ∈ jTA lw_tbl := jTA_in (wi := 2704) (jtF_ok rfl) rfl
theorem e_MT_childWith : Jvm.Cond.selects y_MT_childWith.1.cls y_MT_childWith.1 y_MT_childWith.1 ∈ jTA lw_tbl := jTA_in (wi := 195) (jtF_ok rfl) rfl
noncomputable def y_MT_append : jY := (⟨"ChessHouseModel$Texts", "append", "(III)I"⟩, prog_18_method_28_code, 6, (some .int))
theorem m_MT_append : jmth lw_tbl y_MT_append 3 := ⟨jTA_in (wi := 2709) (jtF_ok rfl) rfl, jTA_in (wi := 315) (jtF_ok rfl) rfl, by decide, by decide, by decide +kernel⟩
theorem i_MT_append : Jvm.Cond.instanceMethod y_MT_append.1 ∈ jTA lw_tbl := jTA_in (wi := 2708) (jtF_ok rfl) rfl
theorem e_MT_append : Jvm.Cond.selects y_MT_append.1.cls y_MT_append.1 y_MT_append.1 ∈ jTA lw_tbl := jTA_in (wi := 196) (jtF_ok rfl) rfl
noncomputable def y_MT_isFirst : jY := (⟨"ChessHouseModel$Texts", "isFirst", "(II)Z"⟩, prog_18_method_29_code, 3, (some .boolean))
theorem m_MT_isFirst : jmth lw_tbl y_MT_isFirst 2 := ⟨jTA_in (wi := 2801) (jtF_ok rfl) rfl, jTA_in (wi := 315) (jtF_ok rfl) rfl, by decide, by decide, by decide +kernel⟩
theorem i_MT_isFirst : Jvm.Cond.instanceMethod y_MT_isFirst.1 ∈ jTA lw_tbl := jTA_in (wi := 2800) (jtF_ok rfl) rfl
theorem e_MT_isFirst : Jvm.Cond.selects y_MT_isFirst.1.cls y_MT_isFirst.1 y_MT_isFirst.1 ∈ jTA lw_tbl := jTA_in (wi := 214) (jtF_ok rfl) rfl
noncomputable def y_MT_deepOf : jY := (⟨"ChessHouseModel$Texts", "deepOf", "(II)I"⟩, prog_18_method_30_code, 5, (some .int))
theorem m_MT_deepOf : jmth lw_tbl y_MT_deepOf 2 := ⟨jTA_in (wi := 2797) (jtF_ok rfl) rfl, jTA_in (wi := 315) (jtF_ok rfl) rfl, by decide, by decide, by decide +kernel⟩
theorem i_MT_deepOf : Jvm.Cond.instanceMethod y_MT_deepOf.1 ∈ jTA lw_tbl := jTA_in (wi := 2796) (jtF_ok rfl) rfl
theorem e_MT_deepOf : Jvm.Cond.selects y_MT_deepOf.1.cls y_MT_deepOf.1 y_MT_deepOf.1 ∈ jTA lw_tbl := jTA_in (wi := 213) (jtF_ok rfl) rfl
noncomputable def y_MT_isBehind : jY := (⟨"ChessHouseModel$Texts", "isBehind", "(II)Z"⟩, prog_18_method_98_code, 4, (some .boolean))
theorem m_MT_isBehind : jmth lw_tbl y_MT_isBehind 2 := ⟨jTA_in (wi := 2837) (jtF_ok rfl) rfl, jTA_in (wi := 315) (jtF_ok rfl) rfl, by decide, by decide, by decide +kernel⟩
theorem i_MT_isBehind : Jvm.Cond.instanceMethod y_MT_isBehind.1 ∈ jTA lw_tbl := jTA_in (wi := 2836) (jtF_ok rfl) rfl
theorem e_MT_isBehind : Jvm.Cond.selects y_MT_isBehind.1.cls y_MT_isBehind.1 y_MT_isBehind.1 ∈ jTA lw_tbl := jTA_in (wi := 220) (jtF_ok rfl) rfl
noncomputable def y_MT_add : jY := (⟨"ChessHouseModel$Texts", "add", "(I)I"⟩, prog_18_method_95_code, 4, (some .int))
theorem m_MT_add : jmth lw_tbl y_MT_add 1 := ⟨jTA_in (wi := 2789) (jtF_ok rfl) rfl, jTA_in (wi := 315) (jtF_ok rfl) rfl, by decide, by decide, by decide +kernel⟩
theorem i_MT_add : Jvm.Cond.instanceMethod y_MT_add.1 ∈ jTA lw_tbl := jTA_in (wi := 2787) (jtF_ok rfl) rfl
theorem e_MT_add : Jvm.Cond.selects y_MT_add.1.cls y_MT_add.1 y_MT_add.1 ∈ jTA lw_tbl := jTA_in (wi := 2788) (jtF_ok rfl) rfl
noncomputable def y_MT_lead : jY := (⟨"ChessHouseModel$Texts", "lead", "()Z"⟩, prog_18_method_99_code, 4, (some .boolean))
theorem m_MT_lead : jmth lw_tbl y_MT_lead 0 := ⟨jTA_in (wi := 2833) (jtF_ok rfl) rfl, jTA_in (wi := 315) (jtF_ok rfl) rfl, by decide, by decide, by decide +kernel⟩
theorem i_MT_lead : Jvm.Cond.instanceMethod y_MT_lead.1 ∈ jTA lw_tbl := jTA_in (wi := 2831) (jtF_ok rfl) rfl
theorem e_MT_lead : Jvm.Cond.selects y_MT_lead.1.cls y_MT_lead.1 y_MT_lead.1 ∈ jTA lw_tbl := jTA_in (wi := 2832) (jtF_ok rfl) rfl
noncomputable def ag_ryC0 : aCon := (y_BO_inCheck, false, 4, ([(.inr (some (.inl (false, 62))), none), (.inl (0, 1), none), (.inl (0, 300), none), (.inl (-1, 300), none), (.inr (some (.inl (false, 68))), none)], ([(0, 10, 4)], [(4, ([(1, 301), (2, 1)], 0), 3)], [], [(3859, [0, 1, 2])])), (none, [.inl (0, 301)], ([], [], [], [(3876, [0, 1, 3, 5])]), [[]]), ([], []), { frames := 0, cells := 0, slots := 0, locals := 0 })
noncomputable def ag_ryCn : aCon := (y_BO_inCheck, false, 5, ([(.inr (some (.inl (false, 62))), none), (.inl (0, 1), none), (.inl (0, 300), none), (.inl (0, 301), none), (.inl (-1, 300), none), (.inr (some (.inl (false, 69))), none)], ([(0, 11, 5)], [(5, ([(1, 301), (2, 1)], 0), 4)], [], [(3876, [0, 1, 2, 3])])), (none, [.inl (0, 301)], ([], [], [([(3, 1), (6, -1)], -1)], [(3876, [0, 1, 4, 6])]), [[]]), ([], []), { frames := 0, cells := 0, slots := 0, locals := 0 })
noncomputable def ag_ryCe : aCon := (y_BO_inCheck, false, 4, ([(.inr (some (.inl (false, 62))), none), (.inl (0, 1), none), (.inl (-1, 300), none), (.inl (0, 301), none)], ([], [], [], [(3876, [0, 1, 2, 3])])), (none, [], ([], [], [], [(3811, [0, 1, 2])]), [[]]), ([], []), { frames := 0, cells := 0, slots := 0, locals := 0 })
noncomputable def ag_rzP0 : aCon := (y_BO_inCheck, false, 4, ([(.inr (some (.inl (false, 62))), none), (.inl (0, 1), none), (.inl (0, 300), none), (.inl (0, 0), none)], ([], [], [], [(3859, [0, 1, 2])])), (none, [], ([], [], [], [(3941, [0, 1, 2, 3, 2])]), [[]]), ([], []), { frames := 0, cells := 0, slots := 0, locals := 0 })
noncomputable def ag_rzPs : aCon := (y_BO_inCheck, false, 6, ([(.inr (some (.inl (false, 62))), none), (.inr (some (.inl (false, 86))), none), (.inl (0, 1), none), (.inl (0, 300), none), (.inl (0, 300), none), (.inl (1, 300), none)], ([(0, 34, 1)], [], [], [(3941, [0, 2, 3, 4, 5])])), (none, [], ([], [], [], [(69496, [1, 4, 5, 0, 2, 3, 4, 5])]), [[]]), ([], []), { frames := 0, cells := 0, slots := 0, locals := 0 })
noncomputable def ag_rzPn : aCon := (y_BO_inCheck, false, 7, ([(.inr (some (.inl (false, 62))), none), (.inl (0, 1), none), (.inl (0, 300), none), (.inl (0, 300), none), (.inl (1, 300), none), (.inl (0, 300), none), (.inl (-1, 300), none), (.inr (some (.inl (false, 66))), none)], ([(0, 8, 7)], [(7, ([(1, 301), (4, 1)], 0), 6)], [([(5, 1), (3, -1)], -1), ([(5, -1), (3, 1)], 1)], [(3957, [0, 1, 2, 3, 4])])), (none, [], ([], [], [([(6, 1)], 0), ([(4, 1), (6, -1)], -1)], [(3941, [0, 1, 2, 5, 6])]), [[]]), ([], []), { frames := 0, cells := 0, slots := 0, locals := 0 })
noncomputable def ag_rzM0 : aCon := (y_BO_inCheck, false, 3, ([(.inr (some (.inl (false, 62))), none), (.inl (0, 1), none), (.inl (0, 0), none)], ([], [], [], [])), (none, [], ([], [], [], [(3971, [0, 1, 2])]), [[]]), ([], []), { frames := 0, cells := 0, slots := 0, locals := 0 })
noncomputable def ag_rzMs : aCon := (y_BO_inCheck, false, 5, ([(.inr (some (.inl (false, 62))), none), (.inr (some (.inl (false, 82))), none), (.inl (0, 1), none), (.inl (0, 63), none), (.inl (0, 15), none), (.inr (some (.inl (false, 74))), none)], ([(0, 16, 5), (0, 24, 1)], [(5, ([(2, 64), (3, 1)], 0), 4)], [], [(3971, [0, 2, 3])])), (none, [], ([], [], [], [(69526, [1, 3, 4, 0, 2, 3])]), [[]]), ([], []), { frames := 0, cells := 0, slots := 0, locals := 0 })
noncomputable def ag_rzMn : aCon := (y_BO_inCheck, false, 4, ([(.inr (some (.inl (false, 62))), none), (.inl (0, 1), none), (.inl (0, 63), none), (.inl (0, 64), none)], ([], [], [([(3, 1), (2, -1)], -1), ([(3, -1), (2, 1)], 1)], [(3987, [0, 1, 2])])), (none, [], ([], [], [], [(3971, [0, 1, 3])]), [[]]), ([], []), { frames := 0, cells := 0, slots := 0, locals := 0 })
noncomputable def ag_rzR0 : aCon := (y_BO_inCheck, false, 5, ([(.inr (some (.inl (false, 62))), none), (.inr (some (.inl (false, 75))), none), (.inl (0, 1), none), (.inl (0, 300), none), (.inl (-2147483648, 2147483647), none)], ([(0, 17, 1)], [(1, ([(2, 5)], 0), 4)], [], [(3859, [0, 2, 3])])), (none, [], ([], [], [([(4, 1)], 0), ([(4, -1)], 1)], [(4051, [0, 2, 4])]), [[]]), ([], []), { frames := 0, cells := 0, slots := 0, locals := 0 })
noncomputable def ag_rzR1 : aCon := (y_BO_inCheck, false, 5, ([(.inr (some (.inl (false, 62))), none), (.inr (some (.inl (false, 75))), none), (.inl (0, 1), none), (.inl (0, 300), none), (.inl (-2147483648, 2147483647), none)], ([(0, 17, 1)], [(1, ([(2, 5)], 1), 4)], [], [(3859, [0, 2, 3])])), (none, [], ([], [], [([(4, 1)], 0), ([(4, -1)], 15)], [(4067, [0, 2, 4])]), [[]]), ([], []), { frames := 0, cells := 0, slots := 0, locals := 0 })
noncomputable def ag_rzR2 : aCon := (y_BO_inCheck, false, 5, ([(.inr (some (.inl (false, 62))), none), (.inr (some (.inl (false, 75))), none), (.inl (0, 1), none), (.inl (0, 300), none), (.inl (-2147483648, 2147483647), none)], ([(0, 17, 1)], [(1, ([(2, 5)], 2), 4)], [], [(3859, [0, 2, 3])])), (none, [], ([], [], [([(4, 1)], 1), ([(4, -1)], 63)], [(4083, [0, 2, 4])]), [[]]), ([], []), { frames := 0, cells := 0, slots := 0, locals := 0 })
noncomputable def ag_rzRn : aCon := (y_BO_inCheck, false, 5, ([(.inr (some (.inl (false, 62))), none), (.inr (some (.inl (false, 75))), none), (.inl (0, 1), none), (.inl (0, 300), none), (.inl (-2147483648, 2147483647), none)], ([(0, 17, 1)], [(1, ([(2, 5)], 4), 4)], [], [(3859, [0, 2, 3])])), (none, [], ([], [], [([(4, 1)], 0), ([(4, -1)], 999)], []), [[]]), ([], []), { frames := 0, cells := 0, slots := 0, locals := 0 })
noncomputable def ag_rzS0 : aCon := (y_BO_inCheck, false, 9, ([(.inr (some (.inl (false, 62))), none), (.inl (0, 1), none), (.inl (0, 300), none), (.inl (0, 300), none), (.inl (-1, 299), none), (.inl (64, 64), none), (.inl (0, 1), none), (.inl (0, 15), none), (.inl (-1, 63), none)], ([(0, 25, 6), (0, 26, 7), (0, 27, 8)], [], [([(4, 1), (3, -1)], 1), ([(4, -1), (3, 1)], -1)], [(4037, [0, 1, 2, 3, 3]), (3971, [0, 1, 5]), (4051, [0, 1, 6]), (4067, [0, 1, 7]), (4083, [0, 1, 8])])), (none, [], ([], [], [], [(4005, [0, 1, 2, 3, 4])]), [[]]), ([], []), { frames := 0, cells := 0, slots := 0, locals := 0 })
noncomputable def ag_rzPe : aCon := (y_BO_inCheck, false, 5, ([(.inr (some (.inl (false, 62))), none), (.inl (0, 1), none), (.inl (0, 300), none), (.inl (0, 300), none), (.inl (0, 0), none)], ([], [], [], [(3941, [0, 1, 2, 3, 4])])), (none, [], ([], [], [], [(4037, [0, 1, 2, 3, 3])]), [[]]), ([], []), { frames := 0, cells := 0, slots := 0, locals := 0 })
noncomputable def ag_rzG : aCon := (y_BO_inCheck, false, 7, ([(.inr (some (.inl (false, 62))), none), (.inl (0, 1), none), (.inl (0, 300), none), (.inl (0, 300), none), (.inl (0, 299), none), (.inl (0, 300), none), (.inl (-1, 24575), none), (.inr (some (.inl (false, 86))), none), (.inr (some (.inl (false, 67))), none)], ([(0, 34, 7), (0, 9, 8)], [(7, ([(4, 1)], 0), 5), (8, ([(1, 301), (5, 1)], 0), 6)], [], [(4005, [0, 1, 2, 3, 4])])), (none, [], ([], [], [([(6, 1)], 0), ([(5, 1)], -1)], []), [[]]), ([], []), { frames := 0, cells := 0, slots := 0, locals := 0 })
noncomputable def ag_rzT1 : aCon := (y_BO_inCheck, false, 7, ([(.inr (some (.inl (false, 62))), none), (.inl (0, 1), none), (.inl (0, 300), none), (.inl (0, 300), none), (.inl (0, 299), none), (.inl (0, 300), none), (.inl (0, 24575), none), (.inr (some (.inl (false, 86))), none), (.inr (some (.inl (false, 67))), none)], ([(0, 34, 7), (0, 9, 8)], [(7, ([(4, 1)], 0), 5), (8, ([(1, 301), (5, 1)], 0), 6)], [], [(4005, [0, 1, 2, 3, 4])])), (none, [], ([], [], [], [(6401, [0]), (384, []), (401, [6]), (384, [0, 6]), (7189, [0, 1, 2, 3, 4])]), [[]]), ([(0, 0)], []), { frames := 0, cells := 0, slots := 0, locals := 0 })
noncomputable def ag_rzT2 : aCon := (y_BO_inCheck, false, 7, ([(.inr (some (.inl (false, 62))), none), (.inl (0, 1), none), (.inl (0, 300), none), (.inl (0, 300), none), (.inl (0, 299), none), (.inl (0, 300), none), (.inl (0, 24575), none), (.inr (some (.inl (false, 86))), none), (.inr (some (.inl (false, 67))), none)], ([(0, 34, 7), (0, 9, 8)], [(7, ([(4, 1)], 0), 5), (8, ([(1, 301), (5, 1)], 0), 6)], [], [(6578, [0, 6]), (7189, [0, 1, 2, 3, 4]), (384, []), (401, [6])])), (none, [], ([], [], [], [(4021, [0, 1, 2, 3, 4])]), [[]]), ([], []), { frames := 0, cells := 0, slots := 0, locals := 0 })
noncomputable def ag_rzT3 : aCon := (y_BO_inCheck, false, 6, ([(.inr (some (.inl (false, 62))), none), (.inl (0, 1), none), (.inl (0, 300), none), (.inl (0, 300), none), (.inl (0, 299), none), (.inl (-1, 298), none)], ([], [], [([(5, 1), (4, -1)], 1), ([(5, -1), (4, 1)], -1)], [(4021, [0, 1, 2, 3, 4])])), (none, [], ([], [], [], [(4005, [0, 1, 2, 3, 5])]), [[]]), ([], []), { frames := 0, cells := 0, slots := 0, locals := 0 })
noncomputable def ag_rzE : aCon := (y_BO_inCheck, false, 5, ([(.inr (some (.inl (false, 62))), none), (.inl (0, 1), none), (.inl (0, 300), none), (.inl (0, 300), none), (.inl (-1, -1), none)], ([], [], [], [(4005, [0, 1, 2, 3, 4])])), (none, [], ([], [], [], [(6401, [0]), (384, []), (7187, [0, 1, 2])]), [[]]), ([(0, 0)], []), { frames := 0, cells := 0, slots := 0, locals := 0 })
noncomputable def ag_rzN : aCon := (y_BO_inCheck, false, 2, ([(.inr (some (.inl (false, 62))), none), (.inl (-1, 1299), none)], ([(0, 29, 1)], [], [([(1, -2)], 2597), ([(1, 1)], 0)], [])), (none, [], ([], [], [], [(3521, [0])]), [[]]), ([], []), { frames := 0, cells := 0, slots := 0, locals := 0 })
noncomputable def ag_rzNp : aCon := (y_BO_inCheck, false, 2, ([(.inr (some (.inl (false, 62))), none), (.inl (-1, 1299), none)], ([(0, 29, 1)], [], [([(1, -2)], 2597)], [])), (none, [], ([], [], [([(1, -1)], 1298)], []), [[]]), ([], []), { frames := 0, cells := 0, slots := 0, locals := 0 })
noncomputable def ag_rzSL : aCon := (y_BO_inCheck, false, 4, ([(.inr (some (.inl (false, 62))), none), (.inl (0, 1), none), (.inl (0, 300), none), (.inl (0, 2048), none)], ([(0, 33, 3)], [], [], [(6401, [0]), (7010, [0, 3]), (7187, [0, 1, 2]), (3521, [0])])), (none, [], ([], [], [], [(3923, [0, 1, 2])]), [[]]), ([], []), { frames := 0, cells := 0, slots := 0, locals := 0 })
noncomputable def ag_raC : aCon := (y_BO_inCheck, false, 4, ([(.inr (some (.inl (false, 62))), none), (.inr (some (.inl (false, 68))), none), (.inl (0, 601), none), (.inl (-1, -1), none)], ([(0, 10, 1)], [], [], [])), (none, [], ([], [], [], [(69637, [1, 2, 3, 0, 2])]), [[]]), ([], []), { frames := 0, cells := 0, slots := 0, locals := 0 })
noncomputable def ag_raN : aCon := (y_BO_inCheck, false, 4, ([(.inr (some (.inl (false, 62))), none), (.inr (some (.inl (false, 69))), none), (.inl (0, 601), none), (.inl (-1, -1), none)], ([(0, 11, 1)], [], [], [])), (none, [], ([], [], [], [(69653, [1, 2, 3, 0, 2])]), [[]]), ([], []), { frames := 0, cells := 0, slots := 0, locals := 0 })
noncomputable def ag_rvPW : aCon := (y_BO_inCheck, false, 1, ([(.inl (-1, 300), none)], ([], [], [], [])), (none, [], ([], [], [], []), [[([(0, 1)], 1), ([(0, -1)], -1)], [([(0, 1)], 0)]]), ([], []), { frames := 0, cells := 0, slots := 0, locals := 0 })
noncomputable def ag_raA0 : aCon := (y_BO_inCheck, false, 6, ([(.inr (some (.inl (false, 62))), none), (.inl (0, 1), none), (.inl (0, 300), none), (.inl (0, 24575), none), (.inl (0, 300), none), (.inl (0, 301), none), (.inr (some (.inl (false, 65))), none)], ([(0, 7, 6)], [(6, ([(1, 1)], 0), 4)], [([(5, 1), (4, -1)], -1), ([(5, -1), (4, 1)], 1)], [(3859, [0, 1, 2]), (4260, [0, 1, 2, 3]), (4226, [0, 1])])), (none, [], ([], [], [([(4, -1)], 299), ([(4, 1), (2, -1)], 0)], [(4133, [0, 1, 2, 3, 5])]), [[]]), ([], []), { frames := 0, cells := 0, slots := 0, locals := 0 })
noncomputable def ag_raCT : aCon := (y_BO_inCheck, false, 4, ([(.inr (some (.inl (false, 62))), none), (.inr (some (.inl (false, 65))), none), (.inl (0, 1), none), (.inl (1, 300), none)], ([(0, 7, 1)], [], [], [])), (none, [], ([], [], [], [(69734, [1, 2, 3, 0, 2, 3])]), [[]]), ([], []), { frames := 0, cells := 0, slots := 0, locals := 0 })
noncomputable def ag_raP : aCon := (y_BO_inCheck, false, 6, ([(.inr (some (.inl (false, 62))), none), (.inr (some (.inl (false, 66))), none), (.inl (0, 1), none), (.inl (1, 300), none), (.inl (0, 601), none), (.inl (0, 300), none)], ([(0, 8, 1)], [], [([(4, 1), (2, -301), (3, -1)], 0), ([(4, -1), (2, 301), (3, 1)], 0)], [])), (none, [], ([], [], [], [(69687, [1, 4, 5, 0, 2, 3, 5])]), [[]]), ([], []), { frames := 0, cells := 0, slots := 0, locals := 0 })
noncomputable def ag_raM : aCon := (y_BO_inCheck, false, 6, ([(.inr (some (.inl (false, 62))), none), (.inr (some (.inl (false, 67))), none), (.inl (0, 1), none), (.inl (1, 300), none), (.inl (0, 601), none), (.inl (0, 24575), none)], ([(0, 9, 1)], [], [([(4, 1), (2, -301), (3, -1)], 0), ([(4, -1), (2, 301), (3, 1)], 0)], [])), (none, [], ([], [], [], [(69703, [1, 4, 5, 0, 2, 3, 5])]), [[]]), ([], []), { frames := 0, cells := 0, slots := 0, locals := 0 })
noncomputable def ag_raLc : aCon := (y_BO_inCheck, false, 9, ([(.inr (some (.inl (false, 62))), none), (.inr (some (.inl (false, 68))), none), (.inl (0, 1), none), (.inl (0, 300), none), (.inl (0, 24575), none), (.inl (1, 300), none), (.inl (0, 601), none), (.inl (0, 601), none), (.inl (-1, -1), none)], ([(0, 10, 1)], [(1, ([(2, 301), (3, 1)], 0), 8)], [([(6, 1), (2, -301), (5, -1)], 0), ([(6, -1), (2, 301), (5, 1)], 0), ([(7, 1), (2, -301), (3, -1)], 0), ([(7, -1), (2, 301), (3, 1)], 0)], [(4133, [0, 2, 3, 4, 5]), (4148, [0, 2, 5, 3]), (4164, [0, 2, 5, 4]), (4098, [0, 6]), (4114, [0, 6])])), (none, [], ([], [], [], [(69718, [1, 7, 5, 0, 2, 5])]), [[]]), ([], []), { frames := 0, cells := 0, slots := 0, locals := 0 })
noncomputable def ag_raD0 : aCon := (y_BO_inCheck, false, 6, ([(.inr (some (.inl (false, 62))), none), (.inl (0, 1), none), (.inl (0, 300), none), (.inl (0, 24575), none), (.inl (1, 300), none), (.inl (0, 300), none), (.inr (some (.inl (false, 68))), none)], ([(0, 10, 6)], [(6, ([(1, 301), (2, 1)], 0), 5)], [], [(4133, [0, 1, 2, 3, 4])])), (none, [.inl (0, 301)], ([], [], [([(4, 1), (5, -1)], -1)], [(4213, [0, 1, 2, 5, 7])]), [[]]), ([], []), { frames := 0, cells := 0, slots := 0, locals := 0 })
noncomputable def ag_raDn : aCon := (y_BO_inCheck, false, 8, ([(.inr (some (.inl (false, 62))), none), (.inl (0, 1), none), (.inl (0, 300), none), (.inl (0, 300), none), (.inl (0, 301), none), (.inl (0, 300), none), (.inl (1, 300), none), (.inl (0, 24575), none), (.inr (some (.inl (false, 69))), none)], ([(0, 11, 8)], [(8, ([(1, 301), (3, 1)], 0), 5)], [], [(4213, [0, 1, 2, 3, 4]), (4133, [0, 1, 2, 7, 6])])), (none, [.inl (0, 301)], ([], [], [([(4, 1), (9, -1)], -1), ([(6, 1), (5, -1)], -1)], [(4213, [0, 1, 2, 5, 9])]), [[]]), ([], []), { frames := 0, cells := 0, slots := 0, locals := 0 })
noncomputable def ag_raLn : aCon := (y_BO_inCheck, false, 11, ([(.inr (some (.inl (false, 62))), none), (.inr (some (.inl (false, 69))), none), (.inl (0, 1), none), (.inl (0, 300), none), (.inl (0, 24575), none), (.inl (1, 300), none), (.inl (0, 601), none), (.inl (0, 601), none), (.inl (-1, -1), none), (.inl (0, 300), none), (.inl (0, 301), none)], ([(0, 11, 1)], [(1, ([(2, 301), (9, 1)], 0), 8)], [([(6, 1), (2, -301), (5, -1)], 0), ([(6, -1), (2, 301), (5, 1)], 0), ([(7, 1), (2, -301), (9, -1)], 0), ([(7, -1), (2, 301), (9, 1)], 0)], [(4133, [0, 2, 3, 4, 5]), (4148, [0, 2, 5, 3]), (4164, [0, 2, 5, 4]), (4098, [0, 6]), (4114, [0, 6]), (4213, [0, 2, 3, 9, 10])])), (none, [], ([], [], [], [(69718, [1, 7, 5, 0, 2, 5])]), [[]]), ([], []), { frames := 0, cells := 0, slots := 0, locals := 0 })
noncomputable def ag_raE : aCon := (y_BO_inCheck, false, 3, ([(.inr (some (.inl (false, 62))), none), (.inl (0, 1), none), (.inl (1, 300), none)], ([], [], [], [(4179, [0, 1, 2]), (4195, [0, 1, 2])])), (none, [], ([], [], [], [(3859, [0, 1, 2])]), [[]]), ([], []), { frames := 0, cells := 0, slots := 0, locals := 0 })
noncomputable def ag_rvSGn : aCon := (y_BO_inCheck, false, 1, ([(.inl (-2147483648, 2147483647), none)], ([], [], [], [])), (none, [], ([], [], [], [(4321, [0])]), [[]]), ([], []), { frames := 0, cells := 0, slots := 0, locals := 0 })
noncomputable def ag_rvSGm : aCon := (y_BO_inCheck, false, 1, ([(.inl (-2147483648, 2147483647), none)], ([], [], [], [])), (none, [], ([], [], [], [(4337, [0])]), [[]]), ([], []), { frames := 0, cells := 0, slots := 0, locals := 0 })
noncomputable def ag_rbP : aCon := (y_BO_inCheck, false, 4, ([(.inr (some (.inl (false, 62))), none), (.inl (0, 1), none), (.inl (1, 300), none), (.inl (-1, 300), none), (.inr (some (.inl (false, 66))), none)], ([(0, 8, 4)], [(4, ([(1, 301), (2, 1)], 0), 3)], [], [(3859, [0, 1, 2])])), (none, [], ([], [], [([(3, 1)], 0), ([(2, 1), (3, -1)], -1)], []), [[]]), ([], []), { frames := 0, cells := 0, slots := 0, locals := 0 })
noncomputable def ag_rbN : aCon := (y_BO_inCheck, false, 4, ([(.inr (some (.inl (false, 62))), none), (.inl (0, 1), none), (.inl (0, 300), none), (.inl (0, 300), none)], ([], [], [([(2, 1), (3, -1)], 0)], [(3859, [0, 1, 2])])), (none, [], ([], [], [], [(3859, [0, 1, 3])]), [[]]), ([], []), { frames := 0, cells := 0, slots := 0, locals := 0 })
noncomputable def ag_rcIz : aCon := (y_BO_inCheck, false, 3, ([(.inr (some (.inl (false, 62))), none), (.inl (-2147483648, 2147483647), none), (.inl (0, 0), none)], ([], [], [], [])), (none, [], ([], [], [], [(3795, [0, 1, 2])]), [[]]), ([], []), { frames := 0, cells := 0, slots := 0, locals := 0 })
noncomputable def ag_rcIk : aCon := (y_BO_inCheck, false, 4, ([(.inr (some (.inl (false, 62))), none), (.inl (-2147483648, 2147483647), none), (.inl (1, 1), none), (.inl (1, 1), none)], ([], [], [], [(3795, [0, 1, 2])])), (none, [], ([], [], [], [(3795, [0, 1, 3])]), [[]]), ([], []), { frames := 0, cells := 0, slots := 0, locals := 0 })
noncomputable def ag_rcIy : aCon := (y_BO_inCheck, false, 6, ([(.inr (some (.inl (false, 62))), none), (.inl (-2147483648, 2147483647), none), (.inl (0, 2047), none), (.inl (0, 24575), none), (.inl (0, 2048), none), (.inl (1, 1), none), (.inr (some (.inl (false, 85))), none)], ([(0, 32, 6), (0, 33, 4)], [(6, ([(2, 1)], 0), 3)], [([(1, 1), (3, -1)], 0), ([(1, -1), (3, 1)], 0), ([(4, 1), (2, -1)], -1)], [])), (none, [], ([], [], [], [(3795, [0, 1, 5])]), [[]]), ([], []), { frames := 0, cells := 0, slots := 0, locals := 0 })
noncomputable def ag_rcLG : aCon := (y_BO_inCheck, false, 5, ([(.inr (some (.inl (false, 62))), none), (.inl (0, 1), none), (.inl (0, 300), none), (.inl (0, 24575), none), (.inl (1, 1), none)], ([], [], [], [(3859, [0, 1, 2]), (3923, [0, 1, 2]), (3795, [0, 3, 4])])), (none, [], ([], [], [], [(4260, [0, 1, 2, 3])]), [[]]), ([], []), { frames := 0, cells := 0, slots := 0, locals := 0 })
noncomputable def ag_rcNK : aCon := (y_BO_inCheck, false, 3, ([(.inr (some (.inl (false, 62))), none), (.inl (0, 1), none), (.inl (0, 300), none)], ([], [], [], [(3811, [0, 1, 2])])), (none, [], ([], [], [], [(3859, [0, 1, 2])]), [[]]), ([], []), { frames := 0, cells := 0, slots := 0, locals := 0 })
noncomputable def ag_rcC3 : aCon := (y_BO_inCheck, false, 3, ([(.inr (some (.inl (false, 62))), none), (.inl (0, 1), none), (.inl (0, 299), none), (.inr (some (.inl (false, 65))), none)], ([(0, 7, 3)], [(3, ([(1, 1)], 0), 2)], [], [])), (none, [], ([], [], [], [(4226, [0, 1])]), [[]]), ([], []), { frames := 0, cells := 0, slots := 0, locals := 0 })
noncomputable def ag_rvTRh : aCon := (y_BO_inCheck, false, 1, ([(.inl (0, 300), none)], ([], [], [], [])), (none, [], ([], [], [], []), [[([(0, 1)], 0), ([(0, -1)], 0)], [([(0, 1)], -1)]]), ([], []), { frames := 0, cells := 0, slots := 0, locals := 0 })
noncomputable def ag_rdF : aCon := (y_BO_inCheck, false, 5, ([(.inr (some (.inl (false, 62))), none), (.inl (0, 1), none), (.inl (1, 300), none), (.inl (0, 300), none), (.inl (-1, 300), none), (.inr (some (.inl (false, 68))), none), (.inr (some (.inl (false, 66))), none)], ([(0, 10, 5), (0, 8, 6)], [(5, ([(1, 301), (3, 1)], 0), 4), (6, ([(1, 301), (2, 1)], 0), 3)], [], [(3859, [0, 1, 2])])), (none, [], ([], [], [([(4, 1)], -1)], [(4420, [0, 1, 2, 4]), (3859, [0, 1, 4])]), [[]]), ([], []), { frames := 0, cells := 0, slots := 0, locals := 0 })
noncomputable def ag_rdUP : aCon := (y_BO_inCheck, false, 4, ([(.inr (some (.inl (false, 62))), none), (.inl (0, 1), none), (.inl (1, 300), none), (.inl (0, 300), none), (.inr (some (.inl (false, 66))), none)], ([(0, 8, 4)], [(4, ([(1, 301), (2, 1)], 0), 3)], [], [(3859, [0, 1, 2])])), (none, [], ([], [], [], [(3892, [0, 1, 2, 3])]), [[]]), ([], []), { frames := 0, cells := 0, slots := 0, locals := 0 })
noncomputable def ag_rdk : aCon := (y_BO_inCheck, false, 5, ([(.inr (some (.inl (false, 62))), none), (.inl (0, 1), none), (.inl (1, 300), none), (.inl (1, 301), none), (.inl (0, 300), none), (.inr (some (.inl (false, 65))), none)], ([(0, 7, 5)], [(5, ([(1, 1)], 0), 4)], [([(4, 1), (3, -1)], 0)], [(3859, [0, 1, 2])])), (none, [], ([], [], [], [(3859, [0, 1, 3])]), [[]]), ([], []), { frames := 0, cells := 0, slots := 0, locals := 0 })
noncomputable def ag_rdB0 : aCon := (y_BO_inCheck, false, 4, ([(.inr (some (.inl (false, 62))), none), (.inl (0, 1), none), (.inl (1, 300), none), (.inl (1, 300), none)], ([], [], [], [(4420, [0, 1, 2, 3]), (3602, [2, 3])])), (none, [.inl (0, 301)], ([], [], [], [(4437, [0, 1, 2, 3, 4])]), [[]]), ([], []), { frames := 0, cells := 0, slots := 0, locals := 0 })
noncomputable def ag_rdBn : aCon := (y_BO_inCheck, false, 6, ([(.inr (some (.inl (false, 62))), none), (.inl (0, 1), none), (.inl (1, 300), none), (.inl (1, 300), none), (.inl (0, 301), none), (.inl (-1, 300), none), (.inr (some (.inl (false, 69))), none)], ([(0, 11, 6)], [(6, ([(1, 301), (3, 1)], 0), 5)], [], [(4437, [0, 1, 2, 3, 4]), (3602, [5, 2])])), (none, [.inl (0, 301)], ([], [], [([(5, 1)], -1), ([(4, 1), (7, -1)], -1)], [(4437, [0, 1, 2, 5, 7])]), [[]]), ([], []), { frames := 0, cells := 0, slots := 0, locals := 0 })
noncomputable def ag_rdNEu : aCon := (y_BO_inCheck, false, 2, ([(.inl (-2147483648, 2147483647), none), (.inl (-2147483648, 2147483647), none)], ([], [], [([(0, 1), (1, -1)], -1)], [])), (none, [], ([], [], [], [(3602, [0, 1])]), [[]]), ([], []), { frames := 0, cells := 0, slots := 0, locals := 0 })
noncomputable def ag_rdNEd : aCon := (y_BO_inCheck, false, 2, ([(.inl (-2147483648, 2147483647), none), (.inl (-2147483648, 2147483647), none)], ([], [], [([(0, -1), (1, 1)], -1)], [])), (none, [], ([], [], [], [(3602, [0, 1])]), [[]]), ([], []), { frames := 0, cells := 0, slots := 0, locals := 0 })
noncomputable def ag_rdS1 : aCon := (y_BO_inCheck, false, 11, ([(.inr (some (.inl (false, 62))), none), (.inr (some (.inl (false, 69))), none), (.inl (0, 1), none), (.inl (1, 300), none), (.inl (0, 300), none), (.inl (1, 300), none), (.inl (1, 300), none), (.inl (0, 301), none), (.inl (-1, 300), none), (.inl (-1, 300), none), (.inl (0, 601), none)], ([(0, 11, 1)], [(1, ([(2, 301), (6, 1)], 0), 8), (1, ([(2, 301), (3, 1)], 0), 9)], [([(8, 1), (3, -1)], 0), ([(8, -1), (3, 1)], 0), ([(10, 1), (2, -301), (6, -1)], 0), ([(10, -1), (2, 301), (6, 1)], 0)], [(3859, [0, 2, 3]), (3892, [0, 2, 3, 4]), (4420, [0, 2, 3, 5]), (4437, [0, 2, 3, 6, 7])])), (none, [], ([], [], [], [(69993, [1, 10, 9, 0, 2, 3, 4, 5, 6])]), [[]]), ([], []), { frames := 0, cells := 0, slots := 0, locals := 0 })
noncomputable def ag_rdS2 : aCon := (y_BO_inCheck, false, 8, ([(.inr (some (.inl (false, 62))), none), (.inr (some (.inl (false, 69))), none), (.inl (0, 1), none), (.inl (1, 300), none), (.inl (0, 300), none), (.inl (1, 300), none), (.inl (1, 300), none), (.inl (0, 601), none)], ([(0, 11, 1)], [], [([(7, 1), (2, -301), (3, -1)], 0), ([(7, -1), (2, 301), (3, 1)], 0)], [(4454, [0, 2, 3, 4, 5, 6])])), (none, [], ([], [], [], [(70009, [1, 7, 5, 0, 2, 3, 4, 5, 6])]), [[]]), ([], []), { frames := 0, cells := 0, slots := 0, locals := 0 })
noncomputable def ag_rdS3 : aCon := (y_BO_inCheck, false, 8, ([(.inr (some (.inl (false, 62))), none), (.inr (some (.inl (false, 68))), none), (.inl (0, 1), none), (.inl (1, 300), none), (.inl (0, 300), none), (.inl (1, 300), none), (.inl (1, 300), none), (.inl (0, 601), none)], ([(0, 10, 1)], [], [([(7, 1), (2, -301), (4, -1)], 0), ([(7, -1), (2, 301), (4, 1)], 0)], [(4470, [0, 2, 3, 4, 5, 6])])), (none, [], ([], [], [], [(69398, [1, 7, 3, 0, 2, 3])]), [[]]), ([], []), { frames := 0, cells := 0, slots := 0, locals := 0 })
end
section
/-! the reference: u5 -/
noncomputable def ag_reS0 : aCon := (y_BO_inCheck, false, 3, ([(.inr (some (.inl (false, 62))), none), (.inl (0, 1), none), (.inl (0, 0), none)], ([], [], [], [])), (none, [], ([], [], [], [(4531, [0, 1, 2])]), [[]]), ([], []), { frames := 0, cells := 0, slots := 0, locals := 0 })
noncomputable def ag_reSs : aCon := (y_BO_inCheck, false, 6, ([(.inr (some (.inl (false, 62))), none), (.inr (some (.inl (false, 74))), none), (.inl (0, 1), none), (.inl (0, 63), none), (.inl (0, 127), none), (.inl (0, 15), none), (.inr (some (.inl (false, 82))), none)], ([(0, 24, 6), (0, 16, 1)], [(6, ([(3, 1)], 0), 5)], [([(4, 1), (2, -64), (3, -1)], 0), ([(4, -1), (2, 64), (3, 1)], 0)], [(4531, [0, 2, 3])])), (none, [], ([], [], [], [(70086, [1, 4, 5, 0, 2, 3])]), [[]]), ([], []), { frames := 0, cells := 0, slots := 0, locals := 0 })
noncomputable def ag_reSn : aCon := (y_BO_inCheck, false, 4, ([(.inr (some (.inl (false, 62))), none), (.inl (0, 1), none), (.inl (0, 63), none), (.inl (0, 64), none)], ([], [], [([(3, 1), (2, -1)], -1), ([(3, -1), (2, 1)], 1)], [(4547, [0, 1, 2])])), (none, [], ([], [], [], [(4531, [0, 1, 3])]), [[]]), ([], []), { frames := 0, cells := 0, slots := 0, locals := 0 })
noncomputable def ag_reR0 : aCon := (y_BO_inCheck, false, 5, ([(.inr (some (.inl (false, 62))), none), (.inr (some (.inl (false, 75))), none), (.inl (0, 1), none), (.inl (0, 9), none), (.inl (0, 1), none)], ([(0, 17, 1)], [], [([(3, 1), (2, -5)], 0), ([(3, -1), (2, 5)], 0)], [])), (none, [], ([], [], [], [(70150, [1, 3, 4, 0, 2, 4])]), [[]]), ([], []), { frames := 0, cells := 0, slots := 0, locals := 0 })
noncomputable def ag_reR1 : aCon := (y_BO_inCheck, false, 5, ([(.inr (some (.inl (false, 62))), none), (.inr (some (.inl (false, 75))), none), (.inl (0, 1), none), (.inl (0, 9), none), (.inl (0, 15), none)], ([(0, 17, 1)], [], [([(3, 1), (2, -5)], -1), ([(3, -1), (2, 5)], 1)], [])), (none, [], ([], [], [], [(70166, [1, 3, 4, 0, 2, 4])]), [[]]), ([], []), { frames := 0, cells := 0, slots := 0, locals := 0 })
noncomputable def ag_reR2 : aCon := (y_BO_inCheck, false, 5, ([(.inr (some (.inl (false, 62))), none), (.inr (some (.inl (false, 75))), none), (.inl (0, 1), none), (.inl (0, 9), none), (.inl (-1, 63), none)], ([(0, 17, 1)], [], [([(3, 1), (2, -5)], -2), ([(3, -1), (2, 5)], 2)], [])), (none, [], ([], [], [], [(70182, [1, 3, 4, 0, 2, 4])]), [[]]), ([], []), { frames := 0, cells := 0, slots := 0, locals := 0 })
noncomputable def ag_reR3 : aCon := (y_BO_inCheck, false, 5, ([(.inr (some (.inl (false, 62))), none), (.inr (some (.inl (false, 75))), none), (.inl (0, 1), none), (.inl (0, 9), none), (.inl (0, 999), none)], ([(0, 17, 1)], [], [([(3, 1), (2, -5)], -4), ([(3, -1), (2, 5)], 4)], [])), (none, [], ([], [], [], [(70198, [1, 3, 4, 0, 2, 4])]), [[]]), ([], []), { frames := 0, cells := 0, slots := 0, locals := 0 })
noncomputable def ag_reE : aCon := (y_BO_inCheck, false, 7, ([(.inr (some (.inl (false, 62))), none), (.inl (0, 1), none), (.inl (64, 64), none), (.inl (0, 1), none), (.inl (0, 15), none), (.inl (-1, 63), none), (.inl (0, 999), none)], ([(0, 25, 3), (0, 26, 4), (0, 27, 5)], [], [], [(4513, [0]), (4531, [0, 1, 2]), (4611, [0, 1, 3]), (4627, [0, 1, 4]), (4643, [0, 1, 5]), (4659, [0, 1, 6])])), (none, [], ([], [], [], [(4498, [0, 1])]), [[]]), ([], []), { frames := 0, cells := 0, slots := 0, locals := 0 })
noncomputable def ag_reZ0 : aCon := (y_BO_inCheck, false, 2, ([(.inr (some (.inl (false, 62))), none), (.inl (0, 0), none)], ([], [], [], [])), (none, [], ([], [], [], [(4562, [0, 1])]), [[]]), ([], []), { frames := 0, cells := 0, slots := 0, locals := 0 })
noncomputable def ag_reZs : aCon := (y_BO_inCheck, false, 4, ([(.inr (some (.inl (false, 62))), none), (.inr (some (.inl (false, 82))), none), (.inl (0, 63), none), (.inl (0, 0), none)], ([(0, 24, 1)], [], [], [(4562, [0, 2])])), (none, [], ([], [], [], [(70117, [1, 2, 3, 0, 2])]), [[]]), ([], []), { frames := 0, cells := 0, slots := 0, locals := 0 })
noncomputable def ag_reZn : aCon := (y_BO_inCheck, false, 3, ([(.inr (some (.inl (false, 62))), none), (.inl (0, 63), none), (.inl (0, 64), none)], ([], [], [([(2, 1), (1, -1)], -1), ([(2, -1), (1, 1)], 1)], [(4578, [0, 1])])), (none, [], ([], [], [], [(4562, [0, 2])]), [[]]), ([], []), { frames := 0, cells := 0, slots := 0, locals := 0 })
noncomputable def ag_reZe : aCon := (y_BO_inCheck, false, 2, ([(.inr (some (.inl (false, 62))), none), (.inl (64, 64), none)], ([], [], [], [(4562, [0, 1])])), (none, [], ([], [], [], [(4801, [0])]), [[]]), ([], []), { frames := 0, cells := 0, slots := 0, locals := 0 })
noncomputable def ag_reU0 : aCon := (y_BO_inCheck, false, 4, ([(.inr (some (.inl (false, 62))), none), (.inr (some (.inl (false, 82))), none), (.inl (0, 0), none), (.inl (4, 4), none)], ([(0, 24, 1)], [], [], [(4801, [0])])), (none, [], ([], [], [], [(70356, [1, 2, 3, 0])]), [[]]), ([], []), { frames := 0, cells := 0, slots := 0, locals := 0 })
noncomputable def ag_reU1 : aCon := (y_BO_inCheck, false, 4, ([(.inr (some (.inl (false, 62))), none), (.inr (some (.inl (false, 82))), none), (.inl (8, 8), none), (.inl (1, 1), none)], ([(0, 24, 1)], [], [], [(4817, [0])])), (none, [], ([], [], [], [(70372, [1, 2, 3, 0])]), [[]]), ([], []), { frames := 0, cells := 0, slots := 0, locals := 0 })
noncomputable def ag_reU2 : aCon := (y_BO_inCheck, false, 4, ([(.inr (some (.inl (false, 62))), none), (.inr (some (.inl (false, 82))), none), (.inl (48, 48), none), (.inl (9, 9), none)], ([(0, 24, 1)], [], [], [(4833, [0])])), (none, [], ([], [], [], [(70388, [1, 2, 3, 0])]), [[]]), ([], []), { frames := 0, cells := 0, slots := 0, locals := 0 })
noncomputable def ag_reU3 : aCon := (y_BO_inCheck, false, 4, ([(.inr (some (.inl (false, 62))), none), (.inr (some (.inl (false, 82))), none), (.inl (56, 56), none), (.inl (12, 12), none)], ([(0, 24, 1)], [], [], [(4849, [0])])), (none, [], ([], [], [], [(70404, [1, 2, 3, 0])]), [[]]), ([], []), { frames := 0, cells := 0, slots := 0, locals := 0 })
noncomputable def ag_reU4 : aCon := (y_BO_inCheck, false, 4, ([(.inr (some (.inl (false, 62))), none), (.inr (some (.inl (false, 82))), none), (.inl (1, 1), none), (.inl (2, 2), none)], ([(0, 24, 1)], [], [], [(4865, [0])])), (none, [], ([], [], [], [(70420, [1, 2, 3, 0])]), [[]]), ([], []), { frames := 0, cells := 0, slots := 0, locals := 0 })
noncomputable def ag_reU5 : aCon := (y_BO_inCheck, false, 4, ([(.inr (some (.inl (false, 62))), none), (.inr (some (.inl (false, 82))), none), (.inl (9, 9), none), (.inl (1, 1), none)], ([(0, 24, 1)], [], [], [(4881, [0])])), (none, [], ([], [], [], [(70436, [1, 2, 3, 0])]), [[]]), ([], []), { frames := 0, cells := 0, slots := 0, locals := 0 })
noncomputable def ag_reU6 : aCon := (y_BO_inCheck, false, 4, ([(.inr (some (.inl (false, 62))), none), (.inr (some (.inl (false, 82))), none), (.inl (49, 49), none), (.inl (9, 9), none)], ([(0, 24, 1)], [], [], [(4897, [0])])), (none, [], ([], [], [], [(70452, [1, 2, 3, 0])]), [[]]), ([], []), { frames := 0, cells := 0, slots := 0, locals := 0 })
noncomputable def ag_reU7 : aCon := (y_BO_inCheck, false, 4, ([(.inr (some (.inl (false, 62))), none), (.inr (some (.inl (false, 82))), none), (.inl (57, 57), none), (.inl (10, 10), none)], ([(0, 24, 1)], [], [], [(4913, [0])])), (none, [], ([], [], [], [(70468, [1, 2, 3, 0])]), [[]]), ([], []), { frames := 0, cells := 0, slots := 0, locals := 0 })
noncomputable def ag_reU8 : aCon := (y_BO_inCheck, false, 4, ([(.inr (some (.inl (false, 62))), none), (.inr (some (.inl (false, 82))), none), (.inl (2, 2), none), (.inl (3, 3), none)], ([(0, 24, 1)], [], [], [(4929, [0])])), (none, [], ([], [], [], [(70484, [1, 2, 3, 0])]), [[]]), ([], []), { frames := 0, cells := 0, slots := 0, locals := 0 })
noncomputable def ag_reU9 : aCon := (y_BO_inCheck, false, 4, ([(.inr (some (.inl (false, 62))), none), (.inr (some (.inl (false, 82))), none), (.inl (10, 10), none), (.inl (1, 1), none)], ([(0, 24, 1)], [], [], [(4945, [0])])), (none, [], ([], [], [], [(70500, [1, 2, 3, 0])]), [[]]), ([], []), { frames := 0, cells := 0, slots := 0, locals := 0 })
noncomputable def ag_reU10 : aCon := (y_BO_inCheck, false, 4, ([(.inr (some (.inl (false, 62))), none), (.inr (some (.inl (false, 82))), none), (.inl (50, 50), none), (.inl (9, 9), none)], ([(0, 24, 1)], [], [], [(4961, [0])])), (none, [], ([], [], [], [(70516, [1, 2, 3, 0])]), [[]]), ([], []), { frames := 0, cells := 0, slots := 0, locals := 0 })
noncomputable def ag_reU11 : aCon := (y_BO_inCheck, false, 4, ([(.inr (some (.inl (false, 62))), none), (.inr (some (.inl (false, 82))), none), (.inl (58, 58), none), (.inl (11, 11), none)], ([(0, 24, 1)], [], [], [(4977, [0])])), (none, [], ([], [], [], [(70532, [1, 2, 3, 0])]), [[]]), ([], []), { frames := 0, cells := 0, slots := 0, locals := 0 })
noncomputable def ag_reU12 : aCon := (y_BO_inCheck, false, 4, ([(.inr (some (.inl (false, 62))), none), (.inr (some (.inl (false, 82))), none), (.inl (3, 3), none), (.inl (5, 5), none)], ([(0, 24, 1)], [], [], [(4993, [0])])), (none, [], ([], [], [], [(70548, [1, 2, 3, 0])]), [[]]), ([], []), { frames := 0, cells := 0, slots := 0, locals := 0 })
noncomputable def ag_reU13 : aCon := (y_BO_inCheck, false, 4, ([(.inr (some (.inl (false, 62))), none), (.inr (some (.inl (false, 82))), none), (.inl (11, 11), none), (.inl (1, 1), none)], ([(0, 24, 1)], [], [], [(5009, [0])])), (none, [], ([], [], [], [(70564, [1, 2, 3, 0])]), [[]]), ([], []), { frames := 0, cells := 0, slots := 0, locals := 0 })
noncomputable def ag_reU14 : aCon := (y_BO_inCheck, false, 4, ([(.inr (some (.inl (false, 62))), none), (.inr (some (.inl (false, 82))), none), (.inl (51, 51), none), (.inl (9, 9), none)], ([(0, 24, 1)], [], [], [(5025, [0])])), (none, [], ([], [], [], [(70580, [1, 2, 3, 0])]), [[]]), ([], []), { frames := 0, cells := 0, slots := 0, locals := 0 })
noncomputable def ag_reU15 : aCon := (y_BO_inCheck, false, 4, ([(.inr (some (.inl (false, 62))), none), (.inr (some (.inl (false, 82))), none), (.inl (59, 59), none), (.inl (13, 13), none)], ([(0, 24, 1)], [], [], [(5041, [0])])), (none, [], ([], [], [], [(70596, [1, 2, 3, 0])]), [[]]), ([], []), { frames := 0, cells := 0, slots := 0, locals := 0 })
noncomputable def ag_reU16 : aCon := (y_BO_inCheck, false, 4, ([(.inr (some (.inl (false, 62))), none), (.inr (some (.inl (false, 82))), none), (.inl (4, 4), none), (.inl (6, 6), none)], ([(0, 24, 1)], [], [], [(5057, [0])])), (none, [], ([], [], [], [(70612, [1, 2, 3, 0])]), [[]]), ([], []), { frames := 0, cells := 0, slots := 0, locals := 0 })
noncomputable def ag_reU17 : aCon := (y_BO_inCheck, false, 4, ([(.inr (some (.inl (false, 62))), none), (.inr (some (.inl (false, 82))), none), (.inl (12, 12), none), (.inl (1, 1), none)], ([(0, 24, 1)], [], [], [(5073, [0])])), (none, [], ([], [], [], [(70628, [1, 2, 3, 0])]), [[]]), ([], []), { frames := 0, cells := 0, slots := 0, locals := 0 })
noncomputable def ag_reU18 : aCon := (y_BO_inCheck, false, 4, ([(.inr (some (.inl (false, 62))), none), (.inr (some (.inl (false, 82))), none), (.inl (52, 52), none), (.inl (9, 9), none)], ([(0, 24, 1)], [], [], [(5089, [0])])), (none, [], ([], [], [], [(70644, [1, 2, 3, 0])]), [[]]), ([], []), { frames := 0, cells := 0, slots := 0, locals := 0 })
noncomputable def ag_reU19 : aCon := (y_BO_inCheck, false, 4, ([(.inr (some (.inl (false, 62))), none), (.inr (some (.inl (false, 82))), none), (.inl (60, 60), none), (.inl (14, 14), none)], ([(0, 24, 1)], [], [], [(5105, [0])])), (none, [], ([], [], [], [(70660, [1, 2, 3, 0])]), [[]]), ([], []), { frames := 0, cells := 0, slots := 0, locals := 0 })
noncomputable def ag_reU20 : aCon := (y_BO_inCheck, false, 4, ([(.inr (some (.inl (false, 62))), none), (.inr (some (.inl (false, 82))), none), (.inl (5, 5), none), (.inl (3, 3), none)], ([(0, 24, 1)], [], [], [(5121, [0])])), (none, [], ([], [], [], [(70676, [1, 2, 3, 0])]), [[]]), ([], []), { frames := 0, cells := 0, slots := 0, locals := 0 })
noncomputable def ag_reU21 : aCon := (y_BO_inCheck, false, 4, ([(.inr (some (.inl (false, 62))), none), (.inr (some (.inl (false, 82))), none), (.inl (13, 13), none), (.inl (1, 1), none)], ([(0, 24, 1)], [], [], [(5137, [0])])), (none, [], ([], [], [], [(70692, [1, 2, 3, 0])]), [[]]), ([], []), { frames := 0, cells := 0, slots := 0, locals := 0 })
noncomputable def ag_reU22 : aCon := (y_BO_inCheck, false, 4, ([(.inr (some (.inl (false, 62))), none), (.inr (some (.inl (false, 82))), none), (.inl (53, 53), none), (.inl (9, 9), none)], ([(0, 24, 1)], [], [], [(5153, [0])])), (none, [], ([], [], [], [(70708, [1, 2, 3, 0])]), [[]]), ([], []), { frames := 0, cells := 0, slots := 0, locals := 0 })
noncomputable def ag_reU23 : aCon := (y_BO_inCheck, false, 4, ([(.inr (some (.inl (false, 62))), none), (.inr (some (.inl (false, 82))), none), (.inl (61, 61), none), (.inl (11, 11), none)], ([(0, 24, 1)], [], [], [(5169, [0])])), (none, [], ([], [], [], [(70724, [1, 2, 3, 0])]), [[]]), ([], []), { frames := 0, cells := 0, slots := 0, locals := 0 })
noncomputable def ag_reU24 : aCon := (y_BO_inCheck, false, 4, ([(.inr (some (.inl (false, 62))), none), (.inr (some (.inl (false, 82))), none), (.inl (6, 6), none), (.inl (2, 2), none)], ([(0, 24, 1)], [], [], [(5185, [0])])), (none, [], ([], [], [], [(70740, [1, 2, 3, 0])]), [[]]), ([], []), { frames := 0, cells := 0, slots := 0, locals := 0 })
noncomputable def ag_reU25 : aCon := (y_BO_inCheck, false, 4, ([(.inr (some (.inl (false, 62))), none), (.inr (some (.inl (false, 82))), none), (.inl (14, 14), none), (.inl (1, 1), none)], ([(0, 24, 1)], [], [], [(5201, [0])])), (none, [], ([], [], [], [(70756, [1, 2, 3, 0])]), [[]]), ([], []), { frames := 0, cells := 0, slots := 0, locals := 0 })
noncomputable def ag_reU26 : aCon := (y_BO_inCheck, false, 4, ([(.inr (some (.inl (false, 62))), none), (.inr (some (.inl (false, 82))), none), (.inl (54, 54), none), (.inl (9, 9), none)], ([(0, 24, 1)], [], [], [(5217, [0])])), (none, [], ([], [], [], [(70772, [1, 2, 3, 0])]), [[]]), ([], []), { frames := 0, cells := 0, slots := 0, locals := 0 })
noncomputable def ag_reU27 : aCon := (y_BO_inCheck, false, 4, ([(.inr (some (.inl (false, 62))), none), (.inr (some (.inl (false, 82))), none), (.inl (62, 62), none), (.inl (10, 10), none)], ([(0, 24, 1)], [], [], [(5233, [0])])), (none, [], ([], [], [], [(70788, [1, 2, 3, 0])]), [[]]), ([], []), { frames := 0, cells := 0, slots := 0, locals := 0 })
noncomputable def ag_reU28 : aCon := (y_BO_inCheck, false, 4, ([(.inr (some (.inl (false, 62))), none), (.inr (some (.inl (false, 82))), none), (.inl (7, 7), none), (.inl (4, 4), none)], ([(0, 24, 1)], [], [], [(5249, [0])])), (none, [], ([], [], [], [(70804, [1, 2, 3, 0])]), [[]]), ([], []), { frames := 0, cells := 0, slots := 0, locals := 0 })
noncomputable def ag_reU29 : aCon := (y_BO_inCheck, false, 4, ([(.inr (some (.inl (false, 62))), none), (.inr (some (.inl (false, 82))), none), (.inl (15, 15), none), (.inl (1, 1), none)], ([(0, 24, 1)], [], [], [(5265, [0])])), (none, [], ([], [], [], [(70820, [1, 2, 3, 0])]), [[]]), ([], []), { frames := 0, cells := 0, slots := 0, locals := 0 })
noncomputable def ag_reU30 : aCon := (y_BO_inCheck, false, 4, ([(.inr (some (.inl (false, 62))), none), (.inr (some (.inl (false, 82))), none), (.inl (55, 55), none), (.inl (9, 9), none)], ([(0, 24, 1)], [], [], [(5281, [0])])), (none, [], ([], [], [], [(70836, [1, 2, 3, 0])]), [[]]), ([], []), { frames := 0, cells := 0, slots := 0, locals := 0 })
noncomputable def ag_reU31 : aCon := (y_BO_inCheck, false, 4, ([(.inr (some (.inl (false, 62))), none), (.inr (some (.inl (false, 82))), none), (.inl (63, 63), none), (.inl (12, 12), none)], ([(0, 24, 1)], [], [], [(5297, [0])])), (none, [], ([], [], [], [(70852, [1, 2, 3, 0])]), [[]]), ([], []), { frames := 0, cells := 0, slots := 0, locals := 0 })
noncomputable def ag_reG : aCon := (y_BO_inCheck, false, 4, ([(.inr (some (.inl (false, 62))), none), (.inl (0, 0), none), (.inl (15, 15), none), (.inl (-1, -1), none)], ([(0, 25, 1), (0, 26, 2), (0, 27, 3)], [], [], [(5313, [0])])), (none, [], ([], [], [], [(4513, [0])]), [[]]), ([], []), { frames := 0, cells := 0, slots := 0, locals := 0 })
noncomputable def ag_reC0 : aCon := (y_BO_inCheck, false, 4, ([(.inr (some (.inl (false, 62))), none), (.inr (some (.inl (false, 65))), none), (.inl (0, 1), none), (.inl (0, 0), none)], ([(0, 7, 1)], [], [], [])), (none, [], ([], [], [], [(70133, [1, 2, 3, 0, 2])]), [[]]), ([], []), { frames := 0, cells := 0, slots := 0, locals := 0 })
noncomputable def ag_reCG : aCon := (y_BO_inCheck, false, 3, ([(.inr (some (.inl (false, 62))), none), (.inl (0, 1), none), (.inl (0, 601), none)], ([], [], [([(2, 1), (1, -301)], 0), ([(2, -1), (1, 301)], 0)], [(4594, [0, 1]), (4098, [0, 2]), (4114, [0, 2])])), (none, [], ([], [], [], [(4482, [0, 1])]), [[]]), ([], []), { frames := 0, cells := 0, slots := 0, locals := 0 })
noncomputable def ag_reND : aCon := (y_BO_inCheck, false, 3, ([(.inr (some (.inl (false, 62))), none), (.inl (0, 1), none), (.inl (0, 0), none)], ([], [], [], [(4482, [0, 1]), (4498, [0, 1])])), (none, [], ([], [], [], [(3859, [0, 1, 2])]), [[]]), ([], []), { frames := 0, cells := 0, slots := 0, locals := 0 })
end
section
/-! the reference: u6 -/
noncomputable def y_MT_readNumber : jY := (⟨"ChessHouseModel$Texts", "readNumber", "()I"⟩, prog_18_method_47_code, 4, (some .int))
theorem m_MT_readNumber : jmth lw_tbl y_MT_readNumber 0 := ⟨jTA_in (wi := 2630) (jtF_ok rfl) rfl, jTA_in (wi := 315) (jtF_ok rfl) rfl, by decide, by decide, by decide +kernel⟩
theorem i_MT_readNumber : Jvm.Cond.instanceMethod y_MT_readNumber.1 ∈ jTA lw_tbl := jTA_in (wi := 2629) (jtF_ok rfl) rfl
theorem e_MT_readNumber : Jvm.Cond.selects y_MT_readNumber.1.cls y_MT_readNumber.1 y_MT_readNumber.1 ∈ jTA lw_tbl := jTA_in (wi := 177) (jtF_ok rfl) rfl
noncomputable def y_MT_readRank : jY := (⟨"ChessHouseModel$Texts", "readRank", "(I)Z"⟩, prog_18_method_46_code, 6, (some .boolean))
theorem m_MT_readRank : jmth lw_tbl y_MT_readRank 1 := ⟨jTA_in (wi := 2607) (jtF_ok rfl) rfl, jTA_in (wi := 315) (jtF_ok rfl) rfl, by decide, by decide, by decide +kernel⟩
theorem i_MT_readRank : Jvm.Cond.instanceMethod y_MT_readRank.1 ∈ jTA lw_tbl := jTA_in (wi := 2606) (jtF_ok rfl) rfl
theorem e_MT_readRank : Jvm.Cond.selects y_MT_readRank.1.cls y_MT_readRank.1 y_MT_readRank.1 ∈ jTA lw_tbl := jTA_in (wi := 172) (jtF_ok rfl) rfl
noncomputable def y_MT_readRights : jY := (⟨"ChessHouseModel$Texts", "readRights", "()Z"⟩, prog_18_method_48_code, 2, (some .boolean))
theorem m_MT_readRights : jmth lw_tbl y_MT_readRights 0 := ⟨jTA_in (wi := 2622) (jtF_ok rfl) rfl, jTA_in (wi := 315) (jtF_ok rfl) rfl, by decide, by decide, by decide +kernel⟩
theorem i_MT_readRights : Jvm.Cond.instanceMethod y_MT_readRights.1 ∈ jTA lw_tbl := jTA_in (wi := 2621) (jtF_ok rfl) rfl
theorem e_MT_readRights : Jvm.Cond.selects y_MT_readRights.1.cls y_MT_readRights.1 y_MT_readRights.1 ∈ jTA lw_tbl := jTA_in (wi := 175) (jtF_ok rfl) rfl
noncomputable def y_MT_readPassed : jY := (⟨"ChessHouseModel$Texts", "readPassed", "()Z"⟩, prog_18_method_49_code, 3, (some .boolean))
theorem m_MT_readPassed : jmth lw_tbl y_MT_readPassed 0 := ⟨jTA_in (wi := 2626) (jtF_ok rfl) rfl, jTA_in (wi := 315) (jtF_ok rfl) rfl, by decide, by decide, by decide +kernel⟩
theorem i_MT_readPassed : Jvm.Cond.instanceMethod y_MT_readPassed.1 ∈ jTA lw_tbl := jTA_in (wi := 2625) (jtF_ok rfl) rfl
theorem e_MT_readPassed : Jvm.Cond.selects y_MT_readPassed.1.cls y_MT_readPassed.1 y_MT_readPassed.1 ∈ jTA lw_tbl := jTA_in (wi := 176) (jtF_ok rfl) rfl
noncomputable def y_MT_mayStand : jY := (⟨"ChessHouseModel$Texts", "mayStand", "()Z"⟩, prog_18_method_51_code, 5, (some .boolean))
theorem m_MT_mayStand : jmth lw_tbl y_MT_mayStand 0 := ⟨jTA_in (wi := 2634) (jtF_ok rfl) rfl, jTA_in (wi := 315) (jtF_ok rfl) rfl, by decide, by decide, by decide +kernel⟩
theorem i_MT_mayStand : Jvm.Cond.instanceMethod y_MT_mayStand.1 ∈ jTA lw_tbl := jTA_in (wi := 2633) (jtF_ok rfl) rfl
theorem e_MT_mayStand : Jvm.Cond.selects y_MT_mayStand.1.cls y_MT_mayStand.1 y_MT_mayStand.1 ∈ jTA lw_tbl := jTA_in (wi := 178) (jtF_ok rfl) rfl
noncomputable def ag_rfS0 : aCon := (y_BO_inCheck, false, 4, ([(.inr (some (.inl (false, 62))), none), (.inl (0, 0), none), (.inl (0, 1800), none), (.inl (0, 1536), none)], ([(0, 38, 2), (0, 39, 3)], [], [([(2, 1), (3, -1)], 0)], [])), (none, [], ([], [], [], [(5330, [0, 1])]), [[]]), ([], []), { frames := 0, cells := 0, slots := 0, locals := 0 })
noncomputable def ag_rfS1 : aCon := (y_BO_inCheck, false, 4, ([(.inr (some (.inl (false, 62))), none), (.inl (0, 65535), none), (.inl (0, 1535), none), (.inl (0, 1536), none), (.inr (some (.inl (false, 80))), none)], ([(0, 22, 4), (0, 38, 2), (0, 39, 3)], [(4, ([(2, 1)], 0), 1)], [([(3, 1), (2, -1)], -1)], [])), (none, [], ([], [], [], [(5330, [0, 1])]), [[]]), ([], []), { frames := 0, cells := 0, slots := 0, locals := 0 })
noncomputable def ag_rfSe : aCon := (y_BO_inCheck, false, 3, ([(.inr (some (.inl (false, 62))), none), (.inl (0, 65535), none), (.inl (0, 65535), none)], ([], [], [], [(5330, [0, 1]), (5330, [0, 2])])), (none, [], ([], [], [([(1, 1), (2, -1)], 0), ([(1, -1), (2, 1)], 0)], []), [[]]), ([], []), { frames := 0, cells := 0, slots := 0, locals := 0 })
noncomputable def ag_rfM0 : aCon := (y_BO_inCheck, false, 2, ([(.inl (0, 65), none), (.inl (0, 0), none)], ([], [], [], [])), (none, [], ([], [], [], [(5458, [0, 1])]), [[]]), ([], []), { frames := 0, cells := 0, slots := 0, locals := 0 })
noncomputable def ag_rfM1 : aCon := (y_BO_inCheck, false, 2, ([(.inl (66, 66), none), (.inl (3, 3), none)], ([], [], [], [])), (none, [], ([], [], [], [(5458, [0, 1])]), [[]]), ([], []), { frames := 0, cells := 0, slots := 0, locals := 0 })
noncomputable def ag_rfM2 : aCon := (y_BO_inCheck, false, 2, ([(.inl (67, 74), none), (.inl (0, 0), none)], ([], [], [], [])), (none, [], ([], [], [], [(5458, [0, 1])]), [[]]), ([], []), { frames := 0, cells := 0, slots := 0, locals := 0 })
noncomputable def ag_rfM3 : aCon := (y_BO_inCheck, false, 2, ([(.inl (75, 75), none), (.inl (6, 6), none)], ([], [], [], [])), (none, [], ([], [], [], [(5458, [0, 1])]), [[]]), ([], []), { frames := 0, cells := 0, slots := 0, locals := 0 })
noncomputable def ag_rfM4 : aCon := (y_BO_inCheck, false, 2, ([(.inl (76, 77), none), (.inl (0, 0), none)], ([], [], [], [])), (none, [], ([], [], [], [(5458, [0, 1])]), [[]]), ([], []), { frames := 0, cells := 0, slots := 0, locals := 0 })
noncomputable def ag_rfM5 : aCon := (y_BO_inCheck, false, 2, ([(.inl (78, 78), none), (.inl (2, 2), none)], ([], [], [], [])), (none, [], ([], [], [], [(5458, [0, 1])]), [[]]), ([], []), { frames := 0, cells := 0, slots := 0, locals := 0 })
noncomputable def ag_rfM6 : aCon := (y_BO_inCheck, false, 2, ([(.inl (79, 79), none), (.inl (0, 0), none)], ([], [], [], [])), (none, [], ([], [], [], [(5458, [0, 1])]), [[]]), ([], []), { frames := 0, cells := 0, slots := 0, locals := 0 })
noncomputable def ag_rfM7 : aCon := (y_BO_inCheck, false, 2, ([(.inl (80, 80), none), (.inl (1, 1), none)], ([], [], [], [])), (none, [], ([], [], [], [(5458, [0, 1])]), [[]]), ([], []), { frames := 0, cells := 0, slots := 0, locals := 0 })
noncomputable def ag_rfM8 : aCon := (y_BO_inCheck, false, 2, ([(.inl (81, 81), none), (.inl (5, 5), none)], ([], [], [], [])), (none, [], ([], [], [], [(5458, [0, 1])]), [[]]), ([], []), { frames := 0, cells := 0, slots := 0, locals := 0 })
noncomputable def ag_rfM9 : aCon := (y_BO_inCheck, false, 2, ([(.inl (82, 82), none), (.inl (4, 4), none)], ([], [], [], [])), (none, [], ([], [], [], [(5458, [0, 1])]), [[]]), ([], []), { frames := 0, cells := 0, slots := 0, locals := 0 })
noncomputable def ag_rfM10 : aCon := (y_BO_inCheck, false, 2, ([(.inl (83, 96), none), (.inl (0, 0), none)], ([], [], [], [])), (none, [], ([], [], [], [(5458, [0, 1])]), [[]]), ([], []), { frames := 0, cells := 0, slots := 0, locals := 0 })
noncomputable def ag_rfMe : aCon := (y_BO_inCheck, false, 4, ([(.inl (0, 96), none), (.inl (0, 6), none), (.inl (0, 96), none), (.inl (0, 6), none)], ([], [], [([(0, 1), (2, -1)], 0), ([(0, -1), (2, 1)], 0)], [(5458, [0, 1]), (5458, [2, 3])])), (none, [], ([], [], [([(1, 1), (3, -1)], 0), ([(1, -1), (3, 1)], 0)], []), [[]]), ([], []), { frames := 0, cells := 0, slots := 0, locals := 0 })
noncomputable def ag_rfV0 : aCon := (y_BO_inCheck, false, 4, ([(.inr (some (.inl (false, 62))), none), (.inr (some (.inl (false, 82))), none), (.inl (0, 63), none), (.inl (1, 6), none)], ([(0, 24, 1)], [], [], [(5345, [0])])), (none, [], ([], [], [], [(70884, [1, 2, 3, 0])]), [[]]), ([], []), { frames := 0, cells := 0, slots := 0, locals := 0 })
noncomputable def ag_rfV1 : aCon := (y_BO_inCheck, false, 4, ([(.inr (some (.inl (false, 62))), none), (.inr (some (.inl (false, 82))), none), (.inl (0, 63), none), (.inl (9, 14), none)], ([(0, 24, 1)], [], [], [(5345, [0])])), (none, [], ([], [], [], [(70884, [1, 2, 3, 0])]), [[]]), ([], []), { frames := 0, cells := 0, slots := 0, locals := 0 })
noncomputable def ag_rgC0 : aCon := (y_BO_inCheck, false, 4, ([(.inr (some (.inl (false, 62))), none), (.inl (0, 15), none), (.inl (0, 0), none), (.inl (0, 0), none)], ([], [], [], [])), (none, [], ([], [], [], [(5364, [0, 1, 2, 3])]), [[]]), ([], []), { frames := 0, cells := 0, slots := 0, locals := 0 })
noncomputable def ag_rgCy : aCon := (y_BO_inCheck, false, 6, ([(.inr (some (.inl (false, 62))), none), (.inl (0, 15), none), (.inl (0, 63), none), (.inl (0, 15), none), (.inl (0, 64), none), (.inl (0, 64), none), (.inr (some (.inl (false, 82))), none)], ([(0, 24, 6)], [(6, ([(2, 1)], 0), 3)], [([(1, 1), (3, -1)], 0), ([(1, -1), (3, 1)], 0), ([(5, 1), (4, -1)], -1), ([(5, -1), (4, 1)], 1)], [(5364, [0, 1, 2, 4])])), (none, [], ([], [], [], [(5380, [0, 1, 2, 5])]), [[]]), ([], []), { frames := 0, cells := 0, slots := 0, locals := 0 })
noncomputable def ag_rgCnu : aCon := (y_BO_inCheck, false, 5, ([(.inr (some (.inl (false, 62))), none), (.inl (0, 15), none), (.inl (0, 63), none), (.inl (0, 15), none), (.inl (0, 64), none), (.inr (some (.inl (false, 82))), none)], ([(0, 24, 5)], [(5, ([(2, 1)], 0), 3)], [([(1, 1), (3, -1)], -1)], [(5364, [0, 1, 2, 4])])), (none, [], ([], [], [], [(5380, [0, 1, 2, 4])]), [[]]), ([], []), { frames := 0, cells := 0, slots := 0, locals := 0 })
noncomputable def ag_rgCnd : aCon := (y_BO_inCheck, false, 5, ([(.inr (some (.inl (false, 62))), none), (.inl (0, 15), none), (.inl (0, 63), none), (.inl (0, 15), none), (.inl (0, 64), none), (.inr (some (.inl (false, 82))), none)], ([(0, 24, 5)], [(5, ([(2, 1)], 0), 3)], [([(1, -1), (3, 1)], -1)], [(5364, [0, 1, 2, 4])])), (none, [], ([], [], [], [(5380, [0, 1, 2, 4])]), [[]]), ([], []), { frames := 0, cells := 0, slots := 0, locals := 0 })
noncomputable def ag_rgCs : aCon := (y_BO_inCheck, false, 5, ([(.inr (some (.inl (false, 62))), none), (.inl (0, 15), none), (.inl (0, 63), none), (.inl (0, 64), none), (.inl (0, 64), none)], ([], [], [([(4, 1), (2, -1)], -1), ([(4, -1), (2, 1)], 1)], [(5380, [0, 1, 2, 3])])), (none, [], ([], [], [], [(5364, [0, 1, 4, 3])]), [[]]), ([], []), { frames := 0, cells := 0, slots := 0, locals := 0 })
noncomputable def ag_rgCe : aCon := (y_BO_inCheck, false, 4, ([(.inr (some (.inl (false, 62))), none), (.inl (0, 15), none), (.inl (64, 64), none), (.inl (0, 64), none)], ([], [], [], [(5364, [0, 1, 2, 3])])), (none, [], ([], [], [], [(5395, [0, 1, 3])]), [[]]), ([], []), { frames := 0, cells := 0, slots := 0, locals := 0 })
noncomputable def ag_rgO6 : aCon := (y_BO_inCheck, false, 3, ([(.inr (some (.inl (false, 62))), none), (.inl (6, 6), none), (.inl (1, 1), none)], ([], [], [], [(5395, [0, 1, 2])])), (none, [], ([], [], [], [(5361, [0])]), [[]]), ([], []), { frames := 0, cells := 0, slots := 0, locals := 0 })
noncomputable def ag_rgO2 : aCon := (y_BO_inCheck, false, 3, ([(.inr (some (.inl (false, 62))), none), (.inl (14, 14), none), (.inl (1, 1), none)], ([], [], [], [(5395, [0, 1, 2]), (5361, [0])])), (none, [], ([], [], [], [(5377, [0])]), [[]]), ([], []), { frames := 0, cells := 0, slots := 0, locals := 0 })
noncomputable def ag_rgM1 : aCon := (y_BO_inCheck, false, 5, ([(.inr (some (.inl (false, 62))), none), (.inl (0, 1), none), (.inl (0, 1), none), (.inl (0, 0), none), (.inl (1, 1), none)], ([(0, 25, 2)], [], [([(1, 1), (2, 1)], -1), ([(1, -1), (2, -1)], 1)], [(3443, [0, 1, 3])])), (none, [], ([], [], [], [(5410, [0, 4])]), [[]]), ([], []), { frames := 0, cells := 0, slots := 0, locals := 0 })
noncomputable def ag_rgM0 : aCon := (y_BO_inCheck, false, 2, ([(.inr (some (.inl (false, 62))), none), (.inl (0, 0), none)], ([], [], [], [])), (none, [], ([], [], [], [(5410, [0, 1])]), [[]]), ([], []), { frames := 0, cells := 0, slots := 0, locals := 0 })
noncomputable def ag_rgMk : aCon := (y_BO_inCheck, false, 3, ([(.inr (some (.inl (false, 62))), none), (.inl (1, 1), none), (.inl (1, 1), none)], ([], [], [], [(5410, [0, 1])])), (none, [], ([], [], [], [(5410, [0, 2])]), [[]]), ([], []), { frames := 0, cells := 0, slots := 0, locals := 0 })
noncomputable def ag_rgJ0 : aCon := (y_BO_inCheck, false, 2, ([(.inr (some (.inl (false, 62))), none), (.inl (0, 0), none)], ([], [], [], [])), (none, [], ([], [], [], [(5426, [0, 1])]), [[]]), ([], []), { frames := 0, cells := 0, slots := 0, locals := 0 })
noncomputable def ag_rgK0 : aCon := (y_BO_inCheck, false, 2, ([(.inr (some (.inl (false, 62))), none), (.inl (0, 0), none)], ([], [], [], [])), (none, [], ([], [], [], [(5442, [0, 1])]), [[]]), ([], []), { frames := 0, cells := 0, slots := 0, locals := 0 })
noncomputable def ag_rgE0 : aCon := (y_BO_inCheck, false, 2, ([(.inr (some (.inl (false, 62))), none), (.inl (0, 0), none)], ([], [], [], [])), (none, [], ([], [], [], [(4514, [0, 1])]), [[]]), ([], []), { frames := 0, cells := 0, slots := 0, locals := 0 })
noncomputable def ag_rgE1 : aCon := (y_BO_inCheck, false, 3, ([(.inr (some (.inl (false, 62))), none), (.inl (-1, -1), none), (.inl (1, 1), none)], ([(0, 27, 1)], [], [], [(5345, [0]), (5377, [0]), (5410, [0, 2])])), (none, [], ([], [], [], [(4514, [0, 2])]), [[]]), ([], []), { frames := 0, cells := 0, slots := 0, locals := 0 })
noncomputable def ag_rgE2 : aCon := (y_BO_inCheck, false, 4, ([(.inr (some (.inl (false, 62))), none), (.inl (1, 1), none), (.inl (1, 1), none), (.inl (1, 1), none)], ([], [], [], [(5345, [0]), (5377, [0]), (5410, [0, 1]), (5442, [0, 2])])), (none, [], ([], [], [], [(4514, [0, 3])]), [[]]), ([], []), { frames := 0, cells := 0, slots := 0, locals := 0 })
noncomputable def ag_rgJ10 : aCon := (y_BO_inCheck, false, 5, ([(.inr (some (.inl (false, 62))), none), (.inl (0, 63), none), (.inl (5, 5), none), (.inl (0, 0), none), (.inl (1, 1), none), (.inr (some (.inl (false, 82))), none), (.inl (0, 0), none)], ([(0, 24, 5), (0, 25, 6), (0, 27, 1)], [(5, ([(1, 1)], 0), 3)], [], [(2514, [1, 2])])), (none, [], ([], [], [], [(5426, [0, 4])]), [[]]), ([], []), { frames := 0, cells := 0, slots := 0, locals := 0 })
noncomputable def ag_rgK10 : aCon := (y_BO_inCheck, false, 5, ([(.inr (some (.inl (false, 62))), none), (.inl (0, 63), none), (.inl (1, 1), none), (.inl (9, 9), none), (.inl (1, 1), none), (.inr (some (.inl (false, 82))), none), (.inl (0, 0), none)], ([(0, 24, 5), (0, 25, 6), (0, 27, 1)], [(5, ([(1, 1)], -8), 3)], [], [(5426, [0, 2])])), (none, [], ([], [], [], [(5442, [0, 4])]), [[]]), ([], []), { frames := 0, cells := 0, slots := 0, locals := 0 })
noncomputable def ag_rgJ11 : aCon := (y_BO_inCheck, false, 5, ([(.inr (some (.inl (false, 62))), none), (.inl (0, 63), none), (.inl (2, 2), none), (.inl (0, 0), none), (.inl (1, 1), none), (.inr (some (.inl (false, 82))), none), (.inl (1, 1), none)], ([(0, 24, 5), (0, 25, 6), (0, 27, 1)], [(5, ([(1, 1)], 0), 3)], [], [(2514, [1, 2])])), (none, [], ([], [], [], [(5426, [0, 4])]), [[]]), ([], []), { frames := 0, cells := 0, slots := 0, locals := 0 })
noncomputable def ag_rgK11 : aCon := (y_BO_inCheck, false, 5, ([(.inr (some (.inl (false, 62))), none), (.inl (0, 63), none), (.inl (1, 1), none), (.inl (1, 1), none), (.inl (1, 1), none), (.inr (some (.inl (false, 82))), none), (.inl (1, 1), none)], ([(0, 24, 5), (0, 25, 6), (0, 27, 1)], [(5, ([(1, 1)], 8), 3)], [], [(5426, [0, 2])])), (none, [], ([], [], [], [(5442, [0, 4])]), [[]]), ([], []), { frames := 0, cells := 0, slots := 0, locals := 0 })
end
section
/-! the reference: u7 -/
noncomputable def y_MT_readPosition : jY := (⟨"ChessHouseModel$Texts", "readPosition", "(II)Z"⟩, prog_18_method_52_code, 5, (some .boolean))
theorem m_MT_readPosition : jmth lw_tbl y_MT_readPosition 2 := ⟨jTA_in (wi := 2603) (jtF_ok rfl) rfl, jTA_in (wi := 315) (jtF_ok rfl) rfl, by decide, by decide, by decide +kernel⟩
theorem i_MT_readPosition : Jvm.Cond.instanceMethod y_MT_readPosition.1 ∈ jTA lw_tbl := jTA_in (wi := 2602) (jtF_ok rfl) rfl
theorem e_MT_readPosition : Jvm.Cond.selects y_MT_readPosition.1.cls y_MT_readPosition.1 y_MT_readPosition.1 ∈ jTA lw_tbl := jTA_in (wi := 171) (jtF_ok rfl) rfl
noncomputable def ag_rhV : aCon := (y_BO_inCheck, false, 2, ([(.inr (some (.inl (false, 62))), none), (.inl (64, 64), none)], ([], [], [], [(4562, [0, 1])])), (none, [], ([], [], [], [(5345, [0])]), [[]]), ([], []), { frames := 0, cells := 0, slots := 0, locals := 0 })
noncomputable def ag_rhG : aCon := (y_BO_inCheck, false, 3, ([(.inr (some (.inl (false, 62))), none), (.inl (1, 1), none), (.inl (1, 1), none)], ([], [], [], [(4514, [0, 1])])), (none, [], ([], [], [], [(4514, [0, 2])]), [[]]), ([], []), { frames := 0, cells := 0, slots := 0, locals := 0 })
noncomputable def ag_rhB1570 : aCon := (y_BO_inCheck, false, 1, ([(.inl (0, 1800), none)], ([], [], [([(0, -1)], 1570)], [])), (none, [], ([], [], [([(0, -1)], 1570)], []), [[]]), ([], []), { frames := 0, cells := 0, slots := 0, locals := 0 })
noncomputable def ag_rhB1575 : aCon := (y_BO_inCheck, false, 1, ([(.inl (0, 1800), none)], ([], [], [([(0, -1)], 1575)], [])), (none, [], ([], [], [([(0, -1)], 1575)], []), [[]]), ([], []), { frames := 0, cells := 0, slots := 0, locals := 0 })
noncomputable def ag_rhB1580 : aCon := (y_BO_inCheck, false, 1, ([(.inl (0, 1800), none)], ([], [], [([(0, -1)], 1580)], [])), (none, [], ([], [], [([(0, -1)], 1580)], []), [[]]), ([], []), { frames := 0, cells := 0, slots := 0, locals := 0 })
noncomputable def ag_rhB1590 : aCon := (y_BO_inCheck, false, 1, ([(.inl (0, 1800), none)], ([], [], [([(0, -1)], 1590)], [])), (none, [], ([], [], [([(0, -1)], 1590)], []), [[]]), ([], []), { frames := 0, cells := 0, slots := 0, locals := 0 })
noncomputable def ag_rhB1595 : aCon := (y_BO_inCheck, false, 1, ([(.inl (0, 1800), none)], ([], [], [([(0, -1)], 1595)], [])), (none, [], ([], [], [([(0, -1)], 1595)], []), [[]]), ([], []), { frames := 0, cells := 0, slots := 0, locals := 0 })
noncomputable def ag_rhB1600 : aCon := (y_BO_inCheck, false, 1, ([(.inl (0, 1800), none)], ([], [], [([(0, -1)], 1600)], [])), (none, [], ([], [], [([(0, -1)], 1600)], []), [[]]), ([], []), { frames := 0, cells := 0, slots := 0, locals := 0 })
noncomputable def ag_rhB1605 : aCon := (y_BO_inCheck, false, 1, ([(.inl (0, 1800), none)], ([], [], [([(0, -1)], 1605)], [])), (none, [], ([], [], [([(0, -1)], 1605)], []), [[]]), ([], []), { frames := 0, cells := 0, slots := 0, locals := 0 })
noncomputable def ag_rhB1612 : aCon := (y_BO_inCheck, false, 1, ([(.inl (0, 1800), none)], ([], [], [([(0, -1)], 1612)], [])), (none, [], ([], [], [([(0, -1)], 1612)], []), [[]]), ([], []), { frames := 0, cells := 0, slots := 0, locals := 0 })
noncomputable def ag_rhB1620 : aCon := (y_BO_inCheck, false, 1, ([(.inl (0, 1800), none)], ([], [], [([(0, -1)], 1620)], [])), (none, [], ([], [], [([(0, -1)], 1620)], []), [[]]), ([], []), { frames := 0, cells := 0, slots := 0, locals := 0 })
noncomputable def ag_rhB1630 : aCon := (y_BO_inCheck, false, 1, ([(.inl (0, 1800), none)], ([], [], [([(0, -1)], 1630)], [])), (none, [], ([], [], [([(0, -1)], 1630)], []), [[]]), ([], []), { frames := 0, cells := 0, slots := 0, locals := 0 })
end
section
/-! facts out of a table of their own: what every such F has (the reference's logic) -/
noncomputable def rSh {P : Type} (s : P → jv → P) (p : P) : List jv → P
  | [] => p
  | v :: r => s (rSh s p r) v
theorem rSh_app {P : Type} (s : P → jv → P) (p : P) : ∀ (a b : List jv), rSh s p (a ++ b) = rSh s (rSh s p b) a
  | [], _ => rfl
  | v :: a, b => by
    show s (rSh s p (a ++ b)) v = s (rSh s (rSh s p b) a) v
    rw [rSh_app s p a b]
noncomputable def rF0 {P : Type} (B : P → Nat → List jv → (Nat → jcell) → Prop) (s : P → jv → P) : aFt P := fun p r vs σ => B (rSh s p (vs.drop (r % 16))) (r / 16) (vs.take (r % 16)) σ
noncomputable def rFF {P : Type} (B : P → Nat → List jv → (Nat → jcell) → Prop) (s : P → jv → P) : aFt P := fun p r vs σ => if r < 65536 then rF0 B s p r vs σ else if r < 131072 then (if 3 ≤ r % 16 then (match vs with
  | .inr (.inr (some (.inl a))) :: .inl x :: .inl y :: l => rF0 B s p (r - 65539) l (jup σ a (jsto (σ a) x.toNatClampNeg y))
  | .inr (.inr (some (.inl a))) :: .inl x :: .inr (.inl y) :: l => rF0 B s p (r - 65539) l (jup σ a (jstl (σ a) x.toNatClampNeg y))
  | _ => False) else False) else (if 2 ≤ r % 16 then (match vs with
  | .inr (.inr (some (.inl a))) :: y :: l => rF0 B s p (r % 131072 - 2) l (jup σ a (jstf (σ a) (r / 131072 - 1) y))
  | _ => False) else False)
theorem rF0_sh {P : Type} (B : P → Nat → List jv → (Nat → jcell) → Prop) (s : P → jv → P) (p : P) (r : Nat) (vs ms : List jv) (σ : Nat → jcell) (h : r % 16 ≤ vs.length) : rF0 B s p r (vs ++ ms) σ ↔ rF0 B s (rSh s p ms) r vs σ := by
  unfold rF0
  rw [List.drop_append_of_le_length h, List.take_append_of_le_length h, rSh_app]
theorem rF_fre {P : Type} {B : P → Nat → List jv → (Nat → jcell) → Prop} {s : P → jv → P} (hf : ∀ (p p' : P) (k : Nat) (vs : List jv) (σ : Nat → jcell), 100 ≤ k → k < 400 → B p k vs σ → B p' k vs σ) (hh : ∀ (p : P) (k : Nat) (vs : List jv) (σ : Nat → jcell), 1000 ≤ k → B p k vs σ → False) (p p' : P) (r : Nat) (vs : List jv) (σ : Nat → jcell) (hr : aFre r = true) (h : rFF B s p r vs σ) : rFF B s p' r vs σ := by
  have hr : 1600 ≤ r % 65536 ∧ r % 65536 ≤ 6399 := by
    unfold aFre at hr
    rw [Bool.and_eq_true] at hr
    exact ⟨Nat.le_of_ble_eq_true hr.1, Nat.le_of_ble_eq_true hr.2⟩
  unfold rFF at h ⊢
  by_cases c : r < 65536
  · rw [if_pos c] at h ⊢
    exact hf _ _ _ _ _ (by omega) (by omega) h
  · rw [if_neg c] at h ⊢
    by_cases c2 : r < 131072
    · rw [if_pos c2] at h ⊢
      by_cases c3 : 3 ≤ r % 16
      · rw [if_pos c3] at h ⊢
        split at h
        next => exact hf _ _ _ _ _ (by omega) (by omega) h
        next => exact hf _ _ _ _ _ (by omega) (by omega) h
        next => exact h.elim
      · rw [if_neg c3] at h
        exact h.elim
    · rw [if_neg c2] at h ⊢
      by_cases c3 : 2 ≤ r % 16
      · rw [if_pos c3] at h ⊢
        split at h
        next =>
          by_cases c4 : r % 131072 < 65536
          · exact hf _ _ _ _ _ (by omega) (by omega) h
          · exact (hh _ _ _ _ (show 1000 ≤ (r % 131072 - 2) / 16 by omega) h).elim
        next => exact h.elim
      · rw [if_neg c3] at h
        exact h.elim
theorem rF_sh {P : Type} {B : P → Nat → List jv → (Nat → jcell) → Prop} {s : P → jv → P} (hf : ∀ (p p' : P) (k : Nat) (vs : List jv) (σ : Nat → jcell), 100 ≤ k → k < 400 → B p k vs σ → B p' k vs σ) (hh : ∀ (p : P) (k : Nat) (vs : List jv) (σ : Nat → jcell), 1000 ≤ k → B p k vs σ → False) : aShf (rFF B s) (rSh s) := by
  refine ⟨fun p r vs ms σ h0 h => ?_, rF_fre hf hh⟩
  unfold rFF
  split
  · exact rF0_sh B s p r vs ms σ h
  · split
    · split
      next h3 =>
        match vs, h with
        | [], h => simp at h; omega
        | [_], h => simp at h; omega
        | [_, _], h => simp at h; omega
        | v0 :: v1 :: v2 :: l, h =>
          rcases v0 with x | x | _ | a | j
          · exact Iff.rfl
          · exact Iff.rfl
          · exact Iff.rfl
          · rcases v1 with x | x
            · rcases v2 with y | y | y
              · exact rF0_sh B s p (r - 65539) l ms _ (by simp at h; omega)
              · exact rF0_sh B s p (r - 65539) l ms _ (by simp at h; omega)
              · exact Iff.rfl
            · exact Iff.rfl
          · exact Iff.rfl
      next => exact Iff.rfl
    · split
      next h3 =>
        match vs, h with
        | [], h => simp at h; omega
        | [_], h => simp at h; omega
        | v0 :: v1 :: l, h =>
          rcases v0 with x | x | _ | a | j
          · exact Iff.rfl
          · exact Iff.rfl
          · exact Iff.rfl
          · exact rF0_sh B s p (r % 131072 - 2) l ms _ (by simp at h; omega)
          · exact Iff.rfl
      next => exact Iff.rfl
section RGN
variable {P : Type} {B : P → Nat → List jv → (Nat → jcell) → Prop} {s : P → jv → P}
theorem rF_pd1 (p : P) (r' r a : Nat) (x y : Int32) (vs : List jv) (σ : Nat → jcell) (e : r' = r + 65539) (hr : r < 65533) (h : rFF B s p r' (.inr (.inr (some (.inl a))) :: .inl x :: .inl y :: vs) σ) : rFF B s p r vs (jup σ a (jsto (σ a) x.toNatClampNeg y)) := by
  unfold rFF at h ⊢
  rw [if_neg (by omega), if_pos (by omega)] at h
  rw [if_pos (by omega)]
  split at h
  next =>
    dsimp only at h
    rw [show r' - 65539 = r by omega] at h
    exact h
  next => exact h.elim
theorem rF_pd2 (p : P) (r' r a f : Nat) (y : jv) (vs : List jv) (σ : Nat → jcell) (e : r' = r + 131072 * (f + 1) + 2) (hr : r < 65534) (h : rFF B s p r' (.inr (.inr (some (.inl a))) :: y :: vs) σ) : rFF B s p r vs (jup σ a (jstf (σ a) f y)) := by
  unfold rFF at h ⊢
  rw [if_neg (by omega), if_neg (by omega)] at h
  rw [if_pos (by omega)]
  split at h
  next =>
    dsimp only at h
    rw [show r' % 131072 - 2 = r by omega, show r' / 131072 - 1 = f by omega] at h
    exact h
  next => exact h.elim
theorem rF_pd3 (p : P) (r' r a : Nat) (x : Int32) (y : Int64) (vs : List jv) (σ : Nat → jcell) (e : r' = r + 65539) (hr : r < 65533) (h : rFF B s p r' (.inr (.inr (some (.inl a))) :: .inl x :: .inr (.inl y) :: vs) σ) : rFF B s p r vs (jup σ a (jstl (σ a) x.toNatClampNeg y)) := by
  unfold rFF at h ⊢
  rw [if_neg (by omega), if_pos (by omega)] at h
  rw [if_pos (by omega)]
  split at h
  next =>
    dsimp only at h
    rw [show r' - 65539 = r by omega] at h
    exact h
  next => exact h.elim
theorem rF_pd : aPd (rFF B s) := ⟨fun p r a x y vs σ _ hr => rF_pd1 p _ r a x y vs σ rfl hr, fun p r a f y vs σ _ hr => rF_pd2 p _ r a f y vs σ rfl hr, fun p r a x y vs σ _ hr => rF_pd3 p _ r a x y vs σ rfl hr⟩
theorem rF_b {p : P} {r : Nat} {vs : List jv} {σ : Nat → jcell} (h : r < 65536) (hl : vs.length = r % 16) : rFF B s p r vs σ ↔ B p (r / 16) vs σ := by
  unfold rFF rF0
  rw [if_pos h, ← hl, List.drop_length, List.take_length]
  exact Iff.rfl
theorem rF_g {p : P} {r : Nat} {vs : List jv} {σ : Nat → jcell} (h : r < 65536) : rFF B s p r vs σ ↔ B (rSh s p (vs.drop (r % 16))) (r / 16) (vs.take (r % 16)) σ := by
  unfold rFF rF0
  rw [if_pos h]
theorem rF_p {p : P} {r a : Nat} {x y : Int32} {vs : List jv} {σ : Nat → jcell} (h : r < 65533) (h2 : r % 16 ≤ 12) (hb : B (rSh s p (vs.drop (r % 16))) (r / 16) (vs.take (r % 16)) (jup σ a (jsto (σ a) x.toNatClampNeg y))) : rFF B s p (r + 65539) (.inr (.inr (some (.inl a))) :: .inl x :: .inl y :: vs) σ := by
  unfold rFF
  rw [if_neg (by omega), if_pos (by omega), if_pos (by omega)]
  dsimp only
  rw [show r + 65539 - 65539 = r by omega]
  exact hb
theorem rF_pl {p : P} {r a : Nat} {x : Int32} {y : Int64} {vs : List jv} {σ : Nat → jcell} (h : r < 65533) (h2 : r % 16 ≤ 12) (hb : B (rSh s p (vs.drop (r % 16))) (r / 16) (vs.take (r % 16)) (jup σ a (jstl (σ a) x.toNatClampNeg y))) : rFF B s p (r + 65539) (.inr (.inr (some (.inl a))) :: .inl x :: .inr (.inl y) :: vs) σ := by
  unfold rFF
  rw [if_neg (by omega), if_pos (by omega), if_pos (by omega)]
  dsimp only
  rw [show r + 65539 - 65539 = r by omega]
  exact hb
theorem rF_pf {p : P} {r a f : Nat} {y : jv} {vs : List jv} {σ : Nat → jcell} (h : r < 65534) (h2 : r % 16 ≤ 13) (hb : B (rSh s p (vs.drop (r % 16))) (r / 16) (vs.take (r % 16)) (jup σ a (jstf (σ a) f y))) : rFF B s p (r + 131072 * (f + 1) + 2) (.inr (.inr (some (.inl a))) :: y :: vs) σ := by
  unfold rFF
  rw [if_neg (by omega), if_neg (by omega), if_pos (by omega)]
  dsimp only
  rw [show (r + 131072 * (f + 1) + 2) % 131072 - 2 = r by omega, show (r + 131072 * (f + 1) + 2) / 131072 - 1 = f by omega]
  exact hb
end RGN
theorem rSm_jup {n : Nat} {K : Nat → Nat} {σ σ' : Nat → jcell} {vs ws : List jv} {a : Nat} {T : jcell → jcell} (hT : ∀ (q : aDe) (c c' : jcell), aSm vs (q.1, q.2.1, none) c c' → aSm ws q (T c) (T c')) {d : List aDe} (h : ∀ b, b < n → ∀ q ∈ d.map (fun e => ((e.1, e.2.1, none) : aDe)), q.1 = K b → aSm vs q (σ b) (σ' b)) : ∀ b, b < n → ∀ q ∈ d, q.1 = K b → aSm ws q (jup σ a (T (σ a)) b) (jup σ' a (T (σ' a)) b) := by
  intro b hb q hq hk
  have h1 := h b hb (q.1, q.2.1, none) (List.mem_map.mpr ⟨q, hq, rfl⟩) hk
  by_cases e : b = a
  · subst e
    rw [jup_s, jup_s]
    exact hT q _ _ h1
  · rw [jup_n e, jup_n e]
    rcases h1 with h1 | ⟨k, f1, f2, e1, e2, e3, e4⟩ | ⟨ty, m, g1, g2, f, z, e1, -⟩
    · exact Or.inl h1
    · exact Or.inr (Or.inl ⟨k, f1, f2, e1, e2, e3, e4⟩)
    · cases e1
theorem rSm_sto {vs ws : List jv} (i : Nat) (x : Int32) (q : aDe) (c c' : jcell) (h : aSm vs (q.1, q.2.1, none) c c') : aSm ws q (jsto c i x) (jsto c' i x) := by
  rcases h with h1 | ⟨k, f1, f2, e1, e2, e3, e4⟩ | ⟨ty, m, g1, g2, f, z, e1, -⟩
  · exact Or.inl (by rw [h1])
  · subst e1; subst e2
    exact Or.inr (Or.inl ⟨k, f1, f2, rfl, rfl, e3, e4⟩)
  · cases e1
theorem rSm_stl {vs ws : List jv} (i : Nat) (x : Int64) (q : aDe) (c c' : jcell) (h : aSm vs (q.1, q.2.1, none) c c') : aSm ws q (jstl c i x) (jstl c' i x) := by
  rcases h with h1 | ⟨k, f1, f2, e1, e2, e3, e4⟩ | ⟨ty, m, g1, g2, f, z, e1, -⟩
  · exact Or.inl (by rw [h1])
  · subst e1; subst e2
    exact Or.inr (Or.inl ⟨k, f1, f2, rfl, rfl, e3, e4⟩)
  · cases e1
theorem rSm_stf {vs ws : List jv} (i : Nat) (x : jv) (q : aDe) (c c' : jcell) (h : aSm vs (q.1, q.2.1, none) c c') : aSm ws q (jstf c i x) (jstf c' i x) := by
  rcases h with h1 | ⟨k, f1, f2, e1, e2, e3, e4⟩ | ⟨ty, m, g1, g2, f, z, e1, -⟩
  · exact Or.inl (by rw [h1])
  · subst e1; subst e2
    refine Or.inr (Or.inl ⟨k, f1.set i x, f2.set i x, rfl, rfl, by rw [List.length_set, List.length_set]; exact e3, fun f hf => ?_⟩)
    by_cases e : i = f
    · subst e
      rw [List.getElem?_set, List.getElem?_set, if_pos rfl, if_pos rfl, e3]
    · rw [List.getElem?_set_ne e, List.getElem?_set_ne e]
      exact e4 f hf
  · cases e1
theorem rF_dp {P : Type} {B : P → Nat → List jv → (Nat → jcell) → Prop} {s : P → jv → P} {K : Nat → Nat} {n : Nat} {dep : List (List aDe)} (hL : dep.length ≤ 4000) (hh : ∀ (p : P) (k : Nat) (vs : List jv) (σ : Nat → jcell), 1000 ≤ k → B p k vs σ → False) (hs : ∀ (p : P) (k j : Nat) (vs : List jv) (σ σ' : Nat → jcell), k < dep.length → (∀ a, a < n → ∀ q ∈ dep.getD k [], q.1 = K a → aSm vs q (σ a) (σ' a)) → B p k (vs.take j) σ → B p k (vs.take j) σ') (ho : aOc (rFF B s) dep) : aDp (rFF B s) K n dep := by
  refine ⟨fun p r vs σ σ' hl h hf => ?_, rF_pd, ho⟩
  have hl : r / 16 % 4096 < dep.length := of_decide_eq_true hl
  unfold rFF at hf ⊢
  unfold aDg at h
  by_cases c : r < 65536
  · rw [if_pos c] at hf h ⊢
    exact hs _ _ _ vs σ σ' (by omega) h hf
  · rw [if_neg c] at hf h ⊢
    by_cases c2 : r < 131072
    · rw [if_pos c2] at hf ⊢
      by_cases c3 : 3 ≤ r % 16
      · rw [if_pos c3] at hf ⊢
        split at hf
        next a x y l =>
          refine hs _ _ _ l (jup σ a (jsto (σ a) x.toNatClampNeg y)) _ (by omega) ?_ hf
          rw [show (r - 65539) / 16 = r / 16 % 4096 by omega]
          exact rSm_jup (rSm_sto _ _) h
        next a x y l =>
          refine hs _ _ _ l (jup σ a (jstl (σ a) x.toNatClampNeg y)) _ (by omega) ?_ hf
          rw [show (r - 65539) / 16 = r / 16 % 4096 by omega]
          exact rSm_jup (rSm_stl _ _) h
        next => exact hf.elim
      · rw [if_neg c3] at hf
        exact hf.elim
    · rw [if_neg c2] at hf ⊢
      by_cases c3 : 2 ≤ r % 16
      · rw [if_pos c3] at hf ⊢
        split at hf
        next a y l =>
          by_cases c4 : (r % 131072 - 2) / 16 < dep.length
          · refine hs _ _ _ l (jup σ a (jstf (σ a) (r / 131072 - 1) y)) _ c4 ?_ hf
            rw [show (r % 131072 - 2) / 16 = r / 16 % 4096 by omega]
            exact rSm_jup (rSm_stf _ _) h
          · exact (hh _ _ _ _ (show 1000 ≤ (r % 131072 - 2) / 16 by omega) hf).elim
        next => exact hf.elim
      · rw [if_neg c3] at hf
        exact hf.elim
end
section
/-! the reference: pictures of its cells -/
noncomputable abbrev rI (x : Int32) : jv := .inl x
noncomputable abbrev rL (x : Int64) : jv := .inr (.inl x)
noncomputable abbrev rR (a : Nat) : jv := .inr (.inr (some (.inl a)))
theorem rG_ref {K : Nat → Nat} {n k : Nat} (h9 : ¬ k = 99999) {v : jv} (h : aG K n (.inr (some (.inl (false, k)))) v) : ∃ a, v = rR a ∧ a < n ∧ K a = k := aG_obj h9 h
theorem rG_any {K : Nat → Nat} {n : Nat} {v : jv} (h : aG K n (.inr (some (.inl (false, 99999)))) v) : ∃ a, v = rR a ∧ a < n := by
  rcases aG_ref h with h | ⟨a, e, h1, -⟩
  · cases h.1
  · exact ⟨a, e, h1⟩
noncomputable def rOb (K : Nat → Nat) (n : Nat) (σ : Nat → jcell) (a k f : Nat) (v : jv) : Prop := a < n ∧ K a = k ∧ ∃ (c : Nat) (fs : List jv), σ a = .inr (c, fs) ∧ fs[f]? = some v
noncomputable def rRo (K : Nat → Nat) (n : Nat) (σ : Nat → jcell) (a k f kr len : Nat) (g : Nat → Int32) : Prop := ∃ r, rOb K n σ a k f (rR r) ∧ r < n ∧ K r = kr ∧ σ r = .inl (.int, len, .inl g)
theorem rOb_u {K : Nat → Nat} {n : Nat} {σ : Nat → jcell} {a k k' f : Nat} {v v' : jv} (h : rOb K n σ a k f v) (h' : rOb K n σ a k' f v') : v = v' := by
  obtain ⟨-, -, c, fs, e1, e2⟩ := h
  obtain ⟨-, -, c', fs', e1', e2'⟩ := h'
  rw [e1] at e1'
  cases e1'
  rw [e2] at e2'
  exact Option.some.inj e2'
theorem rRo_u {K : Nat → Nat} {n : Nat} {σ : Nat → jcell} {a k k' f kr kr' len len' : Nat} {g g' : Nat → Int32} (h : rRo K n σ a k f kr len g) (h' : rRo K n σ a k' f kr' len' g') : g = g' := by
  obtain ⟨r, o, -, -, e⟩ := h
  obtain ⟨r', o', -, -, e'⟩ := h'
  cases rOb_u o o'
  rw [e] at e'
  cases e'
  rfl
theorem rOb_st {K : Nat → Nat} {n : Nat} {σ σ' : Nat → jcell} {vs : List jv} {d : List aDe} (h : ∀ a, a < n → ∀ q ∈ d, q.1 = K a → aSm vs q (σ a) (σ' a)) {a k f : Nat} {F : List Nat} {z : Option aF} {v : jv} (hq : (k, F, z) ∈ d) (hf : f ∈ F) (ho : rOb K n σ a k f v) : rOb K n σ' a k f v := by
  obtain ⟨h1, h2, c, fs, e1, e2⟩ := ho
  refine ⟨h1, h2, ?_⟩
  rcases h a h1 (k, F, z) hq h2.symm with e | ⟨c', f1, f2, e3, e4, -, e5⟩ | ⟨ty, m, g, g', f', z', -, -, e3, -⟩
  · exact ⟨c, fs, by rw [e]; exact e1, e2⟩
  · rw [e3] at e1
    cases e1
    exact ⟨_, f2, e4, by rw [e5 f hf]; exact e2⟩
  · rw [e3] at e1
    cases e1
theorem rRo_st {K : Nat → Nat} {n : Nat} {σ σ' : Nat → jcell} {vs : List jv} {d : List aDe} (h : ∀ a, a < n → ∀ q ∈ d, q.1 = K a → aSm vs q (σ a) (σ' a)) {a k f kr len : Nat} {F : List Nat} {z : Option aF} {g : Nat → Int32} (hq : (k, F, z) ∈ d) (hf : f ∈ F) (hr : (kr, [], none) ∈ d) (ho : rRo K n σ a k f kr len g) : rRo K n σ' a k f kr len g := by
  obtain ⟨r, o, h1, h2, e⟩ := ho
  refine ⟨r, rOb_st h hq hf o, h1, h2, ?_⟩
  rcases h r h1 _ hr h2.symm with e1 | ⟨c', f1, f2, e3, e4, -, e5⟩ | ⟨ty, m, g1, g2, f', z', e0, -⟩
  · rw [e1]; exact e
  · rw [e3] at e
    cases e
  · cases e0
/-- rows of which the cells below a bound alone are looked at -/
theorem rRo_sb {K : Nat → Nat} {n : Nat} {σ σ' : Nat → jcell} {vs : List jv} {d : List aDe} (h : ∀ a, a < n → ∀ q ∈ d, q.1 = K a → aSm vs q (σ a) (σ' a)) {a k f kr len : Nat} {F : List Nat} {z : Option aF} {fo : aF} {b : Int} {g : Nat → Int32} (hq : (k, F, z) ∈ d) (hf : f ∈ F) (hr : (kr, [], some fo) ∈ d) (hb : ∀ x, aVa vs fo x → x = b) (ho : rRo K n σ a k f kr len g) : ∃ g', rRo K n σ' a k f kr len g' ∧ ∀ i : Nat, (i : Int) < b → g' i = g i := by
  obtain ⟨r, o, h1, h2, e⟩ := ho
  rcases h r h1 _ hr h2.symm with e1 | ⟨c', f1, f2, e3, e4, -, e5⟩ | ⟨ty, m, g1, g2, f', z', e0, e1, e2, e3, e4⟩
  · exact ⟨g, ⟨r, rOb_st h hq hf o, h1, h2, by rw [e1]; exact e⟩, fun _ _ => rfl⟩
  · rw [e3] at e
    cases e
  · cases e0
    rw [e2] at e
    cases e
    exact ⟨g2, ⟨r, rOb_st h hq hf o, h1, h2, e3⟩, fun i hi => e4 i (by rw [hb _ e1]; exact hi)⟩
/-- men: a row of 64, as a function of the square -/
noncomputable def rMn (g : Nat → Int32) : Int → Int := fun i => if 0 ≤ i ∧ i ≤ 63 then (g i.toNat).toInt else 0
noncomputable def rMg (ko f kr : Nat) (K : Nat → Nat) (n : Nat) (σ : Nat → jcell) (a : Nat) (M : Int → Int) : Prop := ∃ g, rRo K n σ a ko f kr 64 g ∧ M = rMn g
theorem rMg_u {ko f kr : Nat} {K : Nat → Nat} {n : Nat} {σ : Nat → jcell} {a : Nat} {M M' : Int → Int} (h : rMg ko f kr K n σ a M) (h' : rMg ko f kr K n σ a M') : M = M' := by
  obtain ⟨g, h1, rfl⟩ := h
  obtain ⟨g', h2, rfl⟩ := h'
  rw [rRo_u h1 h2]
theorem rMg_ex {ko f kr : Nat} {K : Nat → Nat} {n : Nat} {σ : Nat → jcell} (hH : aH fa_T K n σ) {a c : Nat} {ts : List aT} {iv : Int × Int} {el : List (Nat × Nat × Int × Int × Int)} (t1 : fa_T[ko]? = some (.inr (c, ts))) (t2 : ts[f]? = some (.inr (some (.inl (false, kr))))) (t3 : fa_T[kr]? = some (.inl (.int, 64, iv, el))) (h9 : ¬ kr = 99999) (ha : a < n) (hk : K a = ko) : ∃ M, rMg ko f kr K n σ a M := by
  have h1 := hH a ha _ (by rw [hk]; exact t1)
  match e : σ a, h1 with
  | .inr (c', fs), h1 =>
    obtain ⟨-, hl, h2⟩ := h1
    have hf : f < fs.length := by rw [hl]; exact (List.getElem?_eq_some_iff.mp t2).1
    obtain ⟨r, e2, h3, h4⟩ := rG_ref h9 (h2 f _ _ t2 (List.getElem?_eq_getElem hf))
    have h5 := hH r h3 _ (by rw [h4]; exact t3)
    obtain ⟨g, e3, -⟩ := aCe_arr h5 (show ¬ FieldType.int = FieldType.long by decide)
    exact ⟨_, g, ⟨r, ⟨ha, hk, c', fs, e, by rw [List.getElem?_eq_getElem hf, e2]⟩, h3, h4, e3⟩, rfl⟩
  | .inl x, h1 => exact h1.elim
theorem rMg_st {ko f kr : Nat} {K : Nat → Nat} {n : Nat} {σ σ' : Nat → jcell} {vs : List jv} {d : List aDe} (h : ∀ a, a < n → ∀ q ∈ d, q.1 = K a → aSm vs q (σ a) (σ' a)) {F : List Nat} {z : Option aF} (hq : (ko, F, z) ∈ d) (hf : f ∈ F) (hr : (kr, [], none) ∈ d) {a : Nat} {M : Int → Int} (hm : rMg ko f kr K n σ a M) : rMg ko f kr K n σ' a M := by
  obtain ⟨g, h1, e⟩ := hm
  exact ⟨g, rRo_st h hq hf hr h1, e⟩
theorem rMg_c {ko f kr : Nat} {K : Nat → Nat} {n : Nat} {σ : Nat → jcell} {a b c m : Nat} {fs : List jv} {ty : FieldType} {g : Nat → Int32} {M : Int → Int} (h : rMg ko f kr K n σ a M) (e1 : σ a = .inr (c, fs)) (e2 : fs[f]? = some (rR b)) (e3 : σ b = .inl (ty, m, .inl g)) {x : Int} {v : Int32} {i : Nat} (hi : (i : Int) = x) (h0 : 0 ≤ x) (h1 : x ≤ 63) (hv : v = g i) : M x = v.toInt := by
  obtain ⟨g', ⟨r, ⟨-, -, c', fs', e4, e5⟩, -, -, e6⟩, rfl⟩ := h
  rw [e1] at e4
  cases e4
  rw [e2] at e5
  cases e5
  rw [e3] at e6
  cases e6
  unfold rMn
  rw [if_pos ⟨h0, h1⟩, hv, show x.toNat = i by omega]
noncomputable abbrev rMe := rMg 88 2 90
theorem rMe_ex {K : Nat → Nat} {n : Nat} {σ : Nat → jcell} (hH : aH fa_T K n σ) {a : Nat} (ha : a < n) (hk : K a = 88) : ∃ M, rMe K n σ a M := rMg_ex hH rfl rfl rfl (by decide) ha hk
/-! squares, steps, lines -/
noncomputable def rSp (s f r : Int) : Int := if 0 ≤ s % 8 + f ∧ s % 8 + f ≤ 7 ∧ 0 ≤ s / 8 + r ∧ s / 8 + r ≤ 7 then s + f + 8 * r else -1
/-- the first man from a square on -/
noncomputable def rGn (M : Int → Int) (f r : Int) : Nat → Int → Option Int
  | 0, _ => none
  | k + 1, t => if t < 0 then some 0 else if M t = 0 then rGn M f r k (rSp t f r) else some (M t)
noncomputable def rGf (M : Int → Int) (f r t m : Int) : Prop := ∃ k, rGn M f r k t = some m
theorem rGf_o {M : Int → Int} {f r t : Int} (h : t < 0) : rGf M f r t 0 := ⟨1, by unfold rGn; rw [if_pos h]⟩
theorem rGf_s {M : Int → Int} {f r t m : Int} (h : 0 ≤ t) (hm : M t = m) (h0 : ¬ m = 0) : rGf M f r t m := ⟨1, by unfold rGn; rw [if_neg (by omega), if_neg (by omega), hm]⟩
theorem rGf_n {M : Int → Int} {f r t m : Int} (h : 0 ≤ t) (hm : M t = 0) (h2 : rGf M f r (rSp t f r) m) : rGf M f r t m := by
  obtain ⟨k, e⟩ := h2
  exact ⟨k + 1, by unfold rGn; rw [if_neg (by omega), if_pos hm]; exact e⟩
theorem rGn_u {M : Int → Int} {f r : Int} : ∀ {k k' : Nat} {t m m' : Int}, rGn M f r k t = some m → rGn M f r k' t = some m' → m = m'
  | 0, _, _, _, _, h, _ => by cases h
  | _ + 1, 0, _, _, _, _, h => by cases h
  | k + 1, k' + 1, t, m, m', h, h' => by
    unfold rGn at h h'
    split at h
    next c =>
      rw [if_pos c] at h'
      rw [← Option.some.inj h, ← Option.some.inj h']
    next c =>
      rw [if_neg c] at h'
      split at h
      next c2 =>
        rw [if_pos c2] at h'
        exact rGn_u h h'
      next c2 =>
        rw [if_neg c2] at h'
        rw [← Option.some.inj h, ← Option.some.inj h']
theorem rGf_u {M : Int → Int} {f r t m m' : Int} (h : rGf M f r t m) (h' : rGf M f r t m') : m = m' := by
  obtain ⟨k, e⟩ := h
  obtain ⟨k', e'⟩ := h'
  exact rGn_u e e'
/-- where a walk comes to -/
noncomputable def rWn (M : Int → Int) (f r : Int) : Nat → Int → Int → Prop
  | 0, _, _ => False
  | k + 1, t, u => 0 ≤ t ∧ (u = t ∨ (M t = 0 ∧ rWn M f r k (rSp t f r) u))
noncomputable def rWf (M : Int → Int) (f r t u : Int) : Prop := ∃ k, rWn M f r k t u
theorem rWf_i {M : Int → Int} {f r t u : Int} : rWf M f r t u ↔ 0 ≤ t ∧ (u = t ∨ (M t = 0 ∧ rWf M f r (rSp t f r) u)) := by
  constructor
  · rintro ⟨k, h⟩
    cases k with
    | zero => exact h.elim
    | succ k =>
      refine ⟨h.1, ?_⟩
      rcases h.2 with e | ⟨e, h2⟩
      · exact Or.inl e
      · exact Or.inr ⟨e, k, h2⟩
  · rintro ⟨h, e | ⟨e, k, h2⟩⟩
    · exact ⟨1, h, Or.inl e⟩
    · exact ⟨k + 1, h, Or.inr ⟨e, h2⟩⟩
/-- a square is attacked by a side -/
noncomputable def rP1 (M : Int → Int) (s b f : Int) : Prop := 0 ≤ rSp s f (2 * b - 1) ∧ M (rSp s f (2 * b - 1)) = 8 * b + 1
noncomputable def rA1 (M : Int → Int) (s b f r : Int) : Prop := (f * f + r * r = 5 ∧ 0 ≤ rSp s f r ∧ M (rSp s f r) = 8 * b + 2) ∨ (1 ≤ f * f + r * r ∧ f * f + r * r ≤ 2 ∧ ((0 ≤ rSp s f r ∧ M (rSp s f r) = 8 * b + 6) ∨ ∃ m, rGf M f r (rSp s f r) m ∧ (m = 8 * b + 5 ∨ (f * f + r * r = 1 ∧ m = 8 * b + 4) ∨ (f * f + r * r = 2 ∧ m = 8 * b + 3))))
noncomputable def rAk (M : Int → Int) (s b : Int) : Prop := rP1 M s b (-1) ∨ rP1 M s b 1 ∨ ∃ f r, -2 ≤ f ∧ f ≤ 2 ∧ -2 ≤ r ∧ r ≤ 2 ∧ rA1 M s b f r
/-- bits of a set of squares -/
noncomputable def rBt (L : Int64) (u : Int) : Prop := L.toBitVec.getLsbD u.toNat = true
theorem rBt_or {A B : Int64} {u : Int} : rBt (A ||| B) u ↔ rBt A u ∨ rBt B u := by
  unfold rBt
  rw [Int64.toBitVec_or, BitVec.getLsbD_or, Bool.or_eq_true]
theorem rBt_0 {u : Int} : ¬ rBt 0 u := by
  unfold rBt
  rw [show (0 : Int64).toBitVec = 0#64 from rfl, BitVec.getLsbD_zero]
  exact Bool.false_ne_true
theorem rBt_l0 : ∀ (s u : Fin 64), ((1 : Int64) <<< ((Int32.ofNat s.val).toInt64 &&& 63)).toBitVec.getLsbD u.val = decide (u.val = s.val) := by decide +kernel
theorem rOf {x : Int32} (h : 0 ≤ x.toInt) : x = Int32.ofNat x.toInt.toNat := by
  rw [← Int32.toInt_inj, Int32.toInt_ofNat_of_lt (by have := x.toInt_lt; omega)]
  omega
theorem rBt_l {s : Int32} {L A : Int64} (hA : A = 1) (hL : L = A <<< (s.toInt64 &&& 63)) (h0 : 0 ≤ s.toInt) (h1 : s.toInt ≤ 63) {u : Int} (h2 : 0 ≤ u) (h3 : u ≤ 63) : rBt L u ↔ u = s.toInt := by
  unfold rBt
  rw [hL, hA, rOf h0]
  have h := rBt_l0 ⟨s.toInt.toNat, by omega⟩ ⟨u.toNat, by omega⟩
  dsimp only at h
  rw [h, decide_eq_true_iff]
  rw [← rOf h0]
  omega
/-- what a man of a kind reaches in one direction -/
noncomputable def rR1 (M : Int → Int) (k s f r u : Int) : Prop := (((k = 2 ∧ f * f + r * r = 5) ∨ (k = 6 ∧ 1 ≤ f * f + r * r ∧ f * f + r * r ≤ 2)) ∧ 0 ≤ u ∧ u = rSp s f r) ∨ (((k = 4 ∧ f * f + r * r = 1) ∨ (k = 3 ∧ f * f + r * r = 2) ∨ (k = 5 ∧ 1 ≤ f * f + r * r ∧ f * f + r * r ≤ 2)) ∧ rWf M f r (rSp s f r) u)
noncomputable def rRe (M : Int → Int) (k s u : Int) : Prop := ∃ f r, -2 ≤ f ∧ f ≤ 2 ∧ -2 ≤ r ∧ r ≤ 2 ∧ rR1 M k s f r u
/-- the king of a side -/
noncomputable def rKg (M : Int → Int) (b s : Int) : Prop := 0 ≤ s ∧ s ≤ 63 ∧ M s = 8 * b + 6 ∧ ∀ j, 0 ≤ j → j < s → ¬ M j = 8 * b + 6
theorem rKg_u {M : Int → Int} {b s s' : Int} (h : rKg M b s) (h' : rKg M b s') : s = s' := by
  obtain ⟨a0, a1, a2, a3⟩ := h
  obtain ⟨b0, b1, b2, b3⟩ := h'
  by_cases c : s < s'
  · exact absurd a2 (b3 s a0 c)
  · by_cases c2 : s' < s
    · exact absurd b2 (a3 s' b0 c2)
    · omega
/-! operations on small numbers -/
theorem rMul {x y c : Int32} (e : c = x * y) (h0 : -1000 ≤ x.toInt) (h1 : x.toInt ≤ 1000) (h2 : -1000 ≤ y.toInt) (h3 : y.toInt ≤ 1000) : c.toInt = x.toInt * y.toInt := by
  have h4 : x.toInt * y.toInt ≤ 1000000 := by
    rcases Int.le_total 0 x.toInt with a | a
    · exact Int.le_trans (Int.mul_le_mul_of_nonneg_left h3 a) (by omega)
    · exact Int.le_trans (Int.mul_le_mul_of_nonpos_left a h2) (by omega)
  have h5 : -1000000 ≤ x.toInt * y.toInt := by
    rcases Int.le_total 0 x.toInt with a | a
    · exact Int.le_trans (by omega) (Int.mul_le_mul_of_nonneg_left h2 a)
    · exact Int.le_trans (by omega) (Int.mul_le_mul_of_nonpos_left a h3)
  rw [e, Int32.toInt_mul]
  exact Int.bmod_eq_of_le (by omega) (by omega)
theorem rAnd70 : ∀ (m : Fin 64), (Int32.ofNat m.val &&& 7).toInt = (m.val : Int) % 8 := by decide +kernel
theorem rAnd7 {x y c : Int32} (e : c = x &&& y) (hy : y.toInt = 7) (h0 : 0 ≤ x.toInt) (h1 : x.toInt ≤ 63) : c.toInt = x.toInt % 8 := by
  have ey : y = 7 := Int32.toInt_inj.mp (by rw [hy]; rfl)
  have h := rAnd70 ⟨x.toInt.toNat, by omega⟩
  dsimp only at h
  rw [← rOf h0] at h
  rw [e, ey, h]
  omega
theorem rShr30 : ∀ (m : Fin 64), (Int32.ofNat m.val >>> ((3 : Int32) &&& 31)).toInt = (m.val : Int) / 8 := by decide +kernel
theorem rShr3 {x y c : Int32} (e : c = x >>> (y &&& 31)) (hy : y.toInt = 3) (h0 : 0 ≤ x.toInt) (h1 : x.toInt ≤ 63) : c.toInt = x.toInt / 8 := by
  have ey : y = 3 := Int32.toInt_inj.mp (by rw [hy]; rfl)
  have h := rShr30 ⟨x.toInt.toNat, by omega⟩
  dsimp only at h
  rw [← rOf h0] at h
  rw [e, ey, h]
  omega
end
section
/-! positions and moves of the reference -/
abbrev rQ : Type := (Int → Int) × Int × Int × Int
abbrev rP : Type := rQ × Option Int
noncomputable def rUp (M : Int → Int) (s v : Int) : Int → Int := fun i => if i = s then v else M i
theorem rUp_s {M : Int → Int} {s v : Int} : rUp M s v s = v := if_pos rfl
theorem rUp_n {M : Int → Int} {s v i : Int} (h : ¬ i = s) : rUp M s v i = M i := if_neg h
noncomputable def rFr (m : Int) : Int := m % 64
noncomputable def rTo (m : Int) : Int := m / 64 % 64
noncomputable def rBc (m : Int) : Int := m / 4096
noncomputable def rLo (s : Int) : Int := if s = 4 then 3 else if s = 7 then 1 else if s = 0 then 2 else if s = 60 then 12 else if s = 63 then 4 else if s = 56 then 8 else 0
noncomputable def rAn (R l : Int) : Int := (Int32.ofInt R &&& (Int32.ofInt l ^^^ -1)).toInt
noncomputable def rHas (R c : Int) : Prop := ¬ (Int32.ofInt R &&& Int32.ofInt c) = 0
noncomputable def rWh (q : rQ) (m : Int) : Int := if q.1 (rFr m) % 8 = 1 ∧ rTo m = q.2.2.2 then 8 * (rFr m / 8) + rTo m % 8 else rTo m
noncomputable def rM1 (q : rQ) (m : Int) : Int → Int := rUp q.1 (rWh q m) 0
noncomputable def rM2 (q : rQ) (m : Int) : Int → Int := rUp (rM1 q m) (rFr m) 0
noncomputable def rM3 (q : rQ) (m : Int) : Int → Int := rUp (rM2 q m) (rTo m) (if 0 < rBc m then rBc m + 8 * q.2.1 else q.1 (rFr m))
noncomputable def rCo (f t : Int) : Int := if f < t then f + 3 else f - 4
noncomputable def rOv (f t : Int) : Int := (f + t) / 2
noncomputable def rIsC (q : rQ) (m : Int) : Prop := q.1 (rFr m) % 8 = 6 ∧ (rTo m - rFr m = 2 ∨ rFr m - rTo m = 2)
noncomputable def rM4c (q : rQ) (m : Int) : Int → Int := rUp (rUp (rM3 q m) (rOv (rFr m) (rTo m)) (rM3 q m (rCo (rFr m) (rTo m)))) (rCo (rFr m) (rTo m)) 0
noncomputable def rIsC_d (q : rQ) (m : Int) : Decidable (rIsC q m) := by unfold rIsC; exact inferInstance
noncomputable def rM4 (q : rQ) (m : Int) : Int → Int := fun i => @ite _ (rIsC q m) (rIsC_d q m) (rM4c q m i) (rM3 q m i)
noncomputable def rTwo (q : rQ) (m : Int) : Prop := q.1 (rFr m) % 8 = 1 ∧ (rTo m - rFr m = 16 ∨ rFr m - rTo m = 16)
noncomputable def rNbr (M : Int → Int) (t f v : Int) : Prop := 0 ≤ rSp t f 0 ∧ M (rSp t f 0) = v
noncomputable def rPa (q : rQ) (m : Int) : Prop := rTwo q m ∧ (rNbr (rM4 q m) (rTo m) (-1) (1 + 8 * (1 - q.2.1)) ∨ rNbr (rM4 q m) (rTo m) 1 (1 + 8 * (1 - q.2.1)))
noncomputable def rPa_d (q : rQ) (m : Int) : Decidable (rPa q m) := by unfold rPa rTwo rNbr; exact inferInstance
noncomputable def rNp (q : rQ) (m : Int) : Int := @ite _ (rPa q m) (rPa_d q m) ((rFr m + rTo m) / 2) (-1)
noncomputable def rMk (q : rQ) (m : Int) : rQ := (rM4 q m, 1 - q.2.1, rAn (rAn q.2.2.1 (rLo (rFr m))) (rLo (rTo m)), rNp q m)
noncomputable def rS1 (p : rP) (v : jv) : rP := match p.2, v with
  | none, .inl x => (p.1, some x.toInt)
  | some m, .inr _ => (rMk p.1 m, none)
  | some _, .inl x => ((p.1.1, p.1.2.1, p.1.2.2.1, x.toInt), none)
  | none, .inr _ => (p.1, some 0)
theorem rSh_mk {p : rP} {a : Nat} {m : Int32} (h : p.2 = none) : rSh rS1 p [rR a, rI m] = (rMk p.1 m.toInt, none) := by
  obtain ⟨q, o⟩ := p
  obtain rfl : o = none := h
  rfl
theorem rSh_n1 {p : rP} {a : Nat} {m : Int32} (h : (rSh rS1 p [rR a, rI m]).2 = none) : p.2 = none := by
  obtain ⟨q, o | z⟩ := p
  · rfl
  · cases (show (some (0 : Int)) = none from h)
theorem rSh_n2 {p : rP} {x y : Int32} (h : (rSh rS1 p [rI x, rI y]).2 = none) : p.2 = none := by
  obtain ⟨q, o | z⟩ := p
  · rfl
  · cases (show (some x.toInt) = none from h)
theorem rSh_any {p : rP} {a b : Nat} {m : Int32} : rSh rS1 p [rR a, rI m] = rSh rS1 p [rR b, rI m] := by
  obtain ⟨q, o | z⟩ := p <;> rfl
theorem rHas_i {R c : Int} {x y : Int32} (hR : R = x.toInt) (hc : c = y.toInt) : rHas R c ↔ ¬ x &&& y = 0 := by
  unfold rHas
  rw [hR, hc, Int32.ofInt_toInt, Int32.ofInt_toInt]
theorem rSh_pa {p : rP} {x y : Int32} (h : p.2 = none) : rSh rS1 p [rI x, rI y] = ((p.1.1, p.1.2.1, p.1.2.2.1, x.toInt), none) := by
  obtain ⟨q, o⟩ := p
  obtain rfl : o = none := h
  rfl
/-- where a man may go -/
noncomputable def rUpw (q : rQ) : Int := 1 - 2 * q.2.1
noncomputable def rPF (q : rQ) (s u : Int) : Prop := 0 ≤ rSp s 0 (rUpw q) ∧ q.1 (rSp s 0 (rUpw q)) = 0 ∧ (u = rSp s 0 (rUpw q) ∨ (s / 8 = 1 + 5 * q.2.1 ∧ u = rSp (rSp s 0 (rUpw q)) 0 (rUpw q) ∧ q.1 u = 0))
noncomputable def rTk (q : rQ) (u : Int) : Prop := (¬ q.1 u = 0 ∧ q.1 u / 8 = 1 - q.2.1) ∨ u = q.2.2.2
noncomputable def rPT (q : rQ) (s f u : Int) : Prop := (f = -1 ∨ f = 1) ∧ 0 ≤ u ∧ u = rSp s f (rUpw q) ∧ rTk q u
noncomputable def rPG (q : rQ) (s u : Int) : Prop := rPF q s u ∨ ∃ f, rPT q s f u
noncomputable def rChk (M : Int → Int) (b : Int) : Prop := ∃ s, rKg M b s ∧ rAk M s (1 - b)
noncomputable def rCa (q : rQ) (h : Int) : Prop := rHas q.2.2.1 ((if h = 1 then 1 else 2) * (if q.2.1 = 0 then 1 else 4)) ∧ (∀ j, 56 * q.2.1 + (if h = 1 then 5 else 1) ≤ j → j < 56 * q.2.1 + (if h = 1 then 7 else 4) → q.1 j = 0) ∧ ¬ rChk q.1 q.2.1 ∧ ¬ rAk q.1 (56 * q.2.1 + (if h = 1 then 5 else 3)) (1 - q.2.1)
noncomputable def rGO (q : rQ) (s u : Int) : Prop := (q.1 s % 8 = 1 ∧ rPG q s u) ∨ (¬ q.1 s % 8 = 1 ∧ (rRe q.1 (q.1 s % 8) s u ∨ (q.1 s % 8 = 6 ∧ s = 56 * q.2.1 + 4 ∧ ((rCa q 1 ∧ u = s + 2) ∨ (rCa q 0 ∧ u = s - 2)))))
noncomputable def rOwn (q : rQ) (s : Int) : Prop := ¬ q.1 s = 0 ∧ q.1 s / 8 = q.2.1
noncomputable def rLm (q : rQ) (m : Int) : Prop := 0 ≤ m ∧ m ≤ 24575 ∧ rOwn q (rFr m) ∧ ¬ rOwn q (rTo m) ∧ rGO q (rFr m) (rTo m) ∧ ((q.1 (rFr m) % 8 = 1 ∧ (rTo m < 8 ∨ 55 < rTo m) ∧ 2 ≤ rBc m ∧ rBc m ≤ 5) ∨ (¬ (q.1 (rFr m) % 8 = 1 ∧ (rTo m < 8 ∨ 55 < rTo m)) ∧ rBc m = 0))
/-- a good position -/
noncomputable def rVal (M : Int → Int) : Prop := ∀ s, M s = 0 ∨ (0 ≤ s ∧ s ≤ 63 ∧ ((1 ≤ M s ∧ M s ≤ 6) ∨ (9 ≤ M s ∧ M s ≤ 14)))
noncomputable def rKs (M : Int → Int) : Prop := ∀ b, 0 ≤ b → b ≤ 1 → ∃ s, 0 ≤ s ∧ s ≤ 63 ∧ M s = 8 * b + 6 ∧ ∀ t, M t = 8 * b + 6 → t = s
noncomputable def rPs (q : rQ) : Prop := q.2.2.2 = -1 ∨ (0 ≤ q.2.2.2 ∧ q.2.2.2 ≤ 63 ∧ q.1 q.2.2.2 = 0 ∧ ((q.2.1 = 0 ∧ q.2.2.2 / 8 = 5 ∧ q.1 (q.2.2.2 - 8) = 9) ∨ (q.2.1 = 1 ∧ q.2.2.2 / 8 = 2 ∧ q.1 (q.2.2.2 + 8) = 1)))
noncomputable def rGd (q : rQ) : Prop := 0 ≤ q.2.1 ∧ q.2.1 ≤ 1 ∧ rVal q.1 ∧ rKs q.1 ∧ rPs q ∧ ∀ s, q.1 s = 8 * (1 - q.2.1) + 6 → ¬ rAk q.1 s q.2.1
noncomputable def rRX (K : Nat → Nat) (n : Nat) (σ : Nat → jcell) (a : Nat) (q : rQ) : Prop := rMe K n σ a q.1 ∧ (∃ v : Int32, rOb K n σ a 88 3 (rI v) ∧ v.toInt = q.2.1) ∧ (∃ v : Int32, rOb K n σ a 88 4 (rI v) ∧ v.toInt = q.2.2.1) ∧ (∃ v : Int32, rOb K n σ a 88 5 (rI v) ∧ v.toInt = q.2.2.2)
theorem rRX_f {K : Nat → Nat} {n : Nat} {σ : Nat → jcell} {a f c : Nat} {z : Int} {x : Int32} {fs : List jv} (h : ∃ v : Int32, rOb K n σ a 88 f (rI v) ∧ v.toInt = z) (e1 : σ a = .inr (c, fs)) (e2 : fs[f]? = some (rI x)) : z = x.toInt := by
  obtain ⟨v, ⟨-, -, c', fs', e3, e4⟩, rfl⟩ := h
  rw [e1] at e3
  cases e3
  rw [e2] at e4
  cases e4
  rfl
theorem rMg_up {ko f kr : Nat} {K : Nat → Nat} {n : Nat} {σ : Nat → jcell} {a b c : Nat} {fs : List jv} {M : Int → Int} {i v : Int32} (h : rMg ko f kr K n σ a M) (e1 : σ a = .inr (c, fs)) (e2 : fs[f]? = some (rR b)) (h0 : 0 ≤ i.toInt) (h1 : i.toInt ≤ 63) : rMg ko f kr K n (jup σ b (jsto (σ b) i.toNatClampNeg v)) a (rUp M i.toInt v.toInt) := by
  obtain ⟨g, ⟨r, ⟨ha, hk, c', fs', e4, e5⟩, h3, h4, e6⟩, rfl⟩ := h
  rw [e1] at e4
  cases e4
  rw [e2] at e5
  cases e5
  have hab : ¬ a = b := by
    intro e
    subst e
    rw [e1] at e6
    cases e6
  refine ⟨upd g i.toNatClampNeg v, ⟨b, ⟨ha, hk, c, fs, by rw [jup_n hab]; exact e1, e2⟩, h3, h4, by rw [jup_s, e6]; rfl⟩, ?_⟩
  funext j
  unfold rUp rMn upd
  have hi : i.toNatClampNeg = i.toInt.toNat := rfl
  by_cases c1 : j = i.toInt
  · rw [if_pos c1, if_pos (by omega), if_pos (by rw [hi]; omega)]
  · rw [if_neg c1]
    by_cases c2 : 0 ≤ j ∧ j ≤ 63
    · rw [if_pos c2, if_pos c2, if_neg (by rw [hi]; omega)]
    · rw [if_neg c2, if_neg c2]
end
section
/-! rows of the reference's Board; lists; what takeBack leaves -/
noncomputable def rUD (K : Nat → Nat) (n : Nat) (σ : Nat → jcell) (a : Nat) (far : Int) (q : rQ) (m : Int) : Prop := 0 ≤ far ∧ (∃ g, rRo K n σ a 88 15 97 11 g ∧ (g far.toNat).toInt = q.1 (rFr m)) ∧ (∃ g, rRo K n σ a 88 16 98 11 g ∧ (g far.toNat).toInt = q.1 (rWh q m)) ∧ (∃ g, rRo K n σ a 88 17 99 11 g ∧ (g far.toNat).toInt = rWh q m) ∧ (∃ g, rRo K n σ a 88 18 100 11 g ∧ (g far.toNat).toInt = q.2.2.1) ∧ (∃ g, rRo K n σ a 88 19 101 11 g ∧ (g far.toNat).toInt = q.2.2.2)
theorem rRo_c {K : Nat → Nat} {n : Nat} {σ : Nat → jcell} {a b k f kr len c m i : Nat} {fs : List jv} {ty : FieldType} {g g' : Nat → Int32} (h : rRo K n σ a k f kr len g') (e1 : σ a = .inr (c, fs)) (e2 : fs[f]? = some (rR b)) (e3 : σ b = .inl (ty, m, .inl g)) {v : Int32} (hv : v = g i) : (g' i).toInt = v.toInt := by
  obtain ⟨r, ⟨-, -, c', fs', e4, e5⟩, -, -, e6⟩ := h
  rw [e1] at e4
  cases e4
  rw [e2] at e5
  cases e5
  rw [e3] at e6
  cases e6
  rw [hv]
theorem rRo_of {K : Nat → Nat} {n : Nat} {σ : Nat → jcell} (hH : aH fa_T K n σ) {a b k f kr len c : Nat} {fs : List jv} {iv : Int × Int} {el : List (Nat × Nat × Int × Int × Int)} (ha : a < n) (hk : K a = k) (e1 : σ a = .inr (c, fs)) (e2 : fs[f]? = some (rR b)) (hb : b < n) (hkb : K b = kr) (t3 : fa_T[kr]? = some (.inl (.int, len, iv, el))) : ∃ g, rRo K n σ a k f kr len g := by
  have h5 := hH b hb _ (by rw [hkb]; exact t3)
  obtain ⟨g, e3, -⟩ := aCe_arr h5 (show ¬ FieldType.int = FieldType.long by decide)
  exact ⟨g, b, ⟨ha, hk, c, fs, e1, e2⟩, hb, hkb, e3⟩
theorem rRo_up {K : Nat → Nat} {n : Nat} {σ : Nat → jcell} {a b k f kr len c : Nat} {fs : List jv} {g : Nat → Int32} {i : Nat} {v : Int32} (h : rRo K n σ a k f kr len g) (e1 : σ a = .inr (c, fs)) (e2 : fs[f]? = some (rR b)) : rRo K n (jup σ b (jsto (σ b) i v)) a k f kr len (upd g i v) := by
  obtain ⟨r, ⟨ha, hk, c', fs', e4, e5⟩, h3, h4, e6⟩ := h
  rw [e1] at e4
  cases e4
  rw [e2] at e5
  cases e5
  have hab : ¬ a = b := by
    intro e
    subst e
    rw [e1] at e6
    cases e6
  exact ⟨b, ⟨ha, hk, c, fs, by rw [jup_n hab]; exact e1, e2⟩, h3, h4, by rw [jup_s, e6]; rfl⟩
noncomputable def rT0c (q : rQ) (m : Int) : Int → Int := rUp (rUp (rM4c q m) (rCo (rFr m) (rTo m)) (rM4c q m (rOv (rFr m) (rTo m)))) (rOv (rFr m) (rTo m)) 0
noncomputable def rT0 (q : rQ) (m : Int) : Int → Int := fun i => @ite _ (rIsC q m) (rIsC_d q m) (rT0c q m i) (rM4 q m i)
noncomputable def rT1 (q : rQ) (m : Int) : Int → Int := rUp (rT0 q m) (rTo m) 0
noncomputable def rT2 (q : rQ) (m : Int) : Int → Int := rUp (rT1 q m) (rWh q m) (q.1 (rWh q m))
noncomputable def rT3 (q : rQ) (m : Int) : Int → Int := rUp (rT2 q m) (rFr m) (q.1 (rFr m))
noncomputable def rLF (K : Nat → Nat) (n : Nat) (σ : Nat → jcell) (a : Nat) (far c : Int) (q : rQ) : Prop := ∃ g, rRo K n σ a 88 21 103 20480 g ∧ (0 ≤ far → ∀ j : Int, 0 ≤ j → j < c → rLm q (g (2048 * far + j).toNat).toInt ∧ rGd (rMk q (g (2048 * far + j).toNat).toInt))
noncomputable def rCT (K : Nat → Nat) (n : Nat) (σ : Nat → jcell) (a : Nat) (far c : Int) : Prop := 0 ≤ far ∧ ∃ g, rRo K n σ a 88 22 104 10 g ∧ (g far.toNat).toInt = c
/-- squares that a man of a kind may at most come to, and how many moves -/
noncomputable def rSup (k s t : Int) : Bool := if k = 1 then (decide (-1 ≤ t % 8 - s % 8) && decide (t % 8 - s % 8 ≤ 1) && (decide (t / 8 - s / 8 = 1) || decide (t / 8 - s / 8 = -1))) || (decide (t % 8 = s % 8) && (decide (t / 8 - s / 8 = 2) || decide (t / 8 - s / 8 = -2))) else if k = 2 then decide ((t % 8 - s % 8) * (t % 8 - s % 8) + (t / 8 - s / 8) * (t / 8 - s / 8) = 5) else if k = 6 then (decide (1 ≤ (t % 8 - s % 8) * (t % 8 - s % 8) + (t / 8 - s / 8) * (t / 8 - s / 8)) && decide ((t % 8 - s % 8) * (t % 8 - s % 8) + (t / 8 - s / 8) * (t / 8 - s / 8) ≤ 2)) || decide (t = s + 2) || decide (t = s - 2) else (decide (k = 3 ∨ k = 5) && decide (¬ t = s) && (decide (t % 8 - s % 8 = t / 8 - s / 8) || decide (t % 8 - s % 8 = -(t / 8 - s / 8)))) || (decide (k = 4 ∨ k = 5) && decide (¬ t = s) && (decide (t % 8 = s % 8) || decide (t / 8 = s / 8)))
noncomputable def rWt (k s t : Int) : Int := if rSup k s t then (if k = 1 ∧ (t < 8 ∨ 55 < t) then 4 else 1) else 0
noncomputable def rSm (k s : Int) : Nat → Int
  | 0 => 0
  | t + 1 => rSm k s t + rWt k s t
theorem rWt_0 {k s t : Int} : 0 ≤ rWt k s t := by
  unfold rWt
  split
  · split <;> omega
  · omega
theorem rSm_mo {k s : Int} : ∀ {t d : Nat}, rSm k s t ≤ rSm k s (t + d)
  | t, 0 => Int.le_refl _
  | t, d + 1 => by
    have h := rSm_mo (k := k) (s := s) (t := t) (d := d)
    have h2 := rWt_0 (k := k) (s := s) (t := ((t + d : Nat) : Int))
    show rSm k s t ≤ rSm k s (t + d) + rWt k s ((t + d : Nat) : Int)
    omega
theorem rSm_b0 : ∀ (k : Fin 8) (s : Fin 64), rSm (k.val : Int) (s.val : Int) 64 ≤ 31 := by decide +kernel
theorem rSm_b {k s : Int} {t : Nat} (h0 : 0 ≤ k) (h1 : k ≤ 7) (h2 : 0 ≤ s) (h3 : s ≤ 63) (h4 : t ≤ 64) : rSm k s t ≤ 31 := by
  have h := rSm_b0 ⟨k.toNat, by omega⟩ ⟨s.toNat, by omega⟩
  dsimp only at h
  rw [show ((k.toNat : Nat) : Int) = k by omega, show ((s.toNat : Nat) : Int) = s by omega] at h
  have h5 := rSm_mo (k := k) (s := s) (t := t) (d := 64 - t)
  rw [show t + (64 - t) = 64 by omega] at h5
  omega
noncomputable def rLs (q : rQ) (f t : Int) : Prop := q.1 f % 8 = 1 ∧ (t < 8 ∨ 55 < t)
noncomputable def rNo (q : rQ) (f t b : Int) : Prop := ∀ m, rLm q m → rGd (rMk q m) → ¬ (rFr m < f ∨ (rFr m = f ∧ (rTo m < t ∨ (rTo m = t ∧ rBc m < b))))
noncomputable def rCB (q : rQ) (f t n : Int) : Prop := n ≤ 31 * f + rSm (q.1 f % 8) f t.toNat ∧ (n = 0 → rNo q f t 0)
noncomputable def rCJ (q : rQ) (f t b n : Int) : Prop := (0 ≤ q.2.1 ∧ q.2.1 ≤ 1) ∧ rOwn q f ∧ ¬ rOwn q t ∧ rGO q f t ∧ ((rLs q f t ∧ n ≤ 31 * f + rSm (q.1 f % 8) f t.toNat + (b - 2)) ∨ (¬ rLs q f t ∧ b ≤ 1 ∧ n ≤ 31 * f + rSm (q.1 f % 8) f t.toNat + b)) ∧ (n = 0 → rNo q f t b)
end
section
/-! lemmas of the reference's positions -/
theorem rSp_b {s t f r : Int} (h0 : 0 ≤ s) (h1 : s ≤ 63) (e : t = rSp s f r) (h2 : 0 ≤ t) : rSp t (-f) (-r) = s ∧ t ≤ 63 := by
  unfold rSp at e ⊢
  split at e
  · rw [if_pos (by omega)]
    omega
  · omega
theorem rWn_b {M : Int → Int} {f r u m : Int} : ∀ {k : Nat} {s t : Int}, rWn M f r k t u → t = rSp s f r → 0 ≤ s → s ≤ 63 → rGf M (-f) (-r) s m → rGf M (-f) (-r) (rSp u (-f) (-r)) m
  | 0, _, _, h, _, _, _, _ => h.elim
  | k + 1, s, t, h, e, h0, h1, hg => by
    obtain ⟨h2, h3⟩ := h
    have h4 := rSp_b h0 h1 e h2
    rcases h3 with rfl | ⟨h5, h6⟩
    · rw [h4.1]; exact hg
    · exact rWn_b h6 rfl h2 h4.2 (rGf_n h2 h5 (by rw [h4.1]; exact hg))
theorem rSq2 {f r : Int} (h1 : -2 ≤ f) (h2 : f ≤ 2) (h3 : -2 ≤ r) (h4 : r ≤ 2) (h : f * f + r * r ≤ 2) : -1 ≤ f ∧ f ≤ 1 ∧ -1 ≤ r ∧ r ≤ 1 := by
  have hf : f = -2 ∨ f = -1 ∨ f = 0 ∨ f = 1 ∨ f = 2 := by omega
  have hr : r = -2 ∨ r = -1 ∨ r = 0 ∨ r = 1 ∨ r = 2 := by omega
  rcases hf with rfl | rfl | rfl | rfl | rfl <;> rcases hr with rfl | rfl | rfl | rfl | rfl <;> omega
/-- a goal that takes a man attacks it -/
theorem rGO_at {q : rQ} {s u : Int} (hg : rGO q s u) (ho : rOwn q s) (hd : 0 ≤ q.2.1 ∧ q.2.1 ≤ 1) (hv : rVal q.1) (h0 : 0 ≤ s) (h1 : s ≤ 63) (h2 : 0 ≤ u) (h3 : u ≤ 63) (hm : ¬ q.1 u = 0) (hp : ¬ u = q.2.2.2) : rAk q.1 u q.2.1 := by
  obtain ⟨ho1, ho2⟩ := ho
  rcases hg with ⟨hk, hg⟩ | ⟨hk, hg⟩
  · rcases hg with hg | ⟨f, hf, hu, e, ht⟩
    · obtain ⟨-, g2, g3⟩ := hg
      rcases g3 with g3 | ⟨-, -, g3⟩
      · rw [← g3] at g2; exact absurd g2 hm
      · exact absurd g3 hm
    · have h4 := (rSp_b h0 h1 e hu).1
      have hx : ∀ g, g = -f → rP1 q.1 u q.2.1 g := fun g hg => by
        unfold rP1
        rw [hg, show 2 * q.2.1 - 1 = -(rUpw q) by unfold rUpw; omega, h4]
        exact ⟨h0, by omega⟩
      rcases hf with hf | hf
      · exact Or.inr (Or.inl (hx 1 (by omega)))
      · exact Or.inl (hx (-1) (by omega))
  · rcases hg with ⟨f, r, f1, f2, r1, r2, hg⟩ | ⟨hk6, hs, hc⟩
    · rcases hg with ⟨hg, -, e⟩ | ⟨hg, k, hw⟩
      · have h4 := (rSp_b h0 h1 e h2).1
        refine Or.inr (Or.inr ⟨-f, -r, by omega, by omega, by omega, by omega, ?_⟩)
        unfold rA1
        rw [Int.neg_mul_neg, Int.neg_mul_neg, h4]
        rcases hg with ⟨g1, g2⟩ | ⟨g1, g2, g3⟩
        · exact Or.inl ⟨g2, h0, by omega⟩
        · exact Or.inr ⟨g2, g3, Or.inl ⟨h0, by omega⟩⟩
      · have h4 := rWn_b (m := q.1 s) hw rfl h0 h1 (rGf_s h0 rfl ho1)
        refine Or.inr (Or.inr ⟨-f, -r, by omega, by omega, by omega, by omega, ?_⟩)
        unfold rA1
        rw [Int.neg_mul_neg, Int.neg_mul_neg]
        refine Or.inr ⟨by omega, by omega, Or.inr ⟨q.1 s, h4, ?_⟩⟩
        omega
    · exfalso
      rcases hc with ⟨hc, e⟩ | ⟨hc, e⟩
      · have := hc.2.1 u (by rw [if_pos rfl]; omega) (by rw [if_pos rfl]; omega)
        exact hm this
      · have := hc.2.1 u (by rw [if_neg (by decide)]; omega) (by rw [if_neg (by decide)]; omega)
        exact hm this
theorem rFr_r {m : Int} : 0 ≤ rFr m ∧ rFr m ≤ 63 := by unfold rFr; omega
theorem rTo_r {m : Int} : 0 ≤ rTo m ∧ rTo m ≤ 63 := by unfold rTo; omega
/-- a king's move of two squares is castling -/
theorem rLm_ca {q : rQ} {m : Int} (hd : 0 ≤ q.2.1 ∧ q.2.1 ≤ 1) (hl : rLm q m) (hc : rIsC q m) : rFr m = 56 * q.2.1 + 4 ∧ rBc m = 0 ∧ q.1 (rTo m) = 0 ∧ q.1 (rOv (rFr m) (rTo m)) = 0 ∧ (rTo m = rFr m + 2 ∨ rTo m = rFr m - 2) := by
  obtain ⟨-, -, -, -, hg, hb⟩ := hl
  obtain ⟨hk, ht⟩ := hc
  have hf := rFr_r (m := m)
  have htr := rTo_r (m := m)
  have hb0 : rBc m = 0 := by
    rcases hb with ⟨h, -⟩ | ⟨-, h⟩
    · omega
    · exact h
  rcases hg with ⟨h, -⟩ | ⟨-, ⟨f, r, f1, f2, r1, r2, hg⟩ | ⟨-, hs, hc⟩⟩
  · omega
  · exfalso
    rcases hg with ⟨hg, -, e⟩ | ⟨hg, -⟩
    · have h2 : f * f + r * r ≤ 2 := by
        rcases hg with ⟨h, -⟩ | ⟨-, -, h⟩
        · omega
        · exact h
      have h3 := rSq2 f1 f2 r1 r2 h2
      unfold rSp at e
      split at e <;> omega
    · omega
  · rcases hc with ⟨hc, e⟩ | ⟨hc, e⟩
    · refine ⟨hs, hb0, ?_, ?_, Or.inl e⟩
      · exact hc.2.1 _ (by rw [if_pos rfl]; omega) (by rw [if_pos rfl]; omega)
      · exact hc.2.1 _ (by rw [if_pos rfl]; unfold rOv; omega) (by rw [if_pos rfl]; unfold rOv; omega)
    · refine ⟨hs, hb0, ?_, ?_, Or.inr e⟩
      · exact hc.2.1 _ (by rw [if_neg (by decide)]; omega) (by rw [if_neg (by decide)]; omega)
      · exact hc.2.1 _ (by rw [if_neg (by decide)]; unfold rOv; omega) (by rw [if_neg (by decide)]; unfold rOv; omega)
/-- where a man is taken beside its goal, a pawn stands there, and the goal is empty -/
theorem rLm_ep {q : rQ} {m : Int} (hd : rGd q) (hl : rLm q m) (hw : ¬ rWh q m = rTo m) : q.1 (rFr m) = 8 * q.2.1 + 1 ∧ q.1 (rTo m) = 0 ∧ q.1 (rWh q m) = 8 * (1 - q.2.1) + 1 ∧ rBc m = 0 ∧ ¬ rWh q m = rFr m := by
  obtain ⟨d0, d1, hv, -, hp, -⟩ := hd
  obtain ⟨-, -, ⟨o1, o2⟩, -, hg, hb⟩ := hl
  have hf := rFr_r (m := m)
  have ht := rTo_r (m := m)
  unfold rWh at hw ⊢
  split at hw
  next c =>
    obtain ⟨c1, c2⟩ := c
    rw [if_pos ⟨c1, c2⟩]
    rcases hp with hp | ⟨p0, p1, p2, p3⟩
    · omega
    rw [← c2] at p0 p1 p2 p3
    have hrk : (q.2.1 = 0 ∧ rFr m / 8 = 4) ∨ (q.2.1 = 1 ∧ rFr m / 8 = 3) := by
      rcases hg with ⟨-, hg⟩ | ⟨hg, -⟩
      · rcases hg with ⟨g1, g2, g3⟩ | ⟨f, g1, g2, g3, -⟩
        · unfold rUpw at g1 g2 g3
          rcases g3 with g3 | ⟨g3, g4, -⟩
          · unfold rSp at g3
            split at g3 <;> omega
          · unfold rSp at g4
            split at g4
            · split at g4 <;> omega
            · split at g4 <;> omega
        · unfold rSp rUpw at g3
          split at g3 <;> omega
      · exact absurd c1 hg
    have hwv : q.1 (8 * (rFr m / 8) + rTo m % 8) = 8 * (1 - q.2.1) + 1 := by
      rcases p3 with ⟨p3, p4, p5⟩ | ⟨p3, p4, p5⟩
      · rw [show 8 * (rFr m / 8) + rTo m % 8 = rTo m - 8 by omega, p5]; omega
      · rw [show 8 * (rFr m / 8) + rTo m % 8 = rTo m + 8 by omega, p5]; omega
    refine ⟨by omega, p2, hwv, ?_, ?_⟩
    · rcases hb with ⟨-, h, -⟩ | ⟨-, h⟩
      · omega
      · exact h
    · intro e
      rw [e] at hwv
      omega
  next c => exact absurd rfl hw
/-- takeBack brings the men back -/
theorem rTb {q : rQ} {m : Int} (hd : rGd q) (hl : rLm q m) : rT3 q m = q.1 := by
  have hcas : rIsC q m → rT0c q m = rM3 q m := fun hc => by
    obtain ⟨h1, h2, h3, h4, h5⟩ := rLm_ca ⟨hd.1, hd.2.1⟩ hl hc
    have d0 := hd.1
    have d1 := hd.2.1
    have e1 : ¬ rCo (rFr m) (rTo m) = rOv (rFr m) (rTo m) := by unfold rCo rOv; split <;> omega
    have e2 : rM3 q m (rOv (rFr m) (rTo m)) = 0 := by
      have hw : rWh q m = rTo m := by
        unfold rWh
        rw [if_neg (fun h => by have := hc.1; omega)]
      unfold rM3 rM2 rM1
      rw [rUp_n (by unfold rOv; omega), rUp_n (by unfold rOv; omega), rUp_n (by rw [hw]; unfold rOv; omega)]
      exact h4
    funext i
    unfold rT0c
    by_cases c1 : i = rOv (rFr m) (rTo m)
    · rw [c1, rUp_s, e2]
    · rw [rUp_n c1]
      by_cases c2 : i = rCo (rFr m) (rTo m)
      · rw [c2, rUp_s]
        unfold rM4c
        rw [rUp_n (fun h => e1 h.symm), rUp_s]
      · rw [rUp_n c2]
        unfold rM4c
        rw [rUp_n c2, rUp_n c1]
  have h0 : rT0 q m = rM3 q m := by
    funext i
    unfold rT0
    by_cases hc : rIsC q m
    · rw [if_pos hc, hcas hc]
    · rw [if_neg hc]
      unfold rM4
      rw [if_neg hc]
  funext i
  unfold rT3 rT2 rT1
  by_cases c1 : i = rFr m
  · rw [c1, rUp_s]
  · rw [rUp_n c1]
    by_cases c2 : i = rWh q m
    · rw [c2, rUp_s]
    · rw [rUp_n c2]
      by_cases c3 : i = rTo m
      · rw [c3, rUp_s]
        rw [c3] at c2
        exact (rLm_ep hd hl (fun h => c2 h.symm)).2.1.symm
      · rw [rUp_n c3, h0]
        unfold rM3 rM2 rM1
        rw [rUp_n c3, rUp_n c1, rUp_n c2]
theorem rM4_c {q : rQ} {m : Int} (hc : rIsC q m) : rM4 q m = rM4c q m := by
  funext i
  unfold rM4
  rw [if_pos hc]
theorem rM4_n {q : rQ} {m : Int} (hc : ¬ rIsC q m) : rM4 q m = rM3 q m := by
  funext i
  unfold rM4
  rw [if_neg hc]
theorem rVal_up {M : Int → Int} {s v : Int} (h : rVal M) (hv : v = 0 ∨ (0 ≤ s ∧ s ≤ 63 ∧ ((1 ≤ v ∧ v ≤ 6) ∨ (9 ≤ v ∧ v ≤ 14)))) : rVal (rUp M s v) := by
  intro i
  by_cases c : i = s
  · rw [c, rUp_s]; exact hv
  · rw [rUp_n c]; exact h i
theorem rVal_3 {q : rQ} {m : Int} (hd : rGd q) (hl : rLm q m) : rVal (rM3 q m) := by
  obtain ⟨d0, d1, hv, -⟩ := hd
  have ht := rTo_r (m := m)
  unfold rM3 rM2 rM1
  refine rVal_up (rVal_up (rVal_up hv (Or.inl rfl)) (Or.inl rfl)) ?_
  split
  next c =>
    refine Or.inr ⟨ht.1, ht.2, ?_⟩
    rcases hl.2.2.2.2.2 with ⟨-, -, h1, h2⟩ | ⟨-, h⟩
    · omega
    · omega
  next c =>
    rcases hv (rFr m) with h | ⟨-, -, h⟩
    · exact Or.inl h
    · exact Or.inr ⟨ht.1, ht.2, h⟩
theorem rVal_4 {q : rQ} {m : Int} (hd : rGd q) (hl : rLm q m) : rVal (rM4 q m) := by
  have h3 := rVal_3 hd hl
  by_cases hc : rIsC q m
  · rw [rM4_c hc]
    obtain ⟨h1, h2, -, -, h5⟩ := rLm_ca ⟨hd.1, hd.2.1⟩ hl hc
    have d0 := hd.1
    have d1 := hd.2.1
    unfold rM4c
    refine rVal_up (rVal_up h3 ?_) (Or.inl rfl)
    rcases h3 (rCo (rFr m) (rTo m)) with h | ⟨-, -, h⟩
    · exact Or.inl h
    · exact Or.inr ⟨by unfold rOv; omega, by unfold rOv; omega, h⟩
  · rw [rM4_n hc]; exact h3
theorem rLm_fr {q : rQ} {m : Int} (hd : rGd q) (hl : rLm q m) : q.1 (rTo m) = 0 ∨ (q.1 (rTo m) / 8 = 1 - q.2.1 ∧ ¬ q.1 (rTo m) = 8 * (1 - q.2.1) + 6) := by
  obtain ⟨d0, d1, hv, -, hp, ha⟩ := hd
  obtain ⟨-, -, ho, hn, hg, -⟩ := hl
  have hf := rFr_r (m := m)
  have ht := rTo_r (m := m)
  by_cases c : q.1 (rTo m) = 0
  · exact Or.inl c
  · refine Or.inr ⟨?_, fun e => ?_⟩
    · have hn2 : ¬ q.1 (rTo m) / 8 = q.2.1 := fun e => hn ⟨c, e⟩
      rcases hv (rTo m) with h | ⟨-, -, h⟩
      · exact absurd h c
      · omega
    · have hne : ¬ rTo m = q.2.2.2 := by
        intro e2
        rcases hp with hp | ⟨-, -, hp, -⟩
        · omega
        · rw [← e2] at hp; exact c hp
      exact ha (rTo m) e (rGO_at hg ho ⟨d0, d1⟩ hv hf.1 hf.2 ht.1 ht.2 c hne)
theorem rM3_at {q : rQ} {m t : Int} : (t = rTo m ∧ rM3 q m t = (if 0 < rBc m then rBc m + 8 * q.2.1 else q.1 (rFr m))) ∨ (¬ t = rTo m ∧ (t = rFr m ∨ t = rWh q m) ∧ rM3 q m t = 0) ∨ (¬ t = rTo m ∧ ¬ t = rFr m ∧ ¬ t = rWh q m ∧ rM3 q m t = q.1 t) := by
  unfold rM3 rM2 rM1
  by_cases c1 : t = rTo m
  · refine Or.inl ⟨c1, ?_⟩
    rw [c1, rUp_s]
  · refine Or.inr ?_
    rw [rUp_n c1]
    by_cases c2 : t = rFr m
    · refine Or.inl ⟨c1, Or.inl c2, ?_⟩
      rw [c2, rUp_s]
    · rw [rUp_n c2]
      by_cases c3 : t = rWh q m
      · refine Or.inl ⟨c1, Or.inr c3, ?_⟩
        rw [c3, rUp_s]
      · refine Or.inr ⟨c1, c2, c3, ?_⟩
        rw [rUp_n c3]
theorem rKs_3 {q : rQ} {m : Int} (hd : rGd q) (hl : rLm q m) : rKs (rM3 q m) := by
  intro b hb0 hb1
  obtain ⟨s0, s1, s2, s3, s4⟩ := hd.2.2.2.1 b hb0 hb1
  have d0 := hd.1
  have d1 := hd.2.1
  have ho := hl.2.2.1
  obtain ⟨o1, o2⟩ := ho
  have hbc : 0 < rBc m → 2 ≤ rBc m ∧ rBc m ≤ 5 ∧ q.1 (rFr m) % 8 = 1 := fun h => by
    rcases hl.2.2.2.2.2 with ⟨h1, -, h2, h3⟩ | ⟨-, h4⟩
    · exact ⟨h2, h3, h1⟩
    · omega
  by_cases c : q.1 (rFr m) = 8 * b + 6
  · have e0 : rFr m = s0 := s4 _ c
    refine ⟨rTo m, rTo_r.1, rTo_r.2, ?_, fun t ht => ?_⟩
    · rcases rM3_at (q := q) (m := m) (t := rTo m) with ⟨-, h⟩ | ⟨h, -⟩ | ⟨h, -⟩
      · rw [h, if_neg (fun h2 => by have := hbc h2; omega)]
        exact c
      · exact absurd rfl h
      · exact absurd rfl h
    · rcases rM3_at (q := q) (m := m) (t := t) with ⟨h, -⟩ | ⟨-, -, h⟩ | ⟨-, h2, -, h⟩
      · exact h
      · omega
      · rw [h] at ht
        exact absurd ((s4 t ht).trans e0.symm) h2
  · have n1 : ¬ s0 = rFr m := fun e => c (by rw [← e]; exact s3)
    have n2 : ¬ s0 = rTo m := fun e => by
      rw [e] at s3
      rcases rLm_fr hd hl with h | ⟨h, h2⟩
      · omega
      · have hb : b = 1 - q.2.1 := by omega
        rw [hb] at s3
        exact h2 s3
    have n3 : ¬ s0 = rWh q m := fun e => by
      by_cases cw : rWh q m = rTo m
      · exact n2 (by rw [e, cw])
      · have := (rLm_ep hd hl cw).2.2.1
        rw [← e, s3] at this
        omega
    refine ⟨s0, s1, s2, ?_, fun t ht => ?_⟩
    · rcases rM3_at (q := q) (m := m) (t := s0) with ⟨h, -⟩ | ⟨-, h, -⟩ | ⟨-, -, -, h⟩
      · exact absurd h n2
      · rcases h with h | h
        · exact absurd h n1
        · exact absurd h n3
      · rw [h]; exact s3
    · rcases rM3_at (q := q) (m := m) (t := t) with ⟨-, h⟩ | ⟨-, -, h⟩ | ⟨-, -, -, h⟩
      · rw [h] at ht
        split at ht
        next h2 => have := hbc h2; omega
        next => exact absurd ht c
      · omega
      · rw [h] at ht
        exact s4 t ht
theorem rKs_4 {q : rQ} {m : Int} (hd : rGd q) (hl : rLm q m) : rKs (rM4 q m) := by
  have h3 := rKs_3 hd hl
  by_cases hc : rIsC q m
  · rw [rM4_c hc]
    obtain ⟨h1, h2, h6, h4, h5⟩ := rLm_ca ⟨hd.1, hd.2.1⟩ hl hc
    have d0 := hd.1
    have d1 := hd.2.1
    have hw : rWh q m = rTo m := by
      unfold rWh
      rw [if_neg (fun h => by have := hc.1; omega)]
    have e1 : ¬ rCo (rFr m) (rTo m) = rOv (rFr m) (rTo m) := by unfold rCo rOv; split <;> omega
    have e2 : rM3 q m (rOv (rFr m) (rTo m)) = 0 := by
      unfold rM3 rM2 rM1
      rw [rUp_n (by unfold rOv; omega), rUp_n (by unfold rOv; omega), rUp_n (by rw [hw]; unfold rOv; omega)]
      exact h4
    intro b hb0 hb1
    obtain ⟨s0, s1, s2, s3, s4⟩ := h3 b hb0 hb1
    by_cases c : s0 = rCo (rFr m) (rTo m)
    · refine ⟨rOv (rFr m) (rTo m), by unfold rOv; omega, by unfold rOv; omega, ?_, fun t ht => ?_⟩
      · unfold rM4c
        rw [rUp_n (fun h => e1 h.symm), rUp_s, ← c]
        exact s3
      · unfold rM4c at ht
        by_cases c1 : t = rCo (rFr m) (rTo m)
        · rw [c1, rUp_s] at ht; omega
        · rw [rUp_n c1] at ht
          by_cases c2 : t = rOv (rFr m) (rTo m)
          · exact c2
          · rw [rUp_n c2] at ht
            exact absurd ((s4 t ht).trans c) c1
    · have n1 : ¬ s0 = rOv (rFr m) (rTo m) := fun e => by rw [e, e2] at s3; omega
      refine ⟨s0, s1, s2, ?_, fun t ht => ?_⟩
      · unfold rM4c
        rw [rUp_n c, rUp_n n1]
        exact s3
      · unfold rM4c at ht
        by_cases c1 : t = rCo (rFr m) (rTo m)
        · rw [c1, rUp_s] at ht; omega
        · rw [rUp_n c1] at ht
          by_cases c2 : t = rOv (rFr m) (rTo m)
          · rw [c2, rUp_s] at ht
            exact absurd (s4 _ ht).symm c
          · rw [rUp_n c2] at ht
            exact s4 t ht
  · rw [rM4_n hc]; exact h3
/-- a pawn's step of two squares -/
theorem rLm_two {q : rQ} {m : Int} (d0 : 0 ≤ q.2.1) (d1 : q.2.1 ≤ 1) (hl : rLm q m) (ht : rTwo q m) : ((q.2.1 = 0 ∧ rFr m / 8 = 1 ∧ rTo m = rFr m + 16 ∧ q.1 (rFr m + 8) = 0) ∨ (q.2.1 = 1 ∧ rFr m / 8 = 6 ∧ rTo m = rFr m - 16 ∧ q.1 (rFr m - 8) = 0)) ∧ q.1 (rFr m) = 8 * q.2.1 + 1 ∧ rBc m = 0 := by
  obtain ⟨-, -, ⟨o1, o2⟩, -, hg, hb⟩ := hl
  obtain ⟨hk, ht⟩ := ht
  have hf := rFr_r (m := m)
  have htr := rTo_r (m := m)
  have key : (q.2.1 = 0 ∧ rFr m / 8 = 1 ∧ rTo m = rFr m + 16 ∧ q.1 (rFr m + 8) = 0) ∨ (q.2.1 = 1 ∧ rFr m / 8 = 6 ∧ rTo m = rFr m - 16 ∧ q.1 (rFr m - 8) = 0) := by
    rcases hg with ⟨-, hg⟩ | ⟨hg, -⟩
    · rcases hg with ⟨g1, g2, g3⟩ | ⟨f, g1, -, g3, -⟩
      · unfold rUpw at g1 g2 g3
        have e : rSp (rFr m) 0 (1 - 2 * q.2.1) = rFr m + 8 * (1 - 2 * q.2.1) := by
          unfold rSp at g1 ⊢
          split at g1
          next c => rw [if_pos c]; omega
          next => omega
        rw [e] at g1 g2 g3
        rcases g3 with g3 | ⟨g3, g4, -⟩
        · omega
        · have hs : q.2.1 = 0 ∨ q.2.1 = 1 := by omega
          rcases hs with hs | hs
          · rw [hs] at g2 g3 g4
            refine Or.inl ⟨hs, by omega, ?_, ?_⟩
            · unfold rSp at g4
              split at g4 <;> omega
            · rw [show rFr m + 8 * (1 - 2 * 0) = rFr m + 8 by omega] at g2; exact g2
          · rw [hs] at g2 g3 g4
            refine Or.inr ⟨hs, by omega, ?_, ?_⟩
            · unfold rSp at g4
              split at g4 <;> omega
            · rw [show rFr m + 8 * (1 - 2 * 1) = rFr m - 8 by omega] at g2; exact g2
      · exfalso
        unfold rSp rUpw at g3
        split at g3 <;> omega
    · exact absurd hk hg
  refine ⟨key, by omega, ?_⟩
  rcases hb with ⟨-, h, -⟩ | ⟨-, h⟩
  · omega
  · exact h
theorem rPs_4 {q : rQ} {m : Int} (hd : rGd q) (hl : rLm q m) : rPs (rMk q m) := by
  show rNp q m = -1 ∨ (0 ≤ rNp q m ∧ rNp q m ≤ 63 ∧ rM4 q m (rNp q m) = 0 ∧ ((1 - q.2.1 = 0 ∧ rNp q m / 8 = 5 ∧ rM4 q m (rNp q m - 8) = 9) ∨ (1 - q.2.1 = 1 ∧ rNp q m / 8 = 2 ∧ rM4 q m (rNp q m + 8) = 1)))
  by_cases hp : rPa q m
  · have e : rNp q m = (rFr m + rTo m) / 2 := by
      unfold rNp
      rw [if_pos hp]
    obtain ⟨hk, hm, hb⟩ := rLm_two hd.1 hd.2.1 hl hp.1
    have hf := rFr_r (m := m)
    have ht := rTo_r (m := m)
    have hc : ¬ rIsC q m := fun h => by have h1 := h.1; have h2 := hp.1.1; omega
    rw [rM4_n hc, e]
    have h1 : rM3 q m ((rFr m + rTo m) / 2) = q.1 ((rFr m + rTo m) / 2) := by
      rcases rM3_at (q := q) (m := m) (t := (rFr m + rTo m) / 2) with ⟨h, -⟩ | ⟨-, h, -⟩ | ⟨-, -, -, h⟩
      · omega
      · rcases h with h | h
        · omega
        · unfold rWh at h
          split at h <;> omega
      · exact h
    have h2 : rM3 q m (rTo m) = 8 * q.2.1 + 1 := by
      rcases rM3_at (q := q) (m := m) (t := rTo m) with ⟨-, h⟩ | ⟨h, -⟩ | ⟨h, -⟩
      · rw [h, if_neg (by omega)]; exact hm
      · exact absurd rfl h
      · exact absurd rfl h
    refine Or.inr ⟨by omega, by omega, ?_, ?_⟩
    · rw [h1]
      rcases hk with ⟨-, -, k3, k4⟩ | ⟨-, -, k3, k4⟩
      · rw [show (rFr m + rTo m) / 2 = rFr m + 8 by omega]; exact k4
      · rw [show (rFr m + rTo m) / 2 = rFr m - 8 by omega]; exact k4
    · rcases hk with ⟨k1, k2, k3, k4⟩ | ⟨k1, k2, k3, k4⟩
      · refine Or.inr ⟨by omega, by omega, ?_⟩
        rw [show (rFr m + rTo m) / 2 + 8 = rTo m by omega, h2]
        omega
      · refine Or.inl ⟨by omega, by omega, ?_⟩
        rw [show (rFr m + rTo m) / 2 - 8 = rTo m by omega, h2]
        omega
  · refine Or.inl ?_
    unfold rNp
    rw [if_neg hp]
/-- a move may be made: what is left to look at is the mover's king -/
theorem rMk_gd {q : rQ} {m : Int} (hd : rGd q) (hl : rLm q m) : rGd (rMk q m) ↔ ∀ s, rM4 q m s = 8 * q.2.1 + 6 → ¬ rAk (rM4 q m) s (1 - q.2.1) := by
  have d0 := hd.1
  have d1 := hd.2.1
  constructor
  · intro h s hs
    exact h.2.2.2.2.2 s (show rM4 q m s = 8 * (1 - (1 - q.2.1)) + 6 by omega)
  · intro h
    refine ⟨show 0 ≤ 1 - q.2.1 by omega, show 1 - q.2.1 ≤ 1 by omega, rVal_4 hd hl, rKs_4 hd hl, rPs_4 hd hl, fun s hs => ?_⟩
    have hs : rM4 q m s = 8 * (1 - (1 - q.2.1)) + 6 := hs
    exact h s (by omega)
end
section
/-! more of bits and rows -/
theorem rAnd560 : ∀ (m : Fin 64), (Int32.ofNat m.val &&& 56).toInt = 8 * ((m.val : Int) / 8) := by decide +kernel
theorem rAnd56 {x y c : Int32} (e : c = x &&& y) (hy : y.toInt = 56) (h0 : 0 ≤ x.toInt) (h1 : x.toInt ≤ 63) : c.toInt = 8 * (x.toInt / 8) := by
  have ey : y = 56 := Int32.toInt_inj.mp (by rw [hy]; rfl)
  have h := rAnd560 ⟨x.toInt.toNat, by omega⟩
  dsimp only at h
  rw [← rOf h0] at h
  rw [e, ey, h]
  omega
theorem rShn : ∀ (t : Fin 64), (((Int32.ofNat t.val).toInt64 &&& 63).toBitVec.smod 64).toNat = t.val := by decide +kernel
theorem rOfi {t : Int} (h0 : 0 ≤ t) (h1 : t ≤ 63) : Int32.ofInt t = Int32.ofNat t.toNat := by
  have h : t = ((t.toNat : Nat) : Int) := by omega
  rw [h]
  exact Int32.ofInt_eq_ofNat
theorem rShb {L L2 : Int64} {t : Int} (e : L2 = L >>> ((Int32.ofInt t).toInt64 &&& 63)) (h0 : 0 ≤ t) (h1 : t ≤ 63) {i : Int} (h2 : 0 ≤ i) (h3 : t + i ≤ 63) : rBt L2 i ↔ rBt L (t + i) := by
  have hs := rShn ⟨t.toNat, by omega⟩
  dsimp only at hs
  unfold rBt
  rw [e, rOfi h0 h1, Int64.toBitVec_shiftRight, BitVec.sshiftRight_eq', hs, BitVec.getLsbD_sshiftRight, if_pos (by omega), show t.toNat + i.toNat = (t + i).toNat by omega, show (!decide (64 ≤ i.toNat)) = true by rw [decide_eq_false (by omega)]; rfl, Bool.true_and]
theorem rAnd1 {A B C : Int64} (e : C = A &&& B) (hB : B.toInt = 1) : C.toInt = 1 ↔ rBt A 0 := by
  have eB : B = 1 := Int64.toInt_inj.mp (by rw [hB]; rfl)
  subst eB
  have h1 : ((1 : Int64).toBitVec.getLsbD 0) = true := rfl
  unfold rBt
  constructor
  · intro h
    have hC : C = 1 := Int64.toInt_inj.mp (by rw [h]; rfl)
    have h2 : C.toBitVec.getLsbD 0 = true := by rw [hC]; rfl
    rw [e, Int64.toBitVec_and, BitVec.getLsbD_and, Bool.and_eq_true] at h2
    exact h2.1
  · intro h
    have hC : C = 1 := by
      apply Int64.toBitVec_inj.mp
      apply BitVec.eq_of_getLsbD_eq
      intro i hi
      rw [e, Int64.toBitVec_and, BitVec.getLsbD_and]
      cases i with
      | zero => rw [show A.toBitVec.getLsbD 0 = true from h]; rfl
      | succ i =>
        have h3 : (1 : Int64).toBitVec.getLsbD (i + 1) = false := by
          rw [show (1 : Int64).toBitVec = 1#64 from rfl, BitVec.getLsbD_one]
          simp
        rw [h3, Bool.and_false]
    rw [hC]; rfl
theorem rRo_ex {ko f kr len : Nat} {K : Nat → Nat} {n : Nat} {σ : Nat → jcell} (hH : aH fa_T K n σ) {a c : Nat} {ts : List aT} {iv : Int × Int} {el : List (Nat × Nat × Int × Int × Int)} (t1 : fa_T[ko]? = some (.inr (c, ts))) (t2 : ts[f]? = some (.inr (some (.inl (false, kr))))) (t3 : fa_T[kr]? = some (.inl (.int, len, iv, el))) (h9 : ¬ kr = 99999) (ha : a < n) (hk : K a = ko) : ∃ g, rRo K n σ a ko f kr len g := by
  have h1 := hH a ha _ (by rw [hk]; exact t1)
  match e : σ a, h1 with
  | .inr (c', fs), h1 =>
    obtain ⟨-, hl, h2⟩ := h1
    have hf : f < fs.length := by rw [hl]; exact (List.getElem?_eq_some_iff.mp t2).1
    obtain ⟨r, e2, h3, h4⟩ := rG_ref h9 (h2 f _ _ t2 (List.getElem?_eq_getElem hf))
    have h5 := hH r h3 _ (by rw [h4]; exact t3)
    obtain ⟨g, e3, -⟩ := aCe_arr h5 (show ¬ FieldType.int = FieldType.long by decide)
    exact ⟨g, r, ⟨ha, hk, c', fs, e, by rw [List.getElem?_eq_getElem hf, e2]⟩, h3, h4, e3⟩
  | .inl x, h1 => exact h1.elim
theorem rFr_m {f t : Int} (h0 : 0 ≤ f) (h1 : f ≤ 63) (h2 : 0 ≤ t) (h3 : t ≤ 63) : rFr (f + 64 * t) = f ∧ rTo (f + 64 * t) = t ∧ rBc (f + 64 * t) = 0 := by
  unfold rFr rTo rBc
  omega
theorem rMv {m f t b : Int} (h0 : 0 ≤ f) (h1 : f ≤ 63) (h2 : 0 ≤ t) (h3 : t ≤ 63) (e : m = f + 64 * t + 4096 * b) : rFr m = f ∧ rTo m = t ∧ rBc m = b := by
  unfold rFr rTo rBc
  omega
theorem rNo_x {q : rQ} {f t : Int} (h : rNo q f t 0) (hx : ∀ m, rLm q m → rFr m = f → rTo m = t → False) : rNo q f (t + 1) 0 := by
  intro m h1 h2 h3
  have h4 : 0 ≤ rBc m := by
    have := h1.1
    unfold rBc
    omega
  rcases h3 with h3 | ⟨h3, h5 | ⟨h5, h6⟩⟩
  · exact h m h1 h2 (Or.inl h3)
  · by_cases c : rTo m = t
    · exact hx m h1 h3 c
    · exact h m h1 h2 (Or.inr ⟨h3, Or.inl (by omega)⟩)
  · omega
theorem rNo_e {q : rQ} {f t : Int} (h : rNo q f t 0) (hx : ∀ m, rLm q m → rFr m = f → t ≤ rTo m → False) : rNo q (f + 1) 0 0 := by
  intro m h1 h2 h3
  have h4 : 0 ≤ rBc m := by
    have := h1.1
    unfold rBc
    omega
  have h5 := rTo_r (m := m)
  rcases h3 with h3 | ⟨h3, h6 | ⟨h6, h7⟩⟩
  · by_cases c : rFr m = f
    · by_cases c2 : t ≤ rTo m
      · exact hx m h1 c c2
      · exact h m h1 h2 (Or.inr ⟨c, Or.inl (by omega)⟩)
    · exact h m h1 h2 (Or.inl (by omega))
  · omega
  · omega
theorem rSm_s {k s t : Int} (h : 0 ≤ t) : rSm k s (t + 1).toNat = rSm k s t.toNat + rWt k s t := by
  rw [show (t + 1).toNat = t.toNat + 1 by omega]
  show rSm k s t.toNat + rWt k s ((t.toNat : Nat) : Int) = _
  rw [show ((t.toNat : Nat) : Int) = t by omega]
/-- goals stay within the squares counted -/
theorem rWf_ln {M : Int → Int} {f r u : Int} : ∀ {k : Nat} {s t : Int}, rWn M f r k t u → t = rSp s f r → 0 ≤ s → s ≤ 63 → ∃ j : Int, 1 ≤ j ∧ u % 8 = s % 8 + j * f ∧ u / 8 = s / 8 + j * r ∧ 0 ≤ u ∧ u ≤ 63 := by
  intro k
  induction k with
  | zero => intro s t h; exact h.elim
  | succ k ih =>
    intro s t h e h0 h1
    obtain ⟨h2, h3⟩ := h
    have h4 := rSp_b h0 h1 e h2
    have h5 : t % 8 = s % 8 + f ∧ t / 8 = s / 8 + r := by
      unfold rSp at e
      split at e <;> omega
    rcases h3 with rfl | ⟨-, h6⟩
    · exact ⟨1, by omega, by omega, by omega, h2, h4.2⟩
    · obtain ⟨j, j1, j3, j4, j5, j6⟩ := ih h6 rfl h2 h4.2
      have ef : (j + 1) * f = j * f + f := by rw [Int.add_mul, Int.one_mul]
      have er : (j + 1) * r = j * r + r := by rw [Int.add_mul, Int.one_mul]
      exact ⟨j + 1, by omega, by omega, by omega, j5, j6⟩
theorem rSup_s {k s t f r : Int} (h : k = 3 ∨ k = 4 ∨ k = 5) (hf : -2 ≤ f ∧ f ≤ 2) (hr : -2 ≤ r ∧ r ≤ 2) (hk : (k = 4 ∧ f * f + r * r = 1) ∨ (k = 3 ∧ f * f + r * r = 2) ∨ (k = 5 ∧ 1 ≤ f * f + r * r ∧ f * f + r * r ≤ 2)) {j : Int} (j1 : 1 ≤ j) (e1 : t % 8 = s % 8 + j * f) (e2 : t / 8 = s / 8 + j * r) : rSup k s t = true := by
  have h2 : f * f + r * r ≤ 2 := by omega
  obtain ⟨f1, f2, r1, r2⟩ := rSq2 hf.1 hf.2 hr.1 hr.2 h2
  have hf : f = -1 ∨ f = 0 ∨ f = 1 := by omega
  have hr : r = -1 ∨ r = 0 ∨ r = 1 := by omega
  unfold rSup
  rw [if_neg (by omega), if_neg (by omega), if_neg (by omega)]
  simp only [Bool.or_eq_true, Bool.and_eq_true, decide_eq_true_iff]
  rcases hf with rfl | rfl | rfl <;> rcases hr with rfl | rfl | rfl <;> omega
theorem rGO_sup {q : rQ} {s u : Int} (hg : rGO q s u) (h0 : 0 ≤ s) (h1 : s ≤ 63) (hd : 0 ≤ q.2.1 ∧ q.2.1 ≤ 1) : rSup (q.1 s % 8) s u = true := by
  rcases hg with ⟨hk, hg⟩ | ⟨hk, hg⟩
  · unfold rSup
    rw [if_pos hk]
    simp only [Bool.or_eq_true, Bool.and_eq_true, decide_eq_true_iff]
    rcases hg with ⟨g1, g2, g3⟩ | ⟨f, g1, g2, g3, -⟩
    · have e : rSp s 0 (rUpw q) = s + 8 * rUpw q := by
        unfold rSp at g1 ⊢
        split at g1
        next c => rw [if_pos c]; omega
        next => omega
      rw [e] at g1 g3
      unfold rUpw at g1 g3
      rcases g3 with g3 | ⟨g3, g4, -⟩
      · unfold rSp at e
        unfold rUpw at e
        split at e <;> omega
      · unfold rSp at g4
        split at g4
        · omega
        · omega
    · unfold rSp rUpw at g3
      split at g3 <;> omega
  · rcases hg with ⟨f, r, f1, f2, r1, r2, hg⟩ | ⟨hk6, hs, hc⟩
    · rcases hg with ⟨hg, hu, e⟩ | ⟨hg, k, hw⟩
      · have e1 : u % 8 - s % 8 = f ∧ u / 8 - s / 8 = r := by
          unfold rSp at e
          split at e <;> omega
        unfold rSup
        rw [if_neg hk, e1.1, e1.2]
        rcases hg with ⟨g1, g2⟩ | ⟨g1, g2, g3⟩
        · rw [if_pos g1]
          exact decide_eq_true g2
        · rw [if_neg (by omega), if_pos g1]
          simp only [Bool.or_eq_true, Bool.and_eq_true, decide_eq_true_iff]
          exact Or.inl (Or.inl ⟨g2, g3⟩)
      · obtain ⟨j, j1, j2, j3, -⟩ := rWf_ln hw rfl h0 h1
        exact rSup_s (by omega) ⟨f1, f2⟩ ⟨r1, r2⟩ hg j1 j2 j3
    · unfold rSup
      rw [if_neg hk, if_neg (by omega), if_pos hk6]
      simp only [Bool.or_eq_true, Bool.and_eq_true, decide_eq_true_iff]
      rcases hc with ⟨-, hc⟩ | ⟨-, hc⟩
      · exact Or.inl (Or.inr hc)
      · exact Or.inr hc
theorem rSqn {x : Int} : 0 ≤ x * x := by
  rcases Int.le_total 0 x with h | h
  · exact Int.mul_nonneg h h
  · rw [← Int.neg_mul_neg]
    exact Int.mul_nonneg (by omega) (by omega)
end
section
/-! past positions, lists read again -/
noncomputable def rPaq (gM gS gP : Nat → Int32) (t : Int) : rQ := (fun i => if 0 ≤ i ∧ i ≤ 63 then (gM (64 * t + i).toNat).toInt else 0, (gS t.toNat).toInt, 0, (gP t.toNat).toInt)
noncomputable def rPG0 (K : Nat → Nat) (n : Nat) (σ : Nat → jcell) (a : Nat) (b : Int) : Prop := ∃ gM gS gP, rRo K n σ a 88 9 91 19520 gM ∧ rRo K n σ a 88 10 92 305 gS ∧ rRo K n σ a 88 12 94 305 gP ∧ ∀ t, 0 ≤ t → t < b → rPs (rPaq gM gS gP t)
noncomputable def rAS (K : Nat → Nat) (n : Nat) (σ : Nat → jcell) (a : Nat) (t i : Int) : Prop := ∃ gM gS M v, rRo K n σ a 88 9 91 19520 gM ∧ rRo K n σ a 88 10 92 305 gS ∧ rMe K n σ a M ∧ rOb K n σ a 88 3 (rI v) ∧ 0 ≤ t ∧ (gS t.toNat).toInt = v.toInt ∧ ∀ j, 0 ≤ j → j < i → j ≤ 63 → (gM (64 * t + j).toNat).toInt = M j
noncomputable def rEN (K : Nat → Nat) (n : Nat) (σ : Nat → jcell) (a : Nat) (t i : Int) (M : Int → Int) : Prop := ∃ gM, rRo K n σ a 88 9 91 19520 gM ∧ (0 ≤ t → ∀ j, 0 ≤ j → j < i → (gM (64 * t + j).toNat).toInt = M j)
noncomputable def rAP (K : Nat → Nat) (n : Nat) (σ : Nat → jcell) (a : Nat) (t : Int) (q : rQ) : Prop := ∃ gM gS, rRo K n σ a 88 9 91 19520 gM ∧ rRo K n σ a 88 10 92 305 gS ∧ 0 ≤ t ∧ (gS t.toNat).toInt = q.2.1 ∧ ∀ j, 0 ≤ j → j ≤ 63 → (gM (64 * t + j).toNat).toInt = q.1 j
theorem rPs_m {q q' : rQ} (h1 : ∀ j, 0 ≤ j → j ≤ 63 → q.1 j = q'.1 j) (h2 : q.2.1 = q'.2.1) (h3 : q.2.2.2 = q'.2.2.2) (h : rPs q) : rPs q' := by
  unfold rPs at h ⊢
  rw [← h2, ← h3]
  rcases h with h | ⟨p0, p1, p2, p3⟩
  · exact Or.inl h
  · refine Or.inr ⟨p0, p1, by rw [← h1 _ p0 p1]; exact p2, ?_⟩
    rcases p3 with ⟨p3, p4, p5⟩ | ⟨p3, p4, p5⟩
    · exact Or.inl ⟨p3, p4, by rw [← h1 _ (by omega) (by omega)]; exact p5⟩
    · exact Or.inr ⟨p3, p4, by rw [← h1 _ (by omega) (by omega)]; exact p5⟩
/-- a field of a Board is set: its men stay -/
theorem rOb_sf {K : Nat → Nat} {n : Nat} {σ : Nat → jcell} {a k f f' : Nat} {v w : jv} (h : rOb K n σ a k f v) (hn : ¬ f' = f) : rOb K n (jup σ a (jstf (σ a) f' w)) a k f v := by
  obtain ⟨h1, h2, c, fs, e1, e2⟩ := h
  refine ⟨h1, h2, c, fs.set f' w, by rw [jup_s, e1]; rfl, ?_⟩
  rw [List.getElem?_set_ne hn]
  exact e2
theorem rOb_ss {K : Nat → Nat} {n : Nat} {σ : Nat → jcell} {a k f : Nat} {v w : jv} (h : rOb K n σ a k f v) : rOb K n (jup σ a (jstf (σ a) f w)) a k f w := by
  obtain ⟨h1, h2, c, fs, e1, e2⟩ := h
  refine ⟨h1, h2, c, fs.set f w, by rw [jup_s, e1]; rfl, ?_⟩
  rw [List.getElem?_set_self (List.getElem?_eq_some_iff.mp e2).1]
theorem rRo_sf {K : Nat → Nat} {n : Nat} {σ : Nat → jcell} {a k f f' kr len : Nat} {w : jv} {g : Nat → Int32} (h : rRo K n σ a k f kr len g) (hn : ¬ f' = f) : rRo K n (jup σ a (jstf (σ a) f' w)) a k f kr len g := by
  obtain ⟨r, o, h1, h2, e⟩ := h
  refine ⟨r, rOb_sf o hn, h1, h2, ?_⟩
  have hab : ¬ r = a := by
    intro e2
    obtain ⟨-, -, c, fs, e1, -⟩ := o
    rw [e2, e1] at e
    cases e
  rw [jup_n hab]
  exact e
theorem rRX_p {K : Nat → Nat} {n : Nat} {σ : Nat → jcell} {a : Nat} {q : rQ} {x : Int32} (h : rRX K n σ a q) : rRX K n (jup σ a (jstf (σ a) 5 (rI x))) a (q.1, q.2.1, q.2.2.1, x.toInt) := by
  obtain ⟨⟨g, h1, e⟩, ⟨v1, o1, e1⟩, ⟨v2, o2, e2⟩, ⟨v3, o3, -⟩⟩ := h
  exact ⟨⟨g, rRo_sf h1 (by decide), e⟩, ⟨v1, rOb_sf o1 (by decide), e1⟩, ⟨v2, rOb_sf o2 (by decide), e2⟩, ⟨x, rOb_ss o3, rfl⟩⟩
end
section
/-! lines, help, signs, counts -/
noncomputable def rRw (K : Nat → Nat) (n : Nat) (σ : Nat → jcell) (a kr len : Nat) (g : Nat → Int32) : Prop := a < n ∧ K a = kr ∧ σ a = .inl (.int, len, .inl g)
theorem rRw_of {K : Nat → Nat} {n : Nat} {σ : Nat → jcell} (hH : aH fa_T K n σ) {a kr len : Nat} {iv : Int × Int} {el : List (Nat × Nat × Int × Int × Int)} (ha : a < n) (hk : K a = kr) (t3 : fa_T[kr]? = some (.inl (.int, len, iv, el))) : ∃ g, rRw K n σ a kr len g := by
  have h5 := hH a ha _ (by rw [hk]; exact t3)
  obtain ⟨g, e3, -⟩ := aCe_arr h5 (show ¬ FieldType.int = FieldType.long by decide)
  exact ⟨g, ha, hk, e3⟩
theorem rRw_c {K : Nat → Nat} {n : Nat} {σ : Nat → jcell} {a kr len m i : Nat} {ty : FieldType} {g g' : Nat → Int32} (h : rRw K n σ a kr len g') (e3 : σ a = .inl (ty, m, .inl g)) {v : Int32} (hv : v = g i) : g' i = v := by
  obtain ⟨-, -, e⟩ := h
  rw [e3] at e
  cases e
  rw [hv]
theorem rRw_u {K : Nat → Nat} {n : Nat} {σ : Nat → jcell} {a kr kr' len len' : Nat} {g g' : Nat → Int32} (h : rRw K n σ a kr len g) (h' : rRw K n σ a kr' len' g') : g = g' := by
  obtain ⟨-, -, e⟩ := h
  obtain ⟨-, -, e'⟩ := h'
  rw [e] at e'
  cases e'
  rfl
noncomputable def rLn (a : Nat) : rP → (Nat → Int32) → Nat → Nat → Prop
  | _, _, _, 0 => True
  | p, g, i, k + 1 => rLm p.1 (g i).toInt ∧ rGd (rSh rS1 p [rR a, rI (g i)]).1 ∧ rLn a (rSh rS1 p [rR a, rI (g i)]) g (i + 1) k
noncomputable def rHP (K : Nat → Nat) (n : Nat) (σ : Nat → jcell) (a : Nat) (k : Int) : Prop := ∃ g g', rRo K n σ a 88 33 107 4 g ∧ rRo K n σ a 88 34 108 4 g' ∧ ∀ j, 0 ≤ j → j < k → g j.toNat = g' j.toNat
/-- another row is stored into -/
theorem rOb_o {K : Nat → Nat} {n : Nat} {σ : Nat → jcell} {a k f b : Nat} {v : jv} {c : jcell} (h : rOb K n σ a k f v) (hb : ¬ K b = k) : rOb K n (jup σ b c) a k f v := by
  obtain ⟨h1, h2, c', fs, e1, e2⟩ := h
  refine ⟨h1, h2, c', fs, ?_, e2⟩
  rw [jup_n (fun e => hb (by rw [← e]; exact h2))]
  exact e1
theorem rRo_o {K : Nat → Nat} {n : Nat} {σ : Nat → jcell} {a k f kr len b : Nat} {g : Nat → Int32} {c : jcell} (h : rRo K n σ a k f kr len g) (hb : ¬ K b = k) (hb2 : ¬ K b = kr) : rRo K n (jup σ b c) a k f kr len g := by
  obtain ⟨r, o, h1, h2, e⟩ := h
  refine ⟨r, rOb_o o hb, h1, h2, ?_⟩
  rw [jup_n (fun e2 => hb2 (by rw [← e2]; exact h2))]
  exact e
theorem rOb_ex {K : Nat → Nat} {n : Nat} {σ : Nat → jcell} (hH : aH fa_T K n σ) {a k f c : Nat} {ts : List aT} (ha : a < n) (hk : K a = k) (t1 : fa_T[k]? = some (.inr (c, ts))) (hf : f < ts.length) : ∃ w, rOb K n σ a k f w := by
  have h1 := hH a ha _ (by rw [hk]; exact t1)
  match e : σ a, h1 with
  | .inr (c', fs), h1 =>
    obtain ⟨-, hl, -⟩ := h1
    exact ⟨_, ha, hk, c', fs, e, List.getElem?_eq_getElem (by rw [hl]; exact hf)⟩
  | .inl x, h1 => exact h1.elim
/-- the sign at a place of the Board's text -/
noncomputable def rTx (K : Nat → Nat) (n : Nat) (σ : Nat → jcell) (a : Nat) (g : Nat → Int32) : Prop := ∃ r, rOb K n σ a 88 1 (rR r) ∧ r < n ∧ K r = 89 ∧ σ r = .inl (.char, 65536, .inl g)
noncomputable def rSGN (K : Nat → Nat) (n : Nat) (σ : Nat → jcell) (a : Nat) (i v : Int) : Prop := ∃ g t, rTx K n σ a g ∧ rOb K n σ a 88 0 (rI t) ∧ v = (if i < t.toInt then (g i.toNat).toInt else 0)
theorem rTx_u {K : Nat → Nat} {n : Nat} {σ : Nat → jcell} {a : Nat} {g g' : Nat → Int32} (h : rTx K n σ a g) (h' : rTx K n σ a g') : g = g' := by
  obtain ⟨r, o, -, -, e⟩ := h
  obtain ⟨r', o', -, -, e'⟩ := h'
  cases rOb_u o o'
  rw [e] at e'
  cases e'
  rfl
theorem rTx_ex {K : Nat → Nat} {n : Nat} {σ : Nat → jcell} (hH : aH fa_T K n σ) {a : Nat} (ha : a < n) (hk : K a = 88) : ∃ g, rTx K n σ a g := by
  have h1 := hH a ha _ (by rw [hk]; exact (rfl : fa_T[88]? = _))
  match e : σ a, h1 with
  | .inr (c', fs), h1 =>
    obtain ⟨-, hl, h2⟩ := h1
    have hf : 1 < fs.length := by rw [hl]; decide
    obtain ⟨r, e2, h3, h4⟩ := rG_ref (k := 89) (by decide) (h2 1 _ _ rfl (List.getElem?_eq_getElem hf))
    have h5 := hH r h3 _ (by rw [h4]; exact (rfl : fa_T[89]? = _))
    obtain ⟨g, e3, -⟩ := aCe_arr h5 (show ¬ FieldType.char = FieldType.long by decide)
    exact ⟨g, r, ⟨ha, hk, c', fs, e, by rw [List.getElem?_eq_getElem hf, e2]⟩, h3, h4, e3⟩
  | .inl x, h1 => exact h1.elim
/-- how many of a man -/
noncomputable def rCnt (M : Int → Int) (m : Int) : Nat → Int
  | 0 => 0
  | i + 1 => rCnt M m i + (if M i = m then 1 else 0)
theorem rCnt_0 {M : Int → Int} {m : Int} : ∀ {i : Nat}, 0 ≤ rCnt M m i
  | 0 => Int.le_refl _
  | i + 1 => by
    have h := rCnt_0 (M := M) (m := m) (i := i)
    unfold rCnt
    split <;> omega
theorem rCnt_z {M : Int → Int} {m : Int} : ∀ {i : Nat}, rCnt M m i = 0 → ∀ j : Nat, j < i → ¬ M j = m
  | 0, _, j, h => by omega
  | i + 1, h, j, hj => by
    have h0 := rCnt_0 (M := M) (m := m) (i := i)
    unfold rCnt at h
    split at h
    next => omega
    next c =>
      by_cases e : j = i
      · rw [e]; exact c
      · exact rCnt_z (M := M) (m := m) (i := i) (by omega) j (by omega)
theorem rCnt_1 {M : Int → Int} {m : Int} : ∀ {i : Nat}, rCnt M m i = 1 → ∃ s : Nat, s < i ∧ M s = m ∧ ∀ j : Nat, j < i → M j = m → j = s
  | 0, h => by cases h
  | i + 1, h => by
    unfold rCnt at h
    split at h
    next c =>
      refine ⟨i, by omega, c, fun j hj hm => ?_⟩
      by_cases e : j = i
      · exact e
      · exact absurd hm (rCnt_z (M := M) (m := m) (i := i) (by omega) j (by omega))
    next c =>
      obtain ⟨s, h1, h2, h3⟩ := rCnt_1 (M := M) (m := m) (i := i) (by omega)
      refine ⟨s, by omega, h2, fun j hj hm => ?_⟩
      by_cases e : j = i
      · rw [e] at hm; exact absurd hm c
      · exact h3 j (by omega) hm
theorem rMn_z {ko f kr : Nat} {K : Nat → Nat} {n : Nat} {σ : Nat → jcell} {a : Nat} {M : Int → Int} (h : rMg ko f kr K n σ a M) {t : Int} (ht : ¬ M t = 0) : 0 ≤ t ∧ t ≤ 63 := by
  obtain ⟨g, -, rfl⟩ := h
  unfold rMn at ht
  split at ht
  next c => exact c
  next => exact absurd rfl ht
theorem rKs_of {ko f kr : Nat} {K : Nat → Nat} {n : Nat} {σ : Nat → jcell} {a : Nat} {M : Int → Int} (h : rMg ko f kr K n σ a M) (h6 : rCnt M 6 64 = 1) (h14 : rCnt M 14 64 = 1) : rKs M := by
  intro b hb0 hb1
  have hc : rCnt M (8 * b + 6) 64 = 1 := by
    have e : b = 0 ∨ b = 1 := by omega
    rcases e with rfl | rfl
    · exact h6
    · exact h14
  obtain ⟨s, s1, s2, s3⟩ := rCnt_1 hc
  refine ⟨s, by omega, by omega, s2, fun t ht => ?_⟩
  have h1 := rMn_z h (t := t) (by omega)
  have h2 := s3 t.toNat (by omega) (by rw [show ((t.toNat : Nat) : Int) = t by omega]; exact ht)
  omega
noncomputable def rPSW (K : Nat → Nat) (n : Nat) (σ : Nat → jcell) (a : Nat) : Prop := ∃ M v P, rMe K n σ a M ∧ rOb K n σ a 88 3 (rI v) ∧ rOb K n σ a 88 5 (rI P) ∧ rPs (M, v.toInt, 0, P.toInt)
noncomputable def rFO (K : Nat → Nat) (n : Nat) (σ : Nat → jcell) (a : Nat) : Prop := ∃ M v P, rMe K n σ a M ∧ rOb K n σ a 88 3 (rI v) ∧ rOb K n σ a 88 5 (rI P) ∧ rKs M ∧ rPs (M, v.toInt, 0, P.toInt) ∧ ∀ s, M s = 8 * (1 - v.toInt) + 6 → ¬ rAk M s v.toInt
end
section
/-! what the reference's facts look at -/
theorem rTak {ws : List jv} {j i : Nat} {v : jv} (h : (ws.take j)[i]? = some v) : ws[i]? = some v := by
  rw [List.getElem?_take] at h
  split at h
  · exact h
  · cases h
theorem rVa0 {vs : List jv} {c z : Int} (h : aVa vs ([], c) z) : z = c := by
  obtain ⟨w, e, rfl⟩ := h
  have e2 : 0 = w := Option.some.inj (show some 0 = some w from e)
  dsimp only
  omega
theorem rVa1 {vs : List jv} {i : Nat} {b c z : Int} {x : Int32} (h : aVa vs ([(i, b)], c) z) (hv : vs[i]? = some (.inl x)) : z = b * x.toInt + c := by
  obtain ⟨w, e, rfl⟩ := h
  unfold aEv at e
  rw [hv] at e
  have e2 : b * x.toInt + 0 = w := Option.some.inj (show some (b * x.toInt + 0) = some w from e)
  dsimp only
  omega
theorem rVa2 {vs : List jv} {i i' : Nat} {b b' c z : Int} {x x' : Int32} (h : aVa vs ([(i, b), (i', b')], c) z) (hv : vs[i]? = some (.inl x)) (hv' : vs[i']? = some (.inl x')) : z = b * x.toInt + b' * x'.toInt + c := by
  obtain ⟨w, e, rfl⟩ := h
  unfold aEv aEv at e
  rw [hv, hv'] at e
  have e2 : b * x.toInt + (b' * x'.toInt + 0) = w := Option.some.inj (show some (b * x.toInt + (b' * x'.toInt + 0)) = some w from e)
  dsimp only
  omega
theorem rRw_st {K : Nat → Nat} {n : Nat} {σ σ' : Nat → jcell} {vs : List jv} {d : List aDe} (h : ∀ a, a < n → ∀ q ∈ d, q.1 = K a → aSm vs q (σ a) (σ' a)) {a kr len : Nat} {g : Nat → Int32} (hr : (kr, [], none) ∈ d) (ho : rRw K n σ a kr len g) : rRw K n σ' a kr len g := by
  obtain ⟨h1, h2, e⟩ := ho
  refine ⟨h1, h2, ?_⟩
  rcases h a h1 _ hr h2.symm with e1 | ⟨c', f1, f2, e3, e4, -, e5⟩ | ⟨ty, m, g1, g2, f', z', e0, -⟩
  · rw [e1]; exact e
  · rw [e3] at e
    cases e
  · cases e0
theorem rRw_sb {K : Nat → Nat} {n : Nat} {σ σ' : Nat → jcell} {vs : List jv} {d : List aDe} (h : ∀ a, a < n → ∀ q ∈ d, q.1 = K a → aSm vs q (σ a) (σ' a)) {a kr len : Nat} {fo : aF} {b : Int} {g : Nat → Int32} (hr : (kr, [], some fo) ∈ d) (hb : ∀ x, aVa vs fo x → x = b) (ho : rRw K n σ a kr len g) : ∃ g', rRw K n σ' a kr len g' ∧ ∀ i : Nat, (i : Int) < b → g' i = g i := by
  obtain ⟨h1, h2, e⟩ := ho
  rcases h a h1 _ hr h2.symm with e1 | ⟨c', f1, f2, e3, e4, -, e5⟩ | ⟨ty, m, g1, g2, f', z', e0, e1, e2, e3, e4⟩
  · exact ⟨g, ⟨h1, h2, by rw [e1]; exact e⟩, fun _ _ => rfl⟩
  · rw [e3] at e
    cases e
  · cases e0
    rw [e2] at e
    cases e
    exact ⟨g2, ⟨h1, h2, e3⟩, fun i hi => e4 i (by rw [hb _ e1]; exact hi)⟩
theorem rTx_st {K : Nat → Nat} {n : Nat} {σ σ' : Nat → jcell} {vs : List jv} {d : List aDe} (h : ∀ a, a < n → ∀ q ∈ d, q.1 = K a → aSm vs q (σ a) (σ' a)) {a : Nat} {F : List Nat} {z : Option aF} {g : Nat → Int32} (hq : (88, F, z) ∈ d) (hf : 1 ∈ F) (hr : (89, [], none) ∈ d) (ho : rTx K n σ a g) : rTx K n σ' a g := by
  obtain ⟨r, o, h1, h2, e⟩ := ho
  refine ⟨r, rOb_st h hq hf o, h1, h2, ?_⟩
  rcases h r h1 _ hr h2.symm with e1 | ⟨c', f1, f2, e3, e4, -, e5⟩ | ⟨ty, m, g1, g2, f', z', e0, -⟩
  · rw [e1]; exact e
  · rw [e3] at e
    cases e
  · cases e0
end
section
/-! the reference's Texts: pictures -/
noncomputable abbrev rTe := rMg 62 24 82
theorem rTe_ex {K : Nat → Nat} {n : Nat} {σ : Nat → jcell} (hH : aH fa_T K n σ) {a : Nat} (ha : a < n) (hk : K a = 62) : ∃ M, rTe K n σ a M := rMg_ex hH rfl rfl rfl (by decide) ha hk
noncomputable def rA2 (M : Int → Int) (s b f r : Int) : Prop := ¬ ((f * f + r * r = 5 ∧ 0 ≤ rSp s f r ∧ M (rSp s f r) = 8 * b + 2) ∨ (1 ≤ f * f + r * r ∧ f * f + r * r ≤ 2 ∧ 0 ≤ rSp s f r ∧ M (rSp s f r) = 8 * b + 6))
noncomputable def rZ (M : Int → Int) : Prop := ∀ j, ¬ (0 ≤ j ∧ j ≤ 63) → M j = 0
theorem rZ_of {ko f kr : Nat} {K : Nat → Nat} {n : Nat} {σ : Nat → jcell} {a : Nat} {M : Int → Int} (h : rMg ko f kr K n σ a M) : rZ M := by
  obtain ⟨g, -, rfl⟩ := h
  intro j hj
  unfold rMn
  rw [if_neg hj]
theorem rZ_e {ko f kr : Nat} {K : Nat → Nat} {n : Nat} {σ : Nat → jcell} {a : Nat} {M : Int → Int} {g : Nat → Int32} (h : rRo K n σ a ko f kr 64 g) (hz : rZ M) (hg : ∀ j, 0 ≤ j → j ≤ 63 → (g j.toNat).toInt = M j) : rMg ko f kr K n σ a M := by
  refine ⟨g, h, ?_⟩
  funext j
  unfold rMn
  by_cases c : 0 ≤ j ∧ j ≤ 63
  · rw [if_pos c]; exact (hg j c.1 c.2).symm
  · rw [if_neg c]; exact hz j c
noncomputable def rTX (K : Nat → Nat) (n : Nat) (σ : Nat → jcell) (a : Nat) (q : rQ) : Prop := rTe K n σ a q.1 ∧ (∃ v : Int32, rOb K n σ a 62 25 (rI v) ∧ v.toInt = q.2.1) ∧ (∃ v : Int32, rOb K n σ a 62 26 (rI v) ∧ v.toInt = q.2.2.1) ∧ (∃ v : Int32, rOb K n σ a 62 27 (rI v) ∧ v.toInt = q.2.2.2)
theorem rTX_f {K : Nat → Nat} {n : Nat} {σ : Nat → jcell} {a f c : Nat} {z : Int} {x : Int32} {fs : List jv} (h : ∃ v : Int32, rOb K n σ a 62 f (rI v) ∧ v.toInt = z) (e1 : σ a = .inr (c, fs)) (e2 : fs[f]? = some (rI x)) : z = x.toInt := by
  obtain ⟨v, ⟨-, -, c', fs', e3, e4⟩, rfl⟩ := h
  rw [e1] at e3
  cases e3
  rw [e2] at e4
  cases e4
  rfl
noncomputable def rKI (K : Nat → Nat) (n : Nat) (σ : Nat → jcell) (a f kr : Nat) (i : Int) (M : Int → Int) : Prop := ∃ g, rRo K n σ a 62 f kr 64 g ∧ ∀ j, 0 ≤ j → j < i → j ≤ 63 → (g j.toNat).toInt = M j
noncomputable def rTKP (K : Nat → Nat) (n : Nat) (σ : Nat → jcell) (a : Nat) (q : rQ) : Prop := rZ q.1 ∧ (∃ g, rRo K n σ a 62 30 83 64 g ∧ ∀ j, 0 ≤ j → j ≤ 63 → (g j.toNat).toInt = q.1 j) ∧ ∃ g, rRo K n σ a 62 31 84 5 g ∧ (g 0).toInt = q.2.1 ∧ (g 1).toInt = q.2.2.1 ∧ (g 2).toInt = q.2.2.2
end
section
/-! the reference's Texts: its own make -/
noncomputable def rVd (q : rQ) (m : Int) : Prop := q.1 (rFr m) % 8 = 1 ∧ q.1 (rTo m) = 0 ∧ ¬ rFr m % 8 = rTo m % 8
noncomputable def rVd_d (q : rQ) (m : Int) : Decidable (rVd q m) := by unfold rVd; exact inferInstance
noncomputable def rV0 (q : rQ) (m : Int) : Int → Int := fun i => @ite _ (rVd q m) (rVd_d q m) (rUp q.1 (8 * (rFr m / 8) + rTo m % 8) 0 i) (q.1 i)
noncomputable def rVc (q : rQ) (m : Int) : Prop := q.1 (rFr m) % 8 = 6 ∧ rFr m % 8 = 4 ∧ (rTo m % 8 = 6 ∨ rTo m % 8 = 2)
noncomputable def rVc_d (q : rQ) (m : Int) : Decidable (rVc q m) := by unfold rVc; exact inferInstance
noncomputable def rCv (m : Int) : Int := if rTo m % 8 = 6 then rFr m + 3 else rFr m - 4
noncomputable def rV1d (q : rQ) (m : Int) : Int → Int := rUp (rV0 q m) (rOv (rFr m) (rTo m)) (rV0 q m (rCv m))
noncomputable def rV1 (q : rQ) (m : Int) : Int → Int := fun i => @ite _ (rVc q m) (rVc_d q m) (rUp (rV1d q m) (rCv m) 0 i) (rV0 q m i)
noncomputable def rV2 (q : rQ) (m : Int) : Int → Int := rUp (rV1 q m) (rFr m) 0
noncomputable def rV3 (q : rQ) (m : Int) : Int → Int := rUp (rV2 q m) (rTo m) (if 0 < rBc m then rBc m + 8 * q.2.1 else q.1 (rFr m))
noncomputable def rVt (q : rQ) (m : Int) : Prop := rTwo q m ∧ (rNbr (rV3 q m) (rTo m) (-1) (1 + 8 * (1 - q.2.1)) ∨ rNbr (rV3 q m) (rTo m) 1 (1 + 8 * (1 - q.2.1)))
noncomputable def rVt_d (q : rQ) (m : Int) : Decidable (rVt q m) := by unfold rVt rTwo rNbr; exact inferInstance
noncomputable def rVp (q : rQ) (m : Int) : Int := @ite _ (rVt q m) (rVt_d q m) ((rFr m + rTo m) / 2) (-1)
noncomputable def rVk (q : rQ) (m : Int) : rQ := (rV3 q m, 1 - q.2.1, rAn (rAn q.2.2.1 (rLo (rFr m))) (rLo (rTo m)), rVp q m)
theorem rV0_y {q : rQ} {m : Int} (h : rVd q m) : rV0 q m = rUp q.1 (8 * (rFr m / 8) + rTo m % 8) 0 := by
  funext i
  unfold rV0
  rw [if_pos h]
theorem rV0_n {q : rQ} {m : Int} (h : ¬ rVd q m) : rV0 q m = q.1 := by
  funext i
  unfold rV0
  rw [if_neg h]
theorem rV1_y {q : rQ} {m : Int} (h : rVc q m) : rV1 q m = rUp (rV1d q m) (rCv m) 0 := by
  funext i
  unfold rV1
  rw [if_pos h]
theorem rV1_n {q : rQ} {m : Int} (h : ¬ rVc q m) : rV1 q m = rV0 q m := by
  funext i
  unfold rV1
  rw [if_neg h]
/-- where a pawn takes beside, it takes a pawn that passed -/
theorem rVd_i {q : rQ} {m : Int} (hd : rGd q) (hl : rLm q m) : rVd q m ↔ ¬ rWh q m = rTo m := by
  constructor
  · rintro ⟨h1, h2, h3⟩ e
    obtain ⟨-, -, ⟨o1, o2⟩, -, hg, -⟩ := hl
    have hf := rFr_r (m := m)
    have ht := rTo_r (m := m)
    rcases hg with ⟨-, hg⟩ | ⟨hg, -⟩
    · rcases hg with ⟨g1, g2, g3⟩ | ⟨f, g1, g2, g3, g4⟩
      · have e9 : rSp (rFr m) 0 (rUpw q) = rFr m + 8 * rUpw q := by
          unfold rSp at g1 ⊢
          split at g1
          next c => rw [if_pos c]; omega
          next => omega
        rw [e9] at g3
        rcases g3 with g3 | ⟨-, g3, -⟩
        · omega
        · unfold rSp at g3
          split at g3 <;> omega
      · rcases g4 with ⟨g4, -⟩ | g4
        · exact g4 h2
        · unfold rWh at e
          rw [if_pos ⟨h1, g4⟩] at e
          unfold rSp rUpw at g3
          have d0 := hd.1
          have d1 := hd.2.1
          split at g3 <;> omega
    · exact hg h1
  · intro h
    obtain ⟨k1, k2, k3, -, k5⟩ := rLm_ep hd hl h
    have d0 := hd.1
    have d1 := hd.2.1
    refine ⟨by omega, k2, fun e => ?_⟩
    unfold rWh at h k5
    split at h
    next c =>
      rw [if_pos c] at k5
      apply k5
      omega
    next => exact h rfl
theorem rUp_uu {M : Int → Int} {s t v w : Int} : rUp (rUp (rUp M t v) s 0) t w = rUp (rUp M s 0) t w := by
  funext i
  by_cases c1 : i = t
  · rw [c1, rUp_s, rUp_s]
  · rw [rUp_n c1, rUp_n c1]
    by_cases c2 : i = s
    · rw [c2, rUp_s, rUp_s]
    · rw [rUp_n c2, rUp_n c2, rUp_n c1]
/-- a king's move that Texts takes for castling is castling -/
theorem rVc_i {q : rQ} {m : Int} (hd : rGd q) (hl : rLm q m) : rVc q m ↔ rIsC q m := by
  have hf := rFr_r (m := m)
  have ht := rTo_r (m := m)
  have d0 := hd.1
  have d1 := hd.2.1
  constructor
  · rintro ⟨h1, h2, h3⟩
    obtain ⟨-, -, -, -, hg, -⟩ := hl
    rcases hg with ⟨hg, -⟩ | ⟨-, ⟨f, r, f1, f2, r1, r2, hg⟩ | ⟨-, hs, hc⟩⟩
    · omega
    · exfalso
      rcases hg with ⟨hg, -, e⟩ | ⟨hg, -⟩
      · have h4 : f * f + r * r ≤ 2 := by
          rcases hg with ⟨h, -⟩ | ⟨-, -, h⟩
          · omega
          · exact h
        have h5 := rSq2 f1 f2 r1 r2 h4
        unfold rSp at e
        split at e <;> omega
      · omega
    · refine ⟨h1, ?_⟩
      rcases hc with ⟨-, hc⟩ | ⟨-, hc⟩ <;> omega
  · intro hc
    obtain ⟨k1, k2, k3, k4, k5⟩ := rLm_ca ⟨d0, d1⟩ hl hc
    exact ⟨hc.1, by omega, by omega⟩
theorem rV3_eq {q : rQ} {m : Int} (hd : rGd q) (hl : rLm q m) : rV3 q m = rM4 q m := by
  have d0 := hd.1
  have d1 := hd.2.1
  by_cases hc : rIsC q m
  · obtain ⟨k1, k2, k3, k4, k5⟩ := rLm_ca ⟨d0, d1⟩ hl hc
    have hv := (rVc_i hd hl).mpr hc
    have hn : ¬ rVd q m := fun h => by have h1 := h.1; have h2 := hc.1; omega
    have hw : rWh q m = rTo m := by
      unfold rWh
      rw [if_neg (fun h => by have := hc.1; omega)]
    have ec : rCv m = rCo (rFr m) (rTo m) := by
      unfold rCv rCo
      rcases k5 with k5 | k5
      · rw [if_pos (by omega), if_pos (by omega)]
      · rw [if_neg (by omega), if_neg (by omega)]
    have n1 : ¬ rCo (rFr m) (rTo m) = rTo m := by unfold rCo; split <;> omega
    have n2 : ¬ rCo (rFr m) (rTo m) = rFr m := by unfold rCo; split <;> omega
    have n3 : ¬ rCo (rFr m) (rTo m) = rOv (rFr m) (rTo m) := by unfold rCo rOv; split <;> omega
    have n4 : ¬ rOv (rFr m) (rTo m) = rTo m := by unfold rOv; omega
    have n5 : ¬ rOv (rFr m) (rTo m) = rFr m := by unfold rOv; omega
    have n6 : ¬ rFr m = rTo m := by omega
    rw [rM4_c hc]
    unfold rV3 rV2
    rw [rV1_y hv]
    unfold rV1d
    rw [rV0_n hn, ec]
    have e3 : ∀ i, ¬ i = rTo m → ¬ i = rFr m → rM3 q m i = q.1 i := fun i h1 h2 => by
      unfold rM3 rM2 rM1
      rw [rUp_n h1, rUp_n h2, hw, rUp_n h1]
    funext i
    unfold rM4c
    by_cases c1 : i = rTo m
    · rw [c1, rUp_s, rUp_n (fun h => n1 h.symm), rUp_n (fun h => n4 h.symm)]
      unfold rM3
      rw [rUp_s]
    · rw [rUp_n c1]
      by_cases c2 : i = rFr m
      · rw [c2, rUp_s, rUp_n (fun h => n2 h.symm), rUp_n (fun h => n5 h.symm)]
        unfold rM3 rM2
        rw [rUp_n n6, rUp_s]
      · rw [rUp_n c2]
        by_cases c3 : i = rCo (rFr m) (rTo m)
        · rw [c3, rUp_s, rUp_s]
        · rw [rUp_n c3, rUp_n c3]
          by_cases c4 : i = rOv (rFr m) (rTo m)
          · rw [c4, rUp_s, rUp_s, e3 _ n1 n2]
          · rw [rUp_n c4, rUp_n c4, e3 _ c1 c2]
  · have hv : ¬ rVc q m := fun h => hc ((rVc_i hd hl).mp h)
    rw [rM4_n hc]
    unfold rV3 rV2
    rw [rV1_n hv]
    unfold rM3 rM2 rM1
    by_cases h : rVd q m
    · rw [rV0_y h]
      have hw := (rVd_i hd hl).mp h
      have e : rWh q m = 8 * (rFr m / 8) + rTo m % 8 := by
        unfold rWh at hw ⊢
        split at hw
        next c => rw [if_pos c]
        next => exact absurd rfl hw
      rw [e]
    · rw [rV0_n h]
      have hw : rWh q m = rTo m := by
        by_cases c : rWh q m = rTo m
        · exact c
        · exact absurd ((rVd_i hd hl).mpr c) h
      rw [hw, rUp_uu]
theorem rVk_eq {q : rQ} {m : Int} (hd : rGd q) (hl : rLm q m) : rVk q m = rMk q m := by
  have e := rV3_eq hd hl
  have e2 : rVp q m = rNp q m := by
    unfold rVp rNp
    by_cases h : rPa q m
    · have h2 : rVt q m := by
        unfold rVt
        rw [e]
        exact h
      rw [if_pos h, if_pos h2]
    · have h2 : ¬ rVt q m := by
        unfold rVt
        rw [e]
        exact h
      rw [if_neg h, if_neg h2]
  unfold rVk rMk
  rw [e, e2]
/-- an own man's kind does not matter to attacks of the other side -/
noncomputable def rLk (M N : Int → Int) (b : Int) : Prop := ∀ i, M i = N i ∨ (¬ M i = 0 ∧ ¬ N i = 0 ∧ ¬ M i / 8 = b ∧ ¬ N i / 8 = b)
theorem rLk_g {M N : Int → Int} {b f r : Int} (h : rLk M N b) : ∀ {k : Nat} {t m : Int}, rGn M f r k t = some m → ∃ m', rGn N f r k t = some m' ∧ (m' = m ∨ (¬ m = 0 ∧ ¬ m' = 0 ∧ ¬ m / 8 = b ∧ ¬ m' / 8 = b))
  | 0, _, _, e => by cases e
  | k + 1, t, m, e => by
    unfold rGn at e ⊢
    by_cases c : t < 0
    · rw [if_pos c] at e ⊢
      exact ⟨m, e, Or.inl rfl⟩
    · rw [if_neg c] at e ⊢
      by_cases c2 : M t = 0
      · have c3 : N t = 0 := by
          rcases h t with h1 | ⟨h1, -⟩
          · rw [← h1]; exact c2
          · exact absurd c2 h1
        rw [if_pos c2] at e
        rw [if_pos c3]
        exact rLk_g h e
      · have c3 : ¬ N t = 0 := by
          rcases h t with h1 | ⟨-, h1, -⟩
          · rw [← h1]; exact c2
          · exact h1
        rw [if_neg c2] at e
        rw [if_neg c3]
        have e := Option.some.inj e
        refine ⟨N t, rfl, ?_⟩
        rcases h t with h1 | ⟨h1, h2, h3, h4⟩
        · exact Or.inl (by rw [← e, h1])
        · rw [← e]
          exact Or.inr ⟨h1, h2, h3, h4⟩
theorem rLk_v {M N : Int → Int} {b i v : Int} (h : rLk M N b) (hv : v / 8 = b) (e : M i = v) : N i = v := by
  rcases h i with h1 | ⟨-, -, h3, -⟩
  · rw [← h1]; exact e
  · rw [e] at h3; exact absurd hv h3
theorem rLk_a {M N : Int → Int} {s b : Int} (h : rLk M N b) (ha : rAk M s b) : rAk N s b := by
  rcases ha with ⟨h1, h2⟩ | ⟨h1, h2⟩ | ⟨f, r, f1, f2, r1, r2, ha⟩
  · exact Or.inl ⟨h1, rLk_v h (by omega) h2⟩
  · exact Or.inr (Or.inl ⟨h1, rLk_v h (by omega) h2⟩)
  · refine Or.inr (Or.inr ⟨f, r, f1, f2, r1, r2, ?_⟩)
    rcases ha with ⟨h1, h2, h3⟩ | ⟨h1, h2, ⟨h3, h4⟩ | ⟨m, ⟨k, h3⟩, h4⟩⟩
    · exact Or.inl ⟨h1, h2, rLk_v h (by omega) h3⟩
    · exact Or.inr ⟨h1, h2, Or.inl ⟨h3, rLk_v h (by omega) h4⟩⟩
    · obtain ⟨m', e, h5⟩ := rLk_g h h3
      refine Or.inr ⟨h1, h2, Or.inr ⟨m', ⟨k, e⟩, ?_⟩⟩
      rcases h5 with h5 | ⟨-, -, h6, -⟩
      · rw [h5]; exact h4
      · omega
end
section
/-! the reference's Texts: where a man goes -/
noncomputable def rSaf (q : rQ) (m : Int) : Prop := ∀ j, 0 ≤ j → j ≤ 63 → rV3 q m j = 8 * q.2.1 + 6 → ∃ s, 0 ≤ s ∧ s ≤ 63 ∧ rV3 q m s = 8 * q.2.1 + 6 ∧ ¬ rAk (rV3 q m) s (1 - q.2.1)
noncomputable def rTh (q : rQ) (h t : Int) : Prop := (h = 1 ∧ t = 56 * q.2.1 + 6) ∨ (h = 0 ∧ t = 56 * q.2.1 + 2)
noncomputable def rRgt (q : rQ) (t : Int) : Prop := ∃ h, rTh q h t ∧ rHas q.2.2.1 ((if h = 1 then 1 else 2) * (if q.2.1 = 0 then 1 else 4))
noncomputable def rTmc (q : rQ) (t : Int) : Prop := ∃ h, rTh q h t ∧ rHas q.2.2.1 ((if h = 1 then 1 else 2) * (if q.2.1 = 0 then 1 else 4)) ∧ (∀ j, 56 * q.2.1 + (if h = 1 then 5 else 1) ≤ j → j < 56 * q.2.1 + (if h = 1 then 7 else 4) → q.1 j = 0) ∧ ¬ rAk q.1 (56 * q.2.1 + 4) (1 - q.2.1) ∧ ¬ rAk q.1 (56 * q.2.1 + (if h = 1 then 5 else 3)) (1 - q.2.1)
theorem rTmc_c {q : rQ} {t : Int} (hd : rGd q) (hk : q.1 (56 * q.2.1 + 4) = 8 * q.2.1 + 6) (h : rTmc q t) : (rCa q 1 ∧ t = 56 * q.2.1 + 4 + 2) ∨ (rCa q 0 ∧ t = 56 * q.2.1 + 4 - 2) := by
  obtain ⟨h, ht, h1, h2, h3, h4⟩ := h
  have hc : ¬ rChk q.1 q.2.1 := by
    rintro ⟨s, k1, k2⟩
    obtain ⟨s0, -, -, -, hu⟩ := hd.2.2.2.1 q.2.1 hd.1 hd.2.1
    have e : s = 56 * q.2.1 + 4 := (hu s k1.2.2.1).trans (hu _ hk).symm
    rw [e] at k2
    exact h3 k2
  rcases ht with ⟨rfl, ht⟩ | ⟨rfl, ht⟩
  · exact Or.inl ⟨⟨h1, h2, hc, h4⟩, by omega⟩
  · exact Or.inr ⟨⟨h1, h2, hc, h4⟩, by omega⟩
theorem rBitR : ∀ (R : Fin 16) (s : Fin 4), (Int32.ofNat R.val >>> (Int32.ofNat s.val &&& 31)) &&& 1 = 1 → ¬ (Int32.ofNat R.val &&& Int32.ofNat (2 ^ s.val)) = 0 := by decide +kernel
theorem rBitR' {x y v o w : Int32} {z : Nat} (e1 : v = x >>> (y &&& 31)) (e2 : w = v &&& o) (h0 : 0 ≤ x.toInt) (h1 : x.toInt ≤ 15) (hy : y.toInt = z) (hz : z < 4) (ho : o.toInt = 1) (hw : w.toInt = 1) {c : Int} (hc : c = ((2 ^ z : Nat) : Int)) : rHas x.toInt c := by
  have eo : o = 1 := Int32.toInt_inj.mp (by rw [ho]; rfl)
  have ew : w = 1 := Int32.toInt_inj.mp (by rw [hw]; rfl)
  have h := rBitR ⟨x.toInt.toNat, by omega⟩ ⟨z, hz⟩
  dsimp only at h
  have ey : y = Int32.ofNat z := by
    rw [rOf (x := y) (by omega), hy]
    rfl
  rw [← rOf h0, ← ey, ← e1, ← eo, ← e2, ew, eo] at h
  unfold rHas
  rw [Int32.ofInt_toInt, hc, Int32.ofInt_eq_ofNat]
  exact h rfl
noncomputable def rRy (M : Int → Int) (s t f r u : Int) : Prop := (∀ v, rWf M f r u v → rWf M f r (rSp s f r) v) ∧ -1 ≤ f ∧ f ≤ 1 ∧ -1 ≤ r ∧ r ≤ 1 ∧ 0 ≤ u ∧ u ≤ 63 ∧ ∃ j, 0 ≤ j ∧ t % 8 = u % 8 + j * f ∧ t / 8 = u / 8 + j * r
noncomputable def rSl (k f r : Int) : Prop := (k = 4 ∧ f * f + r * r = 1) ∨ (k = 3 ∧ f * f + r * r = 2) ∨ (k = 5 ∧ 1 ≤ f * f + r * r ∧ f * f + r * r ≤ 2)
theorem rSqb {f r : Int} (h : f * f + r * r ≤ 8) : -2 ≤ f ∧ f ≤ 2 ∧ -2 ≤ r ∧ r ≤ 2 := by
  have key : ∀ z w : Int, z * z + w * w ≤ 8 → -2 ≤ z ∧ z ≤ 2 := fun z w hz => by
    have hw := rSqn (x := w)
    by_cases c : 3 ≤ z
    · have := Int.mul_le_mul_of_nonneg_right c (show 0 ≤ z by omega)
      omega
    · by_cases c2 : z ≤ -3
      · have h2 : -z * -z = z * z := Int.neg_mul_neg z z
        have := Int.mul_le_mul_of_nonneg_right (show 3 ≤ -z by omega) (show 0 ≤ -z by omega)
        omega
      · omega
  have h1 := key f r h
  have h2 := key r f (by omega)
  omega
theorem rSp_of {s t f r : Int} (h0 : 0 ≤ s) (h1 : s ≤ 63) (h2 : 0 ≤ t) (h3 : t ≤ 63) (e1 : f = t % 8 - s % 8) (e2 : r = t / 8 - s / 8) : t = rSp s f r := by
  unfold rSp
  rw [if_pos (by omega)]
  omega
noncomputable def rTJ (q : rQ) (f t b n : Int) : Prop := (0 ≤ q.2.1 ∧ q.2.1 ≤ 1) ∧ rGO q f t ∧ ((rLs q f t ∧ n ≤ 31 * f + rSm (q.1 f % 8) f t.toNat + (b - 2)) ∨ (¬ rLs q f t ∧ n ≤ 31 * f + rSm (q.1 f % 8) f t.toNat + b))
noncomputable def rTL (K : Nat → Nat) (n : Nat) (σ : Nat → jcell) (a : Nat) (c : Int) (q : rQ) : Prop := ∃ g, rRo K n σ a 62 32 85 2048 g ∧ ∀ j, 0 ≤ j → j < c → rLm q (g j.toNat).toInt ∧ rGd (rMk q (g j.toNat).toInt)
/-- a move that goes and is safe is legal, whatever the pawn becomes -/
theorem rLg_of {q : rQ} {f t b m : Int} (hd : rGd q) (h0 : 0 ≤ f) (h1 : f ≤ 63) (h2 : 0 ≤ t) (h3 : t ≤ 63) (ho : rOwn q f) (hn : ¬ rOwn q t) (hg : rGO q f t) (hb : (rLs q f t ∧ 2 ≤ b ∧ b ≤ 5) ∨ (¬ rLs q f t ∧ b = 0)) (hs : rSaf q (f + 64 * t)) (hm : m = f + 64 * t + 4096 * b) : rLm q m ∧ rGd (rMk q m) := by
  obtain ⟨e1, e2, e3⟩ := rMv (m := m) h0 h1 h2 h3 hm
  obtain ⟨z1, z2, z3⟩ := rFr_m h0 h1 h2 h3
  have d0 := hd.1
  have d1 := hd.2.1
  have hl : rLm q m := by
    refine ⟨by omega, by omega, by rw [e1]; exact ho, by rw [e2]; exact hn, by rw [e1, e2]; exact hg, ?_⟩
    rw [e1, e2, e3]
    unfold rLs at hb
    omega
  refine ⟨hl, (rMk_gd hd hl).mpr (fun s hs2 ha => ?_)⟩
  have hV : rM4 q m = rV3 q m := (rV3_eq hd hl).symm
  rw [hV] at hs2 ha
  obtain ⟨o1, o2⟩ := ho
  -- the men with the pawn left as it is
  have hv0 : rV0 q (f + 64 * t) = rV0 q m := by
    funext i
    have : rVd q (f + 64 * t) ↔ rVd q m := by unfold rVd; rw [z1, z2, e1, e2]
    unfold rV0
    by_cases c : rVd q m
    · rw [if_pos c, if_pos (this.mpr c), z1, z2, e1, e2]
    · rw [if_neg c, if_neg (fun h => c (this.mp h))]
  have hv1 : rV1 q (f + 64 * t) = rV1 q m := by
    have hc : rVc q (f + 64 * t) ↔ rVc q m := by unfold rVc; rw [z1, z2, e1, e2]
    have hcv : rCv (f + 64 * t) = rCv m := by unfold rCv; rw [z1, z2, e1, e2]
    by_cases c : rVc q m
    · rw [rV1_y c, rV1_y (hc.mpr c)]
      unfold rV1d
      rw [hv0, hcv, z1, z2, e1, e2]
    · rw [rV1_n c, rV1_n (fun h => c (hc.mp h)), hv0]
  have hat : ∀ i, ¬ i = t → rV3 q (f + 64 * t) i = rV3 q m i := fun i hi => by
    unfold rV3 rV2
    rw [hv1, z1, z2, e1, e2, rUp_n hi, rUp_n hi]
  have ht0 : rV3 q (f + 64 * t) t = q.1 f := by
    unfold rV3
    rw [z2, rUp_s, z1, z3, if_neg (by omega)]
  have htm : rV3 q m t = if 0 < b then b + 8 * q.2.1 else q.1 f := by
    unfold rV3
    rw [e2, rUp_s, e3, e1]
  have hval : (1 ≤ q.1 f ∧ q.1 f ≤ 6) ∨ (9 ≤ q.1 f ∧ q.1 f ≤ 14) := by
    rcases hd.2.2.1 f with h | ⟨-, -, h⟩
    · exact absurd h o1
    · exact h
  have hlk : rLk (rV3 q m) (rV3 q (f + 64 * t)) (1 - q.2.1) := fun i => by
    by_cases ci : i = t
    · rw [ci, ht0, htm]
      split
      next c => exact Or.inr ⟨by omega, o1, by omega, by omega⟩
      next => exact Or.inl rfl
    · exact Or.inl (hat i ci).symm
  have hr : 0 ≤ s ∧ s ≤ 63 := by
    rcases rVal_4 hd hl s with h | ⟨h4, h5, -⟩
    · rw [hV, hs2] at h; omega
    · exact ⟨h4, h5⟩
  have hss : rV3 q (f + 64 * t) s = 8 * q.2.1 + 6 := by
    by_cases ci : s = t
    · rw [ci] at hs2 ⊢
      rw [htm] at hs2
      rw [ht0]
      split at hs2
      next c =>
        unfold rLs at hb
        omega
      next => exact hs2
    · rw [hat s ci]; exact hs2
  obtain ⟨s', k1, k2, k3, k4⟩ := hs s hr.1 hr.2 hss
  have hs' : rV3 q m s' = 8 * q.2.1 + 6 := by
    by_cases ci : s' = t
    · rw [ci] at k3 ⊢
      rw [ht0] at k3
      rw [htm]
      split
      next c =>
        unfold rLs at hb
        omega
      next => exact k3
    · rw [← hat s' ci]; exact k3
  obtain ⟨s0, -, -, -, hu⟩ := rKs_4 hd hl q.2.1 d0 d1
  rw [hV] at hu
  obtain rfl : s = s' := (hu s hs2).trans (hu s' hs').symm
  exact k4 (rLk_a hlk ha)
end
