/-! the reference: uC -/
def y_MT_ink : jY := (⟨"ChessHouseModel$Texts", "ink", "(C)V"⟩, prog_18_method_77_code, 2, none)
theorem m_MT_ink : jmth lw_tbl y_MT_ink 1 := ⟨jTA_in (wi := 2741) (jtF_ok rfl) rfl, jTA_in (wi := 315) (jtF_ok rfl) rfl, by decide, by decide, by decide +kernel⟩
theorem i_MT_ink : Jvm.Cond.instanceMethod y_MT_ink.1 ∈ jTA lw_tbl := jTA_in (wi := 2740) (jtF_ok rfl) rfl
theorem e_MT_ink : Jvm.Cond.selects y_MT_ink.1.cls y_MT_ink.1 y_MT_ink.1 ∈ jTA lw_tbl := jTA_in (wi := 201) (jtF_ok rfl) rfl
def y_MT_sayNumber : jY := (⟨"ChessHouseModel$Texts", "sayNumber", "(I)V"⟩, prog_18_method_78_code, 3, none)
theorem m_MT_sayNumber : jmth lw_tbl y_MT_sayNumber 1 := ⟨jTA_in (wi := 2757) (jtF_ok rfl) rfl, jTA_in (wi := 315) (jtF_ok rfl) rfl, by decide, by decide, by decide +kernel⟩
theorem i_MT_sayNumber : Jvm.Cond.instanceMethod y_MT_sayNumber.1 ∈ jTA lw_tbl := jTA_in (wi := 2756) (jtF_ok rfl) rfl
theorem e_MT_sayNumber : Jvm.Cond.selects y_MT_sayNumber.1.cls y_MT_sayNumber.1 y_MT_sayNumber.1 ∈ jTA lw_tbl := jTA_in (wi := 205) (jtF_ok rfl) rfl
def y_MT_sayRemark : jY := (⟨"ChessHouseModel$Texts", "sayRemark", "(I)V"⟩, prog_18_method_79_code, 3, none)
theorem m_MT_sayRemark : jmth lw_tbl y_MT_sayRemark 1 := ⟨jTA_in (wi := 2745) (jtF_ok rfl) rfl, jTA_in (wi := 315) (jtF_ok rfl) rfl, by decide, by decide, by decide +kernel⟩
theorem i_MT_sayRemark : Jvm.Cond.instanceMethod y_MT_sayRemark.1 ∈ jTA lw_tbl := jTA_in (wi := 2744) (jtF_ok rfl) rfl
theorem e_MT_sayRemark : Jvm.Cond.selects y_MT_sayRemark.1.cls y_MT_sayRemark.1 y_MT_sayRemark.1 ∈ jTA lw_tbl := jTA_in (wi := 202) (jtF_ok rfl) rfl
def y_MT_sayMove : jY := (⟨"ChessHouseModel$Texts", "sayMove", "(IZ)V"⟩, prog_18_method_80_code, 5, none)
theorem m_MT_sayMove : jmth lw_tbl y_MT_sayMove 2 := ⟨jTA_in (wi := 2753) (jtF_ok rfl) rfl, jTA_in (wi := 315) (jtF_ok rfl) rfl, by decide, by decide, by decide +kernel⟩
theorem i_MT_sayMove : Jvm.Cond.instanceMethod y_MT_sayMove.1 ∈ jTA lw_tbl := jTA_in (wi := 2752) (jtF_ok rfl) rfl
theorem e_MT_sayMove : Jvm.Cond.selects y_MT_sayMove.1.cls y_MT_sayMove.1 y_MT_sayMove.1 ∈ jTA lw_tbl := jTA_in (wi := 204) (jtF_ok rfl) rfl
def ag_rtT1 : aCon := (y_BO_inCheck, false, 2, ([(.inl (0, 80000), none), (.inl (0, 80000), none)], ([], [], [([(0, 1), (1, -1)], 1)], [])), (none, [], ([], [], [([(0, 1), (1, -1)], 1)], []), [[]]), ([], []), { frames := 0, cells := 0, slots := 0, locals := 0 })
def ag_rtT2 : aCon := (y_BO_inCheck, false, 2, ([(.inl (0, 80000), none), (.inl (0, 80000), none)], ([], [], [([(0, 1), (1, -1)], 2)], [])), (none, [], ([], [], [([(0, 1), (1, -1)], 2)], []), [[]]), ([], []), { frames := 0, cells := 0, slots := 0, locals := 0 })
def ag_rtT3 : aCon := (y_BO_inCheck, false, 2, ([(.inl (0, 80000), none), (.inl (0, 80000), none)], ([], [], [([(0, 1), (1, -1)], 3)], [])), (none, [], ([], [], [([(0, 1), (1, -1)], 3)], []), [[]]), ([], []), { frames := 0, cells := 0, slots := 0, locals := 0 })
def ag_rtT4 : aCon := (y_BO_inCheck, false, 2, ([(.inl (0, 80000), none), (.inl (0, 80000), none)], ([], [], [([(0, 1), (1, -1)], 4)], [])), (none, [], ([], [], [([(0, 1), (1, -1)], 4)], []), [[]]), ([], []), { frames := 0, cells := 0, slots := 0, locals := 0 })
def ag_rtM : aCon := (y_BO_inCheck, false, 5, ([(.inr (some (.inl (false, 62))), none), (.inl (0, 1), none), (.inl (1, 300), none), (.inl (-1, 24575), none), (.inl (0, 601), none), (.inr (some (.inl (false, 67))), none)], ([(0, 9, 5)], [(5, ([(4, 1)], 0), 3)], [([(4, 1), (1, -301), (2, -1)], 0), ([(4, -1), (1, 301), (2, 1)], 0)], [(3859, [0, 1, 2])])), (none, [], ([], [], [([(3, 1)], 0)], []), [[]]), ([], []), { frames := 0, cells := 0, slots := 0, locals := 0 })
def ag_rtT5 : aCon := (y_BO_inCheck, false, 2, ([(.inl (0, 80000), none), (.inl (0, 80000), none)], ([], [], [([(0, 1), (1, -1)], 5)], [])), (none, [], ([], [], [([(0, 1), (1, -1)], 5)], []), [[]]), ([], []), { frames := 0, cells := 0, slots := 0, locals := 0 })
def ag_rtT6 : aCon := (y_BO_inCheck, false, 2, ([(.inl (0, 80000), none), (.inl (0, 80000), none)], ([], [], [([(0, 1), (1, -1)], 6)], [])), (none, [], ([], [], [([(0, 1), (1, -1)], 6)], []), [[]]), ([], []), { frames := 0, cells := 0, slots := 0, locals := 0 })
def ag_rtT7 : aCon := (y_BO_inCheck, false, 2, ([(.inl (0, 80000), none), (.inl (0, 80000), none)], ([], [], [([(0, 1), (1, -1)], 7)], [])), (none, [], ([], [], [([(0, 1), (1, -1)], 7)], []), [[]]), ([], []), { frames := 0, cells := 0, slots := 0, locals := 0 })
def ag_rtT8 : aCon := (y_BO_inCheck, false, 2, ([(.inl (0, 80000), none), (.inl (0, 80000), none)], ([], [], [([(0, 1), (1, -1)], 8)], [])), (none, [], ([], [], [([(0, 1), (1, -1)], 8)], []), [[]]), ([], []), { frames := 0, cells := 0, slots := 0, locals := 0 })
def ag_rtT17 : aCon := (y_BO_inCheck, false, 2, ([(.inl (0, 80000), none), (.inl (0, 80000), none)], ([], [], [([(0, 1), (1, -1)], 17)], [])), (none, [], ([], [], [([(0, 1), (1, -1)], 17)], []), [[]]), ([], []), { frames := 0, cells := 0, slots := 0, locals := 0 })
def ag_rtT37 : aCon := (y_BO_inCheck, false, 2, ([(.inl (0, 80000), none), (.inl (0, 80000), none)], ([], [], [([(0, 1), (1, -1)], 37)], [])), (none, [], ([], [], [([(0, 1), (1, -1)], 37)], []), [[]]), ([], []), { frames := 0, cells := 0, slots := 0, locals := 0 })
def ag_rtT38 : aCon := (y_BO_inCheck, false, 2, ([(.inl (0, 80000), none), (.inl (0, 80000), none)], ([], [], [([(0, 1), (1, -1)], 38)], [])), (none, [], ([], [], [([(0, 1), (1, -1)], 38)], []), [[]]), ([], []), { frames := 0, cells := 0, slots := 0, locals := 0 })
def ag_rtU : aCon := (y_BO_inCheck, false, 3, ([(.inl (0, 80000), none), (.inl (0, 80000), none), (.inl (0, 300), none)], ([], [], [([(0, 1), (1, -1), (2, 5)], 19)], [])), (none, [], ([], [], [([(0, 1), (1, -1), (2, 5)], 19)], []), [[]]), ([], []), { frames := 0, cells := 0, slots := 0, locals := 0 })
