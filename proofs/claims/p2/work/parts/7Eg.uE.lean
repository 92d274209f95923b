/-! the reference: uE -/
def y_MM_split : jY := (⟨"ChessHouseModel", "split", "()V"⟩, prog_15_method_21_code, 3, none)
theorem m_MM_split : jmth lw_tbl y_MM_split 0 := ⟨jTA_in (wi := 2546) (jtF_ok rfl) rfl, jTA_in (wi := 314) (jtF_ok rfl) rfl, by decide, by decide, by decide +kernel⟩
theorem i_MM_split : Jvm.Cond.instanceMethod y_MM_split.1 ∈ jTA lw_tbl := jTA_in (wi := 2545) (jtF_ok rfl) rfl
theorem e_MM_split : Jvm.Cond.selects y_MM_split.1.cls y_MM_split.1 y_MM_split.1 ∈ jTA lw_tbl := jTA_in (wi := 161) (jtF_ok rfl) rfl
def y_MM_number : jY := (⟨"ChessHouseModel", "number", "(III)I"⟩, prog_15_method_25_code, 10, (some .int))
theorem m_MM_number : jmth lw_tbl y_MM_number 3 := ⟨jTA_in (wi := 2806) (jtF_ok rfl) rfl, jTA_in (wi := 314) (jtF_ok rfl) rfl, by decide, by decide, by decide +kernel⟩
theorem i_MM_number : Jvm.Cond.instanceMethod y_MM_number.1 ∈ jTA lw_tbl := jTA_in (wi := 2805) (jtF_ok rfl) rfl
theorem e_MM_number : Jvm.Cond.selects y_MM_number.1.cls y_MM_number.1 y_MM_number.1 ∈ jTA lw_tbl := jTA_in (wi := 215) (jtF_ok rfl) rfl
def y_MM_goTo : jY := (⟨"ChessHouseModel", "goTo", "(I)V"⟩, prog_15_method_28_code, 2, none)
theorem m_MM_goTo : jmth lw_tbl y_MM_goTo 1 := ⟨jTA_in (wi := 2511) (jtF_ok rfl) rfl, jTA_in (wi := 314) (jtF_ok rfl) rfl, by decide, by decide, by decide +kernel⟩
theorem i_MM_goTo : Jvm.Cond.instanceMethod y_MM_goTo.1 ∈ jTA lw_tbl := jTA_in (wi := 2510) (jtF_ok rfl) rfl
theorem e_MM_goTo : Jvm.Cond.selects y_MM_goTo.1.cls y_MM_goTo.1 y_MM_goTo.1 ∈ jTA lw_tbl := jTA_in (wi := 154) (jtF_ok rfl) rfl
def y_MM_saySigns : jY := (⟨"ChessHouseModel", "saySigns", "(I)V"⟩, prog_15_method_32_code, 3, none)
theorem m_MM_saySigns : jmth lw_tbl y_MM_saySigns 1 := ⟨jTA_in (wi := 2774) (jtF_ok rfl) rfl, jTA_in (wi := 314) (jtF_ok rfl) rfl, by decide, by decide, by decide +kernel⟩
theorem i_MM_saySigns : Jvm.Cond.instanceMethod y_MM_saySigns.1 ∈ jTA lw_tbl := jTA_in (wi := 2773) (jtF_ok rfl) rfl
theorem e_MM_saySigns : Jvm.Cond.selects y_MM_saySigns.1.cls y_MM_saySigns.1 y_MM_saySigns.1 ∈ jTA lw_tbl := jTA_in (wi := 209) (jtF_ok rfl) rfl
def y_MM_others : jY := (⟨"ChessHouseModel", "others", "()V"⟩, prog_15_method_33_code, 4, none)
theorem m_MM_others : jmth lw_tbl y_MM_others 0 := ⟨jTA_in (wi := 2770) (jtF_ok rfl) rfl, jTA_in (wi := 314) (jtF_ok rfl) rfl, by decide, by decide, by decide +kernel⟩
theorem i_MM_others : Jvm.Cond.instanceMethod y_MM_others.1 ∈ jTA lw_tbl := jTA_in (wi := 2769) (jtF_ok rfl) rfl
theorem e_MM_others : Jvm.Cond.selects y_MM_others.1.cls y_MM_others.1 y_MM_others.1 ∈ jTA lw_tbl := jTA_in (wi := 208) (jtF_ok rfl) rfl
def y_MM_meant : jY := (⟨"ChessHouseModel", "meant", "(I)I"⟩, prog_15_method_34_code, 4, (some .int))
theorem m_MM_meant : jmth lw_tbl y_MM_meant 1 := ⟨jTA_in (wi := 2784) (jtF_ok rfl) rfl, jTA_in (wi := 314) (jtF_ok rfl) rfl, by decide, by decide, by decide +kernel⟩
theorem i_MM_meant : Jvm.Cond.instanceMethod y_MM_meant.1 ∈ jTA lw_tbl := jTA_in (wi := 2783) (jtF_ok rfl) rfl
theorem e_MM_meant : Jvm.Cond.selects y_MM_meant.1.cls y_MM_meant.1 y_MM_meant.1 ∈ jTA lw_tbl := jTA_in (wi := 211) (jtF_ok rfl) rfl
def y_MM_play : jY := (⟨"ChessHouseModel", "play", "()V"⟩, prog_15_method_35_code, 4, none)
theorem m_MM_play : jmth lw_tbl y_MM_play 0 := ⟨jTA_in (wi := 2780) (jtF_ok rfl) rfl, jTA_in (wi := 314) (jtF_ok rfl) rfl, by decide, by decide, by decide +kernel⟩
theorem i_MM_play : Jvm.Cond.instanceMethod y_MM_play.1 ∈ jTA lw_tbl := jTA_in (wi := 2779) (jtF_ok rfl) rfl
theorem e_MM_play : Jvm.Cond.selects y_MM_play.1.cls y_MM_play.1 y_MM_play.1 ∈ jTA lw_tbl := jTA_in (wi := 210) (jtF_ok rfl) rfl
def y_MM_back : jY := (⟨"ChessHouseModel", "back", "(I)V"⟩, prog_15_method_36_code, 4, none)
theorem m_MM_back : jmth lw_tbl y_MM_back 1 := ⟨jTA_in (wi := 2810) (jtF_ok rfl) rfl, jTA_in (wi := 314) (jtF_ok rfl) rfl, by decide, by decide, by decide +kernel⟩
theorem i_MM_back : Jvm.Cond.instanceMethod y_MM_back.1 ∈ jTA lw_tbl := jTA_in (wi := 2809) (jtF_ok rfl) rfl
theorem e_MM_back : Jvm.Cond.selects y_MM_back.1.cls y_MM_back.1 y_MM_back.1 ∈ jTA lw_tbl := jTA_in (wi := 216) (jtF_ok rfl) rfl
def y_MT_addMark : jY := (⟨"ChessHouseModel$Texts", "addMark", "(I)I"⟩, prog_18_method_96_code, 2, (some .int))
theorem m_MT_addMark : jmth lw_tbl y_MT_addMark 1 := ⟨jTA_in (wi := 2824) (jtF_ok rfl) rfl, jTA_in (wi := 315) (jtF_ok rfl) rfl, by decide, by decide, by decide +kernel⟩
theorem i_MT_addMark : Jvm.Cond.instanceMethod y_MT_addMark.1 ∈ jTA lw_tbl := jTA_in (wi := 2822) (jtF_ok rfl) rfl
theorem e_MT_addMark : Jvm.Cond.selects y_MT_addMark.1.cls y_MT_addMark.1 y_MT_addMark.1 ∈ jTA lw_tbl := jTA_in (wi := 2823) (jtF_ok rfl) rfl
def y_MM_mark : jY := (⟨"ChessHouseModel", "mark", "(I)V"⟩, prog_15_method_37_code, 3, none)
theorem m_MM_mark : jmth lw_tbl y_MM_mark 1 := ⟨jTA_in (wi := 2820) (jtF_ok rfl) rfl, jTA_in (wi := 314) (jtF_ok rfl) rfl, by decide, by decide, by decide +kernel⟩
theorem i_MM_mark : Jvm.Cond.instanceMethod y_MM_mark.1 ∈ jTA lw_tbl := jTA_in (wi := 2819) (jtF_ok rfl) rfl
theorem e_MM_mark : Jvm.Cond.selects y_MM_mark.1.cls y_MM_mark.1 y_MM_mark.1 ∈ jTA lw_tbl := jTA_in (wi := 218) (jtF_ok rfl) rfl
def y_MM_lead : jY := (⟨"ChessHouseModel", "lead", "()V"⟩, prog_15_method_39_code, 2, none)
theorem m_MM_lead : jmth lw_tbl y_MM_lead 0 := ⟨jTA_in (wi := 2829) (jtF_ok rfl) rfl, jTA_in (wi := 314) (jtF_ok rfl) rfl, by decide, by decide, by decide +kernel⟩
theorem i_MM_lead : Jvm.Cond.instanceMethod y_MM_lead.1 ∈ jTA lw_tbl := jTA_in (wi := 2828) (jtF_ok rfl) rfl
theorem e_MM_lead : Jvm.Cond.selects y_MM_lead.1.cls y_MM_lead.1 y_MM_lead.1 ∈ jTA lw_tbl := jTA_in (wi := 219) (jtF_ok rfl) rfl
def ag_MMputNumB : aCon := (y_MM_putNumber, false, 2, ([(.inr (some (.inl (false, 55))), none), (.inr none, none)], ([], [], [([(1, 1)], 999999999999999999), ([(1, -1)], 999999999999999999)], [])), (none, [], ([], [], [], []), [[]]), ([(55, 3)], [(57, ([], 0))]), { frames := 1, cells := 0, slots := 0, locals := 21 })
theorem ad_MMputNumB : aGd lw_tbl ag_MMputNumB := ⟨rfl, rfl, m_MM_putNumber, i_MM_putNumber, e_MM_putNumber⟩
def ag_rnW : aCon := (y_BO_inCheck, false, 1, ([(.inl (0, 32768), none)], ([], [], [([(0, -2)], 65535)], [])), (none, [], ([], [], [([(0, -1)], 32767)], []), [[]]), ([], []), { frames := 0, cells := 0, slots := 0, locals := 0 })
def ag_rnF0 : aCon := (y_BO_inCheck, false, 2, ([(.inr (some (.inl (false, 55))), none), (.inl (0, 0), none)], ([], [], [], [])), (none, [], ([], [], [], [(5922, [0, 1])]), [[]]), ([], []), { frames := 0, cells := 0, slots := 0, locals := 0 })
def ag_rnFs : aCon := (y_BO_inCheck, false, 4, ([(.inr (some (.inl (false, 55))), none), (.inr (some (.inl (false, 58))), none), (.inl (0, 32767), none), (.inl (0, 65535), none)], ([(0, 14, 1)], [], [], [(5922, [0, 2])])), (none, [], ([], [], [], [(71477, [1, 2, 3, 0, 2])]), [[]]), ([], []), { frames := 0, cells := 0, slots := 0, locals := 0 })
def ag_rnFn : aCon := (y_BO_inCheck, false, 3, ([(.inr (some (.inl (false, 55))), none), (.inl (0, 32767), none), (.inl (0, 32768), none)], ([], [], [([(2, 1), (1, -1)], -1), ([(2, -1), (1, 1)], 1)], [(5938, [0, 1])])), (none, [], ([], [], [], [(5922, [0, 2])]), [[]]), ([], []), { frames := 0, cells := 0, slots := 0, locals := 0 })
def ag_rnFv : aCon := (y_BO_inCheck, false, 4, ([(.inr (some (.inl (false, 55))), none), (.inl (0, 32768), none), (.inl (0, 32767), none), (.inl (0, 65536), none), (.inr (some (.inl (false, 58))), none)], ([(0, 14, 4)], [(4, ([(2, 1)], 0), 3)], [([(1, 1), (2, -1)], -1)], [(5922, [0, 1])])), (none, [], ([], [], [([(3, -1)], 65535)], []), [[]]), ([], []), { frames := 0, cells := 0, slots := 0, locals := 0 })
def ag_rnG0 : aCon := (y_BO_inCheck, false, 2, ([(.inr (some (.inl (false, 55))), none), (.inl (0, 0), none)], ([], [], [], [])), (none, [], ([], [], [], [(5954, [0, 1])]), [[]]), ([], []), { frames := 0, cells := 0, slots := 0, locals := 0 })
def ag_rnGa : aCon := (y_BO_inCheck, false, 4, ([(.inr (some (.inl (false, 55))), none), (.inr (some (.inl (false, 58))), none), (.inl (0, 32767), none), (.inl (0, 65536), none)], ([(0, 14, 1)], [], [], [])), (none, [], ([], [], [], [(71526, [1, 2, 3, 0, 2, 3])]), [[]]), ([], []), { frames := 0, cells := 0, slots := 0, locals := 0 })
def ag_rnGb : aCon := (y_BO_inCheck, false, 5, ([(.inr (some (.inl (false, 55))), none), (.inr (some (.inl (false, 59))), none), (.inl (0, 32767), none), (.inl (0, 65536), none), (.inl (0, 65536), none)], ([(0, 15, 1)], [], [([(3, 1), (4, -1)], -1)], [(5954, [0, 2]), (5987, [0, 2, 4])])), (none, [], ([], [], [], [(71509, [1, 2, 3, 0, 2])]), [[]]), ([], []), { frames := 0, cells := 0, slots := 0, locals := 0 })
def ag_rnGn : aCon := (y_BO_inCheck, false, 3, ([(.inr (some (.inl (false, 55))), none), (.inl (0, 32767), none), (.inl (0, 32768), none)], ([], [], [([(2, 1), (1, -1)], -1), ([(2, -1), (1, 1)], 1)], [(5970, [0, 1])])), (none, [], ([], [], [], [(5954, [0, 2])]), [[]]), ([], []), { frames := 0, cells := 0, slots := 0, locals := 0 })
def ag_rnGv : aCon := (y_BO_inCheck, false, 5, ([(.inr (some (.inl (false, 55))), none), (.inl (0, 32768), none), (.inl (0, 32767), none), (.inl (0, 65536), none), (.inl (0, 65536), none), (.inr (some (.inl (false, 58))), none), (.inr (some (.inl (false, 59))), none)], ([(0, 14, 5), (0, 15, 6)], [(5, ([(2, 1)], 0), 3), (6, ([(2, 1)], 0), 4)], [([(1, 1), (2, -1)], -1)], [(5954, [0, 1])])), (none, [], ([], [], [([(4, 1), (3, -1)], -1)], []), [[]]), ([], []), { frames := 0, cells := 0, slots := 0, locals := 0 })
def ag_rnP : aCon := (y_BO_inCheck, false, 3, ([(.inr (some (.inl (false, 62))), none), (.inl (0, 1), none), (.inl (0, 300), none)], ([(0, 5, 1), (0, 6, 2)], [], [], [(5873, [0])])), (none, [], ([], [], [], [(6401, [0]), (3521, [0]), (7395, [0, 1, 2]), (7409, [0]), (384, []), (3859, [0, 1, 2])]), [[]]), ([(0, 0)], []), { frames := 0, cells := 0, slots := 0, locals := 0 })
def ag_rnQ : aCon := (y_BO_inCheck, false, 3, ([(.inr (some (.inl (false, 62))), none), (.inl (0, 1), none), (.inl (0, 300), none)], ([(0, 5, 1), (0, 6, 2)], [], [], [(6401, [0]), (3521, [0]), (7395, [0, 1, 2]), (7409, [0]), (384, []), (3859, [0, 1, 2])])), (none, [], ([], [], [], [(5873, [0])]), [[]]), ([], []), { frames := 0, cells := 0, slots := 0, locals := 0 })
def ag_rnM : aCon := (y_BO_inCheck, false, 5, ([(.inr (some (.inl (false, 62))), none), (.inl (0, 1), none), (.inl (0, 300), none), (.inl (-1, 24575), none), (.inl (0, 301), none), (.inr (some (.inl (false, 67))), none)], ([(0, 9, 5)], [(5, ([(1, 301), (2, 1)], 0), 3)], [], [(3876, [0, 1, 2, 4])])), (none, [], ([], [], [([(3, 1)], 0)], []), [[]]), ([], []), { frames := 0, cells := 0, slots := 0, locals := 0 })
def ag_rnN1 : aCon := (y_BO_inCheck, false, 5, ([(.inr (some (.inl (false, 55))), none), (.inl (0, 32767), none), (.inl (0, 65536), none), (.inl (0, 65536), none), (.inl (0, 65536), none), (.inr (some (.inl (false, 58))), none)], ([(0, 14, 5)], [(5, ([(1, 1)], 0), 2)], [([(3, 1), (2, -1), (4, -1)], 0)], [])), (none, [], ([], [], [], [(6003, [0, 1, 4])]), [[]]), ([], []), { frames := 0, cells := 0, slots := 0, locals := 0 })
def ag_rnN2 : aCon := (y_BO_inCheck, false, 4, ([(.inr (some (.inl (false, 55))), none), (.inl (0, 32767), none), (.inl (0, 65536), none), (.inl (0, 65536), none), (.inr (some (.inl (false, 58))), none)], ([(0, 14, 4)], [(4, ([(1, 1)], 0), 2)], [], [(6003, [0, 1, 3])])), (none, [], ([], [], [([(2, -1), (3, -1)], 65536)], []), [[]]), ([], []), { frames := 0, cells := 0, slots := 0, locals := 0 })
def ag_rnB : aCon := (y_BO_inCheck, false, 3, ([(.inr (some (.inl (false, 62))), none), (.inl (0, 1), none), (.inl (0, 300), none)], ([(0, 5, 1), (0, 6, 2)], [], [], [(5873, [0])])), (none, [], ([], [], [], [(3859, [0, 1, 2])]), [[]]), ([], []), { frames := 0, cells := 0, slots := 0, locals := 0 })
