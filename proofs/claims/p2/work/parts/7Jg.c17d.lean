/-! the class: its face -/
def y_WO_take : jY := (⟨"ChessHouse$Words", "take", "([BII)LChessHouse$Command;"⟩, prog_13_method_2_code, 8, (some (.object "ChessHouse$Command")))
theorem m_WO_take : jmth lw_tbl y_WO_take 3 := ⟨jTA_in (wi := 972) (jtF_ok rfl) rfl, jTA_in (wi := 304) (jtF_ok rfl) rfl, by decide, by decide, by decide +kernel⟩
theorem i_WO_take : Jvm.Cond.instanceMethod y_WO_take.1 ∈ jTA lw_tbl := jTA_in (wi := 970) (jtF_ok rfl) rfl
theorem e_WO_take : Jvm.Cond.selects y_WO_take.1.cls y_WO_take.1 y_WO_take.1 ∈ jTA lw_tbl := jTA_in (wi := 971) (jtF_ok rfl) rfl
def y_EN_build : jY := (⟨"ChessHouse$Endings", "build", "(I)[B"⟩, prog_6_method_8_code, 11, (some (.array .byte)))
theorem m_EN_build : jmth lw_tbl y_EN_build 1 := ⟨jTA_in (wi := 1815) (jtF_ok rfl) rfl, jTA_in (wi := 310) (jtF_ok rfl) rfl, by decide, by decide, by decide +kernel⟩
theorem i_EN_build : Jvm.Cond.instanceMethod y_EN_build.1 ∈ jTA lw_tbl := jTA_in (wi := 1814) (jtF_ok rfl) rfl
theorem e_EN_build : Jvm.Cond.selects y_EN_build.1.cls y_EN_build.1 y_EN_build.1 ∈ jTA lw_tbl := jTA_in (wi := 95) (jtF_ok rfl) rfl
def y_EN_prepare : jY := (⟨"ChessHouse$Endings", "prepare", "(LChessHouse$Board;)V"⟩, prog_6_method_2_code, 3, none)
theorem m_EN_prepare : jmth lw_tbl y_EN_prepare 1 := ⟨jTA_in (wi := 1808) (jtF_ok rfl) rfl, jTA_in (wi := 310) (jtF_ok rfl) rfl, by decide, by decide, by decide +kernel⟩
theorem i_EN_prepare : Jvm.Cond.instanceMethod y_EN_prepare.1 ∈ jTA lw_tbl := jTA_in (wi := 1806) (jtF_ok rfl) rfl
theorem e_EN_prepare : Jvm.Cond.selects y_EN_prepare.1.cls y_EN_prepare.1 y_EN_prepare.1 ∈ jTA lw_tbl := jTA_in (wi := 1807) (jtF_ok rfl) rfl
def y_CH_answerEnds : jY := (⟨"ChessHouse", "answerEnds", "()V"⟩, prog_1_method_46_code, 1, none)
theorem m_CH_answerEnds : jmth lw_tbl y_CH_answerEnds 0 := ⟨jTA_in (wi := 1800) (jtF_ok rfl) rfl, jTA_in (wi := 302) (jtF_ok rfl) rfl, by decide, by decide, by decide +kernel⟩
theorem i_CH_answerEnds : Jvm.Cond.instanceMethod y_CH_answerEnds.1 ∈ jTA lw_tbl := jTA_in (wi := 1799) (jtF_ok rfl) rfl
theorem e_CH_answerEnds : Jvm.Cond.selects y_CH_answerEnds.1.cls y_CH_answerEnds.1 y_CH_answerEnds.1 ∈ jTA lw_tbl := jTA_in (wi := 94) (jtF_ok rfl) rfl
def y_CH_perform : jY := (⟨"ChessHouse", "perform", "(LChessHouse$Command;I)V"⟩, prog_1_method_8_code, 5, none)
theorem m_CH_perform : jmth lw_tbl y_CH_perform 2 := ⟨jTA_in (wi := 1040) (jtF_ok rfl) rfl, jTA_in (wi := 302) (jtF_ok rfl) rfl, by decide, by decide, by decide +kernel⟩
theorem i_CH_perform : Jvm.Cond.instanceMethod y_CH_perform.1 ∈ jTA lw_tbl := jTA_in (wi := 1039) (jtF_ok rfl) rfl
theorem e_CH_perform : Jvm.Cond.selects y_CH_perform.1.cls y_CH_perform.1 y_CH_perform.1 ∈ jTA lw_tbl := jTA_in (wi := 6) (jtF_ok rfl) rfl
def ag_WOtakeH : aCon := (y_WO_take, false, 4, ([(.inr (some (.inl (false, 6))), none), (.inr (some (.inl (false, 1))), none), (.inl (0, 65536), none), (.inl (0, 65536), none)], ([], [], [([(3, 1), (2, -1)], 0)], [])), (some (.inr (some (.inr 31003027))), [.inr (some (.inl (false, 1))), .inl (0, 65536), .inl (0, 65536)], ([(0, 3, 5), (0, 2, 6), (0, 4, 7)], [], [([(6, 1), (7, -1)], 0)], []), [[]]), ([(6, 3), (6, 4), (6, 2), (6, 1)], [(7, ([], 0))]), { frames := 5, cells := 0, slots := 0, locals := 109 })
theorem ad_WOtakeH : aGd lw_tbl ag_WOtakeH := ⟨rfl, rfl, m_WO_take, i_WO_take, e_WO_take⟩
def ag_ruFd2 : aCon := (y_BO_inCheck, false, 2, ([(.inl (0, 65536), none), (.inl (0, 65536), none)], ([], [], [([(1, 1), (0, -1)], -8), ([(1, -1), (0, 1)], 8)], [])), (none, [], ([], [], [([(1, 1), (0, -1)], -8), ([(1, -1), (0, 1)], 8)], []), [[]]), ([], []), { frames := 0, cells := 0, slots := 0, locals := 0 })
def ag_ruFd3 : aCon := (y_BO_inCheck, false, 2, ([(.inl (0, 65536), none), (.inl (0, 65536), none)], ([], [], [([(1, 1), (0, -1)], -12), ([(1, -1), (0, 1)], 12)], [])), (none, [], ([], [], [([(1, 1), (0, -1)], -12), ([(1, -1), (0, 1)], 12)], []), [[]]), ([], []), { frames := 0, cells := 0, slots := 0, locals := 0 })
def ag_ruFd4 : aCon := (y_BO_inCheck, false, 2, ([(.inl (0, 65536), none), (.inl (0, 65536), none)], ([], [], [([(1, 1), (0, -1)], -16), ([(1, -1), (0, 1)], 16)], [])), (none, [], ([], [], [([(1, 1), (0, -1)], -16), ([(1, -1), (0, 1)], 16)], []), [[]]), ([], []), { frames := 0, cells := 0, slots := 0, locals := 0 })
def ag_ruFd5 : aCon := (y_BO_inCheck, false, 2, ([(.inl (0, 65536), none), (.inl (0, 65536), none)], ([], [], [([(1, 1), (0, -1)], -20), ([(1, -1), (0, 1)], 20)], [])), (none, [], ([], [], [([(1, 1), (0, -1)], -20), ([(1, -1), (0, 1)], 20)], []), [[]]), ([], []), { frames := 0, cells := 0, slots := 0, locals := 0 })
