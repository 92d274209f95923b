/-! the reference: uF -/
def y_MM_remark : jY := (⟨"ChessHouseModel", "remark", "(I)V"⟩, prog_15_method_38_code, 6, none)
theorem m_MM_remark : jmth lw_tbl y_MM_remark 1 := ⟨jTA_in (wi := 2525) (jtF_ok rfl) rfl, jTA_in (wi := 314) (jtF_ok rfl) rfl, by decide, by decide, by decide +kernel⟩
theorem i_MM_remark : Jvm.Cond.instanceMethod y_MM_remark.1 ∈ jTA lw_tbl := jTA_in (wi := 2524) (jtF_ok rfl) rfl
theorem e_MM_remark : Jvm.Cond.selects y_MM_remark.1.cls y_MM_remark.1 y_MM_remark.1 ∈ jTA lw_tbl := jTA_in (wi := 157) (jtF_ok rfl) rfl
def y_MM_tagAt : jY := (⟨"ChessHouseModel", "tagAt", "(II)I"⟩, prog_15_method_42_code, 7, (some .int))
theorem m_MM_tagAt : jmth lw_tbl y_MM_tagAt 2 := ⟨jTA_in (wi := 2541) (jtF_ok rfl) rfl, jTA_in (wi := 314) (jtF_ok rfl) rfl, by decide, by decide, by decide +kernel⟩
theorem i_MM_tagAt : Jvm.Cond.instanceMethod y_MM_tagAt.1 ∈ jTA lw_tbl := jTA_in (wi := 2540) (jtF_ok rfl) rfl
theorem e_MM_tagAt : Jvm.Cond.selects y_MM_tagAt.1.cls y_MM_tagAt.1 y_MM_tagAt.1 ∈ jTA lw_tbl := jTA_in (wi := 160) (jtF_ok rfl) rfl
def y_MM_tag : jY := (⟨"ChessHouseModel", "tag", "(I)V"⟩, prog_15_method_43_code, 9, none)
theorem m_MM_tag : jmth lw_tbl y_MM_tag 1 := ⟨jTA_in (wi := 2534) (jtF_ok rfl) rfl, jTA_in (wi := 314) (jtF_ok rfl) rfl, by decide, by decide, by decide +kernel⟩
theorem i_MM_tag : Jvm.Cond.instanceMethod y_MM_tag.1 ∈ jTA lw_tbl := jTA_in (wi := 2533) (jtF_ok rfl) rfl
theorem e_MM_tag : Jvm.Cond.selects y_MM_tag.1.cls y_MM_tag.1 y_MM_tag.1 ∈ jTA lw_tbl := jTA_in (wi := 159) (jtF_ok rfl) rfl
def y_MM_endGame : jY := (⟨"ChessHouseModel", "endGame", "()Z"⟩, prog_15_method_40_code, 2, (some .boolean))
theorem m_MM_endGame : jmth lw_tbl y_MM_endGame 0 := ⟨jTA_in (wi := 2842) (jtF_ok rfl) rfl, jTA_in (wi := 314) (jtF_ok rfl) rfl, by decide, by decide, by decide +kernel⟩
theorem i_MM_endGame : Jvm.Cond.instanceMethod y_MM_endGame.1 ∈ jTA lw_tbl := jTA_in (wi := 2841) (jtF_ok rfl) rfl
theorem e_MM_endGame : Jvm.Cond.selects y_MM_endGame.1.cls y_MM_endGame.1 y_MM_endGame.1 ∈ jTA lw_tbl := jTA_in (wi := 221) (jtF_ok rfl) rfl
def y_MM_writeGame : jY := (⟨"ChessHouseModel", "writeGame", "()V"⟩, prog_15_method_31_code, 3, none)
theorem m_MM_writeGame : jmth lw_tbl y_MM_writeGame 0 := ⟨jTA_in (wi := 2733) (jtF_ok rfl) rfl, jTA_in (wi := 314) (jtF_ok rfl) rfl, by decide, by decide, by decide +kernel⟩
theorem i_MM_writeGame : Jvm.Cond.instanceMethod y_MM_writeGame.1 ∈ jTA lw_tbl := jTA_in (wi := 2732) (jtF_ok rfl) rfl
theorem e_MM_writeGame : Jvm.Cond.selects y_MM_writeGame.1.cls y_MM_writeGame.1 y_MM_writeGame.1 ∈ jTA lw_tbl := jTA_in (wi := 200) (jtF_ok rfl) rfl
def y_MM_readGame : jY := (⟨"ChessHouseModel", "readGame", "()V"⟩, prog_15_method_30_code, 5, none)
theorem m_MM_readGame : jmth lw_tbl y_MM_readGame 0 := ⟨jTA_in (wi := 2561) (jtF_ok rfl) rfl, jTA_in (wi := 314) (jtF_ok rfl) rfl, by decide, by decide, by decide +kernel⟩
theorem i_MM_readGame : Jvm.Cond.instanceMethod y_MM_readGame.1 ∈ jTA lw_tbl := jTA_in (wi := 2560) (jtF_ok rfl) rfl
theorem e_MM_readGame : Jvm.Cond.selects y_MM_readGame.1.cls y_MM_readGame.1 y_MM_readGame.1 ∈ jTA lw_tbl := jTA_in (wi := 164) (jtF_ok rfl) rfl
def ag_rnT : aCon := (y_BO_inCheck, false, 1, ([(.inl (-65536, 65536), none)], ([], [], [], [])), (none, [], ([], [], [], []), [[([(0, -1)], 0)], [([(0, 1)], -1)]]), ([], []), { frames := 0, cells := 0, slots := 0, locals := 0 })
def ag_rn0 : aCon := (y_BO_inCheck, false, 1, ([(.inl (-65536, 65536), none)], ([], [], [([(0, 1)], 0)], [])), (none, [], ([], [], [([(0, 1)], 0)], []), [[]]), ([], []), { frames := 0, cells := 0, slots := 0, locals := 0 })
