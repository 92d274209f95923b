/-! the class: best moves -/
def y_SE_isByRule : jY := (⟨"ChessHouse$Search", "isByRule", "()Z"⟩, prog_11_method_5_code, 1, (some .boolean))
theorem m_SE_isByRule : jmth lw_tbl y_SE_isByRule 0 := ⟨jTA_in (wi := 1704) (jtF_ok rfl) rfl, jTA_in (wi := 308) (jtF_ok rfl) rfl, by decide, by decide, by decide +kernel⟩
theorem i_SE_isByRule : Jvm.Cond.instanceMethod y_SE_isByRule.1 ∈ jTA lw_tbl := jTA_in (wi := 1702) (jtF_ok rfl) rfl
theorem e_SE_isByRule : Jvm.Cond.selects y_SE_isByRule.1.cls y_SE_isByRule.1 y_SE_isByRule.1 ∈ jTA lw_tbl := jTA_in (wi := 1703) (jtF_ok rfl) rfl
def y_SE_best : jY := (⟨"ChessHouse$Search", "best", "(II)I"⟩, prog_11_method_4_code, 9, (some .int))
theorem m_SE_best : jmth lw_tbl y_SE_best 2 := ⟨jTA_in (wi := 1666) (jtF_ok rfl) rfl, jTA_in (wi := 308) (jtF_ok rfl) rfl, by decide, by decide, by decide +kernel⟩
theorem i_SE_best : Jvm.Cond.instanceMethod y_SE_best.1 ∈ jTA lw_tbl := jTA_in (wi := 1664) (jtF_ok rfl) rfl
theorem e_SE_best : Jvm.Cond.selects y_SE_best.1.cls y_SE_best.1 y_SE_best.1 ∈ jTA lw_tbl := jTA_in (wi := 1665) (jtF_ok rfl) rfl
