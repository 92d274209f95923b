/-! the class: think -/
theorem m_SE_makeBest : jmth lw_tbl y_SE_makeBest 0 := ⟨jTA_in (wi := 1700) (jtF_ok rfl) rfl, jTA_in (wi := 308) (jtF_ok rfl) rfl, by decide, by decide, by decide +kernel⟩
theorem i_SE_makeBest : Jvm.Cond.instanceMethod y_SE_makeBest.1 ∈ jTA lw_tbl := jTA_in (wi := 1698) (jtF_ok rfl) rfl
theorem e_SE_makeBest : Jvm.Cond.selects y_SE_makeBest.1.cls y_SE_makeBest.1 y_SE_makeBest.1 ∈ jTA lw_tbl := jTA_in (wi := 1699) (jtF_ok rfl) rfl
theorem m_SE_takeBack : jmth lw_tbl y_SE_takeBack 0 := ⟨jTA_in (wi := 1708) (jtF_ok rfl) rfl, jTA_in (wi := 308) (jtF_ok rfl) rfl, by decide, by decide, by decide +kernel⟩
theorem i_SE_takeBack : Jvm.Cond.instanceMethod y_SE_takeBack.1 ∈ jTA lw_tbl := jTA_in (wi := 1706) (jtF_ok rfl) rfl
theorem e_SE_takeBack : Jvm.Cond.selects y_SE_takeBack.1.cls y_SE_takeBack.1 y_SE_takeBack.1 ∈ jTA lw_tbl := jTA_in (wi := 1707) (jtF_ok rfl) rfl
theorem m_CH_think : jmth lw_tbl y_CH_think 0 := ⟨jTA_in (wi := 1656) (jtF_ok rfl) rfl, jTA_in (wi := 302) (jtF_ok rfl) rfl, by decide, by decide, by decide +kernel⟩
theorem i_CH_think : Jvm.Cond.instanceMethod y_CH_think.1 ∈ jTA lw_tbl := jTA_in (wi := 1655) (jtF_ok rfl) rfl
theorem e_CH_think : Jvm.Cond.selects y_CH_think.1.cls y_CH_think.1 y_CH_think.1 ∈ jTA lw_tbl := jTA_in (wi := 73) (jtF_ok rfl) rfl
