/-! the class: looking up an ending -/
theorem m_EN_distanceOf : jmth lw_tbl y_EN_distanceOf 2 := ⟨jTA_in (wi := 1873) (jtF_ok rfl) rfl, jTA_in (wi := 310) (jtF_ok rfl) rfl, by decide, by decide, by decide +kernel⟩
theorem i_EN_distanceOf : Jvm.Cond.instanceMethod y_EN_distanceOf.1 ∈ jTA lw_tbl := jTA_in (wi := 1872) (jtF_ok rfl) rfl
theorem e_EN_distanceOf : Jvm.Cond.selects y_EN_distanceOf.1.cls y_EN_distanceOf.1 y_EN_distanceOf.1 ∈ jTA lw_tbl := jTA_in (wi := 105) (jtF_ok rfl) rfl
theorem m_EN_look : jmth lw_tbl y_EN_look 1 := ⟨jTA_in (wi := 1869) (jtF_ok rfl) rfl, jTA_in (wi := 310) (jtF_ok rfl) rfl, by decide, by decide, by decide +kernel⟩
theorem i_EN_look : Jvm.Cond.instanceMethod y_EN_look.1 ∈ jTA lw_tbl := jTA_in (wi := 1867) (jtF_ok rfl) rfl
theorem e_EN_look : Jvm.Cond.selects y_EN_look.1.cls y_EN_look.1 y_EN_look.1 ∈ jTA lw_tbl := jTA_in (wi := 1868) (jtF_ok rfl) rfl
