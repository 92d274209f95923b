def y_MT_sideOf : jY := (⟨"ChessHouseModel$Texts", "sideOf", "(I)I"⟩, prog_18_method_4_code, 1, (some .int))
theorem m_MT_sideOf : jmth lw_tbl y_MT_sideOf 1 := ⟨jTA_in (wi := 1965) (by decide +kernel) rfl, jTA_in (wi := 315) (by decide +kernel) rfl, by decide, by decide, by decide +kernel⟩
theorem s_MT_sideOf : Jvm.Cond.static y_MT_sideOf.1 ∈ jTA lw_tbl := jTA_in (wi := 1964) (by decide +kernel) rfl
def k_MT_sideOf_0 : List jI := [(.iload_n 0, 1, (0, 0, 0, 0, 0)), (.ifCond .ne 7, 3, (8, 0, 0, 0, 0)), (.iconst (-1), 1, (0, 0, 0, (-1), 0)), (.goto 6, 3, (11, 0, 0, 0, 0))]
theorem o_MT_sideOf_0 : jokL "ChessHouseModel$Texts" lw_tbl jcl jtb 1 false prog_18_method_4_code 0 k_MT_sideOf_0 = true := by decide +kernel
def k_MT_sideOf_8 : List jI := [(.iload_n 0, 1, (0, 0, 0, 0, 0)), (.iconst 3, 1, (0, 0, 0, 3, 0)), (.ishr, 1, (0, 0, 0, 0, 0))]
theorem o_MT_sideOf_8 : jokL "ChessHouseModel$Texts" lw_tbl jcl jtb 1 false prog_18_method_4_code 8 k_MT_sideOf_8 = true := by decide +kernel
theorem d_MT_sideOf_11 : decode prog_18_method_4_code 11 = .ok (.ireturn, 1) := by decide +kernel
def y_MT_step : jY := (⟨"ChessHouseModel$Texts", "step", "(III)I"⟩, prog_18_method_5_code, 5, (some .int))
theorem m_MT_step : jmth lw_tbl y_MT_step 3 := ⟨jTA_in (wi := 1954) (by decide +kernel) rfl, jTA_in (wi := 315) (by decide +kernel) rfl, by decide, by decide, by decide +kernel⟩
theorem s_MT_step : Jvm.Cond.static y_MT_step.1 ∈ jTA lw_tbl := jTA_in (wi := 1953) (by decide +kernel) rfl
def k_MT_step_0 : List jI := [(.iload_n 0, 1, (0, 0, 0, 0, 0)), (.bipush 8, 2, (0, 0, 0, 8, 0)), (.irem, 1, (0, 0, 0, 0, 0)), (.iload_n 1, 1, (1, 0, 0, 0, 0)), (.iadd, 1, (0, 0, 0, 0, 0)), (.istore_n 3, 1, (3, 0, 0, 0, 0)), (.iload_n 0, 1, (0, 0, 0, 0, 0)), (.bipush 8, 2, (0, 0, 0, 8, 0)), (.idiv, 1, (0, 0, 0, 0, 0)), (.iload_n 2, 1, (2, 0, 0, 0, 0)), (.iadd, 1, (0, 0, 0, 0, 0)), (.istore 4, 2, (4, 0, 0, 0, 0)), (.iload_n 3, 1, (3, 0, 0, 0, 0)), (.ifCond .lt 31, 3, (47, 0, 0, 0, 0)), (.iload_n 3, 1, (3, 0, 0, 0, 0)), (.bipush 8, 2, (0, 0, 0, 8, 0)), (.if_icmp .ge 25, 3, (47, 0, 0, 0, 0)), (.iload 4, 2, (4, 0, 0, 0, 0)), (.ifCond .lt 20, 3, (47, 0, 0, 0, 0)), (.iload 4, 2, (4, 0, 0, 0, 0)), (.bipush 8, 2, (0, 0, 0, 8, 0)), (.if_icmp .ge 13, 3, (47, 0, 0, 0, 0)), (.bipush 8, 2, (0, 0, 0, 8, 0)), (.iload 4, 2, (4, 0, 0, 0, 0)), (.imul, 1, (0, 0, 0, 0, 0)), (.iload_n 3, 1, (3, 0, 0, 0, 0)), (.iadd, 1, (0, 0, 0, 0, 0)), (.goto 4, 3, (48, 0, 0, 0, 0))]
theorem o_MT_step_0 : jokL "ChessHouseModel$Texts" lw_tbl jcl jtb 5 false prog_18_method_5_code 0 k_MT_step_0 = true := by decide +kernel
def k_MT_step_47 : List jI := [(.iconst (-1), 1, (0, 0, 0, (-1), 0))]
theorem o_MT_step_47 : jokL "ChessHouseModel$Texts" lw_tbl jcl jtb 5 false prog_18_method_5_code 47 k_MT_step_47 = true := by decide +kernel
theorem d_MT_step_48 : decode prog_18_method_5_code 48 = .ok (.ireturn, 1) := by decide +kernel
def y_MT_stands : jY := (⟨"ChessHouseModel$Texts", "stands", "(II)Z"⟩, prog_18_method_6_code, 3, (some .boolean))
theorem m_MT_stands : jmth lw_tbl y_MT_stands 2 := ⟨jTA_in (wi := 1958) (by decide +kernel) rfl, jTA_in (wi := 315) (by decide +kernel) rfl, by decide, by decide, by decide +kernel⟩
theorem i_MT_stands : Jvm.Cond.instanceMethod y_MT_stands.1 ∈ jTA lw_tbl := jTA_in (wi := 1957) (by decide +kernel) rfl
theorem e_MT_stands : Jvm.Cond.selects y_MT_stands.1.cls y_MT_stands.1 y_MT_stands.1 ∈ jTA lw_tbl := jTA_in (wi := 114) (by decide +kernel) rfl
def k_MT_stands_0 : List jI := [(.iload_n 1, 1, (1, 0, 0, 0, 0)), (.ifCond .lt 17, 3, (18, 0, 0, 0, 0)), (.aload_n 0, 1, (0, 0, 0, 0, 0)), (.getfield 71, 3, (12, 24, 2055, 0, 0)), (.iload_n 1, 1, (1, 0, 0, 0, 0)), (.iaload, 1, (0, 0, 0, 0, 0)), (.iload_n 2, 1, (2, 0, 0, 0, 0)), (.if_icmp .ne 7, 3, (18, 0, 0, 0, 0)), (.iconst 1, 1, (0, 0, 0, 1, 0)), (.goto 4, 3, (19, 0, 0, 0, 0))]
theorem o_MT_stands_0 : jokL "ChessHouseModel$Texts" lw_tbl jcl jtb 3 false prog_18_method_6_code 0 k_MT_stands_0 = true := by decide +kernel
def k_MT_stands_18 : List jI := [(.iconst 0, 1, (0, 0, 0, 0, 0))]
theorem o_MT_stands_18 : jokL "ChessHouseModel$Texts" lw_tbl jcl jtb 3 false prog_18_method_6_code 18 k_MT_stands_18 = true := by decide +kernel
theorem d_MT_stands_19 : decode prog_18_method_6_code 19 = .ok (.ireturn, 1) := by decide +kernel
def y_MT_met : jY := (⟨"ChessHouseModel$Texts", "met", "(III)I"⟩, prog_18_method_7_code, 5, (some .int))
theorem m_MT_met : jmth lw_tbl y_MT_met 3 := ⟨jTA_in (wi := 1989) (by decide +kernel) rfl, jTA_in (wi := 315) (by decide +kernel) rfl, by decide, by decide, by decide +kernel⟩
theorem i_MT_met : Jvm.Cond.instanceMethod y_MT_met.1 ∈ jTA lw_tbl := jTA_in (wi := 1988) (by decide +kernel) rfl
theorem e_MT_met : Jvm.Cond.selects y_MT_met.1.cls y_MT_met.1 y_MT_met.1 ∈ jTA lw_tbl := jTA_in (wi := 121) (by decide +kernel) rfl
def k_MT_met_0 : List jI := [(.iload_n 1, 1, (1, 0, 0, 0, 0)), (.iload_n 2, 1, (2, 0, 0, 0, 0)), (.iload_n 3, 1, (3, 0, 0, 0, 0))]
theorem o_MT_met_0 : jokL "ChessHouseModel$Texts" lw_tbl jcl jtb 5 false prog_18_method_7_code 0 k_MT_met_0 = true := by decide +kernel
def k_MT_met_6 : List jI := [(.istore 4, 2, (4, 0, 0, 0, 0))]
theorem o_MT_met_6 : jokL "ChessHouseModel$Texts" lw_tbl jcl jtb 5 false prog_18_method_7_code 6 k_MT_met_6 = true := by decide +kernel
def k_MT_met_8 : List jI := [(.iload 4, 2, (4, 0, 0, 0, 0)), (.ifCond .lt 25, 3, (35, 0, 0, 0, 0)), (.aload_n 0, 1, (0, 0, 0, 0, 0)), (.getfield 71, 3, (12, 24, 2055, 0, 0)), (.iload 4, 2, (4, 0, 0, 0, 0)), (.iaload, 1, (0, 0, 0, 0, 0)), (.ifCond .ne 15, 3, (35, 0, 0, 0, 0)), (.iload 4, 2, (4, 0, 0, 0, 0)), (.iload_n 2, 1, (2, 0, 0, 0, 0)), (.iload_n 3, 1, (3, 0, 0, 0, 0))]
theorem o_MT_met_8 : jokL "ChessHouseModel$Texts" lw_tbl jcl jtb 5 false prog_18_method_7_code 8 k_MT_met_8 = true := by decide +kernel
def k_MT_met_30 : List jI := [(.istore 4, 2, (4, 0, 0, 0, 0)), (.goto (-24), 3, (8, 0, 0, 0, 0))]
theorem o_MT_met_30 : jokL "ChessHouseModel$Texts" lw_tbl jcl jtb 5 false prog_18_method_7_code 30 k_MT_met_30 = true := by decide +kernel
def k_MT_met_35 : List jI := [(.iload 4, 2, (4, 0, 0, 0, 0)), (.ifCond .ge 7, 3, (44, 0, 0, 0, 0)), (.iconst 0, 1, (0, 0, 0, 0, 0)), (.goto 10, 3, (51, 0, 0, 0, 0))]
theorem o_MT_met_35 : jokL "ChessHouseModel$Texts" lw_tbl jcl jtb 5 false prog_18_method_7_code 35 k_MT_met_35 = true := by decide +kernel
def k_MT_met_44 : List jI := [(.aload_n 0, 1, (0, 0, 0, 0, 0)), (.getfield 71, 3, (12, 24, 2055, 0, 0)), (.iload 4, 2, (4, 0, 0, 0, 0)), (.iaload, 1, (0, 0, 0, 0, 0))]
theorem o_MT_met_44 : jokL "ChessHouseModel$Texts" lw_tbl jcl jtb 5 false prog_18_method_7_code 44 k_MT_met_44 = true := by decide +kernel
theorem d_MT_met_3 : decode prog_18_method_7_code 3 = .ok (.invokestatic 104, 3) := by decide +kernel
theorem q_MT_met_3 : jlm lw_tbl 1952 "ChessHouseModel$Texts" 104 ⟨"ChessHouseModel$Texts", "step", "(III)I"⟩ = true := by decide +kernel
theorem d_MT_met_27 : decode prog_18_method_7_code 27 = .ok (.invokestatic 104, 3) := by decide +kernel
theorem q_MT_met_27 : jlm lw_tbl 1952 "ChessHouseModel$Texts" 104 ⟨"ChessHouseModel$Texts", "step", "(III)I"⟩ = true := by decide +kernel
theorem d_MT_met_51 : decode prog_18_method_7_code 51 = .ok (.ireturn, 1) := by decide +kernel
def y_MT_isAttacked : jY := (⟨"ChessHouseModel$Texts", "isAttacked", "(II)Z"⟩, prog_18_method_8_code, 10, (some .boolean))
theorem m_MT_isAttacked : jmth lw_tbl y_MT_isAttacked 2 := ⟨jTA_in (wi := 1985) (by decide +kernel) rfl, jTA_in (wi := 315) (by decide +kernel) rfl, by decide, by decide, by decide +kernel⟩
theorem i_MT_isAttacked : Jvm.Cond.instanceMethod y_MT_isAttacked.1 ∈ jTA lw_tbl := jTA_in (wi := 1984) (by decide +kernel) rfl
theorem e_MT_isAttacked : Jvm.Cond.selects y_MT_isAttacked.1.cls y_MT_isAttacked.1 y_MT_isAttacked.1 ∈ jTA lw_tbl := jTA_in (wi := 120) (by decide +kernel) rfl
def k_MT_isAttacked_0 : List jI := [(.bipush 8, 2, (0, 0, 0, 8, 0)), (.iload_n 2, 1, (2, 0, 0, 0, 0)), (.imul, 1, (0, 0, 0, 0, 0)), (.istore_n 3, 1, (3, 0, 0, 0, 0)), (.iload_n 2, 1, (2, 0, 0, 0, 0)), (.ifCond .ne 7, 3, (13, 0, 0, 0, 0)), (.iconst (-1), 1, (0, 0, 0, (-1), 0)), (.goto 4, 3, (14, 0, 0, 0, 0))]
theorem o_MT_isAttacked_0 : jokL "ChessHouseModel$Texts" lw_tbl jcl jtb 10 false prog_18_method_8_code 0 k_MT_isAttacked_0 = true := by decide +kernel
def k_MT_isAttacked_13 : List jI := [(.iconst 1, 1, (0, 0, 0, 1, 0)), (.istore 4, 2, (4, 0, 0, 0, 0)), (.aload_n 0, 1, (0, 0, 0, 0, 0)), (.iload_n 1, 1, (1, 0, 0, 0, 0)), (.iconst (-1), 1, (0, 0, 0, (-1), 0)), (.iload 4, 2, (4, 0, 0, 0, 0))]
theorem o_MT_isAttacked_13 : jokL "ChessHouseModel$Texts" lw_tbl jcl jtb 10 false prog_18_method_8_code 13 k_MT_isAttacked_13 = true := by decide +kernel
def k_MT_isAttacked_14 : List jI := [(.istore 4, 2, (4, 0, 0, 0, 0)), (.aload_n 0, 1, (0, 0, 0, 0, 0)), (.iload_n 1, 1, (1, 0, 0, 0, 0)), (.iconst (-1), 1, (0, 0, 0, (-1), 0)), (.iload 4, 2, (4, 0, 0, 0, 0))]
theorem o_MT_isAttacked_14 : jokL "ChessHouseModel$Texts" lw_tbl jcl jtb 10 false prog_18_method_8_code 14 k_MT_isAttacked_14 = true := by decide +kernel
def k_MT_isAttacked_24 : List jI := [(.iconst 1, 1, (0, 0, 0, 1, 0)), (.iload_n 3, 1, (3, 0, 0, 0, 0)), (.iadd, 1, (0, 0, 0, 0, 0))]
theorem o_MT_isAttacked_24 : jokL "ChessHouseModel$Texts" lw_tbl jcl jtb 10 false prog_18_method_8_code 24 k_MT_isAttacked_24 = true := by decide +kernel
def k_MT_isAttacked_30 : List jI := [(.ifCond .ne 20, 3, (50, 0, 0, 0, 0)), (.aload_n 0, 1, (0, 0, 0, 0, 0)), (.iload_n 1, 1, (1, 0, 0, 0, 0)), (.iconst 1, 1, (0, 0, 0, 1, 0)), (.iload 4, 2, (4, 0, 0, 0, 0))]
theorem o_MT_isAttacked_30 : jokL "ChessHouseModel$Texts" lw_tbl jcl jtb 10 false prog_18_method_8_code 30 k_MT_isAttacked_30 = true := by decide +kernel
def k_MT_isAttacked_41 : List jI := [(.iconst 1, 1, (0, 0, 0, 1, 0)), (.iload_n 3, 1, (3, 0, 0, 0, 0)), (.iadd, 1, (0, 0, 0, 0, 0))]
theorem o_MT_isAttacked_41 : jokL "ChessHouseModel$Texts" lw_tbl jcl jtb 10 false prog_18_method_8_code 41 k_MT_isAttacked_41 = true := by decide +kernel
def k_MT_isAttacked_47 : List jI := [(.ifCond .eq 7, 3, (54, 0, 0, 0, 0)), (.iconst 1, 1, (0, 0, 0, 1, 0)), (.goto 4, 3, (55, 0, 0, 0, 0))]
theorem o_MT_isAttacked_47 : jokL "ChessHouseModel$Texts" lw_tbl jcl jtb 10 false prog_18_method_8_code 47 k_MT_isAttacked_47 = true := by decide +kernel
def k_MT_isAttacked_50 : List jI := [(.iconst 1, 1, (0, 0, 0, 1, 0)), (.goto 4, 3, (55, 0, 0, 0, 0))]
theorem o_MT_isAttacked_50 : jokL "ChessHouseModel$Texts" lw_tbl jcl jtb 10 false prog_18_method_8_code 50 k_MT_isAttacked_50 = true := by decide +kernel
def k_MT_isAttacked_54 : List jI := [(.iconst 0, 1, (0, 0, 0, 0, 0)), (.istore 5, 2, (5, 0, 0, 0, 0)), (.bipush (-2), 2, (0, 0, 0, (-2), 0)), (.istore 6, 2, (6, 0, 0, 0, 0))]
theorem o_MT_isAttacked_54 : jokL "ChessHouseModel$Texts" lw_tbl jcl jtb 10 false prog_18_method_8_code 54 k_MT_isAttacked_54 = true := by decide +kernel
def k_MT_isAttacked_55 : List jI := [(.istore 5, 2, (5, 0, 0, 0, 0)), (.bipush (-2), 2, (0, 0, 0, (-2), 0)), (.istore 6, 2, (6, 0, 0, 0, 0))]
theorem o_MT_isAttacked_55 : jokL "ChessHouseModel$Texts" lw_tbl jcl jtb 10 false prog_18_method_8_code 55 k_MT_isAttacked_55 = true := by decide +kernel
def k_MT_isAttacked_61 : List jI := [(.iload 6, 2, (6, 0, 0, 0, 0)), (.iconst 3, 1, (0, 0, 0, 3, 0)), (.if_icmp .ge 165, 3, (229, 0, 0, 0, 0)), (.bipush (-2), 2, (0, 0, 0, (-2), 0)), (.istore 7, 2, (7, 0, 0, 0, 0))]
theorem o_MT_isAttacked_61 : jokL "ChessHouseModel$Texts" lw_tbl jcl jtb 10 false prog_18_method_8_code 61 k_MT_isAttacked_61 = true := by decide +kernel
def k_MT_isAttacked_71 : List jI := [(.iload 7, 2, (7, 0, 0, 0, 0)), (.iconst 3, 1, (0, 0, 0, 3, 0)), (.if_icmp .ge 149, 3, (223, 0, 0, 0, 0)), (.iload 6, 2, (6, 0, 0, 0, 0)), (.iload 6, 2, (6, 0, 0, 0, 0)), (.imul, 1, (0, 0, 0, 0, 0)), (.iload 7, 2, (7, 0, 0, 0, 0)), (.iload 7, 2, (7, 0, 0, 0, 0)), (.imul, 1, (0, 0, 0, 0, 0)), (.iadd, 1, (0, 0, 0, 0, 0)), (.istore 8, 2, (8, 0, 0, 0, 0)), (.iload 5, 2, (5, 0, 0, 0, 0)), (.ifCond .ne 57, 3, (149, 0, 0, 0, 0)), (.iload 8, 2, (8, 0, 0, 0, 0)), (.iconst 5, 1, (0, 0, 0, 5, 0)), (.if_icmp .ne 21, 3, (119, 0, 0, 0, 0)), (.aload_n 0, 1, (0, 0, 0, 0, 0)), (.iload_n 1, 1, (1, 0, 0, 0, 0)), (.iload 6, 2, (6, 0, 0, 0, 0)), (.iload 7, 2, (7, 0, 0, 0, 0))]
theorem o_MT_isAttacked_71 : jokL "ChessHouseModel$Texts" lw_tbl jcl jtb 10 false prog_18_method_8_code 71 k_MT_isAttacked_71 = true := by decide +kernel
def k_MT_isAttacked_110 : List jI := [(.iconst 2, 1, (0, 0, 0, 2, 0)), (.iload_n 3, 1, (3, 0, 0, 0, 0)), (.iadd, 1, (0, 0, 0, 0, 0))]
theorem o_MT_isAttacked_110 : jokL "ChessHouseModel$Texts" lw_tbl jcl jtb 10 false prog_18_method_8_code 110 k_MT_isAttacked_110 = true := by decide +kernel
def k_MT_isAttacked_116 : List jI := [(.ifCond .ne 33, 3, (149, 0, 0, 0, 0)), (.iload 8, 2, (8, 0, 0, 0, 0)), (.ifCond .le 32, 3, (153, 0, 0, 0, 0)), (.iload 8, 2, (8, 0, 0, 0, 0)), (.iconst 3, 1, (0, 0, 0, 3, 0)), (.if_icmp .ge 26, 3, (153, 0, 0, 0, 0)), (.aload_n 0, 1, (0, 0, 0, 0, 0)), (.iload_n 1, 1, (1, 0, 0, 0, 0)), (.iload 6, 2, (6, 0, 0, 0, 0)), (.iload 7, 2, (7, 0, 0, 0, 0))]
theorem o_MT_isAttacked_116 : jokL "ChessHouseModel$Texts" lw_tbl jcl jtb 10 false prog_18_method_8_code 116 k_MT_isAttacked_116 = true := by decide +kernel
def k_MT_isAttacked_119 : List jI := [(.iload 8, 2, (8, 0, 0, 0, 0)), (.ifCond .le 32, 3, (153, 0, 0, 0, 0)), (.iload 8, 2, (8, 0, 0, 0, 0)), (.iconst 3, 1, (0, 0, 0, 3, 0)), (.if_icmp .ge 26, 3, (153, 0, 0, 0, 0)), (.aload_n 0, 1, (0, 0, 0, 0, 0)), (.iload_n 1, 1, (1, 0, 0, 0, 0)), (.iload 6, 2, (6, 0, 0, 0, 0)), (.iload 7, 2, (7, 0, 0, 0, 0))]
theorem o_MT_isAttacked_119 : jokL "ChessHouseModel$Texts" lw_tbl jcl jtb 10 false prog_18_method_8_code 119 k_MT_isAttacked_119 = true := by decide +kernel
def k_MT_isAttacked_139 : List jI := [(.bipush 6, 2, (0, 0, 0, 6, 0)), (.iload_n 3, 1, (3, 0, 0, 0, 0)), (.iadd, 1, (0, 0, 0, 0, 0))]
theorem o_MT_isAttacked_139 : jokL "ChessHouseModel$Texts" lw_tbl jcl jtb 10 false prog_18_method_8_code 139 k_MT_isAttacked_139 = true := by decide +kernel
def k_MT_isAttacked_146 : List jI := [(.ifCond .eq 7, 3, (153, 0, 0, 0, 0)), (.iconst 1, 1, (0, 0, 0, 1, 0)), (.goto 4, 3, (154, 0, 0, 0, 0))]
theorem o_MT_isAttacked_146 : jokL "ChessHouseModel$Texts" lw_tbl jcl jtb 10 false prog_18_method_8_code 146 k_MT_isAttacked_146 = true := by decide +kernel
def k_MT_isAttacked_149 : List jI := [(.iconst 1, 1, (0, 0, 0, 1, 0)), (.goto 4, 3, (154, 0, 0, 0, 0))]
theorem o_MT_isAttacked_149 : jokL "ChessHouseModel$Texts" lw_tbl jcl jtb 10 false prog_18_method_8_code 149 k_MT_isAttacked_149 = true := by decide +kernel
def k_MT_isAttacked_153 : List jI := [(.iconst 0, 1, (0, 0, 0, 0, 0)), (.istore 5, 2, (5, 0, 0, 0, 0)), (.iload 8, 2, (8, 0, 0, 0, 0)), (.iconst 1, 1, (0, 0, 0, 1, 0)), (.if_icmp .eq 9, 3, (168, 0, 0, 0, 0)), (.iload 8, 2, (8, 0, 0, 0, 0)), (.iconst 2, 1, (0, 0, 0, 2, 0)), (.if_icmp .ne 52, 3, (217, 0, 0, 0, 0)), (.aload_n 0, 1, (0, 0, 0, 0, 0)), (.iload_n 1, 1, (1, 0, 0, 0, 0)), (.iload 6, 2, (6, 0, 0, 0, 0)), (.iload 7, 2, (7, 0, 0, 0, 0))]
theorem o_MT_isAttacked_153 : jokL "ChessHouseModel$Texts" lw_tbl jcl jtb 10 false prog_18_method_8_code 153 k_MT_isAttacked_153 = true := by decide +kernel
def k_MT_isAttacked_154 : List jI := [(.istore 5, 2, (5, 0, 0, 0, 0)), (.iload 8, 2, (8, 0, 0, 0, 0)), (.iconst 1, 1, (0, 0, 0, 1, 0)), (.if_icmp .eq 9, 3, (168, 0, 0, 0, 0)), (.iload 8, 2, (8, 0, 0, 0, 0)), (.iconst 2, 1, (0, 0, 0, 2, 0)), (.if_icmp .ne 52, 3, (217, 0, 0, 0, 0)), (.aload_n 0, 1, (0, 0, 0, 0, 0)), (.iload_n 1, 1, (1, 0, 0, 0, 0)), (.iload 6, 2, (6, 0, 0, 0, 0)), (.iload 7, 2, (7, 0, 0, 0, 0))]
theorem o_MT_isAttacked_154 : jokL "ChessHouseModel$Texts" lw_tbl jcl jtb 10 false prog_18_method_8_code 154 k_MT_isAttacked_154 = true := by decide +kernel
def k_MT_isAttacked_168 : List jI := [(.aload_n 0, 1, (0, 0, 0, 0, 0)), (.iload_n 1, 1, (1, 0, 0, 0, 0)), (.iload 6, 2, (6, 0, 0, 0, 0)), (.iload 7, 2, (7, 0, 0, 0, 0))]
theorem o_MT_isAttacked_168 : jokL "ChessHouseModel$Texts" lw_tbl jcl jtb 10 false prog_18_method_8_code 168 k_MT_isAttacked_168 = true := by decide +kernel
def k_MT_isAttacked_177 : List jI := [(.istore 9, 2, (9, 0, 0, 0, 0)), (.iload 5, 2, (5, 0, 0, 0, 0)), (.ifCond .ne 29, 3, (210, 0, 0, 0, 0)), (.iload 9, 2, (9, 0, 0, 0, 0)), (.iconst 5, 1, (0, 0, 0, 5, 0)), (.iload_n 3, 1, (3, 0, 0, 0, 0)), (.iadd, 1, (0, 0, 0, 0, 0)), (.if_icmp .eq 21, 3, (210, 0, 0, 0, 0)), (.iload 9, 2, (9, 0, 0, 0, 0)), (.iload 8, 2, (8, 0, 0, 0, 0)), (.iconst 1, 1, (0, 0, 0, 1, 0)), (.if_icmp .ne 7, 3, (204, 0, 0, 0, 0)), (.iconst 4, 1, (0, 0, 0, 4, 0)), (.goto 4, 3, (205, 0, 0, 0, 0))]
theorem o_MT_isAttacked_177 : jokL "ChessHouseModel$Texts" lw_tbl jcl jtb 10 false prog_18_method_8_code 177 k_MT_isAttacked_177 = true := by decide +kernel
def k_MT_isAttacked_204 : List jI := [(.iconst 3, 1, (0, 0, 0, 3, 0)), (.iload_n 3, 1, (3, 0, 0, 0, 0)), (.iadd, 1, (0, 0, 0, 0, 0)), (.if_icmp .ne 7, 3, (214, 0, 0, 0, 0)), (.iconst 1, 1, (0, 0, 0, 1, 0)), (.goto 4, 3, (215, 0, 0, 0, 0))]
theorem o_MT_isAttacked_204 : jokL "ChessHouseModel$Texts" lw_tbl jcl jtb 10 false prog_18_method_8_code 204 k_MT_isAttacked_204 = true := by decide +kernel
def k_MT_isAttacked_205 : List jI := [(.iload_n 3, 1, (3, 0, 0, 0, 0)), (.iadd, 1, (0, 0, 0, 0, 0)), (.if_icmp .ne 7, 3, (214, 0, 0, 0, 0)), (.iconst 1, 1, (0, 0, 0, 1, 0)), (.goto 4, 3, (215, 0, 0, 0, 0))]
theorem o_MT_isAttacked_205 : jokL "ChessHouseModel$Texts" lw_tbl jcl jtb 10 false prog_18_method_8_code 205 k_MT_isAttacked_205 = true := by decide +kernel
def k_MT_isAttacked_210 : List jI := [(.iconst 1, 1, (0, 0, 0, 1, 0)), (.goto 4, 3, (215, 0, 0, 0, 0))]
theorem o_MT_isAttacked_210 : jokL "ChessHouseModel$Texts" lw_tbl jcl jtb 10 false prog_18_method_8_code 210 k_MT_isAttacked_210 = true := by decide +kernel
def k_MT_isAttacked_214 : List jI := [(.iconst 0, 1, (0, 0, 0, 0, 0)), (.istore 5, 2, (5, 0, 0, 0, 0)), (.iinc 7 1, 3, (0, 0, 0, 1, 0)), (.goto (-149), 3, (71, 0, 0, 0, 0))]
theorem o_MT_isAttacked_214 : jokL "ChessHouseModel$Texts" lw_tbl jcl jtb 10 false prog_18_method_8_code 214 k_MT_isAttacked_214 = true := by decide +kernel
def k_MT_isAttacked_215 : List jI := [(.istore 5, 2, (5, 0, 0, 0, 0)), (.iinc 7 1, 3, (0, 0, 0, 1, 0)), (.goto (-149), 3, (71, 0, 0, 0, 0))]
theorem o_MT_isAttacked_215 : jokL "ChessHouseModel$Texts" lw_tbl jcl jtb 10 false prog_18_method_8_code 215 k_MT_isAttacked_215 = true := by decide +kernel
def k_MT_isAttacked_217 : List jI := [(.iinc 7 1, 3, (0, 0, 0, 1, 0)), (.goto (-149), 3, (71, 0, 0, 0, 0))]
theorem o_MT_isAttacked_217 : jokL "ChessHouseModel$Texts" lw_tbl jcl jtb 10 false prog_18_method_8_code 217 k_MT_isAttacked_217 = true := by decide +kernel
def k_MT_isAttacked_223 : List jI := [(.iinc 6 1, 3, (0, 0, 0, 1, 0)), (.goto (-165), 3, (61, 0, 0, 0, 0))]
theorem o_MT_isAttacked_223 : jokL "ChessHouseModel$Texts" lw_tbl jcl jtb 10 false prog_18_method_8_code 223 k_MT_isAttacked_223 = true := by decide +kernel
def k_MT_isAttacked_229 : List jI := [(.iload 5, 2, (5, 0, 0, 0, 0))]
theorem o_MT_isAttacked_229 : jokL "ChessHouseModel$Texts" lw_tbl jcl jtb 10 false prog_18_method_8_code 229 k_MT_isAttacked_229 = true := by decide +kernel
theorem d_MT_isAttacked_21 : decode prog_18_method_8_code 21 = .ok (.invokestatic 104, 3) := by decide +kernel
theorem q_MT_isAttacked_21 : jlm lw_tbl 1952 "ChessHouseModel$Texts" 104 ⟨"ChessHouseModel$Texts", "step", "(III)I"⟩ = true := by decide +kernel
theorem d_MT_isAttacked_27 : decode prog_18_method_8_code 27 = .ok (.invokevirtual 108, 3) := by decide +kernel
theorem q_MT_isAttacked_27 : jlm lw_tbl 1955 "ChessHouseModel$Texts" 108 ⟨"ChessHouseModel$Texts", "stands", "(II)Z"⟩ = true := by decide +kernel
theorem d_MT_isAttacked_38 : decode prog_18_method_8_code 38 = .ok (.invokestatic 104, 3) := by decide +kernel
theorem q_MT_isAttacked_38 : jlm lw_tbl 1952 "ChessHouseModel$Texts" 104 ⟨"ChessHouseModel$Texts", "step", "(III)I"⟩ = true := by decide +kernel
theorem d_MT_isAttacked_44 : decode prog_18_method_8_code 44 = .ok (.invokevirtual 108, 3) := by decide +kernel
theorem q_MT_isAttacked_44 : jlm lw_tbl 1955 "ChessHouseModel$Texts" 108 ⟨"ChessHouseModel$Texts", "stands", "(II)Z"⟩ = true := by decide +kernel
theorem d_MT_isAttacked_107 : decode prog_18_method_8_code 107 = .ok (.invokestatic 104, 3) := by decide +kernel
theorem q_MT_isAttacked_107 : jlm lw_tbl 1952 "ChessHouseModel$Texts" 104 ⟨"ChessHouseModel$Texts", "step", "(III)I"⟩ = true := by decide +kernel
theorem d_MT_isAttacked_113 : decode prog_18_method_8_code 113 = .ok (.invokevirtual 108, 3) := by decide +kernel
theorem q_MT_isAttacked_113 : jlm lw_tbl 1955 "ChessHouseModel$Texts" 108 ⟨"ChessHouseModel$Texts", "stands", "(II)Z"⟩ = true := by decide +kernel
theorem d_MT_isAttacked_136 : decode prog_18_method_8_code 136 = .ok (.invokestatic 104, 3) := by decide +kernel
theorem q_MT_isAttacked_136 : jlm lw_tbl 1952 "ChessHouseModel$Texts" 104 ⟨"ChessHouseModel$Texts", "step", "(III)I"⟩ = true := by decide +kernel
theorem d_MT_isAttacked_143 : decode prog_18_method_8_code 143 = .ok (.invokevirtual 108, 3) := by decide +kernel
theorem q_MT_isAttacked_143 : jlm lw_tbl 1955 "ChessHouseModel$Texts" 108 ⟨"ChessHouseModel$Texts", "stands", "(II)Z"⟩ = true := by decide +kernel
theorem d_MT_isAttacked_174 : decode prog_18_method_8_code 174 = .ok (.invokevirtual 112, 3) := by decide +kernel
theorem q_MT_isAttacked_174 : jlm lw_tbl 1986 "ChessHouseModel$Texts" 112 ⟨"ChessHouseModel$Texts", "met", "(III)I"⟩ = true := by decide +kernel
theorem d_MT_isAttacked_231 : decode prog_18_method_8_code 231 = .ok (.ireturn, 1) := by decide +kernel
def y_MT_kingOf : jY := (⟨"ChessHouseModel$Texts", "kingOf", "(I)I"⟩, prog_18_method_9_code, 4, (some .int))
theorem m_MT_kingOf : jmth lw_tbl y_MT_kingOf 1 := ⟨jTA_in (wi := 2005) (by decide +kernel) rfl, jTA_in (wi := 315) (by decide +kernel) rfl, by decide, by decide, by decide +kernel⟩
theorem i_MT_kingOf : Jvm.Cond.instanceMethod y_MT_kingOf.1 ∈ jTA lw_tbl := jTA_in (wi := 2004) (by decide +kernel) rfl
theorem e_MT_kingOf : Jvm.Cond.selects y_MT_kingOf.1.cls y_MT_kingOf.1 y_MT_kingOf.1 ∈ jTA lw_tbl := jTA_in (wi := 125) (by decide +kernel) rfl
def k_MT_kingOf_0 : List jI := [(.iconst 0, 1, (0, 0, 0, 0, 0)), (.istore_n 2, 1, (2, 0, 0, 0, 0)), (.iconst 0, 1, (0, 0, 0, 0, 0)), (.istore_n 3, 1, (3, 0, 0, 0, 0))]
theorem o_MT_kingOf_0 : jokL "ChessHouseModel$Texts" lw_tbl jcl jtb 4 false prog_18_method_9_code 0 k_MT_kingOf_0 = true := by decide +kernel
def k_MT_kingOf_4 : List jI := [(.iload_n 3, 1, (3, 0, 0, 0, 0)), (.bipush 64, 2, (0, 0, 0, 64, 0)), (.if_icmp .ge 31, 3, (38, 0, 0, 0, 0)), (.aload_n 0, 1, (0, 0, 0, 0, 0)), (.getfield 71, 3, (12, 24, 2055, 0, 0)), (.iload_n 3, 1, (3, 0, 0, 0, 0)), (.iaload, 1, (0, 0, 0, 0, 0)), (.bipush 6, 2, (0, 0, 0, 6, 0)), (.bipush 8, 2, (0, 0, 0, 8, 0)), (.iload_n 1, 1, (1, 0, 0, 0, 0)), (.imul, 1, (0, 0, 0, 0, 0)), (.iadd, 1, (0, 0, 0, 0, 0)), (.if_icmp .ne 7, 3, (30, 0, 0, 0, 0)), (.iload_n 3, 1, (3, 0, 0, 0, 0)), (.goto 4, 3, (31, 0, 0, 0, 0))]
theorem o_MT_kingOf_4 : jokL "ChessHouseModel$Texts" lw_tbl jcl jtb 4 false prog_18_method_9_code 4 k_MT_kingOf_4 = true := by decide +kernel
def k_MT_kingOf_30 : List jI := [(.iload_n 2, 1, (2, 0, 0, 0, 0)), (.istore_n 2, 1, (2, 0, 0, 0, 0)), (.iinc 3 1, 3, (0, 0, 0, 1, 0)), (.goto (-31), 3, (4, 0, 0, 0, 0))]
theorem o_MT_kingOf_30 : jokL "ChessHouseModel$Texts" lw_tbl jcl jtb 4 false prog_18_method_9_code 30 k_MT_kingOf_30 = true := by decide +kernel
def k_MT_kingOf_31 : List jI := [(.istore_n 2, 1, (2, 0, 0, 0, 0)), (.iinc 3 1, 3, (0, 0, 0, 1, 0)), (.goto (-31), 3, (4, 0, 0, 0, 0))]
theorem o_MT_kingOf_31 : jokL "ChessHouseModel$Texts" lw_tbl jcl jtb 4 false prog_18_method_9_code 31 k_MT_kingOf_31 = true := by decide +kernel
def k_MT_kingOf_38 : List jI := [(.iload_n 2, 1, (2, 0, 0, 0, 0))]
theorem o_MT_kingOf_38 : jokL "ChessHouseModel$Texts" lw_tbl jcl jtb 4 false prog_18_method_9_code 38 k_MT_kingOf_38 = true := by decide +kernel
theorem d_MT_kingOf_39 : decode prog_18_method_9_code 39 = .ok (.ireturn, 1) := by decide +kernel
def y_MT_isInCheck : jY := (⟨"ChessHouseModel$Texts", "isInCheck", "(I)Z"⟩, prog_18_method_10_code, 2, (some .boolean))
theorem m_MT_isInCheck : jmth lw_tbl y_MT_isInCheck 1 := ⟨jTA_in (wi := 2001) (by decide +kernel) rfl, jTA_in (wi := 315) (by decide +kernel) rfl, by decide, by decide, by decide +kernel⟩
theorem i_MT_isInCheck : Jvm.Cond.instanceMethod y_MT_isInCheck.1 ∈ jTA lw_tbl := jTA_in (wi := 2000) (by decide +kernel) rfl
theorem e_MT_isInCheck : Jvm.Cond.selects y_MT_isInCheck.1.cls y_MT_isInCheck.1 y_MT_isInCheck.1 ∈ jTA lw_tbl := jTA_in (wi := 124) (by decide +kernel) rfl
def k_MT_isInCheck_0 : List jI := [(.aload_n 0, 1, (0, 0, 0, 0, 0)), (.aload_n 0, 1, (0, 0, 0, 0, 0)), (.iload_n 1, 1, (1, 0, 0, 0, 0))]
theorem o_MT_isInCheck_0 : jokL "ChessHouseModel$Texts" lw_tbl jcl jtb 2 false prog_18_method_10_code 0 k_MT_isInCheck_0 = true := by decide +kernel
def k_MT_isInCheck_6 : List jI := [(.iconst 1, 1, (0, 0, 0, 1, 0)), (.iload_n 1, 1, (1, 0, 0, 0, 0)), (.isub, 1, (0, 0, 0, 0, 0))]
theorem o_MT_isInCheck_6 : jokL "ChessHouseModel$Texts" lw_tbl jcl jtb 2 false prog_18_method_10_code 6 k_MT_isInCheck_6 = true := by decide +kernel
theorem d_MT_isInCheck_3 : decode prog_18_method_10_code 3 = .ok (.invokevirtual 115, 3) := by decide +kernel
theorem q_MT_isInCheck_3 : jlm lw_tbl 2002 "ChessHouseModel$Texts" 115 ⟨"ChessHouseModel$Texts", "kingOf", "(I)I"⟩ = true := by decide +kernel
theorem d_MT_isInCheck_9 : decode prog_18_method_10_code 9 = .ok (.invokevirtual 119, 3) := by decide +kernel
theorem q_MT_isInCheck_9 : jlm lw_tbl 1982 "ChessHouseModel$Texts" 119 ⟨"ChessHouseModel$Texts", "isAttacked", "(II)Z"⟩ = true := by decide +kernel
theorem d_MT_isInCheck_12 : decode prog_18_method_10_code 12 = .ok (.ireturn, 1) := by decide +kernel
def y_MT_keep : jY := (⟨"ChessHouseModel$Texts", "keep", "()V"⟩, prog_18_method_11_code, 2, none)
theorem m_MT_keep : jmth lw_tbl y_MT_keep 0 := ⟨jTA_in (wi := 1997) (by decide +kernel) rfl, jTA_in (wi := 315) (by decide +kernel) rfl, by decide, by decide, by decide +kernel⟩
theorem i_MT_keep : Jvm.Cond.instanceMethod y_MT_keep.1 ∈ jTA lw_tbl := jTA_in (wi := 1996) (by decide +kernel) rfl
theorem e_MT_keep : Jvm.Cond.selects y_MT_keep.1.cls y_MT_keep.1 y_MT_keep.1 ∈ jTA lw_tbl := jTA_in (wi := 123) (by decide +kernel) rfl
def k_MT_keep_0 : List jI := [(.iconst 0, 1, (0, 0, 0, 0, 0)), (.istore_n 1, 1, (1, 0, 0, 0, 0))]
theorem o_MT_keep_0 : jokL "ChessHouseModel$Texts" lw_tbl jcl jtb 2 false prog_18_method_11_code 0 k_MT_keep_0 = true := by decide +kernel
def k_MT_keep_2 : List jI := [(.iload_n 1, 1, (1, 0, 0, 0, 0)), (.bipush 64, 2, (0, 0, 0, 64, 0)), (.if_icmp .ge 21, 3, (26, 0, 0, 0, 0)), (.aload_n 0, 1, (0, 0, 0, 0, 0)), (.getfield 74, 3, (12, 30, 2067, 0, 0)), (.iload_n 1, 1, (1, 0, 0, 0, 0)), (.aload_n 0, 1, (0, 0, 0, 0, 0)), (.getfield 71, 3, (12, 24, 2055, 0, 0)), (.iload_n 1, 1, (1, 0, 0, 0, 0)), (.iaload, 1, (0, 0, 0, 0, 0)), (.iastore, 1, (0, 0, 0, 0, 0)), (.iinc 1 1, 3, (0, 0, 0, 1, 0)), (.goto (-21), 3, (2, 0, 0, 0, 0))]
theorem o_MT_keep_2 : jokL "ChessHouseModel$Texts" lw_tbl jcl jtb 2 false prog_18_method_11_code 2 k_MT_keep_2 = true := by decide +kernel
def k_MT_keep_26 : List jI := [(.aload_n 0, 1, (0, 0, 0, 0, 0)), (.getfield 77, 3, (12, 31, 2068, 0, 0)), (.iconst 0, 1, (0, 0, 0, 0, 0)), (.aload_n 0, 1, (0, 0, 0, 0, 0)), (.getfield 122, 3, (12, 25, 2057, 0, 0)), (.iastore, 1, (0, 0, 0, 0, 0)), (.aload_n 0, 1, (0, 0, 0, 0, 0)), (.getfield 77, 3, (12, 31, 2068, 0, 0)), (.iconst 1, 1, (0, 0, 0, 1, 0)), (.aload_n 0, 1, (0, 0, 0, 0, 0)), (.getfield 125, 3, (12, 26, 2059, 0, 0)), (.iastore, 1, (0, 0, 0, 0, 0)), (.aload_n 0, 1, (0, 0, 0, 0, 0)), (.getfield 77, 3, (12, 31, 2068, 0, 0)), (.iconst 2, 1, (0, 0, 0, 2, 0)), (.aload_n 0, 1, (0, 0, 0, 0, 0)), (.getfield 128, 3, (12, 27, 2061, 0, 0)), (.iastore, 1, (0, 0, 0, 0, 0)), (.aload_n 0, 1, (0, 0, 0, 0, 0)), (.getfield 77, 3, (12, 31, 2068, 0, 0)), (.iconst 3, 1, (0, 0, 0, 3, 0)), (.aload_n 0, 1, (0, 0, 0, 0, 0)), (.getfield 131, 3, (12, 28, 2063, 0, 0)), (.iastore, 1, (0, 0, 0, 0, 0)), (.aload_n 0, 1, (0, 0, 0, 0, 0)), (.getfield 77, 3, (12, 31, 2068, 0, 0)), (.iconst 4, 1, (0, 0, 0, 4, 0)), (.aload_n 0, 1, (0, 0, 0, 0, 0)), (.getfield 134, 3, (12, 29, 2065, 0, 0)), (.iastore, 1, (0, 0, 0, 0, 0))]
theorem o_MT_keep_26 : jokL "ChessHouseModel$Texts" lw_tbl jcl jtb 2 false prog_18_method_11_code 26 k_MT_keep_26 = true := by decide +kernel
theorem d_MT_keep_76 : decode prog_18_method_11_code 76 = .ok (.return_, 1) := by decide +kernel
def y_MT_bringBack : jY := (⟨"ChessHouseModel$Texts", "bringBack", "()V"⟩, prog_18_method_12_code, 2, none)
theorem m_MT_bringBack : jmth lw_tbl y_MT_bringBack 0 := ⟨jTA_in (wi := 2009) (by decide +kernel) rfl, jTA_in (wi := 315) (by decide +kernel) rfl, by decide, by decide, by decide +kernel⟩
theorem i_MT_bringBack : Jvm.Cond.instanceMethod y_MT_bringBack.1 ∈ jTA lw_tbl := jTA_in (wi := 2008) (by decide +kernel) rfl
theorem e_MT_bringBack : Jvm.Cond.selects y_MT_bringBack.1.cls y_MT_bringBack.1 y_MT_bringBack.1 ∈ jTA lw_tbl := jTA_in (wi := 126) (by decide +kernel) rfl
def k_MT_bringBack_0 : List jI := [(.iconst 0, 1, (0, 0, 0, 0, 0)), (.istore_n 1, 1, (1, 0, 0, 0, 0))]
theorem o_MT_bringBack_0 : jokL "ChessHouseModel$Texts" lw_tbl jcl jtb 2 false prog_18_method_12_code 0 k_MT_bringBack_0 = true := by decide +kernel
def k_MT_bringBack_2 : List jI := [(.iload_n 1, 1, (1, 0, 0, 0, 0)), (.bipush 64, 2, (0, 0, 0, 64, 0)), (.if_icmp .ge 21, 3, (26, 0, 0, 0, 0)), (.aload_n 0, 1, (0, 0, 0, 0, 0)), (.getfield 71, 3, (12, 24, 2055, 0, 0)), (.iload_n 1, 1, (1, 0, 0, 0, 0)), (.aload_n 0, 1, (0, 0, 0, 0, 0)), (.getfield 74, 3, (12, 30, 2067, 0, 0)), (.iload_n 1, 1, (1, 0, 0, 0, 0)), (.iaload, 1, (0, 0, 0, 0, 0)), (.iastore, 1, (0, 0, 0, 0, 0)), (.iinc 1 1, 3, (0, 0, 0, 1, 0)), (.goto (-21), 3, (2, 0, 0, 0, 0))]
theorem o_MT_bringBack_2 : jokL "ChessHouseModel$Texts" lw_tbl jcl jtb 2 false prog_18_method_12_code 2 k_MT_bringBack_2 = true := by decide +kernel
def k_MT_bringBack_26 : List jI := [(.aload_n 0, 1, (0, 0, 0, 0, 0)), (.aload_n 0, 1, (0, 0, 0, 0, 0)), (.getfield 77, 3, (12, 31, 2068, 0, 0)), (.iconst 0, 1, (0, 0, 0, 0, 0)), (.iaload, 1, (0, 0, 0, 0, 0)), (.putfield 122, 3, (12, 25, 2057, 0, 0)), (.aload_n 0, 1, (0, 0, 0, 0, 0)), (.aload_n 0, 1, (0, 0, 0, 0, 0)), (.getfield 77, 3, (12, 31, 2068, 0, 0)), (.iconst 1, 1, (0, 0, 0, 1, 0)), (.iaload, 1, (0, 0, 0, 0, 0)), (.putfield 125, 3, (12, 26, 2059, 0, 0)), (.aload_n 0, 1, (0, 0, 0, 0, 0)), (.aload_n 0, 1, (0, 0, 0, 0, 0)), (.getfield 77, 3, (12, 31, 2068, 0, 0)), (.iconst 2, 1, (0, 0, 0, 2, 0)), (.iaload, 1, (0, 0, 0, 0, 0)), (.putfield 128, 3, (12, 27, 2061, 0, 0)), (.aload_n 0, 1, (0, 0, 0, 0, 0)), (.aload_n 0, 1, (0, 0, 0, 0, 0)), (.getfield 77, 3, (12, 31, 2068, 0, 0)), (.iconst 3, 1, (0, 0, 0, 3, 0)), (.iaload, 1, (0, 0, 0, 0, 0)), (.putfield 131, 3, (12, 28, 2063, 0, 0)), (.aload_n 0, 1, (0, 0, 0, 0, 0)), (.aload_n 0, 1, (0, 0, 0, 0, 0)), (.getfield 77, 3, (12, 31, 2068, 0, 0)), (.iconst 4, 1, (0, 0, 0, 4, 0)), (.iaload, 1, (0, 0, 0, 0, 0)), (.putfield 134, 3, (12, 29, 2065, 0, 0))]
theorem o_MT_bringBack_26 : jokL "ChessHouseModel$Texts" lw_tbl jcl jtb 2 false prog_18_method_12_code 26 k_MT_bringBack_26 = true := by decide +kernel
theorem d_MT_bringBack_76 : decode prog_18_method_12_code 76 = .ok (.return_, 1) := by decide +kernel
def y_MT_lose : jY := (⟨"ChessHouseModel$Texts", "lose", "(I)V"⟩, prog_18_method_13_code, 3, none)
theorem m_MT_lose : jmth lw_tbl y_MT_lose 1 := ⟨jTA_in (wi := 1951) (by decide +kernel) rfl, jTA_in (wi := 315) (by decide +kernel) rfl, by decide, by decide, by decide +kernel⟩
theorem i_MT_lose : Jvm.Cond.instanceMethod y_MT_lose.1 ∈ jTA lw_tbl := jTA_in (wi := 1950) (by decide +kernel) rfl
theorem e_MT_lose : Jvm.Cond.selects y_MT_lose.1.cls y_MT_lose.1 y_MT_lose.1 ∈ jTA lw_tbl := jTA_in (wi := 113) (by decide +kernel) rfl
def k_MT_lose_0 : List jI := [(.iload_n 1, 1, (1, 0, 0, 0, 0)), (.iconst 4, 1, (0, 0, 0, 4, 0)), (.if_icmp .ne 7, 3, (9, 0, 0, 0, 0)), (.iconst 3, 1, (0, 0, 0, 3, 0)), (.goto 54, 3, (60, 0, 0, 0, 0))]
theorem o_MT_lose_0 : jokL "ChessHouseModel$Texts" lw_tbl jcl jtb 3 false prog_18_method_13_code 0 k_MT_lose_0 = true := by decide +kernel
def k_MT_lose_9 : List jI := [(.iload_n 1, 1, (1, 0, 0, 0, 0)), (.bipush 7, 2, (0, 0, 0, 7, 0)), (.if_icmp .ne 7, 3, (19, 0, 0, 0, 0)), (.iconst 1, 1, (0, 0, 0, 1, 0)), (.goto 44, 3, (60, 0, 0, 0, 0))]
theorem o_MT_lose_9 : jokL "ChessHouseModel$Texts" lw_tbl jcl jtb 3 false prog_18_method_13_code 9 k_MT_lose_9 = true := by decide +kernel
def k_MT_lose_19 : List jI := [(.iload_n 1, 1, (1, 0, 0, 0, 0)), (.ifCond .ne 7, 3, (27, 0, 0, 0, 0)), (.iconst 2, 1, (0, 0, 0, 2, 0)), (.goto 36, 3, (60, 0, 0, 0, 0))]
theorem o_MT_lose_19 : jokL "ChessHouseModel$Texts" lw_tbl jcl jtb 3 false prog_18_method_13_code 19 k_MT_lose_19 = true := by decide +kernel
def k_MT_lose_27 : List jI := [(.iload_n 1, 1, (1, 0, 0, 0, 0)), (.bipush 60, 2, (0, 0, 0, 60, 0)), (.if_icmp .ne 8, 3, (38, 0, 0, 0, 0)), (.bipush 12, 2, (0, 0, 0, 12, 0)), (.goto 25, 3, (60, 0, 0, 0, 0))]
theorem o_MT_lose_27 : jokL "ChessHouseModel$Texts" lw_tbl jcl jtb 3 false prog_18_method_13_code 27 k_MT_lose_27 = true := by decide +kernel
def k_MT_lose_38 : List jI := [(.iload_n 1, 1, (1, 0, 0, 0, 0)), (.bipush 63, 2, (0, 0, 0, 63, 0)), (.if_icmp .ne 7, 3, (48, 0, 0, 0, 0)), (.iconst 4, 1, (0, 0, 0, 4, 0)), (.goto 15, 3, (60, 0, 0, 0, 0))]
theorem o_MT_lose_38 : jokL "ChessHouseModel$Texts" lw_tbl jcl jtb 3 false prog_18_method_13_code 38 k_MT_lose_38 = true := by decide +kernel
def k_MT_lose_48 : List jI := [(.iload_n 1, 1, (1, 0, 0, 0, 0)), (.bipush 56, 2, (0, 0, 0, 56, 0)), (.if_icmp .ne 8, 3, (59, 0, 0, 0, 0)), (.bipush 8, 2, (0, 0, 0, 8, 0)), (.goto 4, 3, (60, 0, 0, 0, 0))]
theorem o_MT_lose_48 : jokL "ChessHouseModel$Texts" lw_tbl jcl jtb 3 false prog_18_method_13_code 48 k_MT_lose_48 = true := by decide +kernel
def k_MT_lose_59 : List jI := [(.iconst 0, 1, (0, 0, 0, 0, 0)), (.istore_n 2, 1, (2, 0, 0, 0, 0)), (.aload_n 0, 1, (0, 0, 0, 0, 0)), (.aload_n 0, 1, (0, 0, 0, 0, 0)), (.getfield 125, 3, (12, 26, 2059, 0, 0)), (.iload_n 2, 1, (2, 0, 0, 0, 0)), (.iconst (-1), 1, (0, 0, 0, (-1), 0)), (.ixor, 1, (0, 0, 0, 0, 0)), (.iand, 1, (0, 0, 0, 0, 0)), (.putfield 125, 3, (12, 26, 2059, 0, 0))]
theorem o_MT_lose_59 : jokL "ChessHouseModel$Texts" lw_tbl jcl jtb 3 false prog_18_method_13_code 59 k_MT_lose_59 = true := by decide +kernel
def k_MT_lose_60 : List jI := [(.istore_n 2, 1, (2, 0, 0, 0, 0)), (.aload_n 0, 1, (0, 0, 0, 0, 0)), (.aload_n 0, 1, (0, 0, 0, 0, 0)), (.getfield 125, 3, (12, 26, 2059, 0, 0)), (.iload_n 2, 1, (2, 0, 0, 0, 0)), (.iconst (-1), 1, (0, 0, 0, (-1), 0)), (.ixor, 1, (0, 0, 0, 0, 0)), (.iand, 1, (0, 0, 0, 0, 0)), (.putfield 125, 3, (12, 26, 2059, 0, 0))]
theorem o_MT_lose_60 : jokL "ChessHouseModel$Texts" lw_tbl jcl jtb 3 false prog_18_method_13_code 60 k_MT_lose_60 = true := by decide +kernel
theorem d_MT_lose_73 : decode prog_18_method_13_code 73 = .ok (.return_, 1) := by decide +kernel
def y_MT_isTaking : jY := (⟨"ChessHouseModel$Texts", "isTaking", "(I)Z"⟩, prog_18_method_14_code, 4, (some .boolean))
theorem m_MT_isTaking : jmth lw_tbl y_MT_isTaking 1 := ⟨jTA_in (wi := 1947) (by decide +kernel) rfl, jTA_in (wi := 315) (by decide +kernel) rfl, by decide, by decide, by decide +kernel⟩
theorem i_MT_isTaking : Jvm.Cond.instanceMethod y_MT_isTaking.1 ∈ jTA lw_tbl := jTA_in (wi := 1946) (by decide +kernel) rfl
theorem e_MT_isTaking : Jvm.Cond.selects y_MT_isTaking.1.cls y_MT_isTaking.1 y_MT_isTaking.1 ∈ jTA lw_tbl := jTA_in (wi := 112) (by decide +kernel) rfl
def k_MT_isTaking_0 : List jI := [(.iload_n 1, 1, (1, 0, 0, 0, 0)), (.bipush 64, 2, (0, 0, 0, 64, 0)), (.irem, 1, (0, 0, 0, 0, 0)), (.istore_n 2, 1, (2, 0, 0, 0, 0)), (.iload_n 1, 1, (1, 0, 0, 0, 0)), (.bipush 64, 2, (0, 0, 0, 64, 0)), (.idiv, 1, (0, 0, 0, 0, 0)), (.bipush 64, 2, (0, 0, 0, 64, 0)), (.irem, 1, (0, 0, 0, 0, 0)), (.istore_n 3, 1, (3, 0, 0, 0, 0)), (.aload_n 0, 1, (0, 0, 0, 0, 0)), (.getfield 71, 3, (12, 24, 2055, 0, 0)), (.iload_n 3, 1, (3, 0, 0, 0, 0)), (.iaload, 1, (0, 0, 0, 0, 0)), (.ifCond .ne 27, 3, (46, 0, 0, 0, 0)), (.aload_n 0, 1, (0, 0, 0, 0, 0)), (.getfield 71, 3, (12, 24, 2055, 0, 0)), (.iload_n 2, 1, (2, 0, 0, 0, 0)), (.iaload, 1, (0, 0, 0, 0, 0))]
theorem o_MT_isTaking_0 : jokL "ChessHouseModel$Texts" lw_tbl jcl jtb 4 false prog_18_method_14_code 0 k_MT_isTaking_0 = true := by decide +kernel
def k_MT_isTaking_31 : List jI := [(.iconst 1, 1, (0, 0, 0, 1, 0)), (.if_icmp .ne 18, 3, (50, 0, 0, 0, 0)), (.iload_n 2, 1, (2, 0, 0, 0, 0)), (.bipush 8, 2, (0, 0, 0, 8, 0)), (.irem, 1, (0, 0, 0, 0, 0)), (.iload_n 3, 1, (3, 0, 0, 0, 0)), (.bipush 8, 2, (0, 0, 0, 8, 0)), (.irem, 1, (0, 0, 0, 0, 0)), (.if_icmp .eq 7, 3, (50, 0, 0, 0, 0)), (.iconst 1, 1, (0, 0, 0, 1, 0)), (.goto 4, 3, (51, 0, 0, 0, 0))]
theorem o_MT_isTaking_31 : jokL "ChessHouseModel$Texts" lw_tbl jcl jtb 4 false prog_18_method_14_code 31 k_MT_isTaking_31 = true := by decide +kernel
def k_MT_isTaking_46 : List jI := [(.iconst 1, 1, (0, 0, 0, 1, 0)), (.goto 4, 3, (51, 0, 0, 0, 0))]
theorem o_MT_isTaking_46 : jokL "ChessHouseModel$Texts" lw_tbl jcl jtb 4 false prog_18_method_14_code 46 k_MT_isTaking_46 = true := by decide +kernel
def k_MT_isTaking_50 : List jI := [(.iconst 0, 1, (0, 0, 0, 0, 0))]
theorem o_MT_isTaking_50 : jokL "ChessHouseModel$Texts" lw_tbl jcl jtb 4 false prog_18_method_14_code 50 k_MT_isTaking_50 = true := by decide +kernel
theorem d_MT_isTaking_28 : decode prog_18_method_14_code 28 = .ok (.invokestatic 137, 3) := by decide +kernel
theorem q_MT_isTaking_28 : jlm lw_tbl 1941 "ChessHouseModel$Texts" 137 ⟨"ChessHouseModel$Texts", "kind", "(I)I"⟩ = true := by decide +kernel
theorem d_MT_isTaking_51 : decode prog_18_method_14_code 51 = .ok (.ireturn, 1) := by decide +kernel
def y_MT_make : jY := (⟨"ChessHouseModel$Texts", "make", "(I)V"⟩, prog_18_method_15_code, 8, none)
theorem m_MT_make : jmth lw_tbl y_MT_make 1 := ⟨jTA_in (wi := 1940) (by decide +kernel) rfl, jTA_in (wi := 315) (by decide +kernel) rfl, by decide, by decide, by decide +kernel⟩
theorem i_MT_make : Jvm.Cond.instanceMethod y_MT_make.1 ∈ jTA lw_tbl := jTA_in (wi := 1939) (by decide +kernel) rfl
theorem e_MT_make : Jvm.Cond.selects y_MT_make.1.cls y_MT_make.1 y_MT_make.1 ∈ jTA lw_tbl := jTA_in (wi := 111) (by decide +kernel) rfl
def k_MT_make_0 : List jI := [(.iload_n 1, 1, (1, 0, 0, 0, 0)), (.bipush 64, 2, (0, 0, 0, 64, 0)), (.irem, 1, (0, 0, 0, 0, 0)), (.istore_n 2, 1, (2, 0, 0, 0, 0)), (.iload_n 1, 1, (1, 0, 0, 0, 0)), (.bipush 64, 2, (0, 0, 0, 64, 0)), (.idiv, 1, (0, 0, 0, 0, 0)), (.bipush 64, 2, (0, 0, 0, 64, 0)), (.irem, 1, (0, 0, 0, 0, 0)), (.istore_n 3, 1, (3, 0, 0, 0, 0)), (.iload_n 1, 1, (1, 0, 0, 0, 0)), (.sipush 4096, 3, (0, 0, 0, 4096, 0)), (.idiv, 1, (0, 0, 0, 0, 0)), (.istore 4, 2, (4, 0, 0, 0, 0)), (.aload_n 0, 1, (0, 0, 0, 0, 0)), (.getfield 71, 3, (12, 24, 2055, 0, 0)), (.iload_n 2, 1, (2, 0, 0, 0, 0)), (.iaload, 1, (0, 0, 0, 0, 0)), (.istore 5, 2, (5, 0, 0, 0, 0)), (.iload 5, 2, (5, 0, 0, 0, 0))]
theorem o_MT_make_0 : jokL "ChessHouseModel$Texts" lw_tbl jcl jtb 8 false prog_18_method_15_code 0 k_MT_make_0 = true := by decide +kernel
def k_MT_make_33 : List jI := [(.iconst 1, 1, (0, 0, 0, 1, 0)), (.if_icmp .ne 7, 3, (41, 0, 0, 0, 0)), (.iconst 1, 1, (0, 0, 0, 1, 0)), (.goto 4, 3, (42, 0, 0, 0, 0))]
theorem o_MT_make_33 : jokL "ChessHouseModel$Texts" lw_tbl jcl jtb 8 false prog_18_method_15_code 33 k_MT_make_33 = true := by decide +kernel
def k_MT_make_41 : List jI := [(.iconst 0, 1, (0, 0, 0, 0, 0)), (.istore 6, 2, (6, 0, 0, 0, 0)), (.aload_n 0, 1, (0, 0, 0, 0, 0)), (.iload 6, 2, (6, 0, 0, 0, 0)), (.ifCond .ne 11, 3, (58, 0, 0, 0, 0)), (.aload_n 0, 1, (0, 0, 0, 0, 0)), (.iload_n 1, 1, (1, 0, 0, 0, 0))]
theorem o_MT_make_41 : jokL "ChessHouseModel$Texts" lw_tbl jcl jtb 8 false prog_18_method_15_code 41 k_MT_make_41 = true := by decide +kernel
def k_MT_make_42 : List jI := [(.istore 6, 2, (6, 0, 0, 0, 0)), (.aload_n 0, 1, (0, 0, 0, 0, 0)), (.iload 6, 2, (6, 0, 0, 0, 0)), (.ifCond .ne 11, 3, (58, 0, 0, 0, 0)), (.aload_n 0, 1, (0, 0, 0, 0, 0)), (.iload_n 1, 1, (1, 0, 0, 0, 0))]
theorem o_MT_make_42 : jokL "ChessHouseModel$Texts" lw_tbl jcl jtb 8 false prog_18_method_15_code 42 k_MT_make_42 = true := by decide +kernel
def k_MT_make_55 : List jI := [(.ifCond .eq 7, 3, (62, 0, 0, 0, 0)), (.iconst 0, 1, (0, 0, 0, 0, 0)), (.goto 9, 3, (68, 0, 0, 0, 0))]
theorem o_MT_make_55 : jokL "ChessHouseModel$Texts" lw_tbl jcl jtb 8 false prog_18_method_15_code 55 k_MT_make_55 = true := by decide +kernel
def k_MT_make_58 : List jI := [(.iconst 0, 1, (0, 0, 0, 0, 0)), (.goto 9, 3, (68, 0, 0, 0, 0))]
theorem o_MT_make_58 : jokL "ChessHouseModel$Texts" lw_tbl jcl jtb 8 false prog_18_method_15_code 58 k_MT_make_58 = true := by decide +kernel
def k_MT_make_62 : List jI := [(.aload_n 0, 1, (0, 0, 0, 0, 0)), (.getfield 131, 3, (12, 28, 2063, 0, 0)), (.iconst 1, 1, (0, 0, 0, 1, 0)), (.iadd, 1, (0, 0, 0, 0, 0)), (.putfield 131, 3, (12, 28, 2063, 0, 0)), (.iload 6, 2, (6, 0, 0, 0, 0)), (.ifCond .eq 41, 3, (114, 0, 0, 0, 0)), (.aload_n 0, 1, (0, 0, 0, 0, 0)), (.getfield 71, 3, (12, 24, 2055, 0, 0)), (.iload_n 3, 1, (3, 0, 0, 0, 0)), (.iaload, 1, (0, 0, 0, 0, 0)), (.ifCond .ne 32, 3, (114, 0, 0, 0, 0)), (.iload_n 2, 1, (2, 0, 0, 0, 0)), (.bipush 8, 2, (0, 0, 0, 8, 0)), (.irem, 1, (0, 0, 0, 0, 0)), (.iload_n 3, 1, (3, 0, 0, 0, 0)), (.bipush 8, 2, (0, 0, 0, 8, 0)), (.irem, 1, (0, 0, 0, 0, 0)), (.if_icmp .eq 21, 3, (114, 0, 0, 0, 0)), (.aload_n 0, 1, (0, 0, 0, 0, 0)), (.getfield 71, 3, (12, 24, 2055, 0, 0)), (.iload_n 2, 1, (2, 0, 0, 0, 0)), (.bipush 8, 2, (0, 0, 0, 8, 0)), (.idiv, 1, (0, 0, 0, 0, 0)), (.bipush 8, 2, (0, 0, 0, 8, 0)), (.imul, 1, (0, 0, 0, 0, 0)), (.iload_n 3, 1, (3, 0, 0, 0, 0)), (.bipush 8, 2, (0, 0, 0, 8, 0)), (.irem, 1, (0, 0, 0, 0, 0)), (.iadd, 1, (0, 0, 0, 0, 0)), (.iconst 0, 1, (0, 0, 0, 0, 0)), (.iastore, 1, (0, 0, 0, 0, 0)), (.iload 5, 2, (5, 0, 0, 0, 0))]
theorem o_MT_make_62 : jokL "ChessHouseModel$Texts" lw_tbl jcl jtb 8 false prog_18_method_15_code 62 k_MT_make_62 = true := by decide +kernel
def k_MT_make_68 : List jI := [(.putfield 131, 3, (12, 28, 2063, 0, 0)), (.iload 6, 2, (6, 0, 0, 0, 0)), (.ifCond .eq 41, 3, (114, 0, 0, 0, 0)), (.aload_n 0, 1, (0, 0, 0, 0, 0)), (.getfield 71, 3, (12, 24, 2055, 0, 0)), (.iload_n 3, 1, (3, 0, 0, 0, 0)), (.iaload, 1, (0, 0, 0, 0, 0)), (.ifCond .ne 32, 3, (114, 0, 0, 0, 0)), (.iload_n 2, 1, (2, 0, 0, 0, 0)), (.bipush 8, 2, (0, 0, 0, 8, 0)), (.irem, 1, (0, 0, 0, 0, 0)), (.iload_n 3, 1, (3, 0, 0, 0, 0)), (.bipush 8, 2, (0, 0, 0, 8, 0)), (.irem, 1, (0, 0, 0, 0, 0)), (.if_icmp .eq 21, 3, (114, 0, 0, 0, 0)), (.aload_n 0, 1, (0, 0, 0, 0, 0)), (.getfield 71, 3, (12, 24, 2055, 0, 0)), (.iload_n 2, 1, (2, 0, 0, 0, 0)), (.bipush 8, 2, (0, 0, 0, 8, 0)), (.idiv, 1, (0, 0, 0, 0, 0)), (.bipush 8, 2, (0, 0, 0, 8, 0)), (.imul, 1, (0, 0, 0, 0, 0)), (.iload_n 3, 1, (3, 0, 0, 0, 0)), (.bipush 8, 2, (0, 0, 0, 8, 0)), (.irem, 1, (0, 0, 0, 0, 0)), (.iadd, 1, (0, 0, 0, 0, 0)), (.iconst 0, 1, (0, 0, 0, 0, 0)), (.iastore, 1, (0, 0, 0, 0, 0)), (.iload 5, 2, (5, 0, 0, 0, 0))]
theorem o_MT_make_68 : jokL "ChessHouseModel$Texts" lw_tbl jcl jtb 8 false prog_18_method_15_code 68 k_MT_make_68 = true := by decide +kernel
def k_MT_make_114 : List jI := [(.iload 5, 2, (5, 0, 0, 0, 0))]
theorem o_MT_make_114 : jokL "ChessHouseModel$Texts" lw_tbl jcl jtb 8 false prog_18_method_15_code 114 k_MT_make_114 = true := by decide +kernel
def k_MT_make_119 : List jI := [(.bipush 6, 2, (0, 0, 0, 6, 0)), (.if_icmp .ne 73, 3, (194, 0, 0, 0, 0)), (.iload_n 2, 1, (2, 0, 0, 0, 0)), (.bipush 8, 2, (0, 0, 0, 8, 0)), (.irem, 1, (0, 0, 0, 0, 0)), (.iconst 4, 1, (0, 0, 0, 4, 0)), (.if_icmp .ne 65, 3, (194, 0, 0, 0, 0)), (.iload_n 3, 1, (3, 0, 0, 0, 0)), (.bipush 8, 2, (0, 0, 0, 8, 0)), (.irem, 1, (0, 0, 0, 0, 0)), (.bipush 6, 2, (0, 0, 0, 6, 0)), (.if_icmp .eq 11, 3, (149, 0, 0, 0, 0)), (.iload_n 3, 1, (3, 0, 0, 0, 0)), (.bipush 8, 2, (0, 0, 0, 8, 0)), (.irem, 1, (0, 0, 0, 0, 0)), (.iconst 2, 1, (0, 0, 0, 2, 0)), (.if_icmp .ne 48, 3, (194, 0, 0, 0, 0)), (.iload_n 3, 1, (3, 0, 0, 0, 0)), (.bipush 8, 2, (0, 0, 0, 8, 0)), (.irem, 1, (0, 0, 0, 0, 0)), (.bipush 6, 2, (0, 0, 0, 6, 0)), (.if_icmp .ne 9, 3, (164, 0, 0, 0, 0)), (.iload_n 2, 1, (2, 0, 0, 0, 0)), (.iconst 3, 1, (0, 0, 0, 3, 0)), (.iadd, 1, (0, 0, 0, 0, 0)), (.goto 6, 3, (167, 0, 0, 0, 0))]
theorem o_MT_make_119 : jokL "ChessHouseModel$Texts" lw_tbl jcl jtb 8 false prog_18_method_15_code 119 k_MT_make_119 = true := by decide +kernel
def k_MT_make_149 : List jI := [(.iload_n 3, 1, (3, 0, 0, 0, 0)), (.bipush 8, 2, (0, 0, 0, 8, 0)), (.irem, 1, (0, 0, 0, 0, 0)), (.bipush 6, 2, (0, 0, 0, 6, 0)), (.if_icmp .ne 9, 3, (164, 0, 0, 0, 0)), (.iload_n 2, 1, (2, 0, 0, 0, 0)), (.iconst 3, 1, (0, 0, 0, 3, 0)), (.iadd, 1, (0, 0, 0, 0, 0)), (.goto 6, 3, (167, 0, 0, 0, 0))]
theorem o_MT_make_149 : jokL "ChessHouseModel$Texts" lw_tbl jcl jtb 8 false prog_18_method_15_code 149 k_MT_make_149 = true := by decide +kernel
def k_MT_make_164 : List jI := [(.iload_n 2, 1, (2, 0, 0, 0, 0)), (.iconst 4, 1, (0, 0, 0, 4, 0)), (.isub, 1, (0, 0, 0, 0, 0)), (.istore 7, 2, (7, 0, 0, 0, 0)), (.aload_n 0, 1, (0, 0, 0, 0, 0)), (.getfield 71, 3, (12, 24, 2055, 0, 0)), (.iload_n 2, 1, (2, 0, 0, 0, 0)), (.iload_n 3, 1, (3, 0, 0, 0, 0)), (.iadd, 1, (0, 0, 0, 0, 0)), (.iconst 2, 1, (0, 0, 0, 2, 0)), (.idiv, 1, (0, 0, 0, 0, 0)), (.aload_n 0, 1, (0, 0, 0, 0, 0)), (.getfield 71, 3, (12, 24, 2055, 0, 0)), (.iload 7, 2, (7, 0, 0, 0, 0)), (.iaload, 1, (0, 0, 0, 0, 0)), (.iastore, 1, (0, 0, 0, 0, 0)), (.aload_n 0, 1, (0, 0, 0, 0, 0)), (.getfield 71, 3, (12, 24, 2055, 0, 0)), (.iload 7, 2, (7, 0, 0, 0, 0)), (.iconst 0, 1, (0, 0, 0, 0, 0)), (.iastore, 1, (0, 0, 0, 0, 0)), (.aload_n 0, 1, (0, 0, 0, 0, 0)), (.getfield 71, 3, (12, 24, 2055, 0, 0)), (.iload_n 2, 1, (2, 0, 0, 0, 0)), (.iconst 0, 1, (0, 0, 0, 0, 0)), (.iastore, 1, (0, 0, 0, 0, 0)), (.aload_n 0, 1, (0, 0, 0, 0, 0)), (.getfield 71, 3, (12, 24, 2055, 0, 0)), (.iload_n 3, 1, (3, 0, 0, 0, 0)), (.iload 4, 2, (4, 0, 0, 0, 0)), (.ifCond .le 16, 3, (224, 0, 0, 0, 0)), (.iload 4, 2, (4, 0, 0, 0, 0)), (.bipush 8, 2, (0, 0, 0, 8, 0)), (.aload_n 0, 1, (0, 0, 0, 0, 0)), (.getfield 122, 3, (12, 25, 2057, 0, 0)), (.imul, 1, (0, 0, 0, 0, 0)), (.iadd, 1, (0, 0, 0, 0, 0)), (.goto 5, 3, (226, 0, 0, 0, 0))]
theorem o_MT_make_164 : jokL "ChessHouseModel$Texts" lw_tbl jcl jtb 8 false prog_18_method_15_code 164 k_MT_make_164 = true := by decide +kernel
def k_MT_make_167 : List jI := [(.istore 7, 2, (7, 0, 0, 0, 0)), (.aload_n 0, 1, (0, 0, 0, 0, 0)), (.getfield 71, 3, (12, 24, 2055, 0, 0)), (.iload_n 2, 1, (2, 0, 0, 0, 0)), (.iload_n 3, 1, (3, 0, 0, 0, 0)), (.iadd, 1, (0, 0, 0, 0, 0)), (.iconst 2, 1, (0, 0, 0, 2, 0)), (.idiv, 1, (0, 0, 0, 0, 0)), (.aload_n 0, 1, (0, 0, 0, 0, 0)), (.getfield 71, 3, (12, 24, 2055, 0, 0)), (.iload 7, 2, (7, 0, 0, 0, 0)), (.iaload, 1, (0, 0, 0, 0, 0)), (.iastore, 1, (0, 0, 0, 0, 0)), (.aload_n 0, 1, (0, 0, 0, 0, 0)), (.getfield 71, 3, (12, 24, 2055, 0, 0)), (.iload 7, 2, (7, 0, 0, 0, 0)), (.iconst 0, 1, (0, 0, 0, 0, 0)), (.iastore, 1, (0, 0, 0, 0, 0)), (.aload_n 0, 1, (0, 0, 0, 0, 0)), (.getfield 71, 3, (12, 24, 2055, 0, 0)), (.iload_n 2, 1, (2, 0, 0, 0, 0)), (.iconst 0, 1, (0, 0, 0, 0, 0)), (.iastore, 1, (0, 0, 0, 0, 0)), (.aload_n 0, 1, (0, 0, 0, 0, 0)), (.getfield 71, 3, (12, 24, 2055, 0, 0)), (.iload_n 3, 1, (3, 0, 0, 0, 0)), (.iload 4, 2, (4, 0, 0, 0, 0)), (.ifCond .le 16, 3, (224, 0, 0, 0, 0)), (.iload 4, 2, (4, 0, 0, 0, 0)), (.bipush 8, 2, (0, 0, 0, 8, 0)), (.aload_n 0, 1, (0, 0, 0, 0, 0)), (.getfield 122, 3, (12, 25, 2057, 0, 0)), (.imul, 1, (0, 0, 0, 0, 0)), (.iadd, 1, (0, 0, 0, 0, 0)), (.goto 5, 3, (226, 0, 0, 0, 0))]
theorem o_MT_make_167 : jokL "ChessHouseModel$Texts" lw_tbl jcl jtb 8 false prog_18_method_15_code 167 k_MT_make_167 = true := by decide +kernel
def k_MT_make_194 : List jI := [(.aload_n 0, 1, (0, 0, 0, 0, 0)), (.getfield 71, 3, (12, 24, 2055, 0, 0)), (.iload_n 2, 1, (2, 0, 0, 0, 0)), (.iconst 0, 1, (0, 0, 0, 0, 0)), (.iastore, 1, (0, 0, 0, 0, 0)), (.aload_n 0, 1, (0, 0, 0, 0, 0)), (.getfield 71, 3, (12, 24, 2055, 0, 0)), (.iload_n 3, 1, (3, 0, 0, 0, 0)), (.iload 4, 2, (4, 0, 0, 0, 0)), (.ifCond .le 16, 3, (224, 0, 0, 0, 0)), (.iload 4, 2, (4, 0, 0, 0, 0)), (.bipush 8, 2, (0, 0, 0, 8, 0)), (.aload_n 0, 1, (0, 0, 0, 0, 0)), (.getfield 122, 3, (12, 25, 2057, 0, 0)), (.imul, 1, (0, 0, 0, 0, 0)), (.iadd, 1, (0, 0, 0, 0, 0)), (.goto 5, 3, (226, 0, 0, 0, 0))]
theorem o_MT_make_194 : jokL "ChessHouseModel$Texts" lw_tbl jcl jtb 8 false prog_18_method_15_code 194 k_MT_make_194 = true := by decide +kernel
def k_MT_make_224 : List jI := [(.iload 5, 2, (5, 0, 0, 0, 0)), (.iastore, 1, (0, 0, 0, 0, 0)), (.aload_n 0, 1, (0, 0, 0, 0, 0)), (.iload_n 2, 1, (2, 0, 0, 0, 0))]
theorem o_MT_make_224 : jokL "ChessHouseModel$Texts" lw_tbl jcl jtb 8 false prog_18_method_15_code 224 k_MT_make_224 = true := by decide +kernel
def k_MT_make_226 : List jI := [(.iastore, 1, (0, 0, 0, 0, 0)), (.aload_n 0, 1, (0, 0, 0, 0, 0)), (.iload_n 2, 1, (2, 0, 0, 0, 0))]
theorem o_MT_make_226 : jokL "ChessHouseModel$Texts" lw_tbl jcl jtb 8 false prog_18_method_15_code 226 k_MT_make_226 = true := by decide +kernel
def k_MT_make_232 : List jI := [(.aload_n 0, 1, (0, 0, 0, 0, 0)), (.iload_n 3, 1, (3, 0, 0, 0, 0))]
theorem o_MT_make_232 : jokL "ChessHouseModel$Texts" lw_tbl jcl jtb 8 false prog_18_method_15_code 232 k_MT_make_232 = true := by decide +kernel
def k_MT_make_237 : List jI := [(.aload_n 0, 1, (0, 0, 0, 0, 0)), (.iconst (-1), 1, (0, 0, 0, (-1), 0)), (.putfield 128, 3, (12, 27, 2061, 0, 0)), (.iload 6, 2, (6, 0, 0, 0, 0)), (.ifCond .eq 75, 3, (319, 0, 0, 0, 0)), (.iload_n 3, 1, (3, 0, 0, 0, 0)), (.iload_n 2, 1, (2, 0, 0, 0, 0)), (.bipush 16, 2, (0, 0, 0, 16, 0)), (.iadd, 1, (0, 0, 0, 0, 0)), (.if_icmp .eq 11, 3, (263, 0, 0, 0, 0)), (.iload_n 3, 1, (3, 0, 0, 0, 0)), (.iload_n 2, 1, (2, 0, 0, 0, 0)), (.bipush 16, 2, (0, 0, 0, 16, 0)), (.isub, 1, (0, 0, 0, 0, 0)), (.if_icmp .ne 59, 3, (319, 0, 0, 0, 0)), (.iconst 1, 1, (0, 0, 0, 1, 0)), (.bipush 8, 2, (0, 0, 0, 8, 0)), (.iconst 1, 1, (0, 0, 0, 1, 0)), (.aload_n 0, 1, (0, 0, 0, 0, 0)), (.getfield 122, 3, (12, 25, 2057, 0, 0)), (.isub, 1, (0, 0, 0, 0, 0)), (.imul, 1, (0, 0, 0, 0, 0)), (.iadd, 1, (0, 0, 0, 0, 0)), (.istore 7, 2, (7, 0, 0, 0, 0)), (.aload_n 0, 1, (0, 0, 0, 0, 0)), (.aload_n 0, 1, (0, 0, 0, 0, 0)), (.iload_n 3, 1, (3, 0, 0, 0, 0)), (.iconst (-1), 1, (0, 0, 0, (-1), 0)), (.iconst 0, 1, (0, 0, 0, 0, 0))]
theorem o_MT_make_237 : jokL "ChessHouseModel$Texts" lw_tbl jcl jtb 8 false prog_18_method_15_code 237 k_MT_make_237 = true := by decide +kernel
def k_MT_make_263 : List jI := [(.iconst 1, 1, (0, 0, 0, 1, 0)), (.bipush 8, 2, (0, 0, 0, 8, 0)), (.iconst 1, 1, (0, 0, 0, 1, 0)), (.aload_n 0, 1, (0, 0, 0, 0, 0)), (.getfield 122, 3, (12, 25, 2057, 0, 0)), (.isub, 1, (0, 0, 0, 0, 0)), (.imul, 1, (0, 0, 0, 0, 0)), (.iadd, 1, (0, 0, 0, 0, 0)), (.istore 7, 2, (7, 0, 0, 0, 0)), (.aload_n 0, 1, (0, 0, 0, 0, 0)), (.aload_n 0, 1, (0, 0, 0, 0, 0)), (.iload_n 3, 1, (3, 0, 0, 0, 0)), (.iconst (-1), 1, (0, 0, 0, (-1), 0)), (.iconst 0, 1, (0, 0, 0, 0, 0))]
theorem o_MT_make_263 : jokL "ChessHouseModel$Texts" lw_tbl jcl jtb 8 false prog_18_method_15_code 263 k_MT_make_263 = true := by decide +kernel
def k_MT_make_284 : List jI := [(.iload 7, 2, (7, 0, 0, 0, 0))]
theorem o_MT_make_284 : jokL "ChessHouseModel$Texts" lw_tbl jcl jtb 8 false prog_18_method_15_code 284 k_MT_make_284 = true := by decide +kernel
def k_MT_make_289 : List jI := [(.ifCond .ne 18, 3, (307, 0, 0, 0, 0)), (.aload_n 0, 1, (0, 0, 0, 0, 0)), (.iload_n 3, 1, (3, 0, 0, 0, 0)), (.iconst 1, 1, (0, 0, 0, 1, 0)), (.iconst 0, 1, (0, 0, 0, 0, 0))]
theorem o_MT_make_289 : jokL "ChessHouseModel$Texts" lw_tbl jcl jtb 8 false prog_18_method_15_code 289 k_MT_make_289 = true := by decide +kernel
def k_MT_make_299 : List jI := [(.iload 7, 2, (7, 0, 0, 0, 0))]
theorem o_MT_make_299 : jokL "ChessHouseModel$Texts" lw_tbl jcl jtb 8 false prog_18_method_15_code 299 k_MT_make_299 = true := by decide +kernel
def k_MT_make_304 : List jI := [(.ifCond .eq 11, 3, (315, 0, 0, 0, 0)), (.iload_n 2, 1, (2, 0, 0, 0, 0)), (.iload_n 3, 1, (3, 0, 0, 0, 0)), (.iadd, 1, (0, 0, 0, 0, 0)), (.iconst 2, 1, (0, 0, 0, 2, 0)), (.idiv, 1, (0, 0, 0, 0, 0)), (.goto 4, 3, (316, 0, 0, 0, 0))]
theorem o_MT_make_304 : jokL "ChessHouseModel$Texts" lw_tbl jcl jtb 8 false prog_18_method_15_code 304 k_MT_make_304 = true := by decide +kernel
def k_MT_make_307 : List jI := [(.iload_n 2, 1, (2, 0, 0, 0, 0)), (.iload_n 3, 1, (3, 0, 0, 0, 0)), (.iadd, 1, (0, 0, 0, 0, 0)), (.iconst 2, 1, (0, 0, 0, 2, 0)), (.idiv, 1, (0, 0, 0, 0, 0)), (.goto 4, 3, (316, 0, 0, 0, 0))]
theorem o_MT_make_307 : jokL "ChessHouseModel$Texts" lw_tbl jcl jtb 8 false prog_18_method_15_code 307 k_MT_make_307 = true := by decide +kernel
def k_MT_make_315 : List jI := [(.iconst (-1), 1, (0, 0, 0, (-1), 0)), (.putfield 128, 3, (12, 27, 2061, 0, 0)), (.aload_n 0, 1, (0, 0, 0, 0, 0)), (.aload_n 0, 1, (0, 0, 0, 0, 0)), (.getfield 134, 3, (12, 29, 2065, 0, 0)), (.aload_n 0, 1, (0, 0, 0, 0, 0)), (.getfield 122, 3, (12, 25, 2057, 0, 0)), (.iadd, 1, (0, 0, 0, 0, 0)), (.putfield 134, 3, (12, 29, 2065, 0, 0)), (.aload_n 0, 1, (0, 0, 0, 0, 0)), (.iconst 1, 1, (0, 0, 0, 1, 0)), (.aload_n 0, 1, (0, 0, 0, 0, 0)), (.getfield 122, 3, (12, 25, 2057, 0, 0)), (.isub, 1, (0, 0, 0, 0, 0)), (.putfield 122, 3, (12, 25, 2057, 0, 0))]
theorem o_MT_make_315 : jokL "ChessHouseModel$Texts" lw_tbl jcl jtb 8 false prog_18_method_15_code 315 k_MT_make_315 = true := by decide +kernel
def k_MT_make_316 : List jI := [(.putfield 128, 3, (12, 27, 2061, 0, 0)), (.aload_n 0, 1, (0, 0, 0, 0, 0)), (.aload_n 0, 1, (0, 0, 0, 0, 0)), (.getfield 134, 3, (12, 29, 2065, 0, 0)), (.aload_n 0, 1, (0, 0, 0, 0, 0)), (.getfield 122, 3, (12, 25, 2057, 0, 0)), (.iadd, 1, (0, 0, 0, 0, 0)), (.putfield 134, 3, (12, 29, 2065, 0, 0)), (.aload_n 0, 1, (0, 0, 0, 0, 0)), (.iconst 1, 1, (0, 0, 0, 1, 0)), (.aload_n 0, 1, (0, 0, 0, 0, 0)), (.getfield 122, 3, (12, 25, 2057, 0, 0)), (.isub, 1, (0, 0, 0, 0, 0)), (.putfield 122, 3, (12, 25, 2057, 0, 0))]
theorem o_MT_make_316 : jokL "ChessHouseModel$Texts" lw_tbl jcl jtb 8 false prog_18_method_15_code 316 k_MT_make_316 = true := by decide +kernel
def k_MT_make_319 : List jI := [(.aload_n 0, 1, (0, 0, 0, 0, 0)), (.aload_n 0, 1, (0, 0, 0, 0, 0)), (.getfield 134, 3, (12, 29, 2065, 0, 0)), (.aload_n 0, 1, (0, 0, 0, 0, 0)), (.getfield 122, 3, (12, 25, 2057, 0, 0)), (.iadd, 1, (0, 0, 0, 0, 0)), (.putfield 134, 3, (12, 29, 2065, 0, 0)), (.aload_n 0, 1, (0, 0, 0, 0, 0)), (.iconst 1, 1, (0, 0, 0, 1, 0)), (.aload_n 0, 1, (0, 0, 0, 0, 0)), (.getfield 122, 3, (12, 25, 2057, 0, 0)), (.isub, 1, (0, 0, 0, 0, 0)), (.putfield 122, 3, (12, 25, 2057, 0, 0))]
theorem o_MT_make_319 : jokL "ChessHouseModel$Texts" lw_tbl jcl jtb 8 false prog_18_method_15_code 319 k_MT_make_319 = true := by decide +kernel
theorem d_MT_make_30 : decode prog_18_method_15_code 30 = .ok (.invokestatic 137, 3) := by decide +kernel
theorem q_MT_make_30 : jlm lw_tbl 1941 "ChessHouseModel$Texts" 137 ⟨"ChessHouseModel$Texts", "kind", "(I)I"⟩ = true := by decide +kernel
theorem d_MT_make_52 : decode prog_18_method_15_code 52 = .ok (.invokevirtual 140, 3) := by decide +kernel
theorem q_MT_make_52 : jlm lw_tbl 1944 "ChessHouseModel$Texts" 140 ⟨"ChessHouseModel$Texts", "isTaking", "(I)Z"⟩ = true := by decide +kernel
theorem d_MT_make_116 : decode prog_18_method_15_code 116 = .ok (.invokestatic 137, 3) := by decide +kernel
theorem q_MT_make_116 : jlm lw_tbl 1941 "ChessHouseModel$Texts" 137 ⟨"ChessHouseModel$Texts", "kind", "(I)I"⟩ = true := by decide +kernel
theorem d_MT_make_229 : decode prog_18_method_15_code 229 = .ok (.invokevirtual 144, 3) := by decide +kernel
theorem q_MT_make_229 : jlm lw_tbl 1948 "ChessHouseModel$Texts" 144 ⟨"ChessHouseModel$Texts", "lose", "(I)V"⟩ = true := by decide +kernel
theorem d_MT_make_234 : decode prog_18_method_15_code 234 = .ok (.invokevirtual 144, 3) := by decide +kernel
theorem q_MT_make_234 : jlm lw_tbl 1948 "ChessHouseModel$Texts" 144 ⟨"ChessHouseModel$Texts", "lose", "(I)V"⟩ = true := by decide +kernel
theorem d_MT_make_281 : decode prog_18_method_15_code 281 = .ok (.invokestatic 104, 3) := by decide +kernel
theorem q_MT_make_281 : jlm lw_tbl 1952 "ChessHouseModel$Texts" 104 ⟨"ChessHouseModel$Texts", "step", "(III)I"⟩ = true := by decide +kernel
theorem d_MT_make_286 : decode prog_18_method_15_code 286 = .ok (.invokevirtual 108, 3) := by decide +kernel
theorem q_MT_make_286 : jlm lw_tbl 1955 "ChessHouseModel$Texts" 108 ⟨"ChessHouseModel$Texts", "stands", "(II)Z"⟩ = true := by decide +kernel
theorem d_MT_make_296 : decode prog_18_method_15_code 296 = .ok (.invokestatic 104, 3) := by decide +kernel
theorem q_MT_make_296 : jlm lw_tbl 1952 "ChessHouseModel$Texts" 104 ⟨"ChessHouseModel$Texts", "step", "(III)I"⟩ = true := by decide +kernel
theorem d_MT_make_301 : decode prog_18_method_15_code 301 = .ok (.invokevirtual 108, 3) := by decide +kernel
theorem q_MT_make_301 : jlm lw_tbl 1955 "ChessHouseModel$Texts" 108 ⟨"ChessHouseModel$Texts", "stands", "(II)Z"⟩ = true := by decide +kernel
theorem d_MT_make_342 : decode prog_18_method_15_code 342 = .ok (.return_, 1) := by decide +kernel
def y_MT_isSafe : jY := (⟨"ChessHouseModel$Texts", "isSafe", "(I)Z"⟩, prog_18_method_16_code, 3, (some .boolean))
theorem m_MT_isSafe : jmth lw_tbl y_MT_isSafe 1 := ⟨jTA_in (wi := 1993) (by decide +kernel) rfl, jTA_in (wi := 315) (by decide +kernel) rfl, by decide, by decide, by decide +kernel⟩
theorem i_MT_isSafe : Jvm.Cond.instanceMethod y_MT_isSafe.1 ∈ jTA lw_tbl := jTA_in (wi := 1992) (by decide +kernel) rfl
theorem e_MT_isSafe : Jvm.Cond.selects y_MT_isSafe.1.cls y_MT_isSafe.1 y_MT_isSafe.1 ∈ jTA lw_tbl := jTA_in (wi := 122) (by decide +kernel) rfl
def k_MT_isSafe_0 : List jI := [(.aload_n 0, 1, (0, 0, 0, 0, 0))]
theorem o_MT_isSafe_0 : jokL "ChessHouseModel$Texts" lw_tbl jcl jtb 3 false prog_18_method_16_code 0 k_MT_isSafe_0 = true := by decide +kernel
def k_MT_isSafe_4 : List jI := [(.aload_n 0, 1, (0, 0, 0, 0, 0)), (.iload_n 1, 1, (1, 0, 0, 0, 0))]
theorem o_MT_isSafe_4 : jokL "ChessHouseModel$Texts" lw_tbl jcl jtb 3 false prog_18_method_16_code 4 k_MT_isSafe_4 = true := by decide +kernel
def k_MT_isSafe_9 : List jI := [(.aload_n 0, 1, (0, 0, 0, 0, 0)), (.iconst 1, 1, (0, 0, 0, 1, 0)), (.aload_n 0, 1, (0, 0, 0, 0, 0)), (.getfield 122, 3, (12, 25, 2057, 0, 0)), (.isub, 1, (0, 0, 0, 0, 0))]
theorem o_MT_isSafe_9 : jokL "ChessHouseModel$Texts" lw_tbl jcl jtb 3 false prog_18_method_16_code 9 k_MT_isSafe_9 = true := by decide +kernel
def k_MT_isSafe_19 : List jI := [(.ifCond .ne 7, 3, (26, 0, 0, 0, 0)), (.iconst 1, 1, (0, 0, 0, 1, 0)), (.goto 4, 3, (27, 0, 0, 0, 0))]
theorem o_MT_isSafe_19 : jokL "ChessHouseModel$Texts" lw_tbl jcl jtb 3 false prog_18_method_16_code 19 k_MT_isSafe_19 = true := by decide +kernel
def k_MT_isSafe_26 : List jI := [(.iconst 0, 1, (0, 0, 0, 0, 0)), (.istore_n 2, 1, (2, 0, 0, 0, 0)), (.aload_n 0, 1, (0, 0, 0, 0, 0))]
theorem o_MT_isSafe_26 : jokL "ChessHouseModel$Texts" lw_tbl jcl jtb 3 false prog_18_method_16_code 26 k_MT_isSafe_26 = true := by decide +kernel
def k_MT_isSafe_27 : List jI := [(.istore_n 2, 1, (2, 0, 0, 0, 0)), (.aload_n 0, 1, (0, 0, 0, 0, 0))]
theorem o_MT_isSafe_27 : jokL "ChessHouseModel$Texts" lw_tbl jcl jtb 3 false prog_18_method_16_code 27 k_MT_isSafe_27 = true := by decide +kernel
def k_MT_isSafe_32 : List jI := [(.iload_n 2, 1, (2, 0, 0, 0, 0))]
theorem o_MT_isSafe_32 : jokL "ChessHouseModel$Texts" lw_tbl jcl jtb 3 false prog_18_method_16_code 32 k_MT_isSafe_32 = true := by decide +kernel
theorem d_MT_isSafe_1 : decode prog_18_method_16_code 1 = .ok (.invokevirtual 147, 3) := by decide +kernel
theorem q_MT_isSafe_1 : jlm lw_tbl 1994 "ChessHouseModel$Texts" 147 ⟨"ChessHouseModel$Texts", "keep", "()V"⟩ = true := by decide +kernel
theorem d_MT_isSafe_6 : decode prog_18_method_16_code 6 = .ok (.invokevirtual 150, 3) := by decide +kernel
theorem q_MT_isSafe_6 : jlm lw_tbl 1937 "ChessHouseModel$Texts" 150 ⟨"ChessHouseModel$Texts", "make", "(I)V"⟩ = true := by decide +kernel
theorem d_MT_isSafe_16 : decode prog_18_method_16_code 16 = .ok (.invokevirtual 153, 3) := by decide +kernel
theorem q_MT_isSafe_16 : jlm lw_tbl 1998 "ChessHouseModel$Texts" 153 ⟨"ChessHouseModel$Texts", "isInCheck", "(I)Z"⟩ = true := by decide +kernel
theorem d_MT_isSafe_29 : decode prog_18_method_16_code 29 = .ok (.invokevirtual 156, 3) := by decide +kernel
theorem q_MT_isSafe_29 : jlm lw_tbl 2006 "ChessHouseModel$Texts" 156 ⟨"ChessHouseModel$Texts", "bringBack", "()V"⟩ = true := by decide +kernel
theorem d_MT_isSafe_33 : decode prog_18_method_16_code 33 = .ok (.ireturn, 1) := by decide +kernel
def y_MT_isClear : jY := (⟨"ChessHouseModel$Texts", "isClear", "(II)Z"⟩, prog_18_method_17_code, 5, (some .boolean))
theorem m_MT_isClear : jmth lw_tbl y_MT_isClear 2 := ⟨jTA_in (wi := 1981) (by decide +kernel) rfl, jTA_in (wi := 315) (by decide +kernel) rfl, by decide, by decide, by decide +kernel⟩
theorem i_MT_isClear : Jvm.Cond.instanceMethod y_MT_isClear.1 ∈ jTA lw_tbl := jTA_in (wi := 1980) (by decide +kernel) rfl
theorem e_MT_isClear : Jvm.Cond.selects y_MT_isClear.1.cls y_MT_isClear.1 y_MT_isClear.1 ∈ jTA lw_tbl := jTA_in (wi := 119) (by decide +kernel) rfl
def k_MT_isClear_0 : List jI := [(.iconst 1, 1, (0, 0, 0, 1, 0)), (.istore_n 3, 1, (3, 0, 0, 0, 0)), (.iload_n 1, 1, (1, 0, 0, 0, 0)), (.istore 4, 2, (4, 0, 0, 0, 0))]
theorem o_MT_isClear_0 : jokL "ChessHouseModel$Texts" lw_tbl jcl jtb 5 false prog_18_method_17_code 0 k_MT_isClear_0 = true := by decide +kernel
def k_MT_isClear_5 : List jI := [(.iload 4, 2, (4, 0, 0, 0, 0)), (.iload_n 2, 1, (2, 0, 0, 0, 0)), (.if_icmp .gt 29, 3, (37, 0, 0, 0, 0)), (.iload_n 3, 1, (3, 0, 0, 0, 0)), (.ifCond .eq 17, 3, (29, 0, 0, 0, 0)), (.aload_n 0, 1, (0, 0, 0, 0, 0)), (.getfield 71, 3, (12, 24, 2055, 0, 0)), (.iload 4, 2, (4, 0, 0, 0, 0)), (.iaload, 1, (0, 0, 0, 0, 0)), (.ifCond .ne 7, 3, (29, 0, 0, 0, 0)), (.iconst 1, 1, (0, 0, 0, 1, 0)), (.goto 4, 3, (30, 0, 0, 0, 0))]
theorem o_MT_isClear_5 : jokL "ChessHouseModel$Texts" lw_tbl jcl jtb 5 false prog_18_method_17_code 5 k_MT_isClear_5 = true := by decide +kernel
def k_MT_isClear_29 : List jI := [(.iconst 0, 1, (0, 0, 0, 0, 0)), (.istore_n 3, 1, (3, 0, 0, 0, 0)), (.iinc 4 1, 3, (0, 0, 0, 1, 0)), (.goto (-29), 3, (5, 0, 0, 0, 0))]
theorem o_MT_isClear_29 : jokL "ChessHouseModel$Texts" lw_tbl jcl jtb 5 false prog_18_method_17_code 29 k_MT_isClear_29 = true := by decide +kernel
def k_MT_isClear_30 : List jI := [(.istore_n 3, 1, (3, 0, 0, 0, 0)), (.iinc 4 1, 3, (0, 0, 0, 1, 0)), (.goto (-29), 3, (5, 0, 0, 0, 0))]
theorem o_MT_isClear_30 : jokL "ChessHouseModel$Texts" lw_tbl jcl jtb 5 false prog_18_method_17_code 30 k_MT_isClear_30 = true := by decide +kernel
def k_MT_isClear_37 : List jI := [(.iload_n 3, 1, (3, 0, 0, 0, 0))]
theorem o_MT_isClear_37 : jokL "ChessHouseModel$Texts" lw_tbl jcl jtb 5 false prog_18_method_17_code 37 k_MT_isClear_37 = true := by decide +kernel
theorem d_MT_isClear_38 : decode prog_18_method_17_code 38 = .ok (.ireturn, 1) := by decide +kernel
def y_MT_mayCastle : jY := (⟨"ChessHouseModel$Texts", "mayCastle", "(I)Z"⟩, prog_18_method_18_code, 6, (some .boolean))
theorem m_MT_mayCastle : jmth lw_tbl y_MT_mayCastle 1 := ⟨jTA_in (wi := 1977) (by decide +kernel) rfl, jTA_in (wi := 315) (by decide +kernel) rfl, by decide, by decide, by decide +kernel⟩
theorem i_MT_mayCastle : Jvm.Cond.instanceMethod y_MT_mayCastle.1 ∈ jTA lw_tbl := jTA_in (wi := 1976) (by decide +kernel) rfl
theorem e_MT_mayCastle : Jvm.Cond.selects y_MT_mayCastle.1.cls y_MT_mayCastle.1 y_MT_mayCastle.1 ∈ jTA lw_tbl := jTA_in (wi := 118) (by decide +kernel) rfl
def k_MT_mayCastle_0 : List jI := [(.iconst 4, 1, (0, 0, 0, 4, 0)), (.bipush 56, 2, (0, 0, 0, 56, 0)), (.aload_n 0, 1, (0, 0, 0, 0, 0)), (.getfield 122, 3, (12, 25, 2057, 0, 0)), (.imul, 1, (0, 0, 0, 0, 0)), (.iadd, 1, (0, 0, 0, 0, 0)), (.istore_n 2, 1, (2, 0, 0, 0, 0)), (.iload_n 1, 1, (1, 0, 0, 0, 0)), (.iload_n 2, 1, (2, 0, 0, 0, 0)), (.if_icmp .le 7, 3, (19, 0, 0, 0, 0)), (.iconst 1, 1, (0, 0, 0, 1, 0)), (.goto 4, 3, (20, 0, 0, 0, 0))]
theorem o_MT_mayCastle_0 : jokL "ChessHouseModel$Texts" lw_tbl jcl jtb 6 false prog_18_method_18_code 0 k_MT_mayCastle_0 = true := by decide +kernel
def k_MT_mayCastle_19 : List jI := [(.iconst 0, 1, (0, 0, 0, 0, 0)), (.istore_n 3, 1, (3, 0, 0, 0, 0)), (.aload_n 0, 1, (0, 0, 0, 0, 0)), (.getfield 125, 3, (12, 26, 2059, 0, 0)), (.iconst 2, 1, (0, 0, 0, 2, 0)), (.aload_n 0, 1, (0, 0, 0, 0, 0)), (.getfield 122, 3, (12, 25, 2057, 0, 0)), (.imul, 1, (0, 0, 0, 0, 0)), (.iload_n 3, 1, (3, 0, 0, 0, 0)), (.ifCond .eq 7, 3, (39, 0, 0, 0, 0)), (.iconst 0, 1, (0, 0, 0, 0, 0)), (.goto 4, 3, (40, 0, 0, 0, 0))]
theorem o_MT_mayCastle_19 : jokL "ChessHouseModel$Texts" lw_tbl jcl jtb 6 false prog_18_method_18_code 19 k_MT_mayCastle_19 = true := by decide +kernel
def k_MT_mayCastle_20 : List jI := [(.istore_n 3, 1, (3, 0, 0, 0, 0)), (.aload_n 0, 1, (0, 0, 0, 0, 0)), (.getfield 125, 3, (12, 26, 2059, 0, 0)), (.iconst 2, 1, (0, 0, 0, 2, 0)), (.aload_n 0, 1, (0, 0, 0, 0, 0)), (.getfield 122, 3, (12, 25, 2057, 0, 0)), (.imul, 1, (0, 0, 0, 0, 0)), (.iload_n 3, 1, (3, 0, 0, 0, 0)), (.ifCond .eq 7, 3, (39, 0, 0, 0, 0)), (.iconst 0, 1, (0, 0, 0, 0, 0)), (.goto 4, 3, (40, 0, 0, 0, 0))]
theorem o_MT_mayCastle_20 : jokL "ChessHouseModel$Texts" lw_tbl jcl jtb 6 false prog_18_method_18_code 20 k_MT_mayCastle_20 = true := by decide +kernel
def k_MT_mayCastle_39 : List jI := [(.iconst 1, 1, (0, 0, 0, 1, 0)), (.iadd, 1, (0, 0, 0, 0, 0)), (.ishr, 1, (0, 0, 0, 0, 0)), (.iconst 1, 1, (0, 0, 0, 1, 0)), (.iand, 1, (0, 0, 0, 0, 0)), (.iconst 1, 1, (0, 0, 0, 1, 0)), (.if_icmp .ne 7, 3, (52, 0, 0, 0, 0)), (.iconst 1, 1, (0, 0, 0, 1, 0)), (.goto 4, 3, (53, 0, 0, 0, 0))]
theorem o_MT_mayCastle_39 : jokL "ChessHouseModel$Texts" lw_tbl jcl jtb 6 false prog_18_method_18_code 39 k_MT_mayCastle_39 = true := by decide +kernel
def k_MT_mayCastle_40 : List jI := [(.iadd, 1, (0, 0, 0, 0, 0)), (.ishr, 1, (0, 0, 0, 0, 0)), (.iconst 1, 1, (0, 0, 0, 1, 0)), (.iand, 1, (0, 0, 0, 0, 0)), (.iconst 1, 1, (0, 0, 0, 1, 0)), (.if_icmp .ne 7, 3, (52, 0, 0, 0, 0)), (.iconst 1, 1, (0, 0, 0, 1, 0)), (.goto 4, 3, (53, 0, 0, 0, 0))]
theorem o_MT_mayCastle_40 : jokL "ChessHouseModel$Texts" lw_tbl jcl jtb 6 false prog_18_method_18_code 40 k_MT_mayCastle_40 = true := by decide +kernel
def k_MT_mayCastle_52 : List jI := [(.iconst 0, 1, (0, 0, 0, 0, 0)), (.istore 4, 2, (4, 0, 0, 0, 0)), (.iload_n 3, 1, (3, 0, 0, 0, 0)), (.ifCond .eq 16, 3, (72, 0, 0, 0, 0)), (.aload_n 0, 1, (0, 0, 0, 0, 0)), (.iload_n 2, 1, (2, 0, 0, 0, 0)), (.iconst 1, 1, (0, 0, 0, 1, 0)), (.iadd, 1, (0, 0, 0, 0, 0)), (.iload_n 2, 1, (2, 0, 0, 0, 0)), (.iconst 2, 1, (0, 0, 0, 2, 0)), (.iadd, 1, (0, 0, 0, 0, 0))]
theorem o_MT_mayCastle_52 : jokL "ChessHouseModel$Texts" lw_tbl jcl jtb 6 false prog_18_method_18_code 52 k_MT_mayCastle_52 = true := by decide +kernel
def k_MT_mayCastle_53 : List jI := [(.istore 4, 2, (4, 0, 0, 0, 0)), (.iload_n 3, 1, (3, 0, 0, 0, 0)), (.ifCond .eq 16, 3, (72, 0, 0, 0, 0)), (.aload_n 0, 1, (0, 0, 0, 0, 0)), (.iload_n 2, 1, (2, 0, 0, 0, 0)), (.iconst 1, 1, (0, 0, 0, 1, 0)), (.iadd, 1, (0, 0, 0, 0, 0)), (.iload_n 2, 1, (2, 0, 0, 0, 0)), (.iconst 2, 1, (0, 0, 0, 2, 0)), (.iadd, 1, (0, 0, 0, 0, 0))]
theorem o_MT_mayCastle_53 : jokL "ChessHouseModel$Texts" lw_tbl jcl jtb 6 false prog_18_method_18_code 53 k_MT_mayCastle_53 = true := by decide +kernel
def k_MT_mayCastle_69 : List jI := [(.goto 13, 3, (82, 0, 0, 0, 0))]
theorem o_MT_mayCastle_69 : jokL "ChessHouseModel$Texts" lw_tbl jcl jtb 6 false prog_18_method_18_code 69 k_MT_mayCastle_69 = true := by decide +kernel
def k_MT_mayCastle_72 : List jI := [(.aload_n 0, 1, (0, 0, 0, 0, 0)), (.iload_n 2, 1, (2, 0, 0, 0, 0)), (.iconst 3, 1, (0, 0, 0, 3, 0)), (.isub, 1, (0, 0, 0, 0, 0)), (.iload_n 2, 1, (2, 0, 0, 0, 0)), (.iconst 1, 1, (0, 0, 0, 1, 0)), (.isub, 1, (0, 0, 0, 0, 0))]
theorem o_MT_mayCastle_72 : jokL "ChessHouseModel$Texts" lw_tbl jcl jtb 6 false prog_18_method_18_code 72 k_MT_mayCastle_72 = true := by decide +kernel
def k_MT_mayCastle_82 : List jI := [(.istore 5, 2, (5, 0, 0, 0, 0)), (.iload 4, 2, (4, 0, 0, 0, 0)), (.ifCond .eq 44, 3, (130, 0, 0, 0, 0)), (.iload 5, 2, (5, 0, 0, 0, 0)), (.ifCond .eq 39, 3, (130, 0, 0, 0, 0)), (.aload_n 0, 1, (0, 0, 0, 0, 0)), (.iload_n 2, 1, (2, 0, 0, 0, 0)), (.iconst 1, 1, (0, 0, 0, 1, 0)), (.aload_n 0, 1, (0, 0, 0, 0, 0)), (.getfield 122, 3, (12, 25, 2057, 0, 0)), (.isub, 1, (0, 0, 0, 0, 0))]
theorem o_MT_mayCastle_82 : jokL "ChessHouseModel$Texts" lw_tbl jcl jtb 6 false prog_18_method_18_code 82 k_MT_mayCastle_82 = true := by decide +kernel
def k_MT_mayCastle_105 : List jI := [(.ifCond .ne 25, 3, (130, 0, 0, 0, 0)), (.aload_n 0, 1, (0, 0, 0, 0, 0)), (.iload_n 2, 1, (2, 0, 0, 0, 0)), (.iload_n 1, 1, (1, 0, 0, 0, 0)), (.iadd, 1, (0, 0, 0, 0, 0)), (.iconst 2, 1, (0, 0, 0, 2, 0)), (.idiv, 1, (0, 0, 0, 0, 0)), (.iconst 1, 1, (0, 0, 0, 1, 0)), (.aload_n 0, 1, (0, 0, 0, 0, 0)), (.getfield 122, 3, (12, 25, 2057, 0, 0)), (.isub, 1, (0, 0, 0, 0, 0))]
theorem o_MT_mayCastle_105 : jokL "ChessHouseModel$Texts" lw_tbl jcl jtb 6 false prog_18_method_18_code 105 k_MT_mayCastle_105 = true := by decide +kernel
def k_MT_mayCastle_123 : List jI := [(.ifCond .ne 7, 3, (130, 0, 0, 0, 0)), (.iconst 1, 1, (0, 0, 0, 1, 0)), (.goto 4, 3, (131, 0, 0, 0, 0))]
theorem o_MT_mayCastle_123 : jokL "ChessHouseModel$Texts" lw_tbl jcl jtb 6 false prog_18_method_18_code 123 k_MT_mayCastle_123 = true := by decide +kernel
def k_MT_mayCastle_130 : List jI := [(.iconst 0, 1, (0, 0, 0, 0, 0))]
theorem o_MT_mayCastle_130 : jokL "ChessHouseModel$Texts" lw_tbl jcl jtb 6 false prog_18_method_18_code 130 k_MT_mayCastle_130 = true := by decide +kernel
theorem d_MT_mayCastle_66 : decode prog_18_method_18_code 66 = .ok (.invokevirtual 159, 3) := by decide +kernel
theorem q_MT_mayCastle_66 : jlm lw_tbl 1978 "ChessHouseModel$Texts" 159 ⟨"ChessHouseModel$Texts", "isClear", "(II)Z"⟩ = true := by decide +kernel
theorem d_MT_mayCastle_79 : decode prog_18_method_18_code 79 = .ok (.invokevirtual 159, 3) := by decide +kernel
theorem q_MT_mayCastle_79 : jlm lw_tbl 1978 "ChessHouseModel$Texts" 159 ⟨"ChessHouseModel$Texts", "isClear", "(II)Z"⟩ = true := by decide +kernel
theorem d_MT_mayCastle_102 : decode prog_18_method_18_code 102 = .ok (.invokevirtual 119, 3) := by decide +kernel
theorem q_MT_mayCastle_102 : jlm lw_tbl 1982 "ChessHouseModel$Texts" 119 ⟨"ChessHouseModel$Texts", "isAttacked", "(II)Z"⟩ = true := by decide +kernel
theorem d_MT_mayCastle_120 : decode prog_18_method_18_code 120 = .ok (.invokevirtual 119, 3) := by decide +kernel
theorem q_MT_mayCastle_120 : jlm lw_tbl 1982 "ChessHouseModel$Texts" 119 ⟨"ChessHouseModel$Texts", "isAttacked", "(II)Z"⟩ = true := by decide +kernel
theorem d_MT_mayCastle_131 : decode prog_18_method_18_code 131 = .ok (.ireturn, 1) := by decide +kernel
