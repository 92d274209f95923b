def y_MT_pawnGoes : jY := (⟨"ChessHouseModel$Texts", "pawnGoes", "(II)Z"⟩, prog_18_method_19_code, 5, (some .boolean))
theorem m_MT_pawnGoes : jmth lw_tbl y_MT_pawnGoes 2 := ⟨jTA_in (wi := 1973) (by decide +kernel) rfl, jTA_in (wi := 315) (by decide +kernel) rfl, by decide, by decide, by decide +kernel⟩
theorem i_MT_pawnGoes : Jvm.Cond.instanceMethod y_MT_pawnGoes.1 ∈ jTA lw_tbl := jTA_in (wi := 1972) (by decide +kernel) rfl
theorem e_MT_pawnGoes : Jvm.Cond.selects y_MT_pawnGoes.1.cls y_MT_pawnGoes.1 y_MT_pawnGoes.1 ∈ jTA lw_tbl := jTA_in (wi := 117) (by decide +kernel) rfl
def k_MT_pawnGoes_0 : List jI := [(.aload_n 0, 1, (0, 0, 0, 0, 0)), (.getfield 122, 3, (12, 25, 2057, 0, 0)), (.ifCond .ne 8, 3, (12, 0, 0, 0, 0)), (.bipush 8, 2, (0, 0, 0, 8, 0)), (.goto 5, 3, (14, 0, 0, 0, 0))]
theorem o_MT_pawnGoes_0 : jokL "ChessHouseModel$Texts" lw_tbl jcl jtb 5 false prog_18_method_19_code 0 k_MT_pawnGoes_0 = true := by decide +kernel
def k_MT_pawnGoes_12 : List jI := [(.bipush (-8), 2, (0, 0, 0, (-8), 0)), (.istore_n 3, 1, (3, 0, 0, 0, 0)), (.iload_n 2, 1, (2, 0, 0, 0, 0)), (.iload_n 1, 1, (1, 0, 0, 0, 0)), (.iload_n 3, 1, (3, 0, 0, 0, 0)), (.iadd, 1, (0, 0, 0, 0, 0)), (.if_icmp .ne 18, 3, (37, 0, 0, 0, 0)), (.aload_n 0, 1, (0, 0, 0, 0, 0)), (.getfield 71, 3, (12, 24, 2055, 0, 0)), (.iload_n 2, 1, (2, 0, 0, 0, 0)), (.iaload, 1, (0, 0, 0, 0, 0)), (.ifCond .ne 7, 3, (35, 0, 0, 0, 0)), (.iconst 1, 1, (0, 0, 0, 1, 0)), (.goto 4, 3, (36, 0, 0, 0, 0))]
theorem o_MT_pawnGoes_12 : jokL "ChessHouseModel$Texts" lw_tbl jcl jtb 5 false prog_18_method_19_code 12 k_MT_pawnGoes_12 = true := by decide +kernel
def k_MT_pawnGoes_14 : List jI := [(.istore_n 3, 1, (3, 0, 0, 0, 0)), (.iload_n 2, 1, (2, 0, 0, 0, 0)), (.iload_n 1, 1, (1, 0, 0, 0, 0)), (.iload_n 3, 1, (3, 0, 0, 0, 0)), (.iadd, 1, (0, 0, 0, 0, 0)), (.if_icmp .ne 18, 3, (37, 0, 0, 0, 0)), (.aload_n 0, 1, (0, 0, 0, 0, 0)), (.getfield 71, 3, (12, 24, 2055, 0, 0)), (.iload_n 2, 1, (2, 0, 0, 0, 0)), (.iaload, 1, (0, 0, 0, 0, 0)), (.ifCond .ne 7, 3, (35, 0, 0, 0, 0)), (.iconst 1, 1, (0, 0, 0, 1, 0)), (.goto 4, 3, (36, 0, 0, 0, 0))]
theorem o_MT_pawnGoes_14 : jokL "ChessHouseModel$Texts" lw_tbl jcl jtb 5 false prog_18_method_19_code 14 k_MT_pawnGoes_14 = true := by decide +kernel
def k_MT_pawnGoes_35 : List jI := [(.iconst 0, 1, (0, 0, 0, 0, 0))]
theorem o_MT_pawnGoes_35 : jokL "ChessHouseModel$Texts" lw_tbl jcl jtb 5 false prog_18_method_19_code 35 k_MT_pawnGoes_35 = true := by decide +kernel
def k_MT_pawnGoes_37 : List jI := [(.iload_n 2, 1, (2, 0, 0, 0, 0)), (.iload_n 1, 1, (1, 0, 0, 0, 0)), (.iconst 2, 1, (0, 0, 0, 2, 0)), (.iload_n 3, 1, (3, 0, 0, 0, 0)), (.imul, 1, (0, 0, 0, 0, 0)), (.iadd, 1, (0, 0, 0, 0, 0)), (.if_icmp .ne 49, 3, (92, 0, 0, 0, 0)), (.iload_n 1, 1, (1, 0, 0, 0, 0)), (.bipush 8, 2, (0, 0, 0, 8, 0)), (.idiv, 1, (0, 0, 0, 0, 0)), (.aload_n 0, 1, (0, 0, 0, 0, 0)), (.getfield 122, 3, (12, 25, 2057, 0, 0)), (.ifCond .ne 7, 3, (61, 0, 0, 0, 0)), (.iconst 1, 1, (0, 0, 0, 1, 0)), (.goto 5, 3, (63, 0, 0, 0, 0))]
theorem o_MT_pawnGoes_37 : jokL "ChessHouseModel$Texts" lw_tbl jcl jtb 5 false prog_18_method_19_code 37 k_MT_pawnGoes_37 = true := by decide +kernel
def k_MT_pawnGoes_61 : List jI := [(.bipush 6, 2, (0, 0, 0, 6, 0)), (.if_icmp .ne 27, 3, (90, 0, 0, 0, 0)), (.aload_n 0, 1, (0, 0, 0, 0, 0)), (.getfield 71, 3, (12, 24, 2055, 0, 0)), (.iload_n 1, 1, (1, 0, 0, 0, 0)), (.iload_n 3, 1, (3, 0, 0, 0, 0)), (.iadd, 1, (0, 0, 0, 0, 0)), (.iaload, 1, (0, 0, 0, 0, 0)), (.ifCond .ne 16, 3, (90, 0, 0, 0, 0)), (.aload_n 0, 1, (0, 0, 0, 0, 0)), (.getfield 71, 3, (12, 24, 2055, 0, 0)), (.iload_n 2, 1, (2, 0, 0, 0, 0)), (.iaload, 1, (0, 0, 0, 0, 0)), (.ifCond .ne 7, 3, (90, 0, 0, 0, 0)), (.iconst 1, 1, (0, 0, 0, 1, 0)), (.goto 4, 3, (91, 0, 0, 0, 0))]
theorem o_MT_pawnGoes_61 : jokL "ChessHouseModel$Texts" lw_tbl jcl jtb 5 false prog_18_method_19_code 61 k_MT_pawnGoes_61 = true := by decide +kernel
def k_MT_pawnGoes_63 : List jI := [(.if_icmp .ne 27, 3, (90, 0, 0, 0, 0)), (.aload_n 0, 1, (0, 0, 0, 0, 0)), (.getfield 71, 3, (12, 24, 2055, 0, 0)), (.iload_n 1, 1, (1, 0, 0, 0, 0)), (.iload_n 3, 1, (3, 0, 0, 0, 0)), (.iadd, 1, (0, 0, 0, 0, 0)), (.iaload, 1, (0, 0, 0, 0, 0)), (.ifCond .ne 16, 3, (90, 0, 0, 0, 0)), (.aload_n 0, 1, (0, 0, 0, 0, 0)), (.getfield 71, 3, (12, 24, 2055, 0, 0)), (.iload_n 2, 1, (2, 0, 0, 0, 0)), (.iaload, 1, (0, 0, 0, 0, 0)), (.ifCond .ne 7, 3, (90, 0, 0, 0, 0)), (.iconst 1, 1, (0, 0, 0, 1, 0)), (.goto 4, 3, (91, 0, 0, 0, 0))]
theorem o_MT_pawnGoes_63 : jokL "ChessHouseModel$Texts" lw_tbl jcl jtb 5 false prog_18_method_19_code 63 k_MT_pawnGoes_63 = true := by decide +kernel
def k_MT_pawnGoes_90 : List jI := [(.iconst 0, 1, (0, 0, 0, 0, 0))]
theorem o_MT_pawnGoes_90 : jokL "ChessHouseModel$Texts" lw_tbl jcl jtb 5 false prog_18_method_19_code 90 k_MT_pawnGoes_90 = true := by decide +kernel
def k_MT_pawnGoes_92 : List jI := [(.iload_n 2, 1, (2, 0, 0, 0, 0)), (.bipush 8, 2, (0, 0, 0, 8, 0)), (.irem, 1, (0, 0, 0, 0, 0)), (.iload_n 1, 1, (1, 0, 0, 0, 0)), (.bipush 8, 2, (0, 0, 0, 8, 0)), (.irem, 1, (0, 0, 0, 0, 0)), (.isub, 1, (0, 0, 0, 0, 0)), (.istore 4, 2, (4, 0, 0, 0, 0)), (.iload_n 2, 1, (2, 0, 0, 0, 0)), (.bipush 8, 2, (0, 0, 0, 8, 0)), (.idiv, 1, (0, 0, 0, 0, 0)), (.iload_n 1, 1, (1, 0, 0, 0, 0)), (.bipush 8, 2, (0, 0, 0, 8, 0)), (.idiv, 1, (0, 0, 0, 0, 0)), (.iload_n 3, 1, (3, 0, 0, 0, 0)), (.bipush 8, 2, (0, 0, 0, 8, 0)), (.idiv, 1, (0, 0, 0, 0, 0)), (.iadd, 1, (0, 0, 0, 0, 0)), (.if_icmp .ne 45, 3, (161, 0, 0, 0, 0)), (.iload 4, 2, (4, 0, 0, 0, 0)), (.iconst 1, 1, (0, 0, 0, 1, 0)), (.if_icmp .eq 9, 3, (131, 0, 0, 0, 0)), (.iload 4, 2, (4, 0, 0, 0, 0)), (.iconst (-1), 1, (0, 0, 0, (-1), 0)), (.if_icmp .ne 33, 3, (161, 0, 0, 0, 0)), (.aload_n 0, 1, (0, 0, 0, 0, 0)), (.getfield 71, 3, (12, 24, 2055, 0, 0)), (.iload_n 2, 1, (2, 0, 0, 0, 0)), (.iaload, 1, (0, 0, 0, 0, 0))]
theorem o_MT_pawnGoes_92 : jokL "ChessHouseModel$Texts" lw_tbl jcl jtb 5 false prog_18_method_19_code 92 k_MT_pawnGoes_92 = true := by decide +kernel
def k_MT_pawnGoes_131 : List jI := [(.aload_n 0, 1, (0, 0, 0, 0, 0)), (.getfield 71, 3, (12, 24, 2055, 0, 0)), (.iload_n 2, 1, (2, 0, 0, 0, 0)), (.iaload, 1, (0, 0, 0, 0, 0))]
theorem o_MT_pawnGoes_131 : jokL "ChessHouseModel$Texts" lw_tbl jcl jtb 5 false prog_18_method_19_code 131 k_MT_pawnGoes_131 = true := by decide +kernel
def k_MT_pawnGoes_140 : List jI := [(.iconst 1, 1, (0, 0, 0, 1, 0)), (.aload_n 0, 1, (0, 0, 0, 0, 0)), (.getfield 122, 3, (12, 25, 2057, 0, 0)), (.isub, 1, (0, 0, 0, 0, 0)), (.if_icmp .eq 11, 3, (157, 0, 0, 0, 0)), (.iload_n 2, 1, (2, 0, 0, 0, 0)), (.aload_n 0, 1, (0, 0, 0, 0, 0)), (.getfield 128, 3, (12, 27, 2061, 0, 0)), (.if_icmp .ne 7, 3, (161, 0, 0, 0, 0)), (.iconst 1, 1, (0, 0, 0, 1, 0)), (.goto 4, 3, (162, 0, 0, 0, 0))]
theorem o_MT_pawnGoes_140 : jokL "ChessHouseModel$Texts" lw_tbl jcl jtb 5 false prog_18_method_19_code 140 k_MT_pawnGoes_140 = true := by decide +kernel
def k_MT_pawnGoes_157 : List jI := [(.iconst 1, 1, (0, 0, 0, 1, 0)), (.goto 4, 3, (162, 0, 0, 0, 0))]
theorem o_MT_pawnGoes_157 : jokL "ChessHouseModel$Texts" lw_tbl jcl jtb 5 false prog_18_method_19_code 157 k_MT_pawnGoes_157 = true := by decide +kernel
def k_MT_pawnGoes_161 : List jI := [(.iconst 0, 1, (0, 0, 0, 0, 0))]
theorem o_MT_pawnGoes_161 : jokL "ChessHouseModel$Texts" lw_tbl jcl jtb 5 false prog_18_method_19_code 161 k_MT_pawnGoes_161 = true := by decide +kernel
theorem d_MT_pawnGoes_36 : decode prog_18_method_19_code 36 = .ok (.ireturn, 1) := by decide +kernel
theorem d_MT_pawnGoes_91 : decode prog_18_method_19_code 91 = .ok (.ireturn, 1) := by decide +kernel
theorem d_MT_pawnGoes_137 : decode prog_18_method_19_code 137 = .ok (.invokestatic 162, 3) := by decide +kernel
theorem q_MT_pawnGoes_137 : jlm lw_tbl 1963 "ChessHouseModel$Texts" 162 ⟨"ChessHouseModel$Texts", "sideOf", "(I)I"⟩ = true := by decide +kernel
theorem d_MT_pawnGoes_162 : decode prog_18_method_19_code 162 = .ok (.ireturn, 1) := by decide +kernel
def y_MT_goes : jY := (⟨"ChessHouseModel$Texts", "goes", "(II)Z"⟩, prog_18_method_20_code, 11, (some .boolean))
theorem m_MT_goes : jmth lw_tbl y_MT_goes 2 := ⟨jTA_in (wi := 1969) (by decide +kernel) rfl, jTA_in (wi := 315) (by decide +kernel) rfl, by decide, by decide, by decide +kernel⟩
theorem i_MT_goes : Jvm.Cond.instanceMethod y_MT_goes.1 ∈ jTA lw_tbl := jTA_in (wi := 1968) (by decide +kernel) rfl
theorem e_MT_goes : Jvm.Cond.selects y_MT_goes.1.cls y_MT_goes.1 y_MT_goes.1 ∈ jTA lw_tbl := jTA_in (wi := 116) (by decide +kernel) rfl
def k_MT_goes_0 : List jI := [(.aload_n 0, 1, (0, 0, 0, 0, 0)), (.getfield 71, 3, (12, 24, 2055, 0, 0)), (.iload_n 1, 1, (1, 0, 0, 0, 0)), (.iaload, 1, (0, 0, 0, 0, 0))]
theorem o_MT_goes_0 : jokL "ChessHouseModel$Texts" lw_tbl jcl jtb 11 false prog_18_method_20_code 0 k_MT_goes_0 = true := by decide +kernel
def k_MT_goes_9 : List jI := [(.aload_n 0, 1, (0, 0, 0, 0, 0)), (.getfield 122, 3, (12, 25, 2057, 0, 0)), (.if_icmp .ne 24, 3, (37, 0, 0, 0, 0)), (.aload_n 0, 1, (0, 0, 0, 0, 0)), (.getfield 71, 3, (12, 24, 2055, 0, 0)), (.iload_n 2, 1, (2, 0, 0, 0, 0)), (.iaload, 1, (0, 0, 0, 0, 0))]
theorem o_MT_goes_9 : jokL "ChessHouseModel$Texts" lw_tbl jcl jtb 11 false prog_18_method_20_code 9 k_MT_goes_9 = true := by decide +kernel
def k_MT_goes_25 : List jI := [(.aload_n 0, 1, (0, 0, 0, 0, 0)), (.getfield 122, 3, (12, 25, 2057, 0, 0)), (.if_icmp .eq 8, 3, (37, 0, 0, 0, 0)), (.iload_n 1, 1, (1, 0, 0, 0, 0)), (.iload_n 2, 1, (2, 0, 0, 0, 0)), (.if_icmp .ne 5, 3, (39, 0, 0, 0, 0)), (.iconst 0, 1, (0, 0, 0, 0, 0))]
theorem o_MT_goes_25 : jokL "ChessHouseModel$Texts" lw_tbl jcl jtb 11 false prog_18_method_20_code 25 k_MT_goes_25 = true := by decide +kernel
def k_MT_goes_37 : List jI := [(.iconst 0, 1, (0, 0, 0, 0, 0))]
theorem o_MT_goes_37 : jokL "ChessHouseModel$Texts" lw_tbl jcl jtb 11 false prog_18_method_20_code 37 k_MT_goes_37 = true := by decide +kernel
def k_MT_goes_39 : List jI := [(.aload_n 0, 1, (0, 0, 0, 0, 0)), (.getfield 71, 3, (12, 24, 2055, 0, 0)), (.iload_n 1, 1, (1, 0, 0, 0, 0)), (.iaload, 1, (0, 0, 0, 0, 0))]
theorem o_MT_goes_39 : jokL "ChessHouseModel$Texts" lw_tbl jcl jtb 11 false prog_18_method_20_code 39 k_MT_goes_39 = true := by decide +kernel
def k_MT_goes_48 : List jI := [(.istore_n 3, 1, (3, 0, 0, 0, 0)), (.iload_n 3, 1, (3, 0, 0, 0, 0)), (.iconst 1, 1, (0, 0, 0, 1, 0)), (.if_icmp .ne 10, 3, (61, 0, 0, 0, 0)), (.aload_n 0, 1, (0, 0, 0, 0, 0)), (.iload_n 1, 1, (1, 0, 0, 0, 0)), (.iload_n 2, 1, (2, 0, 0, 0, 0))]
theorem o_MT_goes_48 : jokL "ChessHouseModel$Texts" lw_tbl jcl jtb 11 false prog_18_method_20_code 48 k_MT_goes_48 = true := by decide +kernel
def k_MT_goes_61 : List jI := [(.iload_n 2, 1, (2, 0, 0, 0, 0)), (.bipush 8, 2, (0, 0, 0, 8, 0)), (.irem, 1, (0, 0, 0, 0, 0)), (.iload_n 1, 1, (1, 0, 0, 0, 0)), (.bipush 8, 2, (0, 0, 0, 8, 0)), (.irem, 1, (0, 0, 0, 0, 0)), (.isub, 1, (0, 0, 0, 0, 0)), (.istore 4, 2, (4, 0, 0, 0, 0)), (.iload_n 2, 1, (2, 0, 0, 0, 0)), (.bipush 8, 2, (0, 0, 0, 8, 0)), (.idiv, 1, (0, 0, 0, 0, 0)), (.iload_n 1, 1, (1, 0, 0, 0, 0)), (.bipush 8, 2, (0, 0, 0, 8, 0)), (.idiv, 1, (0, 0, 0, 0, 0)), (.isub, 1, (0, 0, 0, 0, 0)), (.istore 5, 2, (5, 0, 0, 0, 0)), (.iload 4, 2, (4, 0, 0, 0, 0)), (.iload 4, 2, (4, 0, 0, 0, 0)), (.imul, 1, (0, 0, 0, 0, 0)), (.iload 5, 2, (5, 0, 0, 0, 0)), (.iload 5, 2, (5, 0, 0, 0, 0)), (.imul, 1, (0, 0, 0, 0, 0)), (.iadd, 1, (0, 0, 0, 0, 0)), (.istore 6, 2, (6, 0, 0, 0, 0)), (.iload_n 3, 1, (3, 0, 0, 0, 0)), (.iconst 2, 1, (0, 0, 0, 2, 0)), (.if_icmp .ne 15, 3, (113, 0, 0, 0, 0)), (.iload 6, 2, (6, 0, 0, 0, 0)), (.iconst 5, 1, (0, 0, 0, 5, 0)), (.if_icmp .ne 7, 3, (111, 0, 0, 0, 0)), (.iconst 1, 1, (0, 0, 0, 1, 0)), (.goto 4, 3, (112, 0, 0, 0, 0))]
theorem o_MT_goes_61 : jokL "ChessHouseModel$Texts" lw_tbl jcl jtb 11 false prog_18_method_20_code 61 k_MT_goes_61 = true := by decide +kernel
def k_MT_goes_111 : List jI := [(.iconst 0, 1, (0, 0, 0, 0, 0))]
theorem o_MT_goes_111 : jokL "ChessHouseModel$Texts" lw_tbl jcl jtb 11 false prog_18_method_20_code 111 k_MT_goes_111 = true := by decide +kernel
def k_MT_goes_113 : List jI := [(.iload_n 3, 1, (3, 0, 0, 0, 0)), (.bipush 6, 2, (0, 0, 0, 6, 0)), (.if_icmp .ne 47, 3, (163, 0, 0, 0, 0)), (.iload 6, 2, (6, 0, 0, 0, 0)), (.iconst 3, 1, (0, 0, 0, 3, 0)), (.if_icmp .lt 35, 3, (157, 0, 0, 0, 0)), (.iload_n 1, 1, (1, 0, 0, 0, 0)), (.iconst 4, 1, (0, 0, 0, 4, 0)), (.bipush 56, 2, (0, 0, 0, 56, 0)), (.aload_n 0, 1, (0, 0, 0, 0, 0)), (.getfield 122, 3, (12, 25, 2057, 0, 0)), (.imul, 1, (0, 0, 0, 0, 0)), (.iadd, 1, (0, 0, 0, 0, 0)), (.if_icmp .ne 26, 3, (161, 0, 0, 0, 0)), (.iload 5, 2, (5, 0, 0, 0, 0)), (.ifCond .ne 21, 3, (161, 0, 0, 0, 0)), (.iload 6, 2, (6, 0, 0, 0, 0)), (.iconst 4, 1, (0, 0, 0, 4, 0)), (.if_icmp .ne 15, 3, (161, 0, 0, 0, 0)), (.aload_n 0, 1, (0, 0, 0, 0, 0)), (.iload_n 2, 1, (2, 0, 0, 0, 0))]
theorem o_MT_goes_113 : jokL "ChessHouseModel$Texts" lw_tbl jcl jtb 11 false prog_18_method_20_code 113 k_MT_goes_113 = true := by decide +kernel
def k_MT_goes_154 : List jI := [(.ifCond .eq 7, 3, (161, 0, 0, 0, 0)), (.iconst 1, 1, (0, 0, 0, 1, 0)), (.goto 4, 3, (162, 0, 0, 0, 0))]
theorem o_MT_goes_154 : jokL "ChessHouseModel$Texts" lw_tbl jcl jtb 11 false prog_18_method_20_code 154 k_MT_goes_154 = true := by decide +kernel
def k_MT_goes_157 : List jI := [(.iconst 1, 1, (0, 0, 0, 1, 0)), (.goto 4, 3, (162, 0, 0, 0, 0))]
theorem o_MT_goes_157 : jokL "ChessHouseModel$Texts" lw_tbl jcl jtb 11 false prog_18_method_20_code 157 k_MT_goes_157 = true := by decide +kernel
def k_MT_goes_161 : List jI := [(.iconst 0, 1, (0, 0, 0, 0, 0))]
theorem o_MT_goes_161 : jokL "ChessHouseModel$Texts" lw_tbl jcl jtb 11 false prog_18_method_20_code 161 k_MT_goes_161 = true := by decide +kernel
def k_MT_goes_163 : List jI := [(.iload 4, 2, (4, 0, 0, 0, 0)), (.ifCond .eq 8, 3, (173, 0, 0, 0, 0)), (.iload 5, 2, (5, 0, 0, 0, 0)), (.ifCond .ne 7, 3, (177, 0, 0, 0, 0)), (.iconst 1, 1, (0, 0, 0, 1, 0)), (.goto 4, 3, (178, 0, 0, 0, 0))]
theorem o_MT_goes_163 : jokL "ChessHouseModel$Texts" lw_tbl jcl jtb 11 false prog_18_method_20_code 163 k_MT_goes_163 = true := by decide +kernel
def k_MT_goes_173 : List jI := [(.iconst 1, 1, (0, 0, 0, 1, 0)), (.goto 4, 3, (178, 0, 0, 0, 0))]
theorem o_MT_goes_173 : jokL "ChessHouseModel$Texts" lw_tbl jcl jtb 11 false prog_18_method_20_code 173 k_MT_goes_173 = true := by decide +kernel
def k_MT_goes_177 : List jI := [(.iconst 0, 1, (0, 0, 0, 0, 0)), (.istore 7, 2, (7, 0, 0, 0, 0)), (.iload 7, 2, (7, 0, 0, 0, 0)), (.ifCond .ne 18, 3, (200, 0, 0, 0, 0)), (.iload 4, 2, (4, 0, 0, 0, 0)), (.iload 5, 2, (5, 0, 0, 0, 0)), (.if_icmp .eq 11, 3, (200, 0, 0, 0, 0)), (.iload 4, 2, (4, 0, 0, 0, 0)), (.iload 5, 2, (5, 0, 0, 0, 0)), (.ineg, 1, (0, 0, 0, 0, 0)), (.if_icmp .ne 23, 3, (220, 0, 0, 0, 0)), (.iload 7, 2, (7, 0, 0, 0, 0)), (.ifCond .eq 8, 3, (210, 0, 0, 0, 0)), (.iload_n 3, 1, (3, 0, 0, 0, 0)), (.iconst 3, 1, (0, 0, 0, 3, 0)), (.if_icmp .eq 13, 3, (220, 0, 0, 0, 0)), (.iload 7, 2, (7, 0, 0, 0, 0)), (.ifCond .ne 10, 3, (222, 0, 0, 0, 0)), (.iload_n 3, 1, (3, 0, 0, 0, 0)), (.iconst 4, 1, (0, 0, 0, 4, 0)), (.if_icmp .ne 5, 3, (222, 0, 0, 0, 0)), (.iconst 0, 1, (0, 0, 0, 0, 0))]
theorem o_MT_goes_177 : jokL "ChessHouseModel$Texts" lw_tbl jcl jtb 11 false prog_18_method_20_code 177 k_MT_goes_177 = true := by decide +kernel
def k_MT_goes_178 : List jI := [(.istore 7, 2, (7, 0, 0, 0, 0)), (.iload 7, 2, (7, 0, 0, 0, 0)), (.ifCond .ne 18, 3, (200, 0, 0, 0, 0)), (.iload 4, 2, (4, 0, 0, 0, 0)), (.iload 5, 2, (5, 0, 0, 0, 0)), (.if_icmp .eq 11, 3, (200, 0, 0, 0, 0)), (.iload 4, 2, (4, 0, 0, 0, 0)), (.iload 5, 2, (5, 0, 0, 0, 0)), (.ineg, 1, (0, 0, 0, 0, 0)), (.if_icmp .ne 23, 3, (220, 0, 0, 0, 0)), (.iload 7, 2, (7, 0, 0, 0, 0)), (.ifCond .eq 8, 3, (210, 0, 0, 0, 0)), (.iload_n 3, 1, (3, 0, 0, 0, 0)), (.iconst 3, 1, (0, 0, 0, 3, 0)), (.if_icmp .eq 13, 3, (220, 0, 0, 0, 0)), (.iload 7, 2, (7, 0, 0, 0, 0)), (.ifCond .ne 10, 3, (222, 0, 0, 0, 0)), (.iload_n 3, 1, (3, 0, 0, 0, 0)), (.iconst 4, 1, (0, 0, 0, 4, 0)), (.if_icmp .ne 5, 3, (222, 0, 0, 0, 0)), (.iconst 0, 1, (0, 0, 0, 0, 0))]
theorem o_MT_goes_178 : jokL "ChessHouseModel$Texts" lw_tbl jcl jtb 11 false prog_18_method_20_code 178 k_MT_goes_178 = true := by decide +kernel
def k_MT_goes_200 : List jI := [(.iload 7, 2, (7, 0, 0, 0, 0)), (.ifCond .eq 8, 3, (210, 0, 0, 0, 0)), (.iload_n 3, 1, (3, 0, 0, 0, 0)), (.iconst 3, 1, (0, 0, 0, 3, 0)), (.if_icmp .eq 13, 3, (220, 0, 0, 0, 0)), (.iload 7, 2, (7, 0, 0, 0, 0)), (.ifCond .ne 10, 3, (222, 0, 0, 0, 0)), (.iload_n 3, 1, (3, 0, 0, 0, 0)), (.iconst 4, 1, (0, 0, 0, 4, 0)), (.if_icmp .ne 5, 3, (222, 0, 0, 0, 0)), (.iconst 0, 1, (0, 0, 0, 0, 0))]
theorem o_MT_goes_200 : jokL "ChessHouseModel$Texts" lw_tbl jcl jtb 11 false prog_18_method_20_code 200 k_MT_goes_200 = true := by decide +kernel
def k_MT_goes_210 : List jI := [(.iload 7, 2, (7, 0, 0, 0, 0)), (.ifCond .ne 10, 3, (222, 0, 0, 0, 0)), (.iload_n 3, 1, (3, 0, 0, 0, 0)), (.iconst 4, 1, (0, 0, 0, 4, 0)), (.if_icmp .ne 5, 3, (222, 0, 0, 0, 0)), (.iconst 0, 1, (0, 0, 0, 0, 0))]
theorem o_MT_goes_210 : jokL "ChessHouseModel$Texts" lw_tbl jcl jtb 11 false prog_18_method_20_code 210 k_MT_goes_210 = true := by decide +kernel
def k_MT_goes_220 : List jI := [(.iconst 0, 1, (0, 0, 0, 0, 0))]
theorem o_MT_goes_220 : jokL "ChessHouseModel$Texts" lw_tbl jcl jtb 11 false prog_18_method_20_code 220 k_MT_goes_220 = true := by decide +kernel
def k_MT_goes_222 : List jI := [(.iload 4, 2, (4, 0, 0, 0, 0)), (.ifCond .le 7, 3, (231, 0, 0, 0, 0)), (.iconst 1, 1, (0, 0, 0, 1, 0)), (.goto 13, 3, (241, 0, 0, 0, 0))]
theorem o_MT_goes_222 : jokL "ChessHouseModel$Texts" lw_tbl jcl jtb 11 false prog_18_method_20_code 222 k_MT_goes_222 = true := by decide +kernel
def k_MT_goes_231 : List jI := [(.iload 4, 2, (4, 0, 0, 0, 0)), (.ifCond .ge 7, 3, (240, 0, 0, 0, 0)), (.iconst (-1), 1, (0, 0, 0, (-1), 0)), (.goto 4, 3, (241, 0, 0, 0, 0))]
theorem o_MT_goes_231 : jokL "ChessHouseModel$Texts" lw_tbl jcl jtb 11 false prog_18_method_20_code 231 k_MT_goes_231 = true := by decide +kernel
def k_MT_goes_240 : List jI := [(.iconst 0, 1, (0, 0, 0, 0, 0)), (.istore 8, 2, (8, 0, 0, 0, 0)), (.iload 5, 2, (5, 0, 0, 0, 0)), (.ifCond .le 7, 3, (252, 0, 0, 0, 0)), (.iconst 1, 1, (0, 0, 0, 1, 0)), (.goto 13, 3, (262, 0, 0, 0, 0))]
theorem o_MT_goes_240 : jokL "ChessHouseModel$Texts" lw_tbl jcl jtb 11 false prog_18_method_20_code 240 k_MT_goes_240 = true := by decide +kernel
def k_MT_goes_241 : List jI := [(.istore 8, 2, (8, 0, 0, 0, 0)), (.iload 5, 2, (5, 0, 0, 0, 0)), (.ifCond .le 7, 3, (252, 0, 0, 0, 0)), (.iconst 1, 1, (0, 0, 0, 1, 0)), (.goto 13, 3, (262, 0, 0, 0, 0))]
theorem o_MT_goes_241 : jokL "ChessHouseModel$Texts" lw_tbl jcl jtb 11 false prog_18_method_20_code 241 k_MT_goes_241 = true := by decide +kernel
def k_MT_goes_252 : List jI := [(.iload 5, 2, (5, 0, 0, 0, 0)), (.ifCond .ge 7, 3, (261, 0, 0, 0, 0)), (.iconst (-1), 1, (0, 0, 0, (-1), 0)), (.goto 4, 3, (262, 0, 0, 0, 0))]
theorem o_MT_goes_252 : jokL "ChessHouseModel$Texts" lw_tbl jcl jtb 11 false prog_18_method_20_code 252 k_MT_goes_252 = true := by decide +kernel
def k_MT_goes_261 : List jI := [(.iconst 0, 1, (0, 0, 0, 0, 0)), (.istore 9, 2, (9, 0, 0, 0, 0)), (.iload_n 1, 1, (1, 0, 0, 0, 0)), (.iload 8, 2, (8, 0, 0, 0, 0)), (.iload 9, 2, (9, 0, 0, 0, 0))]
theorem o_MT_goes_261 : jokL "ChessHouseModel$Texts" lw_tbl jcl jtb 11 false prog_18_method_20_code 261 k_MT_goes_261 = true := by decide +kernel
def k_MT_goes_262 : List jI := [(.istore 9, 2, (9, 0, 0, 0, 0)), (.iload_n 1, 1, (1, 0, 0, 0, 0)), (.iload 8, 2, (8, 0, 0, 0, 0)), (.iload 9, 2, (9, 0, 0, 0, 0))]
theorem o_MT_goes_262 : jokL "ChessHouseModel$Texts" lw_tbl jcl jtb 11 false prog_18_method_20_code 262 k_MT_goes_262 = true := by decide +kernel
def k_MT_goes_272 : List jI := [(.istore 10, 2, (10, 0, 0, 0, 0))]
theorem o_MT_goes_272 : jokL "ChessHouseModel$Texts" lw_tbl jcl jtb 11 false prog_18_method_20_code 272 k_MT_goes_272 = true := by decide +kernel
def k_MT_goes_274 : List jI := [(.iload 10, 2, (10, 0, 0, 0, 0)), (.iload_n 2, 1, (2, 0, 0, 0, 0)), (.if_icmp .eq 27, 3, (304, 0, 0, 0, 0)), (.aload_n 0, 1, (0, 0, 0, 0, 0)), (.getfield 71, 3, (12, 24, 2055, 0, 0)), (.iload 10, 2, (10, 0, 0, 0, 0)), (.iaload, 1, (0, 0, 0, 0, 0)), (.ifCond .ne 17, 3, (304, 0, 0, 0, 0)), (.iload 10, 2, (10, 0, 0, 0, 0)), (.iload 8, 2, (8, 0, 0, 0, 0)), (.iload 9, 2, (9, 0, 0, 0, 0))]
theorem o_MT_goes_274 : jokL "ChessHouseModel$Texts" lw_tbl jcl jtb 11 false prog_18_method_20_code 274 k_MT_goes_274 = true := by decide +kernel
def k_MT_goes_299 : List jI := [(.istore 10, 2, (10, 0, 0, 0, 0)), (.goto (-27), 3, (274, 0, 0, 0, 0))]
theorem o_MT_goes_299 : jokL "ChessHouseModel$Texts" lw_tbl jcl jtb 11 false prog_18_method_20_code 299 k_MT_goes_299 = true := by decide +kernel
def k_MT_goes_304 : List jI := [(.iload 10, 2, (10, 0, 0, 0, 0)), (.iload_n 2, 1, (2, 0, 0, 0, 0)), (.if_icmp .ne 7, 3, (314, 0, 0, 0, 0)), (.iconst 1, 1, (0, 0, 0, 1, 0)), (.goto 4, 3, (315, 0, 0, 0, 0))]
theorem o_MT_goes_304 : jokL "ChessHouseModel$Texts" lw_tbl jcl jtb 11 false prog_18_method_20_code 304 k_MT_goes_304 = true := by decide +kernel
def k_MT_goes_314 : List jI := [(.iconst 0, 1, (0, 0, 0, 0, 0))]
theorem o_MT_goes_314 : jokL "ChessHouseModel$Texts" lw_tbl jcl jtb 11 false prog_18_method_20_code 314 k_MT_goes_314 = true := by decide +kernel
theorem d_MT_goes_6 : decode prog_18_method_20_code 6 = .ok (.invokestatic 162, 3) := by decide +kernel
theorem q_MT_goes_6 : jlm lw_tbl 1963 "ChessHouseModel$Texts" 162 ⟨"ChessHouseModel$Texts", "sideOf", "(I)I"⟩ = true := by decide +kernel
theorem d_MT_goes_22 : decode prog_18_method_20_code 22 = .ok (.invokestatic 162, 3) := by decide +kernel
theorem q_MT_goes_22 : jlm lw_tbl 1963 "ChessHouseModel$Texts" 162 ⟨"ChessHouseModel$Texts", "sideOf", "(I)I"⟩ = true := by decide +kernel
theorem d_MT_goes_38 : decode prog_18_method_20_code 38 = .ok (.ireturn, 1) := by decide +kernel
theorem d_MT_goes_45 : decode prog_18_method_20_code 45 = .ok (.invokestatic 137, 3) := by decide +kernel
theorem q_MT_goes_45 : jlm lw_tbl 1941 "ChessHouseModel$Texts" 137 ⟨"ChessHouseModel$Texts", "kind", "(I)I"⟩ = true := by decide +kernel
theorem d_MT_goes_57 : decode prog_18_method_20_code 57 = .ok (.invokevirtual 165, 3) := by decide +kernel
theorem q_MT_goes_57 : jlm lw_tbl 1970 "ChessHouseModel$Texts" 165 ⟨"ChessHouseModel$Texts", "pawnGoes", "(II)Z"⟩ = true := by decide +kernel
theorem d_MT_goes_60 : decode prog_18_method_20_code 60 = .ok (.ireturn, 1) := by decide +kernel
theorem d_MT_goes_112 : decode prog_18_method_20_code 112 = .ok (.ireturn, 1) := by decide +kernel
theorem d_MT_goes_151 : decode prog_18_method_20_code 151 = .ok (.invokevirtual 168, 3) := by decide +kernel
theorem q_MT_goes_151 : jlm lw_tbl 1974 "ChessHouseModel$Texts" 168 ⟨"ChessHouseModel$Texts", "mayCastle", "(I)Z"⟩ = true := by decide +kernel
theorem d_MT_goes_162 : decode prog_18_method_20_code 162 = .ok (.ireturn, 1) := by decide +kernel
theorem d_MT_goes_221 : decode prog_18_method_20_code 221 = .ok (.ireturn, 1) := by decide +kernel
theorem d_MT_goes_269 : decode prog_18_method_20_code 269 = .ok (.invokestatic 104, 3) := by decide +kernel
theorem q_MT_goes_269 : jlm lw_tbl 1952 "ChessHouseModel$Texts" 104 ⟨"ChessHouseModel$Texts", "step", "(III)I"⟩ = true := by decide +kernel
theorem d_MT_goes_296 : decode prog_18_method_20_code 296 = .ok (.invokestatic 104, 3) := by decide +kernel
theorem q_MT_goes_296 : jlm lw_tbl 1952 "ChessHouseModel$Texts" 104 ⟨"ChessHouseModel$Texts", "step", "(III)I"⟩ = true := by decide +kernel
theorem d_MT_goes_315 : decode prog_18_method_20_code 315 = .ok (.ireturn, 1) := by decide +kernel
def y_MT_findMoves : jY := (⟨"ChessHouseModel$Texts", "findMoves", "()V"⟩, prog_18_method_21_code, 6, none)
theorem m_MT_findMoves : jmth lw_tbl y_MT_findMoves 0 := ⟨jTA_in (wi := 1962) (by decide +kernel) rfl, jTA_in (wi := 315) (by decide +kernel) rfl, by decide, by decide, by decide +kernel⟩
theorem i_MT_findMoves : Jvm.Cond.instanceMethod y_MT_findMoves.1 ∈ jTA lw_tbl := jTA_in (wi := 1961) (by decide +kernel) rfl
theorem e_MT_findMoves : Jvm.Cond.selects y_MT_findMoves.1.cls y_MT_findMoves.1 y_MT_findMoves.1 ∈ jTA lw_tbl := jTA_in (wi := 115) (by decide +kernel) rfl
def k_MT_findMoves_0 : List jI := [(.aload_n 0, 1, (0, 0, 0, 0, 0)), (.iconst 0, 1, (0, 0, 0, 0, 0)), (.putfield 171, 3, (12, 33, 2071, 0, 0)), (.iconst 0, 1, (0, 0, 0, 0, 0)), (.istore_n 1, 1, (1, 0, 0, 0, 0))]
theorem o_MT_findMoves_0 : jokL "ChessHouseModel$Texts" lw_tbl jcl jtb 6 false prog_18_method_21_code 0 k_MT_findMoves_0 = true := by decide +kernel
def k_MT_findMoves_7 : List jI := [(.iload_n 1, 1, (1, 0, 0, 0, 0)), (.bipush 64, 2, (0, 0, 0, 64, 0)), (.if_icmp .ge 159, 3, (169, 0, 0, 0, 0)), (.iconst 0, 1, (0, 0, 0, 0, 0)), (.istore_n 2, 1, (2, 0, 0, 0, 0))]
theorem o_MT_findMoves_7 : jokL "ChessHouseModel$Texts" lw_tbl jcl jtb 6 false prog_18_method_21_code 7 k_MT_findMoves_7 = true := by decide +kernel
def k_MT_findMoves_15 : List jI := [(.iload_n 2, 1, (2, 0, 0, 0, 0)), (.bipush 64, 2, (0, 0, 0, 64, 0)), (.if_icmp .ge 145, 3, (163, 0, 0, 0, 0)), (.aload_n 0, 1, (0, 0, 0, 0, 0)), (.getfield 71, 3, (12, 24, 2055, 0, 0)), (.iload_n 1, 1, (1, 0, 0, 0, 0)), (.iaload, 1, (0, 0, 0, 0, 0))]
theorem o_MT_findMoves_15 : jokL "ChessHouseModel$Texts" lw_tbl jcl jtb 6 false prog_18_method_21_code 15 k_MT_findMoves_15 = true := by decide +kernel
def k_MT_findMoves_30 : List jI := [(.aload_n 0, 1, (0, 0, 0, 0, 0)), (.getfield 122, 3, (12, 25, 2057, 0, 0)), (.if_icmp .ne 129, 3, (163, 0, 0, 0, 0)), (.aload_n 0, 1, (0, 0, 0, 0, 0)), (.iload_n 1, 1, (1, 0, 0, 0, 0)), (.iload_n 2, 1, (2, 0, 0, 0, 0))]
theorem o_MT_findMoves_30 : jokL "ChessHouseModel$Texts" lw_tbl jcl jtb 6 false prog_18_method_21_code 30 k_MT_findMoves_30 = true := by decide +kernel
def k_MT_findMoves_43 : List jI := [(.ifCond .eq 114, 3, (157, 0, 0, 0, 0)), (.aload_n 0, 1, (0, 0, 0, 0, 0)), (.getfield 71, 3, (12, 24, 2055, 0, 0)), (.iload_n 1, 1, (1, 0, 0, 0, 0)), (.iaload, 1, (0, 0, 0, 0, 0))]
theorem o_MT_findMoves_43 : jokL "ChessHouseModel$Texts" lw_tbl jcl jtb 6 false prog_18_method_21_code 43 k_MT_findMoves_43 = true := by decide +kernel
def k_MT_findMoves_55 : List jI := [(.iconst 1, 1, (0, 0, 0, 1, 0)), (.if_icmp .ne 19, 3, (75, 0, 0, 0, 0)), (.iload_n 2, 1, (2, 0, 0, 0, 0)), (.bipush 8, 2, (0, 0, 0, 8, 0)), (.if_icmp .lt 9, 3, (71, 0, 0, 0, 0)), (.iload_n 2, 1, (2, 0, 0, 0, 0)), (.bipush 55, 2, (0, 0, 0, 55, 0)), (.if_icmp .le 7, 3, (75, 0, 0, 0, 0)), (.iconst 1, 1, (0, 0, 0, 1, 0)), (.goto 4, 3, (76, 0, 0, 0, 0))]
theorem o_MT_findMoves_55 : jokL "ChessHouseModel$Texts" lw_tbl jcl jtb 6 false prog_18_method_21_code 55 k_MT_findMoves_55 = true := by decide +kernel
def k_MT_findMoves_71 : List jI := [(.iconst 1, 1, (0, 0, 0, 1, 0)), (.goto 4, 3, (76, 0, 0, 0, 0))]
theorem o_MT_findMoves_71 : jokL "ChessHouseModel$Texts" lw_tbl jcl jtb 6 false prog_18_method_21_code 71 k_MT_findMoves_71 = true := by decide +kernel
def k_MT_findMoves_75 : List jI := [(.iconst 0, 1, (0, 0, 0, 0, 0)), (.istore_n 3, 1, (3, 0, 0, 0, 0)), (.aload_n 0, 1, (0, 0, 0, 0, 0)), (.iload_n 1, 1, (1, 0, 0, 0, 0)), (.bipush 64, 2, (0, 0, 0, 64, 0)), (.iload_n 2, 1, (2, 0, 0, 0, 0)), (.imul, 1, (0, 0, 0, 0, 0)), (.iadd, 1, (0, 0, 0, 0, 0))]
theorem o_MT_findMoves_75 : jokL "ChessHouseModel$Texts" lw_tbl jcl jtb 6 false prog_18_method_21_code 75 k_MT_findMoves_75 = true := by decide +kernel
def k_MT_findMoves_76 : List jI := [(.istore_n 3, 1, (3, 0, 0, 0, 0)), (.aload_n 0, 1, (0, 0, 0, 0, 0)), (.iload_n 1, 1, (1, 0, 0, 0, 0)), (.bipush 64, 2, (0, 0, 0, 64, 0)), (.iload_n 2, 1, (2, 0, 0, 0, 0)), (.imul, 1, (0, 0, 0, 0, 0)), (.iadd, 1, (0, 0, 0, 0, 0))]
theorem o_MT_findMoves_76 : jokL "ChessHouseModel$Texts" lw_tbl jcl jtb 6 false prog_18_method_21_code 76 k_MT_findMoves_76 = true := by decide +kernel
def k_MT_findMoves_87 : List jI := [(.istore 4, 2, (4, 0, 0, 0, 0)), (.iload_n 3, 1, (3, 0, 0, 0, 0)), (.ifCond .eq 7, 3, (97, 0, 0, 0, 0)), (.iconst 2, 1, (0, 0, 0, 2, 0)), (.goto 4, 3, (98, 0, 0, 0, 0))]
theorem o_MT_findMoves_87 : jokL "ChessHouseModel$Texts" lw_tbl jcl jtb 6 false prog_18_method_21_code 87 k_MT_findMoves_87 = true := by decide +kernel
def k_MT_findMoves_97 : List jI := [(.iconst 0, 1, (0, 0, 0, 0, 0)), (.istore 5, 2, (5, 0, 0, 0, 0))]
theorem o_MT_findMoves_97 : jokL "ChessHouseModel$Texts" lw_tbl jcl jtb 6 false prog_18_method_21_code 97 k_MT_findMoves_97 = true := by decide +kernel
def k_MT_findMoves_98 : List jI := [(.istore 5, 2, (5, 0, 0, 0, 0))]
theorem o_MT_findMoves_98 : jokL "ChessHouseModel$Texts" lw_tbl jcl jtb 6 false prog_18_method_21_code 98 k_MT_findMoves_98 = true := by decide +kernel
def k_MT_findMoves_100 : List jI := [(.iload 4, 2, (4, 0, 0, 0, 0)), (.ifCond .eq 55, 3, (157, 0, 0, 0, 0)), (.iload 5, 2, (5, 0, 0, 0, 0)), (.iload_n 3, 1, (3, 0, 0, 0, 0)), (.ifCond .eq 7, 3, (115, 0, 0, 0, 0)), (.iconst 5, 1, (0, 0, 0, 5, 0)), (.goto 4, 3, (116, 0, 0, 0, 0))]
theorem o_MT_findMoves_100 : jokL "ChessHouseModel$Texts" lw_tbl jcl jtb 6 false prog_18_method_21_code 100 k_MT_findMoves_100 = true := by decide +kernel
def k_MT_findMoves_115 : List jI := [(.iconst 0, 1, (0, 0, 0, 0, 0)), (.if_icmp .gt 41, 3, (157, 0, 0, 0, 0)), (.aload_n 0, 1, (0, 0, 0, 0, 0)), (.getfield 80, 3, (12, 32, 2069, 0, 0)), (.aload_n 0, 1, (0, 0, 0, 0, 0)), (.getfield 171, 3, (12, 33, 2071, 0, 0)), (.iload_n 1, 1, (1, 0, 0, 0, 0)), (.bipush 64, 2, (0, 0, 0, 64, 0)), (.iload_n 2, 1, (2, 0, 0, 0, 0)), (.imul, 1, (0, 0, 0, 0, 0)), (.iadd, 1, (0, 0, 0, 0, 0)), (.sipush 4096, 3, (0, 0, 0, 4096, 0)), (.iload 5, 2, (5, 0, 0, 0, 0)), (.imul, 1, (0, 0, 0, 0, 0)), (.iadd, 1, (0, 0, 0, 0, 0)), (.iastore, 1, (0, 0, 0, 0, 0)), (.aload_n 0, 1, (0, 0, 0, 0, 0)), (.dup, 1, (0, 0, 0, 0, 0)), (.getfield 171, 3, (12, 33, 2071, 0, 0)), (.iconst 1, 1, (0, 0, 0, 1, 0)), (.iadd, 1, (0, 0, 0, 0, 0)), (.putfield 171, 3, (12, 33, 2071, 0, 0)), (.iinc 5 1, 3, (0, 0, 0, 1, 0)), (.goto (-54), 3, (100, 0, 0, 0, 0))]
theorem o_MT_findMoves_115 : jokL "ChessHouseModel$Texts" lw_tbl jcl jtb 6 false prog_18_method_21_code 115 k_MT_findMoves_115 = true := by decide +kernel
def k_MT_findMoves_116 : List jI := [(.if_icmp .gt 41, 3, (157, 0, 0, 0, 0)), (.aload_n 0, 1, (0, 0, 0, 0, 0)), (.getfield 80, 3, (12, 32, 2069, 0, 0)), (.aload_n 0, 1, (0, 0, 0, 0, 0)), (.getfield 171, 3, (12, 33, 2071, 0, 0)), (.iload_n 1, 1, (1, 0, 0, 0, 0)), (.bipush 64, 2, (0, 0, 0, 64, 0)), (.iload_n 2, 1, (2, 0, 0, 0, 0)), (.imul, 1, (0, 0, 0, 0, 0)), (.iadd, 1, (0, 0, 0, 0, 0)), (.sipush 4096, 3, (0, 0, 0, 4096, 0)), (.iload 5, 2, (5, 0, 0, 0, 0)), (.imul, 1, (0, 0, 0, 0, 0)), (.iadd, 1, (0, 0, 0, 0, 0)), (.iastore, 1, (0, 0, 0, 0, 0)), (.aload_n 0, 1, (0, 0, 0, 0, 0)), (.dup, 1, (0, 0, 0, 0, 0)), (.getfield 171, 3, (12, 33, 2071, 0, 0)), (.iconst 1, 1, (0, 0, 0, 1, 0)), (.iadd, 1, (0, 0, 0, 0, 0)), (.putfield 171, 3, (12, 33, 2071, 0, 0)), (.iinc 5 1, 3, (0, 0, 0, 1, 0)), (.goto (-54), 3, (100, 0, 0, 0, 0))]
theorem o_MT_findMoves_116 : jokL "ChessHouseModel$Texts" lw_tbl jcl jtb 6 false prog_18_method_21_code 116 k_MT_findMoves_116 = true := by decide +kernel
def k_MT_findMoves_157 : List jI := [(.iinc 2 1, 3, (0, 0, 0, 1, 0)), (.goto (-145), 3, (15, 0, 0, 0, 0))]
theorem o_MT_findMoves_157 : jokL "ChessHouseModel$Texts" lw_tbl jcl jtb 6 false prog_18_method_21_code 157 k_MT_findMoves_157 = true := by decide +kernel
def k_MT_findMoves_163 : List jI := [(.iinc 1 1, 3, (0, 0, 0, 1, 0)), (.goto (-159), 3, (7, 0, 0, 0, 0))]
theorem o_MT_findMoves_163 : jokL "ChessHouseModel$Texts" lw_tbl jcl jtb 6 false prog_18_method_21_code 163 k_MT_findMoves_163 = true := by decide +kernel
theorem d_MT_findMoves_27 : decode prog_18_method_21_code 27 = .ok (.invokestatic 162, 3) := by decide +kernel
theorem q_MT_findMoves_27 : jlm lw_tbl 1963 "ChessHouseModel$Texts" 162 ⟨"ChessHouseModel$Texts", "sideOf", "(I)I"⟩ = true := by decide +kernel
theorem d_MT_findMoves_40 : decode prog_18_method_21_code 40 = .ok (.invokevirtual 174, 3) := by decide +kernel
theorem q_MT_findMoves_40 : jlm lw_tbl 1966 "ChessHouseModel$Texts" 174 ⟨"ChessHouseModel$Texts", "goes", "(II)Z"⟩ = true := by decide +kernel
theorem d_MT_findMoves_52 : decode prog_18_method_21_code 52 = .ok (.invokestatic 137, 3) := by decide +kernel
theorem q_MT_findMoves_52 : jlm lw_tbl 1941 "ChessHouseModel$Texts" 137 ⟨"ChessHouseModel$Texts", "kind", "(I)I"⟩ = true := by decide +kernel
theorem d_MT_findMoves_84 : decode prog_18_method_21_code 84 = .ok (.invokevirtual 177, 3) := by decide +kernel
theorem q_MT_findMoves_84 : jlm lw_tbl 1990 "ChessHouseModel$Texts" 177 ⟨"ChessHouseModel$Texts", "isSafe", "(I)Z"⟩ = true := by decide +kernel
theorem d_MT_findMoves_169 : decode prog_18_method_21_code 169 = .ok (.return_, 1) := by decide +kernel
def y_MT_clearNode : jY := (⟨"ChessHouseModel$Texts", "clearNode", "(I)V"⟩, prog_18_method_23_code, 2, none)
theorem m_MT_clearNode : jmth lw_tbl y_MT_clearNode 1 := ⟨jTA_in (wi := 1924) (by decide +kernel) rfl, jTA_in (wi := 315) (by decide +kernel) rfl, by decide, by decide, by decide +kernel⟩
theorem i_MT_clearNode : Jvm.Cond.instanceMethod y_MT_clearNode.1 ∈ jTA lw_tbl := jTA_in (wi := 1923) (by decide +kernel) rfl
theorem e_MT_clearNode : Jvm.Cond.selects y_MT_clearNode.1.cls y_MT_clearNode.1 y_MT_clearNode.1 ∈ jTA lw_tbl := jTA_in (wi := 107) (by decide +kernel) rfl
def k_MT_clearNode_0 : List jI := [(.aload_n 0, 1, (0, 0, 0, 0, 0)), (.getfield 28, 3, (12, 10, 2029, 0, 0)), (.iload_n 1, 1, (1, 0, 0, 0, 0)), (.iconst (-1), 1, (0, 0, 0, (-1), 0)), (.iastore, 1, (0, 0, 0, 0, 0)), (.aload_n 0, 1, (0, 0, 0, 0, 0)), (.getfield 31, 3, (12, 11, 2031, 0, 0)), (.iload_n 1, 1, (1, 0, 0, 0, 0)), (.iconst (-1), 1, (0, 0, 0, (-1), 0)), (.iastore, 1, (0, 0, 0, 0, 0)), (.aload_n 0, 1, (0, 0, 0, 0, 0)), (.getfield 34, 3, (12, 12, 2033, 0, 0)), (.iload_n 1, 1, (1, 0, 0, 0, 0)), (.iconst 0, 1, (0, 0, 0, 0, 0)), (.iastore, 1, (0, 0, 0, 0, 0)), (.aload_n 0, 1, (0, 0, 0, 0, 0)), (.getfield 40, 3, (12, 14, 2035, 0, 0)), (.iload_n 1, 1, (1, 0, 0, 0, 0)), (.iconst 0, 1, (0, 0, 0, 0, 0)), (.iastore, 1, (0, 0, 0, 0, 0))]
theorem o_MT_clearNode_0 : jokL "ChessHouseModel$Texts" lw_tbl jcl jtb 2 false prog_18_method_23_code 0 k_MT_clearNode_0 = true := by decide +kernel
theorem d_MT_clearNode_28 : decode prog_18_method_23_code 28 = .ok (.return_, 1) := by decide +kernel
def y_MT_clearGame : jY := (⟨"ChessHouseModel$Texts", "clearGame", "(I)V"⟩, prog_18_method_22_code, 2, none)
theorem m_MT_clearGame : jmth lw_tbl y_MT_clearGame 1 := ⟨jTA_in (wi := 1920) (by decide +kernel) rfl, jTA_in (wi := 315) (by decide +kernel) rfl, by decide, by decide, by decide +kernel⟩
theorem i_MT_clearGame : Jvm.Cond.instanceMethod y_MT_clearGame.1 ∈ jTA lw_tbl := jTA_in (wi := 1919) (by decide +kernel) rfl
theorem e_MT_clearGame : Jvm.Cond.selects y_MT_clearGame.1.cls y_MT_clearGame.1 y_MT_clearGame.1 ∈ jTA lw_tbl := jTA_in (wi := 106) (by decide +kernel) rfl
def k_MT_clearGame_0 : List jI := [(.aload_n 0, 1, (0, 0, 0, 0, 0)), (.getfield 18, 3, (12, 7, 2023, 0, 0)), (.iload_n 1, 1, (1, 0, 0, 0, 0)), (.iconst 0, 1, (0, 0, 0, 0, 0)), (.iastore, 1, (0, 0, 0, 0, 0)), (.aload_n 0, 1, (0, 0, 0, 0, 0)), (.getfield 53, 3, (12, 18, 2043, 0, 0)), (.iload_n 1, 1, (1, 0, 0, 0, 0)), (.iconst 0, 1, (0, 0, 0, 0, 0)), (.iastore, 1, (0, 0, 0, 0, 0)), (.aload_n 0, 1, (0, 0, 0, 0, 0)), (.getfield 68, 3, (12, 23, 2053, 0, 0)), (.iload_n 1, 1, (1, 0, 0, 0, 0)), (.iconst 0, 1, (0, 0, 0, 0, 0)), (.iastore, 1, (0, 0, 0, 0, 0)), (.aload_n 0, 1, (0, 0, 0, 0, 0)), (.sipush 301, 3, (0, 0, 0, 301, 0)), (.iload_n 1, 1, (1, 0, 0, 0, 0)), (.imul, 1, (0, 0, 0, 0, 0))]
theorem o_MT_clearGame_0 : jokL "ChessHouseModel$Texts" lw_tbl jcl jtb 2 false prog_18_method_22_code 0 k_MT_clearGame_0 = true := by decide +kernel
def k_MT_clearGame_30 : List jI := [(.aload_n 0, 1, (0, 0, 0, 0, 0)), (.getfield 22, 3, (12, 8, 2025, 0, 0)), (.sipush 301, 3, (0, 0, 0, 301, 0)), (.iload_n 1, 1, (1, 0, 0, 0, 0)), (.imul, 1, (0, 0, 0, 0, 0)), (.iconst (-1), 1, (0, 0, 0, (-1), 0)), (.iastore, 1, (0, 0, 0, 0, 0)), (.aload_n 0, 1, (0, 0, 0, 0, 0)), (.getfield 25, 3, (12, 9, 2027, 0, 0)), (.sipush 301, 3, (0, 0, 0, 301, 0)), (.iload_n 1, 1, (1, 0, 0, 0, 0)), (.imul, 1, (0, 0, 0, 0, 0)), (.iconst (-1), 1, (0, 0, 0, (-1), 0)), (.iastore, 1, (0, 0, 0, 0, 0))]
theorem o_MT_clearGame_30 : jokL "ChessHouseModel$Texts" lw_tbl jcl jtb 2 false prog_18_method_22_code 30 k_MT_clearGame_30 = true := by decide +kernel
theorem d_MT_clearGame_27 : decode prog_18_method_22_code 27 = .ok (.invokevirtual 180, 3) := by decide +kernel
theorem q_MT_clearGame_27 : jlm lw_tbl 1921 "ChessHouseModel$Texts" 180 ⟨"ChessHouseModel$Texts", "clearNode", "(I)V"⟩ = true := by decide +kernel
theorem d_MT_clearGame_52 : decode prog_18_method_22_code 52 = .ok (.return_, 1) := by decide +kernel
def y_MT_start : jY := (⟨"ChessHouseModel$Texts", "start", "(I)V"⟩, prog_18_method_25_code, 3, none)
theorem m_MT_start : jmth lw_tbl y_MT_start 1 := ⟨jTA_in (wi := 1932) (by decide +kernel) rfl, jTA_in (wi := 315) (by decide +kernel) rfl, by decide, by decide, by decide +kernel⟩
theorem i_MT_start : Jvm.Cond.instanceMethod y_MT_start.1 ∈ jTA lw_tbl := jTA_in (wi := 1931) (by decide +kernel) rfl
theorem e_MT_start : Jvm.Cond.selects y_MT_start.1.cls y_MT_start.1 y_MT_start.1 ∈ jTA lw_tbl := jTA_in (wi := 109) (by decide +kernel) rfl
def k_MT_start_0 : List jI := [(.iconst 0, 1, (0, 0, 0, 0, 0)), (.istore_n 2, 1, (2, 0, 0, 0, 0))]
theorem o_MT_start_0 : jokL "ChessHouseModel$Texts" lw_tbl jcl jtb 3 false prog_18_method_25_code 0 k_MT_start_0 = true := by decide +kernel
def k_MT_start_2 : List jI := [(.iload_n 2, 1, (2, 0, 0, 0, 0)), (.bipush 64, 2, (0, 0, 0, 64, 0)), (.if_icmp .ge 26, 3, (31, 0, 0, 0, 0)), (.aload_n 0, 1, (0, 0, 0, 0, 0)), (.getfield 47, 3, (12, 16, 2039, 0, 0)), (.bipush 64, 2, (0, 0, 0, 64, 0)), (.iload_n 1, 1, (1, 0, 0, 0, 0)), (.imul, 1, (0, 0, 0, 0, 0)), (.iload_n 2, 1, (2, 0, 0, 0, 0)), (.iadd, 1, (0, 0, 0, 0, 0)), (.aload_n 0, 1, (0, 0, 0, 0, 0)), (.getfield 71, 3, (12, 24, 2055, 0, 0)), (.iload_n 2, 1, (2, 0, 0, 0, 0)), (.iaload, 1, (0, 0, 0, 0, 0)), (.iastore, 1, (0, 0, 0, 0, 0)), (.iinc 2 1, 3, (0, 0, 0, 1, 0)), (.goto (-26), 3, (2, 0, 0, 0, 0))]
theorem o_MT_start_2 : jokL "ChessHouseModel$Texts" lw_tbl jcl jtb 3 false prog_18_method_25_code 2 k_MT_start_2 = true := by decide +kernel
def k_MT_start_31 : List jI := [(.aload_n 0, 1, (0, 0, 0, 0, 0)), (.getfield 50, 3, (12, 17, 2041, 0, 0)), (.iconst 5, 1, (0, 0, 0, 5, 0)), (.iload_n 1, 1, (1, 0, 0, 0, 0)), (.imul, 1, (0, 0, 0, 0, 0)), (.aload_n 0, 1, (0, 0, 0, 0, 0)), (.getfield 122, 3, (12, 25, 2057, 0, 0)), (.iastore, 1, (0, 0, 0, 0, 0)), (.aload_n 0, 1, (0, 0, 0, 0, 0)), (.getfield 50, 3, (12, 17, 2041, 0, 0)), (.iconst 5, 1, (0, 0, 0, 5, 0)), (.iload_n 1, 1, (1, 0, 0, 0, 0)), (.imul, 1, (0, 0, 0, 0, 0)), (.iconst 1, 1, (0, 0, 0, 1, 0)), (.iadd, 1, (0, 0, 0, 0, 0)), (.aload_n 0, 1, (0, 0, 0, 0, 0)), (.getfield 125, 3, (12, 26, 2059, 0, 0)), (.iastore, 1, (0, 0, 0, 0, 0)), (.aload_n 0, 1, (0, 0, 0, 0, 0)), (.getfield 50, 3, (12, 17, 2041, 0, 0)), (.iconst 5, 1, (0, 0, 0, 5, 0)), (.iload_n 1, 1, (1, 0, 0, 0, 0)), (.imul, 1, (0, 0, 0, 0, 0)), (.iconst 2, 1, (0, 0, 0, 2, 0)), (.iadd, 1, (0, 0, 0, 0, 0)), (.aload_n 0, 1, (0, 0, 0, 0, 0)), (.getfield 128, 3, (12, 27, 2061, 0, 0)), (.iastore, 1, (0, 0, 0, 0, 0)), (.aload_n 0, 1, (0, 0, 0, 0, 0)), (.getfield 50, 3, (12, 17, 2041, 0, 0)), (.iconst 5, 1, (0, 0, 0, 5, 0)), (.iload_n 1, 1, (1, 0, 0, 0, 0)), (.imul, 1, (0, 0, 0, 0, 0)), (.iconst 3, 1, (0, 0, 0, 3, 0)), (.iadd, 1, (0, 0, 0, 0, 0)), (.aload_n 0, 1, (0, 0, 0, 0, 0)), (.getfield 131, 3, (12, 28, 2063, 0, 0)), (.iastore, 1, (0, 0, 0, 0, 0)), (.aload_n 0, 1, (0, 0, 0, 0, 0)), (.getfield 50, 3, (12, 17, 2041, 0, 0)), (.iconst 5, 1, (0, 0, 0, 5, 0)), (.iload_n 1, 1, (1, 0, 0, 0, 0)), (.imul, 1, (0, 0, 0, 0, 0)), (.iconst 4, 1, (0, 0, 0, 4, 0)), (.iadd, 1, (0, 0, 0, 0, 0)), (.aload_n 0, 1, (0, 0, 0, 0, 0)), (.getfield 134, 3, (12, 29, 2065, 0, 0)), (.iastore, 1, (0, 0, 0, 0, 0))]
theorem o_MT_start_31 : jokL "ChessHouseModel$Texts" lw_tbl jcl jtb 3 false prog_18_method_25_code 31 k_MT_start_31 = true := by decide +kernel
theorem d_MT_start_99 : decode prog_18_method_25_code 99 = .ok (.return_, 1) := by decide +kernel
def y_MT_usual : jY := (⟨"ChessHouseModel$Texts", "usual", "(I)V"⟩, prog_18_method_24_code, 4, none)
theorem m_MT_usual : jmth lw_tbl y_MT_usual 1 := ⟨jTA_in (wi := 1928) (by decide +kernel) rfl, jTA_in (wi := 315) (by decide +kernel) rfl, by decide, by decide, by decide +kernel⟩
theorem i_MT_usual : Jvm.Cond.instanceMethod y_MT_usual.1 ∈ jTA lw_tbl := jTA_in (wi := 1927) (by decide +kernel) rfl
theorem e_MT_usual : Jvm.Cond.selects y_MT_usual.1.cls y_MT_usual.1 y_MT_usual.1 ∈ jTA lw_tbl := jTA_in (wi := 108) (by decide +kernel) rfl
def k_MT_usual_0 : List jI := [(.iconst 0, 1, (0, 0, 0, 0, 0)), (.istore_n 2, 1, (2, 0, 0, 0, 0))]
theorem o_MT_usual_0 : jokL "ChessHouseModel$Texts" lw_tbl jcl jtb 4 false prog_18_method_24_code 0 k_MT_usual_0 = true := by decide +kernel
def k_MT_usual_2 : List jI := [(.iload_n 2, 1, (2, 0, 0, 0, 0)), (.bipush 64, 2, (0, 0, 0, 64, 0)), (.if_icmp .ge 16, 3, (21, 0, 0, 0, 0)), (.aload_n 0, 1, (0, 0, 0, 0, 0)), (.getfield 71, 3, (12, 24, 2055, 0, 0)), (.iload_n 2, 1, (2, 0, 0, 0, 0)), (.iconst 0, 1, (0, 0, 0, 0, 0)), (.iastore, 1, (0, 0, 0, 0, 0)), (.iinc 2 1, 3, (0, 0, 0, 1, 0)), (.goto (-16), 3, (2, 0, 0, 0, 0))]
theorem o_MT_usual_2 : jokL "ChessHouseModel$Texts" lw_tbl jcl jtb 4 false prog_18_method_24_code 2 k_MT_usual_2 = true := by decide +kernel
def k_MT_usual_21 : List jI := [(.iconst 0, 1, (0, 0, 0, 0, 0)), (.istore_n 2, 1, (2, 0, 0, 0, 0))]
theorem o_MT_usual_21 : jokL "ChessHouseModel$Texts" lw_tbl jcl jtb 4 false prog_18_method_24_code 21 k_MT_usual_21 = true := by decide +kernel
def k_MT_usual_23 : List jI := [(.iload_n 2, 1, (2, 0, 0, 0, 0)), (.bipush 8, 2, (0, 0, 0, 8, 0)), (.if_icmp .ge 105, 3, (131, 0, 0, 0, 0)), (.iload_n 2, 1, (2, 0, 0, 0, 0)), (.ifCond .eq 9, 3, (39, 0, 0, 0, 0)), (.iload_n 2, 1, (2, 0, 0, 0, 0)), (.bipush 7, 2, (0, 0, 0, 7, 0)), (.if_icmp .ne 7, 3, (43, 0, 0, 0, 0)), (.iconst 4, 1, (0, 0, 0, 4, 0)), (.goto 43, 3, (83, 0, 0, 0, 0))]
theorem o_MT_usual_23 : jokL "ChessHouseModel$Texts" lw_tbl jcl jtb 4 false prog_18_method_24_code 23 k_MT_usual_23 = true := by decide +kernel
def k_MT_usual_39 : List jI := [(.iconst 4, 1, (0, 0, 0, 4, 0)), (.goto 43, 3, (83, 0, 0, 0, 0))]
theorem o_MT_usual_39 : jokL "ChessHouseModel$Texts" lw_tbl jcl jtb 4 false prog_18_method_24_code 39 k_MT_usual_39 = true := by decide +kernel
def k_MT_usual_43 : List jI := [(.iload_n 2, 1, (2, 0, 0, 0, 0)), (.iconst 1, 1, (0, 0, 0, 1, 0)), (.if_icmp .eq 9, 3, (54, 0, 0, 0, 0)), (.iload_n 2, 1, (2, 0, 0, 0, 0)), (.bipush 6, 2, (0, 0, 0, 6, 0)), (.if_icmp .ne 7, 3, (58, 0, 0, 0, 0)), (.iconst 2, 1, (0, 0, 0, 2, 0)), (.goto 28, 3, (83, 0, 0, 0, 0))]
theorem o_MT_usual_43 : jokL "ChessHouseModel$Texts" lw_tbl jcl jtb 4 false prog_18_method_24_code 43 k_MT_usual_43 = true := by decide +kernel
def k_MT_usual_54 : List jI := [(.iconst 2, 1, (0, 0, 0, 2, 0)), (.goto 28, 3, (83, 0, 0, 0, 0))]
theorem o_MT_usual_54 : jokL "ChessHouseModel$Texts" lw_tbl jcl jtb 4 false prog_18_method_24_code 54 k_MT_usual_54 = true := by decide +kernel
def k_MT_usual_58 : List jI := [(.iload_n 2, 1, (2, 0, 0, 0, 0)), (.iconst 2, 1, (0, 0, 0, 2, 0)), (.if_icmp .eq 8, 3, (68, 0, 0, 0, 0)), (.iload_n 2, 1, (2, 0, 0, 0, 0)), (.iconst 5, 1, (0, 0, 0, 5, 0)), (.if_icmp .ne 7, 3, (72, 0, 0, 0, 0)), (.iconst 3, 1, (0, 0, 0, 3, 0)), (.goto 14, 3, (83, 0, 0, 0, 0))]
theorem o_MT_usual_58 : jokL "ChessHouseModel$Texts" lw_tbl jcl jtb 4 false prog_18_method_24_code 58 k_MT_usual_58 = true := by decide +kernel
def k_MT_usual_68 : List jI := [(.iconst 3, 1, (0, 0, 0, 3, 0)), (.goto 14, 3, (83, 0, 0, 0, 0))]
theorem o_MT_usual_68 : jokL "ChessHouseModel$Texts" lw_tbl jcl jtb 4 false prog_18_method_24_code 68 k_MT_usual_68 = true := by decide +kernel
def k_MT_usual_72 : List jI := [(.iload_n 2, 1, (2, 0, 0, 0, 0)), (.iconst 3, 1, (0, 0, 0, 3, 0)), (.if_icmp .ne 7, 3, (81, 0, 0, 0, 0)), (.iconst 5, 1, (0, 0, 0, 5, 0)), (.goto 5, 3, (83, 0, 0, 0, 0))]
theorem o_MT_usual_72 : jokL "ChessHouseModel$Texts" lw_tbl jcl jtb 4 false prog_18_method_24_code 72 k_MT_usual_72 = true := by decide +kernel
def k_MT_usual_81 : List jI := [(.bipush 6, 2, (0, 0, 0, 6, 0)), (.istore_n 3, 1, (3, 0, 0, 0, 0)), (.aload_n 0, 1, (0, 0, 0, 0, 0)), (.getfield 71, 3, (12, 24, 2055, 0, 0)), (.iload_n 2, 1, (2, 0, 0, 0, 0)), (.iload_n 3, 1, (3, 0, 0, 0, 0)), (.iastore, 1, (0, 0, 0, 0, 0)), (.aload_n 0, 1, (0, 0, 0, 0, 0)), (.getfield 71, 3, (12, 24, 2055, 0, 0)), (.bipush 8, 2, (0, 0, 0, 8, 0)), (.iload_n 2, 1, (2, 0, 0, 0, 0)), (.iadd, 1, (0, 0, 0, 0, 0)), (.iconst 1, 1, (0, 0, 0, 1, 0)), (.iastore, 1, (0, 0, 0, 0, 0)), (.aload_n 0, 1, (0, 0, 0, 0, 0)), (.getfield 71, 3, (12, 24, 2055, 0, 0)), (.bipush 48, 2, (0, 0, 0, 48, 0)), (.iload_n 2, 1, (2, 0, 0, 0, 0)), (.iadd, 1, (0, 0, 0, 0, 0)), (.bipush 9, 2, (0, 0, 0, 9, 0)), (.iastore, 1, (0, 0, 0, 0, 0)), (.aload_n 0, 1, (0, 0, 0, 0, 0)), (.getfield 71, 3, (12, 24, 2055, 0, 0)), (.bipush 56, 2, (0, 0, 0, 56, 0)), (.iload_n 2, 1, (2, 0, 0, 0, 0)), (.iadd, 1, (0, 0, 0, 0, 0)), (.iload_n 3, 1, (3, 0, 0, 0, 0)), (.bipush 8, 2, (0, 0, 0, 8, 0)), (.iadd, 1, (0, 0, 0, 0, 0)), (.iastore, 1, (0, 0, 0, 0, 0)), (.iinc 2 1, 3, (0, 0, 0, 1, 0)), (.goto (-105), 3, (23, 0, 0, 0, 0))]
theorem o_MT_usual_81 : jokL "ChessHouseModel$Texts" lw_tbl jcl jtb 4 false prog_18_method_24_code 81 k_MT_usual_81 = true := by decide +kernel
def k_MT_usual_83 : List jI := [(.istore_n 3, 1, (3, 0, 0, 0, 0)), (.aload_n 0, 1, (0, 0, 0, 0, 0)), (.getfield 71, 3, (12, 24, 2055, 0, 0)), (.iload_n 2, 1, (2, 0, 0, 0, 0)), (.iload_n 3, 1, (3, 0, 0, 0, 0)), (.iastore, 1, (0, 0, 0, 0, 0)), (.aload_n 0, 1, (0, 0, 0, 0, 0)), (.getfield 71, 3, (12, 24, 2055, 0, 0)), (.bipush 8, 2, (0, 0, 0, 8, 0)), (.iload_n 2, 1, (2, 0, 0, 0, 0)), (.iadd, 1, (0, 0, 0, 0, 0)), (.iconst 1, 1, (0, 0, 0, 1, 0)), (.iastore, 1, (0, 0, 0, 0, 0)), (.aload_n 0, 1, (0, 0, 0, 0, 0)), (.getfield 71, 3, (12, 24, 2055, 0, 0)), (.bipush 48, 2, (0, 0, 0, 48, 0)), (.iload_n 2, 1, (2, 0, 0, 0, 0)), (.iadd, 1, (0, 0, 0, 0, 0)), (.bipush 9, 2, (0, 0, 0, 9, 0)), (.iastore, 1, (0, 0, 0, 0, 0)), (.aload_n 0, 1, (0, 0, 0, 0, 0)), (.getfield 71, 3, (12, 24, 2055, 0, 0)), (.bipush 56, 2, (0, 0, 0, 56, 0)), (.iload_n 2, 1, (2, 0, 0, 0, 0)), (.iadd, 1, (0, 0, 0, 0, 0)), (.iload_n 3, 1, (3, 0, 0, 0, 0)), (.bipush 8, 2, (0, 0, 0, 8, 0)), (.iadd, 1, (0, 0, 0, 0, 0)), (.iastore, 1, (0, 0, 0, 0, 0)), (.iinc 2 1, 3, (0, 0, 0, 1, 0)), (.goto (-105), 3, (23, 0, 0, 0, 0))]
theorem o_MT_usual_83 : jokL "ChessHouseModel$Texts" lw_tbl jcl jtb 4 false prog_18_method_24_code 83 k_MT_usual_83 = true := by decide +kernel
def k_MT_usual_131 : List jI := [(.aload_n 0, 1, (0, 0, 0, 0, 0)), (.iconst 0, 1, (0, 0, 0, 0, 0)), (.putfield 122, 3, (12, 25, 2057, 0, 0)), (.aload_n 0, 1, (0, 0, 0, 0, 0)), (.bipush 15, 2, (0, 0, 0, 15, 0)), (.putfield 125, 3, (12, 26, 2059, 0, 0)), (.aload_n 0, 1, (0, 0, 0, 0, 0)), (.iconst (-1), 1, (0, 0, 0, (-1), 0)), (.putfield 128, 3, (12, 27, 2061, 0, 0)), (.aload_n 0, 1, (0, 0, 0, 0, 0)), (.iconst 0, 1, (0, 0, 0, 0, 0)), (.putfield 131, 3, (12, 28, 2063, 0, 0)), (.aload_n 0, 1, (0, 0, 0, 0, 0)), (.iconst 1, 1, (0, 0, 0, 1, 0)), (.putfield 134, 3, (12, 29, 2065, 0, 0)), (.aload_n 0, 1, (0, 0, 0, 0, 0)), (.iload_n 1, 1, (1, 0, 0, 0, 0))]
theorem o_MT_usual_131 : jokL "ChessHouseModel$Texts" lw_tbl jcl jtb 4 false prog_18_method_24_code 131 k_MT_usual_131 = true := by decide +kernel
theorem d_MT_usual_159 : decode prog_18_method_24_code 159 = .ok (.invokevirtual 183, 3) := by decide +kernel
theorem q_MT_usual_159 : jlm lw_tbl 1929 "ChessHouseModel$Texts" 183 ⟨"ChessHouseModel$Texts", "start", "(I)V"⟩ = true := by decide +kernel
theorem d_MT_usual_162 : decode prog_18_method_24_code 162 = .ok (.return_, 1) := by decide +kernel
def y_MT_place : jY := (⟨"ChessHouseModel$Texts", "place", "(II)V"⟩, prog_18_method_26_code, 5, none)
theorem m_MT_place : jmth lw_tbl y_MT_place 2 := ⟨jTA_in (wi := 1936) (by decide +kernel) rfl, jTA_in (wi := 315) (by decide +kernel) rfl, by decide, by decide, by decide +kernel⟩
theorem i_MT_place : Jvm.Cond.instanceMethod y_MT_place.1 ∈ jTA lw_tbl := jTA_in (wi := 1935) (by decide +kernel) rfl
theorem e_MT_place : Jvm.Cond.selects y_MT_place.1.cls y_MT_place.1 y_MT_place.1 ∈ jTA lw_tbl := jTA_in (wi := 110) (by decide +kernel) rfl
def k_MT_place_0 : List jI := [(.iconst 0, 1, (0, 0, 0, 0, 0)), (.istore_n 3, 1, (3, 0, 0, 0, 0)), (.iload_n 2, 1, (2, 0, 0, 0, 0)), (.istore 4, 2, (4, 0, 0, 0, 0))]
theorem o_MT_place_0 : jokL "ChessHouseModel$Texts" lw_tbl jcl jtb 5 false prog_18_method_26_code 0 k_MT_place_0 = true := by decide +kernel
def k_MT_place_5 : List jI := [(.iload 4, 2, (4, 0, 0, 0, 0)), (.ifCond .le 32, 3, (39, 0, 0, 0, 0)), (.aload_n 0, 1, (0, 0, 0, 0, 0)), (.getfield 83, 3, (12, 34, 2073, 0, 0)), (.iload_n 3, 1, (3, 0, 0, 0, 0)), (.iload 4, 2, (4, 0, 0, 0, 0)), (.iastore, 1, (0, 0, 0, 0, 0)), (.iinc 3 1, 3, (0, 0, 0, 1, 0)), (.aload_n 0, 1, (0, 0, 0, 0, 0)), (.getfield 22, 3, (12, 8, 2025, 0, 0)), (.sipush 301, 3, (0, 0, 0, 301, 0)), (.iload_n 1, 1, (1, 0, 0, 0, 0)), (.imul, 1, (0, 0, 0, 0, 0)), (.iload 4, 2, (4, 0, 0, 0, 0)), (.iadd, 1, (0, 0, 0, 0, 0)), (.iaload, 1, (0, 0, 0, 0, 0)), (.istore 4, 2, (4, 0, 0, 0, 0)), (.goto (-31), 3, (5, 0, 0, 0, 0))]
theorem o_MT_place_5 : jokL "ChessHouseModel$Texts" lw_tbl jcl jtb 5 false prog_18_method_26_code 5 k_MT_place_5 = true := by decide +kernel
def k_MT_place_39 : List jI := [(.iconst 0, 1, (0, 0, 0, 0, 0)), (.istore 4, 2, (4, 0, 0, 0, 0))]
theorem o_MT_place_39 : jokL "ChessHouseModel$Texts" lw_tbl jcl jtb 5 false prog_18_method_26_code 39 k_MT_place_39 = true := by decide +kernel
def k_MT_place_42 : List jI := [(.iload 4, 2, (4, 0, 0, 0, 0)), (.bipush 64, 2, (0, 0, 0, 64, 0)), (.if_icmp .ge 28, 3, (74, 0, 0, 0, 0)), (.aload_n 0, 1, (0, 0, 0, 0, 0)), (.getfield 71, 3, (12, 24, 2055, 0, 0)), (.iload 4, 2, (4, 0, 0, 0, 0)), (.aload_n 0, 1, (0, 0, 0, 0, 0)), (.getfield 47, 3, (12, 16, 2039, 0, 0)), (.bipush 64, 2, (0, 0, 0, 64, 0)), (.iload_n 1, 1, (1, 0, 0, 0, 0)), (.imul, 1, (0, 0, 0, 0, 0)), (.iload 4, 2, (4, 0, 0, 0, 0)), (.iadd, 1, (0, 0, 0, 0, 0)), (.iaload, 1, (0, 0, 0, 0, 0)), (.iastore, 1, (0, 0, 0, 0, 0)), (.iinc 4 1, 3, (0, 0, 0, 1, 0)), (.goto (-29), 3, (42, 0, 0, 0, 0))]
theorem o_MT_place_42 : jokL "ChessHouseModel$Texts" lw_tbl jcl jtb 5 false prog_18_method_26_code 42 k_MT_place_42 = true := by decide +kernel
def k_MT_place_74 : List jI := [(.aload_n 0, 1, (0, 0, 0, 0, 0)), (.aload_n 0, 1, (0, 0, 0, 0, 0)), (.getfield 50, 3, (12, 17, 2041, 0, 0)), (.iconst 5, 1, (0, 0, 0, 5, 0)), (.iload_n 1, 1, (1, 0, 0, 0, 0)), (.imul, 1, (0, 0, 0, 0, 0)), (.iaload, 1, (0, 0, 0, 0, 0)), (.putfield 122, 3, (12, 25, 2057, 0, 0)), (.aload_n 0, 1, (0, 0, 0, 0, 0)), (.aload_n 0, 1, (0, 0, 0, 0, 0)), (.getfield 50, 3, (12, 17, 2041, 0, 0)), (.iconst 5, 1, (0, 0, 0, 5, 0)), (.iload_n 1, 1, (1, 0, 0, 0, 0)), (.imul, 1, (0, 0, 0, 0, 0)), (.iconst 1, 1, (0, 0, 0, 1, 0)), (.iadd, 1, (0, 0, 0, 0, 0)), (.iaload, 1, (0, 0, 0, 0, 0)), (.putfield 125, 3, (12, 26, 2059, 0, 0)), (.aload_n 0, 1, (0, 0, 0, 0, 0)), (.aload_n 0, 1, (0, 0, 0, 0, 0)), (.getfield 50, 3, (12, 17, 2041, 0, 0)), (.iconst 5, 1, (0, 0, 0, 5, 0)), (.iload_n 1, 1, (1, 0, 0, 0, 0)), (.imul, 1, (0, 0, 0, 0, 0)), (.iconst 2, 1, (0, 0, 0, 2, 0)), (.iadd, 1, (0, 0, 0, 0, 0)), (.iaload, 1, (0, 0, 0, 0, 0)), (.putfield 128, 3, (12, 27, 2061, 0, 0)), (.aload_n 0, 1, (0, 0, 0, 0, 0)), (.aload_n 0, 1, (0, 0, 0, 0, 0)), (.getfield 50, 3, (12, 17, 2041, 0, 0)), (.iconst 5, 1, (0, 0, 0, 5, 0)), (.iload_n 1, 1, (1, 0, 0, 0, 0)), (.imul, 1, (0, 0, 0, 0, 0)), (.iconst 3, 1, (0, 0, 0, 3, 0)), (.iadd, 1, (0, 0, 0, 0, 0)), (.iaload, 1, (0, 0, 0, 0, 0)), (.putfield 131, 3, (12, 28, 2063, 0, 0)), (.aload_n 0, 1, (0, 0, 0, 0, 0)), (.aload_n 0, 1, (0, 0, 0, 0, 0)), (.getfield 50, 3, (12, 17, 2041, 0, 0)), (.iconst 5, 1, (0, 0, 0, 5, 0)), (.iload_n 1, 1, (1, 0, 0, 0, 0)), (.imul, 1, (0, 0, 0, 0, 0)), (.iconst 4, 1, (0, 0, 0, 4, 0)), (.iadd, 1, (0, 0, 0, 0, 0)), (.iaload, 1, (0, 0, 0, 0, 0)), (.putfield 134, 3, (12, 29, 2065, 0, 0)), (.iload_n 3, 1, (3, 0, 0, 0, 0)), (.iconst 1, 1, (0, 0, 0, 1, 0)), (.isub, 1, (0, 0, 0, 0, 0)), (.istore 4, 2, (4, 0, 0, 0, 0))]
theorem o_MT_place_74 : jokL "ChessHouseModel$Texts" lw_tbl jcl jtb 5 false prog_18_method_26_code 74 k_MT_place_74 = true := by decide +kernel
def k_MT_place_147 : List jI := [(.iload 4, 2, (4, 0, 0, 0, 0)), (.ifCond .lt 31, 3, (180, 0, 0, 0, 0)), (.aload_n 0, 1, (0, 0, 0, 0, 0)), (.aload_n 0, 1, (0, 0, 0, 0, 0)), (.getfield 25, 3, (12, 9, 2027, 0, 0)), (.sipush 301, 3, (0, 0, 0, 301, 0)), (.iload_n 1, 1, (1, 0, 0, 0, 0)), (.imul, 1, (0, 0, 0, 0, 0)), (.aload_n 0, 1, (0, 0, 0, 0, 0)), (.getfield 83, 3, (12, 34, 2073, 0, 0)), (.iload 4, 2, (4, 0, 0, 0, 0)), (.iaload, 1, (0, 0, 0, 0, 0)), (.iadd, 1, (0, 0, 0, 0, 0)), (.iaload, 1, (0, 0, 0, 0, 0))]
theorem o_MT_place_147 : jokL "ChessHouseModel$Texts" lw_tbl jcl jtb 5 false prog_18_method_26_code 147 k_MT_place_147 = true := by decide +kernel
def k_MT_place_174 : List jI := [(.iinc 4 (-1), 3, (0, 0, 0, (-1), 0)), (.goto (-30), 3, (147, 0, 0, 0, 0))]
theorem o_MT_place_174 : jokL "ChessHouseModel$Texts" lw_tbl jcl jtb 5 false prog_18_method_26_code 174 k_MT_place_174 = true := by decide +kernel
def k_MT_place_180 : List jI := [(.aload_n 0, 1, (0, 0, 0, 0, 0))]
theorem o_MT_place_180 : jokL "ChessHouseModel$Texts" lw_tbl jcl jtb 5 false prog_18_method_26_code 180 k_MT_place_180 = true := by decide +kernel
theorem d_MT_place_171 : decode prog_18_method_26_code 171 = .ok (.invokevirtual 150, 3) := by decide +kernel
theorem q_MT_place_171 : jlm lw_tbl 1937 "ChessHouseModel$Texts" 150 ⟨"ChessHouseModel$Texts", "make", "(I)V"⟩ = true := by decide +kernel
theorem d_MT_place_181 : decode prog_18_method_26_code 181 = .ok (.invokevirtual 186, 3) := by decide +kernel
theorem q_MT_place_181 : jlm lw_tbl 1959 "ChessHouseModel$Texts" 186 ⟨"ChessHouseModel$Texts", "findMoves", "()V"⟩ = true := by decide +kernel
theorem d_MT_place_184 : decode prog_18_method_26_code 184 = .ok (.return_, 1) := by decide +kernel
def y_MT_init : jY := (⟨"ChessHouseModel$Texts", "<init>", "()V"⟩, prog_18_method_1_code, 1, none)
theorem m_MT_init : jmth lw_tbl y_MT_init 0 := ⟨jTA_in (wi := 1912) (by decide +kernel) rfl, jTA_in (wi := 315) (by decide +kernel) rfl, by decide, by decide, by decide +kernel⟩
theorem i_MT_init : Jvm.Cond.instanceMethod y_MT_init.1 ∈ jTA lw_tbl := jTA_in (wi := 1911) (by decide +kernel) rfl
def k_MT_init_0 : List jI := [(.aload_n 0, 1, (0, 0, 0, 0, 0))]
theorem o_MT_init_0 : jokL "ChessHouseModel$Texts" lw_tbl jcl jtb 1 true prog_18_method_1_code 0 k_MT_init_0 = true := by decide +kernel
def k_MT_init_4 : List jI := [(.aload_n 0, 1, (0, 0, 0, 0, 0)), (.ldc 7, 2, (0, 0, 1914, 65536, 0))]
theorem o_MT_init_4 : jokL "ChessHouseModel$Texts" lw_tbl jcl jtb 1 true prog_18_method_1_code 4 k_MT_init_4 = true := by decide +kernel
def k_MT_init_9 : List jI := [(.putfield 8, 3, (12, 2, 2014, 3, 0)), (.aload_n 0, 1, (0, 0, 0, 0, 0)), (.ldc 14, 2, (0, 0, 1915, 80000, 0))]
theorem o_MT_init_9 : jokL "ChessHouseModel$Texts" lw_tbl jcl jtb 1 true prog_18_method_1_code 9 k_MT_init_9 = true := by decide +kernel
def k_MT_init_17 : List jI := [(.putfield 15, 3, (12, 4, 2017, 3, 0)), (.aload_n 0, 1, (0, 0, 0, 0, 0)), (.iconst 2, 1, (0, 0, 0, 2, 0))]
theorem o_MT_init_17 : jokL "ChessHouseModel$Texts" lw_tbl jcl jtb 1 true prog_18_method_1_code 17 k_MT_init_17 = true := by decide +kernel
def k_MT_init_24 : List jI := [(.putfield 18, 3, (12, 7, 2023, 3, 0)), (.aload_n 0, 1, (0, 0, 0, 0, 0)), (.sipush 602, 3, (0, 0, 0, 602, 0))]
theorem o_MT_init_24 : jokL "ChessHouseModel$Texts" lw_tbl jcl jtb 1 true prog_18_method_1_code 24 k_MT_init_24 = true := by decide +kernel
def k_MT_init_33 : List jI := [(.putfield 22, 3, (12, 8, 2025, 3, 0)), (.aload_n 0, 1, (0, 0, 0, 0, 0)), (.sipush 602, 3, (0, 0, 0, 602, 0))]
theorem o_MT_init_33 : jokL "ChessHouseModel$Texts" lw_tbl jcl jtb 1 true prog_18_method_1_code 33 k_MT_init_33 = true := by decide +kernel
def k_MT_init_42 : List jI := [(.putfield 25, 3, (12, 9, 2027, 3, 0)), (.aload_n 0, 1, (0, 0, 0, 0, 0)), (.sipush 602, 3, (0, 0, 0, 602, 0))]
theorem o_MT_init_42 : jokL "ChessHouseModel$Texts" lw_tbl jcl jtb 1 true prog_18_method_1_code 42 k_MT_init_42 = true := by decide +kernel
def k_MT_init_51 : List jI := [(.putfield 28, 3, (12, 10, 2029, 3, 0)), (.aload_n 0, 1, (0, 0, 0, 0, 0)), (.sipush 602, 3, (0, 0, 0, 602, 0))]
theorem o_MT_init_51 : jokL "ChessHouseModel$Texts" lw_tbl jcl jtb 1 true prog_18_method_1_code 51 k_MT_init_51 = true := by decide +kernel
def k_MT_init_60 : List jI := [(.putfield 31, 3, (12, 11, 2031, 3, 0)), (.aload_n 0, 1, (0, 0, 0, 0, 0)), (.sipush 602, 3, (0, 0, 0, 602, 0))]
theorem o_MT_init_60 : jokL "ChessHouseModel$Texts" lw_tbl jcl jtb 1 true prog_18_method_1_code 60 k_MT_init_60 = true := by decide +kernel
def k_MT_init_69 : List jI := [(.putfield 34, 3, (12, 12, 2033, 3, 0)), (.aload_n 0, 1, (0, 0, 0, 0, 0)), (.sipush 2408, 3, (0, 0, 0, 2408, 0))]
theorem o_MT_init_69 : jokL "ChessHouseModel$Texts" lw_tbl jcl jtb 1 true prog_18_method_1_code 69 k_MT_init_69 = true := by decide +kernel
def k_MT_init_78 : List jI := [(.putfield 37, 3, (12, 13, 2034, 3, 0)), (.aload_n 0, 1, (0, 0, 0, 0, 0)), (.sipush 602, 3, (0, 0, 0, 602, 0))]
theorem o_MT_init_78 : jokL "ChessHouseModel$Texts" lw_tbl jcl jtb 1 true prog_18_method_1_code 78 k_MT_init_78 = true := by decide +kernel
def k_MT_init_87 : List jI := [(.putfield 40, 3, (12, 14, 2035, 3, 0)), (.aload_n 0, 1, (0, 0, 0, 0, 0)), (.ldc 43, 2, (0, 0, 1916, 120400, 0))]
theorem o_MT_init_87 : jokL "ChessHouseModel$Texts" lw_tbl jcl jtb 1 true prog_18_method_1_code 87 k_MT_init_87 = true := by decide +kernel
def k_MT_init_95 : List jI := [(.putfield 44, 3, (12, 15, 2037, 3, 0)), (.aload_n 0, 1, (0, 0, 0, 0, 0)), (.sipush 128, 3, (0, 0, 0, 128, 0))]
theorem o_MT_init_95 : jokL "ChessHouseModel$Texts" lw_tbl jcl jtb 1 true prog_18_method_1_code 95 k_MT_init_95 = true := by decide +kernel
def k_MT_init_104 : List jI := [(.putfield 47, 3, (12, 16, 2039, 3, 0)), (.aload_n 0, 1, (0, 0, 0, 0, 0)), (.bipush 10, 2, (0, 0, 0, 10, 0))]
theorem o_MT_init_104 : jokL "ChessHouseModel$Texts" lw_tbl jcl jtb 1 true prog_18_method_1_code 104 k_MT_init_104 = true := by decide +kernel
def k_MT_init_112 : List jI := [(.putfield 50, 3, (12, 17, 2041, 3, 0)), (.aload_n 0, 1, (0, 0, 0, 0, 0)), (.iconst 2, 1, (0, 0, 0, 2, 0))]
theorem o_MT_init_112 : jokL "ChessHouseModel$Texts" lw_tbl jcl jtb 1 true prog_18_method_1_code 112 k_MT_init_112 = true := by decide +kernel
def k_MT_init_119 : List jI := [(.putfield 53, 3, (12, 18, 2043, 3, 0)), (.aload_n 0, 1, (0, 0, 0, 0, 0)), (.bipush 16, 2, (0, 0, 0, 16, 0))]
theorem o_MT_init_119 : jokL "ChessHouseModel$Texts" lw_tbl jcl jtb 1 true prog_18_method_1_code 119 k_MT_init_119 = true := by decide +kernel
def k_MT_init_127 : List jI := [(.putfield 56, 3, (12, 19, 2045, 3, 0)), (.aload_n 0, 1, (0, 0, 0, 0, 0)), (.sipush 192, 3, (0, 0, 0, 192, 0))]
theorem o_MT_init_127 : jokL "ChessHouseModel$Texts" lw_tbl jcl jtb 1 true prog_18_method_1_code 127 k_MT_init_127 = true := by decide +kernel
def k_MT_init_136 : List jI := [(.putfield 59, 3, (12, 20, 2047, 3, 0)), (.aload_n 0, 1, (0, 0, 0, 0, 0)), (.bipush 16, 2, (0, 0, 0, 16, 0))]
theorem o_MT_init_136 : jokL "ChessHouseModel$Texts" lw_tbl jcl jtb 1 true prog_18_method_1_code 136 k_MT_init_136 = true := by decide +kernel
def k_MT_init_144 : List jI := [(.putfield 62, 3, (12, 21, 2049, 3, 0)), (.aload_n 0, 1, (0, 0, 0, 0, 0)), (.sipush 1536, 3, (0, 0, 0, 1536, 0))]
theorem o_MT_init_144 : jokL "ChessHouseModel$Texts" lw_tbl jcl jtb 1 true prog_18_method_1_code 144 k_MT_init_144 = true := by decide +kernel
def k_MT_init_153 : List jI := [(.putfield 65, 3, (12, 22, 2051, 3, 0)), (.aload_n 0, 1, (0, 0, 0, 0, 0)), (.iconst 2, 1, (0, 0, 0, 2, 0))]
theorem o_MT_init_153 : jokL "ChessHouseModel$Texts" lw_tbl jcl jtb 1 true prog_18_method_1_code 153 k_MT_init_153 = true := by decide +kernel
def k_MT_init_160 : List jI := [(.putfield 68, 3, (12, 23, 2053, 3, 0)), (.aload_n 0, 1, (0, 0, 0, 0, 0)), (.bipush 64, 2, (0, 0, 0, 64, 0))]
theorem o_MT_init_160 : jokL "ChessHouseModel$Texts" lw_tbl jcl jtb 1 true prog_18_method_1_code 160 k_MT_init_160 = true := by decide +kernel
def k_MT_init_168 : List jI := [(.putfield 71, 3, (12, 24, 2055, 3, 0)), (.aload_n 0, 1, (0, 0, 0, 0, 0)), (.bipush 64, 2, (0, 0, 0, 64, 0))]
theorem o_MT_init_168 : jokL "ChessHouseModel$Texts" lw_tbl jcl jtb 1 true prog_18_method_1_code 168 k_MT_init_168 = true := by decide +kernel
def k_MT_init_176 : List jI := [(.putfield 74, 3, (12, 30, 2067, 3, 0)), (.aload_n 0, 1, (0, 0, 0, 0, 0)), (.iconst 5, 1, (0, 0, 0, 5, 0))]
theorem o_MT_init_176 : jokL "ChessHouseModel$Texts" lw_tbl jcl jtb 1 true prog_18_method_1_code 176 k_MT_init_176 = true := by decide +kernel
def k_MT_init_183 : List jI := [(.putfield 77, 3, (12, 31, 2068, 3, 0)), (.aload_n 0, 1, (0, 0, 0, 0, 0)), (.sipush 2048, 3, (0, 0, 0, 2048, 0))]
theorem o_MT_init_183 : jokL "ChessHouseModel$Texts" lw_tbl jcl jtb 1 true prog_18_method_1_code 183 k_MT_init_183 = true := by decide +kernel
def k_MT_init_192 : List jI := [(.putfield 80, 3, (12, 32, 2069, 3, 0)), (.aload_n 0, 1, (0, 0, 0, 0, 0)), (.sipush 301, 3, (0, 0, 0, 301, 0))]
theorem o_MT_init_192 : jokL "ChessHouseModel$Texts" lw_tbl jcl jtb 1 true prog_18_method_1_code 192 k_MT_init_192 = true := by decide +kernel
def k_MT_init_201 : List jI := [(.putfield 83, 3, (12, 34, 2073, 3, 0)), (.aload_n 0, 1, (0, 0, 0, 0, 0)), (.bipush 16, 2, (0, 0, 0, 16, 0))]
theorem o_MT_init_201 : jokL "ChessHouseModel$Texts" lw_tbl jcl jtb 1 true prog_18_method_1_code 201 k_MT_init_201 = true := by decide +kernel
def k_MT_init_209 : List jI := [(.putfield 86, 3, (12, 35, 2074, 3, 0)), (.aload_n 0, 1, (0, 0, 0, 0, 0)), (.iconst 0, 1, (0, 0, 0, 0, 0))]
theorem o_MT_init_209 : jokL "ChessHouseModel$Texts" lw_tbl jcl jtb 1 true prog_18_method_1_code 209 k_MT_init_209 = true := by decide +kernel
def k_MT_init_217 : List jI := [(.aload_n 0, 1, (0, 0, 0, 0, 0)), (.iconst 0, 1, (0, 0, 0, 0, 0))]
theorem o_MT_init_217 : jokL "ChessHouseModel$Texts" lw_tbl jcl jtb 1 true prog_18_method_1_code 217 k_MT_init_217 = true := by decide +kernel
def k_MT_init_222 : List jI := [(.aload_n 0, 1, (0, 0, 0, 0, 0)), (.iconst 0, 1, (0, 0, 0, 0, 0)), (.iconst 0, 1, (0, 0, 0, 0, 0))]
theorem o_MT_init_222 : jokL "ChessHouseModel$Texts" lw_tbl jcl jtb 1 true prog_18_method_1_code 222 k_MT_init_222 = true := by decide +kernel
theorem d_MT_init_1 : decode prog_18_method_1_code 1 = .ok (.invokespecial 1, 3) := by decide +kernel
theorem d_MT_init_7 : decode prog_18_method_1_code 7 = .ok (.newarray .char, 2) := by decide +kernel
theorem d_MT_init_15 : decode prog_18_method_1_code 15 = .ok (.newarray .char, 2) := by decide +kernel
theorem d_MT_init_22 : decode prog_18_method_1_code 22 = .ok (.newarray .int, 2) := by decide +kernel
theorem d_MT_init_31 : decode prog_18_method_1_code 31 = .ok (.newarray .int, 2) := by decide +kernel
theorem d_MT_init_40 : decode prog_18_method_1_code 40 = .ok (.newarray .int, 2) := by decide +kernel
theorem d_MT_init_49 : decode prog_18_method_1_code 49 = .ok (.newarray .int, 2) := by decide +kernel
theorem d_MT_init_58 : decode prog_18_method_1_code 58 = .ok (.newarray .int, 2) := by decide +kernel
theorem d_MT_init_67 : decode prog_18_method_1_code 67 = .ok (.newarray .int, 2) := by decide +kernel
theorem d_MT_init_76 : decode prog_18_method_1_code 76 = .ok (.newarray .int, 2) := by decide +kernel
theorem d_MT_init_85 : decode prog_18_method_1_code 85 = .ok (.newarray .int, 2) := by decide +kernel
theorem d_MT_init_93 : decode prog_18_method_1_code 93 = .ok (.newarray .char, 2) := by decide +kernel
theorem d_MT_init_102 : decode prog_18_method_1_code 102 = .ok (.newarray .int, 2) := by decide +kernel
theorem d_MT_init_110 : decode prog_18_method_1_code 110 = .ok (.newarray .int, 2) := by decide +kernel
theorem d_MT_init_117 : decode prog_18_method_1_code 117 = .ok (.newarray .int, 2) := by decide +kernel
theorem d_MT_init_125 : decode prog_18_method_1_code 125 = .ok (.newarray .int, 2) := by decide +kernel
theorem d_MT_init_134 : decode prog_18_method_1_code 134 = .ok (.newarray .char, 2) := by decide +kernel
theorem d_MT_init_142 : decode prog_18_method_1_code 142 = .ok (.newarray .int, 2) := by decide +kernel
theorem d_MT_init_151 : decode prog_18_method_1_code 151 = .ok (.newarray .char, 2) := by decide +kernel
theorem d_MT_init_158 : decode prog_18_method_1_code 158 = .ok (.newarray .int, 2) := by decide +kernel
theorem d_MT_init_166 : decode prog_18_method_1_code 166 = .ok (.newarray .int, 2) := by decide +kernel
theorem d_MT_init_174 : decode prog_18_method_1_code 174 = .ok (.newarray .int, 2) := by decide +kernel
theorem d_MT_init_181 : decode prog_18_method_1_code 181 = .ok (.newarray .int, 2) := by decide +kernel
theorem d_MT_init_190 : decode prog_18_method_1_code 190 = .ok (.newarray .int, 2) := by decide +kernel
theorem d_MT_init_199 : decode prog_18_method_1_code 199 = .ok (.newarray .int, 2) := by decide +kernel
theorem d_MT_init_207 : decode prog_18_method_1_code 207 = .ok (.newarray .char, 2) := by decide +kernel
theorem d_MT_init_214 : decode prog_18_method_1_code 214 = .ok (.invokevirtual 89, 3) := by decide +kernel
theorem q_MT_init_214 : jlm lw_tbl 1917 "ChessHouseModel$Texts" 89 ⟨"ChessHouseModel$Texts", "clearGame", "(I)V"⟩ = true := by decide +kernel
theorem d_MT_init_219 : decode prog_18_method_1_code 219 = .ok (.invokevirtual 93, 3) := by decide +kernel
theorem q_MT_init_219 : jlm lw_tbl 1925 "ChessHouseModel$Texts" 93 ⟨"ChessHouseModel$Texts", "usual", "(I)V"⟩ = true := by decide +kernel
theorem d_MT_init_225 : decode prog_18_method_1_code 225 = .ok (.invokevirtual 96, 3) := by decide +kernel
theorem q_MT_init_225 : jlm lw_tbl 1933 "ChessHouseModel$Texts" 96 ⟨"ChessHouseModel$Texts", "place", "(II)V"⟩ = true := by decide +kernel
theorem d_MT_init_228 : decode prog_18_method_1_code 228 = .ok (.return_, 1) := by decide +kernel
def y_MM_init : jY := (⟨"ChessHouseModel", "<init>", "()V"⟩, prog_15_method_1_code, 1, none)
theorem m_MM_init : jmth lw_tbl y_MM_init 0 := ⟨jTA_in (wi := 1905) (by decide +kernel) rfl, jTA_in (wi := 314) (by decide +kernel) rfl, by decide, by decide, by decide +kernel⟩
theorem i_MM_init : Jvm.Cond.instanceMethod y_MM_init.1 ∈ jTA lw_tbl := jTA_in (wi := 1904) (by decide +kernel) rfl
def k_MM_init_0 : List jI := [(.aload_n 0, 1, (0, 0, 0, 0, 0))]
theorem o_MM_init_0 : jokL "ChessHouseModel" lw_tbl jcl jtb 1 true prog_15_method_1_code 0 k_MM_init_0 = true := by decide +kernel
def k_MM_init_4 : List jI := [(.aload_n 0, 1, (0, 0, 0, 0, 0)), (.ldc 9, 2, (0, 0, 1907, 65536, 0))]
theorem o_MM_init_4 : jokL "ChessHouseModel" lw_tbl jcl jtb 1 true prog_15_method_1_code 4 k_MM_init_4 = true := by decide +kernel
def k_MM_init_9 : List jI := [(.putfield 10, 3, (11, 2, 2304, 3, 0)), (.aload_n 0, 1, (0, 0, 0, 0, 0)), (.ldc 9, 2, (0, 0, 1907, 65536, 0))]
theorem o_MM_init_9 : jokL "ChessHouseModel" lw_tbl jcl jtb 1 true prog_15_method_1_code 9 k_MM_init_9 = true := by decide +kernel
def k_MM_init_17 : List jI := [(.putfield 14, 3, (11, 4, 2306, 3, 0)), (.aload_n 0, 1, (0, 0, 0, 0, 0))]
theorem o_MM_init_17 : jokL "ChessHouseModel" lw_tbl jcl jtb 1 true prog_15_method_1_code 17 k_MM_init_17 = true := by decide +kernel
def k_MM_init_24 : List jI := [(.dup, 1, (0, 0, 0, 0, 0))]
theorem o_MM_init_24 : jokL "ChessHouseModel" lw_tbl jcl jtb 1 true prog_15_method_1_code 24 k_MM_init_24 = true := by decide +kernel
def k_MM_init_28 : List jI := [(.putfield 20, 3, (11, 5, 2307, 3, 0)), (.aload_n 0, 1, (0, 0, 0, 0, 0))]
theorem o_MM_init_28 : jokL "ChessHouseModel" lw_tbl jcl jtb 1 true prog_15_method_1_code 28 k_MM_init_28 = true := by decide +kernel
def k_MM_init_35 : List jI := [(.dup, 1, (0, 0, 0, 0, 0))]
theorem o_MM_init_35 : jokL "ChessHouseModel" lw_tbl jcl jtb 1 true prog_15_method_1_code 35 k_MM_init_35 = true := by decide +kernel
def k_MM_init_39 : List jI := [(.putfield 27, 3, (11, 6, 2308, 3, 0)), (.aload_n 0, 1, (0, 0, 0, 0, 0)), (.ldc 31, 2, (0, 0, 2301, 32768, 0))]
theorem o_MM_init_39 : jokL "ChessHouseModel" lw_tbl jcl jtb 1 true prog_15_method_1_code 39 k_MM_init_39 = true := by decide +kernel
def k_MM_init_47 : List jI := [(.putfield 32, 3, (11, 14, 2316, 3, 0)), (.aload_n 0, 1, (0, 0, 0, 0, 0)), (.ldc 31, 2, (0, 0, 2301, 32768, 0))]
theorem o_MM_init_47 : jokL "ChessHouseModel" lw_tbl jcl jtb 1 true prog_15_method_1_code 47 k_MM_init_47 = true := by decide +kernel
def k_MM_init_55 : List jI := [(.putfield 36, 3, (11, 15, 2317, 3, 0)), (.aload_n 0, 1, (0, 0, 0, 0, 0)), (.sipush 301, 3, (0, 0, 0, 301, 0))]
theorem o_MM_init_55 : jokL "ChessHouseModel" lw_tbl jcl jtb 1 true prog_15_method_1_code 55 k_MM_init_55 = true := by decide +kernel
def k_MM_init_64 : List jI := [(.putfield 39, 3, (11, 17, 2319, 3, 0)), (.aload_n 0, 1, (0, 0, 0, 0, 0)), (.bipush 100, 2, (0, 0, 0, 100, 0))]
theorem o_MM_init_64 : jokL "ChessHouseModel" lw_tbl jcl jtb 1 true prog_15_method_1_code 64 k_MM_init_64 = true := by decide +kernel
def k_MM_init_72 : List jI := [(.putfield 42, 3, (11, 18, 2320, 3, 0))]
theorem o_MM_init_72 : jokL "ChessHouseModel" lw_tbl jcl jtb 1 true prog_15_method_1_code 72 k_MM_init_72 = true := by decide +kernel
theorem d_MM_init_1 : decode prog_15_method_1_code 1 = .ok (.invokespecial 1, 3) := by decide +kernel
theorem d_MM_init_7 : decode prog_15_method_1_code 7 = .ok (.newarray .byte, 2) := by decide +kernel
theorem d_MM_init_15 : decode prog_15_method_1_code 15 = .ok (.newarray .byte, 2) := by decide +kernel
theorem d_MM_init_21 : decode prog_15_method_1_code 21 = .ok (.new 17, 3) := by decide +kernel
theorem d_MM_init_25 : decode prog_15_method_1_code 25 = .ok (.invokespecial 19, 3) := by decide +kernel
theorem q_MM_init_25 : jlm lw_tbl 1910 "ChessHouseModel" 19 ⟨"ChessHouseModel$Texts", "<init>", "()V"⟩ = true := by decide +kernel
theorem d_MM_init_32 : decode prog_15_method_1_code 32 = .ok (.new 24, 3) := by decide +kernel
theorem d_MM_init_36 : decode prog_15_method_1_code 36 = .ok (.invokespecial 26, 3) := by decide +kernel
theorem q_MM_init_36 : jlm lw_tbl 2165 "ChessHouseModel" 26 ⟨"ChessHouseModel$Board", "<init>", "()V"⟩ = true := by decide +kernel
theorem d_MM_init_45 : decode prog_15_method_1_code 45 = .ok (.newarray .int, 2) := by decide +kernel
theorem d_MM_init_53 : decode prog_15_method_1_code 53 = .ok (.newarray .int, 2) := by decide +kernel
theorem d_MM_init_62 : decode prog_15_method_1_code 62 = .ok (.newarray .int, 2) := by decide +kernel
theorem d_MM_init_70 : decode prog_15_method_1_code 70 = .ok (.newarray .char, 2) := by decide +kernel
theorem d_MM_init_75 : decode prog_15_method_1_code 75 = .ok (.return_, 1) := by decide +kernel
def y_MM_lay : jY := (⟨"ChessHouseModel", "lay", "(I)V"⟩, prog_15_method_3_code, 3, none)
theorem m_MM_lay : jmth lw_tbl y_MM_lay 1 := ⟨jTA_in (wi := 2371) (by decide +kernel) rfl, jTA_in (wi := 314) (by decide +kernel) rfl, by decide, by decide, by decide +kernel⟩
theorem i_MM_lay : Jvm.Cond.instanceMethod y_MM_lay.1 ∈ jTA lw_tbl := jTA_in (wi := 2370) (by decide +kernel) rfl
theorem e_MM_lay : Jvm.Cond.selects y_MM_lay.1.cls y_MM_lay.1 y_MM_lay.1 ∈ jTA lw_tbl := jTA_in (wi := 127) (by decide +kernel) rfl
def k_MM_lay_0 : List jI := [(.bipush 24, 2, (0, 0, 0, 24, 0)), (.istore_n 2, 1, (2, 0, 0, 0, 0))]
theorem o_MM_lay_0 : jokL "ChessHouseModel" lw_tbl jcl jtb 3 false prog_15_method_3_code 0 k_MM_lay_0 = true := by decide +kernel
def k_MM_lay_3 : List jI := [(.iload_n 2, 1, (2, 0, 0, 0, 0)), (.ifCond .lt 32, 3, (36, 0, 0, 0, 0)), (.aload_n 0, 1, (0, 0, 0, 0, 0)), (.getfield 10, 3, (11, 2, 2304, 0, 0)), (.aload_n 0, 1, (0, 0, 0, 0, 0)), (.getfield 50, 3, (11, 1, 2303, 0, 0)), (.iload_n 1, 1, (1, 0, 0, 0, 0)), (.iload_n 2, 1, (2, 0, 0, 0, 0)), (.ishr, 1, (0, 0, 0, 0, 0)), (.i2b, 1, (0, 0, 0, 0, 0)), (.bastore, 1, (0, 0, 0, 0, 0)), (.aload_n 0, 1, (0, 0, 0, 0, 0)), (.dup, 1, (0, 0, 0, 0, 0)), (.getfield 50, 3, (11, 1, 2303, 0, 0)), (.iconst 1, 1, (0, 0, 0, 1, 0)), (.iadd, 1, (0, 0, 0, 0, 0)), (.putfield 50, 3, (11, 1, 2303, 0, 0)), (.iinc 2 (-8), 3, (0, 0, 0, (-8), 0)), (.goto (-30), 3, (3, 0, 0, 0, 0))]
theorem o_MM_lay_3 : jokL "ChessHouseModel" lw_tbl jcl jtb 3 false prog_15_method_3_code 3 k_MM_lay_3 = true := by decide +kernel
theorem d_MM_lay_36 : decode prog_15_method_3_code 36 = .ok (.return_, 1) := by decide +kernel
def y_MM_feed : jY := (⟨"ChessHouseModel", "feed", "(IIIII)V"⟩, prog_15_method_4_code, 6, none)
theorem m_MM_feed : jmth lw_tbl y_MM_feed 5 := ⟨jTA_in (wi := 2367) (by decide +kernel) rfl, jTA_in (wi := 314) (by decide +kernel) rfl, by decide, by decide, by decide +kernel⟩
theorem i_MM_feed : Jvm.Cond.instanceMethod y_MM_feed.1 ∈ jTA lw_tbl := jTA_in (wi := 2365) (by decide +kernel) rfl
theorem e_MM_feed : Jvm.Cond.selects y_MM_feed.1.cls y_MM_feed.1 y_MM_feed.1 ∈ jTA lw_tbl := jTA_in (wi := 2366) (by decide +kernel) rfl
def k_MM_feed_0 : List jI := [(.aload_n 0, 1, (0, 0, 0, 0, 0)), (.aload_n 0, 1, (0, 0, 0, 0, 0)), (.getfield 50, 3, (11, 1, 2303, 0, 0)), (.bipush 20, 2, (0, 0, 0, 20, 0)), (.iadd, 1, (0, 0, 0, 0, 0)), (.ldc 9, 2, (0, 0, 1907, 65536, 0)), (.if_icmp .le 7, 3, (17, 0, 0, 0, 0)), (.iconst 1, 1, (0, 0, 0, 1, 0)), (.goto 4, 3, (18, 0, 0, 0, 0))]
theorem o_MM_feed_0 : jokL "ChessHouseModel" lw_tbl jcl jtb 6 false prog_15_method_4_code 0 k_MM_feed_0 = true := by decide +kernel
def k_MM_feed_17 : List jI := [(.iconst 0, 1, (0, 0, 0, 0, 0)), (.putfield 46, 3, (11, 0, 2302, 0, 0)), (.aload_n 0, 1, (0, 0, 0, 0, 0)), (.getfield 46, 3, (11, 0, 2302, 0, 0)), (.ifCond .ne 30, 3, (55, 0, 0, 0, 0)), (.aload_n 0, 1, (0, 0, 0, 0, 0)), (.iload_n 1, 1, (1, 0, 0, 0, 0))]
theorem o_MM_feed_17 : jokL "ChessHouseModel" lw_tbl jcl jtb 6 false prog_15_method_4_code 17 k_MM_feed_17 = true := by decide +kernel
def k_MM_feed_18 : List jI := [(.putfield 46, 3, (11, 0, 2302, 0, 0)), (.aload_n 0, 1, (0, 0, 0, 0, 0)), (.getfield 46, 3, (11, 0, 2302, 0, 0)), (.ifCond .ne 30, 3, (55, 0, 0, 0, 0)), (.aload_n 0, 1, (0, 0, 0, 0, 0)), (.iload_n 1, 1, (1, 0, 0, 0, 0))]
theorem o_MM_feed_18 : jokL "ChessHouseModel" lw_tbl jcl jtb 6 false prog_15_method_4_code 18 k_MM_feed_18 = true := by decide +kernel
def k_MM_feed_33 : List jI := [(.aload_n 0, 1, (0, 0, 0, 0, 0)), (.iload_n 2, 1, (2, 0, 0, 0, 0))]
theorem o_MM_feed_33 : jokL "ChessHouseModel" lw_tbl jcl jtb 6 false prog_15_method_4_code 33 k_MM_feed_33 = true := by decide +kernel
def k_MM_feed_38 : List jI := [(.aload_n 0, 1, (0, 0, 0, 0, 0)), (.iload_n 3, 1, (3, 0, 0, 0, 0))]
theorem o_MM_feed_38 : jokL "ChessHouseModel" lw_tbl jcl jtb 6 false prog_15_method_4_code 38 k_MM_feed_38 = true := by decide +kernel
def k_MM_feed_43 : List jI := [(.aload_n 0, 1, (0, 0, 0, 0, 0)), (.iload 4, 2, (4, 0, 0, 0, 0))]
theorem o_MM_feed_43 : jokL "ChessHouseModel" lw_tbl jcl jtb 6 false prog_15_method_4_code 43 k_MM_feed_43 = true := by decide +kernel
def k_MM_feed_49 : List jI := [(.aload_n 0, 1, (0, 0, 0, 0, 0)), (.iload 5, 2, (5, 0, 0, 0, 0))]
theorem o_MM_feed_49 : jokL "ChessHouseModel" lw_tbl jcl jtb 6 false prog_15_method_4_code 49 k_MM_feed_49 = true := by decide +kernel
theorem d_MM_feed_30 : decode prog_15_method_4_code 30 = .ok (.invokevirtual 53, 3) := by decide +kernel
theorem q_MM_feed_30 : jlm lw_tbl 2368 "ChessHouseModel" 53 ⟨"ChessHouseModel", "lay", "(I)V"⟩ = true := by decide +kernel
theorem d_MM_feed_35 : decode prog_15_method_4_code 35 = .ok (.invokevirtual 53, 3) := by decide +kernel
theorem q_MM_feed_35 : jlm lw_tbl 2368 "ChessHouseModel" 53 ⟨"ChessHouseModel", "lay", "(I)V"⟩ = true := by decide +kernel
theorem d_MM_feed_40 : decode prog_15_method_4_code 40 = .ok (.invokevirtual 53, 3) := by decide +kernel
theorem q_MM_feed_40 : jlm lw_tbl 2368 "ChessHouseModel" 53 ⟨"ChessHouseModel", "lay", "(I)V"⟩ = true := by decide +kernel
theorem d_MM_feed_46 : decode prog_15_method_4_code 46 = .ok (.invokevirtual 53, 3) := by decide +kernel
theorem q_MM_feed_46 : jlm lw_tbl 2368 "ChessHouseModel" 53 ⟨"ChessHouseModel", "lay", "(I)V"⟩ = true := by decide +kernel
theorem d_MM_feed_52 : decode prog_15_method_4_code 52 = .ok (.invokevirtual 53, 3) := by decide +kernel
theorem q_MM_feed_52 : jlm lw_tbl 2368 "ChessHouseModel" 53 ⟨"ChessHouseModel", "lay", "(I)V"⟩ = true := by decide +kernel
theorem d_MM_feed_55 : decode prog_15_method_4_code 55 = .ok (.return_, 1) := by decide +kernel
def y_MM_size : jY := (⟨"ChessHouseModel", "size", "()I"⟩, prog_15_method_7_code, 1, (some .int))
theorem m_MM_size : jmth lw_tbl y_MM_size 0 := ⟨jTA_in (wi := 3292) (by decide +kernel) rfl, jTA_in (wi := 314) (by decide +kernel) rfl, by decide, by decide, by decide +kernel⟩
theorem i_MM_size : Jvm.Cond.instanceMethod y_MM_size.1 ∈ jTA lw_tbl := jTA_in (wi := 3290) (by decide +kernel) rfl
theorem e_MM_size : Jvm.Cond.selects y_MM_size.1.cls y_MM_size.1 y_MM_size.1 ∈ jTA lw_tbl := jTA_in (wi := 3291) (by decide +kernel) rfl
def k_MM_size_0 : List jI := [(.aload_n 0, 1, (0, 0, 0, 0, 0)), (.iconst 0, 1, (0, 0, 0, 0, 0)), (.putfield 46, 3, (11, 0, 2302, 0, 0)), (.aload_n 0, 1, (0, 0, 0, 0, 0)), (.getfield 57, 3, (11, 3, 2305, 0, 0))]
theorem o_MM_size_0 : jokL "ChessHouseModel" lw_tbl jcl jtb 1 false prog_15_method_7_code 0 k_MM_size_0 = true := by decide +kernel
theorem d_MM_size_9 : decode prog_15_method_7_code 9 = .ok (.ireturn, 1) := by decide +kernel
def y_MM_out : jY := (⟨"ChessHouseModel", "out", "(I)I"⟩, prog_15_method_8_code, 2, (some .int))
theorem m_MM_out : jmth lw_tbl y_MM_out 1 := ⟨jTA_in (wi := 3296) (by decide +kernel) rfl, jTA_in (wi := 314) (by decide +kernel) rfl, by decide, by decide, by decide +kernel⟩
theorem i_MM_out : Jvm.Cond.instanceMethod y_MM_out.1 ∈ jTA lw_tbl := jTA_in (wi := 3294) (by decide +kernel) rfl
theorem e_MM_out : Jvm.Cond.selects y_MM_out.1.cls y_MM_out.1 y_MM_out.1 ∈ jTA lw_tbl := jTA_in (wi := 3295) (by decide +kernel) rfl
def k_MM_out_0 : List jI := [(.aload_n 0, 1, (0, 0, 0, 0, 0)), (.iload_n 1, 1, (1, 0, 0, 0, 0)), (.ifCond .lt 11, 3, (13, 0, 0, 0, 0)), (.iload_n 1, 1, (1, 0, 0, 0, 0)), (.aload_n 0, 1, (0, 0, 0, 0, 0)), (.getfield 57, 3, (11, 3, 2305, 0, 0)), (.if_icmp .lt 7, 3, (17, 0, 0, 0, 0)), (.iconst 1, 1, (0, 0, 0, 1, 0)), (.goto 4, 3, (18, 0, 0, 0, 0))]
theorem o_MM_out_0 : jokL "ChessHouseModel" lw_tbl jcl jtb 2 false prog_15_method_8_code 0 k_MM_out_0 = true := by decide +kernel
def k_MM_out_13 : List jI := [(.iconst 1, 1, (0, 0, 0, 1, 0)), (.goto 4, 3, (18, 0, 0, 0, 0))]
theorem o_MM_out_13 : jokL "ChessHouseModel" lw_tbl jcl jtb 2 false prog_15_method_8_code 13 k_MM_out_13 = true := by decide +kernel
def k_MM_out_17 : List jI := [(.iconst 0, 1, (0, 0, 0, 0, 0)), (.putfield 46, 3, (11, 0, 2302, 0, 0)), (.aload_n 0, 1, (0, 0, 0, 0, 0)), (.getfield 46, 3, (11, 0, 2302, 0, 0)), (.ifCond .le 7, 3, (32, 0, 0, 0, 0)), (.iconst 0, 1, (0, 0, 0, 0, 0)), (.goto 13, 3, (42, 0, 0, 0, 0))]
theorem o_MM_out_17 : jokL "ChessHouseModel" lw_tbl jcl jtb 2 false prog_15_method_8_code 17 k_MM_out_17 = true := by decide +kernel
def k_MM_out_18 : List jI := [(.putfield 46, 3, (11, 0, 2302, 0, 0)), (.aload_n 0, 1, (0, 0, 0, 0, 0)), (.getfield 46, 3, (11, 0, 2302, 0, 0)), (.ifCond .le 7, 3, (32, 0, 0, 0, 0)), (.iconst 0, 1, (0, 0, 0, 0, 0)), (.goto 13, 3, (42, 0, 0, 0, 0))]
theorem o_MM_out_18 : jokL "ChessHouseModel" lw_tbl jcl jtb 2 false prog_15_method_8_code 18 k_MM_out_18 = true := by decide +kernel
def k_MM_out_32 : List jI := [(.aload_n 0, 1, (0, 0, 0, 0, 0)), (.getfield 14, 3, (11, 4, 2306, 0, 0)), (.iload_n 1, 1, (1, 0, 0, 0, 0)), (.baload, 1, (0, 0, 0, 0, 0)), (.sipush 255, 3, (0, 0, 0, 255, 0)), (.iand, 1, (0, 0, 0, 0, 0))]
theorem o_MM_out_32 : jokL "ChessHouseModel" lw_tbl jcl jtb 2 false prog_15_method_8_code 32 k_MM_out_32 = true := by decide +kernel
theorem d_MM_out_42 : decode prog_15_method_8_code 42 = .ok (.ireturn, 1) := by decide +kernel
def y_MM_thrown : jY := (⟨"ChessHouseModel", "thrown", "()I"⟩, prog_15_method_2_code, 1, (some .int))
theorem m_MM_thrown : jmth lw_tbl y_MM_thrown 0 := ⟨jTA_in (wi := 2363) (by decide +kernel) rfl, jTA_in (wi := 314) (by decide +kernel) rfl, by decide, by decide, by decide +kernel⟩
theorem i_MM_thrown : Jvm.Cond.instanceMethod y_MM_thrown.1 ∈ jTA lw_tbl := jTA_in (wi := 2361) (by decide +kernel) rfl
theorem e_MM_thrown : Jvm.Cond.selects y_MM_thrown.1.cls y_MM_thrown.1 y_MM_thrown.1 ∈ jTA lw_tbl := jTA_in (wi := 2362) (by decide +kernel) rfl
def k_MM_thrown_0 : List jI := [(.aload_n 0, 1, (0, 0, 0, 0, 0)), (.getfield 46, 3, (11, 0, 2302, 0, 0))]
theorem o_MM_thrown_0 : jokL "ChessHouseModel" lw_tbl jcl jtb 1 false prog_15_method_2_code 0 k_MM_thrown_0 = true := by decide +kernel
theorem d_MM_thrown_4 : decode prog_15_method_2_code 4 = .ok (.ireturn, 1) := by decide +kernel
def y_MM_end : jY := (⟨"ChessHouseModel", "end", "(I)I"⟩, prog_15_method_5_code, 2, (some .int))
theorem m_MM_end : jmth lw_tbl y_MM_end 1 := ⟨jTA_in (wi := 2375) (by decide +kernel) rfl, jTA_in (wi := 314) (by decide +kernel) rfl, by decide, by decide, by decide +kernel⟩
theorem i_MM_end : Jvm.Cond.instanceMethod y_MM_end.1 ∈ jTA lw_tbl := jTA_in (wi := 2373) (by decide +kernel) rfl
theorem e_MM_end : Jvm.Cond.selects y_MM_end.1.cls y_MM_end.1 y_MM_end.1 ∈ jTA lw_tbl := jTA_in (wi := 2374) (by decide +kernel) rfl
def k_MM_end_0 : List jI := [(.aload_n 0, 1, (0, 0, 0, 0, 0)), (.iload_n 1, 1, (1, 0, 0, 0, 0)), (.ifCond .lt 11, 3, (13, 0, 0, 0, 0)), (.iload_n 1, 1, (1, 0, 0, 0, 0)), (.aload_n 0, 1, (0, 0, 0, 0, 0)), (.getfield 50, 3, (11, 1, 2303, 0, 0)), (.if_icmp .le 7, 3, (17, 0, 0, 0, 0)), (.iconst 1, 1, (0, 0, 0, 1, 0)), (.goto 4, 3, (18, 0, 0, 0, 0))]
theorem o_MM_end_0 : jokL "ChessHouseModel" lw_tbl jcl jtb 2 false prog_15_method_5_code 0 k_MM_end_0 = true := by decide +kernel
def k_MM_end_13 : List jI := [(.iconst 1, 1, (0, 0, 0, 1, 0)), (.goto 4, 3, (18, 0, 0, 0, 0))]
theorem o_MM_end_13 : jokL "ChessHouseModel" lw_tbl jcl jtb 2 false prog_15_method_5_code 13 k_MM_end_13 = true := by decide +kernel
def k_MM_end_17 : List jI := [(.iconst 0, 1, (0, 0, 0, 0, 0)), (.putfield 46, 3, (11, 0, 2302, 0, 0)), (.aload_n 0, 1, (0, 0, 0, 0, 0)), (.getfield 46, 3, (11, 0, 2302, 0, 0)), (.ifCond .le 5, 3, (30, 0, 0, 0, 0)), (.iconst 0, 1, (0, 0, 0, 0, 0))]
theorem o_MM_end_17 : jokL "ChessHouseModel" lw_tbl jcl jtb 2 false prog_15_method_5_code 17 k_MM_end_17 = true := by decide +kernel
def k_MM_end_18 : List jI := [(.putfield 46, 3, (11, 0, 2302, 0, 0)), (.aload_n 0, 1, (0, 0, 0, 0, 0)), (.getfield 46, 3, (11, 0, 2302, 0, 0)), (.ifCond .le 5, 3, (30, 0, 0, 0, 0)), (.iconst 0, 1, (0, 0, 0, 0, 0))]
theorem o_MM_end_18 : jokL "ChessHouseModel" lw_tbl jcl jtb 2 false prog_15_method_5_code 18 k_MM_end_18 = true := by decide +kernel
def k_MM_end_30 : List jI := [(.aload_n 0, 1, (0, 0, 0, 0, 0)), (.iconst 0, 1, (0, 0, 0, 0, 0)), (.putfield 57, 3, (11, 3, 2305, 0, 0)), (.aload_n 0, 1, (0, 0, 0, 0, 0)), (.iconst 0, 1, (0, 0, 0, 0, 0)), (.putfield 60, 3, (11, 12, 2314, 0, 0)), (.aload_n 0, 1, (0, 0, 0, 0, 0)), (.iconst 0, 1, (0, 0, 0, 0, 0)), (.putfield 63, 3, (11, 10, 2312, 0, 0)), (.aload_n 0, 1, (0, 0, 0, 0, 0)), (.iload_n 1, 1, (1, 0, 0, 0, 0)), (.putfield 66, 3, (11, 11, 2313, 0, 0))]
theorem o_MM_end_30 : jokL "ChessHouseModel" lw_tbl jcl jtb 2 false prog_15_method_5_code 30 k_MM_end_30 = true := by decide +kernel
def k_MM_end_50 : List jI := [(.aload_n 0, 1, (0, 0, 0, 0, 0)), (.getfield 63, 3, (11, 10, 2312, 0, 0)), (.aload_n 0, 1, (0, 0, 0, 0, 0)), (.getfield 66, 3, (11, 11, 2313, 0, 0)), (.if_icmp .ge 25, 3, (83, 0, 0, 0, 0)), (.aload_n 0, 1, (0, 0, 0, 0, 0))]
theorem o_MM_end_50 : jokL "ChessHouseModel" lw_tbl jcl jtb 2 false prog_15_method_5_code 50 k_MM_end_50 = true := by decide +kernel
def k_MM_end_65 : List jI := [(.aload_n 0, 1, (0, 0, 0, 0, 0)), (.getfield 72, 3, (11, 9, 2311, 0, 0)), (.aload_n 0, 1, (0, 0, 0, 0, 0)), (.getfield 75, 3, (11, 8, 2310, 0, 0)), (.if_icmp .le (-23), 3, (50, 0, 0, 0, 0)), (.aload_n 0, 1, (0, 0, 0, 0, 0))]
theorem o_MM_end_65 : jokL "ChessHouseModel" lw_tbl jcl jtb 2 false prog_15_method_5_code 65 k_MM_end_65 = true := by decide +kernel
def k_MM_end_80 : List jI := [(.goto (-30), 3, (50, 0, 0, 0, 0))]
theorem o_MM_end_80 : jokL "ChessHouseModel" lw_tbl jcl jtb 2 false prog_15_method_5_code 80 k_MM_end_80 = true := by decide +kernel
def k_MM_end_83 : List jI := [(.aload_n 0, 1, (0, 0, 0, 0, 0)), (.iconst 0, 1, (0, 0, 0, 0, 0)), (.putfield 50, 3, (11, 1, 2303, 0, 0)), (.aload_n 0, 1, (0, 0, 0, 0, 0)), (.getfield 60, 3, (11, 12, 2314, 0, 0))]
theorem o_MM_end_83 : jokL "ChessHouseModel" lw_tbl jcl jtb 2 false prog_15_method_5_code 83 k_MM_end_83 = true := by decide +kernel
theorem d_MM_end_29 : decode prog_15_method_5_code 29 = .ok (.ireturn, 1) := by decide +kernel
theorem d_MM_end_62 : decode prog_15_method_5_code 62 = .ok (.invokevirtual 69, 3) := by decide +kernel
theorem q_MM_end_62 : jlm lw_tbl 2376 "ChessHouseModel" 69 ⟨"ChessHouseModel", "takeLine", "()V"⟩ = true := by decide +kernel
theorem d_MM_end_77 : decode prog_15_method_5_code 77 = .ok (.invokevirtual 78, 3) := by decide +kernel
theorem q_MM_end_77 : jlm lw_tbl 2380 "ChessHouseModel" 78 ⟨"ChessHouseModel", "command", "()V"⟩ = true := by decide +kernel
theorem d_MM_end_92 : decode prog_15_method_5_code 92 = .ok (.ireturn, 1) := by decide +kernel
