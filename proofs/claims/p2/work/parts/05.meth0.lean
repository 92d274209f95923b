def y_AR_rangeCheck : jY := (⟨"java/util/Arrays", "rangeCheck", "(III)V"⟩, prog_32_method_30_code, 3, none)
theorem m_AR_rangeCheck : jmth lw_tbl y_AR_rangeCheck 3 := ⟨jTA_in (wi := 633) (jtF_ok rfl) rfl, jTA_in (wi := 313) (jtF_ok rfl) rfl, by decide, by decide, by decide +kernel⟩
theorem s_AR_rangeCheck : Jvm.Cond.static y_AR_rangeCheck.1 ∈ jTA lw_tbl := jTA_in (wi := 632) (jtF_ok rfl) rfl
def kk_AR_rangeCheck_0 : List jI := [(.iload_n 1, 1, (1, 0, 0, 0, 0)), (.iload_n 2, 1, (2, 0, 0, 0, 0)), (.if_icmp .le 44, 3, (46, 0, 0, 0, 0)), (.new 43, 3, (0, 0, 0, 0, 0)), (.dup, 1, (0, 0, 0, 0, 0)), (.new 45, 3, (0, 0, 0, 0, 0)), (.dup, 1, (0, 0, 0, 0, 0)), (.invokespecial 47, 3, (0, 0, 0, 0, 0))]
theorem oo_AR_rangeCheck_0 : jokL "java/util/Arrays" lw_tbl jcl jtb 3 false prog_32_method_30_code 0 kk_AR_rangeCheck_0 = true := by decide +kernel
def kk_AR_rangeCheck_18 : List jI := [(.invokevirtual 50, 3, (0, 0, 0, 0, 0)), (.iload_n 1, 1, (1, 0, 0, 0, 0)), (.invokevirtual 54, 3, (0, 0, 0, 0, 0))]
theorem oo_AR_rangeCheck_18 : jokL "java/util/Arrays" lw_tbl jcl jtb 3 false prog_32_method_30_code 18 kk_AR_rangeCheck_18 = true := by decide +kernel
def kk_AR_rangeCheck_27 : List jI := [(.invokevirtual 50, 3, (0, 0, 0, 0, 0)), (.iload_n 2, 1, (2, 0, 0, 0, 0)), (.invokevirtual 54, 3, (0, 0, 0, 0, 0))]
theorem oo_AR_rangeCheck_27 : jokL "java/util/Arrays" lw_tbl jcl jtb 3 false prog_32_method_30_code 27 kk_AR_rangeCheck_27 = true := by decide +kernel
def kk_AR_rangeCheck_36 : List jI := [(.invokevirtual 50, 3, (0, 0, 0, 0, 0)), (.invokevirtual 61, 3, (0, 0, 0, 0, 0)), (.invokespecial 65, 3, (0, 0, 0, 0, 0)), (.athrow, 1, (0, 0, 0, 0, 0)), (.iload_n 1, 1, (1, 0, 0, 0, 0)), (.ifCond .ge 12, 3, (59, 0, 0, 0, 0)), (.new 68, 3, (0, 0, 0, 0, 0)), (.dup, 1, (0, 0, 0, 0, 0)), (.iload_n 1, 1, (1, 0, 0, 0, 0)), (.invokespecial 70, 3, (0, 0, 0, 0, 0)), (.athrow, 1, (0, 0, 0, 0, 0)), (.iload_n 2, 1, (2, 0, 0, 0, 0)), (.iload_n 0, 1, (0, 0, 0, 0, 0)), (.if_icmp .le 12, 3, (73, 0, 0, 0, 0)), (.new 68, 3, (0, 0, 0, 0, 0)), (.dup, 1, (0, 0, 0, 0, 0)), (.iload_n 2, 1, (2, 0, 0, 0, 0)), (.invokespecial 70, 3, (0, 0, 0, 0, 0)), (.athrow, 1, (0, 0, 0, 0, 0)), (.return_, 1, (0, 0, 0, 0, 0))]
theorem oo_AR_rangeCheck_36 : jokL "java/util/Arrays" lw_tbl jcl jtb 3 false prog_32_method_30_code 36 kk_AR_rangeCheck_36 = true := by decide +kernel
def k_AR_rangeCheck_0 : List jI := [(.iload_n 1, 1, (1, 0, 0, 0, 0)), (.iload_n 2, 1, (2, 0, 0, 0, 0)), (.if_icmp .le 44, 3, (46, 0, 0, 0, 0))]
theorem o_AR_rangeCheck_0 : jokL "java/util/Arrays" lw_tbl jcl jtb 3 false prog_32_method_30_code 0 k_AR_rangeCheck_0 = true := jok_sub oo_AR_rangeCheck_0 0 3 rfl rfl
def k_AR_rangeCheck_8 : List jI := [(.dup, 1, (0, 0, 0, 0, 0))]
theorem o_AR_rangeCheck_8 : jokL "java/util/Arrays" lw_tbl jcl jtb 3 false prog_32_method_30_code 8 k_AR_rangeCheck_8 = true := jok_sub oo_AR_rangeCheck_0 4 1 rfl rfl
def k_AR_rangeCheck_12 : List jI := [(.dup, 1, (0, 0, 0, 0, 0))]
theorem o_AR_rangeCheck_12 : jokL "java/util/Arrays" lw_tbl jcl jtb 3 false prog_32_method_30_code 12 k_AR_rangeCheck_12 = true := jok_sub oo_AR_rangeCheck_0 6 1 rfl rfl
def k_AR_rangeCheck_21 : List jI := [(.iload_n 1, 1, (1, 0, 0, 0, 0))]
theorem o_AR_rangeCheck_21 : jokL "java/util/Arrays" lw_tbl jcl jtb 3 false prog_32_method_30_code 21 k_AR_rangeCheck_21 = true := jok_sub oo_AR_rangeCheck_18 1 1 rfl rfl
def k_AR_rangeCheck_30 : List jI := [(.iload_n 2, 1, (2, 0, 0, 0, 0))]
theorem o_AR_rangeCheck_30 : jokL "java/util/Arrays" lw_tbl jcl jtb 3 false prog_32_method_30_code 30 k_AR_rangeCheck_30 = true := jok_sub oo_AR_rangeCheck_27 1 1 rfl rfl
def k_AR_rangeCheck_46 : List jI := [(.iload_n 1, 1, (1, 0, 0, 0, 0)), (.ifCond .ge 12, 3, (59, 0, 0, 0, 0))]
theorem o_AR_rangeCheck_46 : jokL "java/util/Arrays" lw_tbl jcl jtb 3 false prog_32_method_30_code 46 k_AR_rangeCheck_46 = true := jok_sub oo_AR_rangeCheck_36 4 2 rfl rfl
def k_AR_rangeCheck_53 : List jI := [(.dup, 1, (0, 0, 0, 0, 0)), (.iload_n 1, 1, (1, 0, 0, 0, 0))]
theorem o_AR_rangeCheck_53 : jokL "java/util/Arrays" lw_tbl jcl jtb 3 false prog_32_method_30_code 53 k_AR_rangeCheck_53 = true := jok_sub oo_AR_rangeCheck_36 7 2 rfl rfl
def k_AR_rangeCheck_59 : List jI := [(.iload_n 2, 1, (2, 0, 0, 0, 0)), (.iload_n 0, 1, (0, 0, 0, 0, 0)), (.if_icmp .le 12, 3, (73, 0, 0, 0, 0))]
theorem o_AR_rangeCheck_59 : jokL "java/util/Arrays" lw_tbl jcl jtb 3 false prog_32_method_30_code 59 k_AR_rangeCheck_59 = true := jok_sub oo_AR_rangeCheck_36 11 3 rfl rfl
def k_AR_rangeCheck_67 : List jI := [(.dup, 1, (0, 0, 0, 0, 0)), (.iload_n 2, 1, (2, 0, 0, 0, 0))]
theorem o_AR_rangeCheck_67 : jokL "java/util/Arrays" lw_tbl jcl jtb 3 false prog_32_method_30_code 67 k_AR_rangeCheck_67 = true := jok_sub oo_AR_rangeCheck_36 15 2 rfl rfl
theorem d_AR_rangeCheck_5 : decode prog_32_method_30_code 5 = .ok (.new 43, 3) := by decide +kernel
theorem d_AR_rangeCheck_9 : decode prog_32_method_30_code 9 = .ok (.new 45, 3) := by decide +kernel
theorem d_AR_rangeCheck_13 : decode prog_32_method_30_code 13 = .ok (.invokespecial 47, 3) := by decide +kernel
theorem d_AR_rangeCheck_18 : decode prog_32_method_30_code 18 = .ok (.invokevirtual 50, 3) := by decide +kernel
theorem d_AR_rangeCheck_22 : decode prog_32_method_30_code 22 = .ok (.invokevirtual 54, 3) := by decide +kernel
theorem d_AR_rangeCheck_27 : decode prog_32_method_30_code 27 = .ok (.invokevirtual 50, 3) := by decide +kernel
theorem d_AR_rangeCheck_31 : decode prog_32_method_30_code 31 = .ok (.invokevirtual 54, 3) := by decide +kernel
theorem d_AR_rangeCheck_36 : decode prog_32_method_30_code 36 = .ok (.invokevirtual 50, 3) := by decide +kernel
theorem d_AR_rangeCheck_39 : decode prog_32_method_30_code 39 = .ok (.invokevirtual 61, 3) := by decide +kernel
theorem d_AR_rangeCheck_42 : decode prog_32_method_30_code 42 = .ok (.invokespecial 65, 3) := by decide +kernel
theorem d_AR_rangeCheck_45 : decode prog_32_method_30_code 45 = .ok (.athrow, 1) := by decide +kernel
theorem d_AR_rangeCheck_50 : decode prog_32_method_30_code 50 = .ok (.new 68, 3) := by decide +kernel
theorem d_AR_rangeCheck_55 : decode prog_32_method_30_code 55 = .ok (.invokespecial 70, 3) := by decide +kernel
theorem d_AR_rangeCheck_58 : decode prog_32_method_30_code 58 = .ok (.athrow, 1) := by decide +kernel
theorem d_AR_rangeCheck_64 : decode prog_32_method_30_code 64 = .ok (.new 68, 3) := by decide +kernel
theorem d_AR_rangeCheck_69 : decode prog_32_method_30_code 69 = .ok (.invokespecial 70, 3) := by decide +kernel
theorem d_AR_rangeCheck_72 : decode prog_32_method_30_code 72 = .ok (.athrow, 1) := by decide +kernel
theorem d_AR_rangeCheck_73 : decode prog_32_method_30_code 73 = .ok (.return_, 1) := by decide +kernel
def y_AR_fill2 : jY := (⟨"java/util/Arrays", "fill", "([II)V"⟩, prog_32_method_103_code, 4, none)
theorem m_AR_fill2 : jmth lw_tbl y_AR_fill2 2 := ⟨jTA_in (wi := 650) (jtF_ok rfl) rfl, jTA_in (wi := 313) (jtF_ok rfl) rfl, by decide, by decide, by decide +kernel⟩
theorem s_AR_fill2 : Jvm.Cond.static y_AR_fill2.1 ∈ jTA lw_tbl := jTA_in (wi := 649) (jtF_ok rfl) rfl
def kk_AR_fill2_0 : List jI := [(.iconst 0, 1, (0, 0, 0, 0, 0)), (.istore_n 2, 1, (2, 0, 0, 0, 0)), (.aload_n 0, 1, (0, 0, 0, 0, 0)), (.arraylength, 1, (0, 0, 0, 0, 0)), (.istore_n 3, 1, (3, 0, 0, 0, 0)), (.iload_n 2, 1, (2, 0, 0, 0, 0)), (.iload_n 3, 1, (3, 0, 0, 0, 0)), (.if_icmp .ge 13, 3, (20, 0, 0, 0, 0)), (.aload_n 0, 1, (0, 0, 0, 0, 0)), (.iload_n 2, 1, (2, 0, 0, 0, 0)), (.iload_n 1, 1, (1, 0, 0, 0, 0)), (.iastore, 1, (0, 0, 0, 0, 0)), (.iinc 2 1, 3, (0, 0, 0, 1, 0)), (.goto (-12), 3, (5, 0, 0, 0, 0)), (.return_, 1, (0, 0, 0, 0, 0))]
theorem oo_AR_fill2_0 : jokL "java/util/Arrays" lw_tbl jcl jtb 4 false prog_32_method_103_code 0 kk_AR_fill2_0 = true := by decide +kernel
def k_AR_fill2_0 : List jI := [(.iconst 0, 1, (0, 0, 0, 0, 0)), (.istore_n 2, 1, (2, 0, 0, 0, 0)), (.aload_n 0, 1, (0, 0, 0, 0, 0)), (.arraylength, 1, (0, 0, 0, 0, 0)), (.istore_n 3, 1, (3, 0, 0, 0, 0))]
theorem o_AR_fill2_0 : jokL "java/util/Arrays" lw_tbl jcl jtb 4 false prog_32_method_103_code 0 k_AR_fill2_0 = true := jok_sub oo_AR_fill2_0 0 5 rfl rfl
def k_AR_fill2_5 : List jI := [(.iload_n 2, 1, (2, 0, 0, 0, 0)), (.iload_n 3, 1, (3, 0, 0, 0, 0)), (.if_icmp .ge 13, 3, (20, 0, 0, 0, 0)), (.aload_n 0, 1, (0, 0, 0, 0, 0)), (.iload_n 2, 1, (2, 0, 0, 0, 0)), (.iload_n 1, 1, (1, 0, 0, 0, 0)), (.iastore, 1, (0, 0, 0, 0, 0)), (.iinc 2 1, 3, (0, 0, 0, 1, 0)), (.goto (-12), 3, (5, 0, 0, 0, 0))]
theorem o_AR_fill2_5 : jokL "java/util/Arrays" lw_tbl jcl jtb 4 false prog_32_method_103_code 5 k_AR_fill2_5 = true := jok_sub oo_AR_fill2_0 5 9 rfl rfl
theorem d_AR_fill2_20 : decode prog_32_method_103_code 20 = .ok (.return_, 1) := by decide +kernel
def y_AR_fill3 : jY := (⟨"java/util/Arrays", "fill", "([JJ)V"⟩, prog_32_method_101_code, 5, none)
theorem m_AR_fill3 : jmth lw_tbl y_AR_fill3 2 := ⟨jTA_in (wi := 653) (jtF_ok rfl) rfl, jTA_in (wi := 313) (jtF_ok rfl) rfl, by decide, by decide, by decide +kernel⟩
theorem s_AR_fill3 : Jvm.Cond.static y_AR_fill3.1 ∈ jTA lw_tbl := jTA_in (wi := 652) (jtF_ok rfl) rfl
def kk_AR_fill3_0 : List jI := [(.iconst 0, 1, (0, 0, 0, 0, 0)), (.istore_n 3, 1, (3, 0, 0, 0, 0)), (.aload_n 0, 1, (0, 0, 0, 0, 0)), (.arraylength, 1, (0, 0, 0, 0, 0)), (.istore 4, 2, (4, 0, 0, 0, 0)), (.iload_n 3, 1, (3, 0, 0, 0, 0)), (.iload 4, 2, (4, 0, 0, 0, 0)), (.if_icmp .ge 13, 3, (22, 0, 0, 0, 0)), (.aload_n 0, 1, (0, 0, 0, 0, 0)), (.iload_n 3, 1, (3, 0, 0, 0, 0)), (.lload_n 1, 1, (1, 0, 0, 0, 0)), (.lastore, 1, (0, 0, 0, 0, 0)), (.iinc 3 1, 3, (0, 0, 0, 1, 0)), (.goto (-13), 3, (6, 0, 0, 0, 0)), (.return_, 1, (0, 0, 0, 0, 0))]
theorem oo_AR_fill3_0 : jokL "java/util/Arrays" lw_tbl jcl jtb 5 false prog_32_method_101_code 0 kk_AR_fill3_0 = true := by decide +kernel
def k_AR_fill3_0 : List jI := [(.iconst 0, 1, (0, 0, 0, 0, 0)), (.istore_n 3, 1, (3, 0, 0, 0, 0)), (.aload_n 0, 1, (0, 0, 0, 0, 0)), (.arraylength, 1, (0, 0, 0, 0, 0)), (.istore 4, 2, (4, 0, 0, 0, 0))]
theorem o_AR_fill3_0 : jokL "java/util/Arrays" lw_tbl jcl jtb 5 false prog_32_method_101_code 0 k_AR_fill3_0 = true := jok_sub oo_AR_fill3_0 0 5 rfl rfl
def k_AR_fill3_6 : List jI := [(.iload_n 3, 1, (3, 0, 0, 0, 0)), (.iload 4, 2, (4, 0, 0, 0, 0)), (.if_icmp .ge 13, 3, (22, 0, 0, 0, 0)), (.aload_n 0, 1, (0, 0, 0, 0, 0)), (.iload_n 3, 1, (3, 0, 0, 0, 0)), (.lload_n 1, 1, (1, 0, 0, 0, 0)), (.lastore, 1, (0, 0, 0, 0, 0)), (.iinc 3 1, 3, (0, 0, 0, 1, 0)), (.goto (-13), 3, (6, 0, 0, 0, 0))]
theorem o_AR_fill3_6 : jokL "java/util/Arrays" lw_tbl jcl jtb 5 false prog_32_method_101_code 6 k_AR_fill3_6 = true := jok_sub oo_AR_fill3_0 5 9 rfl rfl
theorem d_AR_fill3_22 : decode prog_32_method_101_code 22 = .ok (.return_, 1) := by decide +kernel
def y_AR_fill : jY := (⟨"java/util/Arrays", "fill", "([IIII)V"⟩, prog_32_method_104_code, 5, none)
theorem m_AR_fill : jmth lw_tbl y_AR_fill 4 := ⟨jTA_in (wi := 630) (jtF_ok rfl) rfl, jTA_in (wi := 313) (jtF_ok rfl) rfl, by decide, by decide, by decide +kernel⟩
theorem s_AR_fill : Jvm.Cond.static y_AR_fill.1 ∈ jTA lw_tbl := jTA_in (wi := 629) (jtF_ok rfl) rfl
def kk_AR_fill_0 : List jI := [(.aload_n 0, 1, (0, 0, 0, 0, 0)), (.arraylength, 1, (0, 0, 0, 0, 0)), (.iload_n 1, 1, (1, 0, 0, 0, 0)), (.iload_n 2, 1, (2, 0, 0, 0, 0)), (.invokestatic 13, 3, (0, 0, 0, 0, 0)), (.iload_n 1, 1, (1, 0, 0, 0, 0)), (.istore 4, 2, (4, 0, 0, 0, 0)), (.iload 4, 2, (4, 0, 0, 0, 0)), (.iload_n 2, 1, (2, 0, 0, 0, 0)), (.if_icmp .ge 14, 3, (27, 0, 0, 0, 0)), (.aload_n 0, 1, (0, 0, 0, 0, 0)), (.iload 4, 2, (4, 0, 0, 0, 0)), (.iload_n 3, 1, (3, 0, 0, 0, 0)), (.iastore, 1, (0, 0, 0, 0, 0)), (.iinc 4 1, 3, (0, 0, 0, 1, 0)), (.goto (-14), 3, (10, 0, 0, 0, 0)), (.return_, 1, (0, 0, 0, 0, 0))]
theorem oo_AR_fill_0 : jokL "java/util/Arrays" lw_tbl jcl jtb 5 false prog_32_method_104_code 0 kk_AR_fill_0 = true := by decide +kernel
def k_AR_fill_0 : List jI := [(.aload_n 0, 1, (0, 0, 0, 0, 0)), (.arraylength, 1, (0, 0, 0, 0, 0)), (.iload_n 1, 1, (1, 0, 0, 0, 0)), (.iload_n 2, 1, (2, 0, 0, 0, 0))]
theorem o_AR_fill_0 : jokL "java/util/Arrays" lw_tbl jcl jtb 5 false prog_32_method_104_code 0 k_AR_fill_0 = true := jok_sub oo_AR_fill_0 0 4 rfl rfl
def k_AR_fill_7 : List jI := [(.iload_n 1, 1, (1, 0, 0, 0, 0)), (.istore 4, 2, (4, 0, 0, 0, 0))]
theorem o_AR_fill_7 : jokL "java/util/Arrays" lw_tbl jcl jtb 5 false prog_32_method_104_code 7 k_AR_fill_7 = true := jok_sub oo_AR_fill_0 5 2 rfl rfl
def k_AR_fill_10 : List jI := [(.iload 4, 2, (4, 0, 0, 0, 0)), (.iload_n 2, 1, (2, 0, 0, 0, 0)), (.if_icmp .ge 14, 3, (27, 0, 0, 0, 0)), (.aload_n 0, 1, (0, 0, 0, 0, 0)), (.iload 4, 2, (4, 0, 0, 0, 0)), (.iload_n 3, 1, (3, 0, 0, 0, 0)), (.iastore, 1, (0, 0, 0, 0, 0)), (.iinc 4 1, 3, (0, 0, 0, 1, 0)), (.goto (-14), 3, (10, 0, 0, 0, 0))]
theorem o_AR_fill_10 : jokL "java/util/Arrays" lw_tbl jcl jtb 5 false prog_32_method_104_code 10 k_AR_fill_10 = true := jok_sub oo_AR_fill_0 7 9 rfl rfl
theorem d_AR_fill_4 : decode prog_32_method_104_code 4 = .ok (.invokestatic 13, 3) := by decide +kernel
theorem q_AR_fill_4 : jlm lw_tbl 631 "java/util/Arrays" 13 ⟨"java/util/Arrays", "rangeCheck", "(III)V"⟩ = true := jlm_of (Or.inl (jtF_ok rfl))
theorem d_AR_fill_27 : decode prog_32_method_104_code 27 = .ok (.return_, 1) := by decide +kernel
def y_BY_init : jY := (⟨"ChessHouse$Bytes", "<init>", "(I)V"⟩, prog_4_method_1_code, 2, none)
theorem m_BY_init : jmth lw_tbl y_BY_init 1 := ⟨jTA_in (wi := 348) (jtF_ok rfl) rfl, jTA_in (wi := 303) (jtF_ok rfl) rfl, by decide, by decide, by decide +kernel⟩
theorem i_BY_init : Jvm.Cond.instanceMethod y_BY_init.1 ∈ jTA lw_tbl := jTA_in (wi := 347) (jtF_ok rfl) rfl
def kk_BY_init_0 : List jI := [(.aload_n 0, 1, (0, 0, 0, 0, 0)), (.invokespecial 3, 3, (0, 0, 0, 0, 0)), (.aload_n 0, 1, (0, 0, 0, 0, 0)), (.iload_n 1, 1, (1, 0, 0, 0, 0)), (.newarray .byte, 2, (0, 0, 0, 0, 0)), (.putfield 9, 3, (1, 0, 350, 3, 0)), (.return_, 1, (0, 0, 0, 0, 0))]
theorem oo_BY_init_0 : jokL "ChessHouse$Bytes" lw_tbl jcl jtb 2 true prog_4_method_1_code 0 kk_BY_init_0 = true := by decide +kernel
def k_BY_init_0 : List jI := [(.aload_n 0, 1, (0, 0, 0, 0, 0))]
theorem o_BY_init_0 : jokL "ChessHouse$Bytes" lw_tbl jcl jtb 2 true prog_4_method_1_code 0 k_BY_init_0 = true := jok_sub oo_BY_init_0 0 1 rfl rfl
def k_BY_init_4 : List jI := [(.aload_n 0, 1, (0, 0, 0, 0, 0)), (.iload_n 1, 1, (1, 0, 0, 0, 0))]
theorem o_BY_init_4 : jokL "ChessHouse$Bytes" lw_tbl jcl jtb 2 true prog_4_method_1_code 4 k_BY_init_4 = true := jok_sub oo_BY_init_0 2 2 rfl rfl
def k_BY_init_8 : List jI := [(.putfield 9, 3, (1, 0, 350, 3, 0))]
theorem o_BY_init_8 : jokL "ChessHouse$Bytes" lw_tbl jcl jtb 2 true prog_4_method_1_code 8 k_BY_init_8 = true := jok_sub oo_BY_init_0 5 1 rfl rfl
theorem d_BY_init_1 : decode prog_4_method_1_code 1 = .ok (.invokespecial 3, 3) := by decide +kernel
theorem d_BY_init_6 : decode prog_4_method_1_code 6 = .ok (.newarray .byte, 2) := by decide +kernel
theorem d_BY_init_11 : decode prog_4_method_1_code 11 = .ok (.return_, 1) := by decide +kernel
def y_BY_clear : jY := (⟨"ChessHouse$Bytes", "clear", "()V"⟩, prog_4_method_2_code, 1, none)
theorem m_BY_clear : jmth lw_tbl y_BY_clear 0 := ⟨jTA_in (wi := 964) (jtF_ok rfl) rfl, jTA_in (wi := 303) (jtF_ok rfl) rfl, by decide, by decide, by decide +kernel⟩
theorem i_BY_clear : Jvm.Cond.instanceMethod y_BY_clear.1 ∈ jTA lw_tbl := jTA_in (wi := 962) (jtF_ok rfl) rfl
theorem e_BY_clear : Jvm.Cond.selects y_BY_clear.1.cls y_BY_clear.1 y_BY_clear.1 ∈ jTA lw_tbl := jTA_in (wi := 963) (jtF_ok rfl) rfl
def kk_BY_clear_0 : List jI := [(.aload_n 0, 1, (0, 0, 0, 0, 0)), (.iconst 0, 1, (0, 0, 0, 0, 0)), (.putfield 15, 3, (1, 1, 353, 0, 0)), (.return_, 1, (0, 0, 0, 0, 0))]
theorem oo_BY_clear_0 : jokL "ChessHouse$Bytes" lw_tbl jcl jtb 1 false prog_4_method_2_code 0 kk_BY_clear_0 = true := jokLF_ok (fun _ _ => jtF_ok) lo_BY (by decide +kernel)
def k_BY_clear_0 : List jI := [(.aload_n 0, 1, (0, 0, 0, 0, 0)), (.iconst 0, 1, (0, 0, 0, 0, 0)), (.putfield 15, 3, (1, 1, 353, 0, 0))]
theorem o_BY_clear_0 : jokL "ChessHouse$Bytes" lw_tbl jcl jtb 1 false prog_4_method_2_code 0 k_BY_clear_0 = true := jok_sub oo_BY_clear_0 0 3 rfl rfl
theorem d_BY_clear_5 : decode prog_4_method_2_code 5 = .ok (.return_, 1) := by decide +kernel
def y_WO_init : jY := (⟨"ChessHouse$Words", "<init>", "()V"⟩, prog_13_method_1_code, 1, none)
theorem m_WO_init : jmth lw_tbl y_WO_init 0 := ⟨jTA_in (wi := 366) (jtF_ok rfl) rfl, jTA_in (wi := 304) (jtF_ok rfl) rfl, by decide, by decide, by decide +kernel⟩
theorem i_WO_init : Jvm.Cond.instanceMethod y_WO_init.1 ∈ jTA lw_tbl := jTA_in (wi := 365) (jtF_ok rfl) rfl
def kk_WO_init_0 : List jI := [(.aload_n 0, 1, (0, 0, 0, 0, 0)), (.invokespecial 1, 3, (0, 0, 0, 0, 0)), (.aload_n 0, 1, (0, 0, 0, 0, 0)), (.bipush 8, 2, (0, 0, 0, 8, 0)), (.newarray .int, 2, (0, 0, 0, 0, 0)), (.putfield 7, 3, (2, 0, 368, 3, 0)), (.return_, 1, (0, 0, 0, 0, 0))]
theorem oo_WO_init_0 : jokL "ChessHouse$Words" lw_tbl jcl jtb 1 true prog_13_method_1_code 0 kk_WO_init_0 = true := by decide +kernel
def k_WO_init_0 : List jI := [(.aload_n 0, 1, (0, 0, 0, 0, 0))]
theorem o_WO_init_0 : jokL "ChessHouse$Words" lw_tbl jcl jtb 1 true prog_13_method_1_code 0 k_WO_init_0 = true := jok_sub oo_WO_init_0 0 1 rfl rfl
def k_WO_init_4 : List jI := [(.aload_n 0, 1, (0, 0, 0, 0, 0)), (.bipush 8, 2, (0, 0, 0, 8, 0))]
theorem o_WO_init_4 : jokL "ChessHouse$Words" lw_tbl jcl jtb 1 true prog_13_method_1_code 4 k_WO_init_4 = true := jok_sub oo_WO_init_0 2 2 rfl rfl
def k_WO_init_9 : List jI := [(.putfield 7, 3, (2, 0, 368, 3, 0))]
theorem o_WO_init_9 : jokL "ChessHouse$Words" lw_tbl jcl jtb 1 true prog_13_method_1_code 9 k_WO_init_9 = true := jok_sub oo_WO_init_0 5 1 rfl rfl
theorem d_WO_init_1 : decode prog_13_method_1_code 1 = .ok (.invokespecial 1, 3) := by decide +kernel
theorem d_WO_init_7 : decode prog_13_method_1_code 7 = .ok (.newarray .int, 2) := by decide +kernel
theorem d_WO_init_12 : decode prog_13_method_1_code 12 = .ok (.return_, 1) := by decide +kernel
def y_SI_init : jY := (⟨"ChessHouse$Signs", "<init>", "()V"⟩, prog_12_method_1_code, 1, none)
theorem m_SI_init : jmth lw_tbl y_SI_init 0 := ⟨jTA_in (wi := 392) (jtF_ok rfl) rfl, jTA_in (wi := 305) (jtF_ok rfl) rfl, by decide, by decide, by decide +kernel⟩
theorem i_SI_init : Jvm.Cond.instanceMethod y_SI_init.1 ∈ jTA lw_tbl := jTA_in (wi := 391) (jtF_ok rfl) rfl
def kk_SI_init_0 : List jI := [(.aload_n 0, 1, (0, 0, 0, 0, 0)), (.invokespecial 1, 3, (0, 0, 0, 0, 0)), (.aload_n 0, 1, (0, 0, 0, 0, 0)), (.sipush 3456, 3, (0, 0, 0, 3456, 0)), (.newarray .int, 2, (0, 0, 0, 0, 0)), (.putfield 9, 3, (3, 0, 394, 3, 0)), (.aload_n 0, 1, (0, 0, 0, 0, 0)), (.bipush 7, 2, (0, 0, 0, 7, 0)), (.newarray .int, 2, (0, 0, 0, 0, 0)), (.putfield 15, 3, (3, 1, 395, 3, 0)), (.return_, 1, (0, 0, 0, 0, 0))]
theorem oo_SI_init_0 : jokL "ChessHouse$Signs" lw_tbl jcl jtb 1 true prog_12_method_1_code 0 kk_SI_init_0 = true := by decide +kernel
def k_SI_init_0 : List jI := [(.aload_n 0, 1, (0, 0, 0, 0, 0))]
theorem o_SI_init_0 : jokL "ChessHouse$Signs" lw_tbl jcl jtb 1 true prog_12_method_1_code 0 k_SI_init_0 = true := jok_sub oo_SI_init_0 0 1 rfl rfl
def k_SI_init_4 : List jI := [(.aload_n 0, 1, (0, 0, 0, 0, 0)), (.sipush 3456, 3, (0, 0, 0, 3456, 0))]
theorem o_SI_init_4 : jokL "ChessHouse$Signs" lw_tbl jcl jtb 1 true prog_12_method_1_code 4 k_SI_init_4 = true := jok_sub oo_SI_init_0 2 2 rfl rfl
def k_SI_init_10 : List jI := [(.putfield 9, 3, (3, 0, 394, 3, 0)), (.aload_n 0, 1, (0, 0, 0, 0, 0)), (.bipush 7, 2, (0, 0, 0, 7, 0))]
theorem o_SI_init_10 : jokL "ChessHouse$Signs" lw_tbl jcl jtb 1 true prog_12_method_1_code 10 k_SI_init_10 = true := jok_sub oo_SI_init_0 5 3 rfl rfl
def k_SI_init_18 : List jI := [(.putfield 15, 3, (3, 1, 395, 3, 0))]
theorem o_SI_init_18 : jokL "ChessHouse$Signs" lw_tbl jcl jtb 1 true prog_12_method_1_code 18 k_SI_init_18 = true := jok_sub oo_SI_init_0 9 1 rfl rfl
theorem d_SI_init_1 : decode prog_12_method_1_code 1 = .ok (.invokespecial 1, 3) := by decide +kernel
theorem d_SI_init_8 : decode prog_12_method_1_code 8 = .ok (.newarray .int, 2) := by decide +kernel
theorem d_SI_init_16 : decode prog_12_method_1_code 16 = .ok (.newarray .int, 2) := by decide +kernel
theorem d_SI_init_21 : decode prog_12_method_1_code 21 = .ok (.return_, 1) := by decide +kernel
def y_GR_init : jY := (⟨"ChessHouse$GameReader", "<init>", "()V"⟩, prog_8_method_1_code, 1, none)
theorem m_GR_init : jmth lw_tbl y_GR_init 0 := ⟨jTA_in (wi := 432) (jtF_ok rfl) rfl, jTA_in (wi := 306) (jtF_ok rfl) rfl, by decide, by decide, by decide +kernel⟩
theorem i_GR_init : Jvm.Cond.instanceMethod y_GR_init.1 ∈ jTA lw_tbl := jTA_in (wi := 431) (jtF_ok rfl) rfl
def kk_GR_init_0 : List jI := [(.aload_n 0, 1, (0, 0, 0, 0, 0)), (.invokespecial 3, 3, (0, 0, 0, 0, 0)), (.aload_n 0, 1, (0, 0, 0, 0, 0)), (.new 9, 3, (0, 0, 0, 0, 0)), (.dup, 1, (0, 0, 0, 0, 0)), (.invokespecial 11, 3, (0, 0, 0, 0, 0)), (.putfield 12, 3, (4, 1, 438, 3, 0)), (.aload_n 0, 1, (0, 0, 0, 0, 0)), (.bipush 6, 2, (0, 0, 0, 6, 0)), (.newarray .int, 2, (0, 0, 0, 0, 0)), (.putfield 20, 3, (4, 2, 439, 3, 0)), (.aload_n 0, 1, (0, 0, 0, 0, 0)), (.bipush 96, 2, (0, 0, 0, 96, 0)), (.newarray .byte, 2, (0, 0, 0, 0, 0)), (.putfield 24, 3, (4, 3, 440, 3, 0)), (.return_, 1, (0, 0, 0, 0, 0))]
theorem oo_GR_init_0 : jokL "ChessHouse$GameReader" lw_tbl jcl jtb 1 true prog_8_method_1_code 0 kk_GR_init_0 = true := by decide +kernel
def k_GR_init_0 : List jI := [(.aload_n 0, 1, (0, 0, 0, 0, 0))]
theorem o_GR_init_0 : jokL "ChessHouse$GameReader" lw_tbl jcl jtb 1 true prog_8_method_1_code 0 k_GR_init_0 = true := jok_sub oo_GR_init_0 0 1 rfl rfl
def k_GR_init_4 : List jI := [(.aload_n 0, 1, (0, 0, 0, 0, 0))]
theorem o_GR_init_4 : jokL "ChessHouse$GameReader" lw_tbl jcl jtb 1 true prog_8_method_1_code 4 k_GR_init_4 = true := jok_sub oo_GR_init_0 2 1 rfl rfl
def k_GR_init_8 : List jI := [(.dup, 1, (0, 0, 0, 0, 0))]
theorem o_GR_init_8 : jokL "ChessHouse$GameReader" lw_tbl jcl jtb 1 true prog_8_method_1_code 8 k_GR_init_8 = true := jok_sub oo_GR_init_0 4 1 rfl rfl
def k_GR_init_12 : List jI := [(.putfield 12, 3, (4, 1, 438, 3, 0)), (.aload_n 0, 1, (0, 0, 0, 0, 0)), (.bipush 6, 2, (0, 0, 0, 6, 0))]
theorem o_GR_init_12 : jokL "ChessHouse$GameReader" lw_tbl jcl jtb 1 true prog_8_method_1_code 12 k_GR_init_12 = true := jok_sub oo_GR_init_0 6 3 rfl rfl
def k_GR_init_20 : List jI := [(.putfield 20, 3, (4, 2, 439, 3, 0)), (.aload_n 0, 1, (0, 0, 0, 0, 0)), (.bipush 96, 2, (0, 0, 0, 96, 0))]
theorem o_GR_init_20 : jokL "ChessHouse$GameReader" lw_tbl jcl jtb 1 true prog_8_method_1_code 20 k_GR_init_20 = true := jok_sub oo_GR_init_0 10 3 rfl rfl
def k_GR_init_28 : List jI := [(.putfield 24, 3, (4, 3, 440, 3, 0))]
theorem o_GR_init_28 : jokL "ChessHouse$GameReader" lw_tbl jcl jtb 1 true prog_8_method_1_code 28 k_GR_init_28 = true := jok_sub oo_GR_init_0 14 1 rfl rfl
theorem d_GR_init_1 : decode prog_8_method_1_code 1 = .ok (.invokespecial 3, 3) := by decide +kernel
theorem d_GR_init_5 : decode prog_8_method_1_code 5 = .ok (.new 9, 3) := by decide +kernel
theorem d_GR_init_9 : decode prog_8_method_1_code 9 = .ok (.invokespecial 11, 3) := by decide +kernel
theorem q_GR_init_9 : jlm lw_tbl 435 "ChessHouse$GameReader" 11 ⟨"ChessHouse$Signs", "<init>", "()V"⟩ = true := jlm_of (Or.inr ⟨_, jtF_ok rfl⟩)
theorem d_GR_init_18 : decode prog_8_method_1_code 18 = .ok (.newarray .int, 2) := by decide +kernel
theorem d_GR_init_26 : decode prog_8_method_1_code 26 = .ok (.newarray .byte, 2) := by decide +kernel
theorem d_GR_init_31 : decode prog_8_method_1_code 31 = .ok (.return_, 1) := by decide +kernel
def y_GW_init : jY := (⟨"ChessHouse$GameWriter", "<init>", "()V"⟩, prog_9_method_1_code, 1, none)
theorem m_GW_init : jmth lw_tbl y_GW_init 0 := ⟨jTA_in (wi := 478) (jtF_ok rfl) rfl, jTA_in (wi := 307) (jtF_ok rfl) rfl, by decide, by decide, by decide +kernel⟩
theorem i_GW_init : Jvm.Cond.instanceMethod y_GW_init.1 ∈ jTA lw_tbl := jTA_in (wi := 477) (jtF_ok rfl) rfl
def kk_GW_init_0 : List jI := [(.aload_n 0, 1, (0, 0, 0, 0, 0)), (.invokespecial 3, 3, (0, 0, 0, 0, 0)), (.aload_n 0, 1, (0, 0, 0, 0, 0)), (.new 9, 3, (0, 0, 0, 0, 0)), (.dup, 1, (0, 0, 0, 0, 0)), (.ldc 11, 2, (0, 0, 481, 131072, 0)), (.invokespecial 12, 3, (0, 0, 0, 0, 0)), (.putfield 15, 3, (5, 0, 485, 3, 0)), (.aload_n 0, 1, (0, 0, 0, 0, 0)), (.new 21, 3, (0, 0, 0, 0, 0)), (.dup, 1, (0, 0, 0, 0, 0)), (.invokespecial 23, 3, (0, 0, 0, 0, 0)), (.putfield 24, 3, (5, 1, 486, 3, 0)), (.return_, 1, (0, 0, 0, 0, 0))]
theorem oo_GW_init_0 : jokL "ChessHouse$GameWriter" lw_tbl jcl jtb 1 true prog_9_method_1_code 0 kk_GW_init_0 = true := by decide +kernel
def k_GW_init_0 : List jI := [(.aload_n 0, 1, (0, 0, 0, 0, 0))]
theorem o_GW_init_0 : jokL "ChessHouse$GameWriter" lw_tbl jcl jtb 1 true prog_9_method_1_code 0 k_GW_init_0 = true := jok_sub oo_GW_init_0 0 1 rfl rfl
def k_GW_init_4 : List jI := [(.aload_n 0, 1, (0, 0, 0, 0, 0))]
theorem o_GW_init_4 : jokL "ChessHouse$GameWriter" lw_tbl jcl jtb 1 true prog_9_method_1_code 4 k_GW_init_4 = true := jok_sub oo_GW_init_0 2 1 rfl rfl
def k_GW_init_8 : List jI := [(.dup, 1, (0, 0, 0, 0, 0)), (.ldc 11, 2, (0, 0, 481, 131072, 0))]
theorem o_GW_init_8 : jokL "ChessHouse$GameWriter" lw_tbl jcl jtb 1 true prog_9_method_1_code 8 k_GW_init_8 = true := jok_sub oo_GW_init_0 4 2 rfl rfl
def k_GW_init_14 : List jI := [(.putfield 15, 3, (5, 0, 485, 3, 0)), (.aload_n 0, 1, (0, 0, 0, 0, 0))]
theorem o_GW_init_14 : jokL "ChessHouse$GameWriter" lw_tbl jcl jtb 1 true prog_9_method_1_code 14 k_GW_init_14 = true := jok_sub oo_GW_init_0 7 2 rfl rfl
def k_GW_init_21 : List jI := [(.dup, 1, (0, 0, 0, 0, 0))]
theorem o_GW_init_21 : jokL "ChessHouse$GameWriter" lw_tbl jcl jtb 1 true prog_9_method_1_code 21 k_GW_init_21 = true := jok_sub oo_GW_init_0 10 1 rfl rfl
def k_GW_init_25 : List jI := [(.putfield 24, 3, (5, 1, 486, 3, 0))]
theorem o_GW_init_25 : jokL "ChessHouse$GameWriter" lw_tbl jcl jtb 1 true prog_9_method_1_code 25 k_GW_init_25 = true := jok_sub oo_GW_init_0 12 1 rfl rfl
theorem d_GW_init_1 : decode prog_9_method_1_code 1 = .ok (.invokespecial 3, 3) := by decide +kernel
theorem d_GW_init_5 : decode prog_9_method_1_code 5 = .ok (.new 9, 3) := by decide +kernel
theorem d_GW_init_11 : decode prog_9_method_1_code 11 = .ok (.invokespecial 12, 3) := by decide +kernel
theorem q_GW_init_11 : jlm lw_tbl 482 "ChessHouse$GameWriter" 12 ⟨"ChessHouse$Bytes", "<init>", "(I)V"⟩ = true := jlm_of (Or.inl (jtF_ok rfl))
theorem d_GW_init_18 : decode prog_9_method_1_code 18 = .ok (.new 21, 3) := by decide +kernel
theorem d_GW_init_22 : decode prog_9_method_1_code 22 = .ok (.invokespecial 23, 3) := by decide +kernel
theorem q_GW_init_22 : jlm lw_tbl 484 "ChessHouse$GameWriter" 23 ⟨"ChessHouse$Signs", "<init>", "()V"⟩ = true := jlm_of (Or.inr ⟨_, jtF_ok rfl⟩)
theorem d_GW_init_28 : decode prog_9_method_1_code 28 = .ok (.return_, 1) := by decide +kernel
def y_SE_init : jY := (⟨"ChessHouse$Search", "<init>", "()V"⟩, prog_11_method_1_code, 1, none)
theorem m_SE_init : jmth lw_tbl y_SE_init 0 := ⟨jTA_in (wi := 499) (jtF_ok rfl) rfl, jTA_in (wi := 308) (jtF_ok rfl) rfl, by decide, by decide, by decide +kernel⟩
theorem i_SE_init : Jvm.Cond.instanceMethod y_SE_init.1 ∈ jTA lw_tbl := jTA_in (wi := 498) (jtF_ok rfl) rfl
def kk_SE_init_0 : List jI := [(.aload_n 0, 1, (0, 0, 0, 0, 0)), (.invokespecial 1, 3, (0, 0, 0, 0, 0)), (.aload_n 0, 1, (0, 0, 0, 0, 0)), (.sipush 20736, 3, (0, 0, 0, 20736, 0)), (.newarray .int, 2, (0, 0, 0, 0, 0)), (.putfield 9, 3, (6, 1, 503, 3, 0)), (.aload_n 0, 1, (0, 0, 0, 0, 0)), (.bipush 8, 2, (0, 0, 0, 8, 0)), (.newarray .int, 2, (0, 0, 0, 0, 0)), (.putfield 15, 3, (6, 2, 504, 3, 0)), (.aload_n 0, 1, (0, 0, 0, 0, 0)), (.bipush 8, 2, (0, 0, 0, 8, 0)), (.newarray .long, 2, (0, 0, 0, 0, 0)), (.putfield 18, 3, (6, 3, 505, 3, 0)), (.return_, 1, (0, 0, 0, 0, 0))]
theorem oo_SE_init_0 : jokL "ChessHouse$Search" lw_tbl jcl jtb 1 true prog_11_method_1_code 0 kk_SE_init_0 = true := by decide +kernel
def k_SE_init_0 : List jI := [(.aload_n 0, 1, (0, 0, 0, 0, 0))]
theorem o_SE_init_0 : jokL "ChessHouse$Search" lw_tbl jcl jtb 1 true prog_11_method_1_code 0 k_SE_init_0 = true := jok_sub oo_SE_init_0 0 1 rfl rfl
def k_SE_init_4 : List jI := [(.aload_n 0, 1, (0, 0, 0, 0, 0)), (.sipush 20736, 3, (0, 0, 0, 20736, 0))]
theorem o_SE_init_4 : jokL "ChessHouse$Search" lw_tbl jcl jtb 1 true prog_11_method_1_code 4 k_SE_init_4 = true := jok_sub oo_SE_init_0 2 2 rfl rfl
def k_SE_init_10 : List jI := [(.putfield 9, 3, (6, 1, 503, 3, 0)), (.aload_n 0, 1, (0, 0, 0, 0, 0)), (.bipush 8, 2, (0, 0, 0, 8, 0))]
theorem o_SE_init_10 : jokL "ChessHouse$Search" lw_tbl jcl jtb 1 true prog_11_method_1_code 10 k_SE_init_10 = true := jok_sub oo_SE_init_0 5 3 rfl rfl
def k_SE_init_18 : List jI := [(.putfield 15, 3, (6, 2, 504, 3, 0)), (.aload_n 0, 1, (0, 0, 0, 0, 0)), (.bipush 8, 2, (0, 0, 0, 8, 0))]
theorem o_SE_init_18 : jokL "ChessHouse$Search" lw_tbl jcl jtb 1 true prog_11_method_1_code 18 k_SE_init_18 = true := jok_sub oo_SE_init_0 9 3 rfl rfl
def k_SE_init_26 : List jI := [(.putfield 18, 3, (6, 3, 505, 3, 0))]
theorem o_SE_init_26 : jokL "ChessHouse$Search" lw_tbl jcl jtb 1 true prog_11_method_1_code 26 k_SE_init_26 = true := jok_sub oo_SE_init_0 13 1 rfl rfl
theorem d_SE_init_1 : decode prog_11_method_1_code 1 = .ok (.invokespecial 1, 3) := by decide +kernel
theorem d_SE_init_8 : decode prog_11_method_1_code 8 = .ok (.newarray .int, 2) := by decide +kernel
theorem d_SE_init_16 : decode prog_11_method_1_code 16 = .ok (.newarray .int, 2) := by decide +kernel
theorem d_SE_init_24 : decode prog_11_method_1_code 24 = .ok (.newarray .long, 2) := by decide +kernel
theorem d_SE_init_29 : decode prog_11_method_1_code 29 = .ok (.return_, 1) := by decide +kernel
def y_PR_init : jY := (⟨"ChessHouse$Problems", "<init>", "()V"⟩, prog_10_method_1_code, 1, none)
theorem m_PR_init : jmth lw_tbl y_PR_init 0 := ⟨jTA_in (wi := 529) (jtF_ok rfl) rfl, jTA_in (wi := 309) (jtF_ok rfl) rfl, by decide, by decide, by decide +kernel⟩
theorem i_PR_init : Jvm.Cond.instanceMethod y_PR_init.1 ∈ jTA lw_tbl := jTA_in (wi := 528) (jtF_ok rfl) rfl
def kk_PR_init_0 : List jI := [(.aload_n 0, 1, (0, 0, 0, 0, 0)), (.invokespecial 1, 3, (0, 0, 0, 0, 0)), (.aload_n 0, 1, (0, 0, 0, 0, 0)), (.iconst 4, 1, (0, 0, 0, 4, 0)), (.newarray .int, 2, (0, 0, 0, 0, 0)), (.putfield 7, 3, (7, 4, 539, 3, 0)), (.aload_n 0, 1, (0, 0, 0, 0, 0)), (.iconst 4, 1, (0, 0, 0, 4, 0)), (.newarray .long, 2, (0, 0, 0, 0, 0)), (.putfield 13, 3, (7, 5, 541, 3, 0)), (.aload_n 0, 1, (0, 0, 0, 0, 0)), (.sipush 13824, 3, (0, 0, 0, 13824, 0)), (.newarray .int, 2, (0, 0, 0, 0, 0)), (.putfield 19, 3, (7, 6, 543, 3, 0)), (.return_, 1, (0, 0, 0, 0, 0))]
theorem oo_PR_init_0 : jokL "ChessHouse$Problems" lw_tbl jcl jtb 1 true prog_10_method_1_code 0 kk_PR_init_0 = true := by decide +kernel
def k_PR_init_0 : List jI := [(.aload_n 0, 1, (0, 0, 0, 0, 0))]
theorem o_PR_init_0 : jokL "ChessHouse$Problems" lw_tbl jcl jtb 1 true prog_10_method_1_code 0 k_PR_init_0 = true := jok_sub oo_PR_init_0 0 1 rfl rfl
def k_PR_init_4 : List jI := [(.aload_n 0, 1, (0, 0, 0, 0, 0)), (.iconst 4, 1, (0, 0, 0, 4, 0))]
theorem o_PR_init_4 : jokL "ChessHouse$Problems" lw_tbl jcl jtb 1 true prog_10_method_1_code 4 k_PR_init_4 = true := jok_sub oo_PR_init_0 2 2 rfl rfl
def k_PR_init_8 : List jI := [(.putfield 7, 3, (7, 4, 539, 3, 0)), (.aload_n 0, 1, (0, 0, 0, 0, 0)), (.iconst 4, 1, (0, 0, 0, 4, 0))]
theorem o_PR_init_8 : jokL "ChessHouse$Problems" lw_tbl jcl jtb 1 true prog_10_method_1_code 8 k_PR_init_8 = true := jok_sub oo_PR_init_0 5 3 rfl rfl
def k_PR_init_15 : List jI := [(.putfield 13, 3, (7, 5, 541, 3, 0)), (.aload_n 0, 1, (0, 0, 0, 0, 0)), (.sipush 13824, 3, (0, 0, 0, 13824, 0))]
theorem o_PR_init_15 : jokL "ChessHouse$Problems" lw_tbl jcl jtb 1 true prog_10_method_1_code 15 k_PR_init_15 = true := jok_sub oo_PR_init_0 9 3 rfl rfl
def k_PR_init_24 : List jI := [(.putfield 19, 3, (7, 6, 543, 3, 0))]
theorem o_PR_init_24 : jokL "ChessHouse$Problems" lw_tbl jcl jtb 1 true prog_10_method_1_code 24 k_PR_init_24 = true := jok_sub oo_PR_init_0 13 1 rfl rfl
theorem d_PR_init_1 : decode prog_10_method_1_code 1 = .ok (.invokespecial 1, 3) := by decide +kernel
theorem d_PR_init_6 : decode prog_10_method_1_code 6 = .ok (.newarray .int, 2) := by decide +kernel
theorem d_PR_init_13 : decode prog_10_method_1_code 13 = .ok (.newarray .long, 2) := by decide +kernel
theorem d_PR_init_22 : decode prog_10_method_1_code 22 = .ok (.newarray .int, 2) := by decide +kernel
theorem d_PR_init_27 : decode prog_10_method_1_code 27 = .ok (.return_, 1) := by decide +kernel
def y_EN_init : jY := (⟨"ChessHouse$Endings", "<init>", "()V"⟩, prog_6_method_1_code, 1, none)
theorem m_EN_init : jmth lw_tbl y_EN_init 0 := ⟨jTA_in (wi := 572) (jtF_ok rfl) rfl, jTA_in (wi := 310) (jtF_ok rfl) rfl, by decide, by decide, by decide +kernel⟩
theorem i_EN_init : Jvm.Cond.instanceMethod y_EN_init.1 ∈ jTA lw_tbl := jTA_in (wi := 571) (jtF_ok rfl) rfl
def kk_EN_init_0 : List jI := [(.aload_n 0, 1, (0, 0, 0, 0, 0)), (.invokespecial 1, 3, (0, 0, 0, 0, 0)), (.aload_n 0, 1, (0, 0, 0, 0, 0)), (.sipush 1728, 3, (0, 0, 0, 1728, 0)), (.newarray .int, 2, (0, 0, 0, 0, 0)), (.putfield 9, 3, (8, 2, 578, 3, 0)), (.aload_n 0, 1, (0, 0, 0, 0, 0)), (.iconst 0, 1, (0, 0, 0, 0, 0)), (.newarray .int, 2, (0, 0, 0, 0, 0)), (.putfield 15, 3, (8, 7, 583, 3, 0)), (.return_, 1, (0, 0, 0, 0, 0))]
theorem oo_EN_init_0 : jokL "ChessHouse$Endings" lw_tbl jcl jtb 1 true prog_6_method_1_code 0 kk_EN_init_0 = true := by decide +kernel
def k_EN_init_0 : List jI := [(.aload_n 0, 1, (0, 0, 0, 0, 0))]
theorem o_EN_init_0 : jokL "ChessHouse$Endings" lw_tbl jcl jtb 1 true prog_6_method_1_code 0 k_EN_init_0 = true := jok_sub oo_EN_init_0 0 1 rfl rfl
def k_EN_init_4 : List jI := [(.aload_n 0, 1, (0, 0, 0, 0, 0)), (.sipush 1728, 3, (0, 0, 0, 1728, 0))]
theorem o_EN_init_4 : jokL "ChessHouse$Endings" lw_tbl jcl jtb 1 true prog_6_method_1_code 4 k_EN_init_4 = true := jok_sub oo_EN_init_0 2 2 rfl rfl
def k_EN_init_10 : List jI := [(.putfield 9, 3, (8, 2, 578, 3, 0)), (.aload_n 0, 1, (0, 0, 0, 0, 0)), (.iconst 0, 1, (0, 0, 0, 0, 0))]
theorem o_EN_init_10 : jokL "ChessHouse$Endings" lw_tbl jcl jtb 1 true prog_6_method_1_code 10 k_EN_init_10 = true := jok_sub oo_EN_init_0 5 3 rfl rfl
def k_EN_init_17 : List jI := [(.putfield 15, 3, (8, 7, 583, 3, 0))]
theorem o_EN_init_17 : jokL "ChessHouse$Endings" lw_tbl jcl jtb 1 true prog_6_method_1_code 17 k_EN_init_17 = true := jok_sub oo_EN_init_0 9 1 rfl rfl
theorem d_EN_init_1 : decode prog_6_method_1_code 1 = .ok (.invokespecial 1, 3) := by decide +kernel
theorem d_EN_init_8 : decode prog_6_method_1_code 8 = .ok (.newarray .int, 2) := by decide +kernel
theorem d_EN_init_15 : decode prog_6_method_1_code 15 = .ok (.newarray .int, 2) := by decide +kernel
theorem d_EN_init_20 : decode prog_6_method_1_code 20 = .ok (.return_, 1) := by decide +kernel
def y_BO_stepsToEdge : jY := (⟨"ChessHouse$Board", "stepsToEdge", "(II)I"⟩, prog_3_method_2_code, 7, (some .int))
theorem m_BO_stepsToEdge : jmth lw_tbl y_BO_stepsToEdge 2 := ⟨jTA_in (wi := 623) (jtF_ok rfl) rfl, jTA_in (wi := 312) (jtF_ok rfl) rfl, by decide, by decide, by decide +kernel⟩
theorem s_BO_stepsToEdge : Jvm.Cond.static y_BO_stepsToEdge.1 ∈ jTA lw_tbl := jTA_in (wi := 622) (jtF_ok rfl) rfl
def kk_BO_stepsToEdge_0 : List jI := [(.iconst 0, 1, (0, 0, 0, 0, 0)), (.istore_n 2, 1, (2, 0, 0, 0, 0)), (.iload_n 0, 1, (0, 0, 0, 0, 0)), (.istore_n 3, 1, (3, 0, 0, 0, 0)), (.iconst 0, 1, (0, 0, 0, 0, 0)), (.istore 4, 2, (4, 0, 0, 0, 0)), (.iload 4, 2, (4, 0, 0, 0, 0)), (.bipush 7, 2, (0, 0, 0, 7, 0)), (.if_icmp .ge 59, 3, (70, 0, 0, 0, 0)), (.iload_n 3, 1, (3, 0, 0, 0, 0)), (.iload_n 1, 1, (1, 0, 0, 0, 0)), (.iadd, 1, (0, 0, 0, 0, 0)), (.istore 5, 2, (5, 0, 0, 0, 0)), (.iload 5, 2, (5, 0, 0, 0, 0)), (.bipush 7, 2, (0, 0, 0, 7, 0)), (.iand, 1, (0, 0, 0, 0, 0)), (.iload_n 3, 1, (3, 0, 0, 0, 0)), (.bipush 7, 2, (0, 0, 0, 7, 0)), (.iand, 1, (0, 0, 0, 0, 0)), (.isub, 1, (0, 0, 0, 0, 0)), (.istore 6, 2, (6, 0, 0, 0, 0)), (.iload 5, 2, (5, 0, 0, 0, 0)), (.ifCond .lt 37, 3, (70, 0, 0, 0, 0)), (.iload 5, 2, (5, 0, 0, 0, 0)), (.bipush 63, 2, (0, 0, 0, 63, 0)), (.if_icmp .gt 30, 3, (70, 0, 0, 0, 0)), (.iload 6, 2, (6, 0, 0, 0, 0)), (.iconst 1, 1, (0, 0, 0, 1, 0)), (.if_icmp .gt 24, 3, (70, 0, 0, 0, 0)), (.iload 6, 2, (6, 0, 0, 0, 0)), (.iconst (-1), 1, (0, 0, 0, (-1), 0)), (.if_icmp .ge 6, 3, (58, 0, 0, 0, 0)), (.goto 15, 3, (70, 0, 0, 0, 0)), (.iload 5, 2, (5, 0, 0, 0, 0)), (.istore_n 3, 1, (3, 0, 0, 0, 0)), (.iinc 2 1, 3, (0, 0, 0, 1, 0)), (.iinc 4 1, 3, (0, 0, 0, 1, 0)), (.goto (-60), 3, (7, 0, 0, 0, 0)), (.iload_n 2, 1, (2, 0, 0, 0, 0)), (.ireturn, 1, (0, 0, 0, 0, 0))]
theorem oo_BO_stepsToEdge_0 : jokL "ChessHouse$Board" lw_tbl jcl jtb 7 false prog_3_method_2_code 0 kk_BO_stepsToEdge_0 = true := jokLF_ok (fun _ _ => jtF_ok) lo_BO (by decide +kernel)
def k_BO_stepsToEdge_0 : List jI := [(.iconst 0, 1, (0, 0, 0, 0, 0)), (.istore_n 2, 1, (2, 0, 0, 0, 0)), (.iload_n 0, 1, (0, 0, 0, 0, 0)), (.istore_n 3, 1, (3, 0, 0, 0, 0)), (.iconst 0, 1, (0, 0, 0, 0, 0)), (.istore 4, 2, (4, 0, 0, 0, 0))]
theorem o_BO_stepsToEdge_0 : jokL "ChessHouse$Board" lw_tbl jcl jtb 7 false prog_3_method_2_code 0 k_BO_stepsToEdge_0 = true := jok_sub oo_BO_stepsToEdge_0 0 6 rfl rfl
def k_BO_stepsToEdge_7 : List jI := [(.iload 4, 2, (4, 0, 0, 0, 0)), (.bipush 7, 2, (0, 0, 0, 7, 0)), (.if_icmp .ge 59, 3, (70, 0, 0, 0, 0)), (.iload_n 3, 1, (3, 0, 0, 0, 0)), (.iload_n 1, 1, (1, 0, 0, 0, 0)), (.iadd, 1, (0, 0, 0, 0, 0)), (.istore 5, 2, (5, 0, 0, 0, 0)), (.iload 5, 2, (5, 0, 0, 0, 0)), (.bipush 7, 2, (0, 0, 0, 7, 0)), (.iand, 1, (0, 0, 0, 0, 0)), (.iload_n 3, 1, (3, 0, 0, 0, 0)), (.bipush 7, 2, (0, 0, 0, 7, 0)), (.iand, 1, (0, 0, 0, 0, 0)), (.isub, 1, (0, 0, 0, 0, 0)), (.istore 6, 2, (6, 0, 0, 0, 0)), (.iload 5, 2, (5, 0, 0, 0, 0)), (.ifCond .lt 37, 3, (70, 0, 0, 0, 0)), (.iload 5, 2, (5, 0, 0, 0, 0)), (.bipush 63, 2, (0, 0, 0, 63, 0)), (.if_icmp .gt 30, 3, (70, 0, 0, 0, 0)), (.iload 6, 2, (6, 0, 0, 0, 0)), (.iconst 1, 1, (0, 0, 0, 1, 0)), (.if_icmp .gt 24, 3, (70, 0, 0, 0, 0)), (.iload 6, 2, (6, 0, 0, 0, 0)), (.iconst (-1), 1, (0, 0, 0, (-1), 0)), (.if_icmp .ge 6, 3, (58, 0, 0, 0, 0)), (.goto 15, 3, (70, 0, 0, 0, 0))]
theorem o_BO_stepsToEdge_7 : jokL "ChessHouse$Board" lw_tbl jcl jtb 7 false prog_3_method_2_code 7 k_BO_stepsToEdge_7 = true := jok_sub oo_BO_stepsToEdge_0 6 27 rfl rfl
def k_BO_stepsToEdge_58 : List jI := [(.iload 5, 2, (5, 0, 0, 0, 0)), (.istore_n 3, 1, (3, 0, 0, 0, 0)), (.iinc 2 1, 3, (0, 0, 0, 1, 0)), (.iinc 4 1, 3, (0, 0, 0, 1, 0)), (.goto (-60), 3, (7, 0, 0, 0, 0))]
theorem o_BO_stepsToEdge_58 : jokL "ChessHouse$Board" lw_tbl jcl jtb 7 false prog_3_method_2_code 58 k_BO_stepsToEdge_58 = true := jok_sub oo_BO_stepsToEdge_0 33 5 rfl rfl
def k_BO_stepsToEdge_70 : List jI := [(.iload_n 2, 1, (2, 0, 0, 0, 0))]
theorem o_BO_stepsToEdge_70 : jokL "ChessHouse$Board" lw_tbl jcl jtb 7 false prog_3_method_2_code 70 k_BO_stepsToEdge_70 = true := jok_sub oo_BO_stepsToEdge_0 38 1 rfl rfl
theorem d_BO_stepsToEdge_71 : decode prog_3_method_2_code 71 = .ok (.ireturn, 1) := by decide +kernel
