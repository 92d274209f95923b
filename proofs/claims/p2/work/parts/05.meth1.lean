def y_BO_fillHops : jY := (⟨"ChessHouse$Board", "fillHops", "(I)V"⟩, prog_3_method_3_code, 6, none)
theorem m_BO_fillHops : jmth lw_tbl y_BO_fillHops 1 := ⟨jTA_in (wi := 627) (jtF_ok rfl) rfl, jTA_in (wi := 312) (jtF_ok rfl) rfl, by decide, by decide, by decide +kernel⟩
theorem i_BO_fillHops : Jvm.Cond.instanceMethod y_BO_fillHops.1 ∈ jTA lw_tbl := jTA_in (wi := 626) (jtF_ok rfl) rfl
theorem e_BO_fillHops : Jvm.Cond.selects y_BO_fillHops.1.cls y_BO_fillHops.1 y_BO_fillHops.1 ∈ jTA lw_tbl := jTA_in (wi := 0) (jtF_ok rfl) rfl
def kk_BO_fillHops_0 : List jI := [(.iload_n 1, 1, (1, 0, 0, 0, 0)), (.bipush 8, 2, (0, 0, 0, 8, 0)), (.imul, 1, (0, 0, 0, 0, 0)), (.istore_n 2, 1, (2, 0, 0, 0, 0)), (.aload_n 0, 1, (0, 0, 0, 0, 0)), (.getfield 35, 3, (10, 13, 682, 0, 0)), (.iload_n 2, 1, (2, 0, 0, 0, 0)), (.iload_n 2, 1, (2, 0, 0, 0, 0)), (.bipush 8, 2, (0, 0, 0, 8, 0)), (.iadd, 1, (0, 0, 0, 0, 0)), (.iconst (-1), 1, (0, 0, 0, (-1), 0)), (.invokestatic 61, 3, (0, 0, 0, 0, 0)), (.iconst 0, 1, (0, 0, 0, 0, 0)), (.istore_n 3, 1, (3, 0, 0, 0, 0)), (.iload_n 3, 1, (3, 0, 0, 0, 0)), (.bipush 64, 2, (0, 0, 0, 64, 0)), (.if_icmp .ge 54, 3, (77, 0, 0, 0, 0)), (.iload_n 3, 1, (3, 0, 0, 0, 0)), (.bipush 7, 2, (0, 0, 0, 7, 0)), (.iand, 1, (0, 0, 0, 0, 0)), (.iload_n 1, 1, (1, 0, 0, 0, 0)), (.bipush 7, 2, (0, 0, 0, 7, 0)), (.iand, 1, (0, 0, 0, 0, 0)), (.isub, 1, (0, 0, 0, 0, 0)), (.istore 4, 2, (4, 0, 0, 0, 0)), (.iload_n 3, 1, (3, 0, 0, 0, 0)), (.iconst 3, 1, (0, 0, 0, 3, 0)), (.ishr, 1, (0, 0, 0, 0, 0)), (.iload_n 1, 1, (1, 0, 0, 0, 0)), (.iconst 3, 1, (0, 0, 0, 3, 0)), (.ishr, 1, (0, 0, 0, 0, 0)), (.isub, 1, (0, 0, 0, 0, 0)), (.istore 5, 2, (5, 0, 0, 0, 0)), (.iload 4, 2, (4, 0, 0, 0, 0)), (.iload 4, 2, (4, 0, 0, 0, 0)), (.imul, 1, (0, 0, 0, 0, 0)), (.iload 5, 2, (5, 0, 0, 0, 0)), (.iload 5, 2, (5, 0, 0, 0, 0)), (.imul, 1, (0, 0, 0, 0, 0)), (.iadd, 1, (0, 0, 0, 0, 0)), (.iconst 5, 1, (0, 0, 0, 5, 0)), (.if_icmp .ne 13, 3, (71, 0, 0, 0, 0)), (.aload_n 0, 1, (0, 0, 0, 0, 0)), (.getfield 35, 3, (10, 13, 682, 0, 0)), (.iload_n 2, 1, (2, 0, 0, 0, 0)), (.iload_n 3, 1, (3, 0, 0, 0, 0)), (.iastore, 1, (0, 0, 0, 0, 0)), (.iinc 2 1, 3, (0, 0, 0, 1, 0)), (.iinc 3 1, 3, (0, 0, 0, 1, 0)), (.goto (-54), 3, (20, 0, 0, 0, 0)), (.return_, 1, (0, 0, 0, 0, 0))]
theorem oo_BO_fillHops_0 : jokL "ChessHouse$Board" lw_tbl jcl jtb 6 false prog_3_method_3_code 0 kk_BO_fillHops_0 = true := jokLF_ok (fun _ _ => jtF_ok) lo_BO (by decide +kernel)
def k_BO_fillHops_0 : List jI := [(.iload_n 1, 1, (1, 0, 0, 0, 0)), (.bipush 8, 2, (0, 0, 0, 8, 0)), (.imul, 1, (0, 0, 0, 0, 0)), (.istore_n 2, 1, (2, 0, 0, 0, 0)), (.aload_n 0, 1, (0, 0, 0, 0, 0)), (.getfield 35, 3, (10, 13, 682, 0, 0)), (.iload_n 2, 1, (2, 0, 0, 0, 0)), (.iload_n 2, 1, (2, 0, 0, 0, 0)), (.bipush 8, 2, (0, 0, 0, 8, 0)), (.iadd, 1, (0, 0, 0, 0, 0)), (.iconst (-1), 1, (0, 0, 0, (-1), 0))]
theorem o_BO_fillHops_0 : jokL "ChessHouse$Board" lw_tbl jcl jtb 6 false prog_3_method_3_code 0 k_BO_fillHops_0 = true := jok_sub oo_BO_fillHops_0 0 11 rfl rfl
def k_BO_fillHops_18 : List jI := [(.iconst 0, 1, (0, 0, 0, 0, 0)), (.istore_n 3, 1, (3, 0, 0, 0, 0))]
theorem o_BO_fillHops_18 : jokL "ChessHouse$Board" lw_tbl jcl jtb 6 false prog_3_method_3_code 18 k_BO_fillHops_18 = true := jok_sub oo_BO_fillHops_0 12 2 rfl rfl
def k_BO_fillHops_20 : List jI := [(.iload_n 3, 1, (3, 0, 0, 0, 0)), (.bipush 64, 2, (0, 0, 0, 64, 0)), (.if_icmp .ge 54, 3, (77, 0, 0, 0, 0)), (.iload_n 3, 1, (3, 0, 0, 0, 0)), (.bipush 7, 2, (0, 0, 0, 7, 0)), (.iand, 1, (0, 0, 0, 0, 0)), (.iload_n 1, 1, (1, 0, 0, 0, 0)), (.bipush 7, 2, (0, 0, 0, 7, 0)), (.iand, 1, (0, 0, 0, 0, 0)), (.isub, 1, (0, 0, 0, 0, 0)), (.istore 4, 2, (4, 0, 0, 0, 0)), (.iload_n 3, 1, (3, 0, 0, 0, 0)), (.iconst 3, 1, (0, 0, 0, 3, 0)), (.ishr, 1, (0, 0, 0, 0, 0)), (.iload_n 1, 1, (1, 0, 0, 0, 0)), (.iconst 3, 1, (0, 0, 0, 3, 0)), (.ishr, 1, (0, 0, 0, 0, 0)), (.isub, 1, (0, 0, 0, 0, 0)), (.istore 5, 2, (5, 0, 0, 0, 0)), (.iload 4, 2, (4, 0, 0, 0, 0)), (.iload 4, 2, (4, 0, 0, 0, 0)), (.imul, 1, (0, 0, 0, 0, 0)), (.iload 5, 2, (5, 0, 0, 0, 0)), (.iload 5, 2, (5, 0, 0, 0, 0)), (.imul, 1, (0, 0, 0, 0, 0)), (.iadd, 1, (0, 0, 0, 0, 0)), (.iconst 5, 1, (0, 0, 0, 5, 0)), (.if_icmp .ne 13, 3, (71, 0, 0, 0, 0)), (.aload_n 0, 1, (0, 0, 0, 0, 0)), (.getfield 35, 3, (10, 13, 682, 0, 0)), (.iload_n 2, 1, (2, 0, 0, 0, 0)), (.iload_n 3, 1, (3, 0, 0, 0, 0)), (.iastore, 1, (0, 0, 0, 0, 0)), (.iinc 2 1, 3, (0, 0, 0, 1, 0))]
theorem o_BO_fillHops_20 : jokL "ChessHouse$Board" lw_tbl jcl jtb 6 false prog_3_method_3_code 20 k_BO_fillHops_20 = true := jok_sub oo_BO_fillHops_0 14 34 rfl rfl
def k_BO_fillHops_71 : List jI := [(.iinc 3 1, 3, (0, 0, 0, 1, 0)), (.goto (-54), 3, (20, 0, 0, 0, 0))]
theorem o_BO_fillHops_71 : jokL "ChessHouse$Board" lw_tbl jcl jtb 6 false prog_3_method_3_code 71 k_BO_fillHops_71 = true := jok_sub oo_BO_fillHops_0 48 2 rfl rfl
theorem d_BO_fillHops_15 : decode prog_3_method_3_code 15 = .ok (.invokestatic 61, 3) := by decide +kernel
theorem q_BO_fillHops_15 : jlm lw_tbl 628 "ChessHouse$Board" 61 ⟨"java/util/Arrays", "fill", "([IIII)V"⟩ = true := jlm_of (Or.inl (jtF_ok rfl))
theorem d_BO_fillHops_77 : decode prog_3_method_3_code 77 = .ok (.return_, 1) := by decide +kernel
def y_BO_middle : jY := (⟨"ChessHouse$Board", "middle", "(I)I"⟩, prog_3_method_4_code, 3, (some .int))
theorem m_BO_middle : jmth lw_tbl y_BO_middle 1 := ⟨jTA_in (wi := 639) (jtF_ok rfl) rfl, jTA_in (wi := 312) (jtF_ok rfl) rfl, by decide, by decide, by decide +kernel⟩
theorem s_BO_middle : Jvm.Cond.static y_BO_middle.1 ∈ jTA lw_tbl := jTA_in (wi := 638) (jtF_ok rfl) rfl
def kk_BO_middle_0 : List jI := [(.iload_n 0, 1, (0, 0, 0, 0, 0)), (.bipush 7, 2, (0, 0, 0, 7, 0)), (.iand, 1, (0, 0, 0, 0, 0)), (.istore_n 1, 1, (1, 0, 0, 0, 0)), (.iload_n 0, 1, (0, 0, 0, 0, 0)), (.iconst 3, 1, (0, 0, 0, 3, 0)), (.ishr, 1, (0, 0, 0, 0, 0)), (.istore_n 2, 1, (2, 0, 0, 0, 0)), (.iload_n 1, 1, (1, 0, 0, 0, 0)), (.iconst 4, 1, (0, 0, 0, 4, 0)), (.if_icmp .ge 7, 3, (18, 0, 0, 0, 0)), (.iload_n 1, 1, (1, 0, 0, 0, 0)), (.goto 7, 3, (22, 0, 0, 0, 0)), (.bipush 7, 2, (0, 0, 0, 7, 0)), (.iload_n 1, 1, (1, 0, 0, 0, 0)), (.isub, 1, (0, 0, 0, 0, 0)), (.iload_n 2, 1, (2, 0, 0, 0, 0)), (.iconst 4, 1, (0, 0, 0, 4, 0)), (.if_icmp .ge 7, 3, (31, 0, 0, 0, 0)), (.iload_n 2, 1, (2, 0, 0, 0, 0)), (.goto 7, 3, (35, 0, 0, 0, 0)), (.bipush 7, 2, (0, 0, 0, 7, 0)), (.iload_n 2, 1, (2, 0, 0, 0, 0)), (.isub, 1, (0, 0, 0, 0, 0)), (.iadd, 1, (0, 0, 0, 0, 0)), (.ireturn, 1, (0, 0, 0, 0, 0))]
theorem oo_BO_middle_0 : jokL "ChessHouse$Board" lw_tbl jcl jtb 3 false prog_3_method_4_code 0 kk_BO_middle_0 = true := jokLF_ok (fun _ _ => jtF_ok) lo_BO (by decide +kernel)
def k_BO_middle_0 : List jI := [(.iload_n 0, 1, (0, 0, 0, 0, 0)), (.bipush 7, 2, (0, 0, 0, 7, 0)), (.iand, 1, (0, 0, 0, 0, 0)), (.istore_n 1, 1, (1, 0, 0, 0, 0)), (.iload_n 0, 1, (0, 0, 0, 0, 0)), (.iconst 3, 1, (0, 0, 0, 3, 0)), (.ishr, 1, (0, 0, 0, 0, 0)), (.istore_n 2, 1, (2, 0, 0, 0, 0)), (.iload_n 1, 1, (1, 0, 0, 0, 0)), (.iconst 4, 1, (0, 0, 0, 4, 0)), (.if_icmp .ge 7, 3, (18, 0, 0, 0, 0)), (.iload_n 1, 1, (1, 0, 0, 0, 0)), (.goto 7, 3, (22, 0, 0, 0, 0))]
theorem o_BO_middle_0 : jokL "ChessHouse$Board" lw_tbl jcl jtb 3 false prog_3_method_4_code 0 k_BO_middle_0 = true := jok_sub oo_BO_middle_0 0 13 rfl rfl
def k_BO_middle_18 : List jI := [(.bipush 7, 2, (0, 0, 0, 7, 0)), (.iload_n 1, 1, (1, 0, 0, 0, 0)), (.isub, 1, (0, 0, 0, 0, 0))]
theorem o_BO_middle_18 : jokL "ChessHouse$Board" lw_tbl jcl jtb 3 false prog_3_method_4_code 18 k_BO_middle_18 = true := jok_sub oo_BO_middle_0 13 3 rfl rfl
def k_BO_middle_22 : List jI := [(.iload_n 2, 1, (2, 0, 0, 0, 0)), (.iconst 4, 1, (0, 0, 0, 4, 0)), (.if_icmp .ge 7, 3, (31, 0, 0, 0, 0)), (.iload_n 2, 1, (2, 0, 0, 0, 0)), (.goto 7, 3, (35, 0, 0, 0, 0))]
theorem o_BO_middle_22 : jokL "ChessHouse$Board" lw_tbl jcl jtb 3 false prog_3_method_4_code 22 k_BO_middle_22 = true := jok_sub oo_BO_middle_0 16 5 rfl rfl
def k_BO_middle_31 : List jI := [(.bipush 7, 2, (0, 0, 0, 7, 0)), (.iload_n 2, 1, (2, 0, 0, 0, 0)), (.isub, 1, (0, 0, 0, 0, 0))]
theorem o_BO_middle_31 : jokL "ChessHouse$Board" lw_tbl jcl jtb 3 false prog_3_method_4_code 31 k_BO_middle_31 = true := jok_sub oo_BO_middle_0 21 3 rfl rfl
def k_BO_middle_35 : List jI := [(.iadd, 1, (0, 0, 0, 0, 0))]
theorem o_BO_middle_35 : jokL "ChessHouse$Board" lw_tbl jcl jtb 3 false prog_3_method_4_code 35 k_BO_middle_35 = true := jok_sub oo_BO_middle_0 24 1 rfl rfl
theorem d_BO_middle_36 : decode prog_3_method_4_code 36 = .ok (.ireturn, 1) := by decide +kernel
def y_BO_worthOf : jY := (⟨"ChessHouse$Board", "worthOf", "(II)I"⟩, prog_3_method_5_code, 2, (some .int))
theorem m_BO_worthOf : jmth lw_tbl y_BO_worthOf 2 := ⟨jTA_in (wi := 636) (jtF_ok rfl) rfl, jTA_in (wi := 312) (jtF_ok rfl) rfl, by decide, by decide, by decide +kernel⟩
theorem s_BO_worthOf : Jvm.Cond.static y_BO_worthOf.1 ∈ jTA lw_tbl := jTA_in (wi := 635) (jtF_ok rfl) rfl
def kk_BO_worthOf_0 : List jI := [(.iload_n 0, 1, (0, 0, 0, 0, 0)), (.bipush 7, 2, (0, 0, 0, 7, 0)), (.iand, 1, (0, 0, 0, 0, 0)), (.tableswitch 98 1 5 #[36, 63, 74, 85, 89], 36, (0, 0, 0, 0, 0)), (.bipush 100, 2, (0, 0, 0, 100, 0)), (.bipush 6, 2, (0, 0, 0, 6, 0)), (.iload_n 0, 1, (0, 0, 0, 0, 0)), (.bipush 8, 2, (0, 0, 0, 8, 0)), (.if_icmp .ge 11, 3, (58, 0, 0, 0, 0)), (.iload_n 1, 1, (1, 0, 0, 0, 0)), (.iconst 3, 1, (0, 0, 0, 3, 0)), (.ishr, 1, (0, 0, 0, 0, 0)), (.iconst 1, 1, (0, 0, 0, 1, 0)), (.isub, 1, (0, 0, 0, 0, 0)), (.goto 9, 3, (64, 0, 0, 0, 0)), (.bipush 6, 2, (0, 0, 0, 6, 0)), (.iload_n 1, 1, (1, 0, 0, 0, 0)), (.iconst 3, 1, (0, 0, 0, 3, 0)), (.ishr, 1, (0, 0, 0, 0, 0)), (.isub, 1, (0, 0, 0, 0, 0)), (.imul, 1, (0, 0, 0, 0, 0)), (.iadd, 1, (0, 0, 0, 0, 0)), (.ireturn, 1, (0, 0, 0, 0, 0)), (.sipush 320, 3, (0, 0, 0, 320, 0)), (.iconst 4, 1, (0, 0, 0, 4, 0)), (.iload_n 1, 1, (1, 0, 0, 0, 0)), (.invokestatic 67, 3, (0, 0, 0, 0, 0)), (.imul, 1, (0, 0, 0, 0, 0)), (.iadd, 1, (0, 0, 0, 0, 0)), (.ireturn, 1, (0, 0, 0, 0, 0)), (.sipush 330, 3, (0, 0, 0, 330, 0)), (.iconst 3, 1, (0, 0, 0, 3, 0)), (.iload_n 1, 1, (1, 0, 0, 0, 0)), (.invokestatic 67, 3, (0, 0, 0, 0, 0)), (.imul, 1, (0, 0, 0, 0, 0)), (.iadd, 1, (0, 0, 0, 0, 0)), (.ireturn, 1, (0, 0, 0, 0, 0)), (.sipush 500, 3, (0, 0, 0, 500, 0)), (.ireturn, 1, (0, 0, 0, 0, 0)), (.sipush 900, 3, (0, 0, 0, 900, 0)), (.iload_n 1, 1, (1, 0, 0, 0, 0)), (.invokestatic 67, 3, (0, 0, 0, 0, 0)), (.iadd, 1, (0, 0, 0, 0, 0)), (.ireturn, 1, (0, 0, 0, 0, 0)), (.iconst 0, 1, (0, 0, 0, 0, 0)), (.ireturn, 1, (0, 0, 0, 0, 0))]
theorem oo_BO_worthOf_0 : jokL "ChessHouse$Board" lw_tbl jcl jtb 2 false prog_3_method_5_code 0 kk_BO_worthOf_0 = true := jokLF_ok (fun _ _ => jtF_ok) lo_BO (by decide +kernel)
def k_BO_worthOf_0 : List jI := [(.iload_n 0, 1, (0, 0, 0, 0, 0)), (.bipush 7, 2, (0, 0, 0, 7, 0)), (.iand, 1, (0, 0, 0, 0, 0))]
theorem o_BO_worthOf_0 : jokL "ChessHouse$Board" lw_tbl jcl jtb 2 false prog_3_method_5_code 0 k_BO_worthOf_0 = true := jok_sub oo_BO_worthOf_0 0 3 rfl rfl
def k_BO_worthOf_40 : List jI := [(.bipush 100, 2, (0, 0, 0, 100, 0)), (.bipush 6, 2, (0, 0, 0, 6, 0)), (.iload_n 0, 1, (0, 0, 0, 0, 0)), (.bipush 8, 2, (0, 0, 0, 8, 0)), (.if_icmp .ge 11, 3, (58, 0, 0, 0, 0)), (.iload_n 1, 1, (1, 0, 0, 0, 0)), (.iconst 3, 1, (0, 0, 0, 3, 0)), (.ishr, 1, (0, 0, 0, 0, 0)), (.iconst 1, 1, (0, 0, 0, 1, 0)), (.isub, 1, (0, 0, 0, 0, 0)), (.goto 9, 3, (64, 0, 0, 0, 0))]
theorem o_BO_worthOf_40 : jokL "ChessHouse$Board" lw_tbl jcl jtb 2 false prog_3_method_5_code 40 k_BO_worthOf_40 = true := jok_sub oo_BO_worthOf_0 4 11 rfl rfl
def k_BO_worthOf_58 : List jI := [(.bipush 6, 2, (0, 0, 0, 6, 0)), (.iload_n 1, 1, (1, 0, 0, 0, 0)), (.iconst 3, 1, (0, 0, 0, 3, 0)), (.ishr, 1, (0, 0, 0, 0, 0)), (.isub, 1, (0, 0, 0, 0, 0))]
theorem o_BO_worthOf_58 : jokL "ChessHouse$Board" lw_tbl jcl jtb 2 false prog_3_method_5_code 58 k_BO_worthOf_58 = true := jok_sub oo_BO_worthOf_0 15 5 rfl rfl
def k_BO_worthOf_64 : List jI := [(.imul, 1, (0, 0, 0, 0, 0)), (.iadd, 1, (0, 0, 0, 0, 0))]
theorem o_BO_worthOf_64 : jokL "ChessHouse$Board" lw_tbl jcl jtb 2 false prog_3_method_5_code 64 k_BO_worthOf_64 = true := jok_sub oo_BO_worthOf_0 20 2 rfl rfl
def k_BO_worthOf_67 : List jI := [(.sipush 320, 3, (0, 0, 0, 320, 0)), (.iconst 4, 1, (0, 0, 0, 4, 0)), (.iload_n 1, 1, (1, 0, 0, 0, 0))]
theorem o_BO_worthOf_67 : jokL "ChessHouse$Board" lw_tbl jcl jtb 2 false prog_3_method_5_code 67 k_BO_worthOf_67 = true := jok_sub oo_BO_worthOf_0 23 3 rfl rfl
def k_BO_worthOf_75 : List jI := [(.imul, 1, (0, 0, 0, 0, 0)), (.iadd, 1, (0, 0, 0, 0, 0))]
theorem o_BO_worthOf_75 : jokL "ChessHouse$Board" lw_tbl jcl jtb 2 false prog_3_method_5_code 75 k_BO_worthOf_75 = true := jok_sub oo_BO_worthOf_0 27 2 rfl rfl
def k_BO_worthOf_78 : List jI := [(.sipush 330, 3, (0, 0, 0, 330, 0)), (.iconst 3, 1, (0, 0, 0, 3, 0)), (.iload_n 1, 1, (1, 0, 0, 0, 0))]
theorem o_BO_worthOf_78 : jokL "ChessHouse$Board" lw_tbl jcl jtb 2 false prog_3_method_5_code 78 k_BO_worthOf_78 = true := jok_sub oo_BO_worthOf_0 30 3 rfl rfl
def k_BO_worthOf_86 : List jI := [(.imul, 1, (0, 0, 0, 0, 0)), (.iadd, 1, (0, 0, 0, 0, 0))]
theorem o_BO_worthOf_86 : jokL "ChessHouse$Board" lw_tbl jcl jtb 2 false prog_3_method_5_code 86 k_BO_worthOf_86 = true := jok_sub oo_BO_worthOf_0 34 2 rfl rfl
def k_BO_worthOf_89 : List jI := [(.sipush 500, 3, (0, 0, 0, 500, 0))]
theorem o_BO_worthOf_89 : jokL "ChessHouse$Board" lw_tbl jcl jtb 2 false prog_3_method_5_code 89 k_BO_worthOf_89 = true := jok_sub oo_BO_worthOf_0 37 1 rfl rfl
def k_BO_worthOf_93 : List jI := [(.sipush 900, 3, (0, 0, 0, 900, 0)), (.iload_n 1, 1, (1, 0, 0, 0, 0))]
theorem o_BO_worthOf_93 : jokL "ChessHouse$Board" lw_tbl jcl jtb 2 false prog_3_method_5_code 93 k_BO_worthOf_93 = true := jok_sub oo_BO_worthOf_0 39 2 rfl rfl
def k_BO_worthOf_100 : List jI := [(.iadd, 1, (0, 0, 0, 0, 0))]
theorem o_BO_worthOf_100 : jokL "ChessHouse$Board" lw_tbl jcl jtb 2 false prog_3_method_5_code 100 k_BO_worthOf_100 = true := jok_sub oo_BO_worthOf_0 42 1 rfl rfl
def k_BO_worthOf_102 : List jI := [(.iconst 0, 1, (0, 0, 0, 0, 0))]
theorem o_BO_worthOf_102 : jokL "ChessHouse$Board" lw_tbl jcl jtb 2 false prog_3_method_5_code 102 k_BO_worthOf_102 = true := jok_sub oo_BO_worthOf_0 44 1 rfl rfl
theorem d_BO_worthOf_4 : decode prog_3_method_5_code 4 = .ok (.tableswitch 98 1 5 #[36, 63, 74, 85, 89], 36) := by decide +kernel
theorem d_BO_worthOf_66 : decode prog_3_method_5_code 66 = .ok (.ireturn, 1) := by decide +kernel
theorem d_BO_worthOf_72 : decode prog_3_method_5_code 72 = .ok (.invokestatic 67, 3) := by decide +kernel
theorem q_BO_worthOf_72 : jlm lw_tbl 637 "ChessHouse$Board" 67 ⟨"ChessHouse$Board", "middle", "(I)I"⟩ = true := jlm_of (Or.inl (jtF_ok rfl))
theorem d_BO_worthOf_77 : decode prog_3_method_5_code 77 = .ok (.ireturn, 1) := by decide +kernel
theorem d_BO_worthOf_83 : decode prog_3_method_5_code 83 = .ok (.invokestatic 67, 3) := by decide +kernel
theorem q_BO_worthOf_83 : jlm lw_tbl 637 "ChessHouse$Board" 67 ⟨"ChessHouse$Board", "middle", "(I)I"⟩ = true := jlm_of (Or.inl (jtF_ok rfl))
theorem d_BO_worthOf_88 : decode prog_3_method_5_code 88 = .ok (.ireturn, 1) := by decide +kernel
theorem d_BO_worthOf_92 : decode prog_3_method_5_code 92 = .ok (.ireturn, 1) := by decide +kernel
theorem d_BO_worthOf_97 : decode prog_3_method_5_code 97 = .ok (.invokestatic 67, 3) := by decide +kernel
theorem q_BO_worthOf_97 : jlm lw_tbl 637 "ChessHouse$Board" 67 ⟨"ChessHouse$Board", "middle", "(I)I"⟩ = true := jlm_of (Or.inl (jtF_ok rfl))
theorem d_BO_worthOf_101 : decode prog_3_method_5_code 101 = .ok (.ireturn, 1) := by decide +kernel
theorem d_BO_worthOf_103 : decode prog_3_method_5_code 103 = .ok (.ireturn, 1) := by decide +kernel
def y_BO_clear : jY := (⟨"ChessHouse$Board", "clear", "()V"⟩, prog_3_method_6_code, 1, none)
theorem m_BO_clear : jmth lw_tbl y_BO_clear 0 := ⟨jTA_in (wi := 647) (jtF_ok rfl) rfl, jTA_in (wi := 312) (jtF_ok rfl) rfl, by decide, by decide, by decide +kernel⟩
theorem i_BO_clear : Jvm.Cond.instanceMethod y_BO_clear.1 ∈ jTA lw_tbl := jTA_in (wi := 645) (jtF_ok rfl) rfl
theorem e_BO_clear : Jvm.Cond.selects y_BO_clear.1.cls y_BO_clear.1 y_BO_clear.1 ∈ jTA lw_tbl := jTA_in (wi := 646) (jtF_ok rfl) rfl
def kk_BO_clear_0 : List jI := [(.aload_n 0, 1, (0, 0, 0, 0, 0)), (.getfield 7, 3, (10, 0, 660, 0, 0)), (.iconst 0, 1, (0, 0, 0, 0, 0)), (.invokestatic 71, 3, (0, 0, 0, 0, 0)), (.aload_n 0, 1, (0, 0, 0, 0, 0)), (.getfield 13, 3, (10, 1, 663, 0, 0)), (.iconst 0, 1, (0, 0, 0, 0, 0)), (.invokestatic 71, 3, (0, 0, 0, 0, 0)), (.aload_n 0, 1, (0, 0, 0, 0, 0)), (.getfield 16, 3, (10, 7, 676, 0, 0)), (.lconst 0, 1, (0, 0, 0, 0, 0)), (.invokestatic 74, 3, (0, 0, 0, 0, 0)), (.aload_n 0, 1, (0, 0, 0, 0, 0)), (.getfield 20, 3, (10, 8, 677, 0, 0)), (.iconst 0, 1, (0, 0, 0, 0, 0)), (.invokestatic 71, 3, (0, 0, 0, 0, 0)), (.aload_n 0, 1, (0, 0, 0, 0, 0)), (.getfield 23, 3, (10, 9, 678, 0, 0)), (.iconst 0, 1, (0, 0, 0, 0, 0)), (.invokestatic 71, 3, (0, 0, 0, 0, 0)), (.aload_n 0, 1, (0, 0, 0, 0, 0)), (.getfield 26, 3, (10, 10, 679, 0, 0)), (.iconst 0, 1, (0, 0, 0, 0, 0)), (.invokestatic 71, 3, (0, 0, 0, 0, 0)), (.aload_n 0, 1, (0, 0, 0, 0, 0)), (.iconst 0, 1, (0, 0, 0, 0, 0)), (.putfield 77, 3, (10, 2, 667, 0, 0)), (.aload_n 0, 1, (0, 0, 0, 0, 0)), (.iconst 0, 1, (0, 0, 0, 0, 0)), (.putfield 81, 3, (10, 3, 669, 0, 0)), (.aload_n 0, 1, (0, 0, 0, 0, 0)), (.iconst (-1), 1, (0, 0, 0, (-1), 0)), (.putfield 84, 3, (10, 4, 670, 0, 0)), (.aload_n 0, 1, (0, 0, 0, 0, 0)), (.iconst 0, 1, (0, 0, 0, 0, 0)), (.putfield 87, 3, (10, 5, 671, 0, 0)), (.aload_n 0, 1, (0, 0, 0, 0, 0)), (.iconst 1, 1, (0, 0, 0, 1, 0)), (.putfield 90, 3, (10, 6, 674, 0, 0)), (.aload_n 0, 1, (0, 0, 0, 0, 0)), (.iconst 0, 1, (0, 0, 0, 0, 0)), (.putfield 93, 3, (10, 16, 685, 0, 0)), (.return_, 1, (0, 0, 0, 0, 0))]
theorem oo_BO_clear_0 : jokL "ChessHouse$Board" lw_tbl jcl jtb 1 false prog_3_method_6_code 0 kk_BO_clear_0 = true := jokLF_ok (fun _ _ => jtF_ok) lo_BO (by decide +kernel)
def k_BO_clear_0 : List jI := [(.aload_n 0, 1, (0, 0, 0, 0, 0)), (.getfield 7, 3, (10, 0, 660, 0, 0)), (.iconst 0, 1, (0, 0, 0, 0, 0))]
theorem o_BO_clear_0 : jokL "ChessHouse$Board" lw_tbl jcl jtb 1 false prog_3_method_6_code 0 k_BO_clear_0 = true := jok_sub oo_BO_clear_0 0 3 rfl rfl
def k_BO_clear_8 : List jI := [(.aload_n 0, 1, (0, 0, 0, 0, 0)), (.getfield 13, 3, (10, 1, 663, 0, 0)), (.iconst 0, 1, (0, 0, 0, 0, 0))]
theorem o_BO_clear_8 : jokL "ChessHouse$Board" lw_tbl jcl jtb 1 false prog_3_method_6_code 8 k_BO_clear_8 = true := jok_sub oo_BO_clear_0 4 3 rfl rfl
def k_BO_clear_16 : List jI := [(.aload_n 0, 1, (0, 0, 0, 0, 0)), (.getfield 16, 3, (10, 7, 676, 0, 0)), (.lconst 0, 1, (0, 0, 0, 0, 0))]
theorem o_BO_clear_16 : jokL "ChessHouse$Board" lw_tbl jcl jtb 1 false prog_3_method_6_code 16 k_BO_clear_16 = true := jok_sub oo_BO_clear_0 8 3 rfl rfl
def k_BO_clear_24 : List jI := [(.aload_n 0, 1, (0, 0, 0, 0, 0)), (.getfield 20, 3, (10, 8, 677, 0, 0)), (.iconst 0, 1, (0, 0, 0, 0, 0))]
theorem o_BO_clear_24 : jokL "ChessHouse$Board" lw_tbl jcl jtb 1 false prog_3_method_6_code 24 k_BO_clear_24 = true := jok_sub oo_BO_clear_0 12 3 rfl rfl
def k_BO_clear_32 : List jI := [(.aload_n 0, 1, (0, 0, 0, 0, 0)), (.getfield 23, 3, (10, 9, 678, 0, 0)), (.iconst 0, 1, (0, 0, 0, 0, 0))]
theorem o_BO_clear_32 : jokL "ChessHouse$Board" lw_tbl jcl jtb 1 false prog_3_method_6_code 32 k_BO_clear_32 = true := jok_sub oo_BO_clear_0 16 3 rfl rfl
def k_BO_clear_40 : List jI := [(.aload_n 0, 1, (0, 0, 0, 0, 0)), (.getfield 26, 3, (10, 10, 679, 0, 0)), (.iconst 0, 1, (0, 0, 0, 0, 0))]
theorem o_BO_clear_40 : jokL "ChessHouse$Board" lw_tbl jcl jtb 1 false prog_3_method_6_code 40 k_BO_clear_40 = true := jok_sub oo_BO_clear_0 20 3 rfl rfl
def k_BO_clear_48 : List jI := [(.aload_n 0, 1, (0, 0, 0, 0, 0)), (.iconst 0, 1, (0, 0, 0, 0, 0)), (.putfield 77, 3, (10, 2, 667, 0, 0)), (.aload_n 0, 1, (0, 0, 0, 0, 0)), (.iconst 0, 1, (0, 0, 0, 0, 0)), (.putfield 81, 3, (10, 3, 669, 0, 0)), (.aload_n 0, 1, (0, 0, 0, 0, 0)), (.iconst (-1), 1, (0, 0, 0, (-1), 0)), (.putfield 84, 3, (10, 4, 670, 0, 0)), (.aload_n 0, 1, (0, 0, 0, 0, 0)), (.iconst 0, 1, (0, 0, 0, 0, 0)), (.putfield 87, 3, (10, 5, 671, 0, 0)), (.aload_n 0, 1, (0, 0, 0, 0, 0)), (.iconst 1, 1, (0, 0, 0, 1, 0)), (.putfield 90, 3, (10, 6, 674, 0, 0)), (.aload_n 0, 1, (0, 0, 0, 0, 0)), (.iconst 0, 1, (0, 0, 0, 0, 0)), (.putfield 93, 3, (10, 16, 685, 0, 0))]
theorem o_BO_clear_48 : jokL "ChessHouse$Board" lw_tbl jcl jtb 1 false prog_3_method_6_code 48 k_BO_clear_48 = true := jok_sub oo_BO_clear_0 24 18 rfl rfl
theorem d_BO_clear_5 : decode prog_3_method_6_code 5 = .ok (.invokestatic 71, 3) := by decide +kernel
theorem q_BO_clear_5 : jlm lw_tbl 648 "ChessHouse$Board" 71 ⟨"java/util/Arrays", "fill", "([II)V"⟩ = true := jlm_of (Or.inl (jtF_ok rfl))
theorem d_BO_clear_13 : decode prog_3_method_6_code 13 = .ok (.invokestatic 71, 3) := by decide +kernel
theorem q_BO_clear_13 : jlm lw_tbl 648 "ChessHouse$Board" 71 ⟨"java/util/Arrays", "fill", "([II)V"⟩ = true := jlm_of (Or.inl (jtF_ok rfl))
theorem d_BO_clear_21 : decode prog_3_method_6_code 21 = .ok (.invokestatic 74, 3) := by decide +kernel
theorem q_BO_clear_21 : jlm lw_tbl 651 "ChessHouse$Board" 74 ⟨"java/util/Arrays", "fill", "([JJ)V"⟩ = true := jlm_of (Or.inl (jtF_ok rfl))
theorem d_BO_clear_29 : decode prog_3_method_6_code 29 = .ok (.invokestatic 71, 3) := by decide +kernel
theorem q_BO_clear_29 : jlm lw_tbl 648 "ChessHouse$Board" 71 ⟨"java/util/Arrays", "fill", "([II)V"⟩ = true := jlm_of (Or.inl (jtF_ok rfl))
theorem d_BO_clear_37 : decode prog_3_method_6_code 37 = .ok (.invokestatic 71, 3) := by decide +kernel
theorem q_BO_clear_37 : jlm lw_tbl 648 "ChessHouse$Board" 71 ⟨"java/util/Arrays", "fill", "([II)V"⟩ = true := jlm_of (Or.inl (jtF_ok rfl))
theorem d_BO_clear_45 : decode prog_3_method_6_code 45 = .ok (.invokestatic 71, 3) := by decide +kernel
theorem q_BO_clear_45 : jlm lw_tbl 648 "ChessHouse$Board" 71 ⟨"java/util/Arrays", "fill", "([II)V"⟩ = true := jlm_of (Or.inl (jtF_ok rfl))
theorem d_BO_clear_78 : decode prog_3_method_6_code 78 = .ok (.return_, 1) := by decide +kernel
def y_BO_put : jY := (⟨"ChessHouse$Board", "put", "(II)V"⟩, prog_3_method_8_code, 3, none)
theorem m_BO_put : jmth lw_tbl y_BO_put 2 := ⟨jTA_in (wi := 659) (jtF_ok rfl) rfl, jTA_in (wi := 312) (jtF_ok rfl) rfl, by decide, by decide, by decide +kernel⟩
theorem i_BO_put : Jvm.Cond.instanceMethod y_BO_put.1 ∈ jTA lw_tbl := jTA_in (wi := 658) (jtF_ok rfl) rfl
theorem e_BO_put : Jvm.Cond.selects y_BO_put.1.cls y_BO_put.1 y_BO_put.1 ∈ jTA lw_tbl := jTA_in (wi := 1) (jtF_ok rfl) rfl
def kk_BO_put_0 : List jI := [(.aload_n 0, 1, (0, 0, 0, 0, 0)), (.getfield 7, 3, (10, 0, 660, 0, 0)), (.iload_n 1, 1, (1, 0, 0, 0, 0)), (.iload_n 2, 1, (2, 0, 0, 0, 0)), (.iastore, 1, (0, 0, 0, 0, 0)), (.aload_n 0, 1, (0, 0, 0, 0, 0)), (.getfield 16, 3, (10, 7, 676, 0, 0)), (.iload_n 1, 1, (1, 0, 0, 0, 0)), (.iconst 4, 1, (0, 0, 0, 4, 0)), (.ishr, 1, (0, 0, 0, 0, 0)), (.dup2, 1, (0, 0, 0, 0, 0)), (.laload, 1, (0, 0, 0, 0, 0)), (.iload_n 2, 1, (2, 0, 0, 0, 0)), (.i2l, 1, (0, 0, 0, 0, 0)), (.iload_n 1, 1, (1, 0, 0, 0, 0)), (.bipush 15, 2, (0, 0, 0, 15, 0)), (.iand, 1, (0, 0, 0, 0, 0)), (.iconst 2, 1, (0, 0, 0, 2, 0)), (.ishl, 1, (0, 0, 0, 0, 0)), (.lshl, 1, (0, 0, 0, 0, 0)), (.lxor, 1, (0, 0, 0, 0, 0)), (.lastore, 1, (0, 0, 0, 0, 0)), (.aload_n 0, 1, (0, 0, 0, 0, 0)), (.getfield 20, 3, (10, 8, 677, 0, 0)), (.iload_n 2, 1, (2, 0, 0, 0, 0)), (.iconst 3, 1, (0, 0, 0, 3, 0)), (.ishr, 1, (0, 0, 0, 0, 0)), (.dup2, 1, (0, 0, 0, 0, 0)), (.iaload, 1, (0, 0, 0, 0, 0)), (.aload_n 0, 1, (0, 0, 0, 0, 0)), (.getfield 29, 3, (10, 11, 680, 0, 0)), (.iload_n 2, 1, (2, 0, 0, 0, 0)), (.bipush 6, 2, (0, 0, 0, 6, 0)), (.ishl, 1, (0, 0, 0, 0, 0)), (.iload_n 1, 1, (1, 0, 0, 0, 0)), (.ior, 1, (0, 0, 0, 0, 0)), (.iaload, 1, (0, 0, 0, 0, 0)), (.iadd, 1, (0, 0, 0, 0, 0)), (.iastore, 1, (0, 0, 0, 0, 0)), (.aload_n 0, 1, (0, 0, 0, 0, 0)), (.getfield 23, 3, (10, 9, 678, 0, 0)), (.iload_n 2, 1, (2, 0, 0, 0, 0)), (.dup2, 1, (0, 0, 0, 0, 0)), (.iaload, 1, (0, 0, 0, 0, 0)), (.iconst 1, 1, (0, 0, 0, 1, 0)), (.iadd, 1, (0, 0, 0, 0, 0)), (.iastore, 1, (0, 0, 0, 0, 0)), (.iload_n 2, 1, (2, 0, 0, 0, 0)), (.bipush 7, 2, (0, 0, 0, 7, 0)), (.iand, 1, (0, 0, 0, 0, 0)), (.iconst 3, 1, (0, 0, 0, 3, 0)), (.if_icmp .ne 22, 3, (86, 0, 0, 0, 0)), (.aload_n 0, 1, (0, 0, 0, 0, 0)), (.getfield 26, 3, (10, 10, 679, 0, 0)), (.iload_n 1, 1, (1, 0, 0, 0, 0)), (.iload_n 1, 1, (1, 0, 0, 0, 0)), (.iconst 3, 1, (0, 0, 0, 3, 0)), (.ishr, 1, (0, 0, 0, 0, 0)), (.ixor, 1, (0, 0, 0, 0, 0)), (.iconst 1, 1, (0, 0, 0, 1, 0)), (.iand, 1, (0, 0, 0, 0, 0)), (.dup2, 1, (0, 0, 0, 0, 0)), (.iaload, 1, (0, 0, 0, 0, 0)), (.iconst 1, 1, (0, 0, 0, 1, 0)), (.iadd, 1, (0, 0, 0, 0, 0)), (.iastore, 1, (0, 0, 0, 0, 0)), (.goto 21, 3, (104, 0, 0, 0, 0)), (.iload_n 2, 1, (2, 0, 0, 0, 0)), (.bipush 7, 2, (0, 0, 0, 7, 0)), (.iand, 1, (0, 0, 0, 0, 0)), (.bipush 6, 2, (0, 0, 0, 6, 0)), (.if_icmp .ne 12, 3, (104, 0, 0, 0, 0)), (.aload_n 0, 1, (0, 0, 0, 0, 0)), (.getfield 13, 3, (10, 1, 663, 0, 0)), (.iload_n 2, 1, (2, 0, 0, 0, 0)), (.iconst 3, 1, (0, 0, 0, 3, 0)), (.ishr, 1, (0, 0, 0, 0, 0)), (.iload_n 1, 1, (1, 0, 0, 0, 0)), (.iastore, 1, (0, 0, 0, 0, 0)), (.return_, 1, (0, 0, 0, 0, 0))]
theorem oo_BO_put_0 : jokL "ChessHouse$Board" lw_tbl jcl jtb 3 false prog_3_method_8_code 0 kk_BO_put_0 = true := jokLF_ok (fun _ _ => jtF_ok) lo_BO (by decide +kernel)
def k_BO_put_0 : List jI := [(.aload_n 0, 1, (0, 0, 0, 0, 0)), (.getfield 7, 3, (10, 0, 660, 0, 0)), (.iload_n 1, 1, (1, 0, 0, 0, 0)), (.iload_n 2, 1, (2, 0, 0, 0, 0)), (.iastore, 1, (0, 0, 0, 0, 0)), (.aload_n 0, 1, (0, 0, 0, 0, 0)), (.getfield 16, 3, (10, 7, 676, 0, 0)), (.iload_n 1, 1, (1, 0, 0, 0, 0)), (.iconst 4, 1, (0, 0, 0, 4, 0)), (.ishr, 1, (0, 0, 0, 0, 0)), (.dup2, 1, (0, 0, 0, 0, 0)), (.laload, 1, (0, 0, 0, 0, 0)), (.iload_n 2, 1, (2, 0, 0, 0, 0)), (.i2l, 1, (0, 0, 0, 0, 0)), (.iload_n 1, 1, (1, 0, 0, 0, 0)), (.bipush 15, 2, (0, 0, 0, 15, 0)), (.iand, 1, (0, 0, 0, 0, 0)), (.iconst 2, 1, (0, 0, 0, 2, 0)), (.ishl, 1, (0, 0, 0, 0, 0)), (.lshl, 1, (0, 0, 0, 0, 0)), (.lxor, 1, (0, 0, 0, 0, 0)), (.lastore, 1, (0, 0, 0, 0, 0)), (.aload_n 0, 1, (0, 0, 0, 0, 0)), (.getfield 20, 3, (10, 8, 677, 0, 0)), (.iload_n 2, 1, (2, 0, 0, 0, 0)), (.iconst 3, 1, (0, 0, 0, 3, 0)), (.ishr, 1, (0, 0, 0, 0, 0)), (.dup2, 1, (0, 0, 0, 0, 0)), (.iaload, 1, (0, 0, 0, 0, 0)), (.aload_n 0, 1, (0, 0, 0, 0, 0)), (.getfield 29, 3, (10, 11, 680, 0, 0)), (.iload_n 2, 1, (2, 0, 0, 0, 0)), (.bipush 6, 2, (0, 0, 0, 6, 0)), (.ishl, 1, (0, 0, 0, 0, 0)), (.iload_n 1, 1, (1, 0, 0, 0, 0)), (.ior, 1, (0, 0, 0, 0, 0)), (.iaload, 1, (0, 0, 0, 0, 0)), (.iadd, 1, (0, 0, 0, 0, 0)), (.iastore, 1, (0, 0, 0, 0, 0)), (.aload_n 0, 1, (0, 0, 0, 0, 0)), (.getfield 23, 3, (10, 9, 678, 0, 0)), (.iload_n 2, 1, (2, 0, 0, 0, 0)), (.dup2, 1, (0, 0, 0, 0, 0)), (.iaload, 1, (0, 0, 0, 0, 0)), (.iconst 1, 1, (0, 0, 0, 1, 0)), (.iadd, 1, (0, 0, 0, 0, 0)), (.iastore, 1, (0, 0, 0, 0, 0)), (.iload_n 2, 1, (2, 0, 0, 0, 0)), (.bipush 7, 2, (0, 0, 0, 7, 0)), (.iand, 1, (0, 0, 0, 0, 0)), (.iconst 3, 1, (0, 0, 0, 3, 0)), (.if_icmp .ne 22, 3, (86, 0, 0, 0, 0)), (.aload_n 0, 1, (0, 0, 0, 0, 0)), (.getfield 26, 3, (10, 10, 679, 0, 0)), (.iload_n 1, 1, (1, 0, 0, 0, 0)), (.iload_n 1, 1, (1, 0, 0, 0, 0)), (.iconst 3, 1, (0, 0, 0, 3, 0)), (.ishr, 1, (0, 0, 0, 0, 0)), (.ixor, 1, (0, 0, 0, 0, 0)), (.iconst 1, 1, (0, 0, 0, 1, 0)), (.iand, 1, (0, 0, 0, 0, 0)), (.dup2, 1, (0, 0, 0, 0, 0)), (.iaload, 1, (0, 0, 0, 0, 0)), (.iconst 1, 1, (0, 0, 0, 1, 0)), (.iadd, 1, (0, 0, 0, 0, 0)), (.iastore, 1, (0, 0, 0, 0, 0)), (.goto 21, 3, (104, 0, 0, 0, 0))]
theorem o_BO_put_0 : jokL "ChessHouse$Board" lw_tbl jcl jtb 3 false prog_3_method_8_code 0 k_BO_put_0 = true := jok_sub oo_BO_put_0 0 67 rfl rfl
def k_BO_put_86 : List jI := [(.iload_n 2, 1, (2, 0, 0, 0, 0)), (.bipush 7, 2, (0, 0, 0, 7, 0)), (.iand, 1, (0, 0, 0, 0, 0)), (.bipush 6, 2, (0, 0, 0, 6, 0)), (.if_icmp .ne 12, 3, (104, 0, 0, 0, 0)), (.aload_n 0, 1, (0, 0, 0, 0, 0)), (.getfield 13, 3, (10, 1, 663, 0, 0)), (.iload_n 2, 1, (2, 0, 0, 0, 0)), (.iconst 3, 1, (0, 0, 0, 3, 0)), (.ishr, 1, (0, 0, 0, 0, 0)), (.iload_n 1, 1, (1, 0, 0, 0, 0)), (.iastore, 1, (0, 0, 0, 0, 0))]
theorem o_BO_put_86 : jokL "ChessHouse$Board" lw_tbl jcl jtb 3 false prog_3_method_8_code 86 k_BO_put_86 = true := jok_sub oo_BO_put_0 67 12 rfl rfl
theorem d_BO_put_104 : decode prog_3_method_8_code 104 = .ok (.return_, 1) := by decide +kernel
def y_BO_setFirst : jY := (⟨"ChessHouse$Board", "setFirst", "()V"⟩, prog_3_method_7_code, 2, none)
theorem m_BO_setFirst : jmth lw_tbl y_BO_setFirst 0 := ⟨jTA_in (wi := 643) (jtF_ok rfl) rfl, jTA_in (wi := 312) (jtF_ok rfl) rfl, by decide, by decide, by decide +kernel⟩
theorem i_BO_setFirst : Jvm.Cond.instanceMethod y_BO_setFirst.1 ∈ jTA lw_tbl := jTA_in (wi := 641) (jtF_ok rfl) rfl
theorem e_BO_setFirst : Jvm.Cond.selects y_BO_setFirst.1.cls y_BO_setFirst.1 y_BO_setFirst.1 ∈ jTA lw_tbl := jTA_in (wi := 642) (jtF_ok rfl) rfl
def kk_BO_setFirst_0 : List jI := [(.aload_n 0, 1, (0, 0, 0, 0, 0)), (.invokevirtual 96, 3, (0, 0, 0, 0, 0)), (.iconst 0, 1, (0, 0, 0, 0, 0)), (.istore_n 1, 1, (1, 0, 0, 0, 0)), (.iload_n 1, 1, (1, 0, 0, 0, 0)), (.bipush 8, 2, (0, 0, 0, 8, 0)), (.if_icmp .ge 54, 3, (63, 0, 0, 0, 0)), (.aload_n 0, 1, (0, 0, 0, 0, 0)), (.iload_n 1, 1, (1, 0, 0, 0, 0)), (.getstatic 99, 3, (1, 0, 654, 0, 0)), (.iload_n 1, 1, (1, 0, 0, 0, 0)), (.iaload, 1, (0, 0, 0, 0, 0)), (.invokevirtual 102, 3, (0, 0, 0, 0, 0)), (.aload_n 0, 1, (0, 0, 0, 0, 0)), (.bipush 8, 2, (0, 0, 0, 8, 0)), (.iload_n 1, 1, (1, 0, 0, 0, 0)), (.iadd, 1, (0, 0, 0, 0, 0)), (.iconst 1, 1, (0, 0, 0, 1, 0)), (.invokevirtual 102, 3, (0, 0, 0, 0, 0)), (.aload_n 0, 1, (0, 0, 0, 0, 0)), (.bipush 48, 2, (0, 0, 0, 48, 0)), (.iload_n 1, 1, (1, 0, 0, 0, 0)), (.iadd, 1, (0, 0, 0, 0, 0)), (.bipush 9, 2, (0, 0, 0, 9, 0)), (.invokevirtual 102, 3, (0, 0, 0, 0, 0)), (.aload_n 0, 1, (0, 0, 0, 0, 0)), (.bipush 56, 2, (0, 0, 0, 56, 0)), (.iload_n 1, 1, (1, 0, 0, 0, 0)), (.iadd, 1, (0, 0, 0, 0, 0)), (.bipush 8, 2, (0, 0, 0, 8, 0)), (.getstatic 99, 3, (1, 0, 654, 0, 0)), (.iload_n 1, 1, (1, 0, 0, 0, 0)), (.iaload, 1, (0, 0, 0, 0, 0)), (.iadd, 1, (0, 0, 0, 0, 0)), (.invokevirtual 102, 3, (0, 0, 0, 0, 0)), (.iinc 1 1, 3, (0, 0, 0, 1, 0)), (.goto (-54), 3, (6, 0, 0, 0, 0)), (.aload_n 0, 1, (0, 0, 0, 0, 0)), (.bipush 15, 2, (0, 0, 0, 15, 0)), (.putfield 81, 3, (10, 3, 669, 0, 0)), (.return_, 1, (0, 0, 0, 0, 0))]
theorem oo_BO_setFirst_0 : jokL "ChessHouse$Board" lw_tbl jcl jtb 2 false prog_3_method_7_code 0 kk_BO_setFirst_0 = true := jokLF_ok (fun _ _ => jtF_ok) lo_BO (by decide +kernel)
def k_BO_setFirst_0 : List jI := [(.aload_n 0, 1, (0, 0, 0, 0, 0))]
theorem o_BO_setFirst_0 : jokL "ChessHouse$Board" lw_tbl jcl jtb 2 false prog_3_method_7_code 0 k_BO_setFirst_0 = true := jok_sub oo_BO_setFirst_0 0 1 rfl rfl
def k_BO_setFirst_4 : List jI := [(.iconst 0, 1, (0, 0, 0, 0, 0)), (.istore_n 1, 1, (1, 0, 0, 0, 0))]
theorem o_BO_setFirst_4 : jokL "ChessHouse$Board" lw_tbl jcl jtb 2 false prog_3_method_7_code 4 k_BO_setFirst_4 = true := jok_sub oo_BO_setFirst_0 2 2 rfl rfl
def k_BO_setFirst_6 : List jI := [(.iload_n 1, 1, (1, 0, 0, 0, 0)), (.bipush 8, 2, (0, 0, 0, 8, 0)), (.if_icmp .ge 54, 3, (63, 0, 0, 0, 0)), (.aload_n 0, 1, (0, 0, 0, 0, 0)), (.iload_n 1, 1, (1, 0, 0, 0, 0)), (.getstatic 99, 3, (1, 0, 654, 0, 0)), (.iload_n 1, 1, (1, 0, 0, 0, 0)), (.iaload, 1, (0, 0, 0, 0, 0))]
theorem o_BO_setFirst_6 : jokL "ChessHouse$Board" lw_tbl jcl jtb 2 false prog_3_method_7_code 6 k_BO_setFirst_6 = true := jok_sub oo_BO_setFirst_0 4 8 rfl rfl
def k_BO_setFirst_22 : List jI := [(.aload_n 0, 1, (0, 0, 0, 0, 0)), (.bipush 8, 2, (0, 0, 0, 8, 0)), (.iload_n 1, 1, (1, 0, 0, 0, 0)), (.iadd, 1, (0, 0, 0, 0, 0)), (.iconst 1, 1, (0, 0, 0, 1, 0))]
theorem o_BO_setFirst_22 : jokL "ChessHouse$Board" lw_tbl jcl jtb 2 false prog_3_method_7_code 22 k_BO_setFirst_22 = true := jok_sub oo_BO_setFirst_0 13 5 rfl rfl
def k_BO_setFirst_31 : List jI := [(.aload_n 0, 1, (0, 0, 0, 0, 0)), (.bipush 48, 2, (0, 0, 0, 48, 0)), (.iload_n 1, 1, (1, 0, 0, 0, 0)), (.iadd, 1, (0, 0, 0, 0, 0)), (.bipush 9, 2, (0, 0, 0, 9, 0))]
theorem o_BO_setFirst_31 : jokL "ChessHouse$Board" lw_tbl jcl jtb 2 false prog_3_method_7_code 31 k_BO_setFirst_31 = true := jok_sub oo_BO_setFirst_0 19 5 rfl rfl
def k_BO_setFirst_41 : List jI := [(.aload_n 0, 1, (0, 0, 0, 0, 0)), (.bipush 56, 2, (0, 0, 0, 56, 0)), (.iload_n 1, 1, (1, 0, 0, 0, 0)), (.iadd, 1, (0, 0, 0, 0, 0)), (.bipush 8, 2, (0, 0, 0, 8, 0)), (.getstatic 99, 3, (1, 0, 654, 0, 0)), (.iload_n 1, 1, (1, 0, 0, 0, 0)), (.iaload, 1, (0, 0, 0, 0, 0)), (.iadd, 1, (0, 0, 0, 0, 0))]
theorem o_BO_setFirst_41 : jokL "ChessHouse$Board" lw_tbl jcl jtb 2 false prog_3_method_7_code 41 k_BO_setFirst_41 = true := jok_sub oo_BO_setFirst_0 25 9 rfl rfl
def k_BO_setFirst_57 : List jI := [(.iinc 1 1, 3, (0, 0, 0, 1, 0)), (.goto (-54), 3, (6, 0, 0, 0, 0))]
theorem o_BO_setFirst_57 : jokL "ChessHouse$Board" lw_tbl jcl jtb 2 false prog_3_method_7_code 57 k_BO_setFirst_57 = true := jok_sub oo_BO_setFirst_0 35 2 rfl rfl
def k_BO_setFirst_63 : List jI := [(.aload_n 0, 1, (0, 0, 0, 0, 0)), (.bipush 15, 2, (0, 0, 0, 15, 0)), (.putfield 81, 3, (10, 3, 669, 0, 0))]
theorem o_BO_setFirst_63 : jokL "ChessHouse$Board" lw_tbl jcl jtb 2 false prog_3_method_7_code 63 k_BO_setFirst_63 = true := jok_sub oo_BO_setFirst_0 37 3 rfl rfl
theorem d_BO_setFirst_1 : decode prog_3_method_7_code 1 = .ok (.invokevirtual 96, 3) := by decide +kernel
theorem q_BO_setFirst_1 : jlm lw_tbl 644 "ChessHouse$Board" 96 ⟨"ChessHouse$Board", "clear", "()V"⟩ = true := jlm_of (Or.inl (jtF_ok rfl))
theorem d_BO_setFirst_19 : decode prog_3_method_7_code 19 = .ok (.invokevirtual 102, 3) := by decide +kernel
theorem q_BO_setFirst_19 : jlm lw_tbl 656 "ChessHouse$Board" 102 ⟨"ChessHouse$Board", "put", "(II)V"⟩ = true := jlm_of (Or.inl (jtF_ok rfl))
theorem d_BO_setFirst_28 : decode prog_3_method_7_code 28 = .ok (.invokevirtual 102, 3) := by decide +kernel
theorem q_BO_setFirst_28 : jlm lw_tbl 656 "ChessHouse$Board" 102 ⟨"ChessHouse$Board", "put", "(II)V"⟩ = true := jlm_of (Or.inl (jtF_ok rfl))
theorem d_BO_setFirst_38 : decode prog_3_method_7_code 38 = .ok (.invokevirtual 102, 3) := by decide +kernel
theorem q_BO_setFirst_38 : jlm lw_tbl 656 "ChessHouse$Board" 102 ⟨"ChessHouse$Board", "put", "(II)V"⟩ = true := jlm_of (Or.inl (jtF_ok rfl))
theorem d_BO_setFirst_54 : decode prog_3_method_7_code 54 = .ok (.invokevirtual 102, 3) := by decide +kernel
theorem q_BO_setFirst_54 : jlm lw_tbl 656 "ChessHouse$Board" 102 ⟨"ChessHouse$Board", "put", "(II)V"⟩ = true := jlm_of (Or.inl (jtF_ok rfl))
theorem d_BO_setFirst_69 : decode prog_3_method_7_code 69 = .ok (.return_, 1) := by decide +kernel
def y_BO_init : jY := (⟨"ChessHouse$Board", "<init>", "()V"⟩, prog_3_method_1_code, 3, none)
theorem m_BO_init : jmth lw_tbl y_BO_init 0 := ⟨jTA_in (wi := 617) (jtF_ok rfl) rfl, jTA_in (wi := 312) (jtF_ok rfl) rfl, by decide, by decide, by decide +kernel⟩
theorem i_BO_init : Jvm.Cond.instanceMethod y_BO_init.1 ∈ jTA lw_tbl := jTA_in (wi := 616) (jtF_ok rfl) rfl
def kk_BO_init_0 : List jI := [(.aload_n 0, 1, (0, 0, 0, 0, 0)), (.invokespecial 1, 3, (0, 0, 0, 0, 0)), (.aload_n 0, 1, (0, 0, 0, 0, 0)), (.bipush 64, 2, (0, 0, 0, 64, 0)), (.newarray .int, 2, (0, 0, 0, 0, 0)), (.putfield 7, 3, (10, 0, 660, 3, 0)), (.aload_n 0, 1, (0, 0, 0, 0, 0)), (.iconst 2, 1, (0, 0, 0, 2, 0)), (.newarray .int, 2, (0, 0, 0, 0, 0)), (.putfield 13, 3, (10, 1, 663, 3, 0)), (.aload_n 0, 1, (0, 0, 0, 0, 0)), (.iconst 4, 1, (0, 0, 0, 4, 0)), (.newarray .long, 2, (0, 0, 0, 0, 0)), (.putfield 16, 3, (10, 7, 676, 3, 0)), (.aload_n 0, 1, (0, 0, 0, 0, 0)), (.iconst 2, 1, (0, 0, 0, 2, 0)), (.newarray .int, 2, (0, 0, 0, 0, 0)), (.putfield 20, 3, (10, 8, 677, 3, 0)), (.aload_n 0, 1, (0, 0, 0, 0, 0)), (.bipush 16, 2, (0, 0, 0, 16, 0)), (.newarray .int, 2, (0, 0, 0, 0, 0)), (.putfield 23, 3, (10, 9, 678, 3, 0)), (.aload_n 0, 1, (0, 0, 0, 0, 0)), (.iconst 2, 1, (0, 0, 0, 2, 0)), (.newarray .int, 2, (0, 0, 0, 0, 0)), (.putfield 26, 3, (10, 10, 679, 3, 0)), (.aload_n 0, 1, (0, 0, 0, 0, 0)), (.sipush 1024, 3, (0, 0, 0, 1024, 0)), (.newarray .int, 2, (0, 0, 0, 0, 0)), (.putfield 29, 3, (10, 11, 680, 3, 0)), (.aload_n 0, 1, (0, 0, 0, 0, 0)), (.sipush 512, 3, (0, 0, 0, 512, 0)), (.newarray .int, 2, (0, 0, 0, 0, 0)), (.putfield 32, 3, (10, 12, 681, 3, 0)), (.aload_n 0, 1, (0, 0, 0, 0, 0)), (.sipush 512, 3, (0, 0, 0, 512, 0)), (.newarray .int, 2, (0, 0, 0, 0, 0)), (.putfield 35, 3, (10, 13, 682, 3, 0)), (.aload_n 0, 1, (0, 0, 0, 0, 0)), (.sipush 1280, 3, (0, 0, 0, 1280, 0)), (.newarray .long, 2, (0, 0, 0, 0, 0)), (.putfield 38, 3, (10, 14, 683, 3, 0)), (.aload_n 0, 1, (0, 0, 0, 0, 0)), (.sipush 320, 3, (0, 0, 0, 320, 0)), (.newarray .int, 2, (0, 0, 0, 0, 0)), (.putfield 41, 3, (10, 15, 684, 3, 0)), (.iconst 0, 1, (0, 0, 0, 0, 0)), (.istore_n 1, 1, (1, 0, 0, 0, 0)), (.iload_n 1, 1, (1, 0, 0, 0, 0)), (.bipush 64, 2, (0, 0, 0, 64, 0)), (.if_icmp .ge 78, 3, (176, 0, 0, 0, 0)), (.iconst 0, 1, (0, 0, 0, 0, 0)), (.istore_n 2, 1, (2, 0, 0, 0, 0)), (.iload_n 2, 1, (2, 0, 0, 0, 0)), (.bipush 8, 2, (0, 0, 0, 8, 0)), (.if_icmp .ge 29, 3, (135, 0, 0, 0, 0)), (.aload_n 0, 1, (0, 0, 0, 0, 0)), (.getfield 32, 3, (10, 12, 681, 0, 0)), (.iload_n 1, 1, (1, 0, 0, 0, 0)), (.bipush 8, 2, (0, 0, 0, 8, 0)), (.imul, 1, (0, 0, 0, 0, 0)), (.iload_n 2, 1, (2, 0, 0, 0, 0)), (.iadd, 1, (0, 0, 0, 0, 0)), (.iload_n 1, 1, (1, 0, 0, 0, 0)), (.getstatic 44, 3, (0, 0, 619, 0, 0)), (.iload_n 2, 1, (2, 0, 0, 0, 0)), (.iaload, 1, (0, 0, 0, 0, 0)), (.invokestatic 47, 3, (0, 0, 0, 0, 0)), (.iastore, 1, (0, 0, 0, 0, 0)), (.iinc 2 1, 3, (0, 0, 0, 1, 0)), (.goto (-29), 3, (103, 0, 0, 0, 0)), (.aload_n 0, 1, (0, 0, 0, 0, 0)), (.iload_n 1, 1, (1, 0, 0, 0, 0)), (.invokevirtual 51, 3, (0, 0, 0, 0, 0)), (.iconst 1, 1, (0, 0, 0, 1, 0)), (.istore_n 2, 1, (2, 0, 0, 0, 0)), (.iload_n 2, 1, (2, 0, 0, 0, 0)), (.bipush 15, 2, (0, 0, 0, 15, 0)), (.if_icmp .ge 25, 3, (170, 0, 0, 0, 0)), (.aload_n 0, 1, (0, 0, 0, 0, 0)), (.getfield 29, 3, (10, 11, 680, 0, 0)), (.iload_n 2, 1, (2, 0, 0, 0, 0)), (.bipush 64, 2, (0, 0, 0, 64, 0)), (.imul, 1, (0, 0, 0, 0, 0)), (.iload_n 1, 1, (1, 0, 0, 0, 0)), (.iadd, 1, (0, 0, 0, 0, 0)), (.iload_n 2, 1, (2, 0, 0, 0, 0)), (.iload_n 1, 1, (1, 0, 0, 0, 0)), (.invokestatic 55, 3, (0, 0, 0, 0, 0)), (.iastore, 1, (0, 0, 0, 0, 0)), (.iinc 2 1, 3, (0, 0, 0, 1, 0)), (.goto (-25), 3, (142, 0, 0, 0, 0)), (.iinc 1 1, 3, (0, 0, 0, 1, 0)), (.goto (-78), 3, (95, 0, 0, 0, 0)), (.aload_n 0, 1, (0, 0, 0, 0, 0)), (.invokevirtual 58, 3, (0, 0, 0, 0, 0)), (.return_, 1, (0, 0, 0, 0, 0))]
theorem oo_BO_init_0 : jokL "ChessHouse$Board" lw_tbl jcl jtb 3 true prog_3_method_1_code 0 kk_BO_init_0 = true := by decide +kernel
def k_BO_init_0 : List jI := [(.aload_n 0, 1, (0, 0, 0, 0, 0))]
theorem o_BO_init_0 : jokL "ChessHouse$Board" lw_tbl jcl jtb 3 true prog_3_method_1_code 0 k_BO_init_0 = true := jok_sub oo_BO_init_0 0 1 rfl rfl
def k_BO_init_4 : List jI := [(.aload_n 0, 1, (0, 0, 0, 0, 0)), (.bipush 64, 2, (0, 0, 0, 64, 0))]
theorem o_BO_init_4 : jokL "ChessHouse$Board" lw_tbl jcl jtb 3 true prog_3_method_1_code 4 k_BO_init_4 = true := jok_sub oo_BO_init_0 2 2 rfl rfl
def k_BO_init_9 : List jI := [(.putfield 7, 3, (10, 0, 660, 3, 0)), (.aload_n 0, 1, (0, 0, 0, 0, 0)), (.iconst 2, 1, (0, 0, 0, 2, 0))]
theorem o_BO_init_9 : jokL "ChessHouse$Board" lw_tbl jcl jtb 3 true prog_3_method_1_code 9 k_BO_init_9 = true := jok_sub oo_BO_init_0 5 3 rfl rfl
def k_BO_init_16 : List jI := [(.putfield 13, 3, (10, 1, 663, 3, 0)), (.aload_n 0, 1, (0, 0, 0, 0, 0)), (.iconst 4, 1, (0, 0, 0, 4, 0))]
theorem o_BO_init_16 : jokL "ChessHouse$Board" lw_tbl jcl jtb 3 true prog_3_method_1_code 16 k_BO_init_16 = true := jok_sub oo_BO_init_0 9 3 rfl rfl
def k_BO_init_23 : List jI := [(.putfield 16, 3, (10, 7, 676, 3, 0)), (.aload_n 0, 1, (0, 0, 0, 0, 0)), (.iconst 2, 1, (0, 0, 0, 2, 0))]
theorem o_BO_init_23 : jokL "ChessHouse$Board" lw_tbl jcl jtb 3 true prog_3_method_1_code 23 k_BO_init_23 = true := jok_sub oo_BO_init_0 13 3 rfl rfl
def k_BO_init_30 : List jI := [(.putfield 20, 3, (10, 8, 677, 3, 0)), (.aload_n 0, 1, (0, 0, 0, 0, 0)), (.bipush 16, 2, (0, 0, 0, 16, 0))]
theorem o_BO_init_30 : jokL "ChessHouse$Board" lw_tbl jcl jtb 3 true prog_3_method_1_code 30 k_BO_init_30 = true := jok_sub oo_BO_init_0 17 3 rfl rfl
def k_BO_init_38 : List jI := [(.putfield 23, 3, (10, 9, 678, 3, 0)), (.aload_n 0, 1, (0, 0, 0, 0, 0)), (.iconst 2, 1, (0, 0, 0, 2, 0))]
theorem o_BO_init_38 : jokL "ChessHouse$Board" lw_tbl jcl jtb 3 true prog_3_method_1_code 38 k_BO_init_38 = true := jok_sub oo_BO_init_0 21 3 rfl rfl
def k_BO_init_45 : List jI := [(.putfield 26, 3, (10, 10, 679, 3, 0)), (.aload_n 0, 1, (0, 0, 0, 0, 0)), (.sipush 1024, 3, (0, 0, 0, 1024, 0))]
theorem o_BO_init_45 : jokL "ChessHouse$Board" lw_tbl jcl jtb 3 true prog_3_method_1_code 45 k_BO_init_45 = true := jok_sub oo_BO_init_0 25 3 rfl rfl
def k_BO_init_54 : List jI := [(.putfield 29, 3, (10, 11, 680, 3, 0)), (.aload_n 0, 1, (0, 0, 0, 0, 0)), (.sipush 512, 3, (0, 0, 0, 512, 0))]
theorem o_BO_init_54 : jokL "ChessHouse$Board" lw_tbl jcl jtb 3 true prog_3_method_1_code 54 k_BO_init_54 = true := jok_sub oo_BO_init_0 29 3 rfl rfl
def k_BO_init_63 : List jI := [(.putfield 32, 3, (10, 12, 681, 3, 0)), (.aload_n 0, 1, (0, 0, 0, 0, 0)), (.sipush 512, 3, (0, 0, 0, 512, 0))]
theorem o_BO_init_63 : jokL "ChessHouse$Board" lw_tbl jcl jtb 3 true prog_3_method_1_code 63 k_BO_init_63 = true := jok_sub oo_BO_init_0 33 3 rfl rfl
def k_BO_init_72 : List jI := [(.putfield 35, 3, (10, 13, 682, 3, 0)), (.aload_n 0, 1, (0, 0, 0, 0, 0)), (.sipush 1280, 3, (0, 0, 0, 1280, 0))]
theorem o_BO_init_72 : jokL "ChessHouse$Board" lw_tbl jcl jtb 3 true prog_3_method_1_code 72 k_BO_init_72 = true := jok_sub oo_BO_init_0 37 3 rfl rfl
def k_BO_init_81 : List jI := [(.putfield 38, 3, (10, 14, 683, 3, 0)), (.aload_n 0, 1, (0, 0, 0, 0, 0)), (.sipush 320, 3, (0, 0, 0, 320, 0))]
theorem o_BO_init_81 : jokL "ChessHouse$Board" lw_tbl jcl jtb 3 true prog_3_method_1_code 81 k_BO_init_81 = true := jok_sub oo_BO_init_0 41 3 rfl rfl
def k_BO_init_90 : List jI := [(.putfield 41, 3, (10, 15, 684, 3, 0)), (.iconst 0, 1, (0, 0, 0, 0, 0)), (.istore_n 1, 1, (1, 0, 0, 0, 0))]
theorem o_BO_init_90 : jokL "ChessHouse$Board" lw_tbl jcl jtb 3 true prog_3_method_1_code 90 k_BO_init_90 = true := jok_sub oo_BO_init_0 45 3 rfl rfl
def k_BO_init_95 : List jI := [(.iload_n 1, 1, (1, 0, 0, 0, 0)), (.bipush 64, 2, (0, 0, 0, 64, 0)), (.if_icmp .ge 78, 3, (176, 0, 0, 0, 0)), (.iconst 0, 1, (0, 0, 0, 0, 0)), (.istore_n 2, 1, (2, 0, 0, 0, 0))]
theorem o_BO_init_95 : jokL "ChessHouse$Board" lw_tbl jcl jtb 3 true prog_3_method_1_code 95 k_BO_init_95 = true := jok_sub oo_BO_init_0 48 5 rfl rfl
def k_BO_init_103 : List jI := [(.iload_n 2, 1, (2, 0, 0, 0, 0)), (.bipush 8, 2, (0, 0, 0, 8, 0)), (.if_icmp .ge 29, 3, (135, 0, 0, 0, 0)), (.aload_n 0, 1, (0, 0, 0, 0, 0)), (.getfield 32, 3, (10, 12, 681, 0, 0)), (.iload_n 1, 1, (1, 0, 0, 0, 0)), (.bipush 8, 2, (0, 0, 0, 8, 0)), (.imul, 1, (0, 0, 0, 0, 0)), (.iload_n 2, 1, (2, 0, 0, 0, 0)), (.iadd, 1, (0, 0, 0, 0, 0)), (.iload_n 1, 1, (1, 0, 0, 0, 0)), (.getstatic 44, 3, (0, 0, 619, 0, 0)), (.iload_n 2, 1, (2, 0, 0, 0, 0)), (.iaload, 1, (0, 0, 0, 0, 0))]
theorem o_BO_init_103 : jokL "ChessHouse$Board" lw_tbl jcl jtb 3 true prog_3_method_1_code 103 k_BO_init_103 = true := jok_sub oo_BO_init_0 53 14 rfl rfl
def k_BO_init_128 : List jI := [(.iastore, 1, (0, 0, 0, 0, 0)), (.iinc 2 1, 3, (0, 0, 0, 1, 0)), (.goto (-29), 3, (103, 0, 0, 0, 0))]
theorem o_BO_init_128 : jokL "ChessHouse$Board" lw_tbl jcl jtb 3 true prog_3_method_1_code 128 k_BO_init_128 = true := jok_sub oo_BO_init_0 68 3 rfl rfl
def k_BO_init_135 : List jI := [(.aload_n 0, 1, (0, 0, 0, 0, 0)), (.iload_n 1, 1, (1, 0, 0, 0, 0))]
theorem o_BO_init_135 : jokL "ChessHouse$Board" lw_tbl jcl jtb 3 true prog_3_method_1_code 135 k_BO_init_135 = true := jok_sub oo_BO_init_0 71 2 rfl rfl
def k_BO_init_140 : List jI := [(.iconst 1, 1, (0, 0, 0, 1, 0)), (.istore_n 2, 1, (2, 0, 0, 0, 0))]
theorem o_BO_init_140 : jokL "ChessHouse$Board" lw_tbl jcl jtb 3 true prog_3_method_1_code 140 k_BO_init_140 = true := jok_sub oo_BO_init_0 74 2 rfl rfl
def k_BO_init_142 : List jI := [(.iload_n 2, 1, (2, 0, 0, 0, 0)), (.bipush 15, 2, (0, 0, 0, 15, 0)), (.if_icmp .ge 25, 3, (170, 0, 0, 0, 0)), (.aload_n 0, 1, (0, 0, 0, 0, 0)), (.getfield 29, 3, (10, 11, 680, 0, 0)), (.iload_n 2, 1, (2, 0, 0, 0, 0)), (.bipush 64, 2, (0, 0, 0, 64, 0)), (.imul, 1, (0, 0, 0, 0, 0)), (.iload_n 1, 1, (1, 0, 0, 0, 0)), (.iadd, 1, (0, 0, 0, 0, 0)), (.iload_n 2, 1, (2, 0, 0, 0, 0)), (.iload_n 1, 1, (1, 0, 0, 0, 0))]
theorem o_BO_init_142 : jokL "ChessHouse$Board" lw_tbl jcl jtb 3 true prog_3_method_1_code 142 k_BO_init_142 = true := jok_sub oo_BO_init_0 76 12 rfl rfl
def k_BO_init_163 : List jI := [(.iastore, 1, (0, 0, 0, 0, 0)), (.iinc 2 1, 3, (0, 0, 0, 1, 0)), (.goto (-25), 3, (142, 0, 0, 0, 0))]
theorem o_BO_init_163 : jokL "ChessHouse$Board" lw_tbl jcl jtb 3 true prog_3_method_1_code 163 k_BO_init_163 = true := jok_sub oo_BO_init_0 89 3 rfl rfl
def k_BO_init_170 : List jI := [(.iinc 1 1, 3, (0, 0, 0, 1, 0)), (.goto (-78), 3, (95, 0, 0, 0, 0))]
theorem o_BO_init_170 : jokL "ChessHouse$Board" lw_tbl jcl jtb 3 true prog_3_method_1_code 170 k_BO_init_170 = true := jok_sub oo_BO_init_0 92 2 rfl rfl
def k_BO_init_176 : List jI := [(.aload_n 0, 1, (0, 0, 0, 0, 0))]
theorem o_BO_init_176 : jokL "ChessHouse$Board" lw_tbl jcl jtb 3 true prog_3_method_1_code 176 k_BO_init_176 = true := jok_sub oo_BO_init_0 94 1 rfl rfl
theorem d_BO_init_1 : decode prog_3_method_1_code 1 = .ok (.invokespecial 1, 3) := by decide +kernel
theorem d_BO_init_7 : decode prog_3_method_1_code 7 = .ok (.newarray .int, 2) := by decide +kernel
theorem d_BO_init_14 : decode prog_3_method_1_code 14 = .ok (.newarray .int, 2) := by decide +kernel
theorem d_BO_init_21 : decode prog_3_method_1_code 21 = .ok (.newarray .long, 2) := by decide +kernel
theorem d_BO_init_28 : decode prog_3_method_1_code 28 = .ok (.newarray .int, 2) := by decide +kernel
theorem d_BO_init_36 : decode prog_3_method_1_code 36 = .ok (.newarray .int, 2) := by decide +kernel
theorem d_BO_init_43 : decode prog_3_method_1_code 43 = .ok (.newarray .int, 2) := by decide +kernel
theorem d_BO_init_52 : decode prog_3_method_1_code 52 = .ok (.newarray .int, 2) := by decide +kernel
theorem d_BO_init_61 : decode prog_3_method_1_code 61 = .ok (.newarray .int, 2) := by decide +kernel
theorem d_BO_init_70 : decode prog_3_method_1_code 70 = .ok (.newarray .int, 2) := by decide +kernel
theorem d_BO_init_79 : decode prog_3_method_1_code 79 = .ok (.newarray .long, 2) := by decide +kernel
theorem d_BO_init_88 : decode prog_3_method_1_code 88 = .ok (.newarray .int, 2) := by decide +kernel
theorem d_BO_init_125 : decode prog_3_method_1_code 125 = .ok (.invokestatic 47, 3) := by decide +kernel
theorem q_BO_init_125 : jlm lw_tbl 621 "ChessHouse$Board" 47 ⟨"ChessHouse$Board", "stepsToEdge", "(II)I"⟩ = true := jlm_of (Or.inl (jtF_ok rfl))
theorem d_BO_init_137 : decode prog_3_method_1_code 137 = .ok (.invokevirtual 51, 3) := by decide +kernel
theorem q_BO_init_137 : jlm lw_tbl 624 "ChessHouse$Board" 51 ⟨"ChessHouse$Board", "fillHops", "(I)V"⟩ = true := jlm_of (Or.inl (jtF_ok rfl))
theorem d_BO_init_160 : decode prog_3_method_1_code 160 = .ok (.invokestatic 55, 3) := by decide +kernel
theorem q_BO_init_160 : jlm lw_tbl 634 "ChessHouse$Board" 55 ⟨"ChessHouse$Board", "worthOf", "(II)I"⟩ = true := jlm_of (Or.inl (jtF_ok rfl))
theorem d_BO_init_177 : decode prog_3_method_1_code 177 = .ok (.invokevirtual 58, 3) := by decide +kernel
theorem q_BO_init_177 : jlm lw_tbl 640 "ChessHouse$Board" 58 ⟨"ChessHouse$Board", "setFirst", "()V"⟩ = true := jlm_of (Or.inl (jtF_ok rfl))
theorem d_BO_init_180 : decode prog_3_method_1_code 180 = .ok (.return_, 1) := by decide +kernel
def y_GA_init : jY := (⟨"ChessHouse$Game", "<init>", "()V"⟩, prog_7_method_1_code, 1, none)
theorem m_GA_init : jmth lw_tbl y_GA_init 0 := ⟨jTA_in (wi := 611) (jtF_ok rfl) rfl, jTA_in (wi := 311) (jtF_ok rfl) rfl, by decide, by decide, by decide +kernel⟩
theorem i_GA_init : Jvm.Cond.instanceMethod y_GA_init.1 ∈ jTA lw_tbl := jTA_in (wi := 610) (jtF_ok rfl) rfl
def kk_GA_init_0 : List jI := [(.aload_n 0, 1, (0, 0, 0, 0, 0)), (.invokespecial 3, 3, (0, 0, 0, 0, 0)), (.aload_n 0, 1, (0, 0, 0, 0, 0)), (.new 9, 3, (0, 0, 0, 0, 0)), (.dup, 1, (0, 0, 0, 0, 0)), (.invokespecial 11, 3, (0, 0, 0, 0, 0)), (.putfield 12, 3, (9, 0, 722, 3, 0)), (.aload_n 0, 1, (0, 0, 0, 0, 0)), (.sipush 301, 3, (0, 0, 0, 301, 0)), (.newarray .int, 2, (0, 0, 0, 0, 0)), (.putfield 18, 3, (9, 3, 733, 3, 0)), (.aload_n 0, 1, (0, 0, 0, 0, 0)), (.sipush 301, 3, (0, 0, 0, 301, 0)), (.newarray .int, 2, (0, 0, 0, 0, 0)), (.putfield 22, 3, (9, 4, 736, 3, 0)), (.aload_n 0, 1, (0, 0, 0, 0, 0)), (.sipush 301, 3, (0, 0, 0, 301, 0)), (.newarray .int, 2, (0, 0, 0, 0, 0)), (.putfield 25, 3, (9, 5, 739, 3, 0)), (.aload_n 0, 1, (0, 0, 0, 0, 0)), (.sipush 301, 3, (0, 0, 0, 301, 0)), (.newarray .int, 2, (0, 0, 0, 0, 0)), (.putfield 28, 3, (9, 6, 742, 3, 0)), (.aload_n 0, 1, (0, 0, 0, 0, 0)), (.sipush 301, 3, (0, 0, 0, 301, 0)), (.newarray .long, 2, (0, 0, 0, 0, 0)), (.putfield 31, 3, (9, 7, 745, 3, 0)), (.aload_n 0, 1, (0, 0, 0, 0, 0)), (.sipush 1204, 3, (0, 0, 0, 1204, 0)), (.newarray .int, 2, (0, 0, 0, 0, 0)), (.putfield 35, 3, (9, 8, 747, 3, 0)), (.aload_n 0, 1, (0, 0, 0, 0, 0)), (.sipush 301, 3, (0, 0, 0, 301, 0)), (.newarray .int, 2, (0, 0, 0, 0, 0)), (.putfield 38, 3, (9, 9, 749, 3, 0)), (.aload_n 0, 1, (0, 0, 0, 0, 0)), (.ldc 41, 2, (0, 0, 721, 60200, 0)), (.newarray .byte, 2, (0, 0, 0, 0, 0)), (.putfield 42, 3, (9, 10, 752, 3, 0)), (.aload_n 0, 1, (0, 0, 0, 0, 0)), (.sipush 301, 3, (0, 0, 0, 301, 0)), (.newarray .int, 2, (0, 0, 0, 0, 0)), (.putfield 46, 3, (9, 11, 754, 3, 0)), (.aload_n 0, 1, (0, 0, 0, 0, 0)), (.sipush 301, 3, (0, 0, 0, 301, 0)), (.newarray .int, 2, (0, 0, 0, 0, 0)), (.putfield 49, 3, (9, 12, 757, 3, 0)), (.aload_n 0, 1, (0, 0, 0, 0, 0)), (.bipush 96, 2, (0, 0, 0, 96, 0)), (.newarray .byte, 2, (0, 0, 0, 0, 0)), (.putfield 52, 3, (9, 14, 762, 3, 0)), (.aload_n 0, 1, (0, 0, 0, 0, 0)), (.bipush 8, 2, (0, 0, 0, 8, 0)), (.newarray .int, 2, (0, 0, 0, 0, 0)), (.putfield 55, 3, (9, 15, 764, 3, 0)), (.aload_n 0, 1, (0, 0, 0, 0, 0)), (.sipush 768, 3, (0, 0, 0, 768, 0)), (.newarray .byte, 2, (0, 0, 0, 0, 0)), (.putfield 58, 3, (9, 16, 766, 3, 0)), (.aload_n 0, 1, (0, 0, 0, 0, 0)), (.bipush 8, 2, (0, 0, 0, 8, 0)), (.newarray .int, 2, (0, 0, 0, 0, 0)), (.putfield 61, 3, (9, 17, 768, 3, 0)), (.return_, 1, (0, 0, 0, 0, 0))]
theorem oo_GA_init_0 : jokL "ChessHouse$Game" lw_tbl jcl jtb 1 true prog_7_method_1_code 0 kk_GA_init_0 = true := by decide +kernel
def k_GA_init_0 : List jI := [(.aload_n 0, 1, (0, 0, 0, 0, 0))]
theorem o_GA_init_0 : jokL "ChessHouse$Game" lw_tbl jcl jtb 1 true prog_7_method_1_code 0 k_GA_init_0 = true := jok_sub oo_GA_init_0 0 1 rfl rfl
def k_GA_init_4 : List jI := [(.aload_n 0, 1, (0, 0, 0, 0, 0))]
theorem o_GA_init_4 : jokL "ChessHouse$Game" lw_tbl jcl jtb 1 true prog_7_method_1_code 4 k_GA_init_4 = true := jok_sub oo_GA_init_0 2 1 rfl rfl
def k_GA_init_8 : List jI := [(.dup, 1, (0, 0, 0, 0, 0))]
theorem o_GA_init_8 : jokL "ChessHouse$Game" lw_tbl jcl jtb 1 true prog_7_method_1_code 8 k_GA_init_8 = true := jok_sub oo_GA_init_0 4 1 rfl rfl
def k_GA_init_12 : List jI := [(.putfield 12, 3, (9, 0, 722, 3, 0)), (.aload_n 0, 1, (0, 0, 0, 0, 0)), (.sipush 301, 3, (0, 0, 0, 301, 0))]
theorem o_GA_init_12 : jokL "ChessHouse$Game" lw_tbl jcl jtb 1 true prog_7_method_1_code 12 k_GA_init_12 = true := jok_sub oo_GA_init_0 6 3 rfl rfl
def k_GA_init_21 : List jI := [(.putfield 18, 3, (9, 3, 733, 3, 0)), (.aload_n 0, 1, (0, 0, 0, 0, 0)), (.sipush 301, 3, (0, 0, 0, 301, 0))]
theorem o_GA_init_21 : jokL "ChessHouse$Game" lw_tbl jcl jtb 1 true prog_7_method_1_code 21 k_GA_init_21 = true := jok_sub oo_GA_init_0 10 3 rfl rfl
def k_GA_init_30 : List jI := [(.putfield 22, 3, (9, 4, 736, 3, 0)), (.aload_n 0, 1, (0, 0, 0, 0, 0)), (.sipush 301, 3, (0, 0, 0, 301, 0))]
theorem o_GA_init_30 : jokL "ChessHouse$Game" lw_tbl jcl jtb 1 true prog_7_method_1_code 30 k_GA_init_30 = true := jok_sub oo_GA_init_0 14 3 rfl rfl
def k_GA_init_39 : List jI := [(.putfield 25, 3, (9, 5, 739, 3, 0)), (.aload_n 0, 1, (0, 0, 0, 0, 0)), (.sipush 301, 3, (0, 0, 0, 301, 0))]
theorem o_GA_init_39 : jokL "ChessHouse$Game" lw_tbl jcl jtb 1 true prog_7_method_1_code 39 k_GA_init_39 = true := jok_sub oo_GA_init_0 18 3 rfl rfl
def k_GA_init_48 : List jI := [(.putfield 28, 3, (9, 6, 742, 3, 0)), (.aload_n 0, 1, (0, 0, 0, 0, 0)), (.sipush 301, 3, (0, 0, 0, 301, 0))]
theorem o_GA_init_48 : jokL "ChessHouse$Game" lw_tbl jcl jtb 1 true prog_7_method_1_code 48 k_GA_init_48 = true := jok_sub oo_GA_init_0 22 3 rfl rfl
def k_GA_init_57 : List jI := [(.putfield 31, 3, (9, 7, 745, 3, 0)), (.aload_n 0, 1, (0, 0, 0, 0, 0)), (.sipush 1204, 3, (0, 0, 0, 1204, 0))]
theorem o_GA_init_57 : jokL "ChessHouse$Game" lw_tbl jcl jtb 1 true prog_7_method_1_code 57 k_GA_init_57 = true := jok_sub oo_GA_init_0 26 3 rfl rfl
def k_GA_init_66 : List jI := [(.putfield 35, 3, (9, 8, 747, 3, 0)), (.aload_n 0, 1, (0, 0, 0, 0, 0)), (.sipush 301, 3, (0, 0, 0, 301, 0))]
theorem o_GA_init_66 : jokL "ChessHouse$Game" lw_tbl jcl jtb 1 true prog_7_method_1_code 66 k_GA_init_66 = true := jok_sub oo_GA_init_0 30 3 rfl rfl
def k_GA_init_75 : List jI := [(.putfield 38, 3, (9, 9, 749, 3, 0)), (.aload_n 0, 1, (0, 0, 0, 0, 0)), (.ldc 41, 2, (0, 0, 721, 60200, 0))]
theorem o_GA_init_75 : jokL "ChessHouse$Game" lw_tbl jcl jtb 1 true prog_7_method_1_code 75 k_GA_init_75 = true := jok_sub oo_GA_init_0 34 3 rfl rfl
def k_GA_init_83 : List jI := [(.putfield 42, 3, (9, 10, 752, 3, 0)), (.aload_n 0, 1, (0, 0, 0, 0, 0)), (.sipush 301, 3, (0, 0, 0, 301, 0))]
theorem o_GA_init_83 : jokL "ChessHouse$Game" lw_tbl jcl jtb 1 true prog_7_method_1_code 83 k_GA_init_83 = true := jok_sub oo_GA_init_0 38 3 rfl rfl
def k_GA_init_92 : List jI := [(.putfield 46, 3, (9, 11, 754, 3, 0)), (.aload_n 0, 1, (0, 0, 0, 0, 0)), (.sipush 301, 3, (0, 0, 0, 301, 0))]
theorem o_GA_init_92 : jokL "ChessHouse$Game" lw_tbl jcl jtb 1 true prog_7_method_1_code 92 k_GA_init_92 = true := jok_sub oo_GA_init_0 42 3 rfl rfl
def k_GA_init_101 : List jI := [(.putfield 49, 3, (9, 12, 757, 3, 0)), (.aload_n 0, 1, (0, 0, 0, 0, 0)), (.bipush 96, 2, (0, 0, 0, 96, 0))]
theorem o_GA_init_101 : jokL "ChessHouse$Game" lw_tbl jcl jtb 1 true prog_7_method_1_code 101 k_GA_init_101 = true := jok_sub oo_GA_init_0 46 3 rfl rfl
def k_GA_init_109 : List jI := [(.putfield 52, 3, (9, 14, 762, 3, 0)), (.aload_n 0, 1, (0, 0, 0, 0, 0)), (.bipush 8, 2, (0, 0, 0, 8, 0))]
theorem o_GA_init_109 : jokL "ChessHouse$Game" lw_tbl jcl jtb 1 true prog_7_method_1_code 109 k_GA_init_109 = true := jok_sub oo_GA_init_0 50 3 rfl rfl
def k_GA_init_117 : List jI := [(.putfield 55, 3, (9, 15, 764, 3, 0)), (.aload_n 0, 1, (0, 0, 0, 0, 0)), (.sipush 768, 3, (0, 0, 0, 768, 0))]
theorem o_GA_init_117 : jokL "ChessHouse$Game" lw_tbl jcl jtb 1 true prog_7_method_1_code 117 k_GA_init_117 = true := jok_sub oo_GA_init_0 54 3 rfl rfl
def k_GA_init_126 : List jI := [(.putfield 58, 3, (9, 16, 766, 3, 0)), (.aload_n 0, 1, (0, 0, 0, 0, 0)), (.bipush 8, 2, (0, 0, 0, 8, 0))]
theorem o_GA_init_126 : jokL "ChessHouse$Game" lw_tbl jcl jtb 1 true prog_7_method_1_code 126 k_GA_init_126 = true := jok_sub oo_GA_init_0 58 3 rfl rfl
def k_GA_init_134 : List jI := [(.putfield 61, 3, (9, 17, 768, 3, 0))]
theorem o_GA_init_134 : jokL "ChessHouse$Game" lw_tbl jcl jtb 1 true prog_7_method_1_code 134 k_GA_init_134 = true := jok_sub oo_GA_init_0 62 1 rfl rfl
theorem d_GA_init_1 : decode prog_7_method_1_code 1 = .ok (.invokespecial 3, 3) := by decide +kernel
theorem d_GA_init_5 : decode prog_7_method_1_code 5 = .ok (.new 9, 3) := by decide +kernel
theorem d_GA_init_9 : decode prog_7_method_1_code 9 = .ok (.invokespecial 11, 3) := by decide +kernel
theorem q_GA_init_9 : jlm lw_tbl 615 "ChessHouse$Game" 11 ⟨"ChessHouse$Board", "<init>", "()V"⟩ = true := jlm_of (Or.inl (jtF_ok rfl))
theorem d_GA_init_19 : decode prog_7_method_1_code 19 = .ok (.newarray .int, 2) := by decide +kernel
theorem d_GA_init_28 : decode prog_7_method_1_code 28 = .ok (.newarray .int, 2) := by decide +kernel
theorem d_GA_init_37 : decode prog_7_method_1_code 37 = .ok (.newarray .int, 2) := by decide +kernel
theorem d_GA_init_46 : decode prog_7_method_1_code 46 = .ok (.newarray .int, 2) := by decide +kernel
theorem d_GA_init_55 : decode prog_7_method_1_code 55 = .ok (.newarray .long, 2) := by decide +kernel
theorem d_GA_init_64 : decode prog_7_method_1_code 64 = .ok (.newarray .int, 2) := by decide +kernel
theorem d_GA_init_73 : decode prog_7_method_1_code 73 = .ok (.newarray .int, 2) := by decide +kernel
theorem d_GA_init_81 : decode prog_7_method_1_code 81 = .ok (.newarray .byte, 2) := by decide +kernel
theorem d_GA_init_90 : decode prog_7_method_1_code 90 = .ok (.newarray .int, 2) := by decide +kernel
theorem d_GA_init_99 : decode prog_7_method_1_code 99 = .ok (.newarray .int, 2) := by decide +kernel
theorem d_GA_init_107 : decode prog_7_method_1_code 107 = .ok (.newarray .byte, 2) := by decide +kernel
theorem d_GA_init_115 : decode prog_7_method_1_code 115 = .ok (.newarray .int, 2) := by decide +kernel
theorem d_GA_init_124 : decode prog_7_method_1_code 124 = .ok (.newarray .byte, 2) := by decide +kernel
theorem d_GA_init_132 : decode prog_7_method_1_code 132 = .ok (.newarray .int, 2) := by decide +kernel
theorem d_GA_init_137 : decode prog_7_method_1_code 137 = .ok (.return_, 1) := by decide +kernel
def y_CH_init : jY := (⟨"ChessHouse", "<init>", "()V"⟩, prog_1_method_1_code, 1, none)
theorem m_CH_init : jmth lw_tbl y_CH_init 0 := ⟨jTA_in (wi := 338) (jtF_ok rfl) rfl, jTA_in (wi := 302) (jtF_ok rfl) rfl, by decide, by decide, by decide +kernel⟩
theorem i_CH_init : Jvm.Cond.instanceMethod y_CH_init.1 ∈ jTA lw_tbl := jTA_in (wi := 337) (jtF_ok rfl) rfl
def kk_CH_init_0 : List jI := [(.aload_n 0, 1, (0, 0, 0, 0, 0)), (.invokespecial 1, 3, (0, 0, 0, 0, 0)), (.aload_n 0, 1, (0, 0, 0, 0, 0)), (.ldc 9, 2, (0, 0, 342, 65537, 0)), (.newarray .byte, 2, (0, 0, 0, 0, 0)), (.putfield 10, 3, (0, 0, 813, 3, 0)), (.aload_n 0, 1, (0, 0, 0, 0, 0)), (.new 14, 3, (0, 0, 0, 0, 0)), (.dup, 1, (0, 0, 0, 0, 0)), (.ldc 16, 2, (0, 0, 345, 65536, 0)), (.invokespecial 17, 3, (0, 0, 0, 0, 0)), (.putfield 20, 3, (0, 1, 814, 3, 0)), (.aload_n 0, 1, (0, 0, 0, 0, 0)), (.new 24, 3, (0, 0, 0, 0, 0)), (.dup, 1, (0, 0, 0, 0, 0)), (.invokespecial 26, 3, (0, 0, 0, 0, 0)), (.putfield 27, 3, (0, 2, 815, 3, 0)), (.aload_n 0, 1, (0, 0, 0, 0, 0)), (.new 31, 3, (0, 0, 0, 0, 0)), (.dup, 1, (0, 0, 0, 0, 0)), (.invokespecial 33, 3, (0, 0, 0, 0, 0)), (.putfield 34, 3, (0, 3, 816, 3, 0)), (.aload_n 0, 1, (0, 0, 0, 0, 0)), (.new 38, 3, (0, 0, 0, 0, 0)), (.dup, 1, (0, 0, 0, 0, 0)), (.invokespecial 40, 3, (0, 0, 0, 0, 0)), (.putfield 41, 3, (0, 4, 817, 3, 0)), (.aload_n 0, 1, (0, 0, 0, 0, 0)), (.new 45, 3, (0, 0, 0, 0, 0)), (.dup, 1, (0, 0, 0, 0, 0)), (.invokespecial 47, 3, (0, 0, 0, 0, 0)), (.putfield 48, 3, (0, 5, 818, 3, 0)), (.aload_n 0, 1, (0, 0, 0, 0, 0)), (.new 52, 3, (0, 0, 0, 0, 0)), (.dup, 1, (0, 0, 0, 0, 0)), (.invokespecial 54, 3, (0, 0, 0, 0, 0)), (.putfield 55, 3, (0, 6, 819, 3, 0)), (.aload_n 0, 1, (0, 0, 0, 0, 0)), (.new 59, 3, (0, 0, 0, 0, 0)), (.dup, 1, (0, 0, 0, 0, 0)), (.invokespecial 61, 3, (0, 0, 0, 0, 0)), (.putfield 62, 3, (0, 7, 820, 3, 0)), (.aload_n 0, 1, (0, 0, 0, 0, 0)), (.new 66, 3, (0, 0, 0, 0, 0)), (.dup, 1, (0, 0, 0, 0, 0)), (.invokespecial 68, 3, (0, 0, 0, 0, 0)), (.putfield 69, 3, (0, 8, 821, 3, 0)), (.aload_n 0, 1, (0, 0, 0, 0, 0)), (.sipush 1728, 3, (0, 0, 0, 1728, 0)), (.newarray .int, 2, (0, 0, 0, 0, 0)), (.putfield 75, 3, (0, 9, 822, 3, 0)), (.aload_n 0, 1, (0, 0, 0, 0, 0)), (.new 79, 3, (0, 0, 0, 0, 0)), (.dup, 1, (0, 0, 0, 0, 0)), (.invokespecial 81, 3, (0, 0, 0, 0, 0)), (.putfield 82, 3, (0, 10, 823, 3, 0)), (.aload_n 0, 1, (0, 0, 0, 0, 0)), (.new 79, 3, (0, 0, 0, 0, 0)), (.dup, 1, (0, 0, 0, 0, 0)), (.invokespecial 81, 3, (0, 0, 0, 0, 0)), (.putfield 86, 3, (0, 11, 824, 3, 0)), (.aload_n 0, 1, (0, 0, 0, 0, 0)), (.iconst 0, 1, (0, 0, 0, 0, 0)), (.putfield 89, 3, (0, 12, 825, 0, 0)), (.return_, 1, (0, 0, 0, 0, 0))]
theorem oo_CH_init_0 : jokL "ChessHouse" lw_tbl jcl jtb 1 true prog_1_method_1_code 0 kk_CH_init_0 = true := by decide +kernel
def k_CH_init_0 : List jI := [(.aload_n 0, 1, (0, 0, 0, 0, 0))]
theorem o_CH_init_0 : jokL "ChessHouse" lw_tbl jcl jtb 1 true prog_1_method_1_code 0 k_CH_init_0 = true := jok_sub oo_CH_init_0 0 1 rfl rfl
def k_CH_init_4 : List jI := [(.aload_n 0, 1, (0, 0, 0, 0, 0)), (.ldc 9, 2, (0, 0, 342, 65537, 0))]
theorem o_CH_init_4 : jokL "ChessHouse" lw_tbl jcl jtb 1 true prog_1_method_1_code 4 k_CH_init_4 = true := jok_sub oo_CH_init_0 2 2 rfl rfl
def k_CH_init_9 : List jI := [(.putfield 10, 3, (0, 0, 813, 3, 0)), (.aload_n 0, 1, (0, 0, 0, 0, 0))]
theorem o_CH_init_9 : jokL "ChessHouse" lw_tbl jcl jtb 1 true prog_1_method_1_code 9 k_CH_init_9 = true := jok_sub oo_CH_init_0 5 2 rfl rfl
def k_CH_init_16 : List jI := [(.dup, 1, (0, 0, 0, 0, 0)), (.ldc 16, 2, (0, 0, 345, 65536, 0))]
theorem o_CH_init_16 : jokL "ChessHouse" lw_tbl jcl jtb 1 true prog_1_method_1_code 16 k_CH_init_16 = true := jok_sub oo_CH_init_0 8 2 rfl rfl
def k_CH_init_22 : List jI := [(.putfield 20, 3, (0, 1, 814, 3, 0)), (.aload_n 0, 1, (0, 0, 0, 0, 0))]
theorem o_CH_init_22 : jokL "ChessHouse" lw_tbl jcl jtb 1 true prog_1_method_1_code 22 k_CH_init_22 = true := jok_sub oo_CH_init_0 11 2 rfl rfl
def k_CH_init_29 : List jI := [(.dup, 1, (0, 0, 0, 0, 0))]
theorem o_CH_init_29 : jokL "ChessHouse" lw_tbl jcl jtb 1 true prog_1_method_1_code 29 k_CH_init_29 = true := jok_sub oo_CH_init_0 14 1 rfl rfl
def k_CH_init_33 : List jI := [(.putfield 27, 3, (0, 2, 815, 3, 0)), (.aload_n 0, 1, (0, 0, 0, 0, 0))]
theorem o_CH_init_33 : jokL "ChessHouse" lw_tbl jcl jtb 1 true prog_1_method_1_code 33 k_CH_init_33 = true := jok_sub oo_CH_init_0 16 2 rfl rfl
def k_CH_init_40 : List jI := [(.dup, 1, (0, 0, 0, 0, 0))]
theorem o_CH_init_40 : jokL "ChessHouse" lw_tbl jcl jtb 1 true prog_1_method_1_code 40 k_CH_init_40 = true := jok_sub oo_CH_init_0 19 1 rfl rfl
def k_CH_init_44 : List jI := [(.putfield 34, 3, (0, 3, 816, 3, 0)), (.aload_n 0, 1, (0, 0, 0, 0, 0))]
theorem o_CH_init_44 : jokL "ChessHouse" lw_tbl jcl jtb 1 true prog_1_method_1_code 44 k_CH_init_44 = true := jok_sub oo_CH_init_0 21 2 rfl rfl
def k_CH_init_51 : List jI := [(.dup, 1, (0, 0, 0, 0, 0))]
theorem o_CH_init_51 : jokL "ChessHouse" lw_tbl jcl jtb 1 true prog_1_method_1_code 51 k_CH_init_51 = true := jok_sub oo_CH_init_0 24 1 rfl rfl
def k_CH_init_55 : List jI := [(.putfield 41, 3, (0, 4, 817, 3, 0)), (.aload_n 0, 1, (0, 0, 0, 0, 0))]
theorem o_CH_init_55 : jokL "ChessHouse" lw_tbl jcl jtb 1 true prog_1_method_1_code 55 k_CH_init_55 = true := jok_sub oo_CH_init_0 26 2 rfl rfl
def k_CH_init_62 : List jI := [(.dup, 1, (0, 0, 0, 0, 0))]
theorem o_CH_init_62 : jokL "ChessHouse" lw_tbl jcl jtb 1 true prog_1_method_1_code 62 k_CH_init_62 = true := jok_sub oo_CH_init_0 29 1 rfl rfl
def k_CH_init_66 : List jI := [(.putfield 48, 3, (0, 5, 818, 3, 0)), (.aload_n 0, 1, (0, 0, 0, 0, 0))]
theorem o_CH_init_66 : jokL "ChessHouse" lw_tbl jcl jtb 1 true prog_1_method_1_code 66 k_CH_init_66 = true := jok_sub oo_CH_init_0 31 2 rfl rfl
def k_CH_init_73 : List jI := [(.dup, 1, (0, 0, 0, 0, 0))]
theorem o_CH_init_73 : jokL "ChessHouse" lw_tbl jcl jtb 1 true prog_1_method_1_code 73 k_CH_init_73 = true := jok_sub oo_CH_init_0 34 1 rfl rfl
def k_CH_init_77 : List jI := [(.putfield 55, 3, (0, 6, 819, 3, 0)), (.aload_n 0, 1, (0, 0, 0, 0, 0))]
theorem o_CH_init_77 : jokL "ChessHouse" lw_tbl jcl jtb 1 true prog_1_method_1_code 77 k_CH_init_77 = true := jok_sub oo_CH_init_0 36 2 rfl rfl
def k_CH_init_84 : List jI := [(.dup, 1, (0, 0, 0, 0, 0))]
theorem o_CH_init_84 : jokL "ChessHouse" lw_tbl jcl jtb 1 true prog_1_method_1_code 84 k_CH_init_84 = true := jok_sub oo_CH_init_0 39 1 rfl rfl
def k_CH_init_88 : List jI := [(.putfield 62, 3, (0, 7, 820, 3, 0)), (.aload_n 0, 1, (0, 0, 0, 0, 0))]
theorem o_CH_init_88 : jokL "ChessHouse" lw_tbl jcl jtb 1 true prog_1_method_1_code 88 k_CH_init_88 = true := jok_sub oo_CH_init_0 41 2 rfl rfl
def k_CH_init_95 : List jI := [(.dup, 1, (0, 0, 0, 0, 0))]
theorem o_CH_init_95 : jokL "ChessHouse" lw_tbl jcl jtb 1 true prog_1_method_1_code 95 k_CH_init_95 = true := jok_sub oo_CH_init_0 44 1 rfl rfl
def k_CH_init_99 : List jI := [(.putfield 69, 3, (0, 8, 821, 3, 0)), (.aload_n 0, 1, (0, 0, 0, 0, 0)), (.sipush 1728, 3, (0, 0, 0, 1728, 0))]
theorem o_CH_init_99 : jokL "ChessHouse" lw_tbl jcl jtb 1 true prog_1_method_1_code 99 k_CH_init_99 = true := jok_sub oo_CH_init_0 46 3 rfl rfl
def k_CH_init_108 : List jI := [(.putfield 75, 3, (0, 9, 822, 3, 0)), (.aload_n 0, 1, (0, 0, 0, 0, 0))]
theorem o_CH_init_108 : jokL "ChessHouse" lw_tbl jcl jtb 1 true prog_1_method_1_code 108 k_CH_init_108 = true := jok_sub oo_CH_init_0 50 2 rfl rfl
def k_CH_init_115 : List jI := [(.dup, 1, (0, 0, 0, 0, 0))]
theorem o_CH_init_115 : jokL "ChessHouse" lw_tbl jcl jtb 1 true prog_1_method_1_code 115 k_CH_init_115 = true := jok_sub oo_CH_init_0 53 1 rfl rfl
def k_CH_init_119 : List jI := [(.putfield 82, 3, (0, 10, 823, 3, 0)), (.aload_n 0, 1, (0, 0, 0, 0, 0))]
theorem o_CH_init_119 : jokL "ChessHouse" lw_tbl jcl jtb 1 true prog_1_method_1_code 119 k_CH_init_119 = true := jok_sub oo_CH_init_0 55 2 rfl rfl
def k_CH_init_126 : List jI := [(.dup, 1, (0, 0, 0, 0, 0))]
theorem o_CH_init_126 : jokL "ChessHouse" lw_tbl jcl jtb 1 true prog_1_method_1_code 126 k_CH_init_126 = true := jok_sub oo_CH_init_0 58 1 rfl rfl
def k_CH_init_130 : List jI := [(.putfield 86, 3, (0, 11, 824, 3, 0)), (.aload_n 0, 1, (0, 0, 0, 0, 0)), (.iconst 0, 1, (0, 0, 0, 0, 0)), (.putfield 89, 3, (0, 12, 825, 0, 0))]
theorem o_CH_init_130 : jokL "ChessHouse" lw_tbl jcl jtb 1 true prog_1_method_1_code 130 k_CH_init_130 = true := jok_sub oo_CH_init_0 60 4 rfl rfl
theorem d_CH_init_1 : decode prog_1_method_1_code 1 = .ok (.invokespecial 1, 3) := by decide +kernel
theorem d_CH_init_7 : decode prog_1_method_1_code 7 = .ok (.newarray .byte, 2) := by decide +kernel
theorem d_CH_init_13 : decode prog_1_method_1_code 13 = .ok (.new 14, 3) := by decide +kernel
theorem d_CH_init_19 : decode prog_1_method_1_code 19 = .ok (.invokespecial 17, 3) := by decide +kernel
theorem q_CH_init_19 : jlm lw_tbl 346 "ChessHouse" 17 ⟨"ChessHouse$Bytes", "<init>", "(I)V"⟩ = true := jlm_of (Or.inl (jtF_ok rfl))
theorem d_CH_init_26 : decode prog_1_method_1_code 26 = .ok (.new 24, 3) := by decide +kernel
theorem d_CH_init_30 : decode prog_1_method_1_code 30 = .ok (.invokespecial 26, 3) := by decide +kernel
theorem q_CH_init_30 : jlm lw_tbl 364 "ChessHouse" 26 ⟨"ChessHouse$Words", "<init>", "()V"⟩ = true := jlm_of (Or.inr ⟨_, jtF_ok rfl⟩)
theorem d_CH_init_37 : decode prog_1_method_1_code 37 = .ok (.new 31, 3) := by decide +kernel
theorem d_CH_init_41 : decode prog_1_method_1_code 41 = .ok (.invokespecial 33, 3) := by decide +kernel
theorem q_CH_init_41 : jlm lw_tbl 390 "ChessHouse" 33 ⟨"ChessHouse$Signs", "<init>", "()V"⟩ = true := jlm_of (Or.inr ⟨_, jtF_ok rfl⟩)
theorem d_CH_init_48 : decode prog_1_method_1_code 48 = .ok (.new 38, 3) := by decide +kernel
theorem d_CH_init_52 : decode prog_1_method_1_code 52 = .ok (.invokespecial 40, 3) := by decide +kernel
theorem q_CH_init_52 : jlm lw_tbl 430 "ChessHouse" 40 ⟨"ChessHouse$GameReader", "<init>", "()V"⟩ = true := jlm_of (Or.inr ⟨_, jtF_ok rfl⟩)
theorem d_CH_init_59 : decode prog_1_method_1_code 59 = .ok (.new 45, 3) := by decide +kernel
theorem d_CH_init_63 : decode prog_1_method_1_code 63 = .ok (.invokespecial 47, 3) := by decide +kernel
theorem q_CH_init_63 : jlm lw_tbl 476 "ChessHouse" 47 ⟨"ChessHouse$GameWriter", "<init>", "()V"⟩ = true := jlm_of (Or.inr ⟨_, jtF_ok rfl⟩)
theorem d_CH_init_70 : decode prog_1_method_1_code 70 = .ok (.new 52, 3) := by decide +kernel
theorem d_CH_init_74 : decode prog_1_method_1_code 74 = .ok (.invokespecial 54, 3) := by decide +kernel
theorem q_CH_init_74 : jlm lw_tbl 497 "ChessHouse" 54 ⟨"ChessHouse$Search", "<init>", "()V"⟩ = true := jlm_of (Or.inr ⟨_, jtF_ok rfl⟩)
theorem d_CH_init_81 : decode prog_1_method_1_code 81 = .ok (.new 59, 3) := by decide +kernel
theorem d_CH_init_85 : decode prog_1_method_1_code 85 = .ok (.invokespecial 61, 3) := by decide +kernel
theorem q_CH_init_85 : jlm lw_tbl 527 "ChessHouse" 61 ⟨"ChessHouse$Problems", "<init>", "()V"⟩ = true := jlm_of (Or.inr ⟨_, jtF_ok rfl⟩)
theorem d_CH_init_92 : decode prog_1_method_1_code 92 = .ok (.new 66, 3) := by decide +kernel
theorem d_CH_init_96 : decode prog_1_method_1_code 96 = .ok (.invokespecial 68, 3) := by decide +kernel
theorem q_CH_init_96 : jlm lw_tbl 570 "ChessHouse" 68 ⟨"ChessHouse$Endings", "<init>", "()V"⟩ = true := jlm_of (Or.inr ⟨_, jtF_ok rfl⟩)
theorem d_CH_init_106 : decode prog_1_method_1_code 106 = .ok (.newarray .int, 2) := by decide +kernel
theorem d_CH_init_112 : decode prog_1_method_1_code 112 = .ok (.new 79, 3) := by decide +kernel
theorem d_CH_init_116 : decode prog_1_method_1_code 116 = .ok (.invokespecial 81, 3) := by decide +kernel
theorem q_CH_init_116 : jlm lw_tbl 609 "ChessHouse" 81 ⟨"ChessHouse$Game", "<init>", "()V"⟩ = true := jlm_of (Or.inr ⟨_, jtF_ok rfl⟩)
theorem d_CH_init_123 : decode prog_1_method_1_code 123 = .ok (.new 79, 3) := by decide +kernel
theorem d_CH_init_127 : decode prog_1_method_1_code 127 = .ok (.invokespecial 81, 3) := by decide +kernel
theorem q_CH_init_127 : jlm lw_tbl 609 "ChessHouse" 81 ⟨"ChessHouse$Game", "<init>", "()V"⟩ = true := jlm_of (Or.inr ⟨_, jtF_ok rfl⟩)
theorem d_CH_init_138 : decode prog_1_method_1_code 138 = .ok (.return_, 1) := by decide +kernel
def y_CH_takeFour : jY := (⟨"ChessHouse", "takeFour", "(I)V"⟩, prog_1_method_6_code, 3, none)
theorem m_CH_takeFour : jmth lw_tbl y_CH_takeFour 1 := ⟨jTA_in (wi := 937) (jtF_ok rfl) rfl, jTA_in (wi := 302) (jtF_ok rfl) rfl, by decide, by decide, by decide +kernel⟩
theorem i_CH_takeFour : Jvm.Cond.instanceMethod y_CH_takeFour.1 ∈ jTA lw_tbl := jTA_in (wi := 936) (jtF_ok rfl) rfl
theorem e_CH_takeFour : Jvm.Cond.selects y_CH_takeFour.1.cls y_CH_takeFour.1 y_CH_takeFour.1 ∈ jTA lw_tbl := jTA_in (wi := 3) (jtF_ok rfl) rfl
def kk_CH_takeFour_0 : List jI := [(.bipush 24, 2, (0, 0, 0, 24, 0)), (.istore_n 2, 1, (2, 0, 0, 0, 0)), (.iload_n 2, 1, (2, 0, 0, 0, 0)), (.ifCond .lt 32, 3, (36, 0, 0, 0, 0)), (.aload_n 0, 1, (0, 0, 0, 0, 0)), (.getfield 10, 3, (0, 0, 813, 0, 0)), (.aload_n 0, 1, (0, 0, 0, 0, 0)), (.getfield 89, 3, (0, 12, 825, 0, 0)), (.iload_n 1, 1, (1, 0, 0, 0, 0)), (.iload_n 2, 1, (2, 0, 0, 0, 0)), (.ishr, 1, (0, 0, 0, 0, 0)), (.i2b, 1, (0, 0, 0, 0, 0)), (.bastore, 1, (0, 0, 0, 0, 0)), (.aload_n 0, 1, (0, 0, 0, 0, 0)), (.dup, 1, (0, 0, 0, 0, 0)), (.getfield 89, 3, (0, 12, 825, 0, 0)), (.iconst 1, 1, (0, 0, 0, 1, 0)), (.iadd, 1, (0, 0, 0, 0, 0)), (.putfield 89, 3, (0, 12, 825, 0, 0)), (.iinc 2 (-8), 3, (0, 0, 0, (-8), 0)), (.goto (-30), 3, (3, 0, 0, 0, 0)), (.return_, 1, (0, 0, 0, 0, 0))]
theorem oo_CH_takeFour_0 : jokL "ChessHouse" lw_tbl jcl jtb 3 false prog_1_method_6_code 0 kk_CH_takeFour_0 = true := jokLF_ok (fun _ _ => jtF_ok) lo_CH (by decide +kernel)
def k_CH_takeFour_0 : List jI := [(.bipush 24, 2, (0, 0, 0, 24, 0)), (.istore_n 2, 1, (2, 0, 0, 0, 0))]
theorem o_CH_takeFour_0 : jokL "ChessHouse" lw_tbl jcl jtb 3 false prog_1_method_6_code 0 k_CH_takeFour_0 = true := jok_sub oo_CH_takeFour_0 0 2 rfl rfl
def k_CH_takeFour_3 : List jI := [(.iload_n 2, 1, (2, 0, 0, 0, 0)), (.ifCond .lt 32, 3, (36, 0, 0, 0, 0)), (.aload_n 0, 1, (0, 0, 0, 0, 0)), (.getfield 10, 3, (0, 0, 813, 0, 0)), (.aload_n 0, 1, (0, 0, 0, 0, 0)), (.getfield 89, 3, (0, 12, 825, 0, 0)), (.iload_n 1, 1, (1, 0, 0, 0, 0)), (.iload_n 2, 1, (2, 0, 0, 0, 0)), (.ishr, 1, (0, 0, 0, 0, 0)), (.i2b, 1, (0, 0, 0, 0, 0)), (.bastore, 1, (0, 0, 0, 0, 0)), (.aload_n 0, 1, (0, 0, 0, 0, 0)), (.dup, 1, (0, 0, 0, 0, 0)), (.getfield 89, 3, (0, 12, 825, 0, 0)), (.iconst 1, 1, (0, 0, 0, 1, 0)), (.iadd, 1, (0, 0, 0, 0, 0)), (.putfield 89, 3, (0, 12, 825, 0, 0)), (.iinc 2 (-8), 3, (0, 0, 0, (-8), 0)), (.goto (-30), 3, (3, 0, 0, 0, 0))]
theorem o_CH_takeFour_3 : jokL "ChessHouse" lw_tbl jcl jtb 3 false prog_1_method_6_code 3 k_CH_takeFour_3 = true := jok_sub oo_CH_takeFour_0 2 19 rfl rfl
theorem d_CH_takeFour_36 : decode prog_1_method_6_code 36 = .ok (.return_, 1) := by decide +kernel
def y_CH_feed : jY := (⟨"ChessHouse", "feed", "(IIIII)V"⟩, prog_1_method_2_code, 6, none)
theorem m_CH_feed : jmth lw_tbl y_CH_feed 5 := ⟨jTA_in (wi := 870) (jtF_ok rfl) rfl, jTA_in (wi := 302) (jtF_ok rfl) rfl, by decide, by decide, by decide +kernel⟩
theorem i_CH_feed : Jvm.Cond.instanceMethod y_CH_feed.1 ∈ jTA lw_tbl := jTA_in (wi := 868) (jtF_ok rfl) rfl
theorem e_CH_feed : Jvm.Cond.selects y_CH_feed.1.cls y_CH_feed.1 y_CH_feed.1 ∈ jTA lw_tbl := jTA_in (wi := 869) (jtF_ok rfl) rfl
def kk_CH_feed_0 : List jI := [(.aload_n 0, 1, (0, 0, 0, 0, 0)), (.getfield 89, 3, (0, 12, 825, 0, 0)), (.bipush 20, 2, (0, 0, 0, 20, 0)), (.iadd, 1, (0, 0, 0, 0, 0)), (.ldc 16, 2, (0, 0, 345, 65536, 0)), (.if_icmp .le 11, 3, (20, 0, 0, 0, 0)), (.new 93, 3, (0, 0, 0, 0, 0)), (.dup, 1, (0, 0, 0, 0, 0)), (.invokespecial 95, 3, (0, 0, 0, 0, 0)), (.athrow, 1, (0, 0, 0, 0, 0)), (.aload_n 0, 1, (0, 0, 0, 0, 0)), (.iload_n 1, 1, (1, 0, 0, 0, 0)), (.invokevirtual 96, 3, (0, 0, 0, 0, 0)), (.aload_n 0, 1, (0, 0, 0, 0, 0)), (.iload_n 2, 1, (2, 0, 0, 0, 0)), (.invokevirtual 96, 3, (0, 0, 0, 0, 0)), (.aload_n 0, 1, (0, 0, 0, 0, 0)), (.iload_n 3, 1, (3, 0, 0, 0, 0)), (.invokevirtual 96, 3, (0, 0, 0, 0, 0)), (.aload_n 0, 1, (0, 0, 0, 0, 0)), (.iload 4, 2, (4, 0, 0, 0, 0)), (.invokevirtual 96, 3, (0, 0, 0, 0, 0)), (.aload_n 0, 1, (0, 0, 0, 0, 0)), (.iload 5, 2, (5, 0, 0, 0, 0)), (.invokevirtual 96, 3, (0, 0, 0, 0, 0)), (.return_, 1, (0, 0, 0, 0, 0))]
theorem oo_CH_feed_0 : jokL "ChessHouse" lw_tbl jcl jtb 6 false prog_1_method_2_code 0 kk_CH_feed_0 = true := jokLF_ok (fun _ _ => jtF_ok) lo_CH (by decide +kernel)
def k_CH_feed_0 : List jI := [(.aload_n 0, 1, (0, 0, 0, 0, 0)), (.getfield 89, 3, (0, 12, 825, 0, 0)), (.bipush 20, 2, (0, 0, 0, 20, 0)), (.iadd, 1, (0, 0, 0, 0, 0)), (.ldc 16, 2, (0, 0, 345, 65536, 0)), (.if_icmp .le 11, 3, (20, 0, 0, 0, 0))]
theorem o_CH_feed_0 : jokL "ChessHouse" lw_tbl jcl jtb 6 false prog_1_method_2_code 0 k_CH_feed_0 = true := jok_sub oo_CH_feed_0 0 6 rfl rfl
def k_CH_feed_15 : List jI := [(.dup, 1, (0, 0, 0, 0, 0))]
theorem o_CH_feed_15 : jokL "ChessHouse" lw_tbl jcl jtb 6 false prog_1_method_2_code 15 k_CH_feed_15 = true := jok_sub oo_CH_feed_0 7 1 rfl rfl
def k_CH_feed_20 : List jI := [(.aload_n 0, 1, (0, 0, 0, 0, 0)), (.iload_n 1, 1, (1, 0, 0, 0, 0))]
theorem o_CH_feed_20 : jokL "ChessHouse" lw_tbl jcl jtb 6 false prog_1_method_2_code 20 k_CH_feed_20 = true := jok_sub oo_CH_feed_0 10 2 rfl rfl
def k_CH_feed_25 : List jI := [(.aload_n 0, 1, (0, 0, 0, 0, 0)), (.iload_n 2, 1, (2, 0, 0, 0, 0))]
theorem o_CH_feed_25 : jokL "ChessHouse" lw_tbl jcl jtb 6 false prog_1_method_2_code 25 k_CH_feed_25 = true := jok_sub oo_CH_feed_0 13 2 rfl rfl
def k_CH_feed_30 : List jI := [(.aload_n 0, 1, (0, 0, 0, 0, 0)), (.iload_n 3, 1, (3, 0, 0, 0, 0))]
theorem o_CH_feed_30 : jokL "ChessHouse" lw_tbl jcl jtb 6 false prog_1_method_2_code 30 k_CH_feed_30 = true := jok_sub oo_CH_feed_0 16 2 rfl rfl
def k_CH_feed_35 : List jI := [(.aload_n 0, 1, (0, 0, 0, 0, 0)), (.iload 4, 2, (4, 0, 0, 0, 0))]
theorem o_CH_feed_35 : jokL "ChessHouse" lw_tbl jcl jtb 6 false prog_1_method_2_code 35 k_CH_feed_35 = true := jok_sub oo_CH_feed_0 19 2 rfl rfl
def k_CH_feed_41 : List jI := [(.aload_n 0, 1, (0, 0, 0, 0, 0)), (.iload 5, 2, (5, 0, 0, 0, 0))]
theorem o_CH_feed_41 : jokL "ChessHouse" lw_tbl jcl jtb 6 false prog_1_method_2_code 41 k_CH_feed_41 = true := jok_sub oo_CH_feed_0 22 2 rfl rfl
theorem d_CH_feed_12 : decode prog_1_method_2_code 12 = .ok (.new 93, 3) := by decide +kernel
theorem d_CH_feed_16 : decode prog_1_method_2_code 16 = .ok (.invokespecial 95, 3) := by decide +kernel
theorem d_CH_feed_19 : decode prog_1_method_2_code 19 = .ok (.athrow, 1) := by decide +kernel
theorem d_CH_feed_22 : decode prog_1_method_2_code 22 = .ok (.invokevirtual 96, 3) := by decide +kernel
theorem q_CH_feed_22 : jlm lw_tbl 934 "ChessHouse" 96 ⟨"ChessHouse", "takeFour", "(I)V"⟩ = true := jlm_of (Or.inl (jtF_ok rfl))
theorem d_CH_feed_27 : decode prog_1_method_2_code 27 = .ok (.invokevirtual 96, 3) := by decide +kernel
theorem q_CH_feed_27 : jlm lw_tbl 934 "ChessHouse" 96 ⟨"ChessHouse", "takeFour", "(I)V"⟩ = true := jlm_of (Or.inl (jtF_ok rfl))
theorem d_CH_feed_32 : decode prog_1_method_2_code 32 = .ok (.invokevirtual 96, 3) := by decide +kernel
theorem q_CH_feed_32 : jlm lw_tbl 934 "ChessHouse" 96 ⟨"ChessHouse", "takeFour", "(I)V"⟩ = true := jlm_of (Or.inl (jtF_ok rfl))
theorem d_CH_feed_38 : decode prog_1_method_2_code 38 = .ok (.invokevirtual 96, 3) := by decide +kernel
theorem q_CH_feed_38 : jlm lw_tbl 934 "ChessHouse" 96 ⟨"ChessHouse", "takeFour", "(I)V"⟩ = true := jlm_of (Or.inl (jtF_ok rfl))
theorem d_CH_feed_44 : decode prog_1_method_2_code 44 = .ok (.invokevirtual 96, 3) := by decide +kernel
theorem q_CH_feed_44 : jlm lw_tbl 934 "ChessHouse" 96 ⟨"ChessHouse", "takeFour", "(I)V"⟩ = true := jlm_of (Or.inl (jtF_ok rfl))
theorem d_CH_feed_47 : decode prog_1_method_2_code 47 = .ok (.return_, 1) := by decide +kernel
def y_CH_size : jY := (⟨"ChessHouse", "size", "()I"⟩, prog_1_method_4_code, 1, (some .int))
theorem m_CH_size : jmth lw_tbl y_CH_size 0 := ⟨jTA_in (wi := 862) (jtF_ok rfl) rfl, jTA_in (wi := 302) (jtF_ok rfl) rfl, by decide, by decide, by decide +kernel⟩
theorem i_CH_size : Jvm.Cond.instanceMethod y_CH_size.1 ∈ jTA lw_tbl := jTA_in (wi := 860) (jtF_ok rfl) rfl
theorem e_CH_size : Jvm.Cond.selects y_CH_size.1.cls y_CH_size.1 y_CH_size.1 ∈ jTA lw_tbl := jTA_in (wi := 861) (jtF_ok rfl) rfl
def kk_CH_size_0 : List jI := [(.aload_n 0, 1, (0, 0, 0, 0, 0)), (.getfield 20, 3, (0, 1, 814, 0, 0)), (.getfield 123, 3, (1, 1, 355, 0, 0)), (.ireturn, 1, (0, 0, 0, 0, 0))]
theorem oo_CH_size_0 : jokL "ChessHouse" lw_tbl jcl jtb 1 false prog_1_method_4_code 0 kk_CH_size_0 = true := jokLF_ok (fun _ _ => jtF_ok) lo_CH (by decide +kernel)
def k_CH_size_0 : List jI := [(.aload_n 0, 1, (0, 0, 0, 0, 0)), (.getfield 20, 3, (0, 1, 814, 0, 0)), (.getfield 123, 3, (1, 1, 355, 0, 0))]
theorem o_CH_size_0 : jokL "ChessHouse" lw_tbl jcl jtb 1 false prog_1_method_4_code 0 k_CH_size_0 = true := jok_sub oo_CH_size_0 0 3 rfl rfl
theorem d_CH_size_7 : decode prog_1_method_4_code 7 = .ok (.ireturn, 1) := by decide +kernel
def y_CH_out : jY := (⟨"ChessHouse", "out", "(I)I"⟩, prog_1_method_5_code, 2, (some .int))
theorem m_CH_out : jmth lw_tbl y_CH_out 1 := ⟨jTA_in (wi := 1885) (jtF_ok rfl) rfl, jTA_in (wi := 302) (jtF_ok rfl) rfl, by decide, by decide, by decide +kernel⟩
theorem i_CH_out : Jvm.Cond.instanceMethod y_CH_out.1 ∈ jTA lw_tbl := jTA_in (wi := 1883) (jtF_ok rfl) rfl
theorem e_CH_out : Jvm.Cond.selects y_CH_out.1.cls y_CH_out.1 y_CH_out.1 ∈ jTA lw_tbl := jTA_in (wi := 1884) (jtF_ok rfl) rfl
def kk_CH_out_0 : List jI := [(.iload_n 1, 1, (1, 0, 0, 0, 0)), (.ifCond .lt 14, 3, (15, 0, 0, 0, 0)), (.iload_n 1, 1, (1, 0, 0, 0, 0)), (.aload_n 0, 1, (0, 0, 0, 0, 0)), (.getfield 20, 3, (0, 1, 814, 0, 0)), (.getfield 123, 3, (1, 1, 355, 0, 0)), (.if_icmp .lt 11, 3, (23, 0, 0, 0, 0)), (.new 126, 3, (0, 0, 0, 0, 0)), (.dup, 1, (0, 0, 0, 0, 0)), (.invokespecial 128, 3, (0, 0, 0, 0, 0)), (.athrow, 1, (0, 0, 0, 0, 0)), (.aload_n 0, 1, (0, 0, 0, 0, 0)), (.getfield 20, 3, (0, 1, 814, 0, 0)), (.getfield 129, 3, (1, 0, 352, 0, 0)), (.iload_n 1, 1, (1, 0, 0, 0, 0)), (.baload, 1, (0, 0, 0, 0, 0)), (.sipush 255, 3, (0, 0, 0, 255, 0)), (.iand, 1, (0, 0, 0, 0, 0)), (.ireturn, 1, (0, 0, 0, 0, 0))]
theorem oo_CH_out_0 : jokL "ChessHouse" lw_tbl jcl jtb 2 false prog_1_method_5_code 0 kk_CH_out_0 = true := jokLF_ok (fun _ _ => jtF_ok) lo_CH (by decide +kernel)
def k_CH_out_0 : List jI := [(.iload_n 1, 1, (1, 0, 0, 0, 0)), (.ifCond .lt 14, 3, (15, 0, 0, 0, 0)), (.iload_n 1, 1, (1, 0, 0, 0, 0)), (.aload_n 0, 1, (0, 0, 0, 0, 0)), (.getfield 20, 3, (0, 1, 814, 0, 0)), (.getfield 123, 3, (1, 1, 355, 0, 0)), (.if_icmp .lt 11, 3, (23, 0, 0, 0, 0))]
theorem o_CH_out_0 : jokL "ChessHouse" lw_tbl jcl jtb 2 false prog_1_method_5_code 0 k_CH_out_0 = true := jok_sub oo_CH_out_0 0 7 rfl rfl
def k_CH_out_18 : List jI := [(.dup, 1, (0, 0, 0, 0, 0))]
theorem o_CH_out_18 : jokL "ChessHouse" lw_tbl jcl jtb 2 false prog_1_method_5_code 18 k_CH_out_18 = true := jok_sub oo_CH_out_0 8 1 rfl rfl
def k_CH_out_23 : List jI := [(.aload_n 0, 1, (0, 0, 0, 0, 0)), (.getfield 20, 3, (0, 1, 814, 0, 0)), (.getfield 129, 3, (1, 0, 352, 0, 0)), (.iload_n 1, 1, (1, 0, 0, 0, 0)), (.baload, 1, (0, 0, 0, 0, 0)), (.sipush 255, 3, (0, 0, 0, 255, 0)), (.iand, 1, (0, 0, 0, 0, 0))]
theorem o_CH_out_23 : jokL "ChessHouse" lw_tbl jcl jtb 2 false prog_1_method_5_code 23 k_CH_out_23 = true := jok_sub oo_CH_out_0 11 7 rfl rfl
theorem d_CH_out_15 : decode prog_1_method_5_code 15 = .ok (.new 126, 3) := by decide +kernel
theorem d_CH_out_19 : decode prog_1_method_5_code 19 = .ok (.invokespecial 128, 3) := by decide +kernel
theorem d_CH_out_22 : decode prog_1_method_5_code 22 = .ok (.athrow, 1) := by decide +kernel
theorem d_CH_out_36 : decode prog_1_method_5_code 36 = .ok (.ireturn, 1) := by decide +kernel
def y_CH_end : jY := (⟨"ChessHouse", "end", "(I)I"⟩, prog_1_method_3_code, 5, (some .int))
theorem m_CH_end : jmth lw_tbl y_CH_end 1 := ⟨jTA_in (wi := 945) (jtF_ok rfl) rfl, jTA_in (wi := 302) (jtF_ok rfl) rfl, by decide, by decide, by decide +kernel⟩
theorem i_CH_end : Jvm.Cond.instanceMethod y_CH_end.1 ∈ jTA lw_tbl := jTA_in (wi := 943) (jtF_ok rfl) rfl
theorem e_CH_end : Jvm.Cond.selects y_CH_end.1.cls y_CH_end.1 y_CH_end.1 ∈ jTA lw_tbl := jTA_in (wi := 944) (jtF_ok rfl) rfl
def kk_CH_end_0 : List jI := [(.iload_n 1, 1, (1, 0, 0, 0, 0)), (.ifCond .lt 11, 3, (12, 0, 0, 0, 0)), (.iload_n 1, 1, (1, 0, 0, 0, 0)), (.aload_n 0, 1, (0, 0, 0, 0, 0)), (.getfield 89, 3, (0, 12, 825, 0, 0)), (.if_icmp .le 11, 3, (20, 0, 0, 0, 0)), (.new 99, 3, (0, 0, 0, 0, 0)), (.dup, 1, (0, 0, 0, 0, 0)), (.invokespecial 101, 3, (0, 0, 0, 0, 0)), (.athrow, 1, (0, 0, 0, 0, 0)), (.aload_n 0, 1, (0, 0, 0, 0, 0)), (.getfield 20, 3, (0, 1, 814, 0, 0)), (.invokevirtual 102, 3, (0, 0, 0, 0, 0)), (.aload_n 0, 1, (0, 0, 0, 0, 0)), (.iconst 0, 1, (0, 0, 0, 0, 0)), (.putfield 105, 3, (0, 14, 827, 0, 0)), (.aload_n 0, 1, (0, 0, 0, 0, 0)), (.getfield 10, 3, (0, 0, 813, 0, 0)), (.iload_n 1, 1, (1, 0, 0, 0, 0)), (.bipush 10, 2, (0, 0, 0, 10, 0)), (.bastore, 1, (0, 0, 0, 0, 0)), (.aload_n 0, 1, (0, 0, 0, 0, 0)), (.iconst 0, 1, (0, 0, 0, 0, 0)), (.putfield 108, 3, (0, 13, 826, 0, 0)), (.iconst 0, 1, (0, 0, 0, 0, 0)), (.istore_n 2, 1, (2, 0, 0, 0, 0)), (.iload_n 2, 1, (2, 0, 0, 0, 0)), (.iload_n 1, 1, (1, 0, 0, 0, 0)), (.if_icmp .ge 62, 3, (111, 0, 0, 0, 0)), (.aload_n 0, 1, (0, 0, 0, 0, 0)), (.getfield 108, 3, (0, 13, 826, 0, 0)), (.iload_n 1, 1, (1, 0, 0, 0, 0)), (.if_icmp .ge 54, 3, (111, 0, 0, 0, 0)), (.aload_n 0, 1, (0, 0, 0, 0, 0)), (.getfield 108, 3, (0, 13, 826, 0, 0)), (.istore_n 3, 1, (3, 0, 0, 0, 0)), (.aload_n 0, 1, (0, 0, 0, 0, 0)), (.iload_n 3, 1, (3, 0, 0, 0, 0)), (.invokevirtual 111, 3, (0, 0, 0, 0, 0)), (.istore 4, 2, (4, 0, 0, 0, 0)), (.aload_n 0, 1, (0, 0, 0, 0, 0)), (.iload 4, 2, (4, 0, 0, 0, 0)), (.iconst 1, 1, (0, 0, 0, 1, 0)), (.iadd, 1, (0, 0, 0, 0, 0)), (.putfield 108, 3, (0, 13, 826, 0, 0)), (.iload 4, 2, (4, 0, 0, 0, 0)), (.iload_n 3, 1, (3, 0, 0, 0, 0)), (.if_icmp .le 22, 3, (105, 0, 0, 0, 0)), (.aload_n 0, 1, (0, 0, 0, 0, 0)), (.aload_n 0, 1, (0, 0, 0, 0, 0)), (.getfield 27, 3, (0, 2, 815, 0, 0)), (.aload_n 0, 1, (0, 0, 0, 0, 0)), (.getfield 10, 3, (0, 0, 813, 0, 0)), (.iload_n 3, 1, (3, 0, 0, 0, 0)), (.iload 4, 2, (4, 0, 0, 0, 0)), (.invokevirtual 115, 3, (0, 0, 0, 0, 0)), (.iload_n 1, 1, (1, 0, 0, 0, 0)), (.invokevirtual 119, 3, (0, 0, 0, 0, 0)), (.iinc 2 1, 3, (0, 0, 0, 1, 0)), (.goto (-61), 3, (47, 0, 0, 0, 0)), (.aload_n 0, 1, (0, 0, 0, 0, 0)), (.iconst 0, 1, (0, 0, 0, 0, 0)), (.putfield 89, 3, (0, 12, 825, 0, 0)), (.aload_n 0, 1, (0, 0, 0, 0, 0)), (.getfield 105, 3, (0, 14, 827, 0, 0)), (.ireturn, 1, (0, 0, 0, 0, 0))]
theorem oo_CH_end_0 : jokL "ChessHouse" lw_tbl jcl jtb 5 false prog_1_method_3_code 0 kk_CH_end_0 = true := jokLF_ok (fun _ _ => jtF_ok) lo_CH (by decide +kernel)
def k_CH_end_0 : List jI := [(.iload_n 1, 1, (1, 0, 0, 0, 0)), (.ifCond .lt 11, 3, (12, 0, 0, 0, 0)), (.iload_n 1, 1, (1, 0, 0, 0, 0)), (.aload_n 0, 1, (0, 0, 0, 0, 0)), (.getfield 89, 3, (0, 12, 825, 0, 0)), (.if_icmp .le 11, 3, (20, 0, 0, 0, 0))]
theorem o_CH_end_0 : jokL "ChessHouse" lw_tbl jcl jtb 5 false prog_1_method_3_code 0 k_CH_end_0 = true := jok_sub oo_CH_end_0 0 6 rfl rfl
def k_CH_end_15 : List jI := [(.dup, 1, (0, 0, 0, 0, 0))]
theorem o_CH_end_15 : jokL "ChessHouse" lw_tbl jcl jtb 5 false prog_1_method_3_code 15 k_CH_end_15 = true := jok_sub oo_CH_end_0 7 1 rfl rfl
def k_CH_end_20 : List jI := [(.aload_n 0, 1, (0, 0, 0, 0, 0)), (.getfield 20, 3, (0, 1, 814, 0, 0))]
theorem o_CH_end_20 : jokL "ChessHouse" lw_tbl jcl jtb 5 false prog_1_method_3_code 20 k_CH_end_20 = true := jok_sub oo_CH_end_0 10 2 rfl rfl
def k_CH_end_27 : List jI := [(.aload_n 0, 1, (0, 0, 0, 0, 0)), (.iconst 0, 1, (0, 0, 0, 0, 0)), (.putfield 105, 3, (0, 14, 827, 0, 0)), (.aload_n 0, 1, (0, 0, 0, 0, 0)), (.getfield 10, 3, (0, 0, 813, 0, 0)), (.iload_n 1, 1, (1, 0, 0, 0, 0)), (.bipush 10, 2, (0, 0, 0, 10, 0)), (.bastore, 1, (0, 0, 0, 0, 0)), (.aload_n 0, 1, (0, 0, 0, 0, 0)), (.iconst 0, 1, (0, 0, 0, 0, 0)), (.putfield 108, 3, (0, 13, 826, 0, 0)), (.iconst 0, 1, (0, 0, 0, 0, 0)), (.istore_n 2, 1, (2, 0, 0, 0, 0))]
theorem o_CH_end_27 : jokL "ChessHouse" lw_tbl jcl jtb 5 false prog_1_method_3_code 27 k_CH_end_27 = true := jok_sub oo_CH_end_0 13 13 rfl rfl
def k_CH_end_47 : List jI := [(.iload_n 2, 1, (2, 0, 0, 0, 0)), (.iload_n 1, 1, (1, 0, 0, 0, 0)), (.if_icmp .ge 62, 3, (111, 0, 0, 0, 0)), (.aload_n 0, 1, (0, 0, 0, 0, 0)), (.getfield 108, 3, (0, 13, 826, 0, 0)), (.iload_n 1, 1, (1, 0, 0, 0, 0)), (.if_icmp .ge 54, 3, (111, 0, 0, 0, 0)), (.aload_n 0, 1, (0, 0, 0, 0, 0)), (.getfield 108, 3, (0, 13, 826, 0, 0)), (.istore_n 3, 1, (3, 0, 0, 0, 0)), (.aload_n 0, 1, (0, 0, 0, 0, 0)), (.iload_n 3, 1, (3, 0, 0, 0, 0))]
theorem o_CH_end_47 : jokL "ChessHouse" lw_tbl jcl jtb 5 false prog_1_method_3_code 47 k_CH_end_47 = true := jok_sub oo_CH_end_0 26 12 rfl rfl
def k_CH_end_70 : List jI := [(.istore 4, 2, (4, 0, 0, 0, 0)), (.aload_n 0, 1, (0, 0, 0, 0, 0)), (.iload 4, 2, (4, 0, 0, 0, 0)), (.iconst 1, 1, (0, 0, 0, 1, 0)), (.iadd, 1, (0, 0, 0, 0, 0)), (.putfield 108, 3, (0, 13, 826, 0, 0)), (.iload 4, 2, (4, 0, 0, 0, 0)), (.iload_n 3, 1, (3, 0, 0, 0, 0)), (.if_icmp .le 22, 3, (105, 0, 0, 0, 0)), (.aload_n 0, 1, (0, 0, 0, 0, 0)), (.aload_n 0, 1, (0, 0, 0, 0, 0)), (.getfield 27, 3, (0, 2, 815, 0, 0)), (.aload_n 0, 1, (0, 0, 0, 0, 0)), (.getfield 10, 3, (0, 0, 813, 0, 0)), (.iload_n 3, 1, (3, 0, 0, 0, 0)), (.iload 4, 2, (4, 0, 0, 0, 0))]
theorem o_CH_end_70 : jokL "ChessHouse" lw_tbl jcl jtb 5 false prog_1_method_3_code 70 k_CH_end_70 = true := jok_sub oo_CH_end_0 39 16 rfl rfl
def k_CH_end_101 : List jI := [(.iload_n 1, 1, (1, 0, 0, 0, 0))]
theorem o_CH_end_101 : jokL "ChessHouse" lw_tbl jcl jtb 5 false prog_1_method_3_code 101 k_CH_end_101 = true := jok_sub oo_CH_end_0 56 1 rfl rfl
def k_CH_end_105 : List jI := [(.iinc 2 1, 3, (0, 0, 0, 1, 0)), (.goto (-61), 3, (47, 0, 0, 0, 0))]
theorem o_CH_end_105 : jokL "ChessHouse" lw_tbl jcl jtb 5 false prog_1_method_3_code 105 k_CH_end_105 = true := jok_sub oo_CH_end_0 58 2 rfl rfl
def k_CH_end_111 : List jI := [(.aload_n 0, 1, (0, 0, 0, 0, 0)), (.iconst 0, 1, (0, 0, 0, 0, 0)), (.putfield 89, 3, (0, 12, 825, 0, 0)), (.aload_n 0, 1, (0, 0, 0, 0, 0)), (.getfield 105, 3, (0, 14, 827, 0, 0))]
theorem o_CH_end_111 : jokL "ChessHouse" lw_tbl jcl jtb 5 false prog_1_method_3_code 111 k_CH_end_111 = true := jok_sub oo_CH_end_0 60 5 rfl rfl
theorem d_CH_end_12 : decode prog_1_method_3_code 12 = .ok (.new 99, 3) := by decide +kernel
theorem d_CH_end_16 : decode prog_1_method_3_code 16 = .ok (.invokespecial 101, 3) := by decide +kernel
theorem d_CH_end_19 : decode prog_1_method_3_code 19 = .ok (.athrow, 1) := by decide +kernel
theorem d_CH_end_24 : decode prog_1_method_3_code 24 = .ok (.invokevirtual 102, 3) := by decide +kernel
theorem q_CH_end_24 : jlm lw_tbl 961 "ChessHouse" 102 ⟨"ChessHouse$Bytes", "clear", "()V"⟩ = true := jlm_of (Or.inl (jtF_ok rfl))
theorem d_CH_end_67 : decode prog_1_method_3_code 67 = .ok (.invokevirtual 111, 3) := by decide +kernel
theorem q_CH_end_67 : jlm lw_tbl 965 "ChessHouse" 111 ⟨"ChessHouse", "lineStop", "(I)I"⟩ = true := jlm_of (Or.inl (jtF_ok rfl))
theorem d_CH_end_98 : decode prog_1_method_3_code 98 = .ok (.invokevirtual 115, 3) := by decide +kernel
theorem q_CH_end_98 : jlm lw_tbl 969 "ChessHouse" 115 ⟨"ChessHouse$Words", "take", "([BII)LChessHouse$Command;"⟩ = true := jlm_of (Or.inl (jtF_ok rfl))
theorem d_CH_end_102 : decode prog_1_method_3_code 102 = .ok (.invokevirtual 119, 3) := by decide +kernel
theorem q_CH_end_102 : jlm lw_tbl 1037 "ChessHouse" 119 ⟨"ChessHouse", "perform", "(LChessHouse$Command;I)V"⟩ = true := jlm_of (Or.inl (jtF_ok rfl))
theorem d_CH_end_120 : decode prog_1_method_3_code 120 = .ok (.ireturn, 1) := by decide +kernel
def y_MB_init : jY := (⟨"ChessHouseModel$Board", "<init>", "()V"⟩, prog_16_method_1_code, 1, none)
theorem m_MB_init : jmth lw_tbl y_MB_init 0 := ⟨jTA_in (wi := 2167) (jtF_ok rfl) rfl, jTA_in (wi := 316) (jtF_ok rfl) rfl, by decide, by decide, by decide +kernel⟩
theorem i_MB_init : Jvm.Cond.instanceMethod y_MB_init.1 ∈ jTA lw_tbl := jTA_in (wi := 2166) (jtF_ok rfl) rfl
def kk_MB_init_0 : List jI := [(.aload_n 0, 1, (0, 0, 0, 0, 0)), (.invokespecial 3, 3, (0, 0, 0, 0, 0)), (.aload_n 0, 1, (0, 0, 0, 0, 0)), (.ldc 9, 2, (0, 0, 2169, 65536, 0)), (.newarray .char, 2, (0, 0, 0, 0, 0)), (.putfield 10, 3, (13, 1, 2172, 3, 0)), (.aload_n 0, 1, (0, 0, 0, 0, 0)), (.bipush 64, 2, (0, 0, 0, 64, 0)), (.newarray .int, 2, (0, 0, 0, 0, 0)), (.putfield 16, 3, (13, 2, 2174, 3, 0)), (.aload_n 0, 1, (0, 0, 0, 0, 0)), (.iconst (-1), 1, (0, 0, 0, (-1), 0)), (.putfield 20, 3, (13, 5, 2180, 0, 0)), (.aload_n 0, 1, (0, 0, 0, 0, 0)), (.sipush 19520, 3, (0, 0, 0, 19520, 0)), (.newarray .int, 2, (0, 0, 0, 0, 0)), (.putfield 24, 3, (13, 9, 2188, 3, 0)), (.aload_n 0, 1, (0, 0, 0, 0, 0)), (.sipush 305, 3, (0, 0, 0, 305, 0)), (.newarray .int, 2, (0, 0, 0, 0, 0)), (.putfield 27, 3, (13, 10, 2189, 3, 0)), (.aload_n 0, 1, (0, 0, 0, 0, 0)), (.sipush 305, 3, (0, 0, 0, 305, 0)), (.newarray .int, 2, (0, 0, 0, 0, 0)), (.putfield 30, 3, (13, 11, 2190, 3, 0)), (.aload_n 0, 1, (0, 0, 0, 0, 0)), (.sipush 305, 3, (0, 0, 0, 305, 0)), (.newarray .int, 2, (0, 0, 0, 0, 0)), (.putfield 33, 3, (13, 12, 2191, 3, 0)), (.aload_n 0, 1, (0, 0, 0, 0, 0)), (.sipush 305, 3, (0, 0, 0, 305, 0)), (.newarray .int, 2, (0, 0, 0, 0, 0)), (.putfield 36, 3, (13, 13, 2192, 3, 0)), (.aload_n 0, 1, (0, 0, 0, 0, 0)), (.sipush 305, 3, (0, 0, 0, 305, 0)), (.newarray .int, 2, (0, 0, 0, 0, 0)), (.putfield 39, 3, (13, 14, 2193, 3, 0)), (.aload_n 0, 1, (0, 0, 0, 0, 0)), (.bipush 11, 2, (0, 0, 0, 11, 0)), (.newarray .int, 2, (0, 0, 0, 0, 0)), (.putfield 42, 3, (13, 15, 2194, 3, 0)), (.aload_n 0, 1, (0, 0, 0, 0, 0)), (.bipush 11, 2, (0, 0, 0, 11, 0)), (.newarray .int, 2, (0, 0, 0, 0, 0)), (.putfield 45, 3, (13, 16, 2195, 3, 0)), (.aload_n 0, 1, (0, 0, 0, 0, 0)), (.bipush 11, 2, (0, 0, 0, 11, 0)), (.newarray .int, 2, (0, 0, 0, 0, 0)), (.putfield 48, 3, (13, 17, 2196, 3, 0)), (.aload_n 0, 1, (0, 0, 0, 0, 0)), (.bipush 11, 2, (0, 0, 0, 11, 0)), (.newarray .int, 2, (0, 0, 0, 0, 0)), (.putfield 51, 3, (13, 18, 2197, 3, 0)), (.aload_n 0, 1, (0, 0, 0, 0, 0)), (.bipush 11, 2, (0, 0, 0, 11, 0)), (.newarray .int, 2, (0, 0, 0, 0, 0)), (.putfield 54, 3, (13, 19, 2198, 3, 0)), (.aload_n 0, 1, (0, 0, 0, 0, 0)), (.bipush 11, 2, (0, 0, 0, 11, 0)), (.newarray .int, 2, (0, 0, 0, 0, 0)), (.putfield 57, 3, (13, 20, 2199, 3, 0)), (.aload_n 0, 1, (0, 0, 0, 0, 0)), (.sipush 20480, 3, (0, 0, 0, 20480, 0)), (.newarray .int, 2, (0, 0, 0, 0, 0)), (.putfield 60, 3, (13, 21, 2200, 3, 0)), (.aload_n 0, 1, (0, 0, 0, 0, 0)), (.bipush 10, 2, (0, 0, 0, 10, 0)), (.newarray .int, 2, (0, 0, 0, 0, 0)), (.putfield 63, 3, (13, 22, 2201, 3, 0)), (.aload_n 0, 1, (0, 0, 0, 0, 0)), (.iconst 4, 1, (0, 0, 0, 4, 0)), (.newarray .int, 2, (0, 0, 0, 0, 0)), (.putfield 66, 3, (13, 28, 2210, 3, 0)), (.aload_n 0, 1, (0, 0, 0, 0, 0)), (.sipush 2048, 3, (0, 0, 0, 2048, 0)), (.newarray .int, 2, (0, 0, 0, 0, 0)), (.putfield 69, 3, (13, 30, 2214, 3, 0)), (.aload_n 0, 1, (0, 0, 0, 0, 0)), (.iconst 4, 1, (0, 0, 0, 4, 0)), (.newarray .int, 2, (0, 0, 0, 0, 0)), (.putfield 72, 3, (13, 33, 2220, 3, 0)), (.aload_n 0, 1, (0, 0, 0, 0, 0)), (.iconst 4, 1, (0, 0, 0, 4, 0)), (.newarray .int, 2, (0, 0, 0, 0, 0)), (.putfield 75, 3, (13, 34, 2222, 3, 0)), (.return_, 1, (0, 0, 0, 0, 0))]
theorem oo_MB_init_0 : jokL "ChessHouseModel$Board" lw_tbl jcl jtb 1 true prog_16_method_1_code 0 kk_MB_init_0 = true := by decide +kernel
def k_MB_init_0 : List jI := [(.aload_n 0, 1, (0, 0, 0, 0, 0))]
theorem o_MB_init_0 : jokL "ChessHouseModel$Board" lw_tbl jcl jtb 1 true prog_16_method_1_code 0 k_MB_init_0 = true := jok_sub oo_MB_init_0 0 1 rfl rfl
def k_MB_init_4 : List jI := [(.aload_n 0, 1, (0, 0, 0, 0, 0)), (.ldc 9, 2, (0, 0, 2169, 65536, 0))]
theorem o_MB_init_4 : jokL "ChessHouseModel$Board" lw_tbl jcl jtb 1 true prog_16_method_1_code 4 k_MB_init_4 = true := jok_sub oo_MB_init_0 2 2 rfl rfl
def k_MB_init_9 : List jI := [(.putfield 10, 3, (13, 1, 2172, 3, 0)), (.aload_n 0, 1, (0, 0, 0, 0, 0)), (.bipush 64, 2, (0, 0, 0, 64, 0))]
theorem o_MB_init_9 : jokL "ChessHouseModel$Board" lw_tbl jcl jtb 1 true prog_16_method_1_code 9 k_MB_init_9 = true := jok_sub oo_MB_init_0 5 3 rfl rfl
def k_MB_init_17 : List jI := [(.putfield 16, 3, (13, 2, 2174, 3, 0)), (.aload_n 0, 1, (0, 0, 0, 0, 0)), (.iconst (-1), 1, (0, 0, 0, (-1), 0)), (.putfield 20, 3, (13, 5, 2180, 0, 0)), (.aload_n 0, 1, (0, 0, 0, 0, 0)), (.sipush 19520, 3, (0, 0, 0, 19520, 0))]
theorem o_MB_init_17 : jokL "ChessHouseModel$Board" lw_tbl jcl jtb 1 true prog_16_method_1_code 17 k_MB_init_17 = true := jok_sub oo_MB_init_0 9 6 rfl rfl
def k_MB_init_31 : List jI := [(.putfield 24, 3, (13, 9, 2188, 3, 0)), (.aload_n 0, 1, (0, 0, 0, 0, 0)), (.sipush 305, 3, (0, 0, 0, 305, 0))]
theorem o_MB_init_31 : jokL "ChessHouseModel$Board" lw_tbl jcl jtb 1 true prog_16_method_1_code 31 k_MB_init_31 = true := jok_sub oo_MB_init_0 16 3 rfl rfl
def k_MB_init_40 : List jI := [(.putfield 27, 3, (13, 10, 2189, 3, 0)), (.aload_n 0, 1, (0, 0, 0, 0, 0)), (.sipush 305, 3, (0, 0, 0, 305, 0))]
theorem o_MB_init_40 : jokL "ChessHouseModel$Board" lw_tbl jcl jtb 1 true prog_16_method_1_code 40 k_MB_init_40 = true := jok_sub oo_MB_init_0 20 3 rfl rfl
def k_MB_init_49 : List jI := [(.putfield 30, 3, (13, 11, 2190, 3, 0)), (.aload_n 0, 1, (0, 0, 0, 0, 0)), (.sipush 305, 3, (0, 0, 0, 305, 0))]
theorem o_MB_init_49 : jokL "ChessHouseModel$Board" lw_tbl jcl jtb 1 true prog_16_method_1_code 49 k_MB_init_49 = true := jok_sub oo_MB_init_0 24 3 rfl rfl
def k_MB_init_58 : List jI := [(.putfield 33, 3, (13, 12, 2191, 3, 0)), (.aload_n 0, 1, (0, 0, 0, 0, 0)), (.sipush 305, 3, (0, 0, 0, 305, 0))]
theorem o_MB_init_58 : jokL "ChessHouseModel$Board" lw_tbl jcl jtb 1 true prog_16_method_1_code 58 k_MB_init_58 = true := jok_sub oo_MB_init_0 28 3 rfl rfl
def k_MB_init_67 : List jI := [(.putfield 36, 3, (13, 13, 2192, 3, 0)), (.aload_n 0, 1, (0, 0, 0, 0, 0)), (.sipush 305, 3, (0, 0, 0, 305, 0))]
theorem o_MB_init_67 : jokL "ChessHouseModel$Board" lw_tbl jcl jtb 1 true prog_16_method_1_code 67 k_MB_init_67 = true := jok_sub oo_MB_init_0 32 3 rfl rfl
def k_MB_init_76 : List jI := [(.putfield 39, 3, (13, 14, 2193, 3, 0)), (.aload_n 0, 1, (0, 0, 0, 0, 0)), (.bipush 11, 2, (0, 0, 0, 11, 0))]
theorem o_MB_init_76 : jokL "ChessHouseModel$Board" lw_tbl jcl jtb 1 true prog_16_method_1_code 76 k_MB_init_76 = true := jok_sub oo_MB_init_0 36 3 rfl rfl
def k_MB_init_84 : List jI := [(.putfield 42, 3, (13, 15, 2194, 3, 0)), (.aload_n 0, 1, (0, 0, 0, 0, 0)), (.bipush 11, 2, (0, 0, 0, 11, 0))]
theorem o_MB_init_84 : jokL "ChessHouseModel$Board" lw_tbl jcl jtb 1 true prog_16_method_1_code 84 k_MB_init_84 = true := jok_sub oo_MB_init_0 40 3 rfl rfl
def k_MB_init_92 : List jI := [(.putfield 45, 3, (13, 16, 2195, 3, 0)), (.aload_n 0, 1, (0, 0, 0, 0, 0)), (.bipush 11, 2, (0, 0, 0, 11, 0))]
theorem o_MB_init_92 : jokL "ChessHouseModel$Board" lw_tbl jcl jtb 1 true prog_16_method_1_code 92 k_MB_init_92 = true := jok_sub oo_MB_init_0 44 3 rfl rfl
def k_MB_init_100 : List jI := [(.putfield 48, 3, (13, 17, 2196, 3, 0)), (.aload_n 0, 1, (0, 0, 0, 0, 0)), (.bipush 11, 2, (0, 0, 0, 11, 0))]
theorem o_MB_init_100 : jokL "ChessHouseModel$Board" lw_tbl jcl jtb 1 true prog_16_method_1_code 100 k_MB_init_100 = true := jok_sub oo_MB_init_0 48 3 rfl rfl
def k_MB_init_108 : List jI := [(.putfield 51, 3, (13, 18, 2197, 3, 0)), (.aload_n 0, 1, (0, 0, 0, 0, 0)), (.bipush 11, 2, (0, 0, 0, 11, 0))]
theorem o_MB_init_108 : jokL "ChessHouseModel$Board" lw_tbl jcl jtb 1 true prog_16_method_1_code 108 k_MB_init_108 = true := jok_sub oo_MB_init_0 52 3 rfl rfl
def k_MB_init_116 : List jI := [(.putfield 54, 3, (13, 19, 2198, 3, 0)), (.aload_n 0, 1, (0, 0, 0, 0, 0)), (.bipush 11, 2, (0, 0, 0, 11, 0))]
theorem o_MB_init_116 : jokL "ChessHouseModel$Board" lw_tbl jcl jtb 1 true prog_16_method_1_code 116 k_MB_init_116 = true := jok_sub oo_MB_init_0 56 3 rfl rfl
def k_MB_init_124 : List jI := [(.putfield 57, 3, (13, 20, 2199, 3, 0)), (.aload_n 0, 1, (0, 0, 0, 0, 0)), (.sipush 20480, 3, (0, 0, 0, 20480, 0))]
theorem o_MB_init_124 : jokL "ChessHouseModel$Board" lw_tbl jcl jtb 1 true prog_16_method_1_code 124 k_MB_init_124 = true := jok_sub oo_MB_init_0 60 3 rfl rfl
def k_MB_init_133 : List jI := [(.putfield 60, 3, (13, 21, 2200, 3, 0)), (.aload_n 0, 1, (0, 0, 0, 0, 0)), (.bipush 10, 2, (0, 0, 0, 10, 0))]
theorem o_MB_init_133 : jokL "ChessHouseModel$Board" lw_tbl jcl jtb 1 true prog_16_method_1_code 133 k_MB_init_133 = true := jok_sub oo_MB_init_0 64 3 rfl rfl
def k_MB_init_141 : List jI := [(.putfield 63, 3, (13, 22, 2201, 3, 0)), (.aload_n 0, 1, (0, 0, 0, 0, 0)), (.iconst 4, 1, (0, 0, 0, 4, 0))]
theorem o_MB_init_141 : jokL "ChessHouseModel$Board" lw_tbl jcl jtb 1 true prog_16_method_1_code 141 k_MB_init_141 = true := jok_sub oo_MB_init_0 68 3 rfl rfl
def k_MB_init_148 : List jI := [(.putfield 66, 3, (13, 28, 2210, 3, 0)), (.aload_n 0, 1, (0, 0, 0, 0, 0)), (.sipush 2048, 3, (0, 0, 0, 2048, 0))]
theorem o_MB_init_148 : jokL "ChessHouseModel$Board" lw_tbl jcl jtb 1 true prog_16_method_1_code 148 k_MB_init_148 = true := jok_sub oo_MB_init_0 72 3 rfl rfl
def k_MB_init_157 : List jI := [(.putfield 69, 3, (13, 30, 2214, 3, 0)), (.aload_n 0, 1, (0, 0, 0, 0, 0)), (.iconst 4, 1, (0, 0, 0, 4, 0))]
theorem o_MB_init_157 : jokL "ChessHouseModel$Board" lw_tbl jcl jtb 1 true prog_16_method_1_code 157 k_MB_init_157 = true := jok_sub oo_MB_init_0 76 3 rfl rfl
def k_MB_init_164 : List jI := [(.putfield 72, 3, (13, 33, 2220, 3, 0)), (.aload_n 0, 1, (0, 0, 0, 0, 0)), (.iconst 4, 1, (0, 0, 0, 4, 0))]
theorem o_MB_init_164 : jokL "ChessHouseModel$Board" lw_tbl jcl jtb 1 true prog_16_method_1_code 164 k_MB_init_164 = true := jok_sub oo_MB_init_0 80 3 rfl rfl
def k_MB_init_171 : List jI := [(.putfield 75, 3, (13, 34, 2222, 3, 0))]
theorem o_MB_init_171 : jokL "ChessHouseModel$Board" lw_tbl jcl jtb 1 true prog_16_method_1_code 171 k_MB_init_171 = true := jok_sub oo_MB_init_0 84 1 rfl rfl
theorem d_MB_init_1 : decode prog_16_method_1_code 1 = .ok (.invokespecial 3, 3) := by decide +kernel
theorem d_MB_init_7 : decode prog_16_method_1_code 7 = .ok (.newarray .char, 2) := by decide +kernel
theorem d_MB_init_15 : decode prog_16_method_1_code 15 = .ok (.newarray .int, 2) := by decide +kernel
theorem d_MB_init_29 : decode prog_16_method_1_code 29 = .ok (.newarray .int, 2) := by decide +kernel
theorem d_MB_init_38 : decode prog_16_method_1_code 38 = .ok (.newarray .int, 2) := by decide +kernel
theorem d_MB_init_47 : decode prog_16_method_1_code 47 = .ok (.newarray .int, 2) := by decide +kernel
theorem d_MB_init_56 : decode prog_16_method_1_code 56 = .ok (.newarray .int, 2) := by decide +kernel
theorem d_MB_init_65 : decode prog_16_method_1_code 65 = .ok (.newarray .int, 2) := by decide +kernel
theorem d_MB_init_74 : decode prog_16_method_1_code 74 = .ok (.newarray .int, 2) := by decide +kernel
theorem d_MB_init_82 : decode prog_16_method_1_code 82 = .ok (.newarray .int, 2) := by decide +kernel
theorem d_MB_init_90 : decode prog_16_method_1_code 90 = .ok (.newarray .int, 2) := by decide +kernel
theorem d_MB_init_98 : decode prog_16_method_1_code 98 = .ok (.newarray .int, 2) := by decide +kernel
theorem d_MB_init_106 : decode prog_16_method_1_code 106 = .ok (.newarray .int, 2) := by decide +kernel
theorem d_MB_init_114 : decode prog_16_method_1_code 114 = .ok (.newarray .int, 2) := by decide +kernel
theorem d_MB_init_122 : decode prog_16_method_1_code 122 = .ok (.newarray .int, 2) := by decide +kernel
theorem d_MB_init_131 : decode prog_16_method_1_code 131 = .ok (.newarray .int, 2) := by decide +kernel
theorem d_MB_init_139 : decode prog_16_method_1_code 139 = .ok (.newarray .int, 2) := by decide +kernel
theorem d_MB_init_146 : decode prog_16_method_1_code 146 = .ok (.newarray .int, 2) := by decide +kernel
theorem d_MB_init_155 : decode prog_16_method_1_code 155 = .ok (.newarray .int, 2) := by decide +kernel
theorem d_MB_init_162 : decode prog_16_method_1_code 162 = .ok (.newarray .int, 2) := by decide +kernel
theorem d_MB_init_169 : decode prog_16_method_1_code 169 = .ok (.newarray .int, 2) := by decide +kernel
theorem d_MB_init_174 : decode prog_16_method_1_code 174 = .ok (.return_, 1) := by decide +kernel
def y_MT_kind : jY := (⟨"ChessHouseModel$Texts", "kind", "(I)I"⟩, prog_18_method_3_code, 1, (some .int))
theorem m_MT_kind : jmth lw_tbl y_MT_kind 1 := ⟨jTA_in (wi := 1943) (jtF_ok rfl) rfl, jTA_in (wi := 315) (jtF_ok rfl) rfl, by decide, by decide, by decide +kernel⟩
theorem s_MT_kind : Jvm.Cond.static y_MT_kind.1 ∈ jTA lw_tbl := jTA_in (wi := 1942) (jtF_ok rfl) rfl
def kk_MT_kind_0 : List jI := [(.iload_n 0, 1, (0, 0, 0, 0, 0)), (.bipush 7, 2, (0, 0, 0, 7, 0)), (.iand, 1, (0, 0, 0, 0, 0)), (.ireturn, 1, (0, 0, 0, 0, 0))]
theorem oo_MT_kind_0 : jokL "ChessHouseModel$Texts" lw_tbl jcl jtb 1 false prog_18_method_3_code 0 kk_MT_kind_0 = true := jokLF_ok (fun _ _ => jtF_ok) lo_MT (by decide +kernel)
def k_MT_kind_0 : List jI := [(.iload_n 0, 1, (0, 0, 0, 0, 0)), (.bipush 7, 2, (0, 0, 0, 7, 0)), (.iand, 1, (0, 0, 0, 0, 0))]
theorem o_MT_kind_0 : jokL "ChessHouseModel$Texts" lw_tbl jcl jtb 1 false prog_18_method_3_code 0 k_MT_kind_0 = true := jok_sub oo_MT_kind_0 0 3 rfl rfl
theorem d_MT_kind_4 : decode prog_18_method_3_code 4 = .ok (.ireturn, 1) := by decide +kernel
