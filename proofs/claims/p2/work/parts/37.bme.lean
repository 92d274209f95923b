/-! the tables of the board, and what attacks a square -/
def y_BO_attacked : jY := (⟨"ChessHouse$Board", "attacked", "(II)Z"⟩, prog_3_method_10_code, 10, (some .boolean))
theorem m_BO_attacked : jmth lw_tbl y_BO_attacked 2 := ⟨jTA_in (wi := 1170) (jtF_ok rfl) rfl, jTA_in (wi := 312) (jtF_ok rfl) rfl, by decide, by decide, by decide +kernel⟩
theorem i_BO_attacked : Jvm.Cond.instanceMethod y_BO_attacked.1 ∈ jTA lw_tbl := jTA_in (wi := 1168) (jtF_ok rfl) rfl
theorem e_BO_attacked : Jvm.Cond.selects y_BO_attacked.1.cls y_BO_attacked.1 y_BO_attacked.1 ∈ jTA lw_tbl := jTA_in (wi := 1169) (jtF_ok rfl) rfl
def kk_BO_attacked_0 : List jI := [(.iload_n 1, 1, (1, 0, 0, 0, 0)), (.bipush 8, 2, (0, 0, 0, 8, 0)), (.imul, 1, (0, 0, 0, 0, 0)), (.istore_n 3, 1, (3, 0, 0, 0, 0)), (.iload_n 3, 1, (3, 0, 0, 0, 0)), (.iload_n 1, 1, (1, 0, 0, 0, 0)), (.bipush 8, 2, (0, 0, 0, 8, 0)), (.imul, 1, (0, 0, 0, 0, 0)), (.bipush 8, 2, (0, 0, 0, 8, 0)), (.iadd, 1, (0, 0, 0, 0, 0)), (.if_icmp .ge 39, 3, (52, 0, 0, 0, 0)), (.aload_n 0, 1, (0, 0, 0, 0, 0)), (.getfield 35, 3, (10, 13, 682, 0, 0)), (.iload_n 3, 1, (3, 0, 0, 0, 0)), (.iaload, 1, (0, 0, 0, 0, 0)), (.ifCond .lt 30, 3, (52, 0, 0, 0, 0)), (.aload_n 0, 1, (0, 0, 0, 0, 0)), (.getfield 7, 3, (10, 0, 660, 0, 0)), (.aload_n 0, 1, (0, 0, 0, 0, 0)), (.getfield 35, 3, (10, 13, 682, 0, 0)), (.iload_n 3, 1, (3, 0, 0, 0, 0)), (.iaload, 1, (0, 0, 0, 0, 0)), (.iaload, 1, (0, 0, 0, 0, 0)), (.iload_n 2, 1, (2, 0, 0, 0, 0)), (.iconst 3, 1, (0, 0, 0, 3, 0)), (.ishl, 1, (0, 0, 0, 0, 0)), (.iconst 2, 1, (0, 0, 0, 2, 0)), (.ior, 1, (0, 0, 0, 0, 0)), (.if_icmp .ne 5, 3, (46, 0, 0, 0, 0)), (.iconst 1, 1, (0, 0, 0, 1, 0)), (.ireturn, 1, (0, 0, 0, 0, 0)), (.iinc 3 1, 3, (0, 0, 0, 1, 0)), (.goto (-44), 3, (5, 0, 0, 0, 0)), (.iconst 0, 1, (0, 0, 0, 0, 0)), (.istore_n 3, 1, (3, 0, 0, 0, 0)), (.iload_n 3, 1, (3, 0, 0, 0, 0)), (.bipush 8, 2, (0, 0, 0, 8, 0)), (.if_icmp .ge 154, 3, (211, 0, 0, 0, 0)), (.getstatic 44, 3, (0, 0, 619, 0, 0)), (.iload_n 3, 1, (3, 0, 0, 0, 0)), (.iaload, 1, (0, 0, 0, 0, 0)), (.istore 4, 2, (4, 0, 0, 0, 0)), (.aload_n 0, 1, (0, 0, 0, 0, 0)), (.getfield 32, 3, (10, 12, 681, 0, 0)), (.iload_n 1, 1, (1, 0, 0, 0, 0)), (.bipush 8, 2, (0, 0, 0, 8, 0)), (.imul, 1, (0, 0, 0, 0, 0)), (.iload_n 3, 1, (3, 0, 0, 0, 0)), (.iadd, 1, (0, 0, 0, 0, 0)), (.iaload, 1, (0, 0, 0, 0, 0)), (.istore 5, 2, (5, 0, 0, 0, 0)), (.iload_n 1, 1, (1, 0, 0, 0, 0)), (.istore 6, 2, (6, 0, 0, 0, 0)), (.iconst 1, 1, (0, 0, 0, 1, 0)), (.istore 7, 2, (7, 0, 0, 0, 0)), (.iload 7, 2, (7, 0, 0, 0, 0)), (.iload 5, 2, (5, 0, 0, 0, 0)), (.if_icmp .gt 115, 3, (205, 0, 0, 0, 0)), (.iload 6, 2, (6, 0, 0, 0, 0)), (.iload 4, 2, (4, 0, 0, 0, 0)), (.iadd, 1, (0, 0, 0, 0, 0)), (.istore 6, 2, (6, 0, 0, 0, 0)), (.aload_n 0, 1, (0, 0, 0, 0, 0)), (.getfield 7, 3, (10, 0, 660, 0, 0)), (.iload 6, 2, (6, 0, 0, 0, 0)), (.iaload, 1, (0, 0, 0, 0, 0)), (.istore 8, 2, (8, 0, 0, 0, 0)), (.iload 8, 2, (8, 0, 0, 0, 0)), (.ifCond .ne 6, 3, (117, 0, 0, 0, 0)), (.goto 85, 3, (199, 0, 0, 0, 0)), (.iload 8, 2, (8, 0, 0, 0, 0)), (.iconst 3, 1, (0, 0, 0, 3, 0)), (.ishr, 1, (0, 0, 0, 0, 0)), (.iload_n 2, 1, (2, 0, 0, 0, 0)), (.if_icmp .ne 83, 3, (205, 0, 0, 0, 0)), (.iload 8, 2, (8, 0, 0, 0, 0)), (.bipush 7, 2, (0, 0, 0, 7, 0)), (.iand, 1, (0, 0, 0, 0, 0)), (.istore 9, 2, (9, 0, 0, 0, 0)), (.iload 9, 2, (9, 0, 0, 0, 0)), (.iconst 5, 1, (0, 0, 0, 5, 0)), (.if_icmp .eq 59, 3, (194, 0, 0, 0, 0)), (.iload 9, 2, (9, 0, 0, 0, 0)), (.iload_n 3, 1, (3, 0, 0, 0, 0)), (.iconst 4, 1, (0, 0, 0, 4, 0)), (.if_icmp .ge 7, 3, (149, 0, 0, 0, 0)), (.iconst 4, 1, (0, 0, 0, 4, 0)), (.goto 4, 3, (150, 0, 0, 0, 0)), (.iconst 3, 1, (0, 0, 0, 3, 0)), (.if_icmp .eq 44, 3, (194, 0, 0, 0, 0)), (.iload 7, 2, (7, 0, 0, 0, 0)), (.iconst 1, 1, (0, 0, 0, 1, 0)), (.if_icmp .ne 40, 3, (196, 0, 0, 0, 0)), (.iload 9, 2, (9, 0, 0, 0, 0)), (.bipush 6, 2, (0, 0, 0, 6, 0)), (.if_icmp .eq 31, 3, (194, 0, 0, 0, 0)), (.iload 9, 2, (9, 0, 0, 0, 0)), (.iconst 1, 1, (0, 0, 0, 1, 0)), (.if_icmp .ne 27, 3, (196, 0, 0, 0, 0)), (.iload_n 3, 1, (3, 0, 0, 0, 0)), (.iconst 4, 1, (0, 0, 0, 4, 0)), (.if_icmp .lt 22, 3, (196, 0, 0, 0, 0)), (.iload_n 2, 1, (2, 0, 0, 0, 0)), (.ifCond .ne 11, 3, (189, 0, 0, 0, 0)), (.iload 4, 2, (4, 0, 0, 0, 0)), (.ifCond .ge 13, 3, (196, 0, 0, 0, 0)), (.goto 8, 3, (194, 0, 0, 0, 0))]
theorem oo_BO_attacked_0 : jokL "ChessHouse$Board" lw_tbl jcl jtb 10 false prog_3_method_10_code 0 kk_BO_attacked_0 = true := jokLF_ok (fun _ _ => jtF_ok) lo_BO (by decide +kernel)
def kk_BO_attacked_189 : List jI := [(.iload 4, 2, (4, 0, 0, 0, 0)), (.ifCond .le 5, 3, (196, 0, 0, 0, 0)), (.iconst 1, 1, (0, 0, 0, 1, 0)), (.ireturn, 1, (0, 0, 0, 0, 0)), (.goto 9, 3, (205, 0, 0, 0, 0)), (.iinc 7 1, 3, (0, 0, 0, 1, 0)), (.goto (-116), 3, (86, 0, 0, 0, 0)), (.iinc 3 1, 3, (0, 0, 0, 1, 0)), (.goto (-154), 3, (54, 0, 0, 0, 0)), (.iconst 0, 1, (0, 0, 0, 0, 0)), (.ireturn, 1, (0, 0, 0, 0, 0))]
theorem oo_BO_attacked_189 : jokL "ChessHouse$Board" lw_tbl jcl jtb 10 false prog_3_method_10_code 189 kk_BO_attacked_189 = true := jokLF_ok (fun _ _ => jtF_ok) lo_BO (by decide +kernel)
def k_BO_attacked_0 : List jI := [(.iload_n 1, 1, (1, 0, 0, 0, 0)), (.bipush 8, 2, (0, 0, 0, 8, 0)), (.imul, 1, (0, 0, 0, 0, 0)), (.istore_n 3, 1, (3, 0, 0, 0, 0))]
theorem o_BO_attacked_0 : jokL "ChessHouse$Board" lw_tbl jcl jtb 10 false prog_3_method_10_code 0 k_BO_attacked_0 = true := jok_sub oo_BO_attacked_0 0 4 rfl rfl
def k_BO_attacked_5 : List jI := [(.iload_n 3, 1, (3, 0, 0, 0, 0)), (.iload_n 1, 1, (1, 0, 0, 0, 0)), (.bipush 8, 2, (0, 0, 0, 8, 0)), (.imul, 1, (0, 0, 0, 0, 0)), (.bipush 8, 2, (0, 0, 0, 8, 0)), (.iadd, 1, (0, 0, 0, 0, 0)), (.if_icmp .ge 39, 3, (52, 0, 0, 0, 0))]
theorem o_BO_attacked_5 : jokL "ChessHouse$Board" lw_tbl jcl jtb 10 false prog_3_method_10_code 5 k_BO_attacked_5 = true := jok_sub oo_BO_attacked_0 4 7 rfl rfl
def k_BO_attacked_16 : List jI := [(.aload_n 0, 1, (0, 0, 0, 0, 0)), (.getfield 35, 3, (10, 13, 682, 0, 0)), (.iload_n 3, 1, (3, 0, 0, 0, 0)), (.iaload, 1, (0, 0, 0, 0, 0)), (.ifCond .lt 30, 3, (52, 0, 0, 0, 0))]
theorem o_BO_attacked_16 : jokL "ChessHouse$Board" lw_tbl jcl jtb 10 false prog_3_method_10_code 16 k_BO_attacked_16 = true := jok_sub oo_BO_attacked_0 11 5 rfl rfl
def k_BO_attacked_25 : List jI := [(.aload_n 0, 1, (0, 0, 0, 0, 0)), (.getfield 7, 3, (10, 0, 660, 0, 0)), (.aload_n 0, 1, (0, 0, 0, 0, 0)), (.getfield 35, 3, (10, 13, 682, 0, 0)), (.iload_n 3, 1, (3, 0, 0, 0, 0)), (.iaload, 1, (0, 0, 0, 0, 0)), (.iaload, 1, (0, 0, 0, 0, 0)), (.iload_n 2, 1, (2, 0, 0, 0, 0)), (.iconst 3, 1, (0, 0, 0, 3, 0)), (.ishl, 1, (0, 0, 0, 0, 0)), (.iconst 2, 1, (0, 0, 0, 2, 0)), (.ior, 1, (0, 0, 0, 0, 0)), (.if_icmp .ne 5, 3, (46, 0, 0, 0, 0))]
theorem o_BO_attacked_25 : jokL "ChessHouse$Board" lw_tbl jcl jtb 10 false prog_3_method_10_code 25 k_BO_attacked_25 = true := jok_sub oo_BO_attacked_0 16 13 rfl rfl
def k_BO_attacked_44 : List jI := [(.iconst 1, 1, (0, 0, 0, 1, 0))]
theorem o_BO_attacked_44 : jokL "ChessHouse$Board" lw_tbl jcl jtb 10 false prog_3_method_10_code 44 k_BO_attacked_44 = true := jok_sub oo_BO_attacked_0 29 1 rfl rfl
def k_BO_attacked_46 : List jI := [(.iinc 3 1, 3, (0, 0, 0, 1, 0)), (.goto (-44), 3, (5, 0, 0, 0, 0))]
theorem o_BO_attacked_46 : jokL "ChessHouse$Board" lw_tbl jcl jtb 10 false prog_3_method_10_code 46 k_BO_attacked_46 = true := jok_sub oo_BO_attacked_0 31 2 rfl rfl
def k_BO_attacked_52 : List jI := [(.iconst 0, 1, (0, 0, 0, 0, 0)), (.istore_n 3, 1, (3, 0, 0, 0, 0))]
theorem o_BO_attacked_52 : jokL "ChessHouse$Board" lw_tbl jcl jtb 10 false prog_3_method_10_code 52 k_BO_attacked_52 = true := jok_sub oo_BO_attacked_0 33 2 rfl rfl
def k_BO_attacked_54 : List jI := [(.iload_n 3, 1, (3, 0, 0, 0, 0)), (.bipush 8, 2, (0, 0, 0, 8, 0)), (.if_icmp .ge 154, 3, (211, 0, 0, 0, 0))]
theorem o_BO_attacked_54 : jokL "ChessHouse$Board" lw_tbl jcl jtb 10 false prog_3_method_10_code 54 k_BO_attacked_54 = true := jok_sub oo_BO_attacked_0 35 3 rfl rfl
def k_BO_attacked_60 : List jI := [(.getstatic 44, 3, (0, 0, 619, 0, 0)), (.iload_n 3, 1, (3, 0, 0, 0, 0)), (.iaload, 1, (0, 0, 0, 0, 0)), (.istore 4, 2, (4, 0, 0, 0, 0))]
theorem o_BO_attacked_60 : jokL "ChessHouse$Board" lw_tbl jcl jtb 10 false prog_3_method_10_code 60 k_BO_attacked_60 = true := jok_sub oo_BO_attacked_0 38 4 rfl rfl
def k_BO_attacked_67 : List jI := [(.aload_n 0, 1, (0, 0, 0, 0, 0)), (.getfield 32, 3, (10, 12, 681, 0, 0)), (.iload_n 1, 1, (1, 0, 0, 0, 0)), (.bipush 8, 2, (0, 0, 0, 8, 0)), (.imul, 1, (0, 0, 0, 0, 0)), (.iload_n 3, 1, (3, 0, 0, 0, 0)), (.iadd, 1, (0, 0, 0, 0, 0)), (.iaload, 1, (0, 0, 0, 0, 0)), (.istore 5, 2, (5, 0, 0, 0, 0))]
theorem o_BO_attacked_67 : jokL "ChessHouse$Board" lw_tbl jcl jtb 10 false prog_3_method_10_code 67 k_BO_attacked_67 = true := jok_sub oo_BO_attacked_0 42 9 rfl rfl
def k_BO_attacked_80 : List jI := [(.iload_n 1, 1, (1, 0, 0, 0, 0)), (.istore 6, 2, (6, 0, 0, 0, 0)), (.iconst 1, 1, (0, 0, 0, 1, 0)), (.istore 7, 2, (7, 0, 0, 0, 0))]
theorem o_BO_attacked_80 : jokL "ChessHouse$Board" lw_tbl jcl jtb 10 false prog_3_method_10_code 80 k_BO_attacked_80 = true := jok_sub oo_BO_attacked_0 51 4 rfl rfl
def k_BO_attacked_86 : List jI := [(.iload 7, 2, (7, 0, 0, 0, 0)), (.iload 5, 2, (5, 0, 0, 0, 0)), (.if_icmp .gt 115, 3, (205, 0, 0, 0, 0))]
theorem o_BO_attacked_86 : jokL "ChessHouse$Board" lw_tbl jcl jtb 10 false prog_3_method_10_code 86 k_BO_attacked_86 = true := jok_sub oo_BO_attacked_0 55 3 rfl rfl
def k_BO_attacked_93 : List jI := [(.iload 6, 2, (6, 0, 0, 0, 0)), (.iload 4, 2, (4, 0, 0, 0, 0)), (.iadd, 1, (0, 0, 0, 0, 0)), (.istore 6, 2, (6, 0, 0, 0, 0)), (.aload_n 0, 1, (0, 0, 0, 0, 0)), (.getfield 7, 3, (10, 0, 660, 0, 0)), (.iload 6, 2, (6, 0, 0, 0, 0)), (.iaload, 1, (0, 0, 0, 0, 0)), (.istore 8, 2, (8, 0, 0, 0, 0))]
theorem o_BO_attacked_93 : jokL "ChessHouse$Board" lw_tbl jcl jtb 10 false prog_3_method_10_code 93 k_BO_attacked_93 = true := jok_sub oo_BO_attacked_0 58 9 rfl rfl
def k_BO_attacked_109 : List jI := [(.iload 8, 2, (8, 0, 0, 0, 0)), (.ifCond .ne 6, 3, (117, 0, 0, 0, 0))]
theorem o_BO_attacked_109 : jokL "ChessHouse$Board" lw_tbl jcl jtb 10 false prog_3_method_10_code 109 k_BO_attacked_109 = true := jok_sub oo_BO_attacked_0 67 2 rfl rfl
def k_BO_attacked_114 : List jI := [(.goto 85, 3, (199, 0, 0, 0, 0))]
theorem o_BO_attacked_114 : jokL "ChessHouse$Board" lw_tbl jcl jtb 10 false prog_3_method_10_code 114 k_BO_attacked_114 = true := jok_sub oo_BO_attacked_0 69 1 rfl rfl
def k_BO_attacked_117 : List jI := [(.iload 8, 2, (8, 0, 0, 0, 0)), (.iconst 3, 1, (0, 0, 0, 3, 0)), (.ishr, 1, (0, 0, 0, 0, 0)), (.iload_n 2, 1, (2, 0, 0, 0, 0)), (.if_icmp .ne 83, 3, (205, 0, 0, 0, 0))]
theorem o_BO_attacked_117 : jokL "ChessHouse$Board" lw_tbl jcl jtb 10 false prog_3_method_10_code 117 k_BO_attacked_117 = true := jok_sub oo_BO_attacked_0 70 5 rfl rfl
def k_BO_attacked_125 : List jI := [(.iload 8, 2, (8, 0, 0, 0, 0)), (.bipush 7, 2, (0, 0, 0, 7, 0)), (.iand, 1, (0, 0, 0, 0, 0)), (.istore 9, 2, (9, 0, 0, 0, 0)), (.iload 9, 2, (9, 0, 0, 0, 0)), (.iconst 5, 1, (0, 0, 0, 5, 0)), (.if_icmp .eq 59, 3, (194, 0, 0, 0, 0))]
theorem o_BO_attacked_125 : jokL "ChessHouse$Board" lw_tbl jcl jtb 10 false prog_3_method_10_code 125 k_BO_attacked_125 = true := jok_sub oo_BO_attacked_0 75 7 rfl rfl
def k_BO_attacked_138 : List jI := [(.iload 9, 2, (9, 0, 0, 0, 0)), (.iload_n 3, 1, (3, 0, 0, 0, 0)), (.iconst 4, 1, (0, 0, 0, 4, 0)), (.if_icmp .ge 7, 3, (149, 0, 0, 0, 0))]
theorem o_BO_attacked_138 : jokL "ChessHouse$Board" lw_tbl jcl jtb 10 false prog_3_method_10_code 138 k_BO_attacked_138 = true := jok_sub oo_BO_attacked_0 82 4 rfl rfl
def k_BO_attacked_145 : List jI := [(.iconst 4, 1, (0, 0, 0, 4, 0)), (.goto 4, 3, (150, 0, 0, 0, 0))]
theorem o_BO_attacked_145 : jokL "ChessHouse$Board" lw_tbl jcl jtb 10 false prog_3_method_10_code 145 k_BO_attacked_145 = true := jok_sub oo_BO_attacked_0 86 2 rfl rfl
def k_BO_attacked_149 : List jI := [(.iconst 3, 1, (0, 0, 0, 3, 0))]
theorem o_BO_attacked_149 : jokL "ChessHouse$Board" lw_tbl jcl jtb 10 false prog_3_method_10_code 149 k_BO_attacked_149 = true := jok_sub oo_BO_attacked_0 88 1 rfl rfl
def k_BO_attacked_150 : List jI := [(.if_icmp .eq 44, 3, (194, 0, 0, 0, 0))]
theorem o_BO_attacked_150 : jokL "ChessHouse$Board" lw_tbl jcl jtb 10 false prog_3_method_10_code 150 k_BO_attacked_150 = true := jok_sub oo_BO_attacked_0 89 1 rfl rfl
def k_BO_attacked_153 : List jI := [(.iload 7, 2, (7, 0, 0, 0, 0)), (.iconst 1, 1, (0, 0, 0, 1, 0)), (.if_icmp .ne 40, 3, (196, 0, 0, 0, 0))]
theorem o_BO_attacked_153 : jokL "ChessHouse$Board" lw_tbl jcl jtb 10 false prog_3_method_10_code 153 k_BO_attacked_153 = true := jok_sub oo_BO_attacked_0 90 3 rfl rfl
def k_BO_attacked_159 : List jI := [(.iload 9, 2, (9, 0, 0, 0, 0)), (.bipush 6, 2, (0, 0, 0, 6, 0)), (.if_icmp .eq 31, 3, (194, 0, 0, 0, 0))]
theorem o_BO_attacked_159 : jokL "ChessHouse$Board" lw_tbl jcl jtb 10 false prog_3_method_10_code 159 k_BO_attacked_159 = true := jok_sub oo_BO_attacked_0 93 3 rfl rfl
def k_BO_attacked_166 : List jI := [(.iload 9, 2, (9, 0, 0, 0, 0)), (.iconst 1, 1, (0, 0, 0, 1, 0)), (.if_icmp .ne 27, 3, (196, 0, 0, 0, 0))]
theorem o_BO_attacked_166 : jokL "ChessHouse$Board" lw_tbl jcl jtb 10 false prog_3_method_10_code 166 k_BO_attacked_166 = true := jok_sub oo_BO_attacked_0 96 3 rfl rfl
def k_BO_attacked_172 : List jI := [(.iload_n 3, 1, (3, 0, 0, 0, 0)), (.iconst 4, 1, (0, 0, 0, 4, 0)), (.if_icmp .lt 22, 3, (196, 0, 0, 0, 0))]
theorem o_BO_attacked_172 : jokL "ChessHouse$Board" lw_tbl jcl jtb 10 false prog_3_method_10_code 172 k_BO_attacked_172 = true := jok_sub oo_BO_attacked_0 99 3 rfl rfl
def k_BO_attacked_177 : List jI := [(.iload_n 2, 1, (2, 0, 0, 0, 0)), (.ifCond .ne 11, 3, (189, 0, 0, 0, 0))]
theorem o_BO_attacked_177 : jokL "ChessHouse$Board" lw_tbl jcl jtb 10 false prog_3_method_10_code 177 k_BO_attacked_177 = true := jok_sub oo_BO_attacked_0 102 2 rfl rfl
def k_BO_attacked_181 : List jI := [(.iload 4, 2, (4, 0, 0, 0, 0)), (.ifCond .ge 13, 3, (196, 0, 0, 0, 0))]
theorem o_BO_attacked_181 : jokL "ChessHouse$Board" lw_tbl jcl jtb 10 false prog_3_method_10_code 181 k_BO_attacked_181 = true := jok_sub oo_BO_attacked_0 104 2 rfl rfl
def k_BO_attacked_186 : List jI := [(.goto 8, 3, (194, 0, 0, 0, 0))]
theorem o_BO_attacked_186 : jokL "ChessHouse$Board" lw_tbl jcl jtb 10 false prog_3_method_10_code 186 k_BO_attacked_186 = true := jok_sub oo_BO_attacked_0 106 1 rfl rfl
def k_BO_attacked_189 : List jI := [(.iload 4, 2, (4, 0, 0, 0, 0)), (.ifCond .le 5, 3, (196, 0, 0, 0, 0))]
theorem o_BO_attacked_189 : jokL "ChessHouse$Board" lw_tbl jcl jtb 10 false prog_3_method_10_code 189 k_BO_attacked_189 = true := jok_sub oo_BO_attacked_189 0 2 rfl rfl
def k_BO_attacked_194 : List jI := [(.iconst 1, 1, (0, 0, 0, 1, 0))]
theorem o_BO_attacked_194 : jokL "ChessHouse$Board" lw_tbl jcl jtb 10 false prog_3_method_10_code 194 k_BO_attacked_194 = true := jok_sub oo_BO_attacked_189 2 1 rfl rfl
def k_BO_attacked_196 : List jI := [(.goto 9, 3, (205, 0, 0, 0, 0))]
theorem o_BO_attacked_196 : jokL "ChessHouse$Board" lw_tbl jcl jtb 10 false prog_3_method_10_code 196 k_BO_attacked_196 = true := jok_sub oo_BO_attacked_189 4 1 rfl rfl
def k_BO_attacked_199 : List jI := [(.iinc 7 1, 3, (0, 0, 0, 1, 0)), (.goto (-116), 3, (86, 0, 0, 0, 0))]
theorem o_BO_attacked_199 : jokL "ChessHouse$Board" lw_tbl jcl jtb 10 false prog_3_method_10_code 199 k_BO_attacked_199 = true := jok_sub oo_BO_attacked_189 5 2 rfl rfl
def k_BO_attacked_205 : List jI := [(.iinc 3 1, 3, (0, 0, 0, 1, 0)), (.goto (-154), 3, (54, 0, 0, 0, 0))]
theorem o_BO_attacked_205 : jokL "ChessHouse$Board" lw_tbl jcl jtb 10 false prog_3_method_10_code 205 k_BO_attacked_205 = true := jok_sub oo_BO_attacked_189 7 2 rfl rfl
def k_BO_attacked_211 : List jI := [(.iconst 0, 1, (0, 0, 0, 0, 0))]
theorem o_BO_attacked_211 : jokL "ChessHouse$Board" lw_tbl jcl jtb 10 false prog_3_method_10_code 211 k_BO_attacked_211 = true := jok_sub oo_BO_attacked_189 9 1 rfl rfl
theorem d_BO_attacked_45 : decode prog_3_method_10_code 45 = .ok (.ireturn, 1) := by decide +kernel
theorem d_BO_attacked_195 : decode prog_3_method_10_code 195 = .ok (.ireturn, 1) := by decide +kernel
theorem d_BO_attacked_212 : decode prog_3_method_10_code 212 = .ok (.ireturn, 1) := by decide +kernel
def y_BO_inCheck : jY := (⟨"ChessHouse$Board", "inCheck", "()Z"⟩, prog_3_method_11_code, 1, (some .boolean))
theorem m_BO_inCheck : jmth lw_tbl y_BO_inCheck 0 := ⟨jTA_in (wi := 1419) (jtF_ok rfl) rfl, jTA_in (wi := 312) (jtF_ok rfl) rfl, by decide, by decide, by decide +kernel⟩
theorem i_BO_inCheck : Jvm.Cond.instanceMethod y_BO_inCheck.1 ∈ jTA lw_tbl := jTA_in (wi := 1417) (jtF_ok rfl) rfl
theorem e_BO_inCheck : Jvm.Cond.selects y_BO_inCheck.1.cls y_BO_inCheck.1 y_BO_inCheck.1 ∈ jTA lw_tbl := jTA_in (wi := 1418) (jtF_ok rfl) rfl
def kk_BO_inCheck_0 : List jI := [(.aload_n 0, 1, (0, 0, 0, 0, 0)), (.aload_n 0, 1, (0, 0, 0, 0, 0)), (.getfield 13, 3, (10, 1, 663, 0, 0)), (.aload_n 0, 1, (0, 0, 0, 0, 0)), (.getfield 77, 3, (10, 2, 667, 0, 0)), (.iaload, 1, (0, 0, 0, 0, 0)), (.iconst 1, 1, (0, 0, 0, 1, 0)), (.aload_n 0, 1, (0, 0, 0, 0, 0)), (.getfield 77, 3, (10, 2, 667, 0, 0)), (.isub, 1, (0, 0, 0, 0, 0)), (.invokevirtual 106, 3, (0, 0, 0, 0, 0)), (.ireturn, 1, (0, 0, 0, 0, 0))]
theorem oo_BO_inCheck_0 : jokL "ChessHouse$Board" lw_tbl jcl jtb 1 false prog_3_method_11_code 0 kk_BO_inCheck_0 = true := jokLF_ok (fun _ _ => jtF_ok) lo_BO (by decide +kernel)
def k_BO_inCheck_0 : List jI := [(.aload_n 0, 1, (0, 0, 0, 0, 0)), (.aload_n 0, 1, (0, 0, 0, 0, 0)), (.getfield 13, 3, (10, 1, 663, 0, 0)), (.aload_n 0, 1, (0, 0, 0, 0, 0)), (.getfield 77, 3, (10, 2, 667, 0, 0)), (.iaload, 1, (0, 0, 0, 0, 0)), (.iconst 1, 1, (0, 0, 0, 1, 0)), (.aload_n 0, 1, (0, 0, 0, 0, 0)), (.getfield 77, 3, (10, 2, 667, 0, 0)), (.isub, 1, (0, 0, 0, 0, 0))]
theorem o_BO_inCheck_0 : jokL "ChessHouse$Board" lw_tbl jcl jtb 1 false prog_3_method_11_code 0 k_BO_inCheck_0 = true := jok_sub oo_BO_inCheck_0 0 10 rfl rfl
theorem d_BO_inCheck_16 : decode prog_3_method_11_code 16 = .ok (.invokevirtual 106, 3) := by decide +kernel
theorem q_BO_inCheck_16 : jlm lw_tbl 1167 "ChessHouse$Board" 106 ⟨"ChessHouse$Board", "attacked", "(II)Z"⟩ = true := jlm_of (Or.inl (jtF_ok rfl))
theorem d_BO_inCheck_19 : decode prog_3_method_11_code 19 = .ok (.ireturn, 1) := by decide +kernel
def stGo : Nat → Int32 → Int32 → Nat → Nat
  | 0, _, _, k => k
  | u + 1, x, y, k => if x + y < 0 ∨ 63 < x + y ∨ 1 < ((x + y) &&& 7) - (x &&& 7) ∨ ((x + y) &&& 7) - (x &&& 7) < -1 then k else stGo u (x + y) y (k + 1)
def rT (i : Nat) : Nat := stGo 7 (nI (i / 8)) (tv_0.getD (i % 8) 0) 0
def knB (s t : Nat) : Bool := let a : Int := (t % 8 : Nat) - (s % 8 : Nat); let b : Int := (t / 8 : Nat) - (s / 8 : Nat); a * a + b * b == 5
def hpL (s : Nat) : List Nat := (List.range 64).filter (knB s)
def hT (i : Nat) : Int32 := match (hpL (i / 8))[i % 8]? with
  | some t => nI t
  | none => -1
def pt (s d k : Nat) : Nat := ((s : Int) + (k : Int) * (tv_0.getD d 0).toInt).toNat
def tblOK (A : Nat → Nat → Int32) : Prop := (∀ i, i < 512 → A 7 i = nI (rT i)) ∧ ∀ i, i < 512 → A 8 i = hT i
theorem tblOK.kp {A A' : Nat → Nat → Int32} {L L' : Nat → Nat → Int64} (h : tblOK A) (k : bKeep A A' L L') : tblOK A' := by
  obtain ⟨-, h7, h8, -⟩ := k
  exact ⟨fun i hi => by rw [h7]; exact h.1 i hi, fun i hi => by rw [h8]; exact h.2 i hi⟩
set_option maxRecDepth 100000 in
theorem rT_ok : ∀ s, s < 64 → ∀ d, d < 8 → rT (s * 8 + d) ≤ 7 ∧ ∀ k, k < rT (s * 8 + d) → pt s d (k + 1) < 64 ∧ nI (pt s d k) + tv_0.getD d 0 = nI (pt s d (k + 1)) := by decide +kernel
theorem pt_0 : ∀ s, s < 64 → ∀ d, d < 8 → pt s d 0 = s := by decide +kernel
set_option maxRecDepth 100000 in
theorem hT_ok : ∀ i, i < 512 → hT i < 0 ∨ ∃ t, t < 64 ∧ hT i = nI t := by
  have h : ∀ i, i < 512 → (decide (hT i < 0) || decide ((hT i).toNatClampNeg < 64 ∧ hT i = nI (hT i).toNatClampNeg)) = true := by decide +kernel
  intro i hi
  have h1 := h i hi
  simp only [Bool.or_eq_true, decide_eq_true_eq] at h1
  exact h1.elim Or.inl (fun q => Or.inr ⟨_, q.1, q.2⟩)
set_option maxRecDepth 100000 in
set_option maxHeartbeats 4000000 in
theorem c_BO_attacked (l : Launch) (E : jE) (σ : Nat → jcell) (n : Nat) (a n0 : Nat) (hab : a < n0) (hn0 : n0 + 11 ≤ n) (F : Nat → Int32) (A : Nat → Nat → Int32) (L : Nat → Nat → Int64) (s : Nat) (hs : s < 64) (by1 : Int32) (hT1 : tblOK A) : jMet l E jcl jtb lw_tbl y_BO_attacked { frames := 0, cells := 0, slots := 0, locals := 0 } [.inr (.inr (some (.inl (a)))), .inl (nI s), .inl by1] (bdP σ a n0 F A L) n (fun r σ' n' => poB (bdP σ a n0 F A L) n r σ' n') := by
  refine jMet_of (hY := rfl) false (fun h => by cases h) (by decide) (Nat.le_of_ble_eq_true rfl) [some (.inr (.inr (some (.inl (a))))), some (.inl (nI s)), some (.inl by1), none, none, none, none, none, none, none] rfl ?_
  intro M hl hR X hr
  have hb0 : (n0 < n) = True := eq_true (by omega)
  have hb1 : (n0 + 1 < n) = True := eq_true (by omega)
  have hb2 : (n0 + 2 < n) = True := eq_true (by omega)
  have hb3 : (n0 + 3 < n) = True := eq_true (by omega)
  have hb4 : (n0 + 4 < n) = True := eq_true (by omega)
  have hb5 : (n0 + 5 < n) = True := eq_true (by omega)
  have hb6 : (n0 + 6 < n) = True := eq_true (by omega)
  have hb7 : (n0 + 7 < n) = True := eq_true (by omega)
  have hb8 : (n0 + 8 < n) = True := eq_true (by omega)
  have hb9 : (n0 + 9 < n) = True := eq_true (by omega)
  have hb10 : (n0 + 10 < n) = True := eq_true (by omega)
  have haa : (a < n) = True := eq_true (by omega)
  have e8 : nI s * 8 = nI (s * 8) := by rw [show (8 : Int32) = nI 8 from rfl, pk_mul]
  have e88 : nI (s * 8) + 8 = nI (s * 8 + 8) := by rw [show (8 : Int32) = nI 8 from rfl, nI_add]
  have C194 : ∀ (i : Nat) (o4 o5 o6 o7 o8 o9 : Option jv), jJ E jcl 10 M (jQ E jcl M (fun r σ' n' => poB (bdP σ a n0 F A L) n r σ' n') 0 0) n 0 0 194 [some (.inr (.inr (some (.inl (a))))), some (.inl (nI s)), some (.inl by1), some (.inl (nI i)), o4, o5, o6, o7, o8, o9] [] (bdP σ a n0 F A L) := by as_aux_lemma =>
    intro i o4 o5 o6 o7 o8 o9
    refine jrun_ok jC X k_BO_attacked_194 194 _ _ _ o_BO_attacked_194 ?_
    simp only [k_BO_attacked_194, jrun, jstep, jldi, jldl, jlda, j1, j2, jl1, jl2, jli, ja1, jbr, jald, jast, jlald, jlast, jalen, jget, jput, jfit, jdup, jdupx, jdupx2, jdup2, jcat, jset1, jset2, jkill, List.getElem?_cons_zero, List.getElem?_cons_succ, List.set_cons_zero, List.set_cons_succ, List.length_cons, List.length_nil, Nat.reduceAdd, Nat.reduceLT, Int32.reduceToNatClampNeg, true_and, and_true, and_self, reduceCtorEq, not_false_eq_true, false_and, and_false, or_false, false_or, true_or, or_true]
    exact jk_iret X d_BO_attacked_195 hr rfl (Nat.le_refl _) (Nat.le_refl _) ⟨_, Or.inr rfl, rfl, rfl, rfl⟩
  have Cout : ∀ (u i : Nat) (o4 o5 o6 o7 o8 o9 : Option jv), i + u = 8 → jJ E jcl 10 M (jQ E jcl M (fun r σ' n' => poB (bdP σ a n0 F A L) n r σ' n') 0 0) n 0 0 54 [some (.inr (.inr (some (.inl (a))))), some (.inl (nI s)), some (.inl by1), some (.inl (nI i)), o4, o5, o6, o7, o8, o9] [] (bdP σ a n0 F A L) := by as_aux_lemma =>
    intro u
    induction u with
    | zero =>
      intro i o4 o5 o6 o7 o8 o9 hi
      obtain rfl : i = 8 := by omega
      refine jrun_ok jC X k_BO_attacked_54 54 _ _ _ o_BO_attacked_54 ?_
      simp only [k_BO_attacked_54, jrun, jstep, jldi, jldl, jlda, j1, j2, jl1, jl2, jli, ja1, jbr, jald, jast, jlald, jlast, jalen, jget, jput, jfit, jdup, jdupx, jdupx2, jdup2, jcat, jset1, jset2, jkill, List.getElem?_cons_zero, List.getElem?_cons_succ, List.set_cons_zero, List.set_cons_succ, List.length_cons, List.length_nil, Nat.reduceAdd, Nat.reduceLT, Int32.reduceToNatClampNeg, true_and, and_true, and_self, reduceCtorEq, not_false_eq_true, false_and, and_false, or_false, false_or, true_or, or_true]
      refine ⟨fun h54 => ?_, fun h54 => absurd (by decide) h54⟩
      refine jrun_ok jC X k_BO_attacked_211 211 _ _ _ o_BO_attacked_211 ?_
      simp only [k_BO_attacked_211, jrun, jstep, jldi, jldl, jlda, j1, j2, jl1, jl2, jli, ja1, jbr, jald, jast, jlald, jlast, jalen, jget, jput, jfit, jdup, jdupx, jdupx2, jdup2, jcat, jset1, jset2, jkill, List.getElem?_cons_zero, List.getElem?_cons_succ, List.set_cons_zero, List.set_cons_succ, List.length_cons, List.length_nil, Nat.reduceAdd, Nat.reduceLT, Int32.reduceToNatClampNeg, true_and, and_true, and_self, reduceCtorEq, not_false_eq_true, false_and, and_false, or_false, false_or, true_or, or_true]
      exact jk_iret X d_BO_attacked_212 hr rfl (Nat.le_refl _) (Nat.le_refl _) ⟨_, Or.inl rfl, rfl, rfl, rfl⟩
    | succ u ih =>
      intro i o4 o5 o6 o7 o8 o9 hi
      have hi8 : i < 8 := by omega
      have hge : ¬ (8 : Int32) ≤ nI i := by
        rw [show (8 : Int32) = nI 8 from rfl, nI_leI (by omega) (by omega)]; omega
      obtain ⟨r7, rst⟩ := rT_ok s hs i hi8
      have C205 : ∀ (o4 o5 o6 o7 o8 o9 : Option jv), jJ E jcl 10 M (jQ E jcl M (fun r σ' n' => poB (bdP σ a n0 F A L) n r σ' n') 0 0) n 0 0 205 [some (.inr (.inr (some (.inl (a))))), some (.inl (nI s)), some (.inl by1), some (.inl (nI i)), o4, o5, o6, o7, o8, o9] [] (bdP σ a n0 F A L) := by as_aux_lemma =>
        intro o4 o5 o6 o7 o8 o9
        refine jrun_ok jC X k_BO_attacked_205 205 _ _ _ o_BO_attacked_205 ?_
        simp only [k_BO_attacked_205, jrun, jstep, jldi, jldl, jlda, j1, j2, jl1, jl2, jli, ja1, jbr, jald, jast, jlald, jlast, jalen, jget, jput, jfit, jdup, jdupx, jdupx2, jdup2, jcat, jset1, jset2, jkill, List.getElem?_cons_zero, List.getElem?_cons_succ, List.set_cons_zero, List.set_cons_succ, List.length_cons, List.length_nil, Nat.reduceAdd, Nat.reduceLT, Int32.reduceToNatClampNeg, true_and, and_true, and_self, reduceCtorEq, not_false_eq_true, false_and, and_false, or_false, false_or, true_or, or_true, nI_1]
        exact ih (i + 1) _ _ _ _ _ _ (by omega)
      have C196 : ∀ (o4 o5 o6 o7 o8 o9 : Option jv), jJ E jcl 10 M (jQ E jcl M (fun r σ' n' => poB (bdP σ a n0 F A L) n r σ' n') 0 0) n 0 0 196 [some (.inr (.inr (some (.inl (a))))), some (.inl (nI s)), some (.inl by1), some (.inl (nI i)), o4, o5, o6, o7, o8, o9] [] (bdP σ a n0 F A L) := by as_aux_lemma =>
        intro o4 o5 o6 o7 o8 o9
        refine jrun_ok jC X k_BO_attacked_196 196 _ _ _ o_BO_attacked_196 ?_
        simp only [k_BO_attacked_196, jrun, jstep, jldi, jldl, jlda, j1, j2, jl1, jl2, jli, ja1, jbr, jald, jast, jlald, jlast, jalen, jget, jput, jfit, jdup, jdupx, jdupx2, jdup2, jcat, jset1, jset2, jkill, List.getElem?_cons_zero, List.getElem?_cons_succ, List.set_cons_zero, List.set_cons_succ, List.length_cons, List.length_nil, Nat.reduceAdd, Nat.reduceLT, Int32.reduceToNatClampNeg, true_and, and_true, and_self, reduceCtorEq, not_false_eq_true, false_and, and_false, or_false, false_or, true_or, or_true]
        exact C205 _ _ _ _ _ _
      have C150 : ∀ (o5 o6 o8 : Option jv) (aw v kd : Int32), jJ E jcl 10 M (jQ E jcl M (fun r σ' n' => poB (bdP σ a n0 F A L) n r σ' n') 0 0) n 0 0 150 [some (.inr (.inr (some (.inl (a))))), some (.inl (nI s)), some (.inl by1), some (.inl (nI i)), some (.inl (tv_0.getD i 0)), o5, o6, some (.inl aw), o8, some (.inl kd)] [.inl v, .inl kd] (bdP σ a n0 F A L) := by as_aux_lemma =>
        intro o5 o6 o8 aw v kd
        refine jrun_ok jC X k_BO_attacked_150 150 _ _ _ o_BO_attacked_150 ?_
        simp only [k_BO_attacked_150, jrun, jstep, jldi, jldl, jlda, j1, j2, jl1, jl2, jli, ja1, jbr, jald, jast, jlald, jlast, jalen, jget, jput, jfit, jdup, jdupx, jdupx2, jdup2, jcat, jset1, jset2, jkill, List.getElem?_cons_zero, List.getElem?_cons_succ, List.set_cons_zero, List.set_cons_succ, List.length_cons, List.length_nil, Nat.reduceAdd, Nat.reduceLT, Int32.reduceToNatClampNeg, true_and, and_true, and_self, reduceCtorEq, not_false_eq_true, false_and, and_false, or_false, false_or, true_or, or_true]
        refine ⟨fun h150 => C194 _ _ _ _ _ _ _, fun h150 => ?_⟩
        refine jrun_ok jC X k_BO_attacked_153 153 _ _ _ o_BO_attacked_153 ?_
        simp only [k_BO_attacked_153, jrun, jstep, jldi, jldl, jlda, j1, j2, jl1, jl2, jli, ja1, jbr, jald, jast, jlald, jlast, jalen, jget, jput, jfit, jdup, jdupx, jdupx2, jdup2, jcat, jset1, jset2, jkill, List.getElem?_cons_zero, List.getElem?_cons_succ, List.set_cons_zero, List.set_cons_succ, List.length_cons, List.length_nil, Nat.reduceAdd, Nat.reduceLT, Int32.reduceToNatClampNeg, true_and, and_true, and_self, reduceCtorEq, not_false_eq_true, false_and, and_false, or_false, false_or, true_or, or_true]
        refine ⟨fun h153 => C196 _ _ _ _ _ _, fun h153 => ?_⟩
        refine jrun_ok jC X k_BO_attacked_159 159 _ _ _ o_BO_attacked_159 ?_
        simp only [k_BO_attacked_159, jrun, jstep, jldi, jldl, jlda, j1, j2, jl1, jl2, jli, ja1, jbr, jald, jast, jlald, jlast, jalen, jget, jput, jfit, jdup, jdupx, jdupx2, jdup2, jcat, jset1, jset2, jkill, List.getElem?_cons_zero, List.getElem?_cons_succ, List.set_cons_zero, List.set_cons_succ, List.length_cons, List.length_nil, Nat.reduceAdd, Nat.reduceLT, Int32.reduceToNatClampNeg, true_and, and_true, and_self, reduceCtorEq, not_false_eq_true, false_and, and_false, or_false, false_or, true_or, or_true]
        refine ⟨fun h159 => C194 _ _ _ _ _ _ _, fun h159 => ?_⟩
        refine jrun_ok jC X k_BO_attacked_166 166 _ _ _ o_BO_attacked_166 ?_
        simp only [k_BO_attacked_166, jrun, jstep, jldi, jldl, jlda, j1, j2, jl1, jl2, jli, ja1, jbr, jald, jast, jlald, jlast, jalen, jget, jput, jfit, jdup, jdupx, jdupx2, jdup2, jcat, jset1, jset2, jkill, List.getElem?_cons_zero, List.getElem?_cons_succ, List.set_cons_zero, List.set_cons_succ, List.length_cons, List.length_nil, Nat.reduceAdd, Nat.reduceLT, Int32.reduceToNatClampNeg, true_and, and_true, and_self, reduceCtorEq, not_false_eq_true, false_and, and_false, or_false, false_or, true_or, or_true]
        refine ⟨fun h166 => C196 _ _ _ _ _ _, fun h166 => ?_⟩
        refine jrun_ok jC X k_BO_attacked_172 172 _ _ _ o_BO_attacked_172 ?_
        simp only [k_BO_attacked_172, jrun, jstep, jldi, jldl, jlda, j1, j2, jl1, jl2, jli, ja1, jbr, jald, jast, jlald, jlast, jalen, jget, jput, jfit, jdup, jdupx, jdupx2, jdup2, jcat, jset1, jset2, jkill, List.getElem?_cons_zero, List.getElem?_cons_succ, List.set_cons_zero, List.set_cons_succ, List.length_cons, List.length_nil, Nat.reduceAdd, Nat.reduceLT, Int32.reduceToNatClampNeg, true_and, and_true, and_self, reduceCtorEq, not_false_eq_true, false_and, and_false, or_false, false_or, true_or, or_true]
        refine ⟨fun h172 => C196 _ _ _ _ _ _, fun h172 => ?_⟩
        refine jrun_ok jC X k_BO_attacked_177 177 _ _ _ o_BO_attacked_177 ?_
        simp only [k_BO_attacked_177, jrun, jstep, jldi, jldl, jlda, j1, j2, jl1, jl2, jli, ja1, jbr, jald, jast, jlald, jlast, jalen, jget, jput, jfit, jdup, jdupx, jdupx2, jdup2, jcat, jset1, jset2, jkill, List.getElem?_cons_zero, List.getElem?_cons_succ, List.set_cons_zero, List.set_cons_succ, List.length_cons, List.length_nil, Nat.reduceAdd, Nat.reduceLT, Int32.reduceToNatClampNeg, true_and, and_true, and_self, reduceCtorEq, not_false_eq_true, false_and, and_false, or_false, false_or, true_or, or_true]
        refine ⟨fun _ => ?_, fun _ => ?_⟩
        · refine jrun_ok jC X k_BO_attacked_189 189 _ _ _ o_BO_attacked_189 ?_
          simp only [k_BO_attacked_189, jrun, jstep, jldi, jldl, jlda, j1, j2, jl1, jl2, jli, ja1, jbr, jald, jast, jlald, jlast, jalen, jget, jput, jfit, jdup, jdupx, jdupx2, jdup2, jcat, jset1, jset2, jkill, List.getElem?_cons_zero, List.getElem?_cons_succ, List.set_cons_zero, List.set_cons_succ, List.length_cons, List.length_nil, Nat.reduceAdd, Nat.reduceLT, Int32.reduceToNatClampNeg, true_and, and_true, and_self, reduceCtorEq, not_false_eq_true, false_and, and_false, or_false, false_or, true_or, or_true]
          refine ⟨fun h189 => C196 _ _ _ _ _ _, fun h189 => ?_⟩
          exact C194 _ _ _ _ _ _ _
        · refine jrun_ok jC X k_BO_attacked_181 181 _ _ _ o_BO_attacked_181 ?_
          simp only [k_BO_attacked_181, jrun, jstep, jldi, jldl, jlda, j1, j2, jl1, jl2, jli, ja1, jbr, jald, jast, jlald, jlast, jalen, jget, jput, jfit, jdup, jdupx, jdupx2, jdup2, jcat, jset1, jset2, jkill, List.getElem?_cons_zero, List.getElem?_cons_succ, List.set_cons_zero, List.set_cons_succ, List.length_cons, List.length_nil, Nat.reduceAdd, Nat.reduceLT, Int32.reduceToNatClampNeg, true_and, and_true, and_self, reduceCtorEq, not_false_eq_true, false_and, and_false, or_false, false_or, true_or, or_true]
          refine ⟨fun h181 => C196 _ _ _ _ _ _, fun h181 => ?_⟩
          refine jrun_ok jC X k_BO_attacked_186 186 _ _ _ o_BO_attacked_186 ?_
          simp only [k_BO_attacked_186, jrun, jstep, jldi, jldl, jlda, j1, j2, jl1, jl2, jli, ja1, jbr, jald, jast, jlald, jlast, jalen, jget, jput, jfit, jdup, jdupx, jdupx2, jdup2, jcat, jset1, jset2, jkill, List.getElem?_cons_zero, List.getElem?_cons_succ, List.set_cons_zero, List.set_cons_succ, List.length_cons, List.length_nil, Nat.reduceAdd, Nat.reduceLT, Int32.reduceToNatClampNeg, true_and, and_true, and_self, reduceCtorEq, not_false_eq_true, false_and, and_false, or_false, false_or, true_or, or_true]
          exact C194 _ _ _ _ _ _ _
      have Cin : ∀ (w k : Nat) (o8 o9 : Option jv), k + w = rT (s * 8 + i) → jJ E jcl 10 M (jQ E jcl M (fun r σ' n' => poB (bdP σ a n0 F A L) n r σ' n') 0 0) n 0 0 86 [some (.inr (.inr (some (.inl (a))))), some (.inl (nI s)), some (.inl by1), some (.inl (nI i)), some (.inl (tv_0.getD i 0)), some (.inl (nI (rT (s * 8 + i)))), some (.inl (nI (pt s i k))), some (.inl (nI (k + 1))), o8, o9] [] (bdP σ a n0 F A L) := by as_aux_lemma =>
        intro w
        induction w with
        | zero =>
          intro k o8 o9 hk
          have hgt : nI (rT (s * 8 + i)) < nI (k + 1) := nI_lt (by omega) (by omega)
          refine jrun_ok jC X k_BO_attacked_86 86 _ _ _ o_BO_attacked_86 ?_
          simp only [k_BO_attacked_86, jrun, jstep, jldi, jldl, jlda, j1, j2, jl1, jl2, jli, ja1, jbr, jald, jast, jlald, jlast, jalen, jget, jput, jfit, jdup, jdupx, jdupx2, jdup2, jcat, jset1, jset2, jkill, List.getElem?_cons_zero, List.getElem?_cons_succ, List.set_cons_zero, List.set_cons_succ, List.length_cons, List.length_nil, Nat.reduceAdd, Nat.reduceLT, Int32.reduceToNatClampNeg, true_and, and_true, and_self, reduceCtorEq, not_false_eq_true, false_and, and_false, or_false, false_or, true_or, or_true]
          exact ⟨fun _ => C205 _ _ _ _ _ _, fun h => absurd hgt h⟩
        | succ w ihw =>
          intro k o8 o9 hk
          have hgt : ¬ nI (rT (s * 8 + i)) < nI (k + 1) := nI_nlt (by omega) (by omega)
          obtain ⟨p1, p2⟩ := rst k (by omega)
          have u1 : vp_in (nI (pt s i (k + 1))) 64 = True := eq_true (vp_in_nI p1 (by decide))
          refine jrun_ok jC X k_BO_attacked_86 86 _ _ _ o_BO_attacked_86 ?_
          simp only [k_BO_attacked_86, jrun, jstep, jldi, jldl, jlda, j1, j2, jl1, jl2, jli, ja1, jbr, jald, jast, jlald, jlast, jalen, jget, jput, jfit, jdup, jdupx, jdupx2, jdup2, jcat, jset1, jset2, jkill, List.getElem?_cons_zero, List.getElem?_cons_succ, List.set_cons_zero, List.set_cons_succ, List.length_cons, List.length_nil, Nat.reduceAdd, Nat.reduceLT, Int32.reduceToNatClampNeg, true_and, and_true, and_self, reduceCtorEq, not_false_eq_true, false_and, and_false, or_false, false_or, true_or, or_true]
          refine ⟨fun h86 => absurd h86 hgt, fun h86 => ?_⟩
          refine jrun_ok jC X k_BO_attacked_93 93 _ _ _ o_BO_attacked_93 ?_
          simp only [k_BO_attacked_93, jrun, jstep, jldi, jldl, jlda, j1, j2, jl1, jl2, jli, ja1, jbr, jald, jast, jlald, jlast, jalen, jget, jput, jfit, jdup, jdupx, jdupx2, jdup2, jcat, jset1, jset2, jkill, List.getElem?_cons_zero, List.getElem?_cons_succ, List.set_cons_zero, List.set_cons_succ, List.length_cons, List.length_nil, Nat.reduceAdd, Nat.reduceLT, Int32.reduceToNatClampNeg, true_and, and_true, and_self, reduceCtorEq, not_false_eq_true, false_and, and_false, or_false, false_or, true_or, or_true, bd_a, bd_ua, bd_l, vp_nar_int32, haa, bd_r0 hab, bd_u0 hab, hb0, bd_r1 hab, bd_u1 hab, hb1, bd_r2 hab, bd_u2 hab, hb2, bd_r3 hab, bd_u3 hab, hb3, bd_r4 hab, bd_u4 hab, hb4, bd_r5 hab, bd_u5 hab, hb5, bd_r6 hab, bd_u6 hab, hb6, bd_r7 hab, bd_u7 hab, hb7, bd_r8 hab, bd_u8 hab, hb8, bd_r9 hab, bd_u9 hab, hb9, bd_r10 hab, bd_u10 hab, hb10, bd_f0, bd_f1, bd_f2, bd_f3, bd_f4, bd_f5, bd_f6, bd_f7, bd_f8, bd_f9, bd_f10, bd_f11, bd_f12, bd_f13, bd_f14, bd_f15, bd_f16, bd_s2, bd_s3, bd_s4, bd_s5, bd_s6, bd_s16, p2, u1]
          refine jrun_ok jC X k_BO_attacked_109 109 _ _ _ o_BO_attacked_109 ?_
          simp only [k_BO_attacked_109, jrun, jstep, jldi, jldl, jlda, j1, j2, jl1, jl2, jli, ja1, jbr, jald, jast, jlald, jlast, jalen, jget, jput, jfit, jdup, jdupx, jdupx2, jdup2, jcat, jset1, jset2, jkill, List.getElem?_cons_zero, List.getElem?_cons_succ, List.set_cons_zero, List.set_cons_succ, List.length_cons, List.length_nil, Nat.reduceAdd, Nat.reduceLT, Int32.reduceToNatClampNeg, true_and, and_true, and_self, reduceCtorEq, not_false_eq_true, false_and, and_false, or_false, false_or, true_or, or_true]
          refine ⟨fun _ => ?_, fun _ => ?_⟩
          · refine jrun_ok jC X k_BO_attacked_117 117 _ _ _ o_BO_attacked_117 ?_
            simp only [k_BO_attacked_117, jrun, jstep, jldi, jldl, jlda, j1, j2, jl1, jl2, jli, ja1, jbr, jald, jast, jlald, jlast, jalen, jget, jput, jfit, jdup, jdupx, jdupx2, jdup2, jcat, jset1, jset2, jkill, List.getElem?_cons_zero, List.getElem?_cons_succ, List.set_cons_zero, List.set_cons_succ, List.length_cons, List.length_nil, Nat.reduceAdd, Nat.reduceLT, Int32.reduceToNatClampNeg, true_and, and_true, and_self, reduceCtorEq, not_false_eq_true, false_and, and_false, or_false, false_or, true_or, or_true]
            refine ⟨fun h117 => C205 _ _ _ _ _ _, fun h117 => ?_⟩
            refine jrun_ok jC X k_BO_attacked_125 125 _ _ _ o_BO_attacked_125 ?_
            simp only [k_BO_attacked_125, jrun, jstep, jldi, jldl, jlda, j1, j2, jl1, jl2, jli, ja1, jbr, jald, jast, jlald, jlast, jalen, jget, jput, jfit, jdup, jdupx, jdupx2, jdup2, jcat, jset1, jset2, jkill, List.getElem?_cons_zero, List.getElem?_cons_succ, List.set_cons_zero, List.set_cons_succ, List.length_cons, List.length_nil, Nat.reduceAdd, Nat.reduceLT, Int32.reduceToNatClampNeg, true_and, and_true, and_self, reduceCtorEq, not_false_eq_true, false_and, and_false, or_false, false_or, true_or, or_true]
            refine ⟨fun h125 => C194 _ _ _ _ _ _ _, fun h125 => ?_⟩
            refine jrun_ok jC X k_BO_attacked_138 138 _ _ _ o_BO_attacked_138 ?_
            simp only [k_BO_attacked_138, jrun, jstep, jldi, jldl, jlda, j1, j2, jl1, jl2, jli, ja1, jbr, jald, jast, jlald, jlast, jalen, jget, jput, jfit, jdup, jdupx, jdupx2, jdup2, jcat, jset1, jset2, jkill, List.getElem?_cons_zero, List.getElem?_cons_succ, List.set_cons_zero, List.set_cons_succ, List.length_cons, List.length_nil, Nat.reduceAdd, Nat.reduceLT, Int32.reduceToNatClampNeg, true_and, and_true, and_self, reduceCtorEq, not_false_eq_true, false_and, and_false, or_false, false_or, true_or, or_true]
            refine ⟨fun _ => ?_, fun _ => ?_⟩
            · refine jrun_ok jC X k_BO_attacked_149 149 _ _ _ o_BO_attacked_149 ?_
              simp only [k_BO_attacked_149, jrun, jstep, jldi, jldl, jlda, j1, j2, jl1, jl2, jli, ja1, jbr, jald, jast, jlald, jlast, jalen, jget, jput, jfit, jdup, jdupx, jdupx2, jdup2, jcat, jset1, jset2, jkill, List.getElem?_cons_zero, List.getElem?_cons_succ, List.set_cons_zero, List.set_cons_succ, List.length_cons, List.length_nil, Nat.reduceAdd, Nat.reduceLT, Int32.reduceToNatClampNeg, true_and, and_true, and_self, reduceCtorEq, not_false_eq_true, false_and, and_false, or_false, false_or, true_or, or_true]
              exact C150 _ _ _ _ _ _
            · refine jrun_ok jC X k_BO_attacked_145 145 _ _ _ o_BO_attacked_145 ?_
              simp only [k_BO_attacked_145, jrun, jstep, jldi, jldl, jlda, j1, j2, jl1, jl2, jli, ja1, jbr, jald, jast, jlald, jlast, jalen, jget, jput, jfit, jdup, jdupx, jdupx2, jdup2, jcat, jset1, jset2, jkill, List.getElem?_cons_zero, List.getElem?_cons_succ, List.set_cons_zero, List.set_cons_succ, List.length_cons, List.length_nil, Nat.reduceAdd, Nat.reduceLT, Int32.reduceToNatClampNeg, true_and, and_true, and_self, reduceCtorEq, not_false_eq_true, false_and, and_false, or_false, false_or, true_or, or_true]
              exact C150 _ _ _ _ _ _
          · refine jrun_ok jC X k_BO_attacked_114 114 _ _ _ o_BO_attacked_114 ?_
            simp only [k_BO_attacked_114, jrun, jstep, jldi, jldl, jlda, j1, j2, jl1, jl2, jli, ja1, jbr, jald, jast, jlald, jlast, jalen, jget, jput, jfit, jdup, jdupx, jdupx2, jdup2, jcat, jset1, jset2, jkill, List.getElem?_cons_zero, List.getElem?_cons_succ, List.set_cons_zero, List.set_cons_succ, List.length_cons, List.length_nil, Nat.reduceAdd, Nat.reduceLT, Int32.reduceToNatClampNeg, true_and, and_true, and_self, reduceCtorEq, not_false_eq_true, false_and, and_false, or_false, false_or, true_or, or_true]
            refine jrun_ok jC X k_BO_attacked_199 199 _ _ _ o_BO_attacked_199 ?_
            simp only [k_BO_attacked_199, jrun, jstep, jldi, jldl, jlda, j1, j2, jl1, jl2, jli, ja1, jbr, jald, jast, jlald, jlast, jalen, jget, jput, jfit, jdup, jdupx, jdupx2, jdup2, jcat, jset1, jset2, jkill, List.getElem?_cons_zero, List.getElem?_cons_succ, List.set_cons_zero, List.set_cons_succ, List.length_cons, List.length_nil, Nat.reduceAdd, Nat.reduceLT, Int32.reduceToNatClampNeg, true_and, and_true, and_self, reduceCtorEq, not_false_eq_true, false_and, and_false, or_false, false_or, true_or, or_true, nI_1]
            exact ihw (k + 1) _ _ (by omega)
      have u8 : vp_in (nI i) 8 = True := eq_true (vp_in_nI hi8 (by decide))
      have ci : (nI i).toNatClampNeg = i := nI_clamp (by omega)
      have u9 : vp_in (nI (s * 8 + i)) 512 = True := eq_true (vp_in_nI (by omega) (by decide))
      have c9 : (nI (s * 8 + i)).toNatClampNeg = s * 8 + i := nI_clamp (by omega)
      have r9 : A 7 (s * 8 + i) = nI (rT (s * 8 + i)) := hT1.1 _ (by omega)
      have C80 : ∀ (o6 o7 : Option jv), jJ E jcl 10 M (jQ E jcl M (fun r σ' n' => poB (bdP σ a n0 F A L) n r σ' n') 0 0) n 0 0 80 [some (.inr (.inr (some (.inl (a))))), some (.inl (nI s)), some (.inl by1), some (.inl (nI i)), some (.inl (tv_0.getD i 0)), some (.inl (nI (rT (s * 8 + i)))), o6, o7, o8, o9] [] (bdP σ a n0 F A L) := by as_aux_lemma =>
        intro o6 o7
        refine jrun_ok jC X k_BO_attacked_80 80 _ _ _ o_BO_attacked_80 ?_
        simp only [k_BO_attacked_80, jrun, jstep, jldi, jldl, jlda, j1, j2, jl1, jl2, jli, ja1, jbr, jald, jast, jlald, jlast, jalen, jget, jput, jfit, jdup, jdupx, jdupx2, jdup2, jcat, jset1, jset2, jkill, List.getElem?_cons_zero, List.getElem?_cons_succ, List.set_cons_zero, List.set_cons_succ, List.length_cons, List.length_nil, Nat.reduceAdd, Nat.reduceLT, Int32.reduceToNatClampNeg, true_and, and_true, and_self, reduceCtorEq, not_false_eq_true, false_and, and_false, or_false, false_or, true_or, or_true]
        have hp0 := pt_0 s hs i hi8
        have h9 := Cin (rT (s * 8 + i)) 0 o8 o9 (by omega)
        rw [hp0] at h9
        exact h9
      have C67 : ∀ (o5 o6 o7 : Option jv), jJ E jcl 10 M (jQ E jcl M (fun r σ' n' => poB (bdP σ a n0 F A L) n r σ' n') 0 0) n 0 0 67 [some (.inr (.inr (some (.inl (a))))), some (.inl (nI s)), some (.inl by1), some (.inl (nI i)), some (.inl (tv_0.getD i 0)), o5, o6, o7, o8, o9] [] (bdP σ a n0 F A L) := by as_aux_lemma =>
        intro o5 o6 o7
        refine jrun_ok jC X k_BO_attacked_67 67 _ _ _ o_BO_attacked_67 ?_
        simp only [k_BO_attacked_67, jrun, jstep, jldi, jldl, jlda, j1, j2, jl1, jl2, jli, ja1, jbr, jald, jast, jlald, jlast, jalen, jget, jput, jfit, jdup, jdupx, jdupx2, jdup2, jcat, jset1, jset2, jkill, List.getElem?_cons_zero, List.getElem?_cons_succ, List.set_cons_zero, List.set_cons_succ, List.length_cons, List.length_nil, Nat.reduceAdd, Nat.reduceLT, Int32.reduceToNatClampNeg, true_and, and_true, and_self, reduceCtorEq, not_false_eq_true, false_and, and_false, or_false, false_or, true_or, or_true, bd_a, bd_ua, bd_l, vp_nar_int32, haa, bd_r0 hab, bd_u0 hab, hb0, bd_r1 hab, bd_u1 hab, hb1, bd_r2 hab, bd_u2 hab, hb2, bd_r3 hab, bd_u3 hab, hb3, bd_r4 hab, bd_u4 hab, hb4, bd_r5 hab, bd_u5 hab, hb5, bd_r6 hab, bd_u6 hab, hb6, bd_r7 hab, bd_u7 hab, hb7, bd_r8 hab, bd_u8 hab, hb8, bd_r9 hab, bd_u9 hab, hb9, bd_r10 hab, bd_u10 hab, hb10, bd_f0, bd_f1, bd_f2, bd_f3, bd_f4, bd_f5, bd_f6, bd_f7, bd_f8, bd_f9, bd_f10, bd_f11, bd_f12, bd_f13, bd_f14, bd_f15, bd_f16, bd_s2, bd_s3, bd_s4, bd_s5, bd_s6, bd_s16, e8, nI_add, u9, c9, r9]
        exact C80 _ _
      have C60 : jJ E jcl 10 M (jQ E jcl M (fun r σ' n' => poB (bdP σ a n0 F A L) n r σ' n') 0 0) n 0 0 60 [some (.inr (.inr (some (.inl (a))))), some (.inl (nI s)), some (.inl by1), some (.inl (nI i)), o4, o5, o6, o7, o8, o9] [] (bdP σ a n0 F A L) := by as_aux_lemma =>
        refine jrun_ok jC X k_BO_attacked_60 60 _ _ _ o_BO_attacked_60 ?_
        simp only [k_BO_attacked_60, jrun, jstep, jldi, jldl, jlda, j1, j2, jl1, jl2, jli, ja1, jbr, jald, jast, jlald, jlast, jalen, jget, jput, jfit, jdup, jdupx, jdupx2, jdup2, jcat, jset1, jset2, jkill, List.getElem?_cons_zero, List.getElem?_cons_succ, List.set_cons_zero, List.set_cons_succ, List.length_cons, List.length_nil, Nat.reduceAdd, Nat.reduceLT, Int32.reduceToNatClampNeg, true_and, and_true, and_self, reduceCtorEq, not_false_eq_true, false_and, and_false, or_false, false_or, true_or, or_true, jtb_0, u8, ci]
        exact C67 _ _ _
      refine jrun_ok jC X k_BO_attacked_54 54 _ _ _ o_BO_attacked_54 ?_
      simp only [k_BO_attacked_54, jrun, jstep, jldi, jldl, jlda, j1, j2, jl1, jl2, jli, ja1, jbr, jald, jast, jlald, jlast, jalen, jget, jput, jfit, jdup, jdupx, jdupx2, jdup2, jcat, jset1, jset2, jkill, List.getElem?_cons_zero, List.getElem?_cons_succ, List.set_cons_zero, List.set_cons_succ, List.length_cons, List.length_nil, Nat.reduceAdd, Nat.reduceLT, Int32.reduceToNatClampNeg, true_and, and_true, and_self, reduceCtorEq, not_false_eq_true, false_and, and_false, or_false, false_or, true_or, or_true]
      refine ⟨fun h54 => absurd h54 hge, fun h54 => ?_⟩
      exact C60
  have C52 : ∀ o3 : Option jv, jJ E jcl 10 M (jQ E jcl M (fun r σ' n' => poB (bdP σ a n0 F A L) n r σ' n') 0 0) n 0 0 52 [some (.inr (.inr (some (.inl (a))))), some (.inl (nI s)), some (.inl by1), o3, none, none, none, none, none, none] [] (bdP σ a n0 F A L) := by as_aux_lemma =>
    intro o3
    refine jrun_ok jC X k_BO_attacked_52 52 _ _ _ o_BO_attacked_52 ?_
    simp only [k_BO_attacked_52, jrun, jstep, jldi, jldl, jlda, j1, j2, jl1, jl2, jli, ja1, jbr, jald, jast, jlald, jlast, jalen, jget, jput, jfit, jdup, jdupx, jdupx2, jdup2, jcat, jset1, jset2, jkill, List.getElem?_cons_zero, List.getElem?_cons_succ, List.set_cons_zero, List.set_cons_succ, List.length_cons, List.length_nil, Nat.reduceAdd, Nat.reduceLT, Int32.reduceToNatClampNeg, true_and, and_true, and_self, reduceCtorEq, not_false_eq_true, false_and, and_false, or_false, false_or, true_or, or_true]
    exact Cout 8 0 _ _ _ _ _ _ (by omega)
  have Ch : ∀ (u i : Nat), i + u = 8 → jJ E jcl 10 M (jQ E jcl M (fun r σ' n' => poB (bdP σ a n0 F A L) n r σ' n') 0 0) n 0 0 5 [some (.inr (.inr (some (.inl (a))))), some (.inl (nI s)), some (.inl by1), some (.inl (nI (s * 8 + i))), none, none, none, none, none, none] [] (bdP σ a n0 F A L) := by as_aux_lemma =>
    intro u
    induction u with
    | zero =>
      intro i hi
      obtain rfl : i = 8 := by omega
      refine jrun_ok jC X k_BO_attacked_5 5 _ _ _ o_BO_attacked_5 ?_
      simp only [k_BO_attacked_5, jrun, jstep, jldi, jldl, jlda, j1, j2, jl1, jl2, jli, ja1, jbr, jald, jast, jlald, jlast, jalen, jget, jput, jfit, jdup, jdupx, jdupx2, jdup2, jcat, jset1, jset2, jkill, List.getElem?_cons_zero, List.getElem?_cons_succ, List.set_cons_zero, List.set_cons_succ, List.length_cons, List.length_nil, Nat.reduceAdd, Nat.reduceLT, Int32.reduceToNatClampNeg, true_and, and_true, and_self, reduceCtorEq, not_false_eq_true, false_and, and_false, or_false, false_or, true_or, or_true, e8, e88]
      exact ⟨fun _ => C52 _, fun h => absurd (Int32.le_refl _) h⟩
    | succ u ih =>
      intro i hi
      have hge : ¬ nI (s * 8 + 8) ≤ nI (s * 8 + i) := nI_ge (by omega) (by omega)
      have u9 : vp_in (nI (s * 8 + i)) 512 = True := eq_true (vp_in_nI (by omega) (by decide))
      have c9 : (nI (s * 8 + i)).toNatClampNeg = s * 8 + i := nI_clamp (by omega)
      have r9 : A 8 (s * 8 + i) = hT (s * 8 + i) := hT1.2 _ (by omega)
      refine jrun_ok jC X k_BO_attacked_5 5 _ _ _ o_BO_attacked_5 ?_
      simp only [k_BO_attacked_5, jrun, jstep, jldi, jldl, jlda, j1, j2, jl1, jl2, jli, ja1, jbr, jald, jast, jlald, jlast, jalen, jget, jput, jfit, jdup, jdupx, jdupx2, jdup2, jcat, jset1, jset2, jkill, List.getElem?_cons_zero, List.getElem?_cons_succ, List.set_cons_zero, List.set_cons_succ, List.length_cons, List.length_nil, Nat.reduceAdd, Nat.reduceLT, Int32.reduceToNatClampNeg, true_and, and_true, and_self, reduceCtorEq, not_false_eq_true, false_and, and_false, or_false, false_or, true_or, or_true, e8, e88]
      refine ⟨fun h5 => absurd h5 hge, fun h5 => ?_⟩
      refine jrun_ok jC X k_BO_attacked_16 16 _ _ _ o_BO_attacked_16 ?_
      simp only [k_BO_attacked_16, jrun, jstep, jldi, jldl, jlda, j1, j2, jl1, jl2, jli, ja1, jbr, jald, jast, jlald, jlast, jalen, jget, jput, jfit, jdup, jdupx, jdupx2, jdup2, jcat, jset1, jset2, jkill, List.getElem?_cons_zero, List.getElem?_cons_succ, List.set_cons_zero, List.set_cons_succ, List.length_cons, List.length_nil, Nat.reduceAdd, Nat.reduceLT, Int32.reduceToNatClampNeg, true_and, and_true, and_self, reduceCtorEq, not_false_eq_true, false_and, and_false, or_false, false_or, true_or, or_true, bd_a, bd_ua, bd_l, vp_nar_int32, haa, bd_r0 hab, bd_u0 hab, hb0, bd_r1 hab, bd_u1 hab, hb1, bd_r2 hab, bd_u2 hab, hb2, bd_r3 hab, bd_u3 hab, hb3, bd_r4 hab, bd_u4 hab, hb4, bd_r5 hab, bd_u5 hab, hb5, bd_r6 hab, bd_u6 hab, hb6, bd_r7 hab, bd_u7 hab, hb7, bd_r8 hab, bd_u8 hab, hb8, bd_r9 hab, bd_u9 hab, hb9, bd_r10 hab, bd_u10 hab, hb10, bd_f0, bd_f1, bd_f2, bd_f3, bd_f4, bd_f5, bd_f6, bd_f7, bd_f8, bd_f9, bd_f10, bd_f11, bd_f12, bd_f13, bd_f14, bd_f15, bd_f16, bd_s2, bd_s3, bd_s4, bd_s5, bd_s6, bd_s16, u9, c9, r9]
      refine ⟨fun h16 => C52 _, fun h16 => ?_⟩
      obtain ⟨t, ht, he⟩ := (hT_ok (s * 8 + i) (by omega)).resolve_left h16
      have ut : vp_in (nI t) 64 = True := eq_true (vp_in_nI ht (by decide))
      rw [he] at r9
      refine jrun_ok jC X k_BO_attacked_25 25 _ _ _ o_BO_attacked_25 ?_
      simp only [k_BO_attacked_25, jrun, jstep, jldi, jldl, jlda, j1, j2, jl1, jl2, jli, ja1, jbr, jald, jast, jlald, jlast, jalen, jget, jput, jfit, jdup, jdupx, jdupx2, jdup2, jcat, jset1, jset2, jkill, List.getElem?_cons_zero, List.getElem?_cons_succ, List.set_cons_zero, List.set_cons_succ, List.length_cons, List.length_nil, Nat.reduceAdd, Nat.reduceLT, Int32.reduceToNatClampNeg, true_and, and_true, and_self, reduceCtorEq, not_false_eq_true, false_and, and_false, or_false, false_or, true_or, or_true, bd_a, bd_ua, bd_l, vp_nar_int32, haa, bd_r0 hab, bd_u0 hab, hb0, bd_r1 hab, bd_u1 hab, hb1, bd_r2 hab, bd_u2 hab, hb2, bd_r3 hab, bd_u3 hab, hb3, bd_r4 hab, bd_u4 hab, hb4, bd_r5 hab, bd_u5 hab, hb5, bd_r6 hab, bd_u6 hab, hb6, bd_r7 hab, bd_u7 hab, hb7, bd_r8 hab, bd_u8 hab, hb8, bd_r9 hab, bd_u9 hab, hb9, bd_r10 hab, bd_u10 hab, hb10, bd_f0, bd_f1, bd_f2, bd_f3, bd_f4, bd_f5, bd_f6, bd_f7, bd_f8, bd_f9, bd_f10, bd_f11, bd_f12, bd_f13, bd_f14, bd_f15, bd_f16, bd_s2, bd_s3, bd_s4, bd_s5, bd_s6, bd_s16, u9, c9, r9, ut]
      refine ⟨fun _ => ?_, fun _ => ?_⟩
      · refine jrun_ok jC X k_BO_attacked_46 46 _ _ _ o_BO_attacked_46 ?_
        simp only [k_BO_attacked_46, jrun, jstep, jldi, jldl, jlda, j1, j2, jl1, jl2, jli, ja1, jbr, jald, jast, jlald, jlast, jalen, jget, jput, jfit, jdup, jdupx, jdupx2, jdup2, jcat, jset1, jset2, jkill, List.getElem?_cons_zero, List.getElem?_cons_succ, List.set_cons_zero, List.set_cons_succ, List.length_cons, List.length_nil, Nat.reduceAdd, Nat.reduceLT, Int32.reduceToNatClampNeg, true_and, and_true, and_self, reduceCtorEq, not_false_eq_true, false_and, and_false, or_false, false_or, true_or, or_true, nI_1]
        exact ih (i + 1) (by omega)
      · refine jrun_ok jC X k_BO_attacked_44 44 _ _ _ o_BO_attacked_44 ?_
        simp only [k_BO_attacked_44, jrun, jstep, jldi, jldl, jlda, j1, j2, jl1, jl2, jli, ja1, jbr, jald, jast, jlald, jlast, jalen, jget, jput, jfit, jdup, jdupx, jdupx2, jdup2, jcat, jset1, jset2, jkill, List.getElem?_cons_zero, List.getElem?_cons_succ, List.set_cons_zero, List.set_cons_succ, List.length_cons, List.length_nil, Nat.reduceAdd, Nat.reduceLT, Int32.reduceToNatClampNeg, true_and, and_true, and_self, reduceCtorEq, not_false_eq_true, false_and, and_false, or_false, false_or, true_or, or_true]
        exact jk_iret X d_BO_attacked_45 hr rfl (Nat.le_refl _) (Nat.le_refl _) ⟨_, Or.inr rfl, rfl, rfl, rfl⟩
  refine jrun_ok jC X k_BO_attacked_0 0 _ _ _ o_BO_attacked_0 ?_
  simp only [k_BO_attacked_0, jrun, jstep, jldi, jldl, jlda, j1, j2, jl1, jl2, jli, ja1, jbr, jald, jast, jlald, jlast, jalen, jget, jput, jfit, jdup, jdupx, jdupx2, jdup2, jcat, jset1, jset2, jkill, List.getElem?_cons_zero, List.getElem?_cons_succ, List.set_cons_zero, List.set_cons_succ, List.length_cons, List.length_nil, Nat.reduceAdd, Nat.reduceLT, Int32.reduceToNatClampNeg, true_and, and_true, and_self, reduceCtorEq, not_false_eq_true, false_and, and_false, or_false, false_or, true_or, or_true, e8]
  exact Ch 8 0 (by omega)

