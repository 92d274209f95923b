/-! the law -/
def kk_LW_0 : List jI := [(.new 8, 3, (0, 0, 0, 0, 0)), (.dup, 1, (0, 0, 0, 0, 0)), (.invokespecial 26, 3, (0, 0, 0, 0, 0)), (.astore_n 1, 1, (1, 0, 0, 0, 0)), (.new 27, 3, (0, 0, 0, 0, 0)), (.dup, 1, (0, 0, 0, 0, 0)), (.invokespecial 29, 3, (0, 0, 0, 0, 0)), (.astore_n 2, 1, (2, 0, 0, 0, 0)), (.iconst 1, 1, (0, 0, 0, 1, 0)), (.newarray .long, 2, (0, 0, 0, 0, 0)), (.astore_n 3, 1, (3, 0, 0, 0, 0)), (.iconst 0, 1, (0, 0, 0, 0, 0)), (.istore 4, 2, (4, 0, 0, 0, 0)), (.iload 4, 2, (4, 0, 0, 0, 0)), (.aload_n 0, 1, (0, 0, 0, 0, 0)), (.arraylength, 1, (0, 0, 0, 0, 0)), (.bipush 6, 2, (0, 0, 0, 6, 0)), (.isub, 1, (0, 0, 0, 0, 0)), (.if_icmp .gt 253, 3, (283, 0, 0, 0, 0)), (.aload_n 0, 1, (0, 0, 0, 0, 0)), (.iload 4, 2, (4, 0, 0, 0, 0)), (.iaload, 1, (0, 0, 0, 0, 0)), (.iconst 3, 1, (0, 0, 0, 3, 0)), (.iand, 1, (0, 0, 0, 0, 0)), (.tableswitch 238 0 3 #[29, 113, 169, 182], 29, (0, 0, 0, 0, 0)), (.aload_n 1, 1, (1, 0, 0, 0, 0)), (.aload_n 0, 1, (0, 0, 0, 0, 0)), (.iload 4, 2, (4, 0, 0, 0, 0)), (.iconst 1, 1, (0, 0, 0, 1, 0)), (.iadd, 1, (0, 0, 0, 0, 0)), (.iaload, 1, (0, 0, 0, 0, 0)), (.aload_n 0, 1, (0, 0, 0, 0, 0)), (.iload 4, 2, (4, 0, 0, 0, 0)), (.iconst 2, 1, (0, 0, 0, 2, 0)), (.iadd, 1, (0, 0, 0, 0, 0)), (.iaload, 1, (0, 0, 0, 0, 0)), (.aload_n 0, 1, (0, 0, 0, 0, 0)), (.iload 4, 2, (4, 0, 0, 0, 0)), (.iconst 3, 1, (0, 0, 0, 3, 0)), (.iadd, 1, (0, 0, 0, 0, 0)), (.iaload, 1, (0, 0, 0, 0, 0)), (.aload_n 0, 1, (0, 0, 0, 0, 0)), (.iload 4, 2, (4, 0, 0, 0, 0)), (.iconst 4, 1, (0, 0, 0, 4, 0)), (.iadd, 1, (0, 0, 0, 0, 0)), (.iaload, 1, (0, 0, 0, 0, 0)), (.aload_n 0, 1, (0, 0, 0, 0, 0)), (.iload 4, 2, (4, 0, 0, 0, 0)), (.iconst 5, 1, (0, 0, 0, 5, 0)), (.iadd, 1, (0, 0, 0, 0, 0)), (.iaload, 1, (0, 0, 0, 0, 0)), (.invokestatic 30, 3, (0, 0, 0, 0, 0)), (.istore 5, 2, (5, 0, 0, 0, 0)), (.aload_n 2, 1, (2, 0, 0, 0, 0)), (.aload_n 0, 1, (0, 0, 0, 0, 0)), (.iload 4, 2, (4, 0, 0, 0, 0)), (.iconst 1, 1, (0, 0, 0, 1, 0)), (.iadd, 1, (0, 0, 0, 0, 0)), (.iaload, 1, (0, 0, 0, 0, 0)), (.aload_n 0, 1, (0, 0, 0, 0, 0)), (.iload 4, 2, (4, 0, 0, 0, 0)), (.iconst 2, 1, (0, 0, 0, 2, 0)), (.iadd, 1, (0, 0, 0, 0, 0)), (.iaload, 1, (0, 0, 0, 0, 0)), (.aload_n 0, 1, (0, 0, 0, 0, 0)), (.iload 4, 2, (4, 0, 0, 0, 0)), (.iconst 3, 1, (0, 0, 0, 3, 0)), (.iadd, 1, (0, 0, 0, 0, 0)), (.iaload, 1, (0, 0, 0, 0, 0)), (.aload_n 0, 1, (0, 0, 0, 0, 0)), (.iload 4, 2, (4, 0, 0, 0, 0)), (.iconst 4, 1, (0, 0, 0, 4, 0)), (.iadd, 1, (0, 0, 0, 0, 0)), (.iaload, 1, (0, 0, 0, 0, 0)), (.aload_n 0, 1, (0, 0, 0, 0, 0)), (.iload 4, 2, (4, 0, 0, 0, 0)), (.iconst 5, 1, (0, 0, 0, 5, 0)), (.iadd, 1, (0, 0, 0, 0, 0)), (.iaload, 1, (0, 0, 0, 0, 0)), (.invokevirtual 35, 3, (0, 0, 0, 0, 0)), (.aload_n 2, 1, (2, 0, 0, 0, 0)), (.invokevirtual 36, 3, (0, 0, 0, 0, 0)), (.iload 5, 2, (5, 0, 0, 0, 0)), (.if_icmp .eq 5, 3, (149, 0, 0, 0, 0)), (.iconst 0, 1, (0, 0, 0, 0, 0)), (.ireturn, 1, (0, 0, 0, 0, 0)), (.goto 128, 3, (277, 0, 0, 0, 0)), (.aload_n 1, 1, (1, 0, 0, 0, 0)), (.aload_n 0, 1, (0, 0, 0, 0, 0)), (.iload 4, 2, (4, 0, 0, 0, 0)), (.iconst 1, 1, (0, 0, 0, 1, 0)), (.iadd, 1, (0, 0, 0, 0, 0)), (.iaload, 1, (0, 0, 0, 0, 0)), (.aload_n 3, 1, (3, 0, 0, 0, 0)), (.invokestatic 40, 3, (0, 0, 0, 0, 0)), (.istore 5, 2, (5, 0, 0, 0, 0)), (.aload_n 2, 1, (2, 0, 0, 0, 0)), (.aload_n 0, 1, (0, 0, 0, 0, 0)), (.iload 4, 2, (4, 0, 0, 0, 0)), (.iconst 1, 1, (0, 0, 0, 1, 0)), (.iadd, 1, (0, 0, 0, 0, 0)), (.iaload, 1, (0, 0, 0, 0, 0))]
theorem oo_LW_0 : jokL "ChessHouseLaw" lw_tbl jcl jtb 7 false code 0 kk_LW_0 = true := by decide +kernel
def kk_LW_172 : List jI := [(.invokevirtual 43, 3, (0, 0, 0, 0, 0)), (.istore 6, 2, (6, 0, 0, 0, 0)), (.aload_n 2, 1, (2, 0, 0, 0, 0)), (.invokevirtual 36, 3, (0, 0, 0, 0, 0)), (.iload 5, 2, (5, 0, 0, 0, 0)), (.if_icmp .eq 5, 3, (188, 0, 0, 0, 0)), (.iconst 0, 1, (0, 0, 0, 0, 0)), (.ireturn, 1, (0, 0, 0, 0, 0)), (.iload 5, 2, (5, 0, 0, 0, 0)), (.ifCond .ne 15, 3, (205, 0, 0, 0, 0)), (.aload_n 3, 1, (3, 0, 0, 0, 0)), (.iconst 0, 1, (0, 0, 0, 0, 0)), (.laload, 1, (0, 0, 0, 0, 0)), (.iload 6, 2, (6, 0, 0, 0, 0)), (.i2l, 1, (0, 0, 0, 0, 0)), (.lcmp, 1, (0, 0, 0, 0, 0)), (.ifCond .eq 5, 3, (205, 0, 0, 0, 0)), (.iconst 0, 1, (0, 0, 0, 0, 0)), (.ireturn, 1, (0, 0, 0, 0, 0)), (.goto 72, 3, (277, 0, 0, 0, 0)), (.aload_n 1, 1, (1, 0, 0, 0, 0)), (.invokevirtual 44, 3, (0, 0, 0, 0, 0)), (.aload_n 2, 1, (2, 0, 0, 0, 0)), (.invokevirtual 47, 3, (0, 0, 0, 0, 0)), (.if_icmp .eq 61, 3, (277, 0, 0, 0, 0)), (.iconst 0, 1, (0, 0, 0, 0, 0)), (.ireturn, 1, (0, 0, 0, 0, 0)), (.aload_n 1, 1, (1, 0, 0, 0, 0)), (.aload_n 0, 1, (0, 0, 0, 0, 0)), (.iload 4, 2, (4, 0, 0, 0, 0)), (.iconst 1, 1, (0, 0, 0, 1, 0)), (.iadd, 1, (0, 0, 0, 0, 0)), (.iaload, 1, (0, 0, 0, 0, 0)), (.aload_n 3, 1, (3, 0, 0, 0, 0)), (.invokestatic 48, 3, (0, 0, 0, 0, 0)), (.istore 5, 2, (5, 0, 0, 0, 0)), (.aload_n 2, 1, (2, 0, 0, 0, 0)), (.aload_n 0, 1, (0, 0, 0, 0, 0)), (.iload 4, 2, (4, 0, 0, 0, 0)), (.iconst 1, 1, (0, 0, 0, 1, 0)), (.iadd, 1, (0, 0, 0, 0, 0)), (.iaload, 1, (0, 0, 0, 0, 0)), (.invokevirtual 50, 3, (0, 0, 0, 0, 0)), (.istore 6, 2, (6, 0, 0, 0, 0)), (.aload_n 2, 1, (2, 0, 0, 0, 0)), (.invokevirtual 36, 3, (0, 0, 0, 0, 0)), (.iload 5, 2, (5, 0, 0, 0, 0)), (.if_icmp .eq 5, 3, (257, 0, 0, 0, 0)), (.iconst 0, 1, (0, 0, 0, 0, 0)), (.ireturn, 1, (0, 0, 0, 0, 0)), (.iload 5, 2, (5, 0, 0, 0, 0)), (.ifCond .ne 15, 3, (274, 0, 0, 0, 0)), (.aload_n 3, 1, (3, 0, 0, 0, 0)), (.iconst 0, 1, (0, 0, 0, 0, 0)), (.laload, 1, (0, 0, 0, 0, 0)), (.iload 6, 2, (6, 0, 0, 0, 0)), (.i2l, 1, (0, 0, 0, 0, 0)), (.lcmp, 1, (0, 0, 0, 0, 0)), (.ifCond .eq 5, 3, (274, 0, 0, 0, 0)), (.iconst 0, 1, (0, 0, 0, 0, 0)), (.ireturn, 1, (0, 0, 0, 0, 0)), (.goto 3, 3, (277, 0, 0, 0, 0)), (.iinc 4 6, 3, (0, 0, 0, 6, 0)), (.goto (-257), 3, (23, 0, 0, 0, 0)), (.iconst 1, 1, (0, 0, 0, 1, 0)), (.ireturn, 1, (0, 0, 0, 0, 0))]
theorem oo_LW_172 : jokL "ChessHouseLaw" lw_tbl jcl jtb 7 false code 172 kk_LW_172 = true := by decide +kernel
def k_LW_3 : List jI := [(.dup, 1, (0, 0, 0, 0, 0))]
theorem o_LW_3 : jokL "ChessHouseLaw" lw_tbl jcl jtb 7 false code 3 k_LW_3 = true := jok_sub oo_LW_0 1 1 rfl rfl
def k_LW_7 : List jI := [(.astore_n 1, 1, (1, 0, 0, 0, 0))]
theorem o_LW_7 : jokL "ChessHouseLaw" lw_tbl jcl jtb 7 false code 7 k_LW_7 = true := jok_sub oo_LW_0 3 1 rfl rfl
def k_LW_11 : List jI := [(.dup, 1, (0, 0, 0, 0, 0))]
theorem o_LW_11 : jokL "ChessHouseLaw" lw_tbl jcl jtb 7 false code 11 k_LW_11 = true := jok_sub oo_LW_0 5 1 rfl rfl
def k_LW_15 : List jI := [(.astore_n 2, 1, (2, 0, 0, 0, 0)), (.iconst 1, 1, (0, 0, 0, 1, 0))]
theorem o_LW_15 : jokL "ChessHouseLaw" lw_tbl jcl jtb 7 false code 15 k_LW_15 = true := jok_sub oo_LW_0 7 2 rfl rfl
def k_LW_19 : List jI := [(.astore_n 3, 1, (3, 0, 0, 0, 0)), (.iconst 0, 1, (0, 0, 0, 0, 0)), (.istore 4, 2, (4, 0, 0, 0, 0))]
theorem o_LW_19 : jokL "ChessHouseLaw" lw_tbl jcl jtb 7 false code 19 k_LW_19 = true := jok_sub oo_LW_0 10 3 rfl rfl
def k_LW_23 : List jI := [(.iload 4, 2, (4, 0, 0, 0, 0)), (.aload_n 0, 1, (0, 0, 0, 0, 0))]
theorem o_LW_23 : jokL "ChessHouseLaw" lw_tbl jcl jtb 7 false code 23 k_LW_23 = true := jok_sub oo_LW_0 13 2 rfl rfl
def k_LW_27 : List jI := [(.bipush 6, 2, (0, 0, 0, 6, 0)), (.isub, 1, (0, 0, 0, 0, 0)), (.if_icmp .gt 253, 3, (283, 0, 0, 0, 0)), (.aload_n 0, 1, (0, 0, 0, 0, 0)), (.iload 4, 2, (4, 0, 0, 0, 0))]
theorem o_LW_27 : jokL "ChessHouseLaw" lw_tbl jcl jtb 7 false code 27 k_LW_27 = true := jok_sub oo_LW_0 16 5 rfl rfl
def k_LW_37 : List jI := [(.iconst 3, 1, (0, 0, 0, 3, 0)), (.iand, 1, (0, 0, 0, 0, 0))]
theorem o_LW_37 : jokL "ChessHouseLaw" lw_tbl jcl jtb 7 false code 37 k_LW_37 = true := jok_sub oo_LW_0 22 2 rfl rfl
def k_LW_68 : List jI := [(.aload_n 1, 1, (1, 0, 0, 0, 0)), (.aload_n 0, 1, (0, 0, 0, 0, 0)), (.iload 4, 2, (4, 0, 0, 0, 0)), (.iconst 1, 1, (0, 0, 0, 1, 0)), (.iadd, 1, (0, 0, 0, 0, 0))]
theorem o_LW_68 : jokL "ChessHouseLaw" lw_tbl jcl jtb 7 false code 68 k_LW_68 = true := jok_sub oo_LW_0 25 5 rfl rfl
def k_LW_75 : List jI := [(.aload_n 0, 1, (0, 0, 0, 0, 0)), (.iload 4, 2, (4, 0, 0, 0, 0)), (.iconst 2, 1, (0, 0, 0, 2, 0)), (.iadd, 1, (0, 0, 0, 0, 0))]
theorem o_LW_75 : jokL "ChessHouseLaw" lw_tbl jcl jtb 7 false code 75 k_LW_75 = true := jok_sub oo_LW_0 31 4 rfl rfl
def k_LW_81 : List jI := [(.aload_n 0, 1, (0, 0, 0, 0, 0)), (.iload 4, 2, (4, 0, 0, 0, 0)), (.iconst 3, 1, (0, 0, 0, 3, 0)), (.iadd, 1, (0, 0, 0, 0, 0))]
theorem o_LW_81 : jokL "ChessHouseLaw" lw_tbl jcl jtb 7 false code 81 k_LW_81 = true := jok_sub oo_LW_0 36 4 rfl rfl
def k_LW_87 : List jI := [(.aload_n 0, 1, (0, 0, 0, 0, 0)), (.iload 4, 2, (4, 0, 0, 0, 0)), (.iconst 4, 1, (0, 0, 0, 4, 0)), (.iadd, 1, (0, 0, 0, 0, 0))]
theorem o_LW_87 : jokL "ChessHouseLaw" lw_tbl jcl jtb 7 false code 87 k_LW_87 = true := jok_sub oo_LW_0 41 4 rfl rfl
def k_LW_93 : List jI := [(.aload_n 0, 1, (0, 0, 0, 0, 0)), (.iload 4, 2, (4, 0, 0, 0, 0)), (.iconst 5, 1, (0, 0, 0, 5, 0)), (.iadd, 1, (0, 0, 0, 0, 0))]
theorem o_LW_93 : jokL "ChessHouseLaw" lw_tbl jcl jtb 7 false code 93 k_LW_93 = true := jok_sub oo_LW_0 46 4 rfl rfl
def k_LW_102 : List jI := [(.istore 5, 2, (5, 0, 0, 0, 0)), (.aload_n 2, 1, (2, 0, 0, 0, 0)), (.aload_n 0, 1, (0, 0, 0, 0, 0)), (.iload 4, 2, (4, 0, 0, 0, 0)), (.iconst 1, 1, (0, 0, 0, 1, 0)), (.iadd, 1, (0, 0, 0, 0, 0))]
theorem o_LW_102 : jokL "ChessHouseLaw" lw_tbl jcl jtb 7 false code 102 k_LW_102 = true := jok_sub oo_LW_0 52 6 rfl rfl
def k_LW_111 : List jI := [(.aload_n 0, 1, (0, 0, 0, 0, 0)), (.iload 4, 2, (4, 0, 0, 0, 0)), (.iconst 2, 1, (0, 0, 0, 2, 0)), (.iadd, 1, (0, 0, 0, 0, 0))]
theorem o_LW_111 : jokL "ChessHouseLaw" lw_tbl jcl jtb 7 false code 111 k_LW_111 = true := jok_sub oo_LW_0 59 4 rfl rfl
def k_LW_117 : List jI := [(.aload_n 0, 1, (0, 0, 0, 0, 0)), (.iload 4, 2, (4, 0, 0, 0, 0)), (.iconst 3, 1, (0, 0, 0, 3, 0)), (.iadd, 1, (0, 0, 0, 0, 0))]
theorem o_LW_117 : jokL "ChessHouseLaw" lw_tbl jcl jtb 7 false code 117 k_LW_117 = true := jok_sub oo_LW_0 64 4 rfl rfl
def k_LW_123 : List jI := [(.aload_n 0, 1, (0, 0, 0, 0, 0)), (.iload 4, 2, (4, 0, 0, 0, 0)), (.iconst 4, 1, (0, 0, 0, 4, 0)), (.iadd, 1, (0, 0, 0, 0, 0))]
theorem o_LW_123 : jokL "ChessHouseLaw" lw_tbl jcl jtb 7 false code 123 k_LW_123 = true := jok_sub oo_LW_0 69 4 rfl rfl
def k_LW_129 : List jI := [(.aload_n 0, 1, (0, 0, 0, 0, 0)), (.iload 4, 2, (4, 0, 0, 0, 0)), (.iconst 5, 1, (0, 0, 0, 5, 0)), (.iadd, 1, (0, 0, 0, 0, 0))]
theorem o_LW_129 : jokL "ChessHouseLaw" lw_tbl jcl jtb 7 false code 129 k_LW_129 = true := jok_sub oo_LW_0 74 4 rfl rfl
def k_LW_138 : List jI := [(.aload_n 2, 1, (2, 0, 0, 0, 0))]
theorem o_LW_138 : jokL "ChessHouseLaw" lw_tbl jcl jtb 7 false code 138 k_LW_138 = true := jok_sub oo_LW_0 80 1 rfl rfl
def k_LW_142 : List jI := [(.iload 5, 2, (5, 0, 0, 0, 0)), (.if_icmp .eq 5, 3, (149, 0, 0, 0, 0)), (.iconst 0, 1, (0, 0, 0, 0, 0))]
theorem o_LW_142 : jokL "ChessHouseLaw" lw_tbl jcl jtb 7 false code 142 k_LW_142 = true := jok_sub oo_LW_0 82 3 rfl rfl
def k_LW_149 : List jI := [(.goto 128, 3, (277, 0, 0, 0, 0))]
theorem o_LW_149 : jokL "ChessHouseLaw" lw_tbl jcl jtb 7 false code 149 k_LW_149 = true := jok_sub oo_LW_0 86 1 rfl rfl
def k_LW_152 : List jI := [(.aload_n 1, 1, (1, 0, 0, 0, 0)), (.aload_n 0, 1, (0, 0, 0, 0, 0)), (.iload 4, 2, (4, 0, 0, 0, 0)), (.iconst 1, 1, (0, 0, 0, 1, 0)), (.iadd, 1, (0, 0, 0, 0, 0))]
theorem o_LW_152 : jokL "ChessHouseLaw" lw_tbl jcl jtb 7 false code 152 k_LW_152 = true := jok_sub oo_LW_0 87 5 rfl rfl
def k_LW_159 : List jI := [(.aload_n 3, 1, (3, 0, 0, 0, 0))]
theorem o_LW_159 : jokL "ChessHouseLaw" lw_tbl jcl jtb 7 false code 159 k_LW_159 = true := jok_sub oo_LW_0 93 1 rfl rfl
def k_LW_163 : List jI := [(.istore 5, 2, (5, 0, 0, 0, 0)), (.aload_n 2, 1, (2, 0, 0, 0, 0)), (.aload_n 0, 1, (0, 0, 0, 0, 0)), (.iload 4, 2, (4, 0, 0, 0, 0)), (.iconst 1, 1, (0, 0, 0, 1, 0)), (.iadd, 1, (0, 0, 0, 0, 0))]
theorem o_LW_163 : jokL "ChessHouseLaw" lw_tbl jcl jtb 7 false code 163 k_LW_163 = true := jok_sub oo_LW_0 95 6 rfl rfl
def k_LW_175 : List jI := [(.istore 6, 2, (6, 0, 0, 0, 0)), (.aload_n 2, 1, (2, 0, 0, 0, 0))]
theorem o_LW_175 : jokL "ChessHouseLaw" lw_tbl jcl jtb 7 false code 175 k_LW_175 = true := jok_sub oo_LW_172 1 2 rfl rfl
def k_LW_181 : List jI := [(.iload 5, 2, (5, 0, 0, 0, 0)), (.if_icmp .eq 5, 3, (188, 0, 0, 0, 0)), (.iconst 0, 1, (0, 0, 0, 0, 0))]
theorem o_LW_181 : jokL "ChessHouseLaw" lw_tbl jcl jtb 7 false code 181 k_LW_181 = true := jok_sub oo_LW_172 4 3 rfl rfl
def k_LW_188 : List jI := [(.iload 5, 2, (5, 0, 0, 0, 0)), (.ifCond .ne 15, 3, (205, 0, 0, 0, 0)), (.aload_n 3, 1, (3, 0, 0, 0, 0)), (.iconst 0, 1, (0, 0, 0, 0, 0)), (.laload, 1, (0, 0, 0, 0, 0)), (.iload 6, 2, (6, 0, 0, 0, 0)), (.i2l, 1, (0, 0, 0, 0, 0)), (.lcmp, 1, (0, 0, 0, 0, 0)), (.ifCond .eq 5, 3, (205, 0, 0, 0, 0)), (.iconst 0, 1, (0, 0, 0, 0, 0))]
theorem o_LW_188 : jokL "ChessHouseLaw" lw_tbl jcl jtb 7 false code 188 k_LW_188 = true := jok_sub oo_LW_172 8 10 rfl rfl
def k_LW_205 : List jI := [(.goto 72, 3, (277, 0, 0, 0, 0))]
theorem o_LW_205 : jokL "ChessHouseLaw" lw_tbl jcl jtb 7 false code 205 k_LW_205 = true := jok_sub oo_LW_172 19 1 rfl rfl
def k_LW_208 : List jI := [(.aload_n 1, 1, (1, 0, 0, 0, 0))]
theorem o_LW_208 : jokL "ChessHouseLaw" lw_tbl jcl jtb 7 false code 208 k_LW_208 = true := jok_sub oo_LW_172 20 1 rfl rfl
def k_LW_212 : List jI := [(.aload_n 2, 1, (2, 0, 0, 0, 0))]
theorem o_LW_212 : jokL "ChessHouseLaw" lw_tbl jcl jtb 7 false code 212 k_LW_212 = true := jok_sub oo_LW_172 22 1 rfl rfl
def k_LW_216 : List jI := [(.if_icmp .eq 61, 3, (277, 0, 0, 0, 0)), (.iconst 0, 1, (0, 0, 0, 0, 0))]
theorem o_LW_216 : jokL "ChessHouseLaw" lw_tbl jcl jtb 7 false code 216 k_LW_216 = true := jok_sub oo_LW_172 24 2 rfl rfl
def k_LW_221 : List jI := [(.aload_n 1, 1, (1, 0, 0, 0, 0)), (.aload_n 0, 1, (0, 0, 0, 0, 0)), (.iload 4, 2, (4, 0, 0, 0, 0)), (.iconst 1, 1, (0, 0, 0, 1, 0)), (.iadd, 1, (0, 0, 0, 0, 0))]
theorem o_LW_221 : jokL "ChessHouseLaw" lw_tbl jcl jtb 7 false code 221 k_LW_221 = true := jok_sub oo_LW_172 27 5 rfl rfl
def k_LW_228 : List jI := [(.aload_n 3, 1, (3, 0, 0, 0, 0))]
theorem o_LW_228 : jokL "ChessHouseLaw" lw_tbl jcl jtb 7 false code 228 k_LW_228 = true := jok_sub oo_LW_172 33 1 rfl rfl
def k_LW_232 : List jI := [(.istore 5, 2, (5, 0, 0, 0, 0)), (.aload_n 2, 1, (2, 0, 0, 0, 0)), (.aload_n 0, 1, (0, 0, 0, 0, 0)), (.iload 4, 2, (4, 0, 0, 0, 0)), (.iconst 1, 1, (0, 0, 0, 1, 0)), (.iadd, 1, (0, 0, 0, 0, 0))]
theorem o_LW_232 : jokL "ChessHouseLaw" lw_tbl jcl jtb 7 false code 232 k_LW_232 = true := jok_sub oo_LW_172 35 6 rfl rfl
def k_LW_244 : List jI := [(.istore 6, 2, (6, 0, 0, 0, 0)), (.aload_n 2, 1, (2, 0, 0, 0, 0))]
theorem o_LW_244 : jokL "ChessHouseLaw" lw_tbl jcl jtb 7 false code 244 k_LW_244 = true := jok_sub oo_LW_172 43 2 rfl rfl
def k_LW_250 : List jI := [(.iload 5, 2, (5, 0, 0, 0, 0)), (.if_icmp .eq 5, 3, (257, 0, 0, 0, 0)), (.iconst 0, 1, (0, 0, 0, 0, 0))]
theorem o_LW_250 : jokL "ChessHouseLaw" lw_tbl jcl jtb 7 false code 250 k_LW_250 = true := jok_sub oo_LW_172 46 3 rfl rfl
def k_LW_257 : List jI := [(.iload 5, 2, (5, 0, 0, 0, 0)), (.ifCond .ne 15, 3, (274, 0, 0, 0, 0)), (.aload_n 3, 1, (3, 0, 0, 0, 0)), (.iconst 0, 1, (0, 0, 0, 0, 0)), (.laload, 1, (0, 0, 0, 0, 0)), (.iload 6, 2, (6, 0, 0, 0, 0)), (.i2l, 1, (0, 0, 0, 0, 0)), (.lcmp, 1, (0, 0, 0, 0, 0)), (.ifCond .eq 5, 3, (274, 0, 0, 0, 0)), (.iconst 0, 1, (0, 0, 0, 0, 0))]
theorem o_LW_257 : jokL "ChessHouseLaw" lw_tbl jcl jtb 7 false code 257 k_LW_257 = true := jok_sub oo_LW_172 50 10 rfl rfl
def k_LW_274 : List jI := [(.goto 3, 3, (277, 0, 0, 0, 0))]
theorem o_LW_274 : jokL "ChessHouseLaw" lw_tbl jcl jtb 7 false code 274 k_LW_274 = true := jok_sub oo_LW_172 61 1 rfl rfl
def k_LW_277 : List jI := [(.iinc 4 6, 3, (0, 0, 0, 6, 0)), (.goto (-257), 3, (23, 0, 0, 0, 0))]
theorem o_LW_277 : jokL "ChessHouseLaw" lw_tbl jcl jtb 7 false code 277 k_LW_277 = true := jok_sub oo_LW_172 62 2 rfl rfl
def k_LW_283 : List jI := [(.iconst 1, 1, (0, 0, 0, 1, 0))]
theorem o_LW_283 : jokL "ChessHouseLaw" lw_tbl jcl jtb 7 false code 283 k_LW_283 = true := jok_sub oo_LW_172 64 1 rfl rfl
theorem d_LW_0 : decode code 0 = .ok (.new 8, 3) := by decide +kernel
theorem d_LW_4 : decode code 4 = .ok (.invokespecial 26, 3) := by decide +kernel
theorem q_LW_4 : jlm lw_tbl 336 "ChessHouseLaw" 26 ⟨"ChessHouse", "<init>", "()V"⟩ = true := by decide +kernel
theorem d_LW_8 : decode code 8 = .ok (.new 27, 3) := by decide +kernel
theorem d_LW_12 : decode code 12 = .ok (.invokespecial 29, 3) := by decide +kernel
theorem q_LW_12 : jlm lw_tbl 1903 "ChessHouseLaw" 29 ⟨"ChessHouseModel", "<init>", "()V"⟩ = true := by decide +kernel
theorem d_LW_17 : decode code 17 = .ok (.newarray .long, 2) := by decide +kernel
theorem d_LW_26 : decode code 26 = .ok (.arraylength, 1) := by decide +kernel
theorem d_LW_36 : decode code 36 = .ok (.iaload, 1) := by decide +kernel
theorem d_LW_39 : decode code 39 = .ok (.tableswitch 238 0 3 #[29, 113, 169, 182], 29) := by decide +kernel
theorem d_LW_74 : decode code 74 = .ok (.iaload, 1) := by decide +kernel
theorem d_LW_80 : decode code 80 = .ok (.iaload, 1) := by decide +kernel
theorem d_LW_86 : decode code 86 = .ok (.iaload, 1) := by decide +kernel
theorem d_LW_92 : decode code 92 = .ok (.iaload, 1) := by decide +kernel
theorem d_LW_98 : decode code 98 = .ok (.iaload, 1) := by decide +kernel
theorem d_LW_99 : decode code 99 = .ok (.invokestatic 30, 3) := by decide +kernel
theorem q_LW_99 : jlm lw_tbl 863 "ChessHouseLaw" 30 ⟨"ChessHouseLaw", "feed", "(LChessHouse;IIIII)I"⟩ = true := by decide +kernel
theorem d_LW_110 : decode code 110 = .ok (.iaload, 1) := by decide +kernel
theorem d_LW_116 : decode code 116 = .ok (.iaload, 1) := by decide +kernel
theorem d_LW_122 : decode code 122 = .ok (.iaload, 1) := by decide +kernel
theorem d_LW_128 : decode code 128 = .ok (.iaload, 1) := by decide +kernel
theorem d_LW_134 : decode code 134 = .ok (.iaload, 1) := by decide +kernel
theorem d_LW_135 : decode code 135 = .ok (.invokevirtual 35, 3) := by decide +kernel
theorem q_LW_135 : jlm lw_tbl 2364 "ChessHouseLaw" 35 ⟨"ChessHouseModel", "feed", "(IIIII)V"⟩ = true := by decide +kernel
theorem d_LW_139 : decode code 139 = .ok (.invokevirtual 36, 3) := by decide +kernel
theorem q_LW_139 : jlm lw_tbl 2360 "ChessHouseLaw" 36 ⟨"ChessHouseModel", "thrown", "()I"⟩ = true := by decide +kernel
theorem d_LW_148 : decode code 148 = .ok (.ireturn, 1) := by decide +kernel
theorem d_LW_158 : decode code 158 = .ok (.iaload, 1) := by decide +kernel
theorem d_LW_160 : decode code 160 = .ok (.invokestatic 40, 3) := by decide +kernel
theorem q_LW_160 : jlm lw_tbl 938 "ChessHouseLaw" 40 ⟨"ChessHouseLaw", "end", "(LChessHouse;I[J)I"⟩ = true := by decide +kernel
theorem d_LW_171 : decode code 171 = .ok (.iaload, 1) := by decide +kernel
theorem d_LW_172 : decode code 172 = .ok (.invokevirtual 43, 3) := by decide +kernel
theorem q_LW_172 : jlm lw_tbl 2372 "ChessHouseLaw" 43 ⟨"ChessHouseModel", "end", "(I)I"⟩ = true := by decide +kernel
theorem d_LW_178 : decode code 178 = .ok (.invokevirtual 36, 3) := by decide +kernel
theorem q_LW_178 : jlm lw_tbl 2360 "ChessHouseLaw" 36 ⟨"ChessHouseModel", "thrown", "()I"⟩ = true := by decide +kernel
theorem d_LW_187 : decode code 187 = .ok (.ireturn, 1) := by decide +kernel
theorem d_LW_204 : decode code 204 = .ok (.ireturn, 1) := by decide +kernel
theorem d_LW_209 : decode code 209 = .ok (.invokevirtual 44, 3) := by decide +kernel
theorem q_LW_209 : jlm lw_tbl 859 "ChessHouseLaw" 44 ⟨"ChessHouse", "size", "()I"⟩ = true := by decide +kernel
theorem d_LW_213 : decode code 213 = .ok (.invokevirtual 47, 3) := by decide +kernel
theorem q_LW_213 : jlm lw_tbl 3289 "ChessHouseLaw" 47 ⟨"ChessHouseModel", "size", "()I"⟩ = true := by decide +kernel
theorem d_LW_220 : decode code 220 = .ok (.ireturn, 1) := by decide +kernel
theorem d_LW_227 : decode code 227 = .ok (.iaload, 1) := by decide +kernel
theorem d_LW_229 : decode code 229 = .ok (.invokestatic 48, 3) := by decide +kernel
theorem q_LW_229 : jlm lw_tbl 1878 "ChessHouseLaw" 48 ⟨"ChessHouseLaw", "out", "(LChessHouse;I[J)I"⟩ = true := by decide +kernel
theorem d_LW_240 : decode code 240 = .ok (.iaload, 1) := by decide +kernel
theorem d_LW_241 : decode code 241 = .ok (.invokevirtual 50, 3) := by decide +kernel
theorem q_LW_241 : jlm lw_tbl 3293 "ChessHouseLaw" 50 ⟨"ChessHouseModel", "out", "(I)I"⟩ = true := by decide +kernel
theorem d_LW_247 : decode code 247 = .ok (.invokevirtual 36, 3) := by decide +kernel
theorem q_LW_247 : jlm lw_tbl 2360 "ChessHouseLaw" 36 ⟨"ChessHouseModel", "thrown", "()I"⟩ = true := by decide +kernel
theorem d_LW_256 : decode code 256 = .ok (.ireturn, 1) := by decide +kernel
theorem d_LW_273 : decode code 273 = .ok (.ireturn, 1) := by decide +kernel
theorem d_LW_284 : decode code 284 = .ok (.ireturn, 1) := by decide +kernel
/-- what holds when the loop begins -/
def lw_ok (σ : Nat → jcell) : Prop := (∃ (F : Nat → Int32) (g w : jv) (T D : Nat → Int32), F 12 = 0 ∧ σ 0 = .inr (0, ch_fl 1 F g w) ∧ σ 1 = .inl (.byte, 65537, .inl T) ∧ σ 2 = .inr (1, [.inr (.inr (some (.inl 3))), .inl 0]) ∧ σ 3 = .inl (.byte, 65536, .inl D)) ∧ (∃ (F : Nat → Int32) (e : jv) (T O : Nat → Int32), F 0 = 0 ∧ F 1 = 0 ∧ F 3 = 0 ∧ σ 87 = .inr (11, mm_fl 88 F e) ∧ σ 88 = .inl (.byte, 65536, .inl T) ∧ σ 89 = .inl (.byte, 65536, .inl O)) ∧ ∃ G : Nat → Int64, σ 141 = .inl (.long, 1, .inr (.inl G))
section LAW
variable {E : jE} {M : jM} {Q : State → Prop}
set_option maxRecDepth 100000 in
set_option maxHeartbeats 4000000 in
theorem lw_head (X : jX E "ChessHouseLaw" lw_tbl jcl jtb 7 false code M) (hR : M.2.2.2.1 = room_1) (σ : Nat → jcell) (kk : ∀ σ, lw_ok σ → jJ E jcl 7 M Q 142 142 1030440 23 [some (.inr (.inr (some (.inr 99)))), some (.inr (.inr (some (.inl (0))))), some (.inr (.inr (some (.inl (87))))), some (.inr (.inr (some (.inl (141))))), some (.inl 0), none, none] [] σ) : jJ E jcl 7 M Q 0 0 0 0 [some (.inr (.inr (some (.inr 99)))), none, none, none, none, none, none] [] σ := by
  refine jk_nw jC X hR d_LW_0 (ci := 0) rfl (w1 := 334) (by decide +kernel) (w2 := 335) (by decide +kernel) (w3 := 302) (by decide +kernel) (by decide +kernel) (fs := [.inr (.inr none), .inr (.inr none), .inr (.inr none), .inr (.inr none), .inr (.inr none), .inr (.inr none), .inr (.inr none), .inr (.inr none), .inr (.inr none), .inr (.inr none), .inr (.inr none), .inr (.inr none), .inl 0, .inl 0, .inl 0]) rfl (n' := 1) rfl (c' := 1) rfl (s' := 15) rfl ⟨Nat.le_of_ble_eq_true rfl, Nat.le_of_ble_eq_true rfl⟩ (pc' := 3) rfl ?_
  refine jrun_ok jC X k_LW_3 3 _ _ _ o_LW_3 ?_
  simp only [k_LW_3, jrun, jstep, jldi, jldl, jlda, j1, j2, jl1, jl2, jli, ja1, jbr, jald, jast, jlald, jlast, jalen, jget, jput, jfit, jdup, jdupx, jdupx2, jdup2, jcat, jset1, jset2, jkill, List.getElem?_cons_zero, List.getElem?_cons_succ, List.set_cons_zero, List.set_cons_succ, List.length_cons, List.length_nil, Nat.reduceAdd, Nat.reduceLT, Int32.reduceToNatClampNeg, true_and, and_true, and_self, reduceCtorEq, not_false_eq_true, false_and, and_false, or_false, false_or, true_or, or_true]
  refine jk_Ig X hR d_LW_4 q_LW_4 m_CH_init i_CH_init rfl rfl (c_CH_init M.2.1 E _ _ 0 (by decide) jup_s) rfl rfl ⟨Nat.le_of_ble_eq_true rfl, Nat.le_of_ble_eq_true rfl⟩ (c' := 87) rfl (s' := 447715) rfl ⟨Nat.le_of_ble_eq_true rfl, Nat.le_of_ble_eq_true rfl⟩ (Nat.le_of_ble_eq_true rfl) (pc' := 7) rfl ?_
  rintro _ σ2 _ ⟨F1, A1, L1, F2, A2, L2, rfl, rfl, hσ⟩
  have e0 : σ2 0 = .inr (0, ch_fl 1 (fun _ => 0) (.inr (.inr (some (.inl (1 + 32))))) (.inr (.inr (some (.inl (1 + 59)))))) := by rw [hσ]; exact jmk_a
  have e1 : σ2 1 = .inl (.byte, 65537, .inl fun _ => 0) := by rw [hσ]; exact jmk_at (k := 0) (by decide) rfl
  have e2 : σ2 2 = .inr (1, [.inr (.inr (some (.inl 3))), .inl 0]) := by rw [hσ]; exact jmk_at (k := 1) (by decide) rfl
  have e3 : σ2 3 = .inl (.byte, 65536, .inl fun _ => 0) := by rw [hσ]; exact jmk_at (k := 2) (by decide) rfl
  clear hσ
  simp only [Option.toList_none, List.nil_append, Nat.reduceAdd]
  refine jrun_ok jC X k_LW_7 7 _ _ _ o_LW_7 ?_
  simp only [k_LW_7, jrun, jstep, jldi, jldl, jlda, j1, j2, jl1, jl2, jli, ja1, jbr, jald, jast, jlald, jlast, jalen, jget, jput, jfit, jdup, jdupx, jdupx2, jdup2, jcat, jset1, jset2, jkill, List.getElem?_cons_zero, List.getElem?_cons_succ, List.set_cons_zero, List.set_cons_succ, List.length_cons, List.length_nil, Nat.reduceAdd, Nat.reduceLT, Int32.reduceToNatClampNeg, true_and, and_true, and_self, reduceCtorEq, not_false_eq_true, false_and, and_false, or_false, false_or, true_or, or_true]
  refine jk_nw jC X hR d_LW_8 (ci := 11) rfl (w1 := 1901) (by decide +kernel) (w2 := 1902) (by decide +kernel) (w3 := 314) (by decide +kernel) (by decide +kernel) (fs := [.inl 0, .inl 0, .inr (.inr none), .inl 0, .inr (.inr none), .inr (.inr none), .inr (.inr none), .inr (.inr none), .inl 0, .inl 0, .inl 0, .inl 0, .inl 0, .inl 0, .inr (.inr none), .inr (.inr none), .inl 0, .inr (.inr none), .inr (.inr none)]) rfl (n' := 88) rfl (c' := 88) rfl (s' := 447734) rfl ⟨Nat.le_of_ble_eq_true rfl, Nat.le_of_ble_eq_true rfl⟩ (pc' := 11) rfl ?_
  refine jrun_ok jC X k_LW_11 11 _ _ _ o_LW_11 ?_
  simp only [k_LW_11, jrun, jstep, jldi, jldl, jlda, j1, j2, jl1, jl2, jli, ja1, jbr, jald, jast, jlald, jlast, jalen, jget, jput, jfit, jdup, jdupx, jdupx2, jdup2, jcat, jset1, jset2, jkill, List.getElem?_cons_zero, List.getElem?_cons_succ, List.set_cons_zero, List.set_cons_succ, List.length_cons, List.length_nil, Nat.reduceAdd, Nat.reduceLT, Int32.reduceToNatClampNeg, true_and, and_true, and_self, reduceCtorEq, not_false_eq_true, false_and, and_false, or_false, false_or, true_or, or_true]
  refine jk_Ig X hR d_LW_12 q_LW_12 m_MM_init i_MM_init rfl rfl (c_MM_init M.2.1 E _ _ 87 (by decide) jup_s) rfl rfl ⟨Nat.le_of_ble_eq_true rfl, Nat.le_of_ble_eq_true rfl⟩ (c' := 141) rfl (s' := 1030439) rfl ⟨Nat.le_of_ble_eq_true rfl, Nat.le_of_ble_eq_true rfl⟩ (Nat.le_of_ble_eq_true rfl) (pc' := 15) rfl ?_
  rintro _ σ4 _ ⟨F, A, rfl, rfl, hσ⟩
  have lo : ∀ p, p < 87 → σ4 p = σ2 p := fun p hp => by rw [hσ, jmk_lo (by omega) (by omega), jup_n (by omega)]
  have m0 : σ4 87 = .inr (11, mm_fl 88 (fun _ => 0) (.inr (.inr none))) := by rw [hσ]; exact jmk_a
  have m1 : σ4 88 = .inl (.byte, 65536, .inl fun _ => 0) := by rw [hσ]; exact jmk_at (k := 0) (by decide) rfl
  have m2 : σ4 89 = .inl (.byte, 65536, .inl fun _ => 0) := by rw [hσ]; exact jmk_at (k := 1) (by decide) rfl
  clear hσ
  simp only [Option.toList_none, List.nil_append, Nat.reduceAdd]
  refine jrun_ok jC X k_LW_15 15 _ _ _ o_LW_15 ?_
  simp only [k_LW_15, jrun, jstep, jldi, jldl, jlda, j1, j2, jl1, jl2, jli, ja1, jbr, jald, jast, jlald, jlast, jalen, jget, jput, jfit, jdup, jdupx, jdupx2, jdup2, jcat, jset1, jset2, jkill, List.getElem?_cons_zero, List.getElem?_cons_succ, List.set_cons_zero, List.set_cons_succ, List.length_cons, List.length_nil, Nat.reduceAdd, Nat.reduceLT, Int32.reduceToNatClampNeg, true_and, and_true, and_self, reduceCtorEq, not_false_eq_true, false_and, and_false, or_false, false_or, true_or, or_true]
  refine jk_na X hR d_LW_17 (ty := .long) rfl (w1 := 524) (by decide +kernel) (by decide) (by decide) 1 rfl (by decide) (z := (1, .inr (.inl fun _ => 0))) rfl (n' := 142) rfl (c' := 142) rfl (s' := 1030440) rfl ⟨Nat.le_of_ble_eq_true rfl, Nat.le_of_ble_eq_true rfl⟩ (pc' := 19) rfl ?_
  refine jrun_ok jC X k_LW_19 19 _ _ _ o_LW_19 ?_
  simp only [k_LW_19, jrun, jstep, jldi, jldl, jlda, j1, j2, jl1, jl2, jli, ja1, jbr, jald, jast, jlald, jlast, jalen, jget, jput, jfit, jdup, jdupx, jdupx2, jdup2, jcat, jset1, jset2, jkill, List.getElem?_cons_zero, List.getElem?_cons_succ, List.set_cons_zero, List.set_cons_succ, List.length_cons, List.length_nil, Nat.reduceAdd, Nat.reduceLT, Int32.reduceToNatClampNeg, true_and, and_true, and_self, reduceCtorEq, not_false_eq_true, false_and, and_false, or_false, false_or, true_or, or_true]
  refine kk _ ⟨⟨fun _ => 0, .inr (.inr (some (.inl (1 + 32)))), .inr (.inr (some (.inl (1 + 59)))), fun _ => 0, fun _ => 0, rfl, ?_, ?_, ?_, ?_⟩, ⟨fun _ => 0, .inr (.inr none), fun _ => 0, fun _ => 0, rfl, rfl, rfl, ?_, ?_, ?_⟩, fun _ => 0, jup_s⟩
  · rw [jup_n (by decide), lo 0 (by decide), e0]
  · rw [jup_n (by decide), lo 1 (by decide), e1]
  · rw [jup_n (by decide), lo 2 (by decide), e2]
  · rw [jup_n (by decide), lo 3 (by decide), e3]
  · rw [jup_n (by decide), m0]
  · rw [jup_n (by decide), m1]
  · rw [jup_n (by decide), m2]
set_option maxRecDepth 100000 in
theorem lw_end (X : jX E "ChessHouseLaw" lw_tbl jcl jtb 7 false code M) {L : Nat} {xs : Nat → Int32} (hX : va_X (E.2.2.1 99) L xs M.2.2.2.2.1 M.2.2.2.2.1.heap) (hbl : E.2.2.1 99 < E.2.2.2) (hret : ∀ (n cells slots : Nat) (lv : List (Option jv)) (σ : Nat → jcell), cells ≤ 600002 → slots ≤ 7302232 → jJ E jcl 7 M Q n cells slots 284 lv [.inl 1] σ) (n cells slots : Nat) (hc : cells ≤ 600002) (hs : slots ≤ 7302232) (i : Int32) (hi : Int32.ofNat L - 6 < i) (l1 l2 l3 l5 l6 : Option jv) (σ : Nat → jcell) : jJ E jcl 7 M Q n cells slots 23 [some (.inr (.inr (some (.inr 99)))), l1, l2, l3, some (.inl i), l5, l6] [] σ := by
  refine jrun_ok jC X k_LW_23 23 _ _ _ o_LW_23 ?_
  simp only [k_LW_23, jrun, jstep, jldi, jldl, jlda, j1, j2, jl1, jl2, jli, ja1, jbr, jald, jast, jlald, jlast, jalen, jget, jput, jfit, jdup, jdupx, jdupx2, jdup2, jcat, jset1, jset2, jkill, List.getElem?_cons_zero, List.getElem?_cons_succ, List.set_cons_zero, List.set_cons_succ, List.length_cons, List.length_nil, Nat.reduceAdd, Nat.reduceLT, Int32.reduceToNatClampNeg, true_and, and_true, and_self, reduceCtorEq, not_false_eq_true, false_and, and_false, or_false, false_or, true_or, or_true]
  refine jk_slen X d_LW_26 hX hbl ?_
  refine jrun_ok jC X k_LW_27 27 _ _ _ o_LW_27 ?_
  simp only [k_LW_27, jrun, jstep, jldi, jldl, jlda, j1, j2, jl1, jl2, jli, ja1, jbr, jald, jast, jlald, jlast, jalen, jget, jput, jfit, jdup, jdupx, jdupx2, jdup2, jcat, jset1, jset2, jkill, List.getElem?_cons_zero, List.getElem?_cons_succ, List.set_cons_zero, List.set_cons_succ, List.length_cons, List.length_nil, Nat.reduceAdd, Nat.reduceLT, Int32.reduceToNatClampNeg, true_and, and_true, and_self, reduceCtorEq, not_false_eq_true, false_and, and_false, or_false, false_or, true_or, or_true]
  refine ⟨fun _ => ?_, fun h => absurd hi h⟩
  refine jrun_ok jC X k_LW_283 283 _ _ _ o_LW_283 ?_
  simp only [k_LW_283, jrun, jstep, jldi, jldl, jlda, j1, j2, jl1, jl2, jli, ja1, jbr, jald, jast, jlald, jlast, jalen, jget, jput, jfit, jdup, jdupx, jdupx2, jdup2, jcat, jset1, jset2, jkill, List.getElem?_cons_zero, List.getElem?_cons_succ, List.set_cons_zero, List.set_cons_succ, List.length_cons, List.length_nil, Nat.reduceAdd, Nat.reduceLT, Int32.reduceToNatClampNeg, true_and, and_true, and_self, reduceCtorEq, not_false_eq_true, false_and, and_false, or_false, false_or, true_or, or_true]
  exact hret _ _ _ _ _ hc hs
set_option maxRecDepth 100000 in
theorem lw_next (X : jX E "ChessHouseLaw" lw_tbl jcl jtb 7 false code M) {L : Nat} {xs : Nat → Int32} (hX : va_X (E.2.2.1 99) L xs M.2.2.2.2.1 M.2.2.2.2.1.heap) (hbl : E.2.2.1 99 < E.2.2.2) (hret : ∀ (n cells slots : Nat) (lv : List (Option jv)) (σ : Nat → jcell), cells ≤ 600002 → slots ≤ 7302232 → jJ E jcl 7 M Q n cells slots 284 lv [.inl 1] σ) (hL : L = 6) (n cells slots : Nat) (hc : cells ≤ 600002) (hs : slots ≤ 7302232) (l5 l6 : Option jv) (σ : Nat → jcell) : jJ E jcl 7 M Q n cells slots 277 [some (.inr (.inr (some (.inr 99)))), some (.inr (.inr (some (.inl (0))))), some (.inr (.inr (some (.inl (87))))), some (.inr (.inr (some (.inl (141))))), some (.inl 0), l5, l6] [] σ := by
  refine jrun_ok jC X k_LW_277 277 _ _ _ o_LW_277 ?_
  simp only [k_LW_277, jrun, jstep, jldi, jldl, jlda, j1, j2, jl1, jl2, jli, ja1, jbr, jald, jast, jlald, jlast, jalen, jget, jput, jfit, jdup, jdupx, jdupx2, jdup2, jcat, jset1, jset2, jkill, List.getElem?_cons_zero, List.getElem?_cons_succ, List.set_cons_zero, List.set_cons_succ, List.length_cons, List.length_nil, Nat.reduceAdd, Nat.reduceLT, Int32.reduceToNatClampNeg, true_and, and_true, and_self, reduceCtorEq, not_false_eq_true, false_and, and_false, or_false, false_or, true_or, or_true, Int32.reduceAdd]
  exact lw_end X hX hbl hret _ _ _ hc hs _ (by subst hL; decide) _ _ _ _ _ _
set_option maxRecDepth 100000 in
set_option maxHeartbeats 4000000 in
theorem lw_c0 (X : jX E "ChessHouseLaw" lw_tbl jcl jtb 7 false code M) {L : Nat} {xs : Nat → Int32} (hX : va_X (E.2.2.1 99) L xs M.2.2.2.2.1 M.2.2.2.2.1.heap) (hbl : E.2.2.1 99 < E.2.2.2) (hR : M.2.2.2.1 = room_1) (hTh : jTh E M.2.2.2.2.1) (hret : ∀ (n cells slots : Nat) (lv : List (Option jv)) (σ : Nat → jcell), cells ≤ 600002 → slots ≤ 7302232 → jJ E jcl 7 M Q n cells slots 284 lv [.inl 1] σ) (hL : L = 6) (σ : Nat → jcell) (hok : lw_ok σ) : jJ E jcl 7 M Q 142 142 1030440 68 [some (.inr (.inr (some (.inr 99)))), some (.inr (.inr (some (.inl (0))))), some (.inr (.inr (some (.inl (87))))), some (.inr (.inr (some (.inl (141))))), some (.inl 0), none, none] [] σ := by
  obtain ⟨⟨F, g, w, T, D, hF, c0, c1, c2, c3⟩, ⟨Fm, e, Tm, O, f0, f1, f3, m0, m1, m2⟩, G, hG⟩ := hok
  have hch : chP σ 0 1 F g w T D 0 = σ := ch_id (by decide) c0 c1 c2 c3
  refine jrun_ok jC X k_LW_68 68 _ _ _ o_LW_68 ?_
  simp only [k_LW_68, jrun, jstep, jldi, jldl, jlda, j1, j2, jl1, jl2, jli, ja1, jbr, jald, jast, jlald, jlast, jalen, jget, jput, jfit, jdup, jdupx, jdupx2, jdup2, jcat, jset1, jset2, jkill, List.getElem?_cons_zero, List.getElem?_cons_succ, List.set_cons_zero, List.set_cons_succ, List.length_cons, List.length_nil, Nat.reduceAdd, Nat.reduceLT, Int32.reduceToNatClampNeg, true_and, and_true, and_self, reduceCtorEq, not_false_eq_true, false_and, and_false, or_false, false_or, true_or, or_true, Int32.reduceAdd]
  refine jk_sld X d_LW_74 hX hbl (i := 1) (by subst hL; unfold vp_in; decide) ?_
  refine jrun_ok jC X k_LW_75 75 _ _ _ o_LW_75 ?_
  simp only [k_LW_75, jrun, jstep, jldi, jldl, jlda, j1, j2, jl1, jl2, jli, ja1, jbr, jald, jast, jlald, jlast, jalen, jget, jput, jfit, jdup, jdupx, jdupx2, jdup2, jcat, jset1, jset2, jkill, List.getElem?_cons_zero, List.getElem?_cons_succ, List.set_cons_zero, List.set_cons_succ, List.length_cons, List.length_nil, Nat.reduceAdd, Nat.reduceLT, Int32.reduceToNatClampNeg, true_and, and_true, and_self, reduceCtorEq, not_false_eq_true, false_and, and_false, or_false, false_or, true_or, or_true, Int32.reduceAdd]
  refine jk_sld X d_LW_80 hX hbl (i := 2) (by subst hL; unfold vp_in; decide) ?_
  refine jrun_ok jC X k_LW_81 81 _ _ _ o_LW_81 ?_
  simp only [k_LW_81, jrun, jstep, jldi, jldl, jlda, j1, j2, jl1, jl2, jli, ja1, jbr, jald, jast, jlald, jlast, jalen, jget, jput, jfit, jdup, jdupx, jdupx2, jdup2, jcat, jset1, jset2, jkill, List.getElem?_cons_zero, List.getElem?_cons_succ, List.set_cons_zero, List.set_cons_succ, List.length_cons, List.length_nil, Nat.reduceAdd, Nat.reduceLT, Int32.reduceToNatClampNeg, true_and, and_true, and_self, reduceCtorEq, not_false_eq_true, false_and, and_false, or_false, false_or, true_or, or_true, Int32.reduceAdd]
  refine jk_sld X d_LW_86 hX hbl (i := 3) (by subst hL; unfold vp_in; decide) ?_
  refine jrun_ok jC X k_LW_87 87 _ _ _ o_LW_87 ?_
  simp only [k_LW_87, jrun, jstep, jldi, jldl, jlda, j1, j2, jl1, jl2, jli, ja1, jbr, jald, jast, jlald, jlast, jalen, jget, jput, jfit, jdup, jdupx, jdupx2, jdup2, jcat, jset1, jset2, jkill, List.getElem?_cons_zero, List.getElem?_cons_succ, List.set_cons_zero, List.set_cons_succ, List.length_cons, List.length_nil, Nat.reduceAdd, Nat.reduceLT, Int32.reduceToNatClampNeg, true_and, and_true, and_self, reduceCtorEq, not_false_eq_true, false_and, and_false, or_false, false_or, true_or, or_true, Int32.reduceAdd]
  refine jk_sld X d_LW_92 hX hbl (i := 4) (by subst hL; unfold vp_in; decide) ?_
  refine jrun_ok jC X k_LW_93 93 _ _ _ o_LW_93 ?_
  simp only [k_LW_93, jrun, jstep, jldi, jldl, jlda, j1, j2, jl1, jl2, jli, ja1, jbr, jald, jast, jlald, jlast, jalen, jget, jput, jfit, jdup, jdupx, jdupx2, jdup2, jcat, jset1, jset2, jkill, List.getElem?_cons_zero, List.getElem?_cons_succ, List.set_cons_zero, List.set_cons_succ, List.length_cons, List.length_nil, Nat.reduceAdd, Nat.reduceLT, Int32.reduceToNatClampNeg, true_and, and_true, and_self, reduceCtorEq, not_false_eq_true, false_and, and_false, or_false, false_or, true_or, or_true, Int32.reduceAdd]
  refine jk_sld X d_LW_98 hX hbl (i := 5) (by subst hL; unfold vp_in; decide) ?_
  simp only [Int32.reduceToNatClampNeg]
  refine jJ_congr (σ2 := chP σ 0 1 F g w T D 0) (fun k _ => by rw [hch]) ?_
  refine jk_SWg X hR hTh d_LW_99 (jTA_in (wi := 863) (by decide +kernel) rfl) w_LA_feed n_LA_feed ⟨by decide, by decide⟩ (k := 6) (by decide +kernel) s_LA_feed (c_LA_feed M.2.1 E _ 142 0 1 (by decide) (by decide) F g w T D 0 0 (by decide) (by rw [hF]; rfl) (xs 1) (xs 2) (xs 3) (xs 4) (xs 5)) rfl rfl ⟨Nat.le_of_ble_eq_true rfl, Nat.le_of_ble_eq_true rfl⟩ (c' := 142) rfl (s' := 1030440) rfl ⟨Nat.le_of_ble_eq_true rfl, Nat.le_of_ble_eq_true rfl⟩ (Nat.le_of_ble_eq_true rfl) (pc' := 102) rfl ?_
  rintro _ _ _ ⟨rfl, hn2, rfl⟩
  subst hn2
  simp only [Option.toList_some, List.cons_append, List.nil_append]
  refine jrun_ok jC X k_LW_102 102 _ _ _ o_LW_102 ?_
  simp only [k_LW_102, jrun, jstep, jldi, jldl, jlda, j1, j2, jl1, jl2, jli, ja1, jbr, jald, jast, jlald, jlast, jalen, jget, jput, jfit, jdup, jdupx, jdupx2, jdup2, jcat, jset1, jset2, jkill, List.getElem?_cons_zero, List.getElem?_cons_succ, List.set_cons_zero, List.set_cons_succ, List.length_cons, List.length_nil, Nat.reduceAdd, Nat.reduceLT, Int32.reduceToNatClampNeg, true_and, and_true, and_self, reduceCtorEq, not_false_eq_true, false_and, and_false, or_false, false_or, true_or, or_true, Int32.reduceAdd]
  refine jk_sld X d_LW_110 hX hbl (i := 1) (by subst hL; unfold vp_in; decide) ?_
  refine jrun_ok jC X k_LW_111 111 _ _ _ o_LW_111 ?_
  simp only [k_LW_111, jrun, jstep, jldi, jldl, jlda, j1, j2, jl1, jl2, jli, ja1, jbr, jald, jast, jlald, jlast, jalen, jget, jput, jfit, jdup, jdupx, jdupx2, jdup2, jcat, jset1, jset2, jkill, List.getElem?_cons_zero, List.getElem?_cons_succ, List.set_cons_zero, List.set_cons_succ, List.length_cons, List.length_nil, Nat.reduceAdd, Nat.reduceLT, Int32.reduceToNatClampNeg, true_and, and_true, and_self, reduceCtorEq, not_false_eq_true, false_and, and_false, or_false, false_or, true_or, or_true, Int32.reduceAdd]
  refine jk_sld X d_LW_116 hX hbl (i := 2) (by subst hL; unfold vp_in; decide) ?_
  refine jrun_ok jC X k_LW_117 117 _ _ _ o_LW_117 ?_
  simp only [k_LW_117, jrun, jstep, jldi, jldl, jlda, j1, j2, jl1, jl2, jli, ja1, jbr, jald, jast, jlald, jlast, jalen, jget, jput, jfit, jdup, jdupx, jdupx2, jdup2, jcat, jset1, jset2, jkill, List.getElem?_cons_zero, List.getElem?_cons_succ, List.set_cons_zero, List.set_cons_succ, List.length_cons, List.length_nil, Nat.reduceAdd, Nat.reduceLT, Int32.reduceToNatClampNeg, true_and, and_true, and_self, reduceCtorEq, not_false_eq_true, false_and, and_false, or_false, false_or, true_or, or_true, Int32.reduceAdd]
  refine jk_sld X d_LW_122 hX hbl (i := 3) (by subst hL; unfold vp_in; decide) ?_
  refine jrun_ok jC X k_LW_123 123 _ _ _ o_LW_123 ?_
  simp only [k_LW_123, jrun, jstep, jldi, jldl, jlda, j1, j2, jl1, jl2, jli, ja1, jbr, jald, jast, jlald, jlast, jalen, jget, jput, jfit, jdup, jdupx, jdupx2, jdup2, jcat, jset1, jset2, jkill, List.getElem?_cons_zero, List.getElem?_cons_succ, List.set_cons_zero, List.set_cons_succ, List.length_cons, List.length_nil, Nat.reduceAdd, Nat.reduceLT, Int32.reduceToNatClampNeg, true_and, and_true, and_self, reduceCtorEq, not_false_eq_true, false_and, and_false, or_false, false_or, true_or, or_true, Int32.reduceAdd]
  refine jk_sld X d_LW_128 hX hbl (i := 4) (by subst hL; unfold vp_in; decide) ?_
  refine jrun_ok jC X k_LW_129 129 _ _ _ o_LW_129 ?_
  simp only [k_LW_129, jrun, jstep, jldi, jldl, jlda, j1, j2, jl1, jl2, jli, ja1, jbr, jald, jast, jlald, jlast, jalen, jget, jput, jfit, jdup, jdupx, jdupx2, jdup2, jcat, jset1, jset2, jkill, List.getElem?_cons_zero, List.getElem?_cons_succ, List.set_cons_zero, List.set_cons_succ, List.length_cons, List.length_nil, Nat.reduceAdd, Nat.reduceLT, Int32.reduceToNatClampNeg, true_and, and_true, and_self, reduceCtorEq, not_false_eq_true, false_and, and_false, or_false, false_or, true_or, or_true, Int32.reduceAdd]
  refine jk_sld X d_LW_134 hX hbl (i := 5) (by subst hL; unfold vp_in; decide) ?_
  simp only [Int32.reduceToNatClampNeg]
  have hmm : mmP (chP σ 0 1 (va_up F 12 (nI (0 + 20))) g w (lay20 T 0 (xs 1) (xs 2) (xs 3) (xs 4) (xs 5)) D 0) 87 88 Fm e Tm O = (chP σ 0 1 (va_up F 12 (nI (0 + 20))) g w (lay20 T 0 (xs 1) (xs 2) (xs 3) (xs 4) (xs 5)) D 0) := mm_id (by decide) (by rw [ch_lo (by decide) (by decide) (by decide) (by decide)]; exact m0) (by rw [ch_lo (by decide) (by decide) (by decide) (by decide)]; exact m1) (by rw [ch_lo (by decide) (by decide) (by decide) (by decide)]; exact m2)
  refine jJ_congr (σ2 := mmP (chP σ 0 1 (va_up F 12 (nI (0 + 20))) g w (lay20 T 0 (xs 1) (xs 2) (xs 3) (xs 4) (xs 5)) D 0) 87 88 Fm e Tm O) (fun k _ => by rw [hmm]) ?_
  refine jk_Vg X hR d_LW_135 q_LW_135 m_MM_feed i_MM_feed e_MM_feed (ci := 11) rfl rfl (by decide) mm_a (c_MM_feed M.2.1 E _ 142 87 88 (by decide) (by decide) Fm e Tm O 0 (by decide) (by rw [f1]; rfl) (xs 1) (xs 2) (xs 3) (xs 4) (xs 5)) rfl rfl ⟨Nat.le_of_ble_eq_true rfl, Nat.le_of_ble_eq_true rfl⟩ (c' := 142) rfl (s' := 1030440) rfl ⟨Nat.le_of_ble_eq_true rfl, Nat.le_of_ble_eq_true rfl⟩ (Nat.le_of_ble_eq_true rfl) (pc' := 138) rfl ?_
  rintro _ _ _ ⟨rfl, hn2, rfl⟩
  subst hn2
  simp only [Option.toList_none, List.nil_append]
  refine jrun_ok jC X k_LW_138 138 _ _ _ o_LW_138 ?_
  simp only [k_LW_138, jrun, jstep, jldi, jldl, jlda, j1, j2, jl1, jl2, jli, ja1, jbr, jald, jast, jlald, jlast, jalen, jget, jput, jfit, jdup, jdupx, jdupx2, jdup2, jcat, jset1, jset2, jkill, List.getElem?_cons_zero, List.getElem?_cons_succ, List.set_cons_zero, List.set_cons_succ, List.length_cons, List.length_nil, Nat.reduceAdd, Nat.reduceLT, Int32.reduceToNatClampNeg, true_and, and_true, and_self, reduceCtorEq, not_false_eq_true, false_and, and_false, or_false, false_or, true_or, or_true]
  refine jk_Vg X hR d_LW_139 q_LW_139 m_MM_thrown i_MM_thrown e_MM_thrown (ci := 11) rfl rfl (by decide) mm_a (c_MM_thrown M.2.1 E _ 142 87 88 (by decide) (by decide) _ _ _ _) rfl rfl ⟨Nat.le_of_ble_eq_true rfl, Nat.le_of_ble_eq_true rfl⟩ (c' := 142) rfl (s' := 1030440) rfl ⟨Nat.le_of_ble_eq_true rfl, Nat.le_of_ble_eq_true rfl⟩ (Nat.le_of_ble_eq_true rfl) (pc' := 142) rfl ?_
  rintro _ _ _ ⟨rfl, rfl, rfl⟩
  simp only [Option.toList_some, List.cons_append, List.nil_append]
  have ez : va_up (va_up Fm 0 0) 1 (nI (0 + 20)) 0 = 0 := by simp [va_up]
  refine jrun_ok jC X k_LW_142 142 _ _ _ o_LW_142 ?_
  simp only [k_LW_142, jrun, jstep, jldi, jldl, jlda, j1, j2, jl1, jl2, jli, ja1, jbr, jald, jast, jlald, jlast, jalen, jget, jput, jfit, jdup, jdupx, jdupx2, jdup2, jcat, jset1, jset2, jkill, List.getElem?_cons_zero, List.getElem?_cons_succ, List.set_cons_zero, List.set_cons_succ, List.length_cons, List.length_nil, Nat.reduceAdd, Nat.reduceLT, Int32.reduceToNatClampNeg, true_and, and_true, and_self, reduceCtorEq, not_false_eq_true, false_and, and_false, or_false, false_or, true_or, or_true, ez]
  refine ⟨fun _ => ?_, fun h => absurd trivial h⟩
  refine jrun_ok jC X k_LW_149 149 _ _ _ o_LW_149 ?_
  simp only [k_LW_149, jrun, jstep, jldi, jldl, jlda, j1, j2, jl1, jl2, jli, ja1, jbr, jald, jast, jlald, jlast, jalen, jget, jput, jfit, jdup, jdupx, jdupx2, jdup2, jcat, jset1, jset2, jkill, List.getElem?_cons_zero, List.getElem?_cons_succ, List.set_cons_zero, List.set_cons_succ, List.length_cons, List.length_nil, Nat.reduceAdd, Nat.reduceLT, Int32.reduceToNatClampNeg, true_and, and_true, and_self, reduceCtorEq, not_false_eq_true, false_and, and_false, or_false, false_or, true_or, or_true]
  exact lw_next X hX hbl hret hL _ _ _ (Nat.le_of_ble_eq_true rfl) (Nat.le_of_ble_eq_true rfl) _ _ _
set_option maxRecDepth 100000 in
set_option maxHeartbeats 4000000 in
theorem lw_c1 (hlt : M.2.1.stackTraces = false) (X : jX E "ChessHouseLaw" lw_tbl jcl jtb 7 false code M) {L : Nat} {xs : Nat → Int32} (hX : va_X (E.2.2.1 99) L xs M.2.2.2.2.1 M.2.2.2.2.1.heap) (hbl : E.2.2.1 99 < E.2.2.2) (hR : M.2.2.2.1 = room_1) (hTh : jTh E M.2.2.2.2.1) (hret : ∀ (n cells slots : Nat) (lv : List (Option jv)) (σ : Nat → jcell), cells ≤ 600002 → slots ≤ 7302232 → jJ E jcl 7 M Q n cells slots 284 lv [.inl 1] σ) (hL : L = 6) (σ : Nat → jcell) (hok : lw_ok σ) : jJ E jcl 7 M Q 142 142 1030440 152 [some (.inr (.inr (some (.inr 99)))), some (.inr (.inr (some (.inl (0))))), some (.inr (.inr (some (.inl (87))))), some (.inr (.inr (some (.inl (141))))), some (.inl 0), none, none] [] σ := by
  obtain ⟨⟨F, g, w, T, D, hF, c0, c1, c2, c3⟩, ⟨Fm, e, Tm, O, f0, f1, f3, m0, m1, m2⟩, G, hG⟩ := hok
  have hch : chP σ 0 1 F g w T D 0 = σ := ch_id (by decide) c0 c1 c2 c3
  refine jrun_ok jC X k_LW_152 152 _ _ _ o_LW_152 ?_
  simp only [k_LW_152, jrun, jstep, jldi, jldl, jlda, j1, j2, jl1, jl2, jli, ja1, jbr, jald, jast, jlald, jlast, jalen, jget, jput, jfit, jdup, jdupx, jdupx2, jdup2, jcat, jset1, jset2, jkill, List.getElem?_cons_zero, List.getElem?_cons_succ, List.set_cons_zero, List.set_cons_succ, List.length_cons, List.length_nil, Nat.reduceAdd, Nat.reduceLT, Int32.reduceToNatClampNeg, true_and, and_true, and_self, reduceCtorEq, not_false_eq_true, false_and, and_false, or_false, false_or, true_or, or_true, Int32.reduceAdd]
  refine jk_sld X d_LW_158 hX hbl (i := 1) (by subst hL; unfold vp_in; decide) ?_
  refine jrun_ok jC X k_LW_159 159 _ _ _ o_LW_159 ?_
  simp only [k_LW_159, jrun, jstep, jldi, jldl, jlda, j1, j2, jl1, jl2, jli, ja1, jbr, jald, jast, jlald, jlast, jalen, jget, jput, jfit, jdup, jdupx, jdupx2, jdup2, jcat, jset1, jset2, jkill, List.getElem?_cons_zero, List.getElem?_cons_succ, List.set_cons_zero, List.set_cons_succ, List.length_cons, List.length_nil, Nat.reduceAdd, Nat.reduceLT, Int32.reduceToNatClampNeg, true_and, and_true, and_self, reduceCtorEq, not_false_eq_true, false_and, and_false, or_false, false_or, true_or, or_true]
  refine jJ_congr (σ2 := chP σ 0 1 F g w T D 0) (fun k _ => by rw [hch]) ?_
  by_cases hv : xs 1 = 0
  · rw [hv]
    refine jk_SWg X hR hTh d_LW_160 (jTA_in (wi := 938) (by decide +kernel) rfl) w_LA_end n_LA_end ⟨by decide, by decide⟩ (k := 3) (by decide +kernel) s_LA_end (c_LA_end_0 M.2.1 E _ 142 0 1 (by decide) (by decide) F g w T D 0 hF 141 (by decide) (by decide) (by decide) (by decide) (by decide) G hG) rfl rfl ⟨Nat.le_of_ble_eq_true rfl, Nat.le_of_ble_eq_true rfl⟩ (c' := 142) rfl (s' := 1030440) rfl ⟨Nat.le_of_ble_eq_true rfl, Nat.le_of_ble_eq_true rfl⟩ (Nat.le_of_ble_eq_true rfl) (pc' := 163) rfl ?_
    rintro _ _ _ ⟨rfl, hn2, rfl⟩
    subst hn2
    simp only [Option.toList_some, List.cons_append, List.nil_append]
    refine jrun_ok jC X k_LW_163 163 _ _ _ o_LW_163 ?_
    simp only [k_LW_163, jrun, jstep, jldi, jldl, jlda, j1, j2, jl1, jl2, jli, ja1, jbr, jald, jast, jlald, jlast, jalen, jget, jput, jfit, jdup, jdupx, jdupx2, jdup2, jcat, jset1, jset2, jkill, List.getElem?_cons_zero, List.getElem?_cons_succ, List.set_cons_zero, List.set_cons_succ, List.length_cons, List.length_nil, Nat.reduceAdd, Nat.reduceLT, Int32.reduceToNatClampNeg, true_and, and_true, and_self, reduceCtorEq, not_false_eq_true, false_and, and_false, or_false, false_or, true_or, or_true, Int32.reduceAdd]
    refine jk_sld X d_LW_171 hX hbl (i := 1) (by subst hL; unfold vp_in; decide) ?_
    simp only [Int32.reduceToNatClampNeg, hv]
    have hmm : mmP (jup (chP σ 0 1 (va_up (va_up (va_up F 14 0) 13 0) 12 0) g w (upd T 0 10) D 0) 141 (.inl (.long, 1, .inr (.inl (vp_updL G 0 (Int32.toInt64 0)))))) 87 88 Fm e Tm O = (jup (chP σ 0 1 (va_up (va_up (va_up F 14 0) 13 0) 12 0) g w (upd T 0 10) D 0) 141 (.inl (.long, 1, .inr (.inl (vp_updL G 0 (Int32.toInt64 0)))))) := mm_id (by decide) (by rw [jup_n (by decide), ch_lo (by decide) (by decide) (by decide) (by decide)]; exact m0) (by rw [jup_n (by decide), ch_lo (by decide) (by decide) (by decide) (by decide)]; exact m1) (by rw [jup_n (by decide), ch_lo (by decide) (by decide) (by decide) (by decide)]; exact m2)
    refine jJ_congr (σ2 := mmP (jup (chP σ 0 1 (va_up (va_up (va_up F 14 0) 13 0) 12 0) g w (upd T 0 10) D 0) 141 (.inl (.long, 1, .inr (.inl (vp_updL G 0 (Int32.toInt64 0)))))) 87 88 Fm e Tm O) (fun k _ => by rw [hmm]) ?_
    refine jk_Vg X hR d_LW_172 q_LW_172 m_MM_end i_MM_end e_MM_end (ci := 11) rfl rfl (by decide) mm_a (c_MM_end_0 M.2.1 E _ 142 87 88 (by decide) (by decide) Fm e Tm O f1 0) rfl rfl ⟨Nat.le_of_ble_eq_true rfl, Nat.le_of_ble_eq_true rfl⟩ (c' := 142) rfl (s' := 1030440) rfl ⟨Nat.le_of_ble_eq_true rfl, Nat.le_of_ble_eq_true rfl⟩ (Nat.le_of_ble_eq_true rfl) (pc' := 175) rfl ?_
    rintro _ _ _ ⟨hn2, rfl, ⟨h, -⟩ | ⟨-, rfl⟩⟩
    · exact absurd rfl h
    subst hn2
    simp only [Option.toList_some, List.cons_append, List.nil_append]
    refine jrun_ok jC X k_LW_175 175 _ _ _ o_LW_175 ?_
    simp only [k_LW_175, jrun, jstep, jldi, jldl, jlda, j1, j2, jl1, jl2, jli, ja1, jbr, jald, jast, jlald, jlast, jalen, jget, jput, jfit, jdup, jdupx, jdupx2, jdup2, jcat, jset1, jset2, jkill, List.getElem?_cons_zero, List.getElem?_cons_succ, List.set_cons_zero, List.set_cons_succ, List.length_cons, List.length_nil, Nat.reduceAdd, Nat.reduceLT, Int32.reduceToNatClampNeg, true_and, and_true, and_self, reduceCtorEq, not_false_eq_true, false_and, and_false, or_false, false_or, true_or, or_true]
    refine jk_Vg X hR d_LW_178 q_LW_178 m_MM_thrown i_MM_thrown e_MM_thrown (ci := 11) rfl rfl (by decide) mm_a (c_MM_thrown M.2.1 E _ 142 87 88 (by decide) (by decide) _ _ _ _) rfl rfl ⟨Nat.le_of_ble_eq_true rfl, Nat.le_of_ble_eq_true rfl⟩ (c' := 142) rfl (s' := 1030440) rfl ⟨Nat.le_of_ble_eq_true rfl, Nat.le_of_ble_eq_true rfl⟩ (Nat.le_of_ble_eq_true rfl) (pc' := 181) rfl ?_
    rintro _ _ _ ⟨rfl, rfl, rfl⟩
    simp only [Option.toList_some, List.cons_append, List.nil_append]
    have ez : va_up (va_up (va_up (va_up (va_up (va_up Fm 0 0) 3 0) 12 0) 10 0) 11 0) 1 0 0 = 0 := by simp [va_up]
    refine jrun_ok jC X k_LW_181 181 _ _ _ o_LW_181 ?_
    simp only [k_LW_181, jrun, jstep, jldi, jldl, jlda, j1, j2, jl1, jl2, jli, ja1, jbr, jald, jast, jlald, jlast, jalen, jget, jput, jfit, jdup, jdupx, jdupx2, jdup2, jcat, jset1, jset2, jkill, List.getElem?_cons_zero, List.getElem?_cons_succ, List.set_cons_zero, List.set_cons_succ, List.length_cons, List.length_nil, Nat.reduceAdd, Nat.reduceLT, Int32.reduceToNatClampNeg, true_and, and_true, and_self, reduceCtorEq, not_false_eq_true, false_and, and_false, or_false, false_or, true_or, or_true, ez]
    refine ⟨fun _ => ?_, fun h => absurd trivial h⟩
    have hlo : ∀ F9, mmP (jup (chP σ 0 1 (va_up (va_up (va_up F 14 0) 13 0) 12 0) g w (upd T 0 10) D 0) 141 (.inl (.long, 1, .inr (.inl (vp_updL G 0 (Int32.toInt64 0)))))) 87 88 F9 e Tm O 141 = .inl (.long, 1, .inr (.inl (vp_updL G 0 (Int32.toInt64 0)))) := fun F9 => by rw [mm_lo (by decide) (by decide) (by decide)]; exact jup_s
    have z1 : vp_in 0 1 = True := eq_true (by unfold vp_in; decide)
    have zt : ((141 : Nat) < 142) = True := eq_true (by decide)
    have zv : vp_updL G 0 (Int32.toInt64 0) 0 = Int32.toInt64 0 := by simp [vp_updL]
    have zc : lg_cmp (Int32.toInt64 0) (Int32.toInt64 0) = 0 := by decide
    refine jrun_ok jC X k_LW_188 188 _ _ _ o_LW_188 ?_
    simp only [k_LW_188, jrun, jstep, jldi, jldl, jlda, j1, j2, jl1, jl2, jli, ja1, jbr, jald, jast, jlald, jlast, jalen, jget, jput, jfit, jdup, jdupx, jdupx2, jdup2, jcat, jset1, jset2, jkill, List.getElem?_cons_zero, List.getElem?_cons_succ, List.set_cons_zero, List.set_cons_succ, List.length_cons, List.length_nil, Nat.reduceAdd, Nat.reduceLT, Int32.reduceToNatClampNeg, true_and, and_true, and_self, reduceCtorEq, not_false_eq_true, false_and, and_false, or_false, false_or, true_or, or_true, hlo, z1, zt, zv, zc]
    refine ⟨fun h => absurd trivial h, fun _ => ⟨fun _ => ?_, fun h => absurd trivial h⟩⟩
    refine jrun_ok jC X k_LW_205 205 _ _ _ o_LW_205 ?_
    simp only [k_LW_205, jrun, jstep, jldi, jldl, jlda, j1, j2, jl1, jl2, jli, ja1, jbr, jald, jast, jlald, jlast, jalen, jget, jput, jfit, jdup, jdupx, jdupx2, jdup2, jcat, jset1, jset2, jkill, List.getElem?_cons_zero, List.getElem?_cons_succ, List.set_cons_zero, List.set_cons_succ, List.length_cons, List.length_nil, Nat.reduceAdd, Nat.reduceLT, Int32.reduceToNatClampNeg, true_and, and_true, and_self, reduceCtorEq, not_false_eq_true, false_and, and_false, or_false, false_or, true_or, or_true]
    exact lw_next X hX hbl hret hL _ _ _ (Nat.le_of_ble_eq_true rfl) (Nat.le_of_ble_eq_true rfl) _ _ _
  · refine jk_SWg X hR hTh d_LW_160 (jTA_in (wi := 938) (by decide +kernel) rfl) w_LA_end n_LA_end ⟨by decide, by decide⟩ (k := 3) (by decide +kernel) s_LA_end (c_LA_end_T M.2.1 E _ 142 0 1 (by decide) (by decide) F g w T D 0 hlt hF (xs 1) hv 141) rfl rfl ⟨Nat.le_of_ble_eq_true rfl, Nat.le_of_ble_eq_true rfl⟩ (c' := 143) rfl (s' := 1030446) rfl ⟨Nat.le_of_ble_eq_true rfl, Nat.le_of_ble_eq_true rfl⟩ (Nat.le_of_ble_eq_true rfl) (pc' := 163) rfl ?_
    rintro _ _ _ ⟨rfl, hn2, rfl⟩
    subst hn2
    simp only [Option.toList_some, List.cons_append, List.nil_append, Nat.reduceAdd]
    refine jrun_ok jC X k_LW_163 163 _ _ _ o_LW_163 ?_
    simp only [k_LW_163, jrun, jstep, jldi, jldl, jlda, j1, j2, jl1, jl2, jli, ja1, jbr, jald, jast, jlald, jlast, jalen, jget, jput, jfit, jdup, jdupx, jdupx2, jdup2, jcat, jset1, jset2, jkill, List.getElem?_cons_zero, List.getElem?_cons_succ, List.set_cons_zero, List.set_cons_succ, List.length_cons, List.length_nil, Nat.reduceAdd, Nat.reduceLT, Int32.reduceToNatClampNeg, true_and, and_true, and_self, reduceCtorEq, not_false_eq_true, false_and, and_false, or_false, false_or, true_or, or_true, Int32.reduceAdd]
    refine jk_sld X d_LW_171 hX hbl (i := 1) (by subst hL; unfold vp_in; decide) ?_
    simp only [Int32.reduceToNatClampNeg]
    have hmm : mmP (jup (chP σ 0 1 F g w T D 0) 142 jun) 87 88 Fm e Tm O = (jup (chP σ 0 1 F g w T D 0) 142 jun) := mm_id (by decide) (by rw [jup_n (by decide), ch_lo (by decide) (by decide) (by decide) (by decide)]; exact m0) (by rw [jup_n (by decide), ch_lo (by decide) (by decide) (by decide) (by decide)]; exact m1) (by rw [jup_n (by decide), ch_lo (by decide) (by decide) (by decide) (by decide)]; exact m2)
    refine jJ_congr (σ2 := mmP (jup (chP σ 0 1 F g w T D 0) 142 jun) 87 88 Fm e Tm O) (fun k _ => by rw [hmm]) ?_
    refine jk_Vg X hR d_LW_172 q_LW_172 m_MM_end i_MM_end e_MM_end (ci := 11) rfl rfl (by decide) mm_a (c_MM_end_0 M.2.1 E _ 143 87 88 (by decide) (by decide) Fm e Tm O f1 (xs 1)) rfl rfl ⟨Nat.le_of_ble_eq_true rfl, Nat.le_of_ble_eq_true rfl⟩ (c' := 143) rfl (s' := 1030446) rfl ⟨Nat.le_of_ble_eq_true rfl, Nat.le_of_ble_eq_true rfl⟩ (Nat.le_of_ble_eq_true rfl) (pc' := 175) rfl ?_
    rintro _ _ _ ⟨hn2, rfl, ⟨-, rfl⟩ | ⟨h, -⟩⟩
    rotate_left
    · exact absurd h hv
    subst hn2
    simp only [Option.toList_some, List.cons_append, List.nil_append]
    refine jrun_ok jC X k_LW_175 175 _ _ _ o_LW_175 ?_
    simp only [k_LW_175, jrun, jstep, jldi, jldl, jlda, j1, j2, jl1, jl2, jli, ja1, jbr, jald, jast, jlald, jlast, jalen, jget, jput, jfit, jdup, jdupx, jdupx2, jdup2, jcat, jset1, jset2, jkill, List.getElem?_cons_zero, List.getElem?_cons_succ, List.set_cons_zero, List.set_cons_succ, List.length_cons, List.length_nil, Nat.reduceAdd, Nat.reduceLT, Int32.reduceToNatClampNeg, true_and, and_true, and_self, reduceCtorEq, not_false_eq_true, false_and, and_false, or_false, false_or, true_or, or_true]
    refine jk_Vg X hR d_LW_178 q_LW_178 m_MM_thrown i_MM_thrown e_MM_thrown (ci := 11) rfl rfl (by decide) mm_a (c_MM_thrown M.2.1 E _ 143 87 88 (by decide) (by decide) _ _ _ _) rfl rfl ⟨Nat.le_of_ble_eq_true rfl, Nat.le_of_ble_eq_true rfl⟩ (c' := 143) rfl (s' := 1030446) rfl ⟨Nat.le_of_ble_eq_true rfl, Nat.le_of_ble_eq_true rfl⟩ (Nat.le_of_ble_eq_true rfl) (pc' := 181) rfl ?_
    rintro _ _ _ ⟨rfl, rfl, rfl⟩
    simp only [Option.toList_some, List.cons_append, List.nil_append]
    have ez : va_up Fm 0 1 0 = 1 := by simp [va_up]
    refine jrun_ok jC X k_LW_181 181 _ _ _ o_LW_181 ?_
    simp only [k_LW_181, jrun, jstep, jldi, jldl, jlda, j1, j2, jl1, jl2, jli, ja1, jbr, jald, jast, jlald, jlast, jalen, jget, jput, jfit, jdup, jdupx, jdupx2, jdup2, jcat, jset1, jset2, jkill, List.getElem?_cons_zero, List.getElem?_cons_succ, List.set_cons_zero, List.set_cons_succ, List.length_cons, List.length_nil, Nat.reduceAdd, Nat.reduceLT, Int32.reduceToNatClampNeg, true_and, and_true, and_self, reduceCtorEq, not_false_eq_true, false_and, and_false, or_false, false_or, true_or, or_true, ez]
    refine ⟨fun _ => ?_, fun h => absurd trivial h⟩
    refine jrun_ok jC X k_LW_188 188 _ _ _ o_LW_188 ?_
    simp only [k_LW_188, jrun, jstep, jldi, jldl, jlda, j1, j2, jl1, jl2, jli, ja1, jbr, jald, jast, jlald, jlast, jalen, jget, jput, jfit, jdup, jdupx, jdupx2, jdup2, jcat, jset1, jset2, jkill, List.getElem?_cons_zero, List.getElem?_cons_succ, List.set_cons_zero, List.set_cons_succ, List.length_cons, List.length_nil, Nat.reduceAdd, Nat.reduceLT, Int32.reduceToNatClampNeg, true_and, and_true, and_self, reduceCtorEq, not_false_eq_true, false_and, and_false, or_false, false_or, true_or, or_true]
    refine ⟨fun _ => ?_, fun h => absurd h (by decide)⟩
    refine jrun_ok jC X k_LW_205 205 _ _ _ o_LW_205 ?_
    simp only [k_LW_205, jrun, jstep, jldi, jldl, jlda, j1, j2, jl1, jl2, jli, ja1, jbr, jald, jast, jlald, jlast, jalen, jget, jput, jfit, jdup, jdupx, jdupx2, jdup2, jcat, jset1, jset2, jkill, List.getElem?_cons_zero, List.getElem?_cons_succ, List.set_cons_zero, List.set_cons_succ, List.length_cons, List.length_nil, Nat.reduceAdd, Nat.reduceLT, Int32.reduceToNatClampNeg, true_and, and_true, and_self, reduceCtorEq, not_false_eq_true, false_and, and_false, or_false, false_or, true_or, or_true]
    exact lw_next X hX hbl hret hL _ _ _ (Nat.le_of_ble_eq_true rfl) (Nat.le_of_ble_eq_true rfl) _ _ _
set_option maxRecDepth 100000 in
set_option maxHeartbeats 4000000 in
theorem lw_c2 (X : jX E "ChessHouseLaw" lw_tbl jcl jtb 7 false code M) {L : Nat} {xs : Nat → Int32} (hX : va_X (E.2.2.1 99) L xs M.2.2.2.2.1 M.2.2.2.2.1.heap) (hbl : E.2.2.1 99 < E.2.2.2) (hR : M.2.2.2.1 = room_1) (hTh : jTh E M.2.2.2.2.1) (hret : ∀ (n cells slots : Nat) (lv : List (Option jv)) (σ : Nat → jcell), cells ≤ 600002 → slots ≤ 7302232 → jJ E jcl 7 M Q n cells slots 284 lv [.inl 1] σ) (hL : L = 6) (σ : Nat → jcell) (hok : lw_ok σ) : jJ E jcl 7 M Q 142 142 1030440 208 [some (.inr (.inr (some (.inr 99)))), some (.inr (.inr (some (.inl (0))))), some (.inr (.inr (some (.inl (87))))), some (.inr (.inr (some (.inl (141))))), some (.inl 0), none, none] [] σ := by
  obtain ⟨⟨F, g, w, T, D, hF, c0, c1, c2, c3⟩, ⟨Fm, e, Tm, O, f0, f1, f3, m0, m1, m2⟩, G, hG⟩ := hok
  have hch : chP σ 0 1 F g w T D 0 = σ := ch_id (by decide) c0 c1 c2 c3
  refine jrun_ok jC X k_LW_208 208 _ _ _ o_LW_208 ?_
  simp only [k_LW_208, jrun, jstep, jldi, jldl, jlda, j1, j2, jl1, jl2, jli, ja1, jbr, jald, jast, jlald, jlast, jalen, jget, jput, jfit, jdup, jdupx, jdupx2, jdup2, jcat, jset1, jset2, jkill, List.getElem?_cons_zero, List.getElem?_cons_succ, List.set_cons_zero, List.set_cons_succ, List.length_cons, List.length_nil, Nat.reduceAdd, Nat.reduceLT, Int32.reduceToNatClampNeg, true_and, and_true, and_self, reduceCtorEq, not_false_eq_true, false_and, and_false, or_false, false_or, true_or, or_true]
  refine jJ_congr (σ2 := chP σ 0 1 F g w T D 0) (fun k _ => by rw [hch]) ?_
  refine jk_Vg X hR d_LW_209 q_LW_209 m_CH_size i_CH_size e_CH_size (ci := 0) rfl rfl (by decide) ch_a (c_CH_size M.2.1 E _ 142 0 1 (by decide) (by decide) F g w T D 0) rfl rfl ⟨Nat.le_of_ble_eq_true rfl, Nat.le_of_ble_eq_true rfl⟩ (c' := 142) rfl (s' := 1030440) rfl ⟨Nat.le_of_ble_eq_true rfl, Nat.le_of_ble_eq_true rfl⟩ (Nat.le_of_ble_eq_true rfl) (pc' := 212) rfl ?_
  rintro _ _ _ ⟨rfl, hn2, rfl⟩
  subst hn2
  simp only [Option.toList_some, List.cons_append, List.nil_append]
  refine jrun_ok jC X k_LW_212 212 _ _ _ o_LW_212 ?_
  simp only [k_LW_212, jrun, jstep, jldi, jldl, jlda, j1, j2, jl1, jl2, jli, ja1, jbr, jald, jast, jlald, jlast, jalen, jget, jput, jfit, jdup, jdupx, jdupx2, jdup2, jcat, jset1, jset2, jkill, List.getElem?_cons_zero, List.getElem?_cons_succ, List.set_cons_zero, List.set_cons_succ, List.length_cons, List.length_nil, Nat.reduceAdd, Nat.reduceLT, Int32.reduceToNatClampNeg, true_and, and_true, and_self, reduceCtorEq, not_false_eq_true, false_and, and_false, or_false, false_or, true_or, or_true]
  have hmm : mmP (chP σ 0 1 F g w T D 0) 87 88 Fm e Tm O = (chP σ 0 1 F g w T D 0) := mm_id (by decide) (by rw [ch_lo (by decide) (by decide) (by decide) (by decide)]; exact m0) (by rw [ch_lo (by decide) (by decide) (by decide) (by decide)]; exact m1) (by rw [ch_lo (by decide) (by decide) (by decide) (by decide)]; exact m2)
  refine jJ_congr (σ2 := mmP (chP σ 0 1 F g w T D 0) 87 88 Fm e Tm O) (fun k _ => by rw [hmm]) ?_
  refine jk_Vg X hR d_LW_213 q_LW_213 m_MM_size i_MM_size e_MM_size (ci := 11) rfl rfl (by decide) mm_a (c_MM_size M.2.1 E _ 142 87 88 (by decide) (by decide) Fm e Tm O) rfl rfl ⟨Nat.le_of_ble_eq_true rfl, Nat.le_of_ble_eq_true rfl⟩ (c' := 142) rfl (s' := 1030440) rfl ⟨Nat.le_of_ble_eq_true rfl, Nat.le_of_ble_eq_true rfl⟩ (Nat.le_of_ble_eq_true rfl) (pc' := 216) rfl ?_
  rintro _ _ _ ⟨rfl, rfl, rfl⟩
  simp only [Option.toList_some, List.cons_append, List.nil_append]
  refine jrun_ok jC X k_LW_216 216 _ _ _ o_LW_216 ?_
  simp only [k_LW_216, jrun, jstep, jldi, jldl, jlda, j1, j2, jl1, jl2, jli, ja1, jbr, jald, jast, jlald, jlast, jalen, jget, jput, jfit, jdup, jdupx, jdupx2, jdup2, jcat, jset1, jset2, jkill, List.getElem?_cons_zero, List.getElem?_cons_succ, List.set_cons_zero, List.set_cons_succ, List.length_cons, List.length_nil, Nat.reduceAdd, Nat.reduceLT, Int32.reduceToNatClampNeg, true_and, and_true, and_self, reduceCtorEq, not_false_eq_true, false_and, and_false, or_false, false_or, true_or, or_true, f3]
  refine ⟨fun _ => ?_, fun h => absurd trivial h⟩
  exact lw_next X hX hbl hret hL _ _ _ (Nat.le_of_ble_eq_true rfl) (Nat.le_of_ble_eq_true rfl) _ _ _
set_option maxRecDepth 100000 in
set_option maxHeartbeats 4000000 in
theorem lw_c3 (hlt : M.2.1.stackTraces = false) (X : jX E "ChessHouseLaw" lw_tbl jcl jtb 7 false code M) {L : Nat} {xs : Nat → Int32} (hX : va_X (E.2.2.1 99) L xs M.2.2.2.2.1 M.2.2.2.2.1.heap) (hbl : E.2.2.1 99 < E.2.2.2) (hR : M.2.2.2.1 = room_1) (hTh : jTh E M.2.2.2.2.1) (hret : ∀ (n cells slots : Nat) (lv : List (Option jv)) (σ : Nat → jcell), cells ≤ 600002 → slots ≤ 7302232 → jJ E jcl 7 M Q n cells slots 284 lv [.inl 1] σ) (hL : L = 6) (σ : Nat → jcell) (hok : lw_ok σ) : jJ E jcl 7 M Q 142 142 1030440 221 [some (.inr (.inr (some (.inr 99)))), some (.inr (.inr (some (.inl (0))))), some (.inr (.inr (some (.inl (87))))), some (.inr (.inr (some (.inl (141))))), some (.inl 0), none, none] [] σ := by
  obtain ⟨⟨F, g, w, T, D, hF, c0, c1, c2, c3⟩, ⟨Fm, e, Tm, O, f0, f1, f3, m0, m1, m2⟩, G, hG⟩ := hok
  have hch : chP σ 0 1 F g w T D 0 = σ := ch_id (by decide) c0 c1 c2 c3
  refine jrun_ok jC X k_LW_221 221 _ _ _ o_LW_221 ?_
  simp only [k_LW_221, jrun, jstep, jldi, jldl, jlda, j1, j2, jl1, jl2, jli, ja1, jbr, jald, jast, jlald, jlast, jalen, jget, jput, jfit, jdup, jdupx, jdupx2, jdup2, jcat, jset1, jset2, jkill, List.getElem?_cons_zero, List.getElem?_cons_succ, List.set_cons_zero, List.set_cons_succ, List.length_cons, List.length_nil, Nat.reduceAdd, Nat.reduceLT, Int32.reduceToNatClampNeg, true_and, and_true, and_self, reduceCtorEq, not_false_eq_true, false_and, and_false, or_false, false_or, true_or, or_true, Int32.reduceAdd]
  refine jk_sld X d_LW_227 hX hbl (i := 1) (by subst hL; unfold vp_in; decide) ?_
  refine jrun_ok jC X k_LW_228 228 _ _ _ o_LW_228 ?_
  simp only [k_LW_228, jrun, jstep, jldi, jldl, jlda, j1, j2, jl1, jl2, jli, ja1, jbr, jald, jast, jlald, jlast, jalen, jget, jput, jfit, jdup, jdupx, jdupx2, jdup2, jcat, jset1, jset2, jkill, List.getElem?_cons_zero, List.getElem?_cons_succ, List.set_cons_zero, List.set_cons_succ, List.length_cons, List.length_nil, Nat.reduceAdd, Nat.reduceLT, Int32.reduceToNatClampNeg, true_and, and_true, and_self, reduceCtorEq, not_false_eq_true, false_and, and_false, or_false, false_or, true_or, or_true]
  refine jJ_congr (σ2 := chP σ 0 1 F g w T D 0) (fun k _ => by rw [hch]) ?_
  refine jk_SWg X hR hTh d_LW_229 (jTA_in (wi := 1878) (by decide +kernel) rfl) w_LA_out n_LA_out ⟨by decide, by decide⟩ (k := 3) (by decide +kernel) s_LA_out (c_LA_out_T M.2.1 E _ 142 0 1 (by decide) (by decide) F g w T D 0 hlt rfl (xs 1) 141) rfl rfl ⟨Nat.le_of_ble_eq_true rfl, Nat.le_of_ble_eq_true rfl⟩ (c' := 143) rfl (s' := 1030446) rfl ⟨Nat.le_of_ble_eq_true rfl, Nat.le_of_ble_eq_true rfl⟩ (Nat.le_of_ble_eq_true rfl) (pc' := 232) rfl ?_
  rintro _ _ _ ⟨rfl, hn2, rfl⟩
  subst hn2
  simp only [Option.toList_some, List.cons_append, List.nil_append, Nat.reduceAdd]
  refine jrun_ok jC X k_LW_232 232 _ _ _ o_LW_232 ?_
  simp only [k_LW_232, jrun, jstep, jldi, jldl, jlda, j1, j2, jl1, jl2, jli, ja1, jbr, jald, jast, jlald, jlast, jalen, jget, jput, jfit, jdup, jdupx, jdupx2, jdup2, jcat, jset1, jset2, jkill, List.getElem?_cons_zero, List.getElem?_cons_succ, List.set_cons_zero, List.set_cons_succ, List.length_cons, List.length_nil, Nat.reduceAdd, Nat.reduceLT, Int32.reduceToNatClampNeg, true_and, and_true, and_self, reduceCtorEq, not_false_eq_true, false_and, and_false, or_false, false_or, true_or, or_true, Int32.reduceAdd]
  refine jk_sld X d_LW_240 hX hbl (i := 1) (by subst hL; unfold vp_in; decide) ?_
  simp only [Int32.reduceToNatClampNeg]
  have hmm : mmP (jup (chP σ 0 1 F g w T D 0) 142 jun) 87 88 Fm e Tm O = (jup (chP σ 0 1 F g w T D 0) 142 jun) := mm_id (by decide) (by rw [jup_n (by decide), ch_lo (by decide) (by decide) (by decide) (by decide)]; exact m0) (by rw [jup_n (by decide), ch_lo (by decide) (by decide) (by decide) (by decide)]; exact m1) (by rw [jup_n (by decide), ch_lo (by decide) (by decide) (by decide) (by decide)]; exact m2)
  refine jJ_congr (σ2 := mmP (jup (chP σ 0 1 F g w T D 0) 142 jun) 87 88 Fm e Tm O) (fun k _ => by rw [hmm]) ?_
  refine jk_Vg X hR d_LW_241 q_LW_241 m_MM_out i_MM_out e_MM_out (ci := 11) rfl rfl (by decide) mm_a (c_MM_out M.2.1 E _ 143 87 88 (by decide) (by decide) Fm e Tm O 0 (by decide) (by rw [f3]; rfl) (xs 1)) rfl rfl ⟨Nat.le_of_ble_eq_true rfl, Nat.le_of_ble_eq_true rfl⟩ (c' := 143) rfl (s' := 1030446) rfl ⟨Nat.le_of_ble_eq_true rfl, Nat.le_of_ble_eq_true rfl⟩ (Nat.le_of_ble_eq_true rfl) (pc' := 244) rfl ?_
  rintro _ _ _ ⟨hn2, ⟨-, rfl, rfl⟩ | ⟨h1, h2, -⟩⟩
  rotate_left
  · exact absurd h2 h1
  subst hn2
  simp only [Option.toList_some, List.cons_append, List.nil_append]
  refine jrun_ok jC X k_LW_244 244 _ _ _ o_LW_244 ?_
  simp only [k_LW_244, jrun, jstep, jldi, jldl, jlda, j1, j2, jl1, jl2, jli, ja1, jbr, jald, jast, jlald, jlast, jalen, jget, jput, jfit, jdup, jdupx, jdupx2, jdup2, jcat, jset1, jset2, jkill, List.getElem?_cons_zero, List.getElem?_cons_succ, List.set_cons_zero, List.set_cons_succ, List.length_cons, List.length_nil, Nat.reduceAdd, Nat.reduceLT, Int32.reduceToNatClampNeg, true_and, and_true, and_self, reduceCtorEq, not_false_eq_true, false_and, and_false, or_false, false_or, true_or, or_true]
  refine jk_Vg X hR d_LW_247 q_LW_247 m_MM_thrown i_MM_thrown e_MM_thrown (ci := 11) rfl rfl (by decide) mm_a (c_MM_thrown M.2.1 E _ 143 87 88 (by decide) (by decide) _ _ _ _) rfl rfl ⟨Nat.le_of_ble_eq_true rfl, Nat.le_of_ble_eq_true rfl⟩ (c' := 143) rfl (s' := 1030446) rfl ⟨Nat.le_of_ble_eq_true rfl, Nat.le_of_ble_eq_true rfl⟩ (Nat.le_of_ble_eq_true rfl) (pc' := 250) rfl ?_
  rintro _ _ _ ⟨rfl, rfl, rfl⟩
  simp only [Option.toList_some, List.cons_append, List.nil_append]
  have ez : va_up Fm 0 1 0 = 1 := by simp [va_up]
  refine jrun_ok jC X k_LW_250 250 _ _ _ o_LW_250 ?_
  simp only [k_LW_250, jrun, jstep, jldi, jldl, jlda, j1, j2, jl1, jl2, jli, ja1, jbr, jald, jast, jlald, jlast, jalen, jget, jput, jfit, jdup, jdupx, jdupx2, jdup2, jcat, jset1, jset2, jkill, List.getElem?_cons_zero, List.getElem?_cons_succ, List.set_cons_zero, List.set_cons_succ, List.length_cons, List.length_nil, Nat.reduceAdd, Nat.reduceLT, Int32.reduceToNatClampNeg, true_and, and_true, and_self, reduceCtorEq, not_false_eq_true, false_and, and_false, or_false, false_or, true_or, or_true, ez]
  refine ⟨fun _ => ?_, fun h => absurd trivial h⟩
  refine jrun_ok jC X k_LW_257 257 _ _ _ o_LW_257 ?_
  simp only [k_LW_257, jrun, jstep, jldi, jldl, jlda, j1, j2, jl1, jl2, jli, ja1, jbr, jald, jast, jlald, jlast, jalen, jget, jput, jfit, jdup, jdupx, jdupx2, jdup2, jcat, jset1, jset2, jkill, List.getElem?_cons_zero, List.getElem?_cons_succ, List.set_cons_zero, List.set_cons_succ, List.length_cons, List.length_nil, Nat.reduceAdd, Nat.reduceLT, Int32.reduceToNatClampNeg, true_and, and_true, and_self, reduceCtorEq, not_false_eq_true, false_and, and_false, or_false, false_or, true_or, or_true]
  refine ⟨fun _ => ?_, fun h => absurd h (by decide)⟩
  refine jrun_ok jC X k_LW_274 274 _ _ _ o_LW_274 ?_
  simp only [k_LW_274, jrun, jstep, jldi, jldl, jlda, j1, j2, jl1, jl2, jli, ja1, jbr, jald, jast, jlald, jlast, jalen, jget, jput, jfit, jdup, jdupx, jdupx2, jdup2, jcat, jset1, jset2, jkill, List.getElem?_cons_zero, List.getElem?_cons_succ, List.set_cons_zero, List.set_cons_succ, List.length_cons, List.length_nil, Nat.reduceAdd, Nat.reduceLT, Int32.reduceToNatClampNeg, true_and, and_true, and_self, reduceCtorEq, not_false_eq_true, false_and, and_false, or_false, false_or, true_or, or_true]
  exact lw_next X hX hbl hret hL _ _ _ (Nat.le_of_ble_eq_true rfl) (Nat.le_of_ble_eq_true rfl) _ _ _
set_option maxRecDepth 100000 in
set_option maxHeartbeats 4000000 in
theorem lw_all (X : jX E "ChessHouseLaw" lw_tbl jcl jtb 7 false code M) {L : Nat} {xs : Nat → Int32} (hX : va_X (E.2.2.1 99) L xs M.2.2.2.2.1 M.2.2.2.2.1.heap) (hbl : E.2.2.1 99 < E.2.2.2) (hR : M.2.2.2.1 = room_1) (hTh : jTh E M.2.2.2.2.1) (hret : ∀ (n cells slots : Nat) (lv : List (Option jv)) (σ : Nat → jcell), cells ≤ 600002 → slots ≤ 7302232 → jJ E jcl 7 M Q n cells slots 284 lv [.inl 1] σ) (hlt : M.2.1.stackTraces = false) (hL : L ≤ 6) (σ : Nat → jcell) : jJ E jcl 7 M Q 0 0 0 0 [some (.inr (.inr (some (.inr 99)))), none, none, none, none, none, none] [] σ := by
  refine lw_head X hR σ fun σ hok => ?_
  by_cases h6 : L = 6
  rotate_left
  · exact lw_end X hX hbl hret _ _ _ (Nat.le_of_ble_eq_true rfl) (Nat.le_of_ble_eq_true rfl) _ (by
      obtain h | h | h | h | h | h : L = 0 ∨ L = 1 ∨ L = 2 ∨ L = 3 ∨ L = 4 ∨ L = 5 := by omega
      all_goals (subst h; decide)) _ _ _ _ _ _
  have hX6 := hX
  refine jrun_ok jC X k_LW_23 23 _ _ _ o_LW_23 ?_
  simp only [k_LW_23, jrun, jstep, jldi, jldl, jlda, j1, j2, jl1, jl2, jli, ja1, jbr, jald, jast, jlald, jlast, jalen, jget, jput, jfit, jdup, jdupx, jdupx2, jdup2, jcat, jset1, jset2, jkill, List.getElem?_cons_zero, List.getElem?_cons_succ, List.set_cons_zero, List.set_cons_succ, List.length_cons, List.length_nil, Nat.reduceAdd, Nat.reduceLT, Int32.reduceToNatClampNeg, true_and, and_true, and_self, reduceCtorEq, not_false_eq_true, false_and, and_false, or_false, false_or, true_or, or_true]
  refine jk_slen X d_LW_26 hX hbl ?_
  refine jrun_ok jC X k_LW_27 27 _ _ _ o_LW_27 ?_
  simp only [k_LW_27, jrun, jstep, jldi, jldl, jlda, j1, j2, jl1, jl2, jli, ja1, jbr, jald, jast, jlald, jlast, jalen, jget, jput, jfit, jdup, jdupx, jdupx2, jdup2, jcat, jset1, jset2, jkill, List.getElem?_cons_zero, List.getElem?_cons_succ, List.set_cons_zero, List.set_cons_succ, List.length_cons, List.length_nil, Nat.reduceAdd, Nat.reduceLT, Int32.reduceToNatClampNeg, true_and, and_true, and_self, reduceCtorEq, not_false_eq_true, false_and, and_false, or_false, false_or, true_or, or_true]
  refine ⟨fun h => absurd h (by subst h6; decide), fun _ => ?_⟩
  refine jk_sld X d_LW_36 hX hbl (i := 0) (by subst h6; unfold vp_in; decide) ?_
  refine jrun_ok jC X k_LW_37 37 _ _ _ o_LW_37 ?_
  simp only [k_LW_37, jrun, jstep, jldi, jldl, jlda, j1, j2, jl1, jl2, jli, ja1, jbr, jald, jast, jlald, jlast, jalen, jget, jput, jfit, jdup, jdupx, jdupx2, jdup2, jcat, jset1, jset2, jkill, List.getElem?_cons_zero, List.getElem?_cons_succ, List.set_cons_zero, List.set_cons_succ, List.length_cons, List.length_nil, Nat.reduceAdd, Nat.reduceLT, Int32.reduceToNatClampNeg, true_and, and_true, and_self, reduceCtorEq, not_false_eq_true, false_and, and_false, or_false, false_or, true_or, or_true]
  refine jk_tab X d_LW_39 (td := 277) [68, 152, 208, 221] rfl rfl rfl (fun _ => lw_next X hX hbl hret h6 _ _ _ (Nat.le_of_ble_eq_true rfl) (Nat.le_of_ble_eq_true rfl) _ _ _) ?_
  intro i t ht _
  match i, ht with
  | 0, ht => obtain rfl := Option.some.inj ht; exact lw_c0 X hX hbl hR hTh hret h6 σ hok
  | 1, ht => obtain rfl := Option.some.inj ht; exact lw_c1 hlt X hX hbl hR hTh hret h6 σ hok
  | 2, ht => obtain rfl := Option.some.inj ht; exact lw_c2 X hX hbl hR hTh hret h6 σ hok
  | 3, ht => obtain rfl := Option.some.inj ht; exact lw_c3 hlt X hX hbl hR hTh hret h6 σ hok
end LAW

