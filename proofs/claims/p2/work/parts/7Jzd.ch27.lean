/-! the law -/
noncomputable def kk_LW_0 : List jI := [(.new 8, 3, (0, 0, 0, 0, 0)), (.dup, 1, (0, 0, 0, 0, 0)), (.invokespecial 26, 3, (0, 0, 0, 0, 0)), (.astore_n 1, 1, (1, 0, 0, 0, 0)), (.new 27, 3, (0, 0, 0, 0, 0)), (.dup, 1, (0, 0, 0, 0, 0)), (.invokespecial 29, 3, (0, 0, 0, 0, 0)), (.astore_n 2, 1, (2, 0, 0, 0, 0)), (.iconst 1, 1, (0, 0, 0, 1, 0)), (.newarray .long, 2, (0, 0, 0, 0, 0)), (.astore_n 3, 1, (3, 0, 0, 0, 0)), (.iconst 0, 1, (0, 0, 0, 0, 0)), (.istore 4, 2, (4, 0, 0, 0, 0)), (.iload 4, 2, (4, 0, 0, 0, 0)), (.aload_n 0, 1, (0, 0, 0, 0, 0)), (.arraylength, 1, (0, 0, 0, 0, 0)), (.bipush 6, 2, (0, 0, 0, 6, 0)), (.isub, 1, (0, 0, 0, 0, 0)), (.if_icmp .gt 197, 3, (227, 0, 0, 0, 0)), (.aload_n 0, 1, (0, 0, 0, 0, 0)), (.iload 4, 2, (4, 0, 0, 0, 0)), (.iaload, 1, (0, 0, 0, 0, 0)), (.iconst 3, 1, (0, 0, 0, 3, 0)), (.iand, 1, (0, 0, 0, 0, 0)), (.tableswitch 182 0 3 #[29, 113, 141, 154], 29, (0, 0, 0, 0, 0)), (.aload_n 1, 1, (1, 0, 0, 0, 0)), (.aload_n 0, 1, (0, 0, 0, 0, 0)), (.iload 4, 2, (4, 0, 0, 0, 0)), (.iconst 1, 1, (0, 0, 0, 1, 0)), (.iadd, 1, (0, 0, 0, 0, 0)), (.iaload, 1, (0, 0, 0, 0, 0)), (.aload_n 0, 1, (0, 0, 0, 0, 0)), (.iload 4, 2, (4, 0, 0, 0, 0)), (.iconst 2, 1, (0, 0, 0, 2, 0)), (.iadd, 1, (0, 0, 0, 0, 0)), (.iaload, 1, (0, 0, 0, 0, 0)), (.aload_n 0, 1, (0, 0, 0, 0, 0)), (.iload 4, 2, (4, 0, 0, 0, 0)), (.iconst 3, 1, (0, 0, 0, 3, 0)), (.iadd, 1, (0, 0, 0, 0, 0)), (.iaload, 1, (0, 0, 0, 0, 0)), (.aload_n 0, 1, (0, 0, 0, 0, 0)), (.iload 4, 2, (4, 0, 0, 0, 0)), (.iconst 4, 1, (0, 0, 0, 4, 0)), (.iadd, 1, (0, 0, 0, 0, 0)), (.iaload, 1, (0, 0, 0, 0, 0)), (.aload_n 0, 1, (0, 0, 0, 0, 0)), (.iload 4, 2, (4, 0, 0, 0, 0)), (.iconst 5, 1, (0, 0, 0, 5, 0)), (.iadd, 1, (0, 0, 0, 0, 0)), (.iaload, 1, (0, 0, 0, 0, 0)), (.invokestatic 30, 3, (0, 0, 0, 0, 0)), (.istore 5, 2, (5, 0, 0, 0, 0)), (.aload_n 2, 1, (2, 0, 0, 0, 0)), (.aload_n 0, 1, (0, 0, 0, 0, 0)), (.iload 4, 2, (4, 0, 0, 0, 0)), (.iconst 1, 1, (0, 0, 0, 1, 0)), (.iadd, 1, (0, 0, 0, 0, 0)), (.iaload, 1, (0, 0, 0, 0, 0)), (.aload_n 0, 1, (0, 0, 0, 0, 0)), (.iload 4, 2, (4, 0, 0, 0, 0)), (.iconst 2, 1, (0, 0, 0, 2, 0)), (.iadd, 1, (0, 0, 0, 0, 0)), (.iaload, 1, (0, 0, 0, 0, 0)), (.aload_n 0, 1, (0, 0, 0, 0, 0)), (.iload 4, 2, (4, 0, 0, 0, 0)), (.iconst 3, 1, (0, 0, 0, 3, 0)), (.iadd, 1, (0, 0, 0, 0, 0)), (.iaload, 1, (0, 0, 0, 0, 0)), (.aload_n 0, 1, (0, 0, 0, 0, 0)), (.iload 4, 2, (4, 0, 0, 0, 0)), (.iconst 4, 1, (0, 0, 0, 4, 0)), (.iadd, 1, (0, 0, 0, 0, 0)), (.iaload, 1, (0, 0, 0, 0, 0)), (.aload_n 0, 1, (0, 0, 0, 0, 0)), (.iload 4, 2, (4, 0, 0, 0, 0)), (.iconst 5, 1, (0, 0, 0, 5, 0)), (.iadd, 1, (0, 0, 0, 0, 0)), (.iaload, 1, (0, 0, 0, 0, 0)), (.invokevirtual 35, 3, (0, 0, 0, 0, 0)), (.aload_n 2, 1, (2, 0, 0, 0, 0)), (.invokevirtual 36, 3, (0, 0, 0, 0, 0)), (.iload 5, 2, (5, 0, 0, 0, 0)), (.if_icmp .eq 5, 3, (149, 0, 0, 0, 0)), (.iconst 0, 1, (0, 0, 0, 0, 0)), (.ireturn, 1, (0, 0, 0, 0, 0)), (.goto 72, 3, (221, 0, 0, 0, 0)), (.aload_n 1, 1, (1, 0, 0, 0, 0)), (.aload_n 0, 1, (0, 0, 0, 0, 0)), (.iload 4, 2, (4, 0, 0, 0, 0)), (.iconst 1, 1, (0, 0, 0, 1, 0)), (.iadd, 1, (0, 0, 0, 0, 0)), (.iaload, 1, (0, 0, 0, 0, 0)), (.aload_n 3, 1, (3, 0, 0, 0, 0)), (.invokestatic 40, 3, (0, 0, 0, 0, 0)), (.istore 5, 2, (5, 0, 0, 0, 0)), (.aload_n 2, 1, (2, 0, 0, 0, 0)), (.aload_n 0, 1, (0, 0, 0, 0, 0)), (.iload 4, 2, (4, 0, 0, 0, 0)), (.iconst 1, 1, (0, 0, 0, 1, 0)), (.iadd, 1, (0, 0, 0, 0, 0)), (.iaload, 1, (0, 0, 0, 0, 0))]
theorem oo_LW_0 : jokL "ChessHouseLaw" lw_tbl jcl jtb 7 false code 0 kk_LW_0 = true := by decide +kernel
noncomputable def kk_LW_172 : List jI := [(.invokevirtual 43, 3, (0, 0, 0, 0, 0)), (.istore 6, 2, (6, 0, 0, 0, 0)), (.goto 44, 3, (221, 0, 0, 0, 0)), (.aload_n 1, 1, (1, 0, 0, 0, 0)), (.invokevirtual 44, 3, (0, 0, 0, 0, 0)), (.pop, 1, (0, 0, 0, 0, 0)), (.aload_n 2, 1, (2, 0, 0, 0, 0)), (.invokevirtual 47, 3, (0, 0, 0, 0, 0)), (.pop, 1, (0, 0, 0, 0, 0)), (.goto 31, 3, (221, 0, 0, 0, 0)), (.aload_n 1, 1, (1, 0, 0, 0, 0)), (.aload_n 0, 1, (0, 0, 0, 0, 0)), (.iload 4, 2, (4, 0, 0, 0, 0)), (.iconst 1, 1, (0, 0, 0, 1, 0)), (.iadd, 1, (0, 0, 0, 0, 0)), (.iaload, 1, (0, 0, 0, 0, 0)), (.aload_n 3, 1, (3, 0, 0, 0, 0)), (.invokestatic 48, 3, (0, 0, 0, 0, 0)), (.istore 5, 2, (5, 0, 0, 0, 0)), (.aload_n 2, 1, (2, 0, 0, 0, 0)), (.aload_n 0, 1, (0, 0, 0, 0, 0)), (.iload 4, 2, (4, 0, 0, 0, 0)), (.iconst 1, 1, (0, 0, 0, 1, 0)), (.iadd, 1, (0, 0, 0, 0, 0)), (.iaload, 1, (0, 0, 0, 0, 0)), (.invokevirtual 50, 3, (0, 0, 0, 0, 0)), (.istore 6, 2, (6, 0, 0, 0, 0)), (.goto 3, 3, (221, 0, 0, 0, 0)), (.iinc 4 6, 3, (0, 0, 0, 6, 0)), (.goto (-201), 3, (23, 0, 0, 0, 0)), (.iconst 1, 1, (0, 0, 0, 1, 0)), (.ireturn, 1, (0, 0, 0, 0, 0))]
theorem oo_LW_172 : jokL "ChessHouseLaw" lw_tbl jcl jtb 7 false code 172 kk_LW_172 = true := by decide +kernel
noncomputable def k_LW_3 : List jI := [(.dup, 1, (0, 0, 0, 0, 0))]
theorem o_LW_3 : jokL "ChessHouseLaw" lw_tbl jcl jtb 7 false code 3 k_LW_3 = true := jok_sub oo_LW_0 1 1 rfl rfl
noncomputable def k_LW_7 : List jI := [(.astore_n 1, 1, (1, 0, 0, 0, 0))]
theorem o_LW_7 : jokL "ChessHouseLaw" lw_tbl jcl jtb 7 false code 7 k_LW_7 = true := jok_sub oo_LW_0 3 1 rfl rfl
noncomputable def k_LW_11 : List jI := [(.dup, 1, (0, 0, 0, 0, 0))]
theorem o_LW_11 : jokL "ChessHouseLaw" lw_tbl jcl jtb 7 false code 11 k_LW_11 = true := jok_sub oo_LW_0 5 1 rfl rfl
noncomputable def k_LW_15 : List jI := [(.astore_n 2, 1, (2, 0, 0, 0, 0)), (.iconst 1, 1, (0, 0, 0, 1, 0))]
theorem o_LW_15 : jokL "ChessHouseLaw" lw_tbl jcl jtb 7 false code 15 k_LW_15 = true := jok_sub oo_LW_0 7 2 rfl rfl
noncomputable def k_LW_19 : List jI := [(.astore_n 3, 1, (3, 0, 0, 0, 0)), (.iconst 0, 1, (0, 0, 0, 0, 0)), (.istore 4, 2, (4, 0, 0, 0, 0))]
theorem o_LW_19 : jokL "ChessHouseLaw" lw_tbl jcl jtb 7 false code 19 k_LW_19 = true := jok_sub oo_LW_0 10 3 rfl rfl
noncomputable def k_LW_23 : List jI := [(.iload 4, 2, (4, 0, 0, 0, 0)), (.aload_n 0, 1, (0, 0, 0, 0, 0))]
theorem o_LW_23 : jokL "ChessHouseLaw" lw_tbl jcl jtb 7 false code 23 k_LW_23 = true := jok_sub oo_LW_0 13 2 rfl rfl
noncomputable def k_LW_27 : List jI := [(.bipush 6, 2, (0, 0, 0, 6, 0)), (.isub, 1, (0, 0, 0, 0, 0)), (.if_icmp .gt 197, 3, (227, 0, 0, 0, 0)), (.aload_n 0, 1, (0, 0, 0, 0, 0)), (.iload 4, 2, (4, 0, 0, 0, 0))]
theorem o_LW_27 : jokL "ChessHouseLaw" lw_tbl jcl jtb 7 false code 27 k_LW_27 = true := jok_sub oo_LW_0 16 5 rfl rfl
noncomputable def k_LW_37 : List jI := [(.iconst 3, 1, (0, 0, 0, 3, 0)), (.iand, 1, (0, 0, 0, 0, 0))]
theorem o_LW_37 : jokL "ChessHouseLaw" lw_tbl jcl jtb 7 false code 37 k_LW_37 = true := jok_sub oo_LW_0 22 2 rfl rfl
noncomputable def k_LW_68 : List jI := [(.aload_n 1, 1, (1, 0, 0, 0, 0)), (.aload_n 0, 1, (0, 0, 0, 0, 0)), (.iload 4, 2, (4, 0, 0, 0, 0)), (.iconst 1, 1, (0, 0, 0, 1, 0)), (.iadd, 1, (0, 0, 0, 0, 0))]
theorem o_LW_68 : jokL "ChessHouseLaw" lw_tbl jcl jtb 7 false code 68 k_LW_68 = true := jok_sub oo_LW_0 25 5 rfl rfl
noncomputable def k_LW_75 : List jI := [(.aload_n 0, 1, (0, 0, 0, 0, 0)), (.iload 4, 2, (4, 0, 0, 0, 0)), (.iconst 2, 1, (0, 0, 0, 2, 0)), (.iadd, 1, (0, 0, 0, 0, 0))]
theorem o_LW_75 : jokL "ChessHouseLaw" lw_tbl jcl jtb 7 false code 75 k_LW_75 = true := jok_sub oo_LW_0 31 4 rfl rfl
noncomputable def k_LW_81 : List jI := [(.aload_n 0, 1, (0, 0, 0, 0, 0)), (.iload 4, 2, (4, 0, 0, 0, 0)), (.iconst 3, 1, (0, 0, 0, 3, 0)), (.iadd, 1, (0, 0, 0, 0, 0))]
theorem o_LW_81 : jokL "ChessHouseLaw" lw_tbl jcl jtb 7 false code 81 k_LW_81 = true := jok_sub oo_LW_0 36 4 rfl rfl
noncomputable def k_LW_87 : List jI := [(.aload_n 0, 1, (0, 0, 0, 0, 0)), (.iload 4, 2, (4, 0, 0, 0, 0)), (.iconst 4, 1, (0, 0, 0, 4, 0)), (.iadd, 1, (0, 0, 0, 0, 0))]
theorem o_LW_87 : jokL "ChessHouseLaw" lw_tbl jcl jtb 7 false code 87 k_LW_87 = true := jok_sub oo_LW_0 41 4 rfl rfl
noncomputable def k_LW_93 : List jI := [(.aload_n 0, 1, (0, 0, 0, 0, 0)), (.iload 4, 2, (4, 0, 0, 0, 0)), (.iconst 5, 1, (0, 0, 0, 5, 0)), (.iadd, 1, (0, 0, 0, 0, 0))]
theorem o_LW_93 : jokL "ChessHouseLaw" lw_tbl jcl jtb 7 false code 93 k_LW_93 = true := jok_sub oo_LW_0 46 4 rfl rfl
noncomputable def k_LW_102 : List jI := [(.istore 5, 2, (5, 0, 0, 0, 0)), (.aload_n 2, 1, (2, 0, 0, 0, 0)), (.aload_n 0, 1, (0, 0, 0, 0, 0)), (.iload 4, 2, (4, 0, 0, 0, 0)), (.iconst 1, 1, (0, 0, 0, 1, 0)), (.iadd, 1, (0, 0, 0, 0, 0))]
theorem o_LW_102 : jokL "ChessHouseLaw" lw_tbl jcl jtb 7 false code 102 k_LW_102 = true := jok_sub oo_LW_0 52 6 rfl rfl
noncomputable def k_LW_111 : List jI := [(.aload_n 0, 1, (0, 0, 0, 0, 0)), (.iload 4, 2, (4, 0, 0, 0, 0)), (.iconst 2, 1, (0, 0, 0, 2, 0)), (.iadd, 1, (0, 0, 0, 0, 0))]
theorem o_LW_111 : jokL "ChessHouseLaw" lw_tbl jcl jtb 7 false code 111 k_LW_111 = true := jok_sub oo_LW_0 59 4 rfl rfl
noncomputable def k_LW_117 : List jI := [(.aload_n 0, 1, (0, 0, 0, 0, 0)), (.iload 4, 2, (4, 0, 0, 0, 0)), (.iconst 3, 1, (0, 0, 0, 3, 0)), (.iadd, 1, (0, 0, 0, 0, 0))]
theorem o_LW_117 : jokL "ChessHouseLaw" lw_tbl jcl jtb 7 false code 117 k_LW_117 = true := jok_sub oo_LW_0 64 4 rfl rfl
noncomputable def k_LW_123 : List jI := [(.aload_n 0, 1, (0, 0, 0, 0, 0)), (.iload 4, 2, (4, 0, 0, 0, 0)), (.iconst 4, 1, (0, 0, 0, 4, 0)), (.iadd, 1, (0, 0, 0, 0, 0))]
theorem o_LW_123 : jokL "ChessHouseLaw" lw_tbl jcl jtb 7 false code 123 k_LW_123 = true := jok_sub oo_LW_0 69 4 rfl rfl
noncomputable def k_LW_129 : List jI := [(.aload_n 0, 1, (0, 0, 0, 0, 0)), (.iload 4, 2, (4, 0, 0, 0, 0)), (.iconst 5, 1, (0, 0, 0, 5, 0)), (.iadd, 1, (0, 0, 0, 0, 0))]
theorem o_LW_129 : jokL "ChessHouseLaw" lw_tbl jcl jtb 7 false code 129 k_LW_129 = true := jok_sub oo_LW_0 74 4 rfl rfl
noncomputable def k_LW_138 : List jI := [(.aload_n 2, 1, (2, 0, 0, 0, 0))]
theorem o_LW_138 : jokL "ChessHouseLaw" lw_tbl jcl jtb 7 false code 138 k_LW_138 = true := jok_sub oo_LW_0 80 1 rfl rfl
noncomputable def k_LW_142 : List jI := [(.iload 5, 2, (5, 0, 0, 0, 0)), (.if_icmp .eq 5, 3, (149, 0, 0, 0, 0)), (.iconst 0, 1, (0, 0, 0, 0, 0))]
theorem o_LW_142 : jokL "ChessHouseLaw" lw_tbl jcl jtb 7 false code 142 k_LW_142 = true := jok_sub oo_LW_0 82 3 rfl rfl
noncomputable def k_LW_149 : List jI := [(.goto 72, 3, (221, 0, 0, 0, 0))]
theorem o_LW_149 : jokL "ChessHouseLaw" lw_tbl jcl jtb 7 false code 149 k_LW_149 = true := jok_sub oo_LW_0 86 1 rfl rfl
noncomputable def k_LW_152 : List jI := [(.aload_n 1, 1, (1, 0, 0, 0, 0)), (.aload_n 0, 1, (0, 0, 0, 0, 0)), (.iload 4, 2, (4, 0, 0, 0, 0)), (.iconst 1, 1, (0, 0, 0, 1, 0)), (.iadd, 1, (0, 0, 0, 0, 0))]
theorem o_LW_152 : jokL "ChessHouseLaw" lw_tbl jcl jtb 7 false code 152 k_LW_152 = true := jok_sub oo_LW_0 87 5 rfl rfl
noncomputable def k_LW_159 : List jI := [(.aload_n 3, 1, (3, 0, 0, 0, 0))]
theorem o_LW_159 : jokL "ChessHouseLaw" lw_tbl jcl jtb 7 false code 159 k_LW_159 = true := jok_sub oo_LW_0 93 1 rfl rfl
noncomputable def k_LW_163 : List jI := [(.istore 5, 2, (5, 0, 0, 0, 0)), (.aload_n 2, 1, (2, 0, 0, 0, 0)), (.aload_n 0, 1, (0, 0, 0, 0, 0)), (.iload 4, 2, (4, 0, 0, 0, 0)), (.iconst 1, 1, (0, 0, 0, 1, 0)), (.iadd, 1, (0, 0, 0, 0, 0))]
theorem o_LW_163 : jokL "ChessHouseLaw" lw_tbl jcl jtb 7 false code 163 k_LW_163 = true := jok_sub oo_LW_0 95 6 rfl rfl
noncomputable def k_LW_175 : List jI := [(.istore 6, 2, (6, 0, 0, 0, 0)), (.goto 44, 3, (221, 0, 0, 0, 0))]
theorem o_LW_175 : jokL "ChessHouseLaw" lw_tbl jcl jtb 7 false code 175 k_LW_175 = true := jok_sub oo_LW_172 1 2 rfl rfl
noncomputable def k_LW_180 : List jI := [(.aload_n 1, 1, (1, 0, 0, 0, 0))]
theorem o_LW_180 : jokL "ChessHouseLaw" lw_tbl jcl jtb 7 false code 180 k_LW_180 = true := jok_sub oo_LW_172 3 1 rfl rfl
noncomputable def k_LW_184 : List jI := [(.pop, 1, (0, 0, 0, 0, 0)), (.aload_n 2, 1, (2, 0, 0, 0, 0))]
theorem o_LW_184 : jokL "ChessHouseLaw" lw_tbl jcl jtb 7 false code 184 k_LW_184 = true := jok_sub oo_LW_172 5 2 rfl rfl
noncomputable def k_LW_189 : List jI := [(.pop, 1, (0, 0, 0, 0, 0)), (.goto 31, 3, (221, 0, 0, 0, 0))]
theorem o_LW_189 : jokL "ChessHouseLaw" lw_tbl jcl jtb 7 false code 189 k_LW_189 = true := jok_sub oo_LW_172 8 2 rfl rfl
noncomputable def k_LW_193 : List jI := [(.aload_n 1, 1, (1, 0, 0, 0, 0)), (.aload_n 0, 1, (0, 0, 0, 0, 0)), (.iload 4, 2, (4, 0, 0, 0, 0)), (.iconst 1, 1, (0, 0, 0, 1, 0)), (.iadd, 1, (0, 0, 0, 0, 0))]
theorem o_LW_193 : jokL "ChessHouseLaw" lw_tbl jcl jtb 7 false code 193 k_LW_193 = true := jok_sub oo_LW_172 10 5 rfl rfl
noncomputable def k_LW_200 : List jI := [(.aload_n 3, 1, (3, 0, 0, 0, 0))]
theorem o_LW_200 : jokL "ChessHouseLaw" lw_tbl jcl jtb 7 false code 200 k_LW_200 = true := jok_sub oo_LW_172 16 1 rfl rfl
noncomputable def k_LW_204 : List jI := [(.istore 5, 2, (5, 0, 0, 0, 0)), (.aload_n 2, 1, (2, 0, 0, 0, 0)), (.aload_n 0, 1, (0, 0, 0, 0, 0)), (.iload 4, 2, (4, 0, 0, 0, 0)), (.iconst 1, 1, (0, 0, 0, 1, 0)), (.iadd, 1, (0, 0, 0, 0, 0))]
theorem o_LW_204 : jokL "ChessHouseLaw" lw_tbl jcl jtb 7 false code 204 k_LW_204 = true := jok_sub oo_LW_172 18 6 rfl rfl
noncomputable def k_LW_216 : List jI := [(.istore 6, 2, (6, 0, 0, 0, 0)), (.goto 3, 3, (221, 0, 0, 0, 0))]
theorem o_LW_216 : jokL "ChessHouseLaw" lw_tbl jcl jtb 7 false code 216 k_LW_216 = true := jok_sub oo_LW_172 26 2 rfl rfl
noncomputable def k_LW_221 : List jI := [(.iinc 4 6, 3, (0, 0, 0, 6, 0)), (.goto (-201), 3, (23, 0, 0, 0, 0))]
theorem o_LW_221 : jokL "ChessHouseLaw" lw_tbl jcl jtb 7 false code 221 k_LW_221 = true := jok_sub oo_LW_172 28 2 rfl rfl
noncomputable def k_LW_227 : List jI := [(.iconst 1, 1, (0, 0, 0, 1, 0))]
theorem o_LW_227 : jokL "ChessHouseLaw" lw_tbl jcl jtb 7 false code 227 k_LW_227 = true := jok_sub oo_LW_172 30 1 rfl rfl
theorem d_LW_0 : decode code 0 = .ok (.new 8, 3) := by decide +kernel
theorem d_LW_4 : decode code 4 = .ok (.invokespecial 26, 3) := by decide +kernel
theorem q_LW_4 : jlm lw_tbl 336 "ChessHouseLaw" 26 ⟨"ChessHouse", "<init>", "()V"⟩ = true := jlm_of (Or.inl (jtF_ok rfl))
theorem d_LW_8 : decode code 8 = .ok (.new 27, 3) := by decide +kernel
theorem d_LW_12 : decode code 12 = .ok (.invokespecial 29, 3) := by decide +kernel
theorem q_LW_12 : jlm lw_tbl 1903 "ChessHouseLaw" 29 ⟨"ChessHouseModel", "<init>", "()V"⟩ = true := jlm_of (Or.inl (jtF_ok rfl))
theorem d_LW_17 : decode code 17 = .ok (.newarray .long, 2) := by decide +kernel
theorem d_LW_26 : decode code 26 = .ok (.arraylength, 1) := by decide +kernel
theorem d_LW_36 : decode code 36 = .ok (.iaload, 1) := by decide +kernel
theorem d_LW_39 : decode code 39 = .ok (.tableswitch 182 0 3 #[29, 113, 141, 154], 29) := by decide +kernel
theorem d_LW_74 : decode code 74 = .ok (.iaload, 1) := by decide +kernel
theorem d_LW_80 : decode code 80 = .ok (.iaload, 1) := by decide +kernel
theorem d_LW_86 : decode code 86 = .ok (.iaload, 1) := by decide +kernel
theorem d_LW_92 : decode code 92 = .ok (.iaload, 1) := by decide +kernel
theorem d_LW_98 : decode code 98 = .ok (.iaload, 1) := by decide +kernel
theorem d_LW_99 : decode code 99 = .ok (.invokestatic 30, 3) := by decide +kernel
theorem d_LW_110 : decode code 110 = .ok (.iaload, 1) := by decide +kernel
theorem d_LW_116 : decode code 116 = .ok (.iaload, 1) := by decide +kernel
theorem d_LW_122 : decode code 122 = .ok (.iaload, 1) := by decide +kernel
theorem d_LW_128 : decode code 128 = .ok (.iaload, 1) := by decide +kernel
theorem d_LW_134 : decode code 134 = .ok (.iaload, 1) := by decide +kernel
theorem d_LW_135 : decode code 135 = .ok (.invokevirtual 35, 3) := by decide +kernel
theorem q_LW_135 : jlm lw_tbl 2364 "ChessHouseLaw" 35 ⟨"ChessHouseModel", "feed", "(IIIII)V"⟩ = true := jlm_of (Or.inl (jtF_ok rfl))
theorem d_LW_139 : decode code 139 = .ok (.invokevirtual 36, 3) := by decide +kernel
theorem q_LW_139 : jlm lw_tbl 2360 "ChessHouseLaw" 36 ⟨"ChessHouseModel", "thrown", "()I"⟩ = true := jlm_of (Or.inl (jtF_ok rfl))
theorem d_LW_158 : decode code 158 = .ok (.iaload, 1) := by decide +kernel
theorem d_LW_160 : decode code 160 = .ok (.invokestatic 40, 3) := by decide +kernel
theorem d_LW_171 : decode code 171 = .ok (.iaload, 1) := by decide +kernel
theorem d_LW_172 : decode code 172 = .ok (.invokevirtual 43, 3) := by decide +kernel
theorem q_LW_172 : jlm lw_tbl 2372 "ChessHouseLaw" 43 ⟨"ChessHouseModel", "end", "(I)I"⟩ = true := jlm_of (Or.inl (jtF_ok rfl))
theorem d_LW_181 : decode code 181 = .ok (.invokevirtual 44, 3) := by decide +kernel
theorem q_LW_181 : jlm lw_tbl 859 "ChessHouseLaw" 44 ⟨"ChessHouse", "size", "()I"⟩ = true := jlm_of (Or.inl (jtF_ok rfl))
theorem d_LW_186 : decode code 186 = .ok (.invokevirtual 47, 3) := by decide +kernel
theorem q_LW_186 : jlm lw_tbl 3289 "ChessHouseLaw" 47 ⟨"ChessHouseModel", "size", "()I"⟩ = true := jlm_of (Or.inl (jtF_ok rfl))
theorem d_LW_199 : decode code 199 = .ok (.iaload, 1) := by decide +kernel
theorem d_LW_201 : decode code 201 = .ok (.invokestatic 48, 3) := by decide +kernel
theorem d_LW_212 : decode code 212 = .ok (.iaload, 1) := by decide +kernel
theorem d_LW_213 : decode code 213 = .ok (.invokevirtual 50, 3) := by decide +kernel
theorem q_LW_213 : jlm lw_tbl 3293 "ChessHouseLaw" 50 ⟨"ChessHouseModel", "out", "(I)I"⟩ = true := jlm_of (Or.inl (jtF_ok rfl))
noncomputable def lK0 : Nat → Nat := fun p => if p = 0 then 0 else if p < 87 then ckl.getD (p - 1) 0 else if p = 87 then 55 else if p < 141 then rkl.getD (p - 88) 0 else 999
theorem lK_c {j : Nat} (hj : j < 86) : lK0 (1 + j) = ckl.getD j 0 := by
  unfold lK0
  rw [if_neg (by omega), if_pos (by omega), show 1 + j - 1 = j by omega]
theorem lK_r {j : Nat} (hj : j < 53) : lK0 (88 + j) = rkl.getD j 0 := by
  unfold lK0
  rw [if_neg (by omega), if_neg (by omega), if_neg (by omega), if_pos (by omega), show 88 + j - 88 = j by omega]
theorem lw_start {σ : Nat → jcell} {F1 : Nat → Int32} {A1 : Nat → Nat → Int32} {L1 : Nat → Nat → Int64} {F2 : Nat → Int32} {A2 : Nat → Nat → Int32} {L2 : Nat → Nat → Int64} {F : Nat → Int32} {A : Nat → Nat → Int32} {G : Nat → Int64} (h0 : σ 0 = cob 1) (h1 : ∀ j, j < 86 → σ (1 + j) = (ccl 1 F1 A1 L1 F2 A2 L2).getD j (.inr (0, []))) (h2 : σ 87 = rob 88) (h3 : ∀ j, j < 53 → σ (88 + j) = (rcl 88 F A).getD j (.inr (0, []))) (h4 : σ 141 = .inl (.long, 1, .inr (.inl G))) (hT1 : zFB (1 + 33) (1 + 34) F1 A1 L1) (hT2 : zFB (1 + 60) (1 + 61) F2 A2 L2) (hT : zFA (88 + 2) (88 + 3) F A) : LI lK0 142 σ := by
  have hR : rNew lK0 88 142 87 σ F A := ⟨by decide, by decide, rfl, fun j hj => lK_r hj, h2, h3⟩
  have oth : ∀ p, p < 142 → p ≠ 0 → ¬ (1 ≤ p ∧ p < 1 + 86) → p = 87 ∨ (∃ j, j < 53 ∧ p = 88 + j) ∨ p = 141 := fun p hp e1 e2 => by
    by_cases e : p = 87
    · exact Or.inl e
    · by_cases e3 : p = 141
      · exact Or.inr (Or.inr e3)
      · exact Or.inr (Or.inl ⟨p - 88, by omega, by omega⟩)
  have kr : ∀ j, j < 53 → 56 ≤ lK0 (88 + j) ∧ lK0 (88 + j) ≤ 108 := fun j hj => by rw [lK_r hj]; exact rkl_1 j hj
  have hC : cNew lK0 1 142 0 σ F1 A1 L1 F2 A2 L2 := ⟨by decide, by decide, rfl, fun j hj => lK_c hj, fun p hp e1 e2 => by
    rcases oth p hp e1 e2 with rfl | ⟨j, hj, rfl⟩ | rfl
    · exact ⟨Or.inl ⟨by decide, by decide⟩, by unfold gk; decide, by decide⟩
    · have := kr j hj
      exact ⟨Or.inl ⟨by omega, by omega⟩, by unfold gk; omega, by omega⟩
    · exact ⟨Or.inr (by decide), by unfold gk; decide, by decide⟩, h0, h1⟩
  obtain ⟨i1, i2⟩ := cN_I hC (fun p hp e1 e2 => by
    rcases oth p hp e1 e2 with rfl | ⟨j, hj, rfl⟩ | rfl
    · exact ⟨rN_pl hR (Or.inl rfl), fun d hd => by obtain rfl := Option.some.inj hd; exact rN_Ha hR⟩
    · exact ⟨rN_pl hR (Or.inr ⟨j, hj, rfl⟩), fun d hd => rN_H hR hT hj d (by rw [← lK_r hj]; exact hd)⟩
    · exact ⟨by rw [h4]; trivial, fun d hd => by cases (show none = some d from hd)⟩) hT1 hT2
  have i3 : rJ lK0 142 σ 87 := rN_I hR hT (fun p hp hk => by
    by_cases e : p = 0
    · subst e
      cases hk
    · by_cases e2 : 1 ≤ p ∧ p < 1 + 86
      · obtain ⟨j, rfl⟩ := Nat.exists_eq_add_of_le e2.1
        rw [lK_c (by omega)] at hk
        have := ckl_1 j (by omega)
        omega
      · rcases oth p hp e e2 with rfl | ⟨j, hj, rfl⟩ | rfl
        · cases hk
        · have := kr j hj
          omega
        · cases hk)
  exact ⟨0, 0, ⟨i1, i2, i3, by decide, rfl, ⟨G, h4⟩, ⟨_, h0, rfl⟩, _, h2, rfl⟩, rfl⟩
theorem lw_c0s : lC 0 lK0 142 = 142 ∧ lS 0 lK0 142 = 1030440 := by
  have nz : ∀ k, (k = 114 ∨ k = 52 ∨ k = 53 ∨ k = 54 ∨ k = 109) → kN lK0 k 142 = 0 := fun k hk => kN_0 142 (fun p hp e => by
    have : ∀ q, q < 142 → ¬ (lK0 q = 114 ∨ lK0 q = 52 ∨ lK0 q = 53 ∨ lK0 q = 54 ∨ lK0 q = 109) := by decide +kernel
    exact this p hp (by omega))
  unfold lC lS tC rN1
  rw [nz 114 (by simp), nz 52 (by simp), nz 53 (by simp), nz 54 (by simp), nz 109 (by simp)]
  exact ⟨rfl, rfl⟩
section LAW
variable {E : jE} {M : jM} {Q : State → Prop}
set_option maxRecDepth 100000 in
set_option maxHeartbeats 4000000 in
theorem lw_head (X : jX E "ChessHouseLaw" lw_tbl jcl jtb 7 false code M) (hR : M.2.2.2.1 = room_1) (σ : Nat → jcell) (kk : ∀ σ, LI lK0 142 σ → jJ E jcl 7 M Q 142 142 1030440 23 [some (.inr (.inr (some (.inr 99)))), some (.inr (.inr (some (.inl (0))))), some (.inr (.inr (some (.inl (87))))), some (.inr (.inr (some (.inl (141))))), some (.inl 0), none, none] [] σ) : jJ E jcl 7 M Q 0 0 0 0 [some (.inr (.inr (some (.inr 99)))), none, none, none, none, none, none] [] σ := by
  refine jk_nw jC X hR d_LW_0 (ci := 0) rfl (w1 := 334) (jtF_ok rfl) (w2 := 335) (jtF_ok rfl) (w3 := 302) (jtF_ok rfl) (by decide +kernel) (fs := [.inr (.inr none), .inr (.inr none), .inr (.inr none), .inr (.inr none), .inr (.inr none), .inr (.inr none), .inr (.inr none), .inr (.inr none), .inr (.inr none), .inr (.inr none), .inr (.inr none), .inr (.inr none), .inl 0, .inl 0, .inl 0]) rfl (n' := 1) rfl (c' := 1) rfl (s' := 15) rfl ⟨Nat.le_of_ble_eq_true rfl, Nat.le_of_ble_eq_true rfl⟩ (pc' := 3) rfl ?_
  refine jrun_ok jC X k_LW_3 3 _ _ _ o_LW_3 ?_
  simp only [k_LW_3, jrun, jstep, jldi, jldl, jlda, j1, j2, jl1, jl2, jli, ja1, jbr, jald, jast, jlald, jlast, jalen, jget, jput, jfit, jdup, jdupx, jdupx2, jdup2, jcat, jset1, jset2, jkill, List.getElem?_cons_zero, List.getElem?_cons_succ, List.set_cons_zero, List.set_cons_succ, List.length_cons, List.length_nil, Nat.reduceAdd, Nat.reduceLT, Int32.reduceToNatClampNeg, true_and, and_true, and_self, reduceCtorEq, not_false_eq_true, false_and, and_false, or_false, false_or, true_or, or_true]
  refine jk_Ig X hR d_LW_4 q_LW_4 m_CH_init i_CH_init rfl rfl (cz_CH_init M.2.1 E _ _ 0 (by decide) jup_s (fun p hp => by obtain rfl : p = 0 := (by omega); rw [jup_s]; trivial)) rfl rfl ⟨Nat.le_of_ble_eq_true rfl, Nat.le_of_ble_eq_true rfl⟩ (c' := 87) rfl (s' := 447715) rfl ⟨Nat.le_of_ble_eq_true rfl, Nat.le_of_ble_eq_true rfl⟩ (Nat.le_of_ble_eq_true rfl) (pc' := 7) rfl ?_
  rintro _ σ2 _ ⟨F1, A1, L1, F2, A2, L2, rfl, rfl, hσ, hT1, hT2⟩
  have e0 : σ2 0 = cob 1 := by rw [hσ]; exact jmk_a
  have e1 : ∀ j, j < 86 → σ2 (1 + j) = (ccl 1 F1 A1 L1 F2 A2 L2).getD j (.inr (0, [])) := fun j hj => by
    rw [hσ]
    unfold jmk
    rw [if_neg (by omega), if_neg (by omega), show 1 + j - 1 = j by omega]
    rw [List.getD, List.getD, List.getElem?_eq_getElem (show j < (ccl 1 F1 A1 L1 F2 A2 L2).length by show j < 86; omega)]
    exact congrArg (fun o => Option.getD o _) (List.getElem?_eq_getElem (show j < (ccl 1 F1 A1 L1 F2 A2 L2).length by show j < 86; omega))
  have hpl2 : ∀ p, p < 87 → zPl (σ2 p) := fun p hp => by
    by_cases e : p = 0
    · rw [e, e0]
      trivial
    · obtain ⟨j, rfl⟩ : ∃ j, p = 1 + j := ⟨p - 1, by omega⟩
      rw [e1 j (by omega)]
      exact zPl_all (cs := ccl 1 F1 A1 L1 F2 A2 L2) rfl _ (by
        rw [List.getD, List.getElem?_eq_getElem (show j < (ccl 1 F1 A1 L1 F2 A2 L2).length by show j < 86; omega)]
        exact List.getElem_mem _)
  clear hσ
  simp only [Option.toList_none, List.nil_append, Nat.reduceAdd]
  refine jrun_ok jC X k_LW_7 7 _ _ _ o_LW_7 ?_
  simp only [k_LW_7, jrun, jstep, jldi, jldl, jlda, j1, j2, jl1, jl2, jli, ja1, jbr, jald, jast, jlald, jlast, jalen, jget, jput, jfit, jdup, jdupx, jdupx2, jdup2, jcat, jset1, jset2, jkill, List.getElem?_cons_zero, List.getElem?_cons_succ, List.set_cons_zero, List.set_cons_succ, List.length_cons, List.length_nil, Nat.reduceAdd, Nat.reduceLT, Int32.reduceToNatClampNeg, true_and, and_true, and_self, reduceCtorEq, not_false_eq_true, false_and, and_false, or_false, false_or, true_or, or_true]
  refine jk_nw jC X hR d_LW_8 (ci := 11) rfl (w1 := 1901) (jtF_ok rfl) (w2 := 1902) (jtF_ok rfl) (w3 := 314) (jtF_ok rfl) (by decide +kernel) (fs := [.inl 0, .inl 0, .inr (.inr none), .inl 0, .inr (.inr none), .inr (.inr none), .inr (.inr none), .inr (.inr none), .inl 0, .inl 0, .inl 0, .inl 0, .inl 0, .inl 0, .inr (.inr none), .inr (.inr none), .inl 0, .inr (.inr none), .inr (.inr none)]) rfl (n' := 88) rfl (c' := 88) rfl (s' := 447734) rfl ⟨Nat.le_of_ble_eq_true rfl, Nat.le_of_ble_eq_true rfl⟩ (pc' := 11) rfl ?_
  refine jrun_ok jC X k_LW_11 11 _ _ _ o_LW_11 ?_
  simp only [k_LW_11, jrun, jstep, jldi, jldl, jlda, j1, j2, jl1, jl2, jli, ja1, jbr, jald, jast, jlald, jlast, jalen, jget, jput, jfit, jdup, jdupx, jdupx2, jdup2, jcat, jset1, jset2, jkill, List.getElem?_cons_zero, List.getElem?_cons_succ, List.set_cons_zero, List.set_cons_succ, List.length_cons, List.length_nil, Nat.reduceAdd, Nat.reduceLT, Int32.reduceToNatClampNeg, true_and, and_true, and_self, reduceCtorEq, not_false_eq_true, false_and, and_false, or_false, false_or, true_or, or_true]
  refine jk_Ig X hR d_LW_12 q_LW_12 m_MM_init i_MM_init rfl rfl (cz_MM_init M.2.1 E _ _ 87 (by decide) jup_s (fun p hp => by
    by_cases e : p = 87
    · rw [e, jup_s]
      trivial
    · rw [jup_n e]
      exact hpl2 p (by omega))) rfl rfl ⟨Nat.le_of_ble_eq_true rfl, Nat.le_of_ble_eq_true rfl⟩ (c' := 141) rfl (s' := 1030439) rfl ⟨Nat.le_of_ble_eq_true rfl, Nat.le_of_ble_eq_true rfl⟩ (Nat.le_of_ble_eq_true rfl) (pc' := 15) rfl ?_
  rintro _ σ4 _ ⟨F, A, rfl, rfl, hσ, hT⟩
  have lo : ∀ p, p < 87 → σ4 p = σ2 p := fun p hp => by rw [hσ, jmk_lo (by omega) (by omega), jup_n (by omega)]
  have m0 : σ4 87 = rob 88 := by rw [hσ]; exact jmk_a
  have m1 : ∀ j, j < 53 → σ4 (88 + j) = (rcl 88 F A).getD j (.inr (0, [])) := fun j hj => by
    rw [hσ]
    unfold jmk
    rw [if_neg (by omega), if_neg (by omega), show 88 + j - 88 = j by omega]
    rw [List.getD, List.getD, List.getElem?_eq_getElem (show j < (rcl 88 F A).length by show j < 53; omega)]
    exact congrArg (fun o => Option.getD o _) (List.getElem?_eq_getElem (show j < (rcl 88 F A).length by show j < 53; omega))
  clear hσ
  simp only [Option.toList_none, List.nil_append, Nat.reduceAdd]
  refine jrun_ok jC X k_LW_15 15 _ _ _ o_LW_15 ?_
  simp only [k_LW_15, jrun, jstep, jldi, jldl, jlda, j1, j2, jl1, jl2, jli, ja1, jbr, jald, jast, jlald, jlast, jalen, jget, jput, jfit, jdup, jdupx, jdupx2, jdup2, jcat, jset1, jset2, jkill, List.getElem?_cons_zero, List.getElem?_cons_succ, List.set_cons_zero, List.set_cons_succ, List.length_cons, List.length_nil, Nat.reduceAdd, Nat.reduceLT, Int32.reduceToNatClampNeg, true_and, and_true, and_self, reduceCtorEq, not_false_eq_true, false_and, and_false, or_false, false_or, true_or, or_true]
  refine jk_na X hR d_LW_17 (ty := .long) rfl (w1 := 524) (jtF_ok rfl) (by decide) (by decide) 1 rfl (by decide) (z := (1, .inr (.inl fun _ => 0))) rfl (n' := 142) rfl (c' := 142) rfl (s' := 1030440) rfl ⟨Nat.le_of_ble_eq_true rfl, Nat.le_of_ble_eq_true rfl⟩ (pc' := 19) rfl ?_
  refine jrun_ok jC X k_LW_19 19 _ _ _ o_LW_19 ?_
  simp only [k_LW_19, jrun, jstep, jldi, jldl, jlda, j1, j2, jl1, jl2, jli, ja1, jbr, jald, jast, jlald, jlast, jalen, jget, jput, jfit, jdup, jdupx, jdupx2, jdup2, jcat, jset1, jset2, jkill, List.getElem?_cons_zero, List.getElem?_cons_succ, List.set_cons_zero, List.set_cons_succ, List.length_cons, List.length_nil, Nat.reduceAdd, Nat.reduceLT, Int32.reduceToNatClampNeg, true_and, and_true, and_self, reduceCtorEq, not_false_eq_true, false_and, and_false, or_false, false_or, true_or, or_true]
  exact kk _ (lw_start ((jup_n (by decide)).trans ((lo 0 (by decide)).trans e0)) (fun j hj => (jup_n (by omega)).trans ((lo (1 + j) (by omega)).trans (e1 j hj))) ((jup_n (by decide)).trans m0) (fun j hj => (jup_n (by omega)).trans (m1 j hj)) jup_s hT1 hT2 hT)
/-- the loop ends -/
theorem lw_cmp {L m : Nat} (hL : L ≤ 3072) (hm : m ≤ 6144) : (Int32.ofNat L - 6 < nI m) ↔ L < m + 6 := by
  have e1 : (Int32.ofNat L).toInt = L := nI_toInt (n := L) (by omega)
  have e2 : (nI m).toInt = m := nI_toInt (by omega)
  have e3 : (Int32.ofNat L - 6).toInt = (L : Int) - 6 := by
    rw [Int32.toInt_sub, e1, show (6 : Int32).toInt = 6 from rfl]
    exact Int.bmod_eq_of_le (by omega) (by omega)
  rw [Int32.lt_iff_toInt_lt, e2, e3]
  omega

set_option maxRecDepth 100000 in
set_option maxHeartbeats 8000000 in
theorem lw_feed (hlt : M.2.1.stackTraces = false) (X : jX E "ChessHouseLaw" lw_tbl jcl jtb 7 false code M) {L : Nat} {xs : Nat → Int32} (hX : va_X (E.2.2.1 99) L xs M.2.2.2.2.1 M.2.2.2.2.1.heap) (hbl : E.2.2.1 99 < E.2.2.2) (hR : M.2.2.2.1 = room_1) (hTh : jTh E M.2.2.2.2.1) (hL : L ≤ 3072) {k : Nat} (hk : 6 * k + 6 ≤ L) (kk : ∀ (K : Nat → Nat) (n : Nat) (σ : Nat → jcell) (o5 o6 : Option jv), LI K n σ → jJ E jcl 7 M Q n (lC (k + 1) K n) (lS (k + 1) K n) 221 [some (.inr (.inr (some (.inr 99)))), some (.inr (.inr (some (.inl (0))))), some (.inr (.inr (some (.inl (87))))), some (.inr (.inr (some (.inl (141))))), some (.inl (nI (6 * k))), o5, o6] [] σ) {K : Nat → Nat} {n : Nat} {σ : Nat → jcell} {fd tp : Int32} (h : LJ K n σ fd tp) (hft : fd.toInt = tp.toInt) (o5 o6 : Option jv) : jJ E jcl 7 M Q n (lC k K n) (lS k K n) 68 [some (.inr (.inr (some (.inr 99)))), some (.inr (.inr (some (.inl (0))))), some (.inr (.inr (some (.inl (87))))), some (.inr (.inr (some (.inl (141))))), some (.inl (nI (6 * k))), o5, o6] [] σ := by
  have hb := lC_le h (k := k) (by omega)
  have e1 : nI (6 * k) + 1 = nI (6 * k + 1) := by rw [show (1 : Int32) = nI 1 from rfl, nI_add]
  have e2 : nI (6 * k) + 2 = nI (6 * k + 2) := by rw [show (2 : Int32) = nI 2 from rfl, nI_add]
  have e3 : nI (6 * k) + 3 = nI (6 * k + 3) := by rw [show (3 : Int32) = nI 3 from rfl, nI_add]
  have e4 : nI (6 * k) + 4 = nI (6 * k + 4) := by rw [show (4 : Int32) = nI 4 from rfl, nI_add]
  have e5 : nI (6 * k) + 5 = nI (6 * k + 5) := by rw [show (5 : Int32) = nI 5 from rfl, nI_add]
  refine jrun_ok jC X k_LW_68 68 _ _ _ o_LW_68 ?_
  simp only [k_LW_68, jrun, jstep, jldi, jldl, jlda, j1, j2, jl1, jl2, jli, ja1, jbr, jald, jast, jlald, jlast, jalen, jget, jput, jfit, jdup, jdupx, jdupx2, jdup2, jcat, jset1, jset2, jkill, List.getElem?_cons_zero, List.getElem?_cons_succ, List.set_cons_zero, List.set_cons_succ, List.length_cons, List.length_nil, Nat.reduceAdd, Nat.reduceLT, Int32.reduceToNatClampNeg, true_and, and_true, and_self, reduceCtorEq, not_false_eq_true, false_and, and_false, or_false, false_or, true_or, or_true, e1]
  refine jk_sld X d_LW_74 hX hbl (i := nI (6 * k + 1)) (vp_in_nI (by omega) (by omega)) ?_
  refine jrun_ok jC X k_LW_75 75 _ _ _ o_LW_75 ?_
  simp only [k_LW_75, jrun, jstep, jldi, jldl, jlda, j1, j2, jl1, jl2, jli, ja1, jbr, jald, jast, jlald, jlast, jalen, jget, jput, jfit, jdup, jdupx, jdupx2, jdup2, jcat, jset1, jset2, jkill, List.getElem?_cons_zero, List.getElem?_cons_succ, List.set_cons_zero, List.set_cons_succ, List.length_cons, List.length_nil, Nat.reduceAdd, Nat.reduceLT, Int32.reduceToNatClampNeg, true_and, and_true, and_self, reduceCtorEq, not_false_eq_true, false_and, and_false, or_false, false_or, true_or, or_true, e2]
  refine jk_sld X d_LW_80 hX hbl (i := nI (6 * k + 2)) (vp_in_nI (by omega) (by omega)) ?_
  refine jrun_ok jC X k_LW_81 81 _ _ _ o_LW_81 ?_
  simp only [k_LW_81, jrun, jstep, jldi, jldl, jlda, j1, j2, jl1, jl2, jli, ja1, jbr, jald, jast, jlald, jlast, jalen, jget, jput, jfit, jdup, jdupx, jdupx2, jdup2, jcat, jset1, jset2, jkill, List.getElem?_cons_zero, List.getElem?_cons_succ, List.set_cons_zero, List.set_cons_succ, List.length_cons, List.length_nil, Nat.reduceAdd, Nat.reduceLT, Int32.reduceToNatClampNeg, true_and, and_true, and_self, reduceCtorEq, not_false_eq_true, false_and, and_false, or_false, false_or, true_or, or_true, e3]
  refine jk_sld X d_LW_86 hX hbl (i := nI (6 * k + 3)) (vp_in_nI (by omega) (by omega)) ?_
  refine jrun_ok jC X k_LW_87 87 _ _ _ o_LW_87 ?_
  simp only [k_LW_87, jrun, jstep, jldi, jldl, jlda, j1, j2, jl1, jl2, jli, ja1, jbr, jald, jast, jlald, jlast, jalen, jget, jput, jfit, jdup, jdupx, jdupx2, jdup2, jcat, jset1, jset2, jkill, List.getElem?_cons_zero, List.getElem?_cons_succ, List.set_cons_zero, List.set_cons_succ, List.length_cons, List.length_nil, Nat.reduceAdd, Nat.reduceLT, Int32.reduceToNatClampNeg, true_and, and_true, and_self, reduceCtorEq, not_false_eq_true, false_and, and_false, or_false, false_or, true_or, or_true, e4]
  refine jk_sld X d_LW_92 hX hbl (i := nI (6 * k + 4)) (vp_in_nI (by omega) (by omega)) ?_
  refine jrun_ok jC X k_LW_93 93 _ _ _ o_LW_93 ?_
  simp only [k_LW_93, jrun, jstep, jldi, jldl, jlda, j1, j2, jl1, jl2, jli, ja1, jbr, jald, jast, jlald, jlast, jalen, jget, jput, jfit, jdup, jdupx, jdupx2, jdup2, jcat, jset1, jset2, jkill, List.getElem?_cons_zero, List.getElem?_cons_succ, List.set_cons_zero, List.set_cons_succ, List.length_cons, List.length_nil, Nat.reduceAdd, Nat.reduceLT, Int32.reduceToNatClampNeg, true_and, and_true, and_self, reduceCtorEq, not_false_eq_true, false_and, and_false, or_false, false_or, true_or, or_true, e5]
  refine jk_sld X d_LW_98 hX hbl (i := nI (6 * k + 5)) (vp_in_nI (by omega) (by omega)) ?_
  have cont : ∀ (K1 : Nat → Nat) (n1 : Nat) (σ1 : Nat → jcell) (fd1 kv : Int32) (c1 s1 : Nat), LJ K1 n1 σ1 fd1 tp → tC K1 n1 = tC K n → rN1 K1 n1 = rN1 K n → c1 ≤ lC k K n + 1 → s1 ≤ lS k K n + 6 → ((kv.toInt = 1 ∧ fd1.toInt = fd.toInt ∧ 65517 ≤ fd.toInt) ∨ (kv.toInt = 0 ∧ fd1.toInt = fd.toInt + 20 ∧ fd.toInt ≤ 65516)) → jJ E jcl 7 M Q n1 c1 s1 102 [some (.inr (.inr (some (.inr 99)))), some (.inr (.inr (some (.inl (0))))), some (.inr (.inr (some (.inl (87))))), some (.inr (.inr (some (.inl (141))))), some (.inl (nI (6 * k))), o5, o6] ((some (.inl kv)).toList ++ []) σ1 := by
    intro K1 n1 σ1 fd1 kv c1 s1 h1 ht hr hc hs hkv
    have hc9 : c1 ≤ room_1.cells := Nat.le_trans hc (Nat.le_trans (Nat.add_le_add_right hb.1 1) (Nat.le_of_ble_eq_true rfl))
    have hs9 : s1 ≤ room_1.slots := Nat.le_trans hs (Nat.le_trans (Nat.add_le_add_right hb.2 6) (Nat.le_of_ble_eq_true rfl))
    simp only [Option.toList_some, List.cons_append, List.nil_append]
    refine jrun_ok jC X k_LW_102 102 _ _ _ o_LW_102 ?_
    simp only [k_LW_102, jrun, jstep, jldi, jldl, jlda, j1, j2, jl1, jl2, jli, ja1, jbr, jald, jast, jlald, jlast, jalen, jget, jput, jfit, jdup, jdupx, jdupx2, jdup2, jcat, jset1, jset2, jkill, List.getElem?_cons_zero, List.getElem?_cons_succ, List.set_cons_zero, List.set_cons_succ, List.length_cons, List.length_nil, Nat.reduceAdd, Nat.reduceLT, Int32.reduceToNatClampNeg, true_and, and_true, and_self, reduceCtorEq, not_false_eq_true, false_and, and_false, or_false, false_or, true_or, or_true, e1]
    refine jk_sld X d_LW_110 hX hbl (i := nI (6 * k + 1)) (vp_in_nI (by omega) (by omega)) ?_
    refine jrun_ok jC X k_LW_111 111 _ _ _ o_LW_111 ?_
    simp only [k_LW_111, jrun, jstep, jldi, jldl, jlda, j1, j2, jl1, jl2, jli, ja1, jbr, jald, jast, jlald, jlast, jalen, jget, jput, jfit, jdup, jdupx, jdupx2, jdup2, jcat, jset1, jset2, jkill, List.getElem?_cons_zero, List.getElem?_cons_succ, List.set_cons_zero, List.set_cons_succ, List.length_cons, List.length_nil, Nat.reduceAdd, Nat.reduceLT, Int32.reduceToNatClampNeg, true_and, and_true, and_self, reduceCtorEq, not_false_eq_true, false_and, and_false, or_false, false_or, true_or, or_true, e2]
    refine jk_sld X d_LW_116 hX hbl (i := nI (6 * k + 2)) (vp_in_nI (by omega) (by omega)) ?_
    refine jrun_ok jC X k_LW_117 117 _ _ _ o_LW_117 ?_
    simp only [k_LW_117, jrun, jstep, jldi, jldl, jlda, j1, j2, jl1, jl2, jli, ja1, jbr, jald, jast, jlald, jlast, jalen, jget, jput, jfit, jdup, jdupx, jdupx2, jdup2, jcat, jset1, jset2, jkill, List.getElem?_cons_zero, List.getElem?_cons_succ, List.set_cons_zero, List.set_cons_succ, List.length_cons, List.length_nil, Nat.reduceAdd, Nat.reduceLT, Int32.reduceToNatClampNeg, true_and, and_true, and_self, reduceCtorEq, not_false_eq_true, false_and, and_false, or_false, false_or, true_or, or_true, e3]
    refine jk_sld X d_LW_122 hX hbl (i := nI (6 * k + 3)) (vp_in_nI (by omega) (by omega)) ?_
    refine jrun_ok jC X k_LW_123 123 _ _ _ o_LW_123 ?_
    simp only [k_LW_123, jrun, jstep, jldi, jldl, jlda, j1, j2, jl1, jl2, jli, ja1, jbr, jald, jast, jlald, jlast, jalen, jget, jput, jfit, jdup, jdupx, jdupx2, jdup2, jcat, jset1, jset2, jkill, List.getElem?_cons_zero, List.getElem?_cons_succ, List.set_cons_zero, List.set_cons_succ, List.length_cons, List.length_nil, Nat.reduceAdd, Nat.reduceLT, Int32.reduceToNatClampNeg, true_and, and_true, and_self, reduceCtorEq, not_false_eq_true, false_and, and_false, or_false, false_or, true_or, or_true, e4]
    refine jk_sld X d_LW_128 hX hbl (i := nI (6 * k + 4)) (vp_in_nI (by omega) (by omega)) ?_
    refine jrun_ok jC X k_LW_129 129 _ _ _ o_LW_129 ?_
    simp only [k_LW_129, jrun, jstep, jldi, jldl, jlda, j1, j2, jl1, jl2, jli, ja1, jbr, jald, jast, jlald, jlast, jalen, jget, jput, jfit, jdup, jdupx, jdupx2, jdup2, jcat, jset1, jset2, jkill, List.getElem?_cons_zero, List.getElem?_cons_succ, List.set_cons_zero, List.set_cons_succ, List.length_cons, List.length_nil, Nat.reduceAdd, Nat.reduceLT, Int32.reduceToNatClampNeg, true_and, and_true, and_self, reduceCtorEq, not_false_eq_true, false_and, and_false, or_false, false_or, true_or, or_true, e5]
    refine jk_sld X d_LW_134 hX hbl (i := nI (6 * k + 5)) (vp_in_nI (by omega) (by omega)) ?_
    have h1' := h1
    obtain ⟨-, -, r1, -, -, -, -, fr, m1, -⟩ := h1'
    refine jk_Vg X hR d_LW_135 q_LW_135 m_MM_feed i_MM_feed e_MM_feed (ci := 11) rfl rfl r1.1 m1 (lr_feed (l := M.2.1) (E := E) h1) rfl rfl ⟨Nat.le_of_ble_eq_true rfl, Nat.le_of_ble_eq_true rfl⟩ (c' := c1) rfl (s' := s1) rfl ⟨hc9, hs9⟩ (Nat.le_of_ble_eq_true rfl) (pc' := 138) rfl ?_
    rintro _ σ2 _ ⟨rfl, hn2, tp', th, fr2, h2, m2, m3, hth⟩
    obtain rfl : n1 = _ := hn2.symm
    simp only [Option.toList_none, List.nil_append]
    refine jrun_ok jC X k_LW_138 138 _ _ _ o_LW_138 ?_
    simp only [k_LW_138, jrun, jstep, jldi, jldl, jlda, j1, j2, jl1, jl2, jli, ja1, jbr, jald, jast, jlald, jlast, jalen, jget, jput, jfit, jdup, jdupx, jdupx2, jdup2, jcat, jset1, jset2, jkill, List.getElem?_cons_zero, List.getElem?_cons_succ, List.set_cons_zero, List.set_cons_succ, List.length_cons, List.length_nil, Nat.reduceAdd, Nat.reduceLT, Int32.reduceToNatClampNeg, true_and, and_true, and_self, reduceCtorEq, not_false_eq_true, false_and, and_false, or_false, false_or, true_or, or_true]
    refine jk_Vg X hR d_LW_139 q_LW_139 m_MM_thrown i_MM_thrown e_MM_thrown (ci := 11) rfl rfl r1.1 m2 (cx_thrown M.2.1 E r1.1 m2 m3) rfl rfl ⟨Nat.le_of_ble_eq_true rfl, Nat.le_of_ble_eq_true rfl⟩ (c' := c1) rfl (s' := s1) rfl ⟨hc9, hs9⟩ (Nat.le_of_ble_eq_true rfl) (pc' := 142) rfl ?_
    rintro _ σ3 _ ⟨rfl, hn3, rfl⟩
    obtain rfl : n1 = _ := hn3.symm
    have hkt : th = kv := Int32.toInt_inj.mp (by omega)
    have hkt2 : (th = kv) = True := eq_true hkt
    simp only [Option.toList_some, List.cons_append, List.nil_append]
    refine jrun_ok jC X k_LW_142 142 _ _ _ o_LW_142 ?_
    simp only [k_LW_142, jrun, jstep, jldi, jldl, jlda, j1, j2, jl1, jl2, jli, ja1, jbr, jald, jast, jlald, jlast, jalen, jget, jput, jfit, jdup, jdupx, jdupx2, jdup2, jcat, jset1, jset2, jkill, List.getElem?_cons_zero, List.getElem?_cons_succ, List.set_cons_zero, List.set_cons_succ, List.length_cons, List.length_nil, Nat.reduceAdd, Nat.reduceLT, Int32.reduceToNatClampNeg, true_and, and_true, and_self, reduceCtorEq, not_false_eq_true, false_and, and_false, or_false, false_or, true_or, or_true, hkt2, false_implies, true_implies, not_true_eq_false]
    refine jrun_ok jC X k_LW_149 149 _ _ _ o_LW_149 ?_
    simp only [k_LW_149, jrun, jstep, jldi, jldl, jlda, j1, j2, jl1, jl2, jli, ja1, jbr, jald, jast, jlald, jlast, jalen, jget, jput, jfit, jdup, jdupx, jdupx2, jdup2, jcat, jset1, jset2, jkill, List.getElem?_cons_zero, List.getElem?_cons_succ, List.set_cons_zero, List.set_cons_succ, List.length_cons, List.length_nil, Nat.reduceAdd, Nat.reduceLT, Int32.reduceToNatClampNeg, true_and, and_true, and_self, reduceCtorEq, not_false_eq_true, false_and, and_false, or_false, false_or, true_or, or_true]
    exact jJ_widen (by unfold lC at *; omega) (by unfold lS at *; omega) (kk K1 n1 σ3 _ _ ⟨fd1, tp', h2, by omega⟩)
  have hh := h
  obtain ⟨j1, j2, j3, j4, j5, j6, ⟨fs, j7, j8⟩, j9⟩ := hh
  obtain ⟨w9, fd9, nx, fa, -, -, -, c12, -, -, tf, -⟩ := ch_f j1.1 j1.2.2.2.2.2.2.1 j1.2.2.2.2.2.2.2.1 j7
  rw [j8] at c12
  cases c12
  have e20 : (fd + 20).toInt = fd.toInt + 20 := by
    rw [Int32.toInt_add, show (20 : Int32).toInt = 20 from rfl]
    have t1 := tf.1
    have t2 := tf.2
    dsimp only at t1 t2
    exact Int.bmod_eq_of_le (by omega) (by omega)
  by_cases hq : fd.toInt ≤ 65516
  · refine jk_SWg X hR hTh d_LW_99 (jTA_in (wi := 863) (jtF_ok rfl) rfl) w_LA_feed n_LA_feed ⟨by decide, by decide⟩ (k := 6) (by decide +kernel) s_LA_feed (cw_feed M.2.1 E j1 j7 j8 hq) rfl rfl ⟨Nat.le_of_ble_eq_true rfl, Nat.le_of_ble_eq_true rfl⟩ (c' := lC k K n) rfl (s' := lS k K n) rfl ⟨Nat.le_trans hb.1 (Nat.le_of_ble_eq_true rfl), Nat.le_trans hb.2 (Nat.le_of_ble_eq_true rfl)⟩ (Nat.le_of_ble_eq_true rfl) (pc' := 102) rfl ?_
    rintro _ σ1 _ ⟨rfl, hn2, i1, f1, fs1, fd1, d1, d2, d3⟩
    obtain rfl : n = _ := hn2.symm
    refine cont K n σ1 fd1 0 _ _ (LJ_cl h wR_rf i1 (fun a ha _ h1 _ => f1 a ha h1) ?_ d1 d2) rfl rfl (Nat.le_add_right _ _) (Nat.le_add_right _ _) (Or.inr ⟨rfl, d3, hq⟩)
    obtain ⟨G, hG⟩ := j6
    exact ⟨G, (f1 141 j4 (by rw [j5]; unfold fo1; omega)).trans hG⟩
  · refine jk_SWg X hR hTh d_LW_99 (jTA_in (wi := 863) (jtF_ok rfl) rfl) w_LA_feed n_LA_feed ⟨by decide, by decide⟩ (k := 6) (by decide +kernel) s_LA_feed (cw_feedT M.2.1 E (K := K) (en := 0) hlt j1.2.2.2.2.2.2.1 j7 j8 (fun h9 => by
      have := Int32.le_iff_toInt_le.mp h9
      rw [e20, show (65536 : Int32).toInt = 65536 from rfl] at this
      omega)) rfl rfl ⟨Nat.le_of_ble_eq_true rfl, Nat.le_of_ble_eq_true rfl⟩ (c' := lC k K n + 1) rfl (s' := lS k K n + 6) rfl ⟨Nat.le_trans (Nat.add_le_add_right hb.1 1) (Nat.le_of_ble_eq_true rfl), Nat.le_trans (Nat.add_le_add_right hb.2 6) (Nat.le_of_ble_eq_true rfl)⟩ (Nat.le_of_ble_eq_true rfl) (pc' := 102) rfl ?_
    rintro _ σ1 _ ⟨rfl, hn2, rfl⟩
    subst hn2
    exact cont (gK K n 999) (n + 1) (jup σ n jun) fd 1 _ _ (LJ_jun h) jun_tC jun_rN (Nat.le_refl _) (Nat.le_refl _) (Or.inl ⟨rfl, rfl, by omega⟩)
set_option maxRecDepth 100000 in
set_option maxHeartbeats 8000000 in
theorem lw_end1 (hlt : M.2.1.stackTraces = false) (X : jX E "ChessHouseLaw" lw_tbl jcl jtb 7 false code M) {L : Nat} {xs : Nat → Int32} (hX : va_X (E.2.2.1 99) L xs M.2.2.2.2.1 M.2.2.2.2.1.heap) (hbl : E.2.2.1 99 < E.2.2.2) (hR : M.2.2.2.1 = room_1) (hTh : jTh E M.2.2.2.2.1) (hL : L ≤ 3072) {k : Nat} (hk : 6 * k + 6 ≤ L) (kk : ∀ (K : Nat → Nat) (n : Nat) (σ : Nat → jcell) (o5 o6 : Option jv), LI K n σ → jJ E jcl 7 M Q n (lC (k + 1) K n) (lS (k + 1) K n) 221 [some (.inr (.inr (some (.inr 99)))), some (.inr (.inr (some (.inl (0))))), some (.inr (.inr (some (.inl (87))))), some (.inr (.inr (some (.inl (141))))), some (.inl (nI (6 * k))), o5, o6] [] σ) {K : Nat → Nat} {n : Nat} {σ : Nat → jcell} {fd tp : Int32} (h : LJ K n σ fd tp) (hft : fd.toInt = tp.toInt) (o5 o6 : Option jv) : jJ E jcl 7 M Q n (lC k K n) (lS k K n) 152 [some (.inr (.inr (some (.inr 99)))), some (.inr (.inr (some (.inl (0))))), some (.inr (.inr (some (.inl (87))))), some (.inr (.inr (some (.inl (141))))), some (.inl (nI (6 * k))), o5, o6] [] σ := by
  have hb := lC_le h (k := k) (by omega)
  have e1 : nI (6 * k) + 1 = nI (6 * k + 1) := by rw [show (1 : Int32) = nI 1 from rfl, nI_add]
  refine jrun_ok jC X k_LW_152 152 _ _ _ o_LW_152 ?_
  simp only [k_LW_152, jrun, jstep, jldi, jldl, jlda, j1, j2, jl1, jl2, jli, ja1, jbr, jald, jast, jlald, jlast, jalen, jget, jput, jfit, jdup, jdupx, jdupx2, jdup2, jcat, jset1, jset2, jkill, List.getElem?_cons_zero, List.getElem?_cons_succ, List.set_cons_zero, List.set_cons_succ, List.length_cons, List.length_nil, Nat.reduceAdd, Nat.reduceLT, Int32.reduceToNatClampNeg, true_and, and_true, and_self, reduceCtorEq, not_false_eq_true, false_and, and_false, or_false, false_or, true_or, or_true, e1]
  refine jk_sld X d_LW_158 hX hbl (i := nI (6 * k + 1)) (vp_in_nI (by omega) (by omega)) ?_
  refine jrun_ok jC X k_LW_159 159 _ _ _ o_LW_159 ?_
  simp only [k_LW_159, jrun, jstep, jldi, jldl, jlda, j1, j2, jl1, jl2, jli, ja1, jbr, jald, jast, jlald, jlast, jalen, jget, jput, jfit, jdup, jdupx, jdupx2, jdup2, jcat, jset1, jset2, jkill, List.getElem?_cons_zero, List.getElem?_cons_succ, List.set_cons_zero, List.set_cons_succ, List.length_cons, List.length_nil, Nat.reduceAdd, Nat.reduceLT, Int32.reduceToNatClampNeg, true_and, and_true, and_self, reduceCtorEq, not_false_eq_true, false_and, and_false, or_false, false_or, true_or, or_true]
  have cont : ∀ (K1 : Nat → Nat) (n1 : Nat) (σ1 : Nat → jcell) (fd1 kv : Int32) (c1 s1 : Nat), LJ K1 n1 σ1 fd1 tp → c1 + 1 + 5 * rN1 K1 n1 + 5 * tC K1 n1 ≤ lC (k + 1) K1 n1 + 5 * rN1 K1 n1 + 5 * tC K1 n1 → c1 + 1 ≤ lC (k + 1) K1 n1 → s1 + 6 ≤ lS (k + 1) K1 n1 → ((fd1.toInt = fd.toInt ∧ ((xs (nI (6 * k + 1)).toNatClampNeg).toInt < 0 ∨ fd.toInt < (xs (nI (6 * k + 1)).toNatClampNeg).toInt)) ∨ (fd1.toInt = 0 ∧ 0 ≤ (xs (nI (6 * k + 1)).toNatClampNeg).toInt ∧ (xs (nI (6 * k + 1)).toNatClampNeg).toInt ≤ fd.toInt)) → jJ E jcl 7 M Q n1 c1 s1 163 [some (.inr (.inr (some (.inr 99)))), some (.inr (.inr (some (.inl (0))))), some (.inr (.inr (some (.inl (87))))), some (.inr (.inr (some (.inl (141))))), some (.inl (nI (6 * k))), o5, o6] ((some (.inl kv)).toList ++ []) σ1 := by
    intro K1 n1 σ1 fd1 kv c1 s1 h1 _ hc hs hkv
    have hb1 := lC_le h1 (k := k + 1) (by omega)
    simp only [Option.toList_some, List.cons_append, List.nil_append]
    refine jrun_ok jC X k_LW_163 163 _ _ _ o_LW_163 ?_
    simp only [k_LW_163, jrun, jstep, jldi, jldl, jlda, j1, j2, jl1, jl2, jli, ja1, jbr, jald, jast, jlald, jlast, jalen, jget, jput, jfit, jdup, jdupx, jdupx2, jdup2, jcat, jset1, jset2, jkill, List.getElem?_cons_zero, List.getElem?_cons_succ, List.set_cons_zero, List.set_cons_succ, List.length_cons, List.length_nil, Nat.reduceAdd, Nat.reduceLT, Int32.reduceToNatClampNeg, true_and, and_true, and_self, reduceCtorEq, not_false_eq_true, false_and, and_false, or_false, false_or, true_or, or_true, e1]
    refine jk_sld X d_LW_171 hX hbl (i := nI (6 * k + 1)) (vp_in_nI (by omega) (by omega)) ?_
    have h1' := h1
    obtain ⟨-, -, r1, -, -, -, -, fr, m1, -⟩ := h1'
    have rn1 : rN1 K1 n1 ≤ 1 := by unfold rN1; omega
    refine jk_callVD X hR d_LW_172 q_LW_172 m_MM_end i_MM_end e_MM_end (ci := 11) rfl rfl r1.1 m1 (lr_end (l := M.2.1) (E := E) h1) (vals := [.inl (xs (nI (6 * k + 1)).toNatClampNeg)]) (r := []) rfl rfl ⟨Nat.le_of_ble_eq_true rfl, Nat.le_of_ble_eq_true rfl⟩ ⟨?_, ?_⟩ (Nat.le_of_ble_eq_true rfl) ?_
    · show c1 + 5 * (1 - rN1 K1 n1) ≤ 601024
      omega
    · show s1 + 327770 * (1 - rN1 K1 n1) ≤ 7293034
      omega
    · rintro _ σ2 n2 ⟨⟨v, rfl⟩, K2, tp2, h2, t2, g1, g2, g3⟩
      refine ⟨fun en => ?_, fun en => ?_⟩
      · have := g1 en
        simp only [Option.toList_some, List.cons_append, List.nil_append, Nat.reduceAdd]
        refine jrun_ok jC X k_LW_175 175 _ _ _ o_LW_175 ?_
        simp only [k_LW_175, jrun, jstep, jldi, jldl, jlda, j1, j2, jl1, jl2, jli, ja1, jbr, jald, jast, jlald, jlast, jalen, jget, jput, jfit, jdup, jdupx, jdupx2, jdup2, jcat, jset1, jset2, jkill, List.getElem?_cons_zero, List.getElem?_cons_succ, List.set_cons_zero, List.set_cons_succ, List.length_cons, List.length_nil, Nat.reduceAdd, Nat.reduceLT, Int32.reduceToNatClampNeg, true_and, and_true, and_self, reduceCtorEq, not_false_eq_true, false_and, and_false, or_false, false_or, true_or, or_true]
        exact jJ_widen (by unfold lC at *; omega) (by unfold lS at *; omega) (kk K2 n2 σ2 _ _ ⟨fd1, tp2, h2, by omega⟩)
      · have := g2 en
        simp only [Option.toList_some, List.cons_append, List.nil_append, Nat.reduceAdd]
        refine jrun_ok jC X k_LW_175 175 _ _ _ o_LW_175 ?_
        simp only [k_LW_175, jrun, jstep, jldi, jldl, jlda, j1, j2, jl1, jl2, jli, ja1, jbr, jald, jast, jlald, jlast, jalen, jget, jput, jfit, jdup, jdupx, jdupx2, jdup2, jcat, jset1, jset2, jkill, List.getElem?_cons_zero, List.getElem?_cons_succ, List.set_cons_zero, List.set_cons_succ, List.length_cons, List.length_nil, Nat.reduceAdd, Nat.reduceLT, Int32.reduceToNatClampNeg, true_and, and_true, and_self, reduceCtorEq, not_false_eq_true, false_and, and_false, or_false, false_or, true_or, or_true]
        refine jJ_widen ?_ ?_ (kk K2 n2 σ2 _ _ ⟨fd1, tp2, h2, by omega⟩)
        · show c1 + 5 * (1 - rN1 K1 n1) ≤ _
          unfold lC at *
          omega
        · show s1 + 327770 * (1 - rN1 K1 n1) ≤ _
          unfold lS at *
          omega
  have hh := h
  obtain ⟨j1, j2, j3, j4, j5, ⟨G, j6⟩, ⟨fs, j7, j8⟩, j9⟩ := hh
  have n0 : 0 < n := j1.2.2.2.2.2.2.1
  have rm := cJ_rm j1.2.2.2.2.1
  by_cases hq : 0 ≤ (xs (nI (6 * k + 1)).toNatClampNeg).toInt ∧ (xs (nI (6 * k + 1)).toNatClampNeg).toInt ≤ fd.toInt
  · refine jk_SWD X hR hTh d_LW_160 (jTA_in (wi := 938) (jtF_ok rfl) rfl) w_LA_end n_LA_end ⟨by decide, by decide⟩ (k := 3) (by decide +kernel) s_LA_end (vals := [.inr (.inr (some (.inl (0)))), .inl (xs (nI (6 * k + 1)).toNatClampNeg), .inr (.inr (some (.inl (141))))]) (r := []) (cw_end M.2.1 E (G := G) j1 j2 j7 j8 hq.1 hq.2 j4 j5 j6) rfl rfl ⟨Nat.le_of_ble_eq_true rfl, Nat.le_of_ble_eq_true rfl⟩ ⟨?_, ?_⟩ (Nat.le_of_ble_eq_true rfl) ?_
    · show lC k K n + (5 - tC K n) ≤ 601024
      omega
    · show lS k K n + (638976 - tS K n) ≤ 7293034
      omega
    · rintro _ σ1 n1 ⟨rfl, K1, w1, i1, f1, g1, fs1, fd1, d1, d2, d3⟩
      have hJ := LJ_cl h w1 i1 f1 g1 d1 d2
      have tn := wR_tCn w1
      have rn := wR_rN w1
      have wl := w1.1
      refine ⟨fun en => ?_, fun en => ?_⟩
      · exact cont K1 n1 σ1 fd1 0 _ _ hJ (by unfold lC; omega) (by unfold lC; omega) (by unfold lS; omega) (Or.inr ⟨d3, hq.1, hq.2⟩)
      · refine cont K1 n1 σ1 fd1 0 _ _ hJ ?_ ?_ ?_ (Or.inr ⟨d3, hq.1, hq.2⟩)
        · show lC k K n + (5 - tC K n) + 1 + _ + _ ≤ _
          unfold lC
          omega
        · show lC k K n + (5 - tC K n) + 1 ≤ _
          unfold lC
          omega
        · show lS k K n + (638976 - tS K n) + 6 ≤ _
          unfold lS
          omega
  · refine jk_SWg X hR hTh d_LW_160 (jTA_in (wi := 938) (jtF_ok rfl) rfl) w_LA_end n_LA_end ⟨by decide, by decide⟩ (k := 3) (by decide +kernel) s_LA_end (cw_endT M.2.1 E (K := K) (en := 0) (o := 141) hlt n0 j7 j8 (by
      by_cases h0 : (xs (nI (6 * k + 1)).toNatClampNeg) < 0
      · exact Or.inl h0
      · refine Or.inr (fun h9 => hq ⟨?_, Int32.le_iff_toInt_le.mp h9⟩)
        have this : ¬ ((xs (nI (6 * k + 1)).toNatClampNeg)).toInt < (0 : Int32).toInt := fun h8 => h0 (Int32.lt_iff_toInt_lt.mpr h8)
        rw [show (0 : Int32).toInt = 0 from rfl] at this
        omega)) rfl rfl ⟨Nat.le_of_ble_eq_true rfl, Nat.le_of_ble_eq_true rfl⟩ (c' := lC k K n + 1) rfl (s' := lS k K n + 6) rfl ⟨Nat.le_trans (Nat.add_le_add_right hb.1 1) (Nat.le_of_ble_eq_true rfl), Nat.le_trans (Nat.add_le_add_right hb.2 6) (Nat.le_of_ble_eq_true rfl)⟩ (Nat.le_of_ble_eq_true rfl) (pc' := 163) rfl ?_
    rintro _ σ1 _ ⟨rfl, hn2, rfl⟩
    subst hn2
    have a1 := jun_tC (K := K) (n := n)
    have a2 := jun_rN (K := K) (n := n)
    exact cont (gK K n 999) (n + 1) (jup σ n jun) fd 1 _ _ (LJ_jun h) (by unfold lC; omega) (by unfold lC; omega) (by unfold lS; omega) (Or.inl ⟨rfl, by omega⟩)
set_option maxRecDepth 100000 in
set_option maxHeartbeats 8000000 in
theorem lw_size (hlt : M.2.1.stackTraces = false) (X : jX E "ChessHouseLaw" lw_tbl jcl jtb 7 false code M) {L : Nat} {xs : Nat → Int32} (hX : va_X (E.2.2.1 99) L xs M.2.2.2.2.1 M.2.2.2.2.1.heap) (hbl : E.2.2.1 99 < E.2.2.2) (hR : M.2.2.2.1 = room_1) (hTh : jTh E M.2.2.2.2.1) (hL : L ≤ 3072) {k : Nat} (hk : 6 * k + 6 ≤ L) (kk : ∀ (K : Nat → Nat) (n : Nat) (σ : Nat → jcell) (o5 o6 : Option jv), LI K n σ → jJ E jcl 7 M Q n (lC (k + 1) K n) (lS (k + 1) K n) 221 [some (.inr (.inr (some (.inr 99)))), some (.inr (.inr (some (.inl (0))))), some (.inr (.inr (some (.inl (87))))), some (.inr (.inr (some (.inl (141))))), some (.inl (nI (6 * k))), o5, o6] [] σ) {K : Nat → Nat} {n : Nat} {σ : Nat → jcell} {fd tp : Int32} (h : LJ K n σ fd tp) (hft : fd.toInt = tp.toInt) (o5 o6 : Option jv) : jJ E jcl 7 M Q n (lC k K n) (lS k K n) 180 [some (.inr (.inr (some (.inr 99)))), some (.inr (.inr (some (.inl (0))))), some (.inr (.inr (some (.inl (87))))), some (.inr (.inr (some (.inl (141))))), some (.inl (nI (6 * k))), o5, o6] [] σ := by
  have hb := lC_le h (k := k) (by omega)
  have hh := h
  obtain ⟨j1, j2, j3, j4, j5, ⟨G, j6⟩, ⟨fs, j7, j8⟩, fr, j9, ja⟩ := hh
  have n0 : 0 < n := j1.2.2.2.2.2.2.1
  have k0 : K 0 = 0 := j1.2.2.2.2.2.2.2.1
  have hM := zc_CHsize (l := M.2.1) (E := E) K n bP0 σ [.inr (.inr (some (.inl (0))))] j1.1 j1.2.2.1 ⟨rfl, fun i e v he hv => by
    match i, he, hv with
    | 0, he, hv => cases he; cases hv; exact ⟨⟨n0, Or.inl k0⟩, trivial⟩
    | i + 1, he, _ => cases he⟩ ⟨fun q hq => (by cases hq), fun q hq => (by cases hq), fun q hq => (by cases hq), fun q hq => (by cases hq)⟩
  have hcs : lC k K n ≤ room_1.cells ∧ lS k K n ≤ room_1.slots := ⟨Nat.le_trans hb.1 (Nat.le_of_ble_eq_true rfl), Nat.le_trans hb.2 (Nat.le_of_ble_eq_true rfl)⟩
  refine jrun_ok jC X k_LW_180 180 _ _ _ o_LW_180 ?_
  simp only [k_LW_180, jrun, jstep, jldi, jldl, jlda, j1, j2, jl1, jl2, jli, ja1, jbr, jald, jast, jlald, jlast, jalen, jget, jput, jfit, jdup, jdupx, jdupx2, jdup2, jcat, jset1, jset2, jkill, List.getElem?_cons_zero, List.getElem?_cons_succ, List.set_cons_zero, List.set_cons_succ, List.length_cons, List.length_nil, Nat.reduceAdd, Nat.reduceLT, Int32.reduceToNatClampNeg, true_and, and_true, and_self, reduceCtorEq, not_false_eq_true, false_and, and_false, or_false, false_or, true_or, or_true]
  refine jk_Vg X hR d_LW_181 q_LW_181 m_CH_size i_CH_size e_CH_size (ci := 0) rfl rfl n0 j7 hM rfl rfl ⟨Nat.le_of_ble_eq_true rfl, Nat.le_of_ble_eq_true rfl⟩ (c' := lC k K n) rfl (s' := lS k K n) rfl hcs (Nat.le_of_ble_eq_true rfl) (pc' := 184) rfl ?_
  rintro r σ1 _ ⟨hn2, p1, p2, p3, p4, p5, xs9, p6, -⟩
  obtain rfl : n = _ := hn2.symm
  have hsame : ∀ a, a < n → σ1 a = σ a := fun a ha => zPl_eq p3 p4 ha (j1.2.2.2.2.2.1 a ha) (fun q hq => by cases hq) (fun q hq => by cases hq)
  cases r with
  | none => cases p5
  | some v =>
    obtain ⟨x9, rfl, -⟩ := aG_int (p6.2 1 _ v rfl rfl).1
    refine jJ_congr (σ2 := σ) (fun a ha => hsame a ha) ?_
    simp only [Option.toList_some, List.cons_append, List.nil_append]
    refine jrun_ok jC X k_LW_184 184 _ _ _ o_LW_184 ?_
    simp only [k_LW_184, jrun, jstep, jldi, jldl, jlda, j1, j2, jl1, jl2, jli, ja1, jbr, jald, jast, jlald, jlast, jalen, jget, jput, jfit, jdup, jdupx, jdupx2, jdup2, jcat, jset1, jset2, jkill, List.getElem?_cons_zero, List.getElem?_cons_succ, List.set_cons_zero, List.set_cons_succ, List.length_cons, List.length_nil, Nat.reduceAdd, Nat.reduceLT, Int32.reduceToNatClampNeg, true_and, and_true, and_self, reduceCtorEq, not_false_eq_true, false_and, and_false, or_false, false_or, true_or, or_true]
    refine jk_Vg X hR d_LW_186 q_LW_186 m_MM_size i_MM_size e_MM_size (ci := 11) rfl rfl j3.1 j9 (lr_size (l := M.2.1) (E := E) h) rfl rfl ⟨Nat.le_of_ble_eq_true rfl, Nat.le_of_ble_eq_true rfl⟩ (c' := lC k K n) rfl (s' := lS k K n) rfl hcs (Nat.le_of_ble_eq_true rfl) (pc' := 189) rfl ?_
    rintro _ σ2 _ ⟨⟨v2, rfl⟩, hn3, h2⟩
    obtain rfl : n = _ := hn3.symm
    simp only [Option.toList_some, List.cons_append, List.nil_append]
    refine jrun_ok jC X k_LW_189 189 _ _ _ o_LW_189 ?_
    simp only [k_LW_189, jrun, jstep, jldi, jldl, jlda, j1, j2, jl1, jl2, jli, ja1, jbr, jald, jast, jlald, jlast, jalen, jget, jput, jfit, jdup, jdupx, jdupx2, jdup2, jcat, jset1, jset2, jkill, List.getElem?_cons_zero, List.getElem?_cons_succ, List.set_cons_zero, List.set_cons_succ, List.length_cons, List.length_nil, Nat.reduceAdd, Nat.reduceLT, Int32.reduceToNatClampNeg, true_and, and_true, and_self, reduceCtorEq, not_false_eq_true, false_and, and_false, or_false, false_or, true_or, or_true]
    exact jJ_widen (by unfold lC; omega) (by unfold lS; omega) (kk K n σ2 _ _ ⟨fd, tp, h2, hft⟩)
set_option maxRecDepth 100000 in
set_option maxHeartbeats 8000000 in
theorem lw_out (hlt : M.2.1.stackTraces = false) (X : jX E "ChessHouseLaw" lw_tbl jcl jtb 7 false code M) {L : Nat} {xs : Nat → Int32} (hX : va_X (E.2.2.1 99) L xs M.2.2.2.2.1 M.2.2.2.2.1.heap) (hbl : E.2.2.1 99 < E.2.2.2) (hR : M.2.2.2.1 = room_1) (hTh : jTh E M.2.2.2.2.1) (hL : L ≤ 3072) {k : Nat} (hk : 6 * k + 6 ≤ L) (kk : ∀ (K : Nat → Nat) (n : Nat) (σ : Nat → jcell) (o5 o6 : Option jv), LI K n σ → jJ E jcl 7 M Q n (lC (k + 1) K n) (lS (k + 1) K n) 221 [some (.inr (.inr (some (.inr 99)))), some (.inr (.inr (some (.inl (0))))), some (.inr (.inr (some (.inl (87))))), some (.inr (.inr (some (.inl (141))))), some (.inl (nI (6 * k))), o5, o6] [] σ) {K : Nat → Nat} {n : Nat} {σ : Nat → jcell} {fd tp : Int32} (h : LJ K n σ fd tp) (hft : fd.toInt = tp.toInt) (o5 o6 : Option jv) : jJ E jcl 7 M Q n (lC k K n) (lS k K n) 193 [some (.inr (.inr (some (.inr 99)))), some (.inr (.inr (some (.inl (0))))), some (.inr (.inr (some (.inl (87))))), some (.inr (.inr (some (.inl (141))))), some (.inl (nI (6 * k))), o5, o6] [] σ := by
  have hb := lC_le h (k := k) (by omega)
  have e1 : nI (6 * k) + 1 = nI (6 * k + 1) := by rw [show (1 : Int32) = nI 1 from rfl, nI_add]
  refine jrun_ok jC X k_LW_193 193 _ _ _ o_LW_193 ?_
  simp only [k_LW_193, jrun, jstep, jldi, jldl, jlda, j1, j2, jl1, jl2, jli, ja1, jbr, jald, jast, jlald, jlast, jalen, jget, jput, jfit, jdup, jdupx, jdupx2, jdup2, jcat, jset1, jset2, jkill, List.getElem?_cons_zero, List.getElem?_cons_succ, List.set_cons_zero, List.set_cons_succ, List.length_cons, List.length_nil, Nat.reduceAdd, Nat.reduceLT, Int32.reduceToNatClampNeg, true_and, and_true, and_self, reduceCtorEq, not_false_eq_true, false_and, and_false, or_false, false_or, true_or, or_true, e1]
  refine jk_sld X d_LW_199 hX hbl (i := nI (6 * k + 1)) (vp_in_nI (by omega) (by omega)) ?_
  refine jrun_ok jC X k_LW_200 200 _ _ _ o_LW_200 ?_
  simp only [k_LW_200, jrun, jstep, jldi, jldl, jlda, j1, j2, jl1, jl2, jli, ja1, jbr, jald, jast, jlald, jlast, jalen, jget, jput, jfit, jdup, jdupx, jdupx2, jdup2, jcat, jset1, jset2, jkill, List.getElem?_cons_zero, List.getElem?_cons_succ, List.set_cons_zero, List.set_cons_succ, List.length_cons, List.length_nil, Nat.reduceAdd, Nat.reduceLT, Int32.reduceToNatClampNeg, true_and, and_true, and_self, reduceCtorEq, not_false_eq_true, false_and, and_false, or_false, false_or, true_or, or_true]
  have cont : ∀ (K1 : Nat → Nat) (n1 : Nat) (σ1 : Nat → jcell) (kv : Int32) (c1 s1 : Nat), LJ K1 n1 σ1 fd tp → tC K1 n1 = tC K n → rN1 K1 n1 = rN1 K n → c1 ≤ lC k K n + 1 → s1 ≤ lS k K n + 6 → jJ E jcl 7 M Q n1 c1 s1 204 [some (.inr (.inr (some (.inr 99)))), some (.inr (.inr (some (.inl (0))))), some (.inr (.inr (some (.inl (87))))), some (.inr (.inr (some (.inl (141))))), some (.inl (nI (6 * k))), o5, o6] ((some (.inl kv)).toList ++ []) σ1 := by
    intro K1 n1 σ1 kv c1 s1 h1 ht hr hc hs
    have hc9 : c1 ≤ room_1.cells := Nat.le_trans hc (Nat.le_trans (Nat.add_le_add_right hb.1 1) (Nat.le_of_ble_eq_true rfl))
    have hs9 : s1 ≤ room_1.slots := Nat.le_trans hs (Nat.le_trans (Nat.add_le_add_right hb.2 6) (Nat.le_of_ble_eq_true rfl))
    simp only [Option.toList_some, List.cons_append, List.nil_append]
    refine jrun_ok jC X k_LW_204 204 _ _ _ o_LW_204 ?_
    simp only [k_LW_204, jrun, jstep, jldi, jldl, jlda, j1, j2, jl1, jl2, jli, ja1, jbr, jald, jast, jlald, jlast, jalen, jget, jput, jfit, jdup, jdupx, jdupx2, jdup2, jcat, jset1, jset2, jkill, List.getElem?_cons_zero, List.getElem?_cons_succ, List.set_cons_zero, List.set_cons_succ, List.length_cons, List.length_nil, Nat.reduceAdd, Nat.reduceLT, Int32.reduceToNatClampNeg, true_and, and_true, and_self, reduceCtorEq, not_false_eq_true, false_and, and_false, or_false, false_or, true_or, or_true, e1]
    refine jk_sld X d_LW_212 hX hbl (i := nI (6 * k + 1)) (vp_in_nI (by omega) (by omega)) ?_
    have h1' := h1
    obtain ⟨-, -, r1, -, -, -, -, fr, m1, -⟩ := h1'
    refine jk_Vg X hR d_LW_213 q_LW_213 m_MM_out i_MM_out e_MM_out (ci := 11) rfl rfl r1.1 m1 (lr_out (l := M.2.1) (E := E) h1) rfl rfl ⟨Nat.le_of_ble_eq_true rfl, Nat.le_of_ble_eq_true rfl⟩ (c' := c1) rfl (s' := s1) rfl ⟨hc9, hs9⟩ (Nat.le_of_ble_eq_true rfl) (pc' := 216) rfl ?_
    rintro _ σ2 _ ⟨⟨v2, rfl⟩, hn3, h2⟩
    obtain rfl : n1 = _ := hn3.symm
    simp only [Option.toList_some, List.cons_append, List.nil_append]
    refine jrun_ok jC X k_LW_216 216 _ _ _ o_LW_216 ?_
    simp only [k_LW_216, jrun, jstep, jldi, jldl, jlda, j1, j2, jl1, jl2, jli, ja1, jbr, jald, jast, jlald, jlast, jalen, jget, jput, jfit, jdup, jdupx, jdupx2, jdup2, jcat, jset1, jset2, jkill, List.getElem?_cons_zero, List.getElem?_cons_succ, List.set_cons_zero, List.set_cons_succ, List.length_cons, List.length_nil, Nat.reduceAdd, Nat.reduceLT, Int32.reduceToNatClampNeg, true_and, and_true, and_self, reduceCtorEq, not_false_eq_true, false_and, and_false, or_false, false_or, true_or, or_true]
    exact jJ_widen (by unfold lC at *; omega) (by unfold lS at *; omega) (kk K1 n1 σ2 _ _ ⟨fd, tp, h2, hft⟩)
  have hh := h
  obtain ⟨j1, j2, j3, j4, j5, ⟨G, j6⟩, ⟨fs, j7, j8⟩, j9⟩ := hh
  have n0 : 0 < n := j1.2.2.2.2.2.2.1
  have k0 : K 0 = 0 := j1.2.2.2.2.2.2.2.1
  obtain ⟨fs', b, y1, y2, y3, y4⟩ := ob_f (f := 1) j1.1 n0 k0 rfl rfl (by decide)
  rw [j7] at y1
  obtain rfl := (Prod.mk.inj (Sum.inr.inj y1)).2
  obtain ⟨fb, z1, z2, z3⟩ := aCe_obj (j1.1 b y3 _ (by rw [y4]; rfl))
  have hlb : 1 < fb.length := by rw [z2]; decide
  obtain ⟨ln, l1, l2⟩ := aG_int (z3 1 _ _ rfl (List.getElem?_eq_getElem hlb))
  have hln : fb[1]? = some (.inl ln) := by rw [List.getElem?_eq_getElem hlb, l1]
  by_cases hq : 0 ≤ (xs (nI (6 * k + 1)).toNatClampNeg).toInt ∧ (xs (nI (6 * k + 1)).toNatClampNeg).toInt < ln.toInt
  · refine jk_SWg X hR hTh d_LW_201 (jTA_in (wi := 1878) (jtF_ok rfl) rfl) w_LA_out n_LA_out ⟨by decide, by decide⟩ (k := 3) (by decide +kernel) s_LA_out (cw_out M.2.1 E (G := G) (o := 141) j1 j7 y2 y3 y4 z1 hln l2.2 hq.1 hq.2 j4 j5 j6) rfl rfl ⟨Nat.le_of_ble_eq_true rfl, Nat.le_of_ble_eq_true rfl⟩ (c' := lC k K n) rfl (s' := lS k K n) rfl ⟨Nat.le_trans hb.1 (Nat.le_of_ble_eq_true rfl), Nat.le_trans hb.2 (Nat.le_of_ble_eq_true rfl)⟩ (Nat.le_of_ble_eq_true rfl) (pc' := 204) rfl ?_
    rintro _ σ1 _ ⟨rfl, hn2, G', rfl⟩
    obtain rfl : n = _ := hn2.symm
    exact cont K n _ 0 _ _ (LJ_up h) rfl rfl (Nat.le_add_right _ _) (Nat.le_add_right _ _)
  · refine jk_SWg X hR hTh d_LW_201 (jTA_in (wi := 1878) (jtF_ok rfl) rfl) w_LA_out n_LA_out ⟨by decide, by decide⟩ (k := 3) (by decide +kernel) s_LA_out (cw_outT M.2.1 E (K := K) (en := 0) (o := 141) hlt n0 j7 y2 y3 z1 hln (by
      by_cases h0 : (xs (nI (6 * k + 1)).toNatClampNeg) < 0
      · exact Or.inl h0
      · refine Or.inr (fun h9 => hq ⟨?_, Int32.lt_iff_toInt_lt.mp h9⟩)
        have this : ¬ ((xs (nI (6 * k + 1)).toNatClampNeg)).toInt < (0 : Int32).toInt := fun h8 => h0 (Int32.lt_iff_toInt_lt.mpr h8)
        rw [show (0 : Int32).toInt = 0 from rfl] at this
        omega)) rfl rfl ⟨Nat.le_of_ble_eq_true rfl, Nat.le_of_ble_eq_true rfl⟩ (c' := lC k K n + 1) rfl (s' := lS k K n + 6) rfl ⟨Nat.le_trans (Nat.add_le_add_right hb.1 1) (Nat.le_of_ble_eq_true rfl), Nat.le_trans (Nat.add_le_add_right hb.2 6) (Nat.le_of_ble_eq_true rfl)⟩ (Nat.le_of_ble_eq_true rfl) (pc' := 204) rfl ?_
    rintro _ σ1 _ ⟨rfl, hn2, rfl⟩
    subst hn2
    exact cont (gK K n 999) (n + 1) (jup σ n jun) 1 _ _ (LJ_jun h) jun_tC jun_rN (Nat.le_refl _) (Nat.le_refl _)
set_option maxRecDepth 100000 in
set_option maxHeartbeats 4000000 in
theorem lw_loop (hlt : M.2.1.stackTraces = false) (X : jX E "ChessHouseLaw" lw_tbl jcl jtb 7 false code M) {L : Nat} {xs : Nat → Int32} (hX : va_X (E.2.2.1 99) L xs M.2.2.2.2.1 M.2.2.2.2.1.heap) (hbl : E.2.2.1 99 < E.2.2.2) (hR : M.2.2.2.1 = room_1) (hTh : jTh E M.2.2.2.2.1) (hL : L ≤ 3072) (hret : ∀ (n cells slots : Nat) (lv : List (Option jv)) (σ : Nat → jcell), cells ≤ 1196 → slots ≤ 4559234 → jJ E jcl 7 M Q n cells slots 228 lv [.inl 1] σ) : ∀ (u k : Nat), L < 6 * (k + u) + 6 → k ≤ 512 → ∀ (K : Nat → Nat) (n : Nat) (σ : Nat → jcell) (o5 o6 : Option jv), LI K n σ → jJ E jcl 7 M Q n (lC k K n) (lS k K n) 23 [some (.inr (.inr (some (.inr 99)))), some (.inr (.inr (some (.inl (0))))), some (.inr (.inr (some (.inl (87))))), some (.inr (.inr (some (.inl (141))))), some (.inl (nI (6 * k))), o5, o6] [] σ := by
  intro u
  induction u with
  | zero =>
    intro k hk hk5 K n σ o5 o6 ⟨fd, tp, h, hft⟩
    have hb := lC_le h hk5
    have hgt : (Int32.ofNat L - 6 < nI (6 * k)) = True := eq_true ((lw_cmp hL (by omega)).mpr (by omega))
    refine jrun_ok jC X k_LW_23 23 _ _ _ o_LW_23 ?_
    simp only [k_LW_23, jrun, jstep, jldi, jldl, jlda, j1, j2, jl1, jl2, jli, ja1, jbr, jald, jast, jlald, jlast, jalen, jget, jput, jfit, jdup, jdupx, jdupx2, jdup2, jcat, jset1, jset2, jkill, List.getElem?_cons_zero, List.getElem?_cons_succ, List.set_cons_zero, List.set_cons_succ, List.length_cons, List.length_nil, Nat.reduceAdd, Nat.reduceLT, Int32.reduceToNatClampNeg, true_and, and_true, and_self, reduceCtorEq, not_false_eq_true, false_and, and_false, or_false, false_or, true_or, or_true]
    refine jk_slen X d_LW_26 hX hbl ?_
    refine jrun_ok jC X k_LW_27 27 _ _ _ o_LW_27 ?_
    simp only [k_LW_27, jrun, jstep, jldi, jldl, jlda, j1, j2, jl1, jl2, jli, ja1, jbr, jald, jast, jlald, jlast, jalen, jget, jput, jfit, jdup, jdupx, jdupx2, jdup2, jcat, jset1, jset2, jkill, List.getElem?_cons_zero, List.getElem?_cons_succ, List.set_cons_zero, List.set_cons_succ, List.length_cons, List.length_nil, Nat.reduceAdd, Nat.reduceLT, Int32.reduceToNatClampNeg, true_and, and_true, and_self, reduceCtorEq, not_false_eq_true, false_and, and_false, or_false, false_or, true_or, or_true, hgt, false_implies, true_implies, not_true_eq_false]
    refine jrun_ok jC X k_LW_227 227 _ _ _ o_LW_227 ?_
    simp only [k_LW_227, jrun, jstep, jldi, jldl, jlda, j1, j2, jl1, jl2, jli, ja1, jbr, jald, jast, jlald, jlast, jalen, jget, jput, jfit, jdup, jdupx, jdupx2, jdup2, jcat, jset1, jset2, jkill, List.getElem?_cons_zero, List.getElem?_cons_succ, List.set_cons_zero, List.set_cons_succ, List.length_cons, List.length_nil, Nat.reduceAdd, Nat.reduceLT, Int32.reduceToNatClampNeg, true_and, and_true, and_self, reduceCtorEq, not_false_eq_true, false_and, and_false, or_false, false_or, true_or, or_true]
    exact hret _ _ _ _ _ hb.1 hb.2
  | succ u ih =>
    intro k hk hk5 K n σ o5 o6 ⟨fd, tp, h, hft⟩
    have hb := lC_le h hk5
    by_cases hgo : 6 * k + 6 ≤ L
    · have hgt : (Int32.ofNat L - 6 < nI (6 * k)) = False := eq_false (fun h9 => by
        have := (lw_cmp hL (by omega)).mp h9
        omega)
      have next : ∀ (K : Nat → Nat) (n : Nat) (σ : Nat → jcell) (o5 o6 : Option jv), LI K n σ → jJ E jcl 7 M Q n (lC (k + 1) K n) (lS (k + 1) K n) 221 [some (.inr (.inr (some (.inr 99)))), some (.inr (.inr (some (.inl (0))))), some (.inr (.inr (some (.inl (87))))), some (.inr (.inr (some (.inl (141))))), some (.inl (nI (6 * k))), o5, o6] [] σ := by
        intro K n σ o5 o6 h9
        have e6 : nI (6 * k) + 6 = nI (6 * (k + 1)) := by
          rw [show (6 : Int32) = nI 6 from rfl, nI_add]
          rfl
        refine jrun_ok jC X k_LW_221 221 _ _ _ o_LW_221 ?_
        simp only [k_LW_221, jrun, jstep, jldi, jldl, jlda, j1, j2, jl1, jl2, jli, ja1, jbr, jald, jast, jlald, jlast, jalen, jget, jput, jfit, jdup, jdupx, jdupx2, jdup2, jcat, jset1, jset2, jkill, List.getElem?_cons_zero, List.getElem?_cons_succ, List.set_cons_zero, List.set_cons_succ, List.length_cons, List.length_nil, Nat.reduceAdd, Nat.reduceLT, Int32.reduceToNatClampNeg, true_and, and_true, and_self, reduceCtorEq, not_false_eq_true, false_and, and_false, or_false, false_or, true_or, or_true, e6]
        exact ih (k + 1) (by omega) (by omega) K n σ o5 o6 h9
      refine jrun_ok jC X k_LW_23 23 _ _ _ o_LW_23 ?_
      simp only [k_LW_23, jrun, jstep, jldi, jldl, jlda, j1, j2, jl1, jl2, jli, ja1, jbr, jald, jast, jlald, jlast, jalen, jget, jput, jfit, jdup, jdupx, jdupx2, jdup2, jcat, jset1, jset2, jkill, List.getElem?_cons_zero, List.getElem?_cons_succ, List.set_cons_zero, List.set_cons_succ, List.length_cons, List.length_nil, Nat.reduceAdd, Nat.reduceLT, Int32.reduceToNatClampNeg, true_and, and_true, and_self, reduceCtorEq, not_false_eq_true, false_and, and_false, or_false, false_or, true_or, or_true]
      refine jk_slen X d_LW_26 hX hbl ?_
      refine jrun_ok jC X k_LW_27 27 _ _ _ o_LW_27 ?_
      simp only [k_LW_27, jrun, jstep, jldi, jldl, jlda, j1, j2, jl1, jl2, jli, ja1, jbr, jald, jast, jlald, jlast, jalen, jget, jput, jfit, jdup, jdupx, jdupx2, jdup2, jcat, jset1, jset2, jkill, List.getElem?_cons_zero, List.getElem?_cons_succ, List.set_cons_zero, List.set_cons_succ, List.length_cons, List.length_nil, Nat.reduceAdd, Nat.reduceLT, Int32.reduceToNatClampNeg, true_and, and_true, and_self, reduceCtorEq, not_false_eq_true, false_and, and_false, or_false, false_or, true_or, or_true, hgt, false_implies, true_implies, not_false_eq_true]
      refine jk_sld X d_LW_36 hX hbl (i := nI (6 * k)) (vp_in_nI (by omega) (by omega)) ?_
      refine jrun_ok jC X k_LW_37 37 _ _ _ o_LW_37 ?_
      simp only [k_LW_37, jrun, jstep, jldi, jldl, jlda, j1, j2, jl1, jl2, jli, ja1, jbr, jald, jast, jlald, jlast, jalen, jget, jput, jfit, jdup, jdupx, jdupx2, jdup2, jcat, jset1, jset2, jkill, List.getElem?_cons_zero, List.getElem?_cons_succ, List.set_cons_zero, List.set_cons_succ, List.length_cons, List.length_nil, Nat.reduceAdd, Nat.reduceLT, Int32.reduceToNatClampNeg, true_and, and_true, and_self, reduceCtorEq, not_false_eq_true, false_and, and_false, or_false, false_or, true_or, or_true]
      refine jk_tab X d_LW_39 [68, 152, 180, 193] (by decide) (by decide) (td := 221) (by decide) (fun _ => jJ_widen (by unfold lC; omega) (by unfold lS; omega) (next K n σ o5 o6 ⟨fd, tp, h, hft⟩)) ?_
      intro i t hi _
      match i, hi with
      | 0, hi => cases hi; exact lw_feed hlt X hX hbl hR hTh hL hgo next h hft o5 o6
      | 1, hi => cases hi; exact lw_end1 hlt X hX hbl hR hTh hL hgo next h hft o5 o6
      | 2, hi => cases hi; exact lw_size hlt X hX hbl hR hTh hL hgo next h hft o5 o6
      | 3, hi => cases hi; exact lw_out hlt X hX hbl hR hTh hL hgo next h hft o5 o6
      | i + 4, hi => cases hi
    · have hgt : (Int32.ofNat L - 6 < nI (6 * k)) = True := eq_true ((lw_cmp hL (by omega)).mpr (by omega))
      refine jrun_ok jC X k_LW_23 23 _ _ _ o_LW_23 ?_
      simp only [k_LW_23, jrun, jstep, jldi, jldl, jlda, j1, j2, jl1, jl2, jli, ja1, jbr, jald, jast, jlald, jlast, jalen, jget, jput, jfit, jdup, jdupx, jdupx2, jdup2, jcat, jset1, jset2, jkill, List.getElem?_cons_zero, List.getElem?_cons_succ, List.set_cons_zero, List.set_cons_succ, List.length_cons, List.length_nil, Nat.reduceAdd, Nat.reduceLT, Int32.reduceToNatClampNeg, true_and, and_true, and_self, reduceCtorEq, not_false_eq_true, false_and, and_false, or_false, false_or, true_or, or_true]
      refine jk_slen X d_LW_26 hX hbl ?_
      refine jrun_ok jC X k_LW_27 27 _ _ _ o_LW_27 ?_
      simp only [k_LW_27, jrun, jstep, jldi, jldl, jlda, j1, j2, jl1, jl2, jli, ja1, jbr, jald, jast, jlald, jlast, jalen, jget, jput, jfit, jdup, jdupx, jdupx2, jdup2, jcat, jset1, jset2, jkill, List.getElem?_cons_zero, List.getElem?_cons_succ, List.set_cons_zero, List.set_cons_succ, List.length_cons, List.length_nil, Nat.reduceAdd, Nat.reduceLT, Int32.reduceToNatClampNeg, true_and, and_true, and_self, reduceCtorEq, not_false_eq_true, false_and, and_false, or_false, false_or, true_or, or_true, hgt, false_implies, true_implies, not_true_eq_false]
      refine jrun_ok jC X k_LW_227 227 _ _ _ o_LW_227 ?_
      simp only [k_LW_227, jrun, jstep, jldi, jldl, jlda, j1, j2, jl1, jl2, jli, ja1, jbr, jald, jast, jlald, jlast, jalen, jget, jput, jfit, jdup, jdupx, jdupx2, jdup2, jcat, jset1, jset2, jkill, List.getElem?_cons_zero, List.getElem?_cons_succ, List.set_cons_zero, List.set_cons_succ, List.length_cons, List.length_nil, Nat.reduceAdd, Nat.reduceLT, Int32.reduceToNatClampNeg, true_and, and_true, and_self, reduceCtorEq, not_false_eq_true, false_and, and_false, or_false, false_or, true_or, or_true]
      exact hret _ _ _ _ _ hb.1 hb.2
theorem lw_all (hlt : M.2.1.stackTraces = false) (X : jX E "ChessHouseLaw" lw_tbl jcl jtb 7 false code M) {L : Nat} {xs : Nat → Int32} (hX : va_X (E.2.2.1 99) L xs M.2.2.2.2.1 M.2.2.2.2.1.heap) (hbl : E.2.2.1 99 < E.2.2.2) (hR : M.2.2.2.1 = room_1) (hTh : jTh E M.2.2.2.2.1) (hL : L ≤ 3072) (hret : ∀ (n cells slots : Nat) (lv : List (Option jv)) (σ : Nat → jcell), cells ≤ 1196 → slots ≤ 4559234 → jJ E jcl 7 M Q n cells slots 228 lv [.inl 1] σ) (σ : Nat → jcell) : jJ E jcl 7 M Q 0 0 0 0 [some (.inr (.inr (some (.inr 99)))), none, none, none, none, none, none] [] σ := by
  refine lw_head X hR σ (fun σ h => ?_)
  have := lw_loop hlt X hX hbl hR hTh hL hret 512 0 (by omega) (by decide) lK0 142 σ none none h
  rw [lw_c0s.1, lw_c0s.2] at this
  exact this
end LAW
