/-! moves on the board, to the last man -/
def y_BO_lift : jY := (⟨"ChessHouse$Board", "lift", "(I)V"⟩, prog_3_method_9_code, 3, none)
theorem m_BO_lift : jmth lw_tbl y_BO_lift 1 := ⟨jTA_in (wi := 1289) (jtF_ok rfl) rfl, jTA_in (wi := 312) (jtF_ok rfl) rfl, by decide, by decide, by decide +kernel⟩
theorem i_BO_lift : Jvm.Cond.instanceMethod y_BO_lift.1 ∈ jTA lw_tbl := jTA_in (wi := 1288) (jtF_ok rfl) rfl
theorem e_BO_lift : Jvm.Cond.selects y_BO_lift.1.cls y_BO_lift.1 y_BO_lift.1 ∈ jTA lw_tbl := jTA_in (wi := 31) (jtF_ok rfl) rfl
def kk_BO_lift_0 : List jI := [(.aload_n 0, 1, (0, 0, 0, 0, 0)), (.getfield 7, 3, (10, 0, 660, 0, 0)), (.iload_n 1, 1, (1, 0, 0, 0, 0)), (.iaload, 1, (0, 0, 0, 0, 0)), (.istore_n 2, 1, (2, 0, 0, 0, 0)), (.aload_n 0, 1, (0, 0, 0, 0, 0)), (.getfield 7, 3, (10, 0, 660, 0, 0)), (.iload_n 1, 1, (1, 0, 0, 0, 0)), (.iconst 0, 1, (0, 0, 0, 0, 0)), (.iastore, 1, (0, 0, 0, 0, 0)), (.aload_n 0, 1, (0, 0, 0, 0, 0)), (.getfield 16, 3, (10, 7, 676, 0, 0)), (.iload_n 1, 1, (1, 0, 0, 0, 0)), (.iconst 4, 1, (0, 0, 0, 4, 0)), (.ishr, 1, (0, 0, 0, 0, 0)), (.dup2, 1, (0, 0, 0, 0, 0)), (.laload, 1, (0, 0, 0, 0, 0)), (.iload_n 2, 1, (2, 0, 0, 0, 0)), (.i2l, 1, (0, 0, 0, 0, 0)), (.iload_n 1, 1, (1, 0, 0, 0, 0)), (.bipush 15, 2, (0, 0, 0, 15, 0)), (.iand, 1, (0, 0, 0, 0, 0)), (.iconst 2, 1, (0, 0, 0, 2, 0)), (.ishl, 1, (0, 0, 0, 0, 0)), (.lshl, 1, (0, 0, 0, 0, 0)), (.lxor, 1, (0, 0, 0, 0, 0)), (.lastore, 1, (0, 0, 0, 0, 0)), (.aload_n 0, 1, (0, 0, 0, 0, 0)), (.getfield 20, 3, (10, 8, 677, 0, 0)), (.iload_n 2, 1, (2, 0, 0, 0, 0)), (.iconst 3, 1, (0, 0, 0, 3, 0)), (.ishr, 1, (0, 0, 0, 0, 0)), (.dup2, 1, (0, 0, 0, 0, 0)), (.iaload, 1, (0, 0, 0, 0, 0)), (.aload_n 0, 1, (0, 0, 0, 0, 0)), (.getfield 29, 3, (10, 11, 680, 0, 0)), (.iload_n 2, 1, (2, 0, 0, 0, 0)), (.bipush 6, 2, (0, 0, 0, 6, 0)), (.ishl, 1, (0, 0, 0, 0, 0)), (.iload_n 1, 1, (1, 0, 0, 0, 0)), (.ior, 1, (0, 0, 0, 0, 0)), (.iaload, 1, (0, 0, 0, 0, 0)), (.isub, 1, (0, 0, 0, 0, 0)), (.iastore, 1, (0, 0, 0, 0, 0)), (.aload_n 0, 1, (0, 0, 0, 0, 0)), (.getfield 23, 3, (10, 9, 678, 0, 0)), (.iload_n 2, 1, (2, 0, 0, 0, 0)), (.dup2, 1, (0, 0, 0, 0, 0)), (.iaload, 1, (0, 0, 0, 0, 0)), (.iconst 1, 1, (0, 0, 0, 1, 0)), (.isub, 1, (0, 0, 0, 0, 0)), (.iastore, 1, (0, 0, 0, 0, 0)), (.iload_n 2, 1, (2, 0, 0, 0, 0)), (.bipush 7, 2, (0, 0, 0, 7, 0)), (.iand, 1, (0, 0, 0, 0, 0)), (.iconst 3, 1, (0, 0, 0, 3, 0)), (.if_icmp .ne 19, 3, (90, 0, 0, 0, 0)), (.aload_n 0, 1, (0, 0, 0, 0, 0)), (.getfield 26, 3, (10, 10, 679, 0, 0)), (.iload_n 1, 1, (1, 0, 0, 0, 0)), (.iload_n 1, 1, (1, 0, 0, 0, 0)), (.iconst 3, 1, (0, 0, 0, 3, 0)), (.ishr, 1, (0, 0, 0, 0, 0)), (.ixor, 1, (0, 0, 0, 0, 0)), (.iconst 1, 1, (0, 0, 0, 1, 0)), (.iand, 1, (0, 0, 0, 0, 0)), (.dup2, 1, (0, 0, 0, 0, 0)), (.iaload, 1, (0, 0, 0, 0, 0)), (.iconst 1, 1, (0, 0, 0, 1, 0)), (.isub, 1, (0, 0, 0, 0, 0)), (.iastore, 1, (0, 0, 0, 0, 0)), (.return_, 1, (0, 0, 0, 0, 0))]
theorem oo_BO_lift_0 : jokL "ChessHouse$Board" lw_tbl jcl jtb 3 false prog_3_method_9_code 0 kk_BO_lift_0 = true := jokLF_ok (fun _ _ => jtF_ok) lo_BO (by decide +kernel)
def k_BO_lift_0 : List jI := [(.aload_n 0, 1, (0, 0, 0, 0, 0)), (.getfield 7, 3, (10, 0, 660, 0, 0)), (.iload_n 1, 1, (1, 0, 0, 0, 0)), (.iaload, 1, (0, 0, 0, 0, 0)), (.istore_n 2, 1, (2, 0, 0, 0, 0)), (.aload_n 0, 1, (0, 0, 0, 0, 0)), (.getfield 7, 3, (10, 0, 660, 0, 0)), (.iload_n 1, 1, (1, 0, 0, 0, 0)), (.iconst 0, 1, (0, 0, 0, 0, 0)), (.iastore, 1, (0, 0, 0, 0, 0))]
theorem o_BO_lift_0 : jokL "ChessHouse$Board" lw_tbl jcl jtb 3 false prog_3_method_9_code 0 k_BO_lift_0 = true := jok_sub oo_BO_lift_0 0 10 rfl rfl
def k_BO_lift_14 : List jI := [(.aload_n 0, 1, (0, 0, 0, 0, 0)), (.getfield 16, 3, (10, 7, 676, 0, 0)), (.iload_n 1, 1, (1, 0, 0, 0, 0)), (.iconst 4, 1, (0, 0, 0, 4, 0)), (.ishr, 1, (0, 0, 0, 0, 0)), (.dup2, 1, (0, 0, 0, 0, 0)), (.laload, 1, (0, 0, 0, 0, 0)), (.iload_n 2, 1, (2, 0, 0, 0, 0)), (.i2l, 1, (0, 0, 0, 0, 0)), (.iload_n 1, 1, (1, 0, 0, 0, 0)), (.bipush 15, 2, (0, 0, 0, 15, 0)), (.iand, 1, (0, 0, 0, 0, 0)), (.iconst 2, 1, (0, 0, 0, 2, 0)), (.ishl, 1, (0, 0, 0, 0, 0)), (.lshl, 1, (0, 0, 0, 0, 0)), (.lxor, 1, (0, 0, 0, 0, 0)), (.lastore, 1, (0, 0, 0, 0, 0))]
theorem o_BO_lift_14 : jokL "ChessHouse$Board" lw_tbl jcl jtb 3 false prog_3_method_9_code 14 k_BO_lift_14 = true := jok_sub oo_BO_lift_0 10 17 rfl rfl
def k_BO_lift_34 : List jI := [(.aload_n 0, 1, (0, 0, 0, 0, 0)), (.getfield 20, 3, (10, 8, 677, 0, 0)), (.iload_n 2, 1, (2, 0, 0, 0, 0)), (.iconst 3, 1, (0, 0, 0, 3, 0)), (.ishr, 1, (0, 0, 0, 0, 0)), (.dup2, 1, (0, 0, 0, 0, 0)), (.iaload, 1, (0, 0, 0, 0, 0)), (.aload_n 0, 1, (0, 0, 0, 0, 0)), (.getfield 29, 3, (10, 11, 680, 0, 0)), (.iload_n 2, 1, (2, 0, 0, 0, 0)), (.bipush 6, 2, (0, 0, 0, 6, 0)), (.ishl, 1, (0, 0, 0, 0, 0)), (.iload_n 1, 1, (1, 0, 0, 0, 0)), (.ior, 1, (0, 0, 0, 0, 0)), (.iaload, 1, (0, 0, 0, 0, 0)), (.isub, 1, (0, 0, 0, 0, 0)), (.iastore, 1, (0, 0, 0, 0, 0))]
theorem o_BO_lift_34 : jokL "ChessHouse$Board" lw_tbl jcl jtb 3 false prog_3_method_9_code 34 k_BO_lift_34 = true := jok_sub oo_BO_lift_0 27 17 rfl rfl
def k_BO_lift_56 : List jI := [(.aload_n 0, 1, (0, 0, 0, 0, 0)), (.getfield 23, 3, (10, 9, 678, 0, 0)), (.iload_n 2, 1, (2, 0, 0, 0, 0)), (.dup2, 1, (0, 0, 0, 0, 0)), (.iaload, 1, (0, 0, 0, 0, 0)), (.iconst 1, 1, (0, 0, 0, 1, 0)), (.isub, 1, (0, 0, 0, 0, 0)), (.iastore, 1, (0, 0, 0, 0, 0))]
theorem o_BO_lift_56 : jokL "ChessHouse$Board" lw_tbl jcl jtb 3 false prog_3_method_9_code 56 k_BO_lift_56 = true := jok_sub oo_BO_lift_0 44 8 rfl rfl
def k_BO_lift_66 : List jI := [(.iload_n 2, 1, (2, 0, 0, 0, 0)), (.bipush 7, 2, (0, 0, 0, 7, 0)), (.iand, 1, (0, 0, 0, 0, 0)), (.iconst 3, 1, (0, 0, 0, 3, 0)), (.if_icmp .ne 19, 3, (90, 0, 0, 0, 0)), (.aload_n 0, 1, (0, 0, 0, 0, 0)), (.getfield 26, 3, (10, 10, 679, 0, 0)), (.iload_n 1, 1, (1, 0, 0, 0, 0)), (.iload_n 1, 1, (1, 0, 0, 0, 0)), (.iconst 3, 1, (0, 0, 0, 3, 0)), (.ishr, 1, (0, 0, 0, 0, 0)), (.ixor, 1, (0, 0, 0, 0, 0)), (.iconst 1, 1, (0, 0, 0, 1, 0)), (.iand, 1, (0, 0, 0, 0, 0)), (.dup2, 1, (0, 0, 0, 0, 0)), (.iaload, 1, (0, 0, 0, 0, 0)), (.iconst 1, 1, (0, 0, 0, 1, 0)), (.isub, 1, (0, 0, 0, 0, 0)), (.iastore, 1, (0, 0, 0, 0, 0))]
theorem o_BO_lift_66 : jokL "ChessHouse$Board" lw_tbl jcl jtb 3 false prog_3_method_9_code 66 k_BO_lift_66 = true := jok_sub oo_BO_lift_0 52 19 rfl rfl
theorem d_BO_lift_90 : decode prog_3_method_9_code 90 = .ok (.return_, 1) := by decide +kernel
def y_BO_passedPawn : jY := (⟨"ChessHouse$Board", "passedPawn", "()I"⟩, prog_3_method_14_code, 1, (some .int))
theorem m_BO_passedPawn : jmth lw_tbl y_BO_passedPawn 0 := ⟨jTA_in (wi := 1182) (jtF_ok rfl) rfl, jTA_in (wi := 312) (jtF_ok rfl) rfl, by decide, by decide, by decide +kernel⟩
theorem i_BO_passedPawn : Jvm.Cond.instanceMethod y_BO_passedPawn.1 ∈ jTA lw_tbl := jTA_in (wi := 1181) (jtF_ok rfl) rfl
theorem e_BO_passedPawn : Jvm.Cond.selects y_BO_passedPawn.1.cls y_BO_passedPawn.1 y_BO_passedPawn.1 ∈ jTA lw_tbl := jTA_in (wi := 17) (jtF_ok rfl) rfl
def kk_BO_passedPawn_0 : List jI := [(.aload_n 0, 1, (0, 0, 0, 0, 0)), (.getfield 77, 3, (10, 2, 667, 0, 0)), (.ifCond .ne 13, 3, (17, 0, 0, 0, 0)), (.aload_n 0, 1, (0, 0, 0, 0, 0)), (.getfield 84, 3, (10, 4, 670, 0, 0)), (.bipush 8, 2, (0, 0, 0, 8, 0)), (.isub, 1, (0, 0, 0, 0, 0)), (.goto 10, 3, (24, 0, 0, 0, 0)), (.aload_n 0, 1, (0, 0, 0, 0, 0)), (.getfield 84, 3, (10, 4, 670, 0, 0)), (.bipush 8, 2, (0, 0, 0, 8, 0)), (.iadd, 1, (0, 0, 0, 0, 0)), (.ireturn, 1, (0, 0, 0, 0, 0))]
theorem oo_BO_passedPawn_0 : jokL "ChessHouse$Board" lw_tbl jcl jtb 1 false prog_3_method_14_code 0 kk_BO_passedPawn_0 = true := jokLF_ok (fun _ _ => jtF_ok) lo_BO (by decide +kernel)
def k_BO_passedPawn_0 : List jI := [(.aload_n 0, 1, (0, 0, 0, 0, 0)), (.getfield 77, 3, (10, 2, 667, 0, 0)), (.ifCond .ne 13, 3, (17, 0, 0, 0, 0)), (.aload_n 0, 1, (0, 0, 0, 0, 0)), (.getfield 84, 3, (10, 4, 670, 0, 0)), (.bipush 8, 2, (0, 0, 0, 8, 0)), (.isub, 1, (0, 0, 0, 0, 0)), (.goto 10, 3, (24, 0, 0, 0, 0))]
theorem o_BO_passedPawn_0 : jokL "ChessHouse$Board" lw_tbl jcl jtb 1 false prog_3_method_14_code 0 k_BO_passedPawn_0 = true := jok_sub oo_BO_passedPawn_0 0 8 rfl rfl
def k_BO_passedPawn_17 : List jI := [(.aload_n 0, 1, (0, 0, 0, 0, 0)), (.getfield 84, 3, (10, 4, 670, 0, 0)), (.bipush 8, 2, (0, 0, 0, 8, 0)), (.iadd, 1, (0, 0, 0, 0, 0))]
theorem o_BO_passedPawn_17 : jokL "ChessHouse$Board" lw_tbl jcl jtb 1 false prog_3_method_14_code 17 k_BO_passedPawn_17 = true := jok_sub oo_BO_passedPawn_0 8 4 rfl rfl
theorem d_BO_passedPawn_24 : decode prog_3_method_14_code 24 = .ok (.ireturn, 1) := by decide +kernel
def y_BO_passedBy : jY := (⟨"ChessHouse$Board", "passedBy", "(II)I"⟩, prog_3_method_22_code, 5, (some .int))
theorem m_BO_passedBy : jmth lw_tbl y_BO_passedBy 2 := ⟨jTA_in (wi := 1312) (jtF_ok rfl) rfl, jTA_in (wi := 312) (jtF_ok rfl) rfl, by decide, by decide, by decide +kernel⟩
theorem i_BO_passedBy : Jvm.Cond.instanceMethod y_BO_passedBy.1 ∈ jTA lw_tbl := jTA_in (wi := 1311) (jtF_ok rfl) rfl
theorem e_BO_passedBy : Jvm.Cond.selects y_BO_passedBy.1.cls y_BO_passedBy.1 y_BO_passedBy.1 ∈ jTA lw_tbl := jTA_in (wi := 33) (jtF_ok rfl) rfl
def kk_BO_passedBy_0 : List jI := [(.iload_n 2, 1, (2, 0, 0, 0, 0)), (.iload_n 1, 1, (1, 0, 0, 0, 0)), (.isub, 1, (0, 0, 0, 0, 0)), (.bipush 16, 2, (0, 0, 0, 16, 0)), (.if_icmp .eq 13, 3, (18, 0, 0, 0, 0)), (.iload_n 1, 1, (1, 0, 0, 0, 0)), (.iload_n 2, 1, (2, 0, 0, 0, 0)), (.isub, 1, (0, 0, 0, 0, 0)), (.bipush 16, 2, (0, 0, 0, 16, 0)), (.if_icmp .eq 5, 3, (18, 0, 0, 0, 0)), (.iconst (-1), 1, (0, 0, 0, (-1), 0)), (.ireturn, 1, (0, 0, 0, 0, 0)), (.iconst 1, 1, (0, 0, 0, 1, 0)), (.aload_n 0, 1, (0, 0, 0, 0, 0)), (.getfield 77, 3, (10, 2, 667, 0, 0)), (.isub, 1, (0, 0, 0, 0, 0)), (.iconst 3, 1, (0, 0, 0, 3, 0)), (.ishl, 1, (0, 0, 0, 0, 0)), (.iconst 1, 1, (0, 0, 0, 1, 0)), (.ior, 1, (0, 0, 0, 0, 0)), (.istore_n 3, 1, (3, 0, 0, 0, 0)), (.iload_n 2, 1, (2, 0, 0, 0, 0)), (.bipush 7, 2, (0, 0, 0, 7, 0)), (.iand, 1, (0, 0, 0, 0, 0)), (.ifCond .le 15, 3, (48, 0, 0, 0, 0)), (.aload_n 0, 1, (0, 0, 0, 0, 0)), (.getfield 7, 3, (10, 0, 660, 0, 0)), (.iload_n 2, 1, (2, 0, 0, 0, 0)), (.iconst 1, 1, (0, 0, 0, 1, 0)), (.isub, 1, (0, 0, 0, 0, 0)), (.iaload, 1, (0, 0, 0, 0, 0)), (.iload_n 3, 1, (3, 0, 0, 0, 0)), (.if_icmp .eq 24, 3, (69, 0, 0, 0, 0)), (.iload_n 2, 1, (2, 0, 0, 0, 0)), (.bipush 7, 2, (0, 0, 0, 7, 0)), (.iand, 1, (0, 0, 0, 0, 0)), (.bipush 7, 2, (0, 0, 0, 7, 0)), (.if_icmp .ge 19, 3, (73, 0, 0, 0, 0)), (.aload_n 0, 1, (0, 0, 0, 0, 0)), (.getfield 7, 3, (10, 0, 660, 0, 0)), (.iload_n 2, 1, (2, 0, 0, 0, 0)), (.iconst 1, 1, (0, 0, 0, 1, 0)), (.iadd, 1, (0, 0, 0, 0, 0)), (.iaload, 1, (0, 0, 0, 0, 0)), (.iload_n 3, 1, (3, 0, 0, 0, 0)), (.if_icmp .ne 7, 3, (73, 0, 0, 0, 0)), (.iconst 1, 1, (0, 0, 0, 1, 0)), (.goto 4, 3, (74, 0, 0, 0, 0)), (.iconst 0, 1, (0, 0, 0, 0, 0)), (.istore 4, 2, (4, 0, 0, 0, 0)), (.iload 4, 2, (4, 0, 0, 0, 0)), (.ifCond .eq 11, 3, (89, 0, 0, 0, 0)), (.iload_n 1, 1, (1, 0, 0, 0, 0)), (.iload_n 2, 1, (2, 0, 0, 0, 0)), (.iadd, 1, (0, 0, 0, 0, 0)), (.iconst 1, 1, (0, 0, 0, 1, 0)), (.ishr, 1, (0, 0, 0, 0, 0)), (.goto 4, 3, (90, 0, 0, 0, 0)), (.iconst (-1), 1, (0, 0, 0, (-1), 0)), (.ireturn, 1, (0, 0, 0, 0, 0))]
theorem oo_BO_passedBy_0 : jokL "ChessHouse$Board" lw_tbl jcl jtb 5 false prog_3_method_22_code 0 kk_BO_passedBy_0 = true := jokLF_ok (fun _ _ => jtF_ok) lo_BO (by decide +kernel)
def k_BO_passedBy_0 : List jI := [(.iload_n 2, 1, (2, 0, 0, 0, 0)), (.iload_n 1, 1, (1, 0, 0, 0, 0)), (.isub, 1, (0, 0, 0, 0, 0)), (.bipush 16, 2, (0, 0, 0, 16, 0)), (.if_icmp .eq 13, 3, (18, 0, 0, 0, 0)), (.iload_n 1, 1, (1, 0, 0, 0, 0)), (.iload_n 2, 1, (2, 0, 0, 0, 0)), (.isub, 1, (0, 0, 0, 0, 0)), (.bipush 16, 2, (0, 0, 0, 16, 0)), (.if_icmp .eq 5, 3, (18, 0, 0, 0, 0)), (.iconst (-1), 1, (0, 0, 0, (-1), 0))]
theorem o_BO_passedBy_0 : jokL "ChessHouse$Board" lw_tbl jcl jtb 5 false prog_3_method_22_code 0 k_BO_passedBy_0 = true := jok_sub oo_BO_passedBy_0 0 11 rfl rfl
def k_BO_passedBy_18 : List jI := [(.iconst 1, 1, (0, 0, 0, 1, 0)), (.aload_n 0, 1, (0, 0, 0, 0, 0)), (.getfield 77, 3, (10, 2, 667, 0, 0)), (.isub, 1, (0, 0, 0, 0, 0)), (.iconst 3, 1, (0, 0, 0, 3, 0)), (.ishl, 1, (0, 0, 0, 0, 0)), (.iconst 1, 1, (0, 0, 0, 1, 0)), (.ior, 1, (0, 0, 0, 0, 0)), (.istore_n 3, 1, (3, 0, 0, 0, 0)), (.iload_n 2, 1, (2, 0, 0, 0, 0)), (.bipush 7, 2, (0, 0, 0, 7, 0)), (.iand, 1, (0, 0, 0, 0, 0)), (.ifCond .le 15, 3, (48, 0, 0, 0, 0)), (.aload_n 0, 1, (0, 0, 0, 0, 0)), (.getfield 7, 3, (10, 0, 660, 0, 0)), (.iload_n 2, 1, (2, 0, 0, 0, 0)), (.iconst 1, 1, (0, 0, 0, 1, 0)), (.isub, 1, (0, 0, 0, 0, 0)), (.iaload, 1, (0, 0, 0, 0, 0)), (.iload_n 3, 1, (3, 0, 0, 0, 0)), (.if_icmp .eq 24, 3, (69, 0, 0, 0, 0))]
theorem o_BO_passedBy_18 : jokL "ChessHouse$Board" lw_tbl jcl jtb 5 false prog_3_method_22_code 18 k_BO_passedBy_18 = true := jok_sub oo_BO_passedBy_0 12 21 rfl rfl
def k_BO_passedBy_48 : List jI := [(.iload_n 2, 1, (2, 0, 0, 0, 0)), (.bipush 7, 2, (0, 0, 0, 7, 0)), (.iand, 1, (0, 0, 0, 0, 0)), (.bipush 7, 2, (0, 0, 0, 7, 0)), (.if_icmp .ge 19, 3, (73, 0, 0, 0, 0)), (.aload_n 0, 1, (0, 0, 0, 0, 0)), (.getfield 7, 3, (10, 0, 660, 0, 0)), (.iload_n 2, 1, (2, 0, 0, 0, 0)), (.iconst 1, 1, (0, 0, 0, 1, 0)), (.iadd, 1, (0, 0, 0, 0, 0)), (.iaload, 1, (0, 0, 0, 0, 0)), (.iload_n 3, 1, (3, 0, 0, 0, 0)), (.if_icmp .ne 7, 3, (73, 0, 0, 0, 0))]
theorem o_BO_passedBy_48 : jokL "ChessHouse$Board" lw_tbl jcl jtb 5 false prog_3_method_22_code 48 k_BO_passedBy_48 = true := jok_sub oo_BO_passedBy_0 33 13 rfl rfl
def k_BO_passedBy_69 : List jI := [(.iconst 1, 1, (0, 0, 0, 1, 0)), (.goto 4, 3, (74, 0, 0, 0, 0))]
theorem o_BO_passedBy_69 : jokL "ChessHouse$Board" lw_tbl jcl jtb 5 false prog_3_method_22_code 69 k_BO_passedBy_69 = true := jok_sub oo_BO_passedBy_0 46 2 rfl rfl
def k_BO_passedBy_73 : List jI := [(.iconst 0, 1, (0, 0, 0, 0, 0))]
theorem o_BO_passedBy_73 : jokL "ChessHouse$Board" lw_tbl jcl jtb 5 false prog_3_method_22_code 73 k_BO_passedBy_73 = true := jok_sub oo_BO_passedBy_0 48 1 rfl rfl
def k_BO_passedBy_74 : List jI := [(.istore 4, 2, (4, 0, 0, 0, 0)), (.iload 4, 2, (4, 0, 0, 0, 0)), (.ifCond .eq 11, 3, (89, 0, 0, 0, 0)), (.iload_n 1, 1, (1, 0, 0, 0, 0)), (.iload_n 2, 1, (2, 0, 0, 0, 0)), (.iadd, 1, (0, 0, 0, 0, 0)), (.iconst 1, 1, (0, 0, 0, 1, 0)), (.ishr, 1, (0, 0, 0, 0, 0)), (.goto 4, 3, (90, 0, 0, 0, 0))]
theorem o_BO_passedBy_74 : jokL "ChessHouse$Board" lw_tbl jcl jtb 5 false prog_3_method_22_code 74 k_BO_passedBy_74 = true := jok_sub oo_BO_passedBy_0 49 9 rfl rfl
def k_BO_passedBy_89 : List jI := [(.iconst (-1), 1, (0, 0, 0, (-1), 0))]
theorem o_BO_passedBy_89 : jokL "ChessHouse$Board" lw_tbl jcl jtb 5 false prog_3_method_22_code 89 k_BO_passedBy_89 = true := jok_sub oo_BO_passedBy_0 58 1 rfl rfl
theorem d_BO_passedBy_17 : decode prog_3_method_22_code 17 = .ok (.ireturn, 1) := by decide +kernel
theorem d_BO_passedBy_90 : decode prog_3_method_22_code 90 = .ok (.ireturn, 1) := by decide +kernel
def y_BO_make : jY := (⟨"ChessHouse$Board", "make", "(I)J"⟩, prog_3_method_21_code, 11, (some .long))
theorem m_BO_make : jmth lw_tbl y_BO_make 1 := ⟨jTA_in (wi := 1306) (jtF_ok rfl) rfl, jTA_in (wi := 312) (jtF_ok rfl) rfl, by decide, by decide, by decide +kernel⟩
theorem i_BO_make : Jvm.Cond.instanceMethod y_BO_make.1 ∈ jTA lw_tbl := jTA_in (wi := 1304) (jtF_ok rfl) rfl
theorem e_BO_make : Jvm.Cond.selects y_BO_make.1.cls y_BO_make.1 y_BO_make.1 ∈ jTA lw_tbl := jTA_in (wi := 1305) (jtF_ok rfl) rfl
def kk_BO_make_0 : List jI := [(.iload_n 1, 1, (1, 0, 0, 0, 0)), (.bipush 9, 2, (0, 0, 0, 9, 0)), (.ishr, 1, (0, 0, 0, 0, 0)), (.istore_n 2, 1, (2, 0, 0, 0, 0)), (.iload_n 1, 1, (1, 0, 0, 0, 0)), (.iconst 3, 1, (0, 0, 0, 3, 0)), (.ishr, 1, (0, 0, 0, 0, 0)), (.bipush 63, 2, (0, 0, 0, 63, 0)), (.iand, 1, (0, 0, 0, 0, 0)), (.istore_n 3, 1, (3, 0, 0, 0, 0)), (.iload_n 1, 1, (1, 0, 0, 0, 0)), (.bipush 7, 2, (0, 0, 0, 7, 0)), (.iand, 1, (0, 0, 0, 0, 0)), (.istore 4, 2, (4, 0, 0, 0, 0)), (.aload_n 0, 1, (0, 0, 0, 0, 0)), (.getfield 7, 3, (10, 0, 660, 0, 0)), (.iload_n 2, 1, (2, 0, 0, 0, 0)), (.iaload, 1, (0, 0, 0, 0, 0)), (.istore 5, 2, (5, 0, 0, 0, 0)), (.iload 5, 2, (5, 0, 0, 0, 0)), (.bipush 7, 2, (0, 0, 0, 7, 0)), (.iand, 1, (0, 0, 0, 0, 0)), (.istore 6, 2, (6, 0, 0, 0, 0)), (.iload 6, 2, (6, 0, 0, 0, 0)), (.iconst 1, 1, (0, 0, 0, 1, 0)), (.if_icmp .ne 18, 3, (54, 0, 0, 0, 0)), (.iload_n 3, 1, (3, 0, 0, 0, 0)), (.aload_n 0, 1, (0, 0, 0, 0, 0)), (.getfield 84, 3, (10, 4, 670, 0, 0)), (.if_icmp .ne 10, 3, (54, 0, 0, 0, 0)), (.aload_n 0, 1, (0, 0, 0, 0, 0)), (.invokevirtual 125, 3, (0, 0, 0, 0, 0)), (.goto 4, 3, (55, 0, 0, 0, 0)), (.iload_n 3, 1, (3, 0, 0, 0, 0)), (.istore 7, 2, (7, 0, 0, 0, 0)), (.aload_n 0, 1, (0, 0, 0, 0, 0)), (.getfield 7, 3, (10, 0, 660, 0, 0)), (.iload 7, 2, (7, 0, 0, 0, 0)), (.iaload, 1, (0, 0, 0, 0, 0)), (.istore 8, 2, (8, 0, 0, 0, 0)), (.iload 8, 2, (8, 0, 0, 0, 0)), (.aload_n 0, 1, (0, 0, 0, 0, 0)), (.getfield 81, 3, (10, 3, 669, 0, 0)), (.iconst 4, 1, (0, 0, 0, 4, 0)), (.ishl, 1, (0, 0, 0, 0, 0)), (.ior, 1, (0, 0, 0, 0, 0)), (.aload_n 0, 1, (0, 0, 0, 0, 0)), (.getfield 84, 3, (10, 4, 670, 0, 0)), (.iconst 1, 1, (0, 0, 0, 1, 0)), (.iadd, 1, (0, 0, 0, 0, 0)), (.bipush 8, 2, (0, 0, 0, 8, 0)), (.ishl, 1, (0, 0, 0, 0, 0)), (.ior, 1, (0, 0, 0, 0, 0)), (.i2l, 1, (0, 0, 0, 0, 0)), (.aload_n 0, 1, (0, 0, 0, 0, 0)), (.getfield 87, 3, (10, 5, 671, 0, 0)), (.i2l, 1, (0, 0, 0, 0, 0)), (.bipush 16, 2, (0, 0, 0, 16, 0)), (.lshl, 1, (0, 0, 0, 0, 0)), (.lor, 1, (0, 0, 0, 0, 0)), (.lstore 9, 2, (9, 0, 0, 0, 0)), (.aload_n 0, 1, (0, 0, 0, 0, 0)), (.iload_n 2, 1, (2, 0, 0, 0, 0)), (.invokevirtual 132, 3, (0, 0, 0, 0, 0)), (.iload 8, 2, (8, 0, 0, 0, 0)), (.ifCond .eq 9, 3, (113, 0, 0, 0, 0)), (.aload_n 0, 1, (0, 0, 0, 0, 0)), (.iload 7, 2, (7, 0, 0, 0, 0)), (.invokevirtual 132, 3, (0, 0, 0, 0, 0)), (.aload_n 0, 1, (0, 0, 0, 0, 0)), (.iload_n 3, 1, (3, 0, 0, 0, 0)), (.iload 4, 2, (4, 0, 0, 0, 0)), (.ifCond .ne 8, 3, (125, 0, 0, 0, 0)), (.iload 5, 2, (5, 0, 0, 0, 0)), (.goto 11, 3, (133, 0, 0, 0, 0)), (.iload 5, 2, (5, 0, 0, 0, 0)), (.bipush 8, 2, (0, 0, 0, 8, 0)), (.iand, 1, (0, 0, 0, 0, 0)), (.iload 4, 2, (4, 0, 0, 0, 0)), (.ior, 1, (0, 0, 0, 0, 0)), (.invokevirtual 102, 3, (0, 0, 0, 0, 0)), (.iload 6, 2, (6, 0, 0, 0, 0)), (.bipush 6, 2, (0, 0, 0, 6, 0)), (.if_icmp .ne 35, 3, (175, 0, 0, 0, 0)), (.iload_n 3, 1, (3, 0, 0, 0, 0)), (.iload_n 2, 1, (2, 0, 0, 0, 0)), (.isub, 1, (0, 0, 0, 0, 0)), (.iconst 2, 1, (0, 0, 0, 2, 0)), (.if_icmp .ne 28, 3, (175, 0, 0, 0, 0)), (.aload_n 0, 1, (0, 0, 0, 0, 0)), (.iload_n 2, 1, (2, 0, 0, 0, 0)), (.iconst 3, 1, (0, 0, 0, 3, 0)), (.iadd, 1, (0, 0, 0, 0, 0)), (.invokevirtual 132, 3, (0, 0, 0, 0, 0)), (.aload_n 0, 1, (0, 0, 0, 0, 0)), (.iload_n 2, 1, (2, 0, 0, 0, 0)), (.iconst 1, 1, (0, 0, 0, 1, 0)), (.iadd, 1, (0, 0, 0, 0, 0)), (.aload_n 0, 1, (0, 0, 0, 0, 0)), (.getfield 77, 3, (10, 2, 667, 0, 0)), (.iconst 3, 1, (0, 0, 0, 3, 0)), (.ishl, 1, (0, 0, 0, 0, 0)), (.iconst 4, 1, (0, 0, 0, 4, 0)), (.ior, 1, (0, 0, 0, 0, 0)), (.invokevirtual 102, 3, (0, 0, 0, 0, 0))]
theorem oo_BO_make_0 : jokL "ChessHouse$Board" lw_tbl jcl jtb 11 false prog_3_method_21_code 0 kk_BO_make_0 = true := jokLF_ok (fun _ _ => jtF_ok) lo_BO (by decide +kernel)
def kk_BO_make_172 : List jI := [(.goto 39, 3, (211, 0, 0, 0, 0)), (.iload 6, 2, (6, 0, 0, 0, 0)), (.bipush 6, 2, (0, 0, 0, 6, 0)), (.if_icmp .ne 32, 3, (211, 0, 0, 0, 0)), (.iload_n 2, 1, (2, 0, 0, 0, 0)), (.iload_n 3, 1, (3, 0, 0, 0, 0)), (.isub, 1, (0, 0, 0, 0, 0)), (.iconst 2, 1, (0, 0, 0, 2, 0)), (.if_icmp .ne 25, 3, (211, 0, 0, 0, 0)), (.aload_n 0, 1, (0, 0, 0, 0, 0)), (.iload_n 2, 1, (2, 0, 0, 0, 0)), (.iconst 4, 1, (0, 0, 0, 4, 0)), (.isub, 1, (0, 0, 0, 0, 0)), (.invokevirtual 132, 3, (0, 0, 0, 0, 0)), (.aload_n 0, 1, (0, 0, 0, 0, 0)), (.iload_n 2, 1, (2, 0, 0, 0, 0)), (.iconst 1, 1, (0, 0, 0, 1, 0)), (.isub, 1, (0, 0, 0, 0, 0)), (.aload_n 0, 1, (0, 0, 0, 0, 0)), (.getfield 77, 3, (10, 2, 667, 0, 0)), (.iconst 3, 1, (0, 0, 0, 3, 0)), (.ishl, 1, (0, 0, 0, 0, 0)), (.iconst 4, 1, (0, 0, 0, 4, 0)), (.ior, 1, (0, 0, 0, 0, 0)), (.invokevirtual 102, 3, (0, 0, 0, 0, 0)), (.aload_n 0, 1, (0, 0, 0, 0, 0)), (.dup, 1, (0, 0, 0, 0, 0)), (.getfield 81, 3, (10, 3, 669, 0, 0)), (.getstatic 135, 3, (4, 0, 1307, 0, 0)), (.iload_n 2, 1, (2, 0, 0, 0, 0)), (.iaload, 1, (0, 0, 0, 0, 0)), (.getstatic 135, 3, (4, 0, 1307, 0, 0)), (.iload_n 3, 1, (3, 0, 0, 0, 0)), (.iaload, 1, (0, 0, 0, 0, 0)), (.iand, 1, (0, 0, 0, 0, 0)), (.iand, 1, (0, 0, 0, 0, 0)), (.putfield 81, 3, (10, 3, 669, 0, 0)), (.aload_n 0, 1, (0, 0, 0, 0, 0)), (.iload 6, 2, (6, 0, 0, 0, 0)), (.iconst 1, 1, (0, 0, 0, 1, 0)), (.if_icmp .ne 12, 3, (247, 0, 0, 0, 0)), (.aload_n 0, 1, (0, 0, 0, 0, 0)), (.iload_n 2, 1, (2, 0, 0, 0, 0)), (.iload_n 3, 1, (3, 0, 0, 0, 0)), (.invokevirtual 138, 3, (0, 0, 0, 0, 0)), (.goto 4, 3, (248, 0, 0, 0, 0)), (.iconst (-1), 1, (0, 0, 0, (-1), 0)), (.putfield 84, 3, (10, 4, 670, 0, 0)), (.aload_n 0, 1, (0, 0, 0, 0, 0)), (.iload 6, 2, (6, 0, 0, 0, 0)), (.iconst 1, 1, (0, 0, 0, 1, 0)), (.if_icmp .eq 8, 3, (263, 0, 0, 0, 0)), (.iload 8, 2, (8, 0, 0, 0, 0)), (.ifCond .eq 7, 3, (267, 0, 0, 0, 0)), (.iconst 0, 1, (0, 0, 0, 0, 0)), (.goto 9, 3, (273, 0, 0, 0, 0)), (.aload_n 0, 1, (0, 0, 0, 0, 0)), (.getfield 87, 3, (10, 5, 671, 0, 0)), (.iconst 1, 1, (0, 0, 0, 1, 0)), (.iadd, 1, (0, 0, 0, 0, 0)), (.putfield 87, 3, (10, 5, 671, 0, 0)), (.aload_n 0, 1, (0, 0, 0, 0, 0)), (.dup, 1, (0, 0, 0, 0, 0)), (.getfield 90, 3, (10, 6, 674, 0, 0)), (.aload_n 0, 1, (0, 0, 0, 0, 0)), (.getfield 77, 3, (10, 2, 667, 0, 0)), (.iadd, 1, (0, 0, 0, 0, 0)), (.putfield 90, 3, (10, 6, 674, 0, 0)), (.aload_n 0, 1, (0, 0, 0, 0, 0)), (.dup, 1, (0, 0, 0, 0, 0)), (.getfield 77, 3, (10, 2, 667, 0, 0)), (.iconst 1, 1, (0, 0, 0, 1, 0)), (.ixor, 1, (0, 0, 0, 0, 0)), (.putfield 77, 3, (10, 2, 667, 0, 0)), (.lload 9, 2, (9, 0, 0, 0, 0)), (.lreturn, 1, (0, 0, 0, 0, 0))]
theorem oo_BO_make_172 : jokL "ChessHouse$Board" lw_tbl jcl jtb 11 false prog_3_method_21_code 172 kk_BO_make_172 = true := jokLF_ok (fun _ _ => jtF_ok) lo_BO (by decide +kernel)
def k_BO_make_0 : List jI := [(.iload_n 1, 1, (1, 0, 0, 0, 0)), (.bipush 9, 2, (0, 0, 0, 9, 0)), (.ishr, 1, (0, 0, 0, 0, 0)), (.istore_n 2, 1, (2, 0, 0, 0, 0)), (.iload_n 1, 1, (1, 0, 0, 0, 0)), (.iconst 3, 1, (0, 0, 0, 3, 0)), (.ishr, 1, (0, 0, 0, 0, 0)), (.bipush 63, 2, (0, 0, 0, 63, 0)), (.iand, 1, (0, 0, 0, 0, 0)), (.istore_n 3, 1, (3, 0, 0, 0, 0)), (.iload_n 1, 1, (1, 0, 0, 0, 0)), (.bipush 7, 2, (0, 0, 0, 7, 0)), (.iand, 1, (0, 0, 0, 0, 0)), (.istore 4, 2, (4, 0, 0, 0, 0))]
theorem o_BO_make_0 : jokL "ChessHouse$Board" lw_tbl jcl jtb 11 false prog_3_method_21_code 0 k_BO_make_0 = true := jok_sub oo_BO_make_0 0 14 rfl rfl
def k_BO_make_18 : List jI := [(.aload_n 0, 1, (0, 0, 0, 0, 0)), (.getfield 7, 3, (10, 0, 660, 0, 0)), (.iload_n 2, 1, (2, 0, 0, 0, 0)), (.iaload, 1, (0, 0, 0, 0, 0)), (.istore 5, 2, (5, 0, 0, 0, 0)), (.iload 5, 2, (5, 0, 0, 0, 0)), (.bipush 7, 2, (0, 0, 0, 7, 0)), (.iand, 1, (0, 0, 0, 0, 0)), (.istore 6, 2, (6, 0, 0, 0, 0))]
theorem o_BO_make_18 : jokL "ChessHouse$Board" lw_tbl jcl jtb 11 false prog_3_method_21_code 18 k_BO_make_18 = true := jok_sub oo_BO_make_0 14 9 rfl rfl
def k_BO_make_33 : List jI := [(.iload 6, 2, (6, 0, 0, 0, 0)), (.iconst 1, 1, (0, 0, 0, 1, 0)), (.if_icmp .ne 18, 3, (54, 0, 0, 0, 0)), (.iload_n 3, 1, (3, 0, 0, 0, 0)), (.aload_n 0, 1, (0, 0, 0, 0, 0)), (.getfield 84, 3, (10, 4, 670, 0, 0)), (.if_icmp .ne 10, 3, (54, 0, 0, 0, 0)), (.aload_n 0, 1, (0, 0, 0, 0, 0))]
theorem o_BO_make_33 : jokL "ChessHouse$Board" lw_tbl jcl jtb 11 false prog_3_method_21_code 33 k_BO_make_33 = true := jok_sub oo_BO_make_0 23 8 rfl rfl
def k_BO_make_51 : List jI := [(.goto 4, 3, (55, 0, 0, 0, 0))]
theorem o_BO_make_51 : jokL "ChessHouse$Board" lw_tbl jcl jtb 11 false prog_3_method_21_code 51 k_BO_make_51 = true := jok_sub oo_BO_make_0 32 1 rfl rfl
def k_BO_make_54 : List jI := [(.iload_n 3, 1, (3, 0, 0, 0, 0))]
theorem o_BO_make_54 : jokL "ChessHouse$Board" lw_tbl jcl jtb 11 false prog_3_method_21_code 54 k_BO_make_54 = true := jok_sub oo_BO_make_0 33 1 rfl rfl
def k_BO_make_55 : List jI := [(.istore 7, 2, (7, 0, 0, 0, 0)), (.aload_n 0, 1, (0, 0, 0, 0, 0)), (.getfield 7, 3, (10, 0, 660, 0, 0)), (.iload 7, 2, (7, 0, 0, 0, 0)), (.iaload, 1, (0, 0, 0, 0, 0)), (.istore 8, 2, (8, 0, 0, 0, 0))]
theorem o_BO_make_55 : jokL "ChessHouse$Board" lw_tbl jcl jtb 11 false prog_3_method_21_code 55 k_BO_make_55 = true := jok_sub oo_BO_make_0 34 6 rfl rfl
def k_BO_make_66 : List jI := [(.iload 8, 2, (8, 0, 0, 0, 0)), (.aload_n 0, 1, (0, 0, 0, 0, 0)), (.getfield 81, 3, (10, 3, 669, 0, 0)), (.iconst 4, 1, (0, 0, 0, 4, 0)), (.ishl, 1, (0, 0, 0, 0, 0)), (.ior, 1, (0, 0, 0, 0, 0)), (.aload_n 0, 1, (0, 0, 0, 0, 0)), (.getfield 84, 3, (10, 4, 670, 0, 0)), (.iconst 1, 1, (0, 0, 0, 1, 0)), (.iadd, 1, (0, 0, 0, 0, 0)), (.bipush 8, 2, (0, 0, 0, 8, 0)), (.ishl, 1, (0, 0, 0, 0, 0)), (.ior, 1, (0, 0, 0, 0, 0)), (.i2l, 1, (0, 0, 0, 0, 0)), (.aload_n 0, 1, (0, 0, 0, 0, 0)), (.getfield 87, 3, (10, 5, 671, 0, 0)), (.i2l, 1, (0, 0, 0, 0, 0)), (.bipush 16, 2, (0, 0, 0, 16, 0)), (.lshl, 1, (0, 0, 0, 0, 0)), (.lor, 1, (0, 0, 0, 0, 0)), (.lstore 9, 2, (9, 0, 0, 0, 0)), (.aload_n 0, 1, (0, 0, 0, 0, 0)), (.iload_n 2, 1, (2, 0, 0, 0, 0))]
theorem o_BO_make_66 : jokL "ChessHouse$Board" lw_tbl jcl jtb 11 false prog_3_method_21_code 66 k_BO_make_66 = true := jok_sub oo_BO_make_0 40 23 rfl rfl
def k_BO_make_102 : List jI := [(.iload 8, 2, (8, 0, 0, 0, 0)), (.ifCond .eq 9, 3, (113, 0, 0, 0, 0)), (.aload_n 0, 1, (0, 0, 0, 0, 0)), (.iload 7, 2, (7, 0, 0, 0, 0))]
theorem o_BO_make_102 : jokL "ChessHouse$Board" lw_tbl jcl jtb 11 false prog_3_method_21_code 102 k_BO_make_102 = true := jok_sub oo_BO_make_0 64 4 rfl rfl
def k_BO_make_113 : List jI := [(.aload_n 0, 1, (0, 0, 0, 0, 0)), (.iload_n 3, 1, (3, 0, 0, 0, 0)), (.iload 4, 2, (4, 0, 0, 0, 0)), (.ifCond .ne 8, 3, (125, 0, 0, 0, 0)), (.iload 5, 2, (5, 0, 0, 0, 0)), (.goto 11, 3, (133, 0, 0, 0, 0))]
theorem o_BO_make_113 : jokL "ChessHouse$Board" lw_tbl jcl jtb 11 false prog_3_method_21_code 113 k_BO_make_113 = true := jok_sub oo_BO_make_0 69 6 rfl rfl
def k_BO_make_125 : List jI := [(.iload 5, 2, (5, 0, 0, 0, 0)), (.bipush 8, 2, (0, 0, 0, 8, 0)), (.iand, 1, (0, 0, 0, 0, 0)), (.iload 4, 2, (4, 0, 0, 0, 0)), (.ior, 1, (0, 0, 0, 0, 0))]
theorem o_BO_make_125 : jokL "ChessHouse$Board" lw_tbl jcl jtb 11 false prog_3_method_21_code 125 k_BO_make_125 = true := jok_sub oo_BO_make_0 75 5 rfl rfl
def k_BO_make_136 : List jI := [(.iload 6, 2, (6, 0, 0, 0, 0)), (.bipush 6, 2, (0, 0, 0, 6, 0)), (.if_icmp .ne 35, 3, (175, 0, 0, 0, 0)), (.iload_n 3, 1, (3, 0, 0, 0, 0)), (.iload_n 2, 1, (2, 0, 0, 0, 0)), (.isub, 1, (0, 0, 0, 0, 0)), (.iconst 2, 1, (0, 0, 0, 2, 0)), (.if_icmp .ne 28, 3, (175, 0, 0, 0, 0)), (.aload_n 0, 1, (0, 0, 0, 0, 0)), (.iload_n 2, 1, (2, 0, 0, 0, 0)), (.iconst 3, 1, (0, 0, 0, 3, 0)), (.iadd, 1, (0, 0, 0, 0, 0))]
theorem o_BO_make_136 : jokL "ChessHouse$Board" lw_tbl jcl jtb 11 false prog_3_method_21_code 136 k_BO_make_136 = true := jok_sub oo_BO_make_0 81 12 rfl rfl
def k_BO_make_157 : List jI := [(.aload_n 0, 1, (0, 0, 0, 0, 0)), (.iload_n 2, 1, (2, 0, 0, 0, 0)), (.iconst 1, 1, (0, 0, 0, 1, 0)), (.iadd, 1, (0, 0, 0, 0, 0)), (.aload_n 0, 1, (0, 0, 0, 0, 0)), (.getfield 77, 3, (10, 2, 667, 0, 0)), (.iconst 3, 1, (0, 0, 0, 3, 0)), (.ishl, 1, (0, 0, 0, 0, 0)), (.iconst 4, 1, (0, 0, 0, 4, 0)), (.ior, 1, (0, 0, 0, 0, 0))]
theorem o_BO_make_157 : jokL "ChessHouse$Board" lw_tbl jcl jtb 11 false prog_3_method_21_code 157 k_BO_make_157 = true := jok_sub oo_BO_make_0 94 10 rfl rfl
def k_BO_make_172 : List jI := [(.goto 39, 3, (211, 0, 0, 0, 0))]
theorem o_BO_make_172 : jokL "ChessHouse$Board" lw_tbl jcl jtb 11 false prog_3_method_21_code 172 k_BO_make_172 = true := jok_sub oo_BO_make_172 0 1 rfl rfl
def k_BO_make_175 : List jI := [(.iload 6, 2, (6, 0, 0, 0, 0)), (.bipush 6, 2, (0, 0, 0, 6, 0)), (.if_icmp .ne 32, 3, (211, 0, 0, 0, 0)), (.iload_n 2, 1, (2, 0, 0, 0, 0)), (.iload_n 3, 1, (3, 0, 0, 0, 0)), (.isub, 1, (0, 0, 0, 0, 0)), (.iconst 2, 1, (0, 0, 0, 2, 0)), (.if_icmp .ne 25, 3, (211, 0, 0, 0, 0)), (.aload_n 0, 1, (0, 0, 0, 0, 0)), (.iload_n 2, 1, (2, 0, 0, 0, 0)), (.iconst 4, 1, (0, 0, 0, 4, 0)), (.isub, 1, (0, 0, 0, 0, 0))]
theorem o_BO_make_175 : jokL "ChessHouse$Board" lw_tbl jcl jtb 11 false prog_3_method_21_code 175 k_BO_make_175 = true := jok_sub oo_BO_make_172 1 12 rfl rfl
def k_BO_make_196 : List jI := [(.aload_n 0, 1, (0, 0, 0, 0, 0)), (.iload_n 2, 1, (2, 0, 0, 0, 0)), (.iconst 1, 1, (0, 0, 0, 1, 0)), (.isub, 1, (0, 0, 0, 0, 0)), (.aload_n 0, 1, (0, 0, 0, 0, 0)), (.getfield 77, 3, (10, 2, 667, 0, 0)), (.iconst 3, 1, (0, 0, 0, 3, 0)), (.ishl, 1, (0, 0, 0, 0, 0)), (.iconst 4, 1, (0, 0, 0, 4, 0)), (.ior, 1, (0, 0, 0, 0, 0))]
theorem o_BO_make_196 : jokL "ChessHouse$Board" lw_tbl jcl jtb 11 false prog_3_method_21_code 196 k_BO_make_196 = true := jok_sub oo_BO_make_172 14 10 rfl rfl
def k_BO_make_211 : List jI := [(.aload_n 0, 1, (0, 0, 0, 0, 0)), (.dup, 1, (0, 0, 0, 0, 0)), (.getfield 81, 3, (10, 3, 669, 0, 0)), (.getstatic 135, 3, (4, 0, 1307, 0, 0)), (.iload_n 2, 1, (2, 0, 0, 0, 0)), (.iaload, 1, (0, 0, 0, 0, 0)), (.getstatic 135, 3, (4, 0, 1307, 0, 0)), (.iload_n 3, 1, (3, 0, 0, 0, 0)), (.iaload, 1, (0, 0, 0, 0, 0)), (.iand, 1, (0, 0, 0, 0, 0)), (.iand, 1, (0, 0, 0, 0, 0)), (.putfield 81, 3, (10, 3, 669, 0, 0))]
theorem o_BO_make_211 : jokL "ChessHouse$Board" lw_tbl jcl jtb 11 false prog_3_method_21_code 211 k_BO_make_211 = true := jok_sub oo_BO_make_172 25 12 rfl rfl
def k_BO_make_231 : List jI := [(.aload_n 0, 1, (0, 0, 0, 0, 0)), (.iload 6, 2, (6, 0, 0, 0, 0)), (.iconst 1, 1, (0, 0, 0, 1, 0)), (.if_icmp .ne 12, 3, (247, 0, 0, 0, 0)), (.aload_n 0, 1, (0, 0, 0, 0, 0)), (.iload_n 2, 1, (2, 0, 0, 0, 0)), (.iload_n 3, 1, (3, 0, 0, 0, 0))]
theorem o_BO_make_231 : jokL "ChessHouse$Board" lw_tbl jcl jtb 11 false prog_3_method_21_code 231 k_BO_make_231 = true := jok_sub oo_BO_make_172 37 7 rfl rfl
def k_BO_make_244 : List jI := [(.goto 4, 3, (248, 0, 0, 0, 0))]
theorem o_BO_make_244 : jokL "ChessHouse$Board" lw_tbl jcl jtb 11 false prog_3_method_21_code 244 k_BO_make_244 = true := jok_sub oo_BO_make_172 45 1 rfl rfl
def k_BO_make_247 : List jI := [(.iconst (-1), 1, (0, 0, 0, (-1), 0))]
theorem o_BO_make_247 : jokL "ChessHouse$Board" lw_tbl jcl jtb 11 false prog_3_method_21_code 247 k_BO_make_247 = true := jok_sub oo_BO_make_172 46 1 rfl rfl
def k_BO_make_248 : List jI := [(.putfield 84, 3, (10, 4, 670, 0, 0))]
theorem o_BO_make_248 : jokL "ChessHouse$Board" lw_tbl jcl jtb 11 false prog_3_method_21_code 248 k_BO_make_248 = true := jok_sub oo_BO_make_172 47 1 rfl rfl
def k_BO_make_251 : List jI := [(.aload_n 0, 1, (0, 0, 0, 0, 0)), (.iload 6, 2, (6, 0, 0, 0, 0)), (.iconst 1, 1, (0, 0, 0, 1, 0)), (.if_icmp .eq 8, 3, (263, 0, 0, 0, 0)), (.iload 8, 2, (8, 0, 0, 0, 0)), (.ifCond .eq 7, 3, (267, 0, 0, 0, 0))]
theorem o_BO_make_251 : jokL "ChessHouse$Board" lw_tbl jcl jtb 11 false prog_3_method_21_code 251 k_BO_make_251 = true := jok_sub oo_BO_make_172 48 6 rfl rfl
def k_BO_make_263 : List jI := [(.iconst 0, 1, (0, 0, 0, 0, 0)), (.goto 9, 3, (273, 0, 0, 0, 0))]
theorem o_BO_make_263 : jokL "ChessHouse$Board" lw_tbl jcl jtb 11 false prog_3_method_21_code 263 k_BO_make_263 = true := jok_sub oo_BO_make_172 54 2 rfl rfl
def k_BO_make_267 : List jI := [(.aload_n 0, 1, (0, 0, 0, 0, 0)), (.getfield 87, 3, (10, 5, 671, 0, 0)), (.iconst 1, 1, (0, 0, 0, 1, 0)), (.iadd, 1, (0, 0, 0, 0, 0))]
theorem o_BO_make_267 : jokL "ChessHouse$Board" lw_tbl jcl jtb 11 false prog_3_method_21_code 267 k_BO_make_267 = true := jok_sub oo_BO_make_172 56 4 rfl rfl
def k_BO_make_273 : List jI := [(.putfield 87, 3, (10, 5, 671, 0, 0))]
theorem o_BO_make_273 : jokL "ChessHouse$Board" lw_tbl jcl jtb 11 false prog_3_method_21_code 273 k_BO_make_273 = true := jok_sub oo_BO_make_172 60 1 rfl rfl
def k_BO_make_276 : List jI := [(.aload_n 0, 1, (0, 0, 0, 0, 0)), (.dup, 1, (0, 0, 0, 0, 0)), (.getfield 90, 3, (10, 6, 674, 0, 0)), (.aload_n 0, 1, (0, 0, 0, 0, 0)), (.getfield 77, 3, (10, 2, 667, 0, 0)), (.iadd, 1, (0, 0, 0, 0, 0)), (.putfield 90, 3, (10, 6, 674, 0, 0))]
theorem o_BO_make_276 : jokL "ChessHouse$Board" lw_tbl jcl jtb 11 false prog_3_method_21_code 276 k_BO_make_276 = true := jok_sub oo_BO_make_172 61 7 rfl rfl
def k_BO_make_289 : List jI := [(.aload_n 0, 1, (0, 0, 0, 0, 0)), (.dup, 1, (0, 0, 0, 0, 0)), (.getfield 77, 3, (10, 2, 667, 0, 0)), (.iconst 1, 1, (0, 0, 0, 1, 0)), (.ixor, 1, (0, 0, 0, 0, 0)), (.putfield 77, 3, (10, 2, 667, 0, 0)), (.lload 9, 2, (9, 0, 0, 0, 0))]
theorem o_BO_make_289 : jokL "ChessHouse$Board" lw_tbl jcl jtb 11 false prog_3_method_21_code 289 k_BO_make_289 = true := jok_sub oo_BO_make_172 68 7 rfl rfl
theorem d_BO_make_48 : decode prog_3_method_21_code 48 = .ok (.invokevirtual 125, 3) := by decide +kernel
theorem q_BO_make_48 : jlm lw_tbl 1179 "ChessHouse$Board" 125 ⟨"ChessHouse$Board", "passedPawn", "()I"⟩ = true := jlm_of (Or.inl (jtF_ok rfl))
theorem d_BO_make_99 : decode prog_3_method_21_code 99 = .ok (.invokevirtual 132, 3) := by decide +kernel
theorem q_BO_make_99 : jlm lw_tbl 1286 "ChessHouse$Board" 132 ⟨"ChessHouse$Board", "lift", "(I)V"⟩ = true := jlm_of (Or.inl (jtF_ok rfl))
theorem d_BO_make_110 : decode prog_3_method_21_code 110 = .ok (.invokevirtual 132, 3) := by decide +kernel
theorem q_BO_make_110 : jlm lw_tbl 1286 "ChessHouse$Board" 132 ⟨"ChessHouse$Board", "lift", "(I)V"⟩ = true := jlm_of (Or.inl (jtF_ok rfl))
theorem d_BO_make_133 : decode prog_3_method_21_code 133 = .ok (.invokevirtual 102, 3) := by decide +kernel
theorem q_BO_make_133 : jlm lw_tbl 656 "ChessHouse$Board" 102 ⟨"ChessHouse$Board", "put", "(II)V"⟩ = true := jlm_of (Or.inl (jtF_ok rfl))
theorem d_BO_make_154 : decode prog_3_method_21_code 154 = .ok (.invokevirtual 132, 3) := by decide +kernel
theorem q_BO_make_154 : jlm lw_tbl 1286 "ChessHouse$Board" 132 ⟨"ChessHouse$Board", "lift", "(I)V"⟩ = true := jlm_of (Or.inl (jtF_ok rfl))
theorem d_BO_make_169 : decode prog_3_method_21_code 169 = .ok (.invokevirtual 102, 3) := by decide +kernel
theorem q_BO_make_169 : jlm lw_tbl 656 "ChessHouse$Board" 102 ⟨"ChessHouse$Board", "put", "(II)V"⟩ = true := jlm_of (Or.inl (jtF_ok rfl))
theorem d_BO_make_193 : decode prog_3_method_21_code 193 = .ok (.invokevirtual 132, 3) := by decide +kernel
theorem q_BO_make_193 : jlm lw_tbl 1286 "ChessHouse$Board" 132 ⟨"ChessHouse$Board", "lift", "(I)V"⟩ = true := jlm_of (Or.inl (jtF_ok rfl))
theorem d_BO_make_208 : decode prog_3_method_21_code 208 = .ok (.invokevirtual 102, 3) := by decide +kernel
theorem q_BO_make_208 : jlm lw_tbl 656 "ChessHouse$Board" 102 ⟨"ChessHouse$Board", "put", "(II)V"⟩ = true := jlm_of (Or.inl (jtF_ok rfl))
theorem d_BO_make_241 : decode prog_3_method_21_code 241 = .ok (.invokevirtual 138, 3) := by decide +kernel
theorem q_BO_make_241 : jlm lw_tbl 1309 "ChessHouse$Board" 138 ⟨"ChessHouse$Board", "passedBy", "(II)I"⟩ = true := jlm_of (Or.inl (jtF_ok rfl))
theorem d_BO_make_301 : decode prog_3_method_21_code 301 = .ok (.lreturn, 1) := by decide +kernel
def y_BO_unmake : jY := (⟨"ChessHouse$Board", "unmake", "(IJ)V"⟩, prog_3_method_23_code, 9, none)
theorem m_BO_unmake : jmth lw_tbl y_BO_unmake 2 := ⟨jTA_in (wi := 1285) (jtF_ok rfl) rfl, jTA_in (wi := 312) (jtF_ok rfl) rfl, by decide, by decide, by decide +kernel⟩
theorem i_BO_unmake : Jvm.Cond.instanceMethod y_BO_unmake.1 ∈ jTA lw_tbl := jTA_in (wi := 1283) (jtF_ok rfl) rfl
theorem e_BO_unmake : Jvm.Cond.selects y_BO_unmake.1.cls y_BO_unmake.1 y_BO_unmake.1 ∈ jTA lw_tbl := jTA_in (wi := 1284) (jtF_ok rfl) rfl
def kk_BO_unmake_0 : List jI := [(.iload_n 1, 1, (1, 0, 0, 0, 0)), (.bipush 9, 2, (0, 0, 0, 9, 0)), (.ishr, 1, (0, 0, 0, 0, 0)), (.istore 4, 2, (4, 0, 0, 0, 0)), (.iload_n 1, 1, (1, 0, 0, 0, 0)), (.iconst 3, 1, (0, 0, 0, 3, 0)), (.ishr, 1, (0, 0, 0, 0, 0)), (.bipush 63, 2, (0, 0, 0, 63, 0)), (.iand, 1, (0, 0, 0, 0, 0)), (.istore 5, 2, (5, 0, 0, 0, 0)), (.aload_n 0, 1, (0, 0, 0, 0, 0)), (.dup, 1, (0, 0, 0, 0, 0)), (.getfield 77, 3, (10, 2, 667, 0, 0)), (.iconst 1, 1, (0, 0, 0, 1, 0)), (.ixor, 1, (0, 0, 0, 0, 0)), (.putfield 77, 3, (10, 2, 667, 0, 0)), (.aload_n 0, 1, (0, 0, 0, 0, 0)), (.dup, 1, (0, 0, 0, 0, 0)), (.getfield 90, 3, (10, 6, 674, 0, 0)), (.aload_n 0, 1, (0, 0, 0, 0, 0)), (.getfield 77, 3, (10, 2, 667, 0, 0)), (.isub, 1, (0, 0, 0, 0, 0)), (.putfield 90, 3, (10, 6, 674, 0, 0)), (.aload_n 0, 1, (0, 0, 0, 0, 0)), (.lload_n 2, 1, (2, 0, 0, 0, 0)), (.iconst 4, 1, (0, 0, 0, 4, 0)), (.lshr, 1, (0, 0, 0, 0, 0)), (.l2i, 1, (0, 0, 0, 0, 0)), (.bipush 15, 2, (0, 0, 0, 15, 0)), (.iand, 1, (0, 0, 0, 0, 0)), (.putfield 81, 3, (10, 3, 669, 0, 0)), (.aload_n 0, 1, (0, 0, 0, 0, 0)), (.lload_n 2, 1, (2, 0, 0, 0, 0)), (.bipush 8, 2, (0, 0, 0, 8, 0)), (.lshr, 1, (0, 0, 0, 0, 0)), (.l2i, 1, (0, 0, 0, 0, 0)), (.bipush 127, 2, (0, 0, 0, 127, 0)), (.iand, 1, (0, 0, 0, 0, 0)), (.iconst 1, 1, (0, 0, 0, 1, 0)), (.isub, 1, (0, 0, 0, 0, 0)), (.putfield 84, 3, (10, 4, 670, 0, 0)), (.aload_n 0, 1, (0, 0, 0, 0, 0)), (.lload_n 2, 1, (2, 0, 0, 0, 0)), (.bipush 16, 2, (0, 0, 0, 16, 0)), (.lshr, 1, (0, 0, 0, 0, 0)), (.l2i, 1, (0, 0, 0, 0, 0)), (.putfield 87, 3, (10, 5, 671, 0, 0)), (.iload_n 1, 1, (1, 0, 0, 0, 0)), (.bipush 7, 2, (0, 0, 0, 7, 0)), (.iand, 1, (0, 0, 0, 0, 0)), (.ifCond .ne 13, 3, (88, 0, 0, 0, 0)), (.aload_n 0, 1, (0, 0, 0, 0, 0)), (.getfield 7, 3, (10, 0, 660, 0, 0)), (.iload 5, 2, (5, 0, 0, 0, 0)), (.iaload, 1, (0, 0, 0, 0, 0)), (.goto 11, 3, (96, 0, 0, 0, 0)), (.aload_n 0, 1, (0, 0, 0, 0, 0)), (.getfield 77, 3, (10, 2, 667, 0, 0)), (.iconst 3, 1, (0, 0, 0, 3, 0)), (.ishl, 1, (0, 0, 0, 0, 0)), (.iconst 1, 1, (0, 0, 0, 1, 0)), (.ior, 1, (0, 0, 0, 0, 0)), (.istore 6, 2, (6, 0, 0, 0, 0)), (.iload 6, 2, (6, 0, 0, 0, 0)), (.bipush 7, 2, (0, 0, 0, 7, 0)), (.iand, 1, (0, 0, 0, 0, 0)), (.istore 7, 2, (7, 0, 0, 0, 0)), (.lload_n 2, 1, (2, 0, 0, 0, 0)), (.l2i, 1, (0, 0, 0, 0, 0)), (.bipush 15, 2, (0, 0, 0, 15, 0)), (.iand, 1, (0, 0, 0, 0, 0)), (.istore 8, 2, (8, 0, 0, 0, 0)), (.aload_n 0, 1, (0, 0, 0, 0, 0)), (.iload 5, 2, (5, 0, 0, 0, 0)), (.invokevirtual 132, 3, (0, 0, 0, 0, 0)), (.aload_n 0, 1, (0, 0, 0, 0, 0)), (.iload 4, 2, (4, 0, 0, 0, 0)), (.iload 6, 2, (6, 0, 0, 0, 0)), (.invokevirtual 102, 3, (0, 0, 0, 0, 0)), (.iload 8, 2, (8, 0, 0, 0, 0)), (.ifCond .eq 33, 3, (161, 0, 0, 0, 0)), (.aload_n 0, 1, (0, 0, 0, 0, 0)), (.iload 7, 2, (7, 0, 0, 0, 0)), (.iconst 1, 1, (0, 0, 0, 1, 0)), (.if_icmp .ne 19, 3, (154, 0, 0, 0, 0)), (.iload 5, 2, (5, 0, 0, 0, 0)), (.aload_n 0, 1, (0, 0, 0, 0, 0)), (.getfield 84, 3, (10, 4, 670, 0, 0)), (.if_icmp .ne 10, 3, (154, 0, 0, 0, 0)), (.aload_n 0, 1, (0, 0, 0, 0, 0)), (.invokevirtual 125, 3, (0, 0, 0, 0, 0)), (.goto 5, 3, (156, 0, 0, 0, 0)), (.iload 5, 2, (5, 0, 0, 0, 0)), (.iload 8, 2, (8, 0, 0, 0, 0)), (.invokevirtual 102, 3, (0, 0, 0, 0, 0)), (.iload 7, 2, (7, 0, 0, 0, 0)), (.bipush 6, 2, (0, 0, 0, 6, 0)), (.if_icmp .ne 39, 3, (204, 0, 0, 0, 0)), (.iload 5, 2, (5, 0, 0, 0, 0)), (.iload 4, 2, (4, 0, 0, 0, 0)), (.isub, 1, (0, 0, 0, 0, 0)), (.iconst 2, 1, (0, 0, 0, 2, 0)), (.if_icmp .ne 30, 3, (204, 0, 0, 0, 0)), (.aload_n 0, 1, (0, 0, 0, 0, 0)), (.iload 4, 2, (4, 0, 0, 0, 0)), (.iconst 1, 1, (0, 0, 0, 1, 0)), (.iadd, 1, (0, 0, 0, 0, 0)), (.invokevirtual 132, 3, (0, 0, 0, 0, 0))]
theorem oo_BO_unmake_0 : jokL "ChessHouse$Board" lw_tbl jcl jtb 9 false prog_3_method_23_code 0 kk_BO_unmake_0 = true := jokLF_ok (fun _ _ => jtF_ok) lo_BO (by decide +kernel)
def kk_BO_unmake_185 : List jI := [(.aload_n 0, 1, (0, 0, 0, 0, 0)), (.iload 4, 2, (4, 0, 0, 0, 0)), (.iconst 3, 1, (0, 0, 0, 3, 0)), (.iadd, 1, (0, 0, 0, 0, 0)), (.aload_n 0, 1, (0, 0, 0, 0, 0)), (.getfield 77, 3, (10, 2, 667, 0, 0)), (.iconst 3, 1, (0, 0, 0, 3, 0)), (.ishl, 1, (0, 0, 0, 0, 0)), (.iconst 4, 1, (0, 0, 0, 4, 0)), (.ior, 1, (0, 0, 0, 0, 0)), (.invokevirtual 102, 3, (0, 0, 0, 0, 0)), (.goto 43, 3, (244, 0, 0, 0, 0)), (.iload 7, 2, (7, 0, 0, 0, 0)), (.bipush 6, 2, (0, 0, 0, 6, 0)), (.if_icmp .ne 36, 3, (244, 0, 0, 0, 0)), (.iload 4, 2, (4, 0, 0, 0, 0)), (.iload 5, 2, (5, 0, 0, 0, 0)), (.isub, 1, (0, 0, 0, 0, 0)), (.iconst 2, 1, (0, 0, 0, 2, 0)), (.if_icmp .ne 27, 3, (244, 0, 0, 0, 0)), (.aload_n 0, 1, (0, 0, 0, 0, 0)), (.iload 4, 2, (4, 0, 0, 0, 0)), (.iconst 1, 1, (0, 0, 0, 1, 0)), (.isub, 1, (0, 0, 0, 0, 0)), (.invokevirtual 132, 3, (0, 0, 0, 0, 0)), (.aload_n 0, 1, (0, 0, 0, 0, 0)), (.iload 4, 2, (4, 0, 0, 0, 0)), (.iconst 4, 1, (0, 0, 0, 4, 0)), (.isub, 1, (0, 0, 0, 0, 0)), (.aload_n 0, 1, (0, 0, 0, 0, 0)), (.getfield 77, 3, (10, 2, 667, 0, 0)), (.iconst 3, 1, (0, 0, 0, 3, 0)), (.ishl, 1, (0, 0, 0, 0, 0)), (.iconst 4, 1, (0, 0, 0, 4, 0)), (.ior, 1, (0, 0, 0, 0, 0)), (.invokevirtual 102, 3, (0, 0, 0, 0, 0)), (.return_, 1, (0, 0, 0, 0, 0))]
theorem oo_BO_unmake_185 : jokL "ChessHouse$Board" lw_tbl jcl jtb 9 false prog_3_method_23_code 185 kk_BO_unmake_185 = true := jokLF_ok (fun _ _ => jtF_ok) lo_BO (by decide +kernel)
def k_BO_unmake_0 : List jI := [(.iload_n 1, 1, (1, 0, 0, 0, 0)), (.bipush 9, 2, (0, 0, 0, 9, 0)), (.ishr, 1, (0, 0, 0, 0, 0)), (.istore 4, 2, (4, 0, 0, 0, 0)), (.iload_n 1, 1, (1, 0, 0, 0, 0)), (.iconst 3, 1, (0, 0, 0, 3, 0)), (.ishr, 1, (0, 0, 0, 0, 0)), (.bipush 63, 2, (0, 0, 0, 63, 0)), (.iand, 1, (0, 0, 0, 0, 0)), (.istore 5, 2, (5, 0, 0, 0, 0))]
theorem o_BO_unmake_0 : jokL "ChessHouse$Board" lw_tbl jcl jtb 9 false prog_3_method_23_code 0 k_BO_unmake_0 = true := jok_sub oo_BO_unmake_0 0 10 rfl rfl
def k_BO_unmake_14 : List jI := [(.aload_n 0, 1, (0, 0, 0, 0, 0)), (.dup, 1, (0, 0, 0, 0, 0)), (.getfield 77, 3, (10, 2, 667, 0, 0)), (.iconst 1, 1, (0, 0, 0, 1, 0)), (.ixor, 1, (0, 0, 0, 0, 0)), (.putfield 77, 3, (10, 2, 667, 0, 0))]
theorem o_BO_unmake_14 : jokL "ChessHouse$Board" lw_tbl jcl jtb 9 false prog_3_method_23_code 14 k_BO_unmake_14 = true := jok_sub oo_BO_unmake_0 10 6 rfl rfl
def k_BO_unmake_24 : List jI := [(.aload_n 0, 1, (0, 0, 0, 0, 0)), (.dup, 1, (0, 0, 0, 0, 0)), (.getfield 90, 3, (10, 6, 674, 0, 0)), (.aload_n 0, 1, (0, 0, 0, 0, 0)), (.getfield 77, 3, (10, 2, 667, 0, 0)), (.isub, 1, (0, 0, 0, 0, 0)), (.putfield 90, 3, (10, 6, 674, 0, 0))]
theorem o_BO_unmake_24 : jokL "ChessHouse$Board" lw_tbl jcl jtb 9 false prog_3_method_23_code 24 k_BO_unmake_24 = true := jok_sub oo_BO_unmake_0 16 7 rfl rfl
def k_BO_unmake_37 : List jI := [(.aload_n 0, 1, (0, 0, 0, 0, 0)), (.lload_n 2, 1, (2, 0, 0, 0, 0)), (.iconst 4, 1, (0, 0, 0, 4, 0)), (.lshr, 1, (0, 0, 0, 0, 0)), (.l2i, 1, (0, 0, 0, 0, 0)), (.bipush 15, 2, (0, 0, 0, 15, 0)), (.iand, 1, (0, 0, 0, 0, 0)), (.putfield 81, 3, (10, 3, 669, 0, 0))]
theorem o_BO_unmake_37 : jokL "ChessHouse$Board" lw_tbl jcl jtb 9 false prog_3_method_23_code 37 k_BO_unmake_37 = true := jok_sub oo_BO_unmake_0 23 8 rfl rfl
def k_BO_unmake_48 : List jI := [(.aload_n 0, 1, (0, 0, 0, 0, 0)), (.lload_n 2, 1, (2, 0, 0, 0, 0)), (.bipush 8, 2, (0, 0, 0, 8, 0)), (.lshr, 1, (0, 0, 0, 0, 0)), (.l2i, 1, (0, 0, 0, 0, 0)), (.bipush 127, 2, (0, 0, 0, 127, 0)), (.iand, 1, (0, 0, 0, 0, 0)), (.iconst 1, 1, (0, 0, 0, 1, 0)), (.isub, 1, (0, 0, 0, 0, 0)), (.putfield 84, 3, (10, 4, 670, 0, 0))]
theorem o_BO_unmake_48 : jokL "ChessHouse$Board" lw_tbl jcl jtb 9 false prog_3_method_23_code 48 k_BO_unmake_48 = true := jok_sub oo_BO_unmake_0 31 10 rfl rfl
def k_BO_unmake_62 : List jI := [(.aload_n 0, 1, (0, 0, 0, 0, 0)), (.lload_n 2, 1, (2, 0, 0, 0, 0)), (.bipush 16, 2, (0, 0, 0, 16, 0)), (.lshr, 1, (0, 0, 0, 0, 0)), (.l2i, 1, (0, 0, 0, 0, 0)), (.putfield 87, 3, (10, 5, 671, 0, 0))]
theorem o_BO_unmake_62 : jokL "ChessHouse$Board" lw_tbl jcl jtb 9 false prog_3_method_23_code 62 k_BO_unmake_62 = true := jok_sub oo_BO_unmake_0 41 6 rfl rfl
def k_BO_unmake_71 : List jI := [(.iload_n 1, 1, (1, 0, 0, 0, 0)), (.bipush 7, 2, (0, 0, 0, 7, 0)), (.iand, 1, (0, 0, 0, 0, 0)), (.ifCond .ne 13, 3, (88, 0, 0, 0, 0)), (.aload_n 0, 1, (0, 0, 0, 0, 0)), (.getfield 7, 3, (10, 0, 660, 0, 0)), (.iload 5, 2, (5, 0, 0, 0, 0)), (.iaload, 1, (0, 0, 0, 0, 0)), (.goto 11, 3, (96, 0, 0, 0, 0))]
theorem o_BO_unmake_71 : jokL "ChessHouse$Board" lw_tbl jcl jtb 9 false prog_3_method_23_code 71 k_BO_unmake_71 = true := jok_sub oo_BO_unmake_0 47 9 rfl rfl
def k_BO_unmake_88 : List jI := [(.aload_n 0, 1, (0, 0, 0, 0, 0)), (.getfield 77, 3, (10, 2, 667, 0, 0)), (.iconst 3, 1, (0, 0, 0, 3, 0)), (.ishl, 1, (0, 0, 0, 0, 0)), (.iconst 1, 1, (0, 0, 0, 1, 0)), (.ior, 1, (0, 0, 0, 0, 0))]
theorem o_BO_unmake_88 : jokL "ChessHouse$Board" lw_tbl jcl jtb 9 false prog_3_method_23_code 88 k_BO_unmake_88 = true := jok_sub oo_BO_unmake_0 56 6 rfl rfl
def k_BO_unmake_96 : List jI := [(.istore 6, 2, (6, 0, 0, 0, 0)), (.iload 6, 2, (6, 0, 0, 0, 0)), (.bipush 7, 2, (0, 0, 0, 7, 0)), (.iand, 1, (0, 0, 0, 0, 0)), (.istore 7, 2, (7, 0, 0, 0, 0)), (.lload_n 2, 1, (2, 0, 0, 0, 0)), (.l2i, 1, (0, 0, 0, 0, 0)), (.bipush 15, 2, (0, 0, 0, 15, 0)), (.iand, 1, (0, 0, 0, 0, 0)), (.istore 8, 2, (8, 0, 0, 0, 0)), (.aload_n 0, 1, (0, 0, 0, 0, 0)), (.iload 5, 2, (5, 0, 0, 0, 0))]
theorem o_BO_unmake_96 : jokL "ChessHouse$Board" lw_tbl jcl jtb 9 false prog_3_method_23_code 96 k_BO_unmake_96 = true := jok_sub oo_BO_unmake_0 62 12 rfl rfl
def k_BO_unmake_118 : List jI := [(.aload_n 0, 1, (0, 0, 0, 0, 0)), (.iload 4, 2, (4, 0, 0, 0, 0)), (.iload 6, 2, (6, 0, 0, 0, 0))]
theorem o_BO_unmake_118 : jokL "ChessHouse$Board" lw_tbl jcl jtb 9 false prog_3_method_23_code 118 k_BO_unmake_118 = true := jok_sub oo_BO_unmake_0 75 3 rfl rfl
def k_BO_unmake_126 : List jI := [(.iload 8, 2, (8, 0, 0, 0, 0)), (.ifCond .eq 33, 3, (161, 0, 0, 0, 0)), (.aload_n 0, 1, (0, 0, 0, 0, 0)), (.iload 7, 2, (7, 0, 0, 0, 0)), (.iconst 1, 1, (0, 0, 0, 1, 0)), (.if_icmp .ne 19, 3, (154, 0, 0, 0, 0)), (.iload 5, 2, (5, 0, 0, 0, 0)), (.aload_n 0, 1, (0, 0, 0, 0, 0)), (.getfield 84, 3, (10, 4, 670, 0, 0)), (.if_icmp .ne 10, 3, (154, 0, 0, 0, 0)), (.aload_n 0, 1, (0, 0, 0, 0, 0))]
theorem o_BO_unmake_126 : jokL "ChessHouse$Board" lw_tbl jcl jtb 9 false prog_3_method_23_code 126 k_BO_unmake_126 = true := jok_sub oo_BO_unmake_0 79 11 rfl rfl
def k_BO_unmake_151 : List jI := [(.goto 5, 3, (156, 0, 0, 0, 0))]
theorem o_BO_unmake_151 : jokL "ChessHouse$Board" lw_tbl jcl jtb 9 false prog_3_method_23_code 151 k_BO_unmake_151 = true := jok_sub oo_BO_unmake_0 91 1 rfl rfl
def k_BO_unmake_154 : List jI := [(.iload 5, 2, (5, 0, 0, 0, 0))]
theorem o_BO_unmake_154 : jokL "ChessHouse$Board" lw_tbl jcl jtb 9 false prog_3_method_23_code 154 k_BO_unmake_154 = true := jok_sub oo_BO_unmake_0 92 1 rfl rfl
def k_BO_unmake_156 : List jI := [(.iload 8, 2, (8, 0, 0, 0, 0))]
theorem o_BO_unmake_156 : jokL "ChessHouse$Board" lw_tbl jcl jtb 9 false prog_3_method_23_code 156 k_BO_unmake_156 = true := jok_sub oo_BO_unmake_0 93 1 rfl rfl
def k_BO_unmake_161 : List jI := [(.iload 7, 2, (7, 0, 0, 0, 0)), (.bipush 6, 2, (0, 0, 0, 6, 0)), (.if_icmp .ne 39, 3, (204, 0, 0, 0, 0)), (.iload 5, 2, (5, 0, 0, 0, 0)), (.iload 4, 2, (4, 0, 0, 0, 0)), (.isub, 1, (0, 0, 0, 0, 0)), (.iconst 2, 1, (0, 0, 0, 2, 0)), (.if_icmp .ne 30, 3, (204, 0, 0, 0, 0)), (.aload_n 0, 1, (0, 0, 0, 0, 0)), (.iload 4, 2, (4, 0, 0, 0, 0)), (.iconst 1, 1, (0, 0, 0, 1, 0)), (.iadd, 1, (0, 0, 0, 0, 0))]
theorem o_BO_unmake_161 : jokL "ChessHouse$Board" lw_tbl jcl jtb 9 false prog_3_method_23_code 161 k_BO_unmake_161 = true := jok_sub oo_BO_unmake_0 95 12 rfl rfl
def k_BO_unmake_185 : List jI := [(.aload_n 0, 1, (0, 0, 0, 0, 0)), (.iload 4, 2, (4, 0, 0, 0, 0)), (.iconst 3, 1, (0, 0, 0, 3, 0)), (.iadd, 1, (0, 0, 0, 0, 0)), (.aload_n 0, 1, (0, 0, 0, 0, 0)), (.getfield 77, 3, (10, 2, 667, 0, 0)), (.iconst 3, 1, (0, 0, 0, 3, 0)), (.ishl, 1, (0, 0, 0, 0, 0)), (.iconst 4, 1, (0, 0, 0, 4, 0)), (.ior, 1, (0, 0, 0, 0, 0))]
theorem o_BO_unmake_185 : jokL "ChessHouse$Board" lw_tbl jcl jtb 9 false prog_3_method_23_code 185 k_BO_unmake_185 = true := jok_sub oo_BO_unmake_185 0 10 rfl rfl
def k_BO_unmake_201 : List jI := [(.goto 43, 3, (244, 0, 0, 0, 0))]
theorem o_BO_unmake_201 : jokL "ChessHouse$Board" lw_tbl jcl jtb 9 false prog_3_method_23_code 201 k_BO_unmake_201 = true := jok_sub oo_BO_unmake_185 11 1 rfl rfl
def k_BO_unmake_204 : List jI := [(.iload 7, 2, (7, 0, 0, 0, 0)), (.bipush 6, 2, (0, 0, 0, 6, 0)), (.if_icmp .ne 36, 3, (244, 0, 0, 0, 0)), (.iload 4, 2, (4, 0, 0, 0, 0)), (.iload 5, 2, (5, 0, 0, 0, 0)), (.isub, 1, (0, 0, 0, 0, 0)), (.iconst 2, 1, (0, 0, 0, 2, 0)), (.if_icmp .ne 27, 3, (244, 0, 0, 0, 0)), (.aload_n 0, 1, (0, 0, 0, 0, 0)), (.iload 4, 2, (4, 0, 0, 0, 0)), (.iconst 1, 1, (0, 0, 0, 1, 0)), (.isub, 1, (0, 0, 0, 0, 0))]
theorem o_BO_unmake_204 : jokL "ChessHouse$Board" lw_tbl jcl jtb 9 false prog_3_method_23_code 204 k_BO_unmake_204 = true := jok_sub oo_BO_unmake_185 12 12 rfl rfl
def k_BO_unmake_228 : List jI := [(.aload_n 0, 1, (0, 0, 0, 0, 0)), (.iload 4, 2, (4, 0, 0, 0, 0)), (.iconst 4, 1, (0, 0, 0, 4, 0)), (.isub, 1, (0, 0, 0, 0, 0)), (.aload_n 0, 1, (0, 0, 0, 0, 0)), (.getfield 77, 3, (10, 2, 667, 0, 0)), (.iconst 3, 1, (0, 0, 0, 3, 0)), (.ishl, 1, (0, 0, 0, 0, 0)), (.iconst 4, 1, (0, 0, 0, 4, 0)), (.ior, 1, (0, 0, 0, 0, 0))]
theorem o_BO_unmake_228 : jokL "ChessHouse$Board" lw_tbl jcl jtb 9 false prog_3_method_23_code 228 k_BO_unmake_228 = true := jok_sub oo_BO_unmake_185 25 10 rfl rfl
theorem d_BO_unmake_115 : decode prog_3_method_23_code 115 = .ok (.invokevirtual 132, 3) := by decide +kernel
theorem q_BO_unmake_115 : jlm lw_tbl 1286 "ChessHouse$Board" 132 ⟨"ChessHouse$Board", "lift", "(I)V"⟩ = true := jlm_of (Or.inl (jtF_ok rfl))
theorem d_BO_unmake_123 : decode prog_3_method_23_code 123 = .ok (.invokevirtual 102, 3) := by decide +kernel
theorem q_BO_unmake_123 : jlm lw_tbl 656 "ChessHouse$Board" 102 ⟨"ChessHouse$Board", "put", "(II)V"⟩ = true := jlm_of (Or.inl (jtF_ok rfl))
theorem d_BO_unmake_148 : decode prog_3_method_23_code 148 = .ok (.invokevirtual 125, 3) := by decide +kernel
theorem q_BO_unmake_148 : jlm lw_tbl 1179 "ChessHouse$Board" 125 ⟨"ChessHouse$Board", "passedPawn", "()I"⟩ = true := jlm_of (Or.inl (jtF_ok rfl))
theorem d_BO_unmake_158 : decode prog_3_method_23_code 158 = .ok (.invokevirtual 102, 3) := by decide +kernel
theorem q_BO_unmake_158 : jlm lw_tbl 656 "ChessHouse$Board" 102 ⟨"ChessHouse$Board", "put", "(II)V"⟩ = true := jlm_of (Or.inl (jtF_ok rfl))
theorem d_BO_unmake_182 : decode prog_3_method_23_code 182 = .ok (.invokevirtual 132, 3) := by decide +kernel
theorem q_BO_unmake_182 : jlm lw_tbl 1286 "ChessHouse$Board" 132 ⟨"ChessHouse$Board", "lift", "(I)V"⟩ = true := jlm_of (Or.inl (jtF_ok rfl))
theorem d_BO_unmake_198 : decode prog_3_method_23_code 198 = .ok (.invokevirtual 102, 3) := by decide +kernel
theorem q_BO_unmake_198 : jlm lw_tbl 656 "ChessHouse$Board" 102 ⟨"ChessHouse$Board", "put", "(II)V"⟩ = true := jlm_of (Or.inl (jtF_ok rfl))
theorem d_BO_unmake_225 : decode prog_3_method_23_code 225 = .ok (.invokevirtual 132, 3) := by decide +kernel
theorem q_BO_unmake_225 : jlm lw_tbl 1286 "ChessHouse$Board" 132 ⟨"ChessHouse$Board", "lift", "(I)V"⟩ = true := jlm_of (Or.inl (jtF_ok rfl))
theorem d_BO_unmake_241 : decode prog_3_method_23_code 241 = .ok (.invokevirtual 102, 3) := by decide +kernel
theorem q_BO_unmake_241 : jlm lw_tbl 656 "ChessHouse$Board" 102 ⟨"ChessHouse$Board", "put", "(II)V"⟩ = true := jlm_of (Or.inl (jtF_ok rfl))
theorem d_BO_unmake_244 : decode prog_3_method_23_code 244 = .ok (.return_, 1) := by decide +kernel
def menOK (men : Nat → Int32) : Prop := ∀ i, i < 64 → ∃ m, m < 16 ∧ men i = nI m
def kOK (K : Nat → Int32) : Prop := ∀ i, i < 2 → ∃ k, k < 64 ∧ K i = nI k
/-- the rows that a move never touches -/
def bKeep (A A' : Nat → Nat → Int32) (L L' : Nat → Nat → Int64) : Prop := A' 6 = A 6 ∧ A' 7 = A 7 ∧ A' 8 = A 8 ∧ A' 10 = A 10 ∧ L' 9 = L 9
theorem bKeep.tr {A A' A2 : Nat → Nat → Int32} {L L' L2 : Nat → Nat → Int64} (h : bKeep A A' L L') (k : bKeep A' A2 L' L2) : bKeep A A2 L L2 := ⟨k.1.trans h.1, k.2.1.trans h.2.1, k.2.2.1.trans h.2.2.1, k.2.2.2.1.trans h.2.2.2.1, k.2.2.2.2.trans h.2.2.2.2⟩
theorem menOK_up {men : Nat → Int32} (h : menOK men) {s m : Nat} (hm : m < 16) : menOK (upd men s (nI m)) := by
  intro i hi
  unfold upd
  by_cases e : i = s
  · rw [if_pos e]; exact ⟨m, hm, rfl⟩
  · rw [if_neg e]; exact h i hi
/-- what a man is worth, and the men of one side -/
def bW (W : Nat → Int32) (c : Nat) (m : Int32) (i : Nat) : Int32 := if m.toNatClampNeg = 0 then 0 else if m.toNatClampNeg / 8 = c then W (64 * m.toNatClampNeg + i) else 0
def bSn (W : Nat → Int32) (c : Nat) (men : Nat → Int32) : Nat → Int32
  | 0 => 0
  | k + 1 => bSn W c men k + bW W c (men k) k
def bWs (A : Nat → Nat → Int32) : Prop := ∀ c, c < 2 → A 3 c = bSn (A 6) c (A 0) 64
theorem bSn_hi {W : Nat → Int32} {c : Nat} {men : Nat → Int32} {s : Nat} {x : Int32} : ∀ k, k ≤ s → bSn W c (upd men s x) k = bSn W c men k
  | 0, _ => rfl
  | k + 1, h => by
    show bSn W c (upd men s x) k + bW W c (upd men s x k) k = bSn W c men k + bW W c (men k) k
    rw [bSn_hi k (by omega), show upd men s x k = men k from if_neg (by omega)]
theorem bSn_up {W : Nat → Int32} {c : Nat} {men : Nat → Int32} {s : Nat} {x : Int32} : ∀ k, s < k → bSn W c (upd men s x) k = bSn W c men k - bW W c (men s) s + bW W c x s
  | 0, h => absurd h (Nat.not_lt_zero _)
  | k + 1, h => by
    show bSn W c (upd men s x) k + bW W c (upd men s x k) k = bSn W c men k + bW W c (men k) k - bW W c (men s) s + bW W c x s
    by_cases e : s = k
    · subst e
      rw [bSn_hi s (Nat.le_refl _), show upd men s x s = x from if_pos rfl, Int32.add_sub_cancel]
    · rw [bSn_up k (by omega), show upd men s x k = men k from if_neg (by omega)]
      generalize bSn W c men k = u
      generalize bW W c (men k) k = v
      generalize bW W c (men s) s = w
      generalize bW W c x s = y
      rw [Int32.sub_eq_add_neg, Int32.sub_eq_add_neg, Int32.add_assoc, Int32.add_assoc, Int32.add_assoc, Int32.add_assoc, Int32.add_comm (-w) (y + v), Int32.add_comm y v, Int32.add_assoc, Int32.add_comm y (-w)]
theorem b_m8 : ∀ m, m < 16 → (nI m >>> (3 &&& 31)).toNatClampNeg = m / 8 := by decide +kernel
theorem b_m64 : ∀ m, m < 16 → ∀ s, s < 64 → (nI m <<< (6 &&& 31) ||| nI s).toNatClampNeg = 64 * m + s := by decide +kernel
theorem bWs_lift {A A' : Nat → Nat → Int32} {s m : Nat} (hs : s < 64) (hm : m < 16) (h0 : A 0 s = nI m) (hz : ¬ m = 0) (h3 : A' 3 = upd (A 3) (m / 8) (A 3 (m / 8) - A 6 (64 * m + s))) (h6 : A' 6 = A 6) (hA : A' 0 = upd (A 0) s 0) (h : bWs A) : bWs A' := by
  intro c hc
  rw [h3, h6, hA, bSn_up 64 hs, h0]
  have e0 : bW (A 6) c 0 s = 0 := rfl
  have e1 : bW (A 6) c (nI m) s = if m / 8 = c then A 6 (64 * m + s) else 0 := by
    unfold bW
    rw [nI_clamp (by omega), if_neg hz]
  rw [e0, e1, ← h c hc]
  unfold upd
  by_cases e : c = m / 8
  · subst e
    rw [if_pos rfl, if_pos rfl]
    exact (Int32.add_zero _).symm
  · rw [if_neg e, if_neg (fun q => e q.symm)]
    rw [Int32.add_zero, Int32.sub_zero]
theorem bWs_put {A A' : Nat → Nat → Int32} {s m : Nat} (hs : s < 64) (hm : m < 16) (h0 : A 0 s = 0) (hz : ¬ m = 0) (h3 : A' 3 = upd (A 3) (m / 8) (A 3 (m / 8) + A 6 (64 * m + s))) (h6 : A' 6 = A 6) (hA : A' 0 = upd (A 0) s (nI m)) (h : bWs A) : bWs A' := by
  intro c hc
  rw [h3, h6, hA, bSn_up 64 hs, h0]
  have e0 : bW (A 6) c 0 s = 0 := rfl
  have e1 : bW (A 6) c (nI m) s = if m / 8 = c then A 6 (64 * m + s) else 0 := by
    unfold bW
    rw [nI_clamp (by omega), if_neg hz]
  rw [e0, e1, ← h c hc, Int32.sub_zero]
  unfold upd
  by_cases e : c = m / 8
  · subst e
    rw [if_pos rfl, if_pos rfl]
  · rw [if_neg e, if_neg (fun q => e q.symm)]
    exact (Int32.add_zero _).symm
theorem kOK_up {K : Nat → Int32} (h : kOK K) {s k : Nat} (hk : k < 64) : kOK (upd K s (nI k)) := by
  intro i hi
  unfold upd
  by_cases e : i = s
  · rw [if_pos e]; exact ⟨k, hk, rfl⟩
  · rw [if_neg e]; exact h i hi
set_option maxRecDepth 100000 in
set_option maxHeartbeats 4000000 in
theorem c_BO_lift (l : Launch) (E : jE) (σ : Nat → jcell) (n : Nat) (a n0 : Nat) (hab : a < n0) (hn0 : n0 + 11 ≤ n) (F : Nat → Int32) (A : Nat → Nat → Int32) (L : Nat → Nat → Int64) (s : Nat) (hs : s < 64) (hM : menOK (A 0)) : jMet l E jcl jtb lw_tbl y_BO_lift { frames := 0, cells := 0, slots := 0, locals := 0 } [.inr (.inr (some (.inl (a)))), .inl (nI s)] (bdP σ a n0 F A L) n (fun r σ' n' => ∃ (A' : Nat → Nat → Int32) (L' : Nat → Nat → Int64), r = none ∧ n' = n ∧ σ' = (bdP σ a n0 F A' L') ∧ bKeep A A' L L' ∧ A' 0 = upd (A 0) s 0 ∧ A' 1 = A 1 ∧ (¬ A 0 s = 0 → bWs A → bWs A')) := by
  refine jMet_of (hY := rfl) false (fun h => by cases h) (by decide) (Nat.le_of_ble_eq_true rfl) [some (.inr (.inr (some (.inl (a))))), some (.inl (nI s)), none] rfl ?_
  intro M hl hR X hr
  have hb0 : (n0 < n) = True := eq_true (by omega)
  have hb1 : (n0 + 1 < n) = True := eq_true (by omega)
  have hb2 : (n0 + 2 < n) = True := eq_true (by omega)
  have hb3 : (n0 + 3 < n) = True := eq_true (by omega)
  have hb4 : (n0 + 4 < n) = True := eq_true (by omega)
  have hb5 : (n0 + 5 < n) = True := eq_true (by omega)
  have hb6 : (n0 + 6 < n) = True := eq_true (by omega)
  have hb7 : (n0 + 7 < n) = True := eq_true (by omega)
  have hb8 : (n0 + 8 < n) = True := eq_true (by omega)
  have hb9 : (n0 + 9 < n) = True := eq_true (by omega)
  have hb10 : (n0 + 10 < n) = True := eq_true (by omega)
  have haa : (a < n) = True := eq_true (by omega)
  obtain ⟨m, hm, hmen⟩ := hM s hs
  have hcs : (nI s).toNatClampNeg = s := nI_clamp (by omega)
  have v1 : vp_in (nI s) 64 = True := eq_true (vp_in_nI hs (by decide))
  have v2 : vp_in (nI s >>> (4 &&& 31)) 4 = True := eq_true (bd_p1 s hs).1
  have v3 : vp_in (nI m >>> (3 &&& 31)) 2 = True := eq_true (bd_p2 m hm)
  have v4 : vp_in (nI m <<< (6 &&& 31) ||| nI s) 1024 = True := eq_true (bd_p3 m hm s hs)
  have v5 : vp_in (nI m) 16 = True := eq_true (vp_in_nI hm (by decide))
  have h8 := b_m8 m hm
  have h64 := b_m64 m hm s hs
  have v6 : vp_in ((nI s ^^^ nI s >>> (3 &&& 31)) &&& 1) 2 = True := eq_true (bd_p1 s hs).2
  refine jrun_ok jC X k_BO_lift_0 0 _ _ _ o_BO_lift_0 ?_
  simp only [k_BO_lift_0, jrun, jstep, jldi, jldl, jlda, j1, j2, jl1, jl2, jli, ja1, jbr, jald, jast, jlald, jlast, jalen, jget, jput, jfit, jdup, jdupx, jdupx2, jdup2, jcat, jset1, jset2, jkill, List.getElem?_cons_zero, List.getElem?_cons_succ, List.set_cons_zero, List.set_cons_succ, List.length_cons, List.length_nil, Nat.reduceAdd, Nat.reduceLT, Int32.reduceToNatClampNeg, true_and, and_true, and_self, reduceCtorEq, not_false_eq_true, false_and, and_false, or_false, false_or, true_or, or_true, bd_a, bd_ua, bd_l, vp_nar_int32, haa, bd_r0 hab, bd_u0 hab, hb0, bd_r1 hab, bd_u1 hab, hb1, bd_r2 hab, bd_u2 hab, hb2, bd_r3 hab, bd_u3 hab, hb3, bd_r4 hab, bd_u4 hab, hb4, bd_r5 hab, bd_u5 hab, hb5, bd_r6 hab, bd_u6 hab, hb6, bd_r7 hab, bd_u7 hab, hb7, bd_r8 hab, bd_u8 hab, hb8, bd_r9 hab, bd_u9 hab, hb9, bd_r10 hab, bd_u10 hab, hb10, bd_f0, bd_f1, bd_f2, bd_f3, bd_f4, bd_f5, bd_f6, bd_f7, bd_f8, bd_f9, bd_f10, bd_f11, bd_f12, bd_f13, bd_f14, bd_f15, bd_f16, bd_s2, bd_s3, bd_s4, bd_s5, bd_s6, bd_s16, hcs, hmen, v1, v2, v3, v4, v5, v6]
  refine jrun_ok jC X k_BO_lift_14 14 _ _ _ o_BO_lift_14 ?_
  simp only [k_BO_lift_14, jrun, jstep, jldi, jldl, jlda, j1, j2, jl1, jl2, jli, ja1, jbr, jald, jast, jlald, jlast, jalen, jget, jput, jfit, jdup, jdupx, jdupx2, jdup2, jcat, jset1, jset2, jkill, List.getElem?_cons_zero, List.getElem?_cons_succ, List.set_cons_zero, List.set_cons_succ, List.length_cons, List.length_nil, Nat.reduceAdd, Nat.reduceLT, Int32.reduceToNatClampNeg, true_and, and_true, and_self, reduceCtorEq, not_false_eq_true, false_and, and_false, or_false, false_or, true_or, or_true, bd_a, bd_ua, bd_l, vp_nar_int32, haa, bd_r0 hab, bd_u0 hab, hb0, bd_r1 hab, bd_u1 hab, hb1, bd_r2 hab, bd_u2 hab, hb2, bd_r3 hab, bd_u3 hab, hb3, bd_r4 hab, bd_u4 hab, hb4, bd_r5 hab, bd_u5 hab, hb5, bd_r6 hab, bd_u6 hab, hb6, bd_r7 hab, bd_u7 hab, hb7, bd_r8 hab, bd_u8 hab, hb8, bd_r9 hab, bd_u9 hab, hb9, bd_r10 hab, bd_u10 hab, hb10, bd_f0, bd_f1, bd_f2, bd_f3, bd_f4, bd_f5, bd_f6, bd_f7, bd_f8, bd_f9, bd_f10, bd_f11, bd_f12, bd_f13, bd_f14, bd_f15, bd_f16, bd_s2, bd_s3, bd_s4, bd_s5, bd_s6, bd_s16, hcs, hmen, v1, v2, v3, v4, v5, v6]
  refine jrun_ok jC X k_BO_lift_34 34 _ _ _ o_BO_lift_34 ?_
  simp only [k_BO_lift_34, jrun, jstep, jldi, jldl, jlda, j1, j2, jl1, jl2, jli, ja1, jbr, jald, jast, jlald, jlast, jalen, jget, jput, jfit, jdup, jdupx, jdupx2, jdup2, jcat, jset1, jset2, jkill, List.getElem?_cons_zero, List.getElem?_cons_succ, List.set_cons_zero, List.set_cons_succ, List.length_cons, List.length_nil, Nat.reduceAdd, Nat.reduceLT, Int32.reduceToNatClampNeg, true_and, and_true, and_self, reduceCtorEq, not_false_eq_true, false_and, and_false, or_false, false_or, true_or, or_true, bd_a, bd_ua, bd_l, vp_nar_int32, haa, bd_r0 hab, bd_u0 hab, hb0, bd_r1 hab, bd_u1 hab, hb1, bd_r2 hab, bd_u2 hab, hb2, bd_r3 hab, bd_u3 hab, hb3, bd_r4 hab, bd_u4 hab, hb4, bd_r5 hab, bd_u5 hab, hb5, bd_r6 hab, bd_u6 hab, hb6, bd_r7 hab, bd_u7 hab, hb7, bd_r8 hab, bd_u8 hab, hb8, bd_r9 hab, bd_u9 hab, hb9, bd_r10 hab, bd_u10 hab, hb10, bd_f0, bd_f1, bd_f2, bd_f3, bd_f4, bd_f5, bd_f6, bd_f7, bd_f8, bd_f9, bd_f10, bd_f11, bd_f12, bd_f13, bd_f14, bd_f15, bd_f16, bd_s2, bd_s3, bd_s4, bd_s5, bd_s6, bd_s16, hcs, hmen, v1, v2, v3, v4, v5, v6]
  refine jrun_ok jC X k_BO_lift_56 56 _ _ _ o_BO_lift_56 ?_
  simp only [k_BO_lift_56, jrun, jstep, jldi, jldl, jlda, j1, j2, jl1, jl2, jli, ja1, jbr, jald, jast, jlald, jlast, jalen, jget, jput, jfit, jdup, jdupx, jdupx2, jdup2, jcat, jset1, jset2, jkill, List.getElem?_cons_zero, List.getElem?_cons_succ, List.set_cons_zero, List.set_cons_succ, List.length_cons, List.length_nil, Nat.reduceAdd, Nat.reduceLT, Int32.reduceToNatClampNeg, true_and, and_true, and_self, reduceCtorEq, not_false_eq_true, false_and, and_false, or_false, false_or, true_or, or_true, bd_a, bd_ua, bd_l, vp_nar_int32, haa, bd_r0 hab, bd_u0 hab, hb0, bd_r1 hab, bd_u1 hab, hb1, bd_r2 hab, bd_u2 hab, hb2, bd_r3 hab, bd_u3 hab, hb3, bd_r4 hab, bd_u4 hab, hb4, bd_r5 hab, bd_u5 hab, hb5, bd_r6 hab, bd_u6 hab, hb6, bd_r7 hab, bd_u7 hab, hb7, bd_r8 hab, bd_u8 hab, hb8, bd_r9 hab, bd_u9 hab, hb9, bd_r10 hab, bd_u10 hab, hb10, bd_f0, bd_f1, bd_f2, bd_f3, bd_f4, bd_f5, bd_f6, bd_f7, bd_f8, bd_f9, bd_f10, bd_f11, bd_f12, bd_f13, bd_f14, bd_f15, bd_f16, bd_s2, bd_s3, bd_s4, bd_s5, bd_s6, bd_s16, hcs, hmen, v1, v2, v3, v4, v5, v6]
  refine jrun_ok jC X k_BO_lift_66 66 _ _ _ o_BO_lift_66 ?_
  simp only [k_BO_lift_66, jrun, jstep, jldi, jldl, jlda, j1, j2, jl1, jl2, jli, ja1, jbr, jald, jast, jlald, jlast, jalen, jget, jput, jfit, jdup, jdupx, jdupx2, jdup2, jcat, jset1, jset2, jkill, List.getElem?_cons_zero, List.getElem?_cons_succ, List.set_cons_zero, List.set_cons_succ, List.length_cons, List.length_nil, Nat.reduceAdd, Nat.reduceLT, Int32.reduceToNatClampNeg, true_and, and_true, and_self, reduceCtorEq, not_false_eq_true, false_and, and_false, or_false, false_or, true_or, or_true, bd_a, bd_ua, bd_l, vp_nar_int32, haa, bd_r0 hab, bd_u0 hab, hb0, bd_r1 hab, bd_u1 hab, hb1, bd_r2 hab, bd_u2 hab, hb2, bd_r3 hab, bd_u3 hab, hb3, bd_r4 hab, bd_u4 hab, hb4, bd_r5 hab, bd_u5 hab, hb5, bd_r6 hab, bd_u6 hab, hb6, bd_r7 hab, bd_u7 hab, hb7, bd_r8 hab, bd_u8 hab, hb8, bd_r9 hab, bd_u9 hab, hb9, bd_r10 hab, bd_u10 hab, hb10, bd_f0, bd_f1, bd_f2, bd_f3, bd_f4, bd_f5, bd_f6, bd_f7, bd_f8, bd_f9, bd_f10, bd_f11, bd_f12, bd_f13, bd_f14, bd_f15, bd_f16, bd_s2, bd_s3, bd_s4, bd_s5, bd_s6, bd_s16, hcs, hmen, v1, v2, v3, v4, v5, v6]
  refine ⟨fun _ => ?_, fun _ => ?_⟩
  · exact jk_vret X d_BO_lift_90 hr (Nat.le_refl _) (Nat.le_refl _) ⟨_, _, rfl, rfl, rfl, by simp [bKeep, va_up], by simp [va_up], by simp [va_up], fun hz hw => bWs_lift hs hm hmen (fun q => hz (by rw [q]; rfl)) (by simp [va_up, h8, h64]) (by simp [va_up]) (by simp [va_up]) hw⟩
  · exact jk_vret X d_BO_lift_90 hr (Nat.le_refl _) (Nat.le_refl _) ⟨_, _, rfl, rfl, rfl, by simp [bKeep, va_up], by simp [va_up], by simp [va_up], fun hz hw => bWs_lift hs hm hmen (fun q => hz (by rw [q]; rfl)) (by simp [va_up, h8, h64]) (by simp [va_up]) (by simp [va_up]) hw⟩
set_option maxRecDepth 100000 in
set_option maxHeartbeats 4000000 in
theorem c_BO_put2 (l : Launch) (E : jE) (σ : Nat → jcell) (n : Nat) (a n0 : Nat) (hab : a < n0) (hn0 : n0 + 11 ≤ n) (F : Nat → Int32) (A : Nat → Nat → Int32) (L : Nat → Nat → Int64) (s m : Nat) (hs : s < 64) (hm : m < 16) : jMet l E jcl jtb lw_tbl y_BO_put { frames := 0, cells := 0, slots := 0, locals := 0 } [.inr (.inr (some (.inl (a)))), .inl (nI s), .inl (nI m)] (bdP σ a n0 F A L) n (fun r σ' n' => ∃ (A' : Nat → Nat → Int32) (L' : Nat → Nat → Int64), r = none ∧ n' = n ∧ σ' = (bdP σ a n0 F A' L') ∧ bKeep A A' L L' ∧ A' 0 = upd (A 0) s (nI m) ∧ (kOK (A 1) → kOK (A' 1)) ∧ (A 0 s = 0 → ¬ m = 0 → bWs A → bWs A')) := by
  refine jMet_of (hY := rfl) false (fun h => by cases h) (by decide) (Nat.le_of_ble_eq_true rfl) [some (.inr (.inr (some (.inl (a))))), some (.inl (nI s)), some (.inl (nI m))] rfl ?_
  intro M hl hR X hr
  have hb0 : (n0 < n) = True := eq_true (by omega)
  have hb1 : (n0 + 1 < n) = True := eq_true (by omega)
  have hb2 : (n0 + 2 < n) = True := eq_true (by omega)
  have hb3 : (n0 + 3 < n) = True := eq_true (by omega)
  have hb4 : (n0 + 4 < n) = True := eq_true (by omega)
  have hb5 : (n0 + 5 < n) = True := eq_true (by omega)
  have hb6 : (n0 + 6 < n) = True := eq_true (by omega)
  have hb7 : (n0 + 7 < n) = True := eq_true (by omega)
  have hb8 : (n0 + 8 < n) = True := eq_true (by omega)
  have hb9 : (n0 + 9 < n) = True := eq_true (by omega)
  have hb10 : (n0 + 10 < n) = True := eq_true (by omega)
  have haa : (a < n) = True := eq_true (by omega)
  have hcs : (nI s).toNatClampNeg = s := nI_clamp (by omega)
  have v1 : vp_in (nI s) 64 = True := eq_true (vp_in_nI hs (by decide))
  have v2 : vp_in (nI s >>> (4 &&& 31)) 4 = True := eq_true (bd_p1 s hs).1
  have v3 : vp_in (nI m >>> (3 &&& 31)) 2 = True := eq_true (bd_p2 m hm)
  have v4 : vp_in (nI m <<< (6 &&& 31) ||| nI s) 1024 = True := eq_true (bd_p3 m hm s hs)
  have v5 : vp_in (nI m) 16 = True := eq_true (vp_in_nI hm (by decide))
  have h8 := b_m8 m hm
  have h64 := b_m64 m hm s hs
  have v6 : vp_in ((nI s ^^^ nI s >>> (3 &&& 31)) &&& 1) 2 = True := eq_true (bd_p1 s hs).2
  refine jrun_ok jC X k_BO_put_0 0 _ _ _ o_BO_put_0 ?_
  simp only [k_BO_put_0, jrun, jstep, jldi, jldl, jlda, j1, j2, jl1, jl2, jli, ja1, jbr, jald, jast, jlald, jlast, jalen, jget, jput, jfit, jdup, jdupx, jdupx2, jdup2, jcat, jset1, jset2, jkill, List.getElem?_cons_zero, List.getElem?_cons_succ, List.set_cons_zero, List.set_cons_succ, List.length_cons, List.length_nil, Nat.reduceAdd, Nat.reduceLT, Int32.reduceToNatClampNeg, true_and, and_true, and_self, reduceCtorEq, not_false_eq_true, false_and, and_false, or_false, false_or, true_or, or_true, bd_a, bd_ua, bd_l, vp_nar_int32, haa, bd_r0 hab, bd_u0 hab, hb0, bd_r1 hab, bd_u1 hab, hb1, bd_r2 hab, bd_u2 hab, hb2, bd_r3 hab, bd_u3 hab, hb3, bd_r4 hab, bd_u4 hab, hb4, bd_r5 hab, bd_u5 hab, hb5, bd_r6 hab, bd_u6 hab, hb6, bd_r7 hab, bd_u7 hab, hb7, bd_r8 hab, bd_u8 hab, hb8, bd_r9 hab, bd_u9 hab, hb9, bd_r10 hab, bd_u10 hab, hb10, bd_f0, bd_f1, bd_f2, bd_f3, bd_f4, bd_f5, bd_f6, bd_f7, bd_f8, bd_f9, bd_f10, bd_f11, bd_f12, bd_f13, bd_f14, bd_f15, bd_f16, bd_s2, bd_s3, bd_s4, bd_s5, bd_s6, bd_s16, hcs, v1, v2, v3, v4, v5, v6]
  refine ⟨fun _ => ?_, fun _ => ?_⟩
  · refine jrun_ok jC X k_BO_put_86 86 _ _ _ o_BO_put_86 ?_
    simp only [k_BO_put_86, jrun, jstep, jldi, jldl, jlda, j1, j2, jl1, jl2, jli, ja1, jbr, jald, jast, jlald, jlast, jalen, jget, jput, jfit, jdup, jdupx, jdupx2, jdup2, jcat, jset1, jset2, jkill, List.getElem?_cons_zero, List.getElem?_cons_succ, List.set_cons_zero, List.set_cons_succ, List.length_cons, List.length_nil, Nat.reduceAdd, Nat.reduceLT, Int32.reduceToNatClampNeg, true_and, and_true, and_self, reduceCtorEq, not_false_eq_true, false_and, and_false, or_false, false_or, true_or, or_true, bd_a, bd_ua, bd_l, vp_nar_int32, haa, bd_r0 hab, bd_u0 hab, hb0, bd_r1 hab, bd_u1 hab, hb1, bd_r2 hab, bd_u2 hab, hb2, bd_r3 hab, bd_u3 hab, hb3, bd_r4 hab, bd_u4 hab, hb4, bd_r5 hab, bd_u5 hab, hb5, bd_r6 hab, bd_u6 hab, hb6, bd_r7 hab, bd_u7 hab, hb7, bd_r8 hab, bd_u8 hab, hb8, bd_r9 hab, bd_u9 hab, hb9, bd_r10 hab, bd_u10 hab, hb10, bd_f0, bd_f1, bd_f2, bd_f3, bd_f4, bd_f5, bd_f6, bd_f7, bd_f8, bd_f9, bd_f10, bd_f11, bd_f12, bd_f13, bd_f14, bd_f15, bd_f16, bd_s2, bd_s3, bd_s4, bd_s5, bd_s6, bd_s16, hcs, v1, v2, v3, v4, v5, v6]
    refine ⟨fun _ => ?_, fun _ => ?_⟩
    · exact jk_vret X d_BO_put_104 hr (Nat.le_refl _) (Nat.le_refl _) ⟨_, _, rfl, rfl, rfl, by simp [bKeep, va_up], by simp [va_up], fun h => by simpa [va_up] using h, fun h0 hz hw => bWs_put hs hm h0 hz (by simp [va_up, h8, h64]) (by simp [va_up]) (by simp [va_up]) hw⟩
    · exact jk_vret X d_BO_put_104 hr (Nat.le_refl _) (Nat.le_refl _) ⟨_, _, rfl, rfl, rfl, by simp [bKeep, va_up], by simp [va_up], fun h => by simpa [va_up] using kOK_up h hs, fun h0 hz hw => bWs_put hs hm h0 hz (by simp [va_up, h8, h64]) (by simp [va_up]) (by simp [va_up]) hw⟩
  · exact jk_vret X d_BO_put_104 hr (Nat.le_refl _) (Nat.le_refl _) ⟨_, _, rfl, rfl, rfl, by simp [bKeep, va_up], by simp [va_up], fun h => by simpa [va_up] using h, fun h0 hz hw => bWs_put hs hm h0 hz (by simp [va_up, h8, h64]) (by simp [va_up]) (by simp [va_up]) hw⟩
def bPP (F : Nat → Int32) : Int32 := if F 2 = 0 then F 4 - 8 else F 4 + 8
set_option maxRecDepth 100000 in
set_option maxHeartbeats 4000000 in
theorem c_BO_passedPawn (l : Launch) (E : jE) (σ : Nat → jcell) (n : Nat) (a n0 : Nat) (hab : a < n0) (hn0 : n0 + 11 ≤ n) (F : Nat → Int32) (A : Nat → Nat → Int32) (L : Nat → Nat → Int64) : jMet l E jcl jtb lw_tbl y_BO_passedPawn { frames := 0, cells := 0, slots := 0, locals := 0 } [.inr (.inr (some (.inl (a))))] (bdP σ a n0 F A L) n (fun r σ' n' => r = some (.inl (bPP F)) ∧ n' = n ∧ σ' = (bdP σ a n0 F A L)) := by
  refine jMet_of (hY := rfl) false (fun h => by cases h) (by decide) (Nat.le_of_ble_eq_true rfl) [some (.inr (.inr (some (.inl (a)))))] rfl ?_
  intro M hl hR X hr
  have hb0 : (n0 < n) = True := eq_true (by omega)
  have hb1 : (n0 + 1 < n) = True := eq_true (by omega)
  have hb2 : (n0 + 2 < n) = True := eq_true (by omega)
  have hb3 : (n0 + 3 < n) = True := eq_true (by omega)
  have hb4 : (n0 + 4 < n) = True := eq_true (by omega)
  have hb5 : (n0 + 5 < n) = True := eq_true (by omega)
  have hb6 : (n0 + 6 < n) = True := eq_true (by omega)
  have hb7 : (n0 + 7 < n) = True := eq_true (by omega)
  have hb8 : (n0 + 8 < n) = True := eq_true (by omega)
  have hb9 : (n0 + 9 < n) = True := eq_true (by omega)
  have hb10 : (n0 + 10 < n) = True := eq_true (by omega)
  have haa : (a < n) = True := eq_true (by omega)
  refine jrun_ok jC X k_BO_passedPawn_0 0 _ _ _ o_BO_passedPawn_0 ?_
  simp only [k_BO_passedPawn_0, jrun, jstep, jldi, jldl, jlda, j1, j2, jl1, jl2, jli, ja1, jbr, jald, jast, jlald, jlast, jalen, jget, jput, jfit, jdup, jdupx, jdupx2, jdup2, jcat, jset1, jset2, jkill, List.getElem?_cons_zero, List.getElem?_cons_succ, List.set_cons_zero, List.set_cons_succ, List.length_cons, List.length_nil, Nat.reduceAdd, Nat.reduceLT, Int32.reduceToNatClampNeg, true_and, and_true, and_self, reduceCtorEq, not_false_eq_true, false_and, and_false, or_false, false_or, true_or, or_true, bd_a, bd_ua, bd_l, vp_nar_int32, haa, bd_r0 hab, bd_u0 hab, hb0, bd_r1 hab, bd_u1 hab, hb1, bd_r2 hab, bd_u2 hab, hb2, bd_r3 hab, bd_u3 hab, hb3, bd_r4 hab, bd_u4 hab, hb4, bd_r5 hab, bd_u5 hab, hb5, bd_r6 hab, bd_u6 hab, hb6, bd_r7 hab, bd_u7 hab, hb7, bd_r8 hab, bd_u8 hab, hb8, bd_r9 hab, bd_u9 hab, hb9, bd_r10 hab, bd_u10 hab, hb10, bd_f0, bd_f1, bd_f2, bd_f3, bd_f4, bd_f5, bd_f6, bd_f7, bd_f8, bd_f9, bd_f10, bd_f11, bd_f12, bd_f13, bd_f14, bd_f15, bd_f16, bd_s2, bd_s3, bd_s4, bd_s5, bd_s6, bd_s16]
  refine ⟨fun h => ?_, fun h => ?_⟩
  · refine jrun_ok jC X k_BO_passedPawn_17 17 _ _ _ o_BO_passedPawn_17 ?_
    simp only [k_BO_passedPawn_17, jrun, jstep, jldi, jldl, jlda, j1, j2, jl1, jl2, jli, ja1, jbr, jald, jast, jlald, jlast, jalen, jget, jput, jfit, jdup, jdupx, jdupx2, jdup2, jcat, jset1, jset2, jkill, List.getElem?_cons_zero, List.getElem?_cons_succ, List.set_cons_zero, List.set_cons_succ, List.length_cons, List.length_nil, Nat.reduceAdd, Nat.reduceLT, Int32.reduceToNatClampNeg, true_and, and_true, and_self, reduceCtorEq, not_false_eq_true, false_and, and_false, or_false, false_or, true_or, or_true, bd_a, bd_ua, bd_l, vp_nar_int32, haa, bd_r0 hab, bd_u0 hab, hb0, bd_r1 hab, bd_u1 hab, hb1, bd_r2 hab, bd_u2 hab, hb2, bd_r3 hab, bd_u3 hab, hb3, bd_r4 hab, bd_u4 hab, hb4, bd_r5 hab, bd_u5 hab, hb5, bd_r6 hab, bd_u6 hab, hb6, bd_r7 hab, bd_u7 hab, hb7, bd_r8 hab, bd_u8 hab, hb8, bd_r9 hab, bd_u9 hab, hb9, bd_r10 hab, bd_u10 hab, hb10, bd_f0, bd_f1, bd_f2, bd_f3, bd_f4, bd_f5, bd_f6, bd_f7, bd_f8, bd_f9, bd_f10, bd_f11, bd_f12, bd_f13, bd_f14, bd_f15, bd_f16, bd_s2, bd_s3, bd_s4, bd_s5, bd_s6, bd_s16]
    exact jk_iret X d_BO_passedPawn_24 hr rfl (Nat.le_refl _) (Nat.le_refl _) ⟨by unfold bPP; rw [if_neg h], rfl, rfl⟩
  · exact jk_iret X d_BO_passedPawn_24 hr rfl (Nat.le_refl _) (Nat.le_refl _) ⟨by unfold bPP; rw [if_pos (by simpa using h)], rfl, rfl⟩

