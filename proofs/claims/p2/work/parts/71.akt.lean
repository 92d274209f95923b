/-! a trial of the check: three methods of Bytes with a row of 65536 -/
def y_BY_add : jY := (⟨"ChessHouse$Bytes", "add", "(I)V"⟩, prog_4_method_3_code, 2, none)
theorem m_BY_add : jmth lw_tbl y_BY_add 1 := ⟨jTA_in (wi := 1061) (by decide +kernel) rfl, jTA_in (wi := 303) (by decide +kernel) rfl, by decide, by decide, by decide +kernel⟩
theorem i_BY_add : Jvm.Cond.instanceMethod y_BY_add.1 ∈ jTA lw_tbl := jTA_in (wi := 1059) (by decide +kernel) rfl
theorem e_BY_add : Jvm.Cond.selects y_BY_add.1.cls y_BY_add.1 y_BY_add.1 ∈ jTA lw_tbl := jTA_in (wi := 1060) (by decide +kernel) rfl
def ak_BY_add : List jI := [(.aload_n 0, 1, (0, 0, 0, 0, 0)), (.getfield 15, 3, (1, 1, 353, 0, 0)), (.aload_n 0, 1, (0, 0, 0, 0, 0)), (.getfield 9, 3, (1, 0, 350, 0, 0)), (.arraylength, 1, (0, 0, 0, 0, 0)), (.if_icmp .ge 24, 3, (33, 0, 0, 0, 0)), (.aload_n 0, 1, (0, 0, 0, 0, 0)), (.getfield 9, 3, (1, 0, 350, 0, 0)), (.aload_n 0, 1, (0, 0, 0, 0, 0)), (.getfield 15, 3, (1, 1, 353, 0, 0)), (.iload_n 1, 1, (1, 0, 0, 0, 0)), (.i2b, 1, (0, 0, 0, 0, 0)), (.bastore, 1, (0, 0, 0, 0, 0)), (.aload_n 0, 1, (0, 0, 0, 0, 0)), (.dup, 1, (0, 0, 0, 0, 0)), (.getfield 15, 3, (1, 1, 353, 0, 0)), (.iconst 1, 1, (0, 0, 0, 1, 0)), (.iadd, 1, (0, 0, 0, 0, 0)), (.putfield 15, 3, (1, 1, 353, 0, 0)), (.return_, 1, (0, 0, 0, 0, 0))]
theorem ao_BY_add : jokL "ChessHouse$Bytes" lw_tbl jcl jtb 2 false prog_4_method_3_code 0 ak_BY_add = true := by decide +kernel
def y_BY_square : jY := (⟨"ChessHouse$Bytes", "square", "(I)V"⟩, prog_4_method_7_code, 2, none)
theorem m_BY_square : jmth lw_tbl y_BY_square 1 := ⟨jTA_in (wi := 1497) (by decide +kernel) rfl, jTA_in (wi := 303) (by decide +kernel) rfl, by decide, by decide, by decide +kernel⟩
theorem i_BY_square : Jvm.Cond.instanceMethod y_BY_square.1 ∈ jTA lw_tbl := jTA_in (wi := 1495) (by decide +kernel) rfl
theorem e_BY_square : Jvm.Cond.selects y_BY_square.1.cls y_BY_square.1 y_BY_square.1 ∈ jTA lw_tbl := jTA_in (wi := 1496) (by decide +kernel) rfl
def ak_BY_square : List jI := [(.aload_n 0, 1, (0, 0, 0, 0, 0)), (.bipush 97, 2, (0, 0, 0, 97, 0)), (.iload_n 1, 1, (1, 0, 0, 0, 0)), (.bipush 7, 2, (0, 0, 0, 7, 0)), (.iand, 1, (0, 0, 0, 0, 0)), (.iadd, 1, (0, 0, 0, 0, 0)), (.invokevirtual 28, 3, (0, 0, 1082, 0, 0)), (.aload_n 0, 1, (0, 0, 0, 0, 0)), (.bipush 49, 2, (0, 0, 0, 49, 0)), (.iload_n 1, 1, (1, 0, 0, 0, 0)), (.iconst 3, 1, (0, 0, 0, 3, 0)), (.ishr, 1, (0, 0, 0, 0, 0)), (.iadd, 1, (0, 0, 0, 0, 0)), (.invokevirtual 28, 3, (0, 0, 1082, 0, 0)), (.return_, 1, (0, 0, 0, 0, 0))]
theorem ao_BY_square : jokL "ChessHouse$Bytes" lw_tbl jcl jtb 2 false prog_4_method_7_code 0 ak_BY_square = true := by decide +kernel
def y_BY_needsGap : jY := (⟨"ChessHouse$Bytes", "needsGap", "()Z"⟩, prog_4_method_8_code, 1, (some .boolean))
theorem m_BY_needsGap : jmth lw_tbl y_BY_needsGap 0 := ⟨jTA_in (wi := 1472) (by decide +kernel) rfl, jTA_in (wi := 303) (by decide +kernel) rfl, by decide, by decide, by decide +kernel⟩
theorem i_BY_needsGap : Jvm.Cond.instanceMethod y_BY_needsGap.1 ∈ jTA lw_tbl := jTA_in (wi := 1470) (by decide +kernel) rfl
theorem e_BY_needsGap : Jvm.Cond.selects y_BY_needsGap.1.cls y_BY_needsGap.1 y_BY_needsGap.1 ∈ jTA lw_tbl := jTA_in (wi := 1471) (by decide +kernel) rfl
def ak_BY_needsGap : List jI := [(.aload_n 0, 1, (0, 0, 0, 0, 0)), (.getfield 15, 3, (1, 1, 353, 0, 0)), (.ifCond .le 39, 3, (43, 0, 0, 0, 0)), (.aload_n 0, 1, (0, 0, 0, 0, 0)), (.getfield 9, 3, (1, 0, 350, 0, 0)), (.aload_n 0, 1, (0, 0, 0, 0, 0)), (.getfield 15, 3, (1, 1, 353, 0, 0)), (.iconst 1, 1, (0, 0, 0, 1, 0)), (.isub, 1, (0, 0, 0, 0, 0)), (.baload, 1, (0, 0, 0, 0, 0)), (.bipush 10, 2, (0, 0, 0, 10, 0)), (.if_icmp .eq 23, 3, (43, 0, 0, 0, 0)), (.aload_n 0, 1, (0, 0, 0, 0, 0)), (.getfield 9, 3, (1, 0, 350, 0, 0)), (.aload_n 0, 1, (0, 0, 0, 0, 0)), (.getfield 15, 3, (1, 1, 353, 0, 0)), (.iconst 1, 1, (0, 0, 0, 1, 0)), (.isub, 1, (0, 0, 0, 0, 0)), (.baload, 1, (0, 0, 0, 0, 0)), (.bipush 40, 2, (0, 0, 0, 40, 0)), (.if_icmp .eq 7, 3, (43, 0, 0, 0, 0)), (.iconst 1, 1, (0, 0, 0, 1, 0)), (.goto 4, 3, (44, 0, 0, 0, 0)), (.iconst 0, 1, (0, 0, 0, 0, 0)), (.ireturn, 1, (0, 0, 0, 0, 0))]
theorem ao_BY_needsGap : jokL "ChessHouse$Bytes" lw_tbl jcl jtb 1 false prog_4_method_8_code 0 ak_BY_needsGap = true := by decide +kernel
def at_T : List aKd := [.inr (1, [.inr (some (.inl (false, 1))), .inl (0, 65536)]), .inl (.byte, 65536, -128, 127)]
def at_add : aCon := (y_BY_add, false, [.inr (some (.inl (false, 0))), .inl a32], none, [(0, 1)], { frames := 0, cells := 0, slots := 0, locals := 0 })
def at_m1 : aMi := (("ChessHouse$Bytes", lw_tbl, jcl, none, none), (at_T, [], [], []), ({ frames := 0, cells := 0, slots := 0, locals := 0 }, [(0, 1)], ak_BY_add, [(0, aEn [.inr (some (.inl (false, 0))), .inl a32] 2, [], [(1, none)])]))
theorem at_c1 : aChk at_m1 60 = true := by decide +kernel
def at_sq : aCon := (y_BY_square, false, [.inr (some (.inl (false, 0))), .inl (0, 63)], none, [(0, 1)], { frames := 1, cells := 0, slots := 0, locals := 21 })
def at_m2 : aMi := (("ChessHouse$Bytes", lw_tbl, jcl, none, none), (at_T, [], [], [at_add]), ({ frames := 1, cells := 0, slots := 0, locals := 21 }, [(0, 1)], ak_BY_square, [(0, aEn [.inr (some (.inl (false, 0))), .inl (0, 63)] 2, [], [(1, none)])]))
theorem at_c2 : aChk at_m2 60 = true := by decide +kernel
def at_ng : aCon := (y_BY_needsGap, false, [.inr (some (.inl (false, 0)))], some (.inl (0, 1)), [], { frames := 0, cells := 0, slots := 0, locals := 0 })
def at_m3 : aMi := (("ChessHouse$Bytes", lw_tbl, jcl, some .boolean, some (.inl (0, 1))), (at_T, [], [], []), ({ frames := 0, cells := 0, slots := 0, locals := 0 }, [], ak_BY_needsGap, [(0, aEn [.inr (some (.inl (false, 0)))] 1, [], [(1, none)])]))
theorem at_c3 : aChk at_m3 60 = true := by decide +kernel
theorem at_g1 : aGd lw_tbl at_add := ⟨rfl, rfl, m_BY_add, i_BY_add, e_BY_add⟩
theorem at_e {tb : jTb} : aTB [] tb := fun j q h => by simp at h
theorem at_a1 (l : Launch) (E : jE) (K : Nat → Nat) (n : Nat) (JX : (Nat → jcell) → Prop) (hJ : aJx K n [] JX) : aMe l E jcl jtb lw_tbl at_T K n JX at_add := aMe_of (m := at_m1) (f := 60) rfl rfl rfl rfl rfl rfl rfl rfl (by decide) jC (fun G h => by cases h) at_e hJ ao_BY_add at_c1 List.mem_cons_self (by decide)
theorem at_a2 (l : Launch) (E : jE) (K : Nat → Nat) (n : Nat) (JX : (Nat → jcell) → Prop) (hJ : aJx K n [] JX) : aMe l E jcl jtb lw_tbl at_T K n JX at_sq := aMe_of (m := at_m2) (f := 60) rfl rfl rfl rfl rfl rfl rfl rfl (by decide) jC (fun G h => by
    rcases List.mem_cons.mp h with rfl | h
    · exact ⟨at_g1, at_a1 l E K n JX hJ⟩
    · cases h) at_e hJ ao_BY_square at_c2 List.mem_cons_self (by decide)

