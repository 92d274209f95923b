/-! the reference: uI -/
def y_MM_state : jY := (⟨"ChessHouseModel", "state", "()V"⟩, prog_15_method_49_code, 3, none)
theorem m_MM_state : jmth lw_tbl y_MM_state 0 := ⟨jTA_in (wi := 2888) (jtF_ok rfl) rfl, jTA_in (wi := 314) (jtF_ok rfl) rfl, by decide, by decide, by decide +kernel⟩
theorem i_MM_state : Jvm.Cond.instanceMethod y_MM_state.1 ∈ jTA lw_tbl := jTA_in (wi := 2887) (jtF_ok rfl) rfl
theorem e_MM_state : Jvm.Cond.selects y_MM_state.1.cls y_MM_state.1 y_MM_state.1 ∈ jTA lw_tbl := jTA_in (wi := 230) (jtF_ok rfl) rfl
def y_MM_isTooMuch : jY := (⟨"ChessHouseModel", "isTooMuch", "(IJ)Z"⟩, prog_15_method_48_code, 7, (some .boolean))
theorem m_MM_isTooMuch : jmth lw_tbl y_MM_isTooMuch 2 := ⟨jTA_in (wi := 2955) (jtF_ok rfl) rfl, jTA_in (wi := 314) (jtF_ok rfl) rfl, by decide, by decide, by decide +kernel⟩
theorem i_MM_isTooMuch : Jvm.Cond.instanceMethod y_MM_isTooMuch.1 ∈ jTA lw_tbl := jTA_in (wi := 2954) (jtF_ok rfl) rfl
theorem e_MM_isTooMuch : Jvm.Cond.selects y_MM_isTooMuch.1.cls y_MM_isTooMuch.1 y_MM_isTooMuch.1 ∈ jTA lw_tbl := jTA_in (wi := 245) (jtF_ok rfl) rfl
def y_MM_sayLine : jY := (⟨"ChessHouseModel", "sayLine", "([II)V"⟩, prog_15_method_50_code, 4, none)
theorem m_MM_sayLine : jmth lw_tbl y_MM_sayLine 2 := ⟨jTA_in (wi := 3030) (jtF_ok rfl) rfl, jTA_in (wi := 314) (jtF_ok rfl) rfl, by decide, by decide, by decide +kernel⟩
theorem i_MM_sayLine : Jvm.Cond.instanceMethod y_MM_sayLine.1 ∈ jTA lw_tbl := jTA_in (wi := 3029) (jtF_ok rfl) rfl
theorem e_MM_sayLine : Jvm.Cond.selects y_MM_sayLine.1.cls y_MM_sayLine.1 y_MM_sayLine.1 ∈ jTA lw_tbl := jTA_in (wi := 261) (jtF_ok rfl) rfl
def y_MM_think : jY := (⟨"ChessHouseModel", "think", "(IZ)V"⟩, prog_15_method_51_code, 3, none)
theorem m_MM_think : jmth lw_tbl y_MM_think 2 := ⟨jTA_in (wi := 2986) (jtF_ok rfl) rfl, jTA_in (wi := 314) (jtF_ok rfl) rfl, by decide, by decide, by decide +kernel⟩
theorem i_MM_think : Jvm.Cond.instanceMethod y_MM_think.1 ∈ jTA lw_tbl := jTA_in (wi := 2985) (jtF_ok rfl) rfl
theorem e_MM_think : Jvm.Cond.selects y_MM_think.1.cls y_MM_think.1 y_MM_think.1 ∈ jTA lw_tbl := jTA_in (wi := 251) (jtF_ok rfl) rfl
def y_MM_keys : jY := (⟨"ChessHouseModel", "keys", "(III)V"⟩, prog_15_method_56_code, 5, none)
theorem m_MM_keys : jmth lw_tbl y_MM_keys 3 := ⟨jTA_in (wi := 3235) (jtF_ok rfl) rfl, jTA_in (wi := 314) (jtF_ok rfl) rfl, by decide, by decide, by decide +kernel⟩
theorem i_MM_keys : Jvm.Cond.instanceMethod y_MM_keys.1 ∈ jTA lw_tbl := jTA_in (wi := 3234) (jtF_ok rfl) rfl
theorem e_MM_keys : Jvm.Cond.selects y_MM_keys.1.cls y_MM_keys.1 y_MM_keys.1 ∈ jTA lw_tbl := jTA_in (wi := 289) (jtF_ok rfl) rfl
def y_MM_least : jY := (⟨"ChessHouseModel", "least", "(III)V"⟩, prog_15_method_57_code, 6, none)
theorem m_MM_least : jmth lw_tbl y_MM_least 3 := ⟨jTA_in (wi := 3263) (jtF_ok rfl) rfl, jTA_in (wi := 314) (jtF_ok rfl) rfl, by decide, by decide, by decide +kernel⟩
theorem i_MM_least : Jvm.Cond.instanceMethod y_MM_least.1 ∈ jTA lw_tbl := jTA_in (wi := 3262) (jtF_ok rfl) rfl
theorem e_MM_least : Jvm.Cond.selects y_MM_least.1.cls y_MM_least.1 y_MM_least.1 ∈ jTA lw_tbl := jTA_in (wi := 295) (jtF_ok rfl) rfl
def y_MM_test : jY := (⟨"ChessHouseModel", "test", "(II)V"⟩, prog_15_method_52_code, 4, none)
theorem m_MM_test : jmth lw_tbl y_MM_test 2 := ⟨jTA_in (wi := 3038) (jtF_ok rfl) rfl, jTA_in (wi := 314) (jtF_ok rfl) rfl, by decide, by decide, by decide +kernel⟩
theorem i_MM_test : Jvm.Cond.instanceMethod y_MM_test.1 ∈ jTA lw_tbl := jTA_in (wi := 3037) (jtF_ok rfl) rfl
theorem e_MM_test : Jvm.Cond.selects y_MM_test.1.cls y_MM_test.1 y_MM_test.1 ∈ jTA lw_tbl := jTA_in (wi := 262) (jtF_ok rfl) rfl
def y_MM_refute : jY := (⟨"ChessHouseModel", "refute", "(III)V"⟩, prog_15_method_58_code, 6, none)
theorem m_MM_refute : jmth lw_tbl y_MM_refute 3 := ⟨jTA_in (wi := 3269) (jtF_ok rfl) rfl, jTA_in (wi := 314) (jtF_ok rfl) rfl, by decide, by decide, by decide +kernel⟩
theorem i_MM_refute : Jvm.Cond.instanceMethod y_MM_refute.1 ∈ jTA lw_tbl := jTA_in (wi := 3268) (jtF_ok rfl) rfl
theorem e_MM_refute : Jvm.Cond.selects y_MM_refute.1.cls y_MM_refute.1 y_MM_refute.1 ∈ jTA lw_tbl := jTA_in (wi := 296) (jtF_ok rfl) rfl
def ag_riO : aCon := (y_BO_inCheck, false, 4, ([(.inr (some (.inl (false, 88))), none), (.inr (some (.inl (false, 62))), none), (.inl (0, 1), none), (.inl (0, 300), none)], ([(1, 5, 2), (1, 6, 3)], [], [], [(5873, [1]), (6340, [0, 1, 2, 3])])), (none, [], ([], [], [], [(6401, [1]), (3521, [1]), (7395, [1, 2, 3]), (7409, [1]), (384, []), (3859, [1, 2, 3]), (353, [0])]), [[]]), ([(0, 0)], []), { frames := 0, cells := 0, slots := 0, locals := 0 })
def ag_riG6 : aCon := (y_BO_inCheck, false, 2, ([(.inr (some (.inl (false, 88))), none), (.inl (0, 304), none)], ([], [], [], [(2738, [0, 1])])), (none, [], ([], [], [], [(2722, [0, 1])]), [[]]), ([], []), { frames := 0, cells := 0, slots := 0, locals := 0 })
def ag_riL0 : aCon := (y_BO_inCheck, false, 5, ([(.inr (some (.inl (false, 88))), none), (.inr (some (.inl (false, 105))), none), (.inl (1, 4), none), (.inl (0, 0), none), (.inl (0, 24575), none)], ([], [(1, ([], 0), 4)], [([(2, 1)], -1)], [(1538, [1, 2])])), (none, [], ([], [], [], [(401, [4]), (384, [0, 4]), (2946, [1, 4])]), [[]]), ([], []), { frames := 0, cells := 0, slots := 0, locals := 0 })
def ag_riL1 : aCon := (y_BO_inCheck, false, 6, ([(.inr (some (.inl (false, 88))), none), (.inr (some (.inl (false, 105))), none), (.inl (1, 4), none), (.inl (1, 1), none), (.inl (0, 24575), none), (.inl (0, 24575), none)], ([], [(1, ([], 1), 5)], [([(2, 1)], -2)], [(1538, [1, 2]), (2946, [1, 4])])), (none, [], ([], [], [], [(401, [5, 0, 4]), (384, [0, 5, 0, 4]), (2962, [1, 5])]), [[]]), ([], []), { frames := 0, cells := 0, slots := 0, locals := 0 })
def ag_riL2 : aCon := (y_BO_inCheck, false, 7, ([(.inr (some (.inl (false, 88))), none), (.inr (some (.inl (false, 105))), none), (.inl (1, 4), none), (.inl (2, 2), none), (.inl (0, 24575), none), (.inl (0, 24575), none), (.inl (0, 24575), none)], ([], [(1, ([], 2), 6)], [([(2, 1)], -3)], [(1538, [1, 2]), (2946, [1, 4]), (2962, [1, 5])])), (none, [], ([], [], [], [(401, [6, 0, 5, 0, 4]), (384, [0, 6, 0, 5, 0, 4]), (2978, [1, 6])]), [[]]), ([], []), { frames := 0, cells := 0, slots := 0, locals := 0 })
def ag_riL3 : aCon := (y_BO_inCheck, false, 8, ([(.inr (some (.inl (false, 88))), none), (.inr (some (.inl (false, 105))), none), (.inl (1, 4), none), (.inl (3, 3), none), (.inl (0, 24575), none), (.inl (0, 24575), none), (.inl (0, 24575), none), (.inl (0, 24575), none)], ([], [(1, ([], 3), 7)], [([(2, 1)], -4)], [(1538, [1, 2]), (2946, [1, 4]), (2962, [1, 5]), (2978, [1, 6])])), (none, [], ([], [], [], [(401, [7, 0, 6, 0, 5, 0, 4]), (384, [0, 7, 0, 6, 0, 5, 0, 4]), (2994, [1, 7])]), [[]]), ([], []), { frames := 0, cells := 0, slots := 0, locals := 0 })
def ag_riRC0 : aCon := (y_BO_inCheck, false, 4, ([(.inr (some (.inl (false, 105))), none), (.inl (0, 0), none), (.inl (0, 24575), none), (.inl (0, 24575), none)], ([], [(0, ([(1, 1)], 0), 2)], [], [(2946, [0, 3])])), (none, [], ([], [], [([(2, 1), (3, -1)], 0), ([(2, -1), (3, 1)], 0)], []), [[]]), ([], []), { frames := 0, cells := 0, slots := 0, locals := 0 })
def ag_riRC1 : aCon := (y_BO_inCheck, false, 4, ([(.inr (some (.inl (false, 105))), none), (.inl (1, 1), none), (.inl (0, 24575), none), (.inl (0, 24575), none)], ([], [(0, ([(1, 1)], 0), 2)], [], [(2962, [0, 3])])), (none, [], ([], [], [([(2, 1), (3, -1)], 0), ([(2, -1), (3, 1)], 0)], []), [[]]), ([], []), { frames := 0, cells := 0, slots := 0, locals := 0 })
def ag_riRC2 : aCon := (y_BO_inCheck, false, 4, ([(.inr (some (.inl (false, 105))), none), (.inl (2, 2), none), (.inl (0, 24575), none), (.inl (0, 24575), none)], ([], [(0, ([(1, 1)], 0), 2)], [], [(2978, [0, 3])])), (none, [], ([], [], [([(2, 1), (3, -1)], 0), ([(2, -1), (3, 1)], 0)], []), [[]]), ([], []), { frames := 0, cells := 0, slots := 0, locals := 0 })
def ag_riRC3 : aCon := (y_BO_inCheck, false, 4, ([(.inr (some (.inl (false, 105))), none), (.inl (3, 3), none), (.inl (0, 24575), none), (.inl (0, 24575), none)], ([], [(0, ([(1, 1)], 0), 2)], [], [(2994, [0, 3])])), (none, [], ([], [], [([(2, 1), (3, -1)], 0), ([(2, -1), (3, 1)], 0)], []), [[]]), ([], []), { frames := 0, cells := 0, slots := 0, locals := 0 })
def ag_riH : aCon := (y_BO_inCheck, false, 2, ([(.inr (some (.inl (false, 62))), none), (.inl (1, 2048), none)], ([(0, 33, 1)], [], [], [(7409, [0]), (384, [])])), (none, [], ([], [], [], [(1520, [])]), [[]]), ([], []), { frames := 0, cells := 0, slots := 0, locals := 0 })
def ag_riU : aCon := (y_BO_inCheck, false, 3, ([(.inr (some (.inl (false, 88))), none), (.inr (some (.inl (false, 62))), none), (.inl (0, 24575), none)], ([], [], [], [(5490, [1, 2]), (7409, [1]), (353, [0])])), (none, [], ([], [], [], [(401, [2]), (384, [0, 2])]), [[]]), ([], []), { frames := 0, cells := 0, slots := 0, locals := 0 })
