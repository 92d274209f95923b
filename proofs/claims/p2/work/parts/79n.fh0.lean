section
/-! the class's Board, exactly -/
noncomputable def fh_dep : List (List aDe) := [[], [(26, [0, 2, 3, 4, 5, 8], none), (27, [], none), (30, [], none)], [(9, [], some ([(2, 1)], 0)), (16, [], some ([(2, 1)], 0)), (22, [], some ([(2, 1)], 0)), (24, [], some ([(2, 1)], 0))], [], [], [], [(26, [0, 2, 3, 4, 5, 8], none), (27, [], none), (30, [], none)], [], [], [], [(88, [2, 3, 4, 5], none), (90, [], none)], [(103, [], some ([(2, 1)], 0))], [], [(88, [15, 16, 17, 18, 19, 20], none), (97, [], some ([(1, 1)], 1)), (98, [], some ([(1, 1)], 1)), (99, [], some ([(1, 1)], 1)), (100, [], some ([(1, 1)], 1)), (101, [], some ([(1, 1)], 1)), (102, [], some ([(1, 1)], 1))], [], [(88, [9, 10, 11, 12], none), (91, [], some ([(1, 64)], 0)), (92, [], some ([(1, 1)], 0)), (93, [], some ([(1, 1)], 0)), (94, [], some ([(1, 1)], 0))], [(88, [2, 3, 4, 5], none), (90, [], none)], [], [], [], [(26, [0, 2, 3, 4, 5, 8], none), (27, [], none), (30, [], none), (25, [0, 1, 2, 3, 4, 7], none), (38, [], none), (39, [], none), (42, [], none)], [(26, [0, 2, 3, 4, 5, 8], none), (27, [], none), (30, [], none), (25, [0, 1, 3, 4, 7], none), (38, [], none), (39, [], none), (42, [], none)], [], [], [], [], [(9, [], some ([(2, 1)], 0)), (16, [], some ([(2, 1)], 0)), (22, [], some ([(2, 1)], 0)), (24, [], some ([(2, 1)], 0))], [(9, [], some ([(2, 1)], 1)), (16, [], some ([(2, 1)], 1)), (22, [], some ([(2, 1)], 1)), (24, [], some ([(2, 1)], 1))], [(26, [0, 2, 3, 4, 5, 8], none), (27, [], none), (30, [], none)], [], [], [], [(9, [], some ([(2, 1)], 1)), (16, [], some ([(2, 1)], 1)), (22, [], some ([(2, 1)], 1)), (24, [], some ([(2, 1)], 1))], [(9, [], some ([(2, 1)], 0)), (16, [], some ([(2, 1)], 0)), (22, [], some ([(2, 1)], 0)), (24, [], some ([(2, 1)], 0))], [], [], [], [], [], [], [], [], [], [], [], [], [], [(9, [], some ([(1, 1)], 0)), (16, [], some ([(1, 1)], 0)), (22, [], some ([(1, 1)], 0)), (24, [], some ([(1, 1)], 0))], [], [], [], [], [], [], [], [], [], [], [], [], [(26, [1, 2], none), (28, [], none)], [(25, [3, 4, 5, 6, 7], none), (38, [], some ([(2, 1)], 1)), (39, [], some ([(2, 1)], 1)), (40, [], some ([(2, 1)], 1)), (41, [], some ([(2, 1)], 1)), (42, [], none)], [(25, [3, 4, 5, 6, 7], none), (38, [], some ([(2, 1)], 1)), (39, [], some ([(2, 1)], 1)), (40, [], some ([(2, 1)], 1)), (41, [], some ([(2, 1)], 1)), (42, [], none)], [(25, [3, 4, 5, 6, 7], none), (38, [], none), (39, [], none), (40, [], none), (41, [], none), (42, [], none)], [(25, [3, 4, 5, 6, 7], none), (38, [], none), (39, [], none), (40, [], none), (41, [], none), (42, [], none)], [(24, [], none)], [(24, [], some ([(1, 1)], 0))], [(25, [3, 4, 5, 6, 7, 1], none), (38, [], none), (39, [], none), (40, [], none), (41, [], none), (42, [], none)], [(25, [3, 4, 5, 6, 7, 1], none), (38, [], none), (39, [], none), (40, [], none), (41, [], none), (42, [], none)], [(25, [3, 4, 5, 6, 7, 1], none), (38, [], none), (39, [], none), (40, [], none), (41, [], none), (42, [], none)], [(25, [3, 4, 5, 6, 7, 1], none), (38, [], none), (39, [], none), (40, [], none), (41, [], none), (42, [], none)], [(19, [3, 4, 9], none), (20, [], none)], [(19, [3, 4, 9], none), (20, [], none)], [(19, [5], none), (21, [], none)], [(19, [5], none), (21, [], none)], [(19, [5], none), (21, [], none)], [(19, [5], none), (21, [], none)], [(9, [], some ([(2, 1)], 0)), (16, [], some ([(2, 1)], 0)), (22, [], some ([(2, 1)], 0)), (24, [], some ([(2, 1)], 0))], [(9, [], some ([(2, 1)], 0)), (16, [], some ([(2, 1)], 0)), (22, [], some ([(2, 1)], 0)), (24, [], some ([(2, 1)], 0))], [(9, [], some ([(2, 1)], 1)), (16, [], some ([(2, 1)], 1)), (22, [], some ([(2, 1)], 1)), (24, [], some ([(2, 1)], 1))], [(9, [], some ([(2, 1)], 0)), (16, [], some ([(2, 1)], 0)), (22, [], some ([(2, 1)], 0)), (24, [], some ([(2, 1)], 0))], [(9, [], some ([(2, 1)], 0)), (16, [], some ([(2, 1)], 0)), (22, [], some ([(2, 1)], 0)), (24, [], some ([(2, 1)], 0))], [(9, [], some ([(2, 1)], 0)), (16, [], some ([(2, 1)], 0)), (22, [], some ([(2, 1)], 0)), (24, [], some ([(2, 1)], 0))], [(9, [], some ([(2, 1)], 0)), (16, [], some ([(2, 1)], 0)), (22, [], some ([(2, 1)], 0)), (24, [], some ([(2, 1)], 0))], [(9, [], some ([(2, 1)], 1)), (16, [], some ([(2, 1)], 1)), (22, [], some ([(2, 1)], 1)), (24, [], some ([(2, 1)], 1))], [(9, [], some ([(2, 1)], 0)), (16, [], some ([(2, 1)], 0)), (22, [], some ([(2, 1)], 0)), (24, [], some ([(2, 1)], 0))], [(9, [], some ([(2, 1)], 0)), (16, [], some ([(2, 1)], 0)), (22, [], some ([(2, 1)], 0)), (24, [], some ([(2, 1)], 0))], [(9, [], some ([(2, 1)], 1)), (16, [], some ([(2, 1)], 1)), (22, [], some ([(2, 1)], 1)), (24, [], some ([(2, 1)], 1))], [(9, [], some ([(2, 1)], 0)), (16, [], some ([(2, 1)], 0)), (22, [], some ([(2, 1)], 0)), (24, [], some ([(2, 1)], 0))], [(9, [], some ([(2, 1)], 0)), (16, [], some ([(2, 1)], 0)), (22, [], some ([(2, 1)], 0)), (24, [], some ([(2, 1)], 0))], [(9, [], some ([(2, 1)], 1)), (16, [], some ([(2, 1)], 1)), (22, [], some ([(2, 1)], 1)), (24, [], some ([(2, 1)], 1))], [(9, [], some ([(2, 1)], 0)), (16, [], some ([(2, 1)], 0)), (22, [], some ([(2, 1)], 0)), (24, [], some ([(2, 1)], 0))], [(9, [], some ([(2, 1)], 1)), (16, [], some ([(2, 1)], 1)), (22, [], some ([(2, 1)], 1)), (24, [], some ([(2, 1)], 1))], [(9, [], some ([(2, 1)], 0)), (16, [], some ([(2, 1)], 0)), (22, [], some ([(2, 1)], 0)), (24, [], some ([(2, 1)], 0))], [(9, [], some ([(2, 1)], 0)), (16, [], some ([(2, 1)], 0)), (22, [], some ([(2, 1)], 0)), (24, [], some ([(2, 1)], 0))], [(9, [], some ([(2, 1)], 1)), (16, [], some ([(2, 1)], 1)), (22, [], some ([(2, 1)], 1)), (24, [], some ([(2, 1)], 1))], [], [(9, [], some ([(2, 1)], 0)), (16, [], some ([(2, 1)], 0)), (22, [], some ([(2, 1)], 0)), (24, [], some ([(2, 1)], 0))], [(9, [], some ([(2, 1)], 1)), (16, [], some ([(2, 1)], 1)), (22, [], some ([(2, 1)], 1)), (24, [], some ([(2, 1)], 1))], [], [(25, [3, 4, 5, 6, 7, 0, 1, 2], none), (38, [], none), (39, [], none), (40, [], none), (41, [], none), (42, [], none), (26, [0, 2, 3, 4, 5, 8], none), (27, [], none), (30, [], none)], [(25, [3, 4, 5, 6, 7, 1], none), (38, [], none), (39, [], none), (40, [], none), (41, [], none), (42, [], none), (26, [0, 2, 3, 4, 5, 8], none), (27, [], none), (30, [], none)], [(25, [3, 12, 1], none), (38, [], none), (47, [], none)], [(25, [3, 12, 1], none), (38, [], none), (47, [], none)], [(25, [3, 1], none), (38, [], none)], [(25, [3, 1, 4], none), (38, [], none), (39, [], none)], [(25, [3, 5, 6, 1], none), (38, [], none), (40, [], none), (41, [], none)], [(25, [3, 4, 5, 6, 7], none), (38, [], none), (39, [], none), (40, [], none), (41, [], none), (42, [], none)], [(25, [3, 12, 1], none), (38, [], none), (47, [], none)], [(25, [3, 1, 4], none), (38, [], none), (39, [], none)], [(25, [4], none), (39, [], none)], [], [], [(25, [6], none), (41, [], none)], [(19, [7], none)], [(19, [7], none)], [(25, [3, 4, 5, 6, 7, 1], none), (38, [], none), (39, [], none), (40, [], none), (41, [], none), (42, [], none), (26, [0, 2, 3, 4, 5, 8], none), (27, [], none), (30, [], none)], [(25, [3, 5, 6, 1], none), (38, [], none), (40, [], none), (41, [], none)], [(25, [3, 5], none), (38, [], none), (40, [], none)], [(25, [3, 1], none), (38, [], none)], [(25, [3, 5], none), (38, [], none), (40, [], none)], [(11, [9, 10, 11, 2], none), (12, [], none), (25, [3, 4, 5, 6, 7, 0, 1, 2], none), (38, [], none), (39, [], none), (40, [], none), (41, [], none), (42, [], none), (26, [0, 2, 3, 4, 5, 8], none), (27, [], none), (30, [], none)], [(11, [2], none), (12, [], none)], [(25, [2], none)], [(25, [5], none), (40, [], none)], [(25, [3, 4, 5, 6, 7, 0, 1, 2], none), (38, [], none), (39, [], none), (40, [], none), (41, [], none), (42, [], none), (26, [0, 2, 3, 4, 5, 8], none), (27, [], none), (30, [], none)], [(0, [10, 11], none), (25, [3, 4, 5, 6, 7, 0, 1, 2], none), (38, [], none), (39, [], none), (40, [], none), (41, [], none), (42, [], none), (26, [0, 2, 3, 4, 5, 8], none), (27, [], none), (30, [], none)], [(26, [0, 2, 3, 4, 5, 8], none), (27, [], none), (30, [], none)], [(26, [0, 2, 3, 4, 5, 8], none), (27, [], none), (30, [], none)], [(11, [2], none), (12, [], none)], [(26, [0], none), (27, [], none)], [(6, [3, 4], none), (1, [], none)], [(6, [3, 4, 2], none), (1, [], none)], [(6, [3, 4, 2], none), (1, [], none)], [(6, [3], none), (1, [], none)], [(27, [], some ([(1, 1)], 0))], [(27, [], none)], [(26, [0], none), (27, [], none)], [(26, [0, 3], none), (27, [], none)], [(26, [0, 3], none), (27, [], none)], [(26, [0, 3], none), (27, [], none)], [(26, [0, 3], none), (27, [], none)], [(26, [0, 3], none), (27, [], none)], [(26, [0, 4, 2], none), (27, [], none)], [(26, [0], none), (27, [], none)], [(27, [], none)], [(26, [0], none), (27, [], none)], [(26, [0], none), (27, [], none)], [(26, [0, 3], none), (27, [], none)], [(26, [0, 4, 2], none), (27, [], none)], [(26, [3], none)], [(26, [3], none)], [(26, [3], none)], [(26, [3], none)], [(26, [0, 8], none), (27, [], none), (30, [], none)], [(26, [0], none), (27, [], none)], [(26, [0], none), (27, [], none)], [(26, [0], none), (27, [], none)], [(30, [], none)], [(30, [], none)], [(26, [0], none), (27, [], none)], [(26, [0], none), (27, [], none)], [(26, [0], none), (27, [], none)], [(26, [0], none), (27, [], none)], [(26, [0], none), (27, [], none)], [(26, [0], none), (27, [], none)], [(26, [0], none), (27, [], none)], [(26, [0], none), (27, [], none)], [(26, [0], none), (27, [], none)], [(26, [0], none), (27, [], none)], [(26, [0], none), (27, [], none)], [(26, [0], none), (27, [], none)], [(26, [0], none), (27, [], none)], [(26, [0], none), (27, [], none)], [(26, [0], none), (27, [], none)], [(26, [0], none), (27, [], none)], [(26, [0], none), (27, [], none)], [(26, [0], none), (27, [], none)], [(26, [0], none), (27, [], none)], [(26, [0], none), (27, [], none)], [(26, [0], none), (27, [], none)], [(26, [0], none), (27, [], none)], [(26, [0], none), (27, [], none)], [(26, [0], none), (27, [], none)], [(26, [0], none), (27, [], none)], [(26, [0], none), (27, [], none)], [(26, [0], none), (27, [], none)], [(26, [0], none), (27, [], none)], [(26, [0], none), (27, [], none)], [(26, [0], none), (27, [], none)], [(26, [0], none), (27, [], none)], [(26, [0], none), (27, [], none)], [(26, [0], none), (27, [], none)], [], [], [], [], [], [], [], [(26, [0], none), (27, [], none)], [(26, [0], none), (27, [], none)], [(26, [0], none), (27, [], none)], [(26, [0], none), (27, [], none)], [], [(26, [0], none), (27, [], none)], [(26, [0], none), (27, [], none)], [(26, [0], none), (27, [], none)], [], [], [], [], [], [], [], [], [], [], [], [], [], [], [], [], [], [], [], [], [], [], [], [], [], [], [], [], [], [], [], []]
noncomputable def ag_ruAH0 : aCon := (y_BO_inCheck, false, 4, ([(.inr (some (.inl (false, 26))), none), (.inl (0, 63), none), (.inl (0, 1), none), (.inl (0, 504), none)], ([], [], [([(3, 1), (1, -8)], 0), ([(3, -1), (1, 8)], 0)], [])), (none, [], ([], [], [], [(3204, [0, 1, 2, 3])]), [[]]), ([], []), { frames := 0, cells := 0, slots := 0, locals := 0 })
noncomputable def ag_ruAHV : aCon := (y_BO_inCheck, false, 4, ([(.inr (some (.inl (false, 35))), none), (.inl (0, 63), none), (.inl (0, 511), none), (.inl (-1, 63), none)], ([], [(0, ([(2, 1)], 0), 3)], [([(2, 1), (1, -8)], 0), ([(2, -1), (1, 8)], 7)], [])), (none, [], ([], [], [], [(3267, [1, 2, 3])]), [[]]), ([], []), { frames := 0, cells := 0, slots := 0, locals := 0 })
noncomputable def ag_ruAHl : aCon := (y_BO_inCheck, false, 6, ([(.inr (some (.inl (false, 26))), none), (.inl (0, 63), none), (.inl (0, 1), none), (.inl (0, 511), none), (.inl (0, 63), none), (.inl (0, 15), none), (.inr (some (.inl (false, 27))), none)], ([(0, 0, 6)], [(6, ([(4, 1)], 0), 5)], [([(5, -1), (2, 8)], 1)], [(3204, [0, 1, 2, 3]), (3267, [1, 3, 4])])), (none, [], ([], [], [], [(3284, [0, 1, 2, 3])]), [[]]), ([], []), { frames := 0, cells := 0, slots := 0, locals := 0 })
noncomputable def ag_ruAHg : aCon := (y_BO_inCheck, false, 6, ([(.inr (some (.inl (false, 26))), none), (.inl (0, 63), none), (.inl (0, 1), none), (.inl (0, 511), none), (.inl (0, 63), none), (.inl (0, 15), none), (.inr (some (.inl (false, 27))), none)], ([(0, 0, 6)], [(6, ([(4, 1)], 0), 5)], [([(5, 1), (2, -8)], -3)], [(3204, [0, 1, 2, 3]), (3267, [1, 3, 4])])), (none, [], ([], [], [], [(3284, [0, 1, 2, 3])]), [[]]), ([], []), { frames := 0, cells := 0, slots := 0, locals := 0 })
noncomputable def ag_ruAHy : aCon := (y_BO_inCheck, false, 6, ([(.inr (some (.inl (false, 26))), none), (.inl (0, 63), none), (.inl (0, 1), none), (.inl (0, 511), none), (.inl (0, 63), none), (.inl (0, 15), none), (.inr (some (.inl (false, 27))), none)], ([(0, 0, 6)], [(6, ([(4, 1)], 0), 5)], [([(5, 1), (2, -8)], -2), ([(5, -1), (2, 8)], 2)], [(3204, [0, 1, 2, 3]), (3267, [1, 3, 4])])), (none, [], ([], [], [], [(3299, [0, 1, 2])]), [[]]), ([], []), { frames := 0, cells := 0, slots := 0, locals := 0 })
noncomputable def ag_ruAHn : aCon := (y_BO_inCheck, false, 5, ([(.inr (some (.inl (false, 26))), none), (.inl (0, 63), none), (.inl (0, 1), none), (.inl (0, 511), none), (.inl (1, 512), none)], ([], [], [([(4, 1), (3, -1)], -1), ([(4, -1), (3, 1)], 1)], [(3284, [0, 1, 2, 3])])), (none, [], ([], [], [], [(3204, [0, 1, 2, 4])]), [[]]), ([], []), { frames := 0, cells := 0, slots := 0, locals := 0 })
noncomputable def ag_ruAHz : aCon := (y_BO_inCheck, false, 4, ([(.inr (some (.inl (false, 26))), none), (.inl (0, 63), none), (.inl (0, 1), none), (.inl (1, 1), none)], ([], [], [], [(3299, [0, 1, 2])])), (none, [], ([], [], [], [(3252, [0, 1, 2, 3])]), [[]]), ([], []), { frames := 0, cells := 0, slots := 0, locals := 0 })
noncomputable def ag_ruAHd : aCon := (y_BO_inCheck, false, 5, ([(.inr (some (.inl (false, 26))), none), (.inl (0, 63), none), (.inl (0, 1), none), (.inl (0, 512), none), (.inl (0, 0), none)], ([], [], [([(3, 1), (1, -8)], -8)], [(3204, [0, 1, 2, 3])])), (none, [], ([], [], [], [(3220, [0, 1, 2, 4])]), [[]]), ([], []), { frames := 0, cells := 0, slots := 0, locals := 0 })
noncomputable def ag_ruAHe : aCon := (y_BO_inCheck, false, 6, ([(.inr (some (.inl (false, 26))), none), (.inl (0, 63), none), (.inl (0, 1), none), (.inl (0, 511), none), (.inl (0, 0), none), (.inl (-1, -1), none)], ([], [], [], [(3204, [0, 1, 2, 3]), (3267, [1, 3, 5])])), (none, [], ([], [], [], [(3220, [0, 1, 2, 4])]), [[]]), ([], []), { frames := 0, cells := 0, slots := 0, locals := 0 })
noncomputable def ag_ruAR0 : aCon := (y_BO_inCheck, false, 5, ([(.inr (some (.inl (false, 26))), none), (.inl (0, 63), none), (.inl (0, 1), none), (.inl (0, 7), none), (.inl (1, 1), none)], ([], [], [], [(3220, [0, 1, 2, 3])])), (none, [], ([], [], [], [(3237, [0, 1, 2, 3, 4])]), [[]]), ([], []), { frames := 0, cells := 0, slots := 0, locals := 0 })
noncomputable def ag_ruARn : aCon := (y_BO_inCheck, false, 8, ([(.inr (some (.inl (false, 26))), none), (.inl (0, 63), none), (.inl (0, 1), none), (.inl (0, 7), none), (.inl (1, 7), none), (.inl (0, 63), none), (.inl (0, 0), none), (.inl (2, 8), none), (.inr (some (.inl (false, 27))), none)], ([(0, 0, 8)], [(8, ([(5, 1)], 0), 6)], [([(7, 1), (4, -1)], -1), ([(7, -1), (4, 1)], 1)], [(3237, [0, 1, 2, 3, 4]), (292, [1, 3, 4, 5])])), (none, [], ([], [], [], [(3237, [0, 1, 2, 3, 7])]), [[]]), ([], []), { frames := 0, cells := 0, slots := 0, locals := 0 })
noncomputable def ag_ruARx : aCon := (y_BO_inCheck, false, 6, ([(.inr (some (.inl (false, 26))), none), (.inl (0, 63), none), (.inl (0, 1), none), (.inl (0, 7), none), (.inl (1, 8), none), (.inl (0, 7), none)], ([], [], [([(4, 1), (5, -1)], -1)], [(3237, [0, 1, 2, 3, 4]), (307, [1, 3, 5])])), (none, [], ([], [], [], [(3316, [0, 1, 2, 3])]), [[]]), ([], []), { frames := 0, cells := 0, slots := 0, locals := 0 })
noncomputable def ag_ruARq : aCon := (y_BO_inCheck, false, 5, ([(.inr (some (.inl (false, 26))), none), (.inl (0, 63), none), (.inl (0, 1), none), (.inl (0, 7), none), (.inl (1, 8), none)], ([], [], [([(4, 1), (3, -1)], -1), ([(4, -1), (3, 1)], 1)], [(3316, [0, 1, 2, 3])])), (none, [], ([], [], [], [(3220, [0, 1, 2, 4])]), [[]]), ([], []), { frames := 0, cells := 0, slots := 0, locals := 0 })
noncomputable def ag_ruARe : aCon := (y_BO_inCheck, false, 5, ([(.inr (some (.inl (false, 26))), none), (.inl (0, 63), none), (.inl (0, 1), none), (.inl (8, 8), none), (.inl (0, 0), none)], ([], [], [], [(3220, [0, 1, 2, 3])])), (none, [], ([], [], [], [(3252, [0, 1, 2, 4])]), [[]]), ([], []), { frames := 0, cells := 0, slots := 0, locals := 0 })
noncomputable def ag_ruYR5 : aCon := (y_BO_inCheck, false, 9, ([(.inr (some (.inl (false, 26))), none), (.inl (0, 63), none), (.inl (0, 1), none), (.inl (0, 7), none), (.inl (1, 7), none), (.inl (0, 63), none), (.inl (1, 15), none), (.inl (0, 7), none), (.inl (1, 1), none), (.inr (some (.inl (false, 27))), none)], ([(0, 0, 9)], [(9, ([(5, 1)], 0), 6)], [([(6, 1), (2, -8), (7, -1)], 0), ([(6, -1), (2, 8), (7, 1)], 0), ([(7, 1)], -5), ([(7, -1)], 5)], [(3237, [0, 1, 2, 3, 4]), (292, [1, 3, 4, 5])])), (none, [], ([], [], [], [(3252, [0, 1, 2, 8])]), [[]]), ([], []), { frames := 0, cells := 0, slots := 0, locals := 0 })
noncomputable def ag_ruYR4 : aCon := (y_BO_inCheck, false, 9, ([(.inr (some (.inl (false, 26))), none), (.inl (0, 63), none), (.inl (0, 1), none), (.inl (0, 3), none), (.inl (1, 7), none), (.inl (0, 63), none), (.inl (1, 15), none), (.inl (0, 7), none), (.inl (1, 1), none), (.inr (some (.inl (false, 27))), none)], ([(0, 0, 9)], [(9, ([(5, 1)], 0), 6)], [([(6, 1), (2, -8), (7, -1)], 0), ([(6, -1), (2, 8), (7, 1)], 0), ([(7, 1)], -4), ([(7, -1)], 4)], [(3237, [0, 1, 2, 3, 4]), (292, [1, 3, 4, 5])])), (none, [], ([], [], [], [(3252, [0, 1, 2, 8])]), [[]]), ([], []), { frames := 0, cells := 0, slots := 0, locals := 0 })
noncomputable def ag_ruYR3 : aCon := (y_BO_inCheck, false, 9, ([(.inr (some (.inl (false, 26))), none), (.inl (0, 63), none), (.inl (0, 1), none), (.inl (4, 7), none), (.inl (1, 7), none), (.inl (0, 63), none), (.inl (1, 15), none), (.inl (0, 7), none), (.inl (1, 1), none), (.inr (some (.inl (false, 27))), none)], ([(0, 0, 9)], [(9, ([(5, 1)], 0), 6)], [([(6, 1), (2, -8), (7, -1)], 0), ([(6, -1), (2, 8), (7, 1)], 0), ([(7, 1)], -3), ([(7, -1)], 3)], [(3237, [0, 1, 2, 3, 4]), (292, [1, 3, 4, 5])])), (none, [], ([], [], [], [(3252, [0, 1, 2, 8])]), [[]]), ([], []), { frames := 0, cells := 0, slots := 0, locals := 0 })
noncomputable def ag_ruYR6 : aCon := (y_BO_inCheck, false, 9, ([(.inr (some (.inl (false, 26))), none), (.inl (0, 63), none), (.inl (0, 1), none), (.inl (0, 7), none), (.inl (1, 1), none), (.inl (0, 63), none), (.inl (1, 15), none), (.inl (0, 7), none), (.inl (1, 1), none), (.inr (some (.inl (false, 27))), none)], ([(0, 0, 9)], [(9, ([(5, 1)], 0), 6)], [([(6, 1), (2, -8), (7, -1)], 0), ([(6, -1), (2, 8), (7, 1)], 0), ([(7, 1)], -6), ([(7, -1)], 6)], [(3237, [0, 1, 2, 3, 4]), (292, [1, 3, 4, 5])])), (none, [], ([], [], [], [(3252, [0, 1, 2, 8])]), [[]]), ([], []), { frames := 0, cells := 0, slots := 0, locals := 0 })
noncomputable def ag_ruYR1a : aCon := (y_BO_inCheck, false, 10, ([(.inr (some (.inl (false, 26))), none), (.inl (0, 63), none), (.inl (0, 0), none), (.inl (4, 7), none), (.inl (1, 1), none), (.inl (0, 63), none), (.inl (1, 15), none), (.inl (0, 7), none), (.inl (-9, -1), none), (.inl (1, 1), none), (.inr (some (.inl (false, 27))), none)], ([(0, 0, 10)], [(10, ([(5, 1)], 0), 6)], [([(6, 1), (2, -8), (7, -1)], 0), ([(6, -1), (2, 8), (7, 1)], 0), ([(7, 1)], -1), ([(7, -1)], 1)], [(3237, [0, 1, 2, 3, 4]), (292, [1, 3, 4, 5]), (354, [3, 8])])), (none, [], ([], [], [], [(3252, [0, 1, 2, 9])]), [[]]), ([], []), { frames := 0, cells := 0, slots := 0, locals := 0 })
noncomputable def ag_ruYR1b : aCon := (y_BO_inCheck, false, 10, ([(.inr (some (.inl (false, 26))), none), (.inl (0, 63), none), (.inl (1, 1), none), (.inl (4, 7), none), (.inl (1, 1), none), (.inl (0, 63), none), (.inl (1, 15), none), (.inl (0, 7), none), (.inl (1, 9), none), (.inl (1, 1), none), (.inr (some (.inl (false, 27))), none)], ([(0, 0, 10)], [(10, ([(5, 1)], 0), 6)], [([(6, 1), (2, -8), (7, -1)], 0), ([(6, -1), (2, 8), (7, 1)], 0), ([(7, 1)], -1), ([(7, -1)], 1)], [(3237, [0, 1, 2, 3, 4]), (292, [1, 3, 4, 5]), (354, [3, 8])])), (none, [], ([], [], [], [(3252, [0, 1, 2, 9])]), [[]]), ([], []), { frames := 0, cells := 0, slots := 0, locals := 0 })
noncomputable def ag_ruNR0 : aCon := (y_BO_inCheck, false, 8, ([(.inr (some (.inl (false, 26))), none), (.inl (0, 63), none), (.inl (0, 1), none), (.inl (0, 7), none), (.inl (1, 7), none), (.inl (0, 63), none), (.inl (1, 15), none), (.inl (0, 7), none), (.inr (some (.inl (false, 27))), none)], ([(0, 0, 8)], [(8, ([(5, 1)], 0), 6)], [([(6, 1), (2, -8), (7, -1)], 0), ([(6, -1), (2, 8), (7, 1)], 0), ([(7, 1)], 0), ([(7, -1)], 0)], [(3237, [0, 1, 2, 3, 4]), (292, [1, 3, 4, 5])])), (none, [], ([], [], [], [(3316, [0, 1, 2, 3])]), [[]]), ([], []), { frames := 0, cells := 0, slots := 0, locals := 0 })
noncomputable def ag_ruNR2 : aCon := (y_BO_inCheck, false, 8, ([(.inr (some (.inl (false, 26))), none), (.inl (0, 63), none), (.inl (0, 1), none), (.inl (0, 7), none), (.inl (1, 7), none), (.inl (0, 63), none), (.inl (1, 15), none), (.inl (0, 7), none), (.inr (some (.inl (false, 27))), none)], ([(0, 0, 8)], [(8, ([(5, 1)], 0), 6)], [([(6, 1), (2, -8), (7, -1)], 0), ([(6, -1), (2, 8), (7, 1)], 0), ([(7, 1)], -2), ([(7, -1)], 2)], [(3237, [0, 1, 2, 3, 4]), (292, [1, 3, 4, 5])])), (none, [], ([], [], [], [(3316, [0, 1, 2, 3])]), [[]]), ([], []), { frames := 0, cells := 0, slots := 0, locals := 0 })
noncomputable def ag_ruNR7 : aCon := (y_BO_inCheck, false, 8, ([(.inr (some (.inl (false, 26))), none), (.inl (0, 63), none), (.inl (0, 1), none), (.inl (0, 7), none), (.inl (1, 7), none), (.inl (0, 63), none), (.inl (1, 15), none), (.inl (0, 7), none), (.inr (some (.inl (false, 27))), none)], ([(0, 0, 8)], [(8, ([(5, 1)], 0), 6)], [([(6, 1), (2, -8), (7, -1)], 0), ([(6, -1), (2, 8), (7, 1)], 0), ([(7, 1)], -7), ([(7, -1)], 7)], [(3237, [0, 1, 2, 3, 4]), (292, [1, 3, 4, 5])])), (none, [], ([], [], [], [(3316, [0, 1, 2, 3])]), [[]]), ([], []), { frames := 0, cells := 0, slots := 0, locals := 0 })
noncomputable def ag_ruNR3 : aCon := (y_BO_inCheck, false, 8, ([(.inr (some (.inl (false, 26))), none), (.inl (0, 63), none), (.inl (0, 1), none), (.inl (0, 3), none), (.inl (1, 7), none), (.inl (0, 63), none), (.inl (1, 15), none), (.inl (0, 7), none), (.inr (some (.inl (false, 27))), none)], ([(0, 0, 8)], [(8, ([(5, 1)], 0), 6)], [([(6, 1), (2, -8), (7, -1)], 0), ([(6, -1), (2, 8), (7, 1)], 0), ([(7, 1)], -3), ([(7, -1)], 3)], [(3237, [0, 1, 2, 3, 4]), (292, [1, 3, 4, 5])])), (none, [], ([], [], [], [(3316, [0, 1, 2, 3])]), [[]]), ([], []), { frames := 0, cells := 0, slots := 0, locals := 0 })
noncomputable def ag_ruNR4 : aCon := (y_BO_inCheck, false, 8, ([(.inr (some (.inl (false, 26))), none), (.inl (0, 63), none), (.inl (0, 1), none), (.inl (4, 7), none), (.inl (1, 7), none), (.inl (0, 63), none), (.inl (1, 15), none), (.inl (0, 7), none), (.inr (some (.inl (false, 27))), none)], ([(0, 0, 8)], [(8, ([(5, 1)], 0), 6)], [([(6, 1), (2, -8), (7, -1)], 0), ([(6, -1), (2, 8), (7, 1)], 0), ([(7, 1)], -4), ([(7, -1)], 4)], [(3237, [0, 1, 2, 3, 4]), (292, [1, 3, 4, 5])])), (none, [], ([], [], [], [(3316, [0, 1, 2, 3])]), [[]]), ([], []), { frames := 0, cells := 0, slots := 0, locals := 0 })
noncomputable def ag_ruNR6 : aCon := (y_BO_inCheck, false, 8, ([(.inr (some (.inl (false, 26))), none), (.inl (0, 63), none), (.inl (0, 1), none), (.inl (0, 7), none), (.inl (2, 7), none), (.inl (0, 63), none), (.inl (1, 15), none), (.inl (0, 7), none), (.inr (some (.inl (false, 27))), none)], ([(0, 0, 8)], [(8, ([(5, 1)], 0), 6)], [([(6, 1), (2, -8), (7, -1)], 0), ([(6, -1), (2, 8), (7, 1)], 0), ([(7, 1)], -6), ([(7, -1)], 6)], [(3237, [0, 1, 2, 3, 4]), (292, [1, 3, 4, 5])])), (none, [], ([], [], [], [(3316, [0, 1, 2, 3])]), [[]]), ([], []), { frames := 0, cells := 0, slots := 0, locals := 0 })
noncomputable def ag_ruNR1a : aCon := (y_BO_inCheck, false, 8, ([(.inr (some (.inl (false, 26))), none), (.inl (0, 63), none), (.inl (0, 1), none), (.inl (0, 7), none), (.inl (2, 7), none), (.inl (0, 63), none), (.inl (1, 15), none), (.inl (0, 7), none), (.inr (some (.inl (false, 27))), none)], ([(0, 0, 8)], [(8, ([(5, 1)], 0), 6)], [([(6, 1), (2, -8), (7, -1)], 0), ([(6, -1), (2, 8), (7, 1)], 0), ([(7, 1)], -1), ([(7, -1)], 1)], [(3237, [0, 1, 2, 3, 4]), (292, [1, 3, 4, 5])])), (none, [], ([], [], [], [(3316, [0, 1, 2, 3])]), [[]]), ([], []), { frames := 0, cells := 0, slots := 0, locals := 0 })
noncomputable def ag_ruNR1b : aCon := (y_BO_inCheck, false, 8, ([(.inr (some (.inl (false, 26))), none), (.inl (0, 63), none), (.inl (0, 1), none), (.inl (0, 3), none), (.inl (1, 7), none), (.inl (0, 63), none), (.inl (1, 15), none), (.inl (0, 7), none), (.inr (some (.inl (false, 27))), none)], ([(0, 0, 8)], [(8, ([(5, 1)], 0), 6)], [([(6, 1), (2, -8), (7, -1)], 0), ([(6, -1), (2, 8), (7, 1)], 0), ([(7, 1)], -1), ([(7, -1)], 1)], [(3237, [0, 1, 2, 3, 4]), (292, [1, 3, 4, 5])])), (none, [], ([], [], [], [(3316, [0, 1, 2, 3])]), [[]]), ([], []), { frames := 0, cells := 0, slots := 0, locals := 0 })
noncomputable def ag_ruNR1c : aCon := (y_BO_inCheck, false, 9, ([(.inr (some (.inl (false, 26))), none), (.inl (0, 63), none), (.inl (0, 0), none), (.inl (0, 7), none), (.inl (1, 7), none), (.inl (0, 63), none), (.inl (1, 15), none), (.inl (0, 7), none), (.inl (0, 9), none), (.inr (some (.inl (false, 27))), none)], ([(0, 0, 9)], [(9, ([(5, 1)], 0), 6)], [([(6, 1), (2, -8), (7, -1)], 0), ([(6, -1), (2, 8), (7, 1)], 0), ([(7, 1)], -1), ([(7, -1)], 1)], [(3237, [0, 1, 2, 3, 4]), (292, [1, 3, 4, 5]), (354, [3, 8])])), (none, [], ([], [], [], [(3316, [0, 1, 2, 3])]), [[]]), ([], []), { frames := 0, cells := 0, slots := 0, locals := 0 })
noncomputable def ag_ruNR1d : aCon := (y_BO_inCheck, false, 9, ([(.inr (some (.inl (false, 26))), none), (.inl (0, 63), none), (.inl (1, 1), none), (.inl (0, 7), none), (.inl (1, 7), none), (.inl (0, 63), none), (.inl (1, 15), none), (.inl (0, 7), none), (.inl (-9, 0), none), (.inr (some (.inl (false, 27))), none)], ([(0, 0, 9)], [(9, ([(5, 1)], 0), 6)], [([(6, 1), (2, -8), (7, -1)], 0), ([(6, -1), (2, 8), (7, 1)], 0), ([(7, 1)], -1), ([(7, -1)], 1)], [(3237, [0, 1, 2, 3, 4]), (292, [1, 3, 4, 5]), (354, [3, 8])])), (none, [], ([], [], [], [(3316, [0, 1, 2, 3])]), [[]]), ([], []), { frames := 0, cells := 0, slots := 0, locals := 0 })
noncomputable def ag_ruNC0 : aCon := (y_BO_inCheck, false, 8, ([(.inr (some (.inl (false, 26))), none), (.inl (0, 63), none), (.inl (0, 0), none), (.inl (0, 7), none), (.inl (1, 7), none), (.inl (0, 63), none), (.inl (8, 15), none), (.inl (0, 7), none), (.inr (some (.inl (false, 27))), none)], ([(0, 0, 8)], [(8, ([(5, 1)], 0), 6)], [], [(3237, [0, 1, 2, 3, 4]), (292, [1, 3, 4, 5])])), (none, [], ([], [], [], [(3316, [0, 1, 2, 3])]), [[]]), ([], []), { frames := 0, cells := 0, slots := 0, locals := 0 })
noncomputable def ag_ruNC1 : aCon := (y_BO_inCheck, false, 8, ([(.inr (some (.inl (false, 26))), none), (.inl (0, 63), none), (.inl (1, 1), none), (.inl (0, 7), none), (.inl (1, 7), none), (.inl (0, 63), none), (.inl (1, 7), none), (.inl (0, 7), none), (.inr (some (.inl (false, 27))), none)], ([(0, 0, 8)], [(8, ([(5, 1)], 0), 6)], [], [(3237, [0, 1, 2, 3, 4]), (292, [1, 3, 4, 5])])), (none, [], ([], [], [], [(3316, [0, 1, 2, 3])]), [[]]), ([], []), { frames := 0, cells := 0, slots := 0, locals := 0 })
noncomputable def ag_ruSQD : aCon := (y_BO_inCheck, false, 4, ([(.inl (-1, 64), none), (.inl (0, 63), none), (.inl (-1, 8), none), (.inl (0, 7), none)], ([], [], [], [])), (none, [], ([], [], [], [(3396, [0, 1, 2, 3])]), [[]]), ([], []), { frames := 0, cells := 0, slots := 0, locals := 0 })
noncomputable def ag_ruTRI : aCon := (y_BO_inCheck, false, 2, ([(.inl (-2147483648, 2147483647), none), (.inl (-2147483648, 2147483647), none)], ([], [], [], [])), (none, [], ([], [], [], []), [[([(0, -1), (1, 1)], -1)], [([(0, 1), (1, -1)], 0), ([(0, -1), (1, 1)], 0)], [([(0, 1), (1, -1)], -1)]]), ([], []), { frames := 0, cells := 0, slots := 0, locals := 0 })
noncomputable def ag_ruEN0 : aCon := (y_BO_inCheck, false, 3, ([(.inr (some (.inl (false, 26))), none), (.inl (0, 63), none), (.inl (0, 0), none), (.inr (some (.inl (false, 27))), none)], ([(0, 0, 3)], [(3, ([(1, 1)], 0), 2)], [], [(17, [0])])), (none, [], ([], [], [], [(769, [1])]), [[]]), ([], []), { frames := 0, cells := 0, slots := 0, locals := 0 })
noncomputable def ag_ruENa : aCon := (y_BO_inCheck, false, 3, ([(.inr (some (.inl (false, 26))), none), (.inl (0, 63), none), (.inl (1, 7), none), (.inr (some (.inl (false, 27))), none), (.inl (1, 1), none)], ([(0, 0, 3), (0, 2, 4)], [(3, ([(1, 1)], 0), 2)], [], [(17, [0])])), (none, [], ([], [], [], [(769, [1])]), [[]]), ([], []), { frames := 0, cells := 0, slots := 0, locals := 0 })
noncomputable def ag_ruENb : aCon := (y_BO_inCheck, false, 3, ([(.inr (some (.inl (false, 26))), none), (.inl (0, 63), none), (.inl (8, 15), none), (.inr (some (.inl (false, 27))), none), (.inl (0, 0), none)], ([(0, 0, 3), (0, 2, 4)], [(3, ([(1, 1)], 0), 2)], [], [(17, [0])])), (none, [], ([], [], [], [(769, [1])]), [[]]), ([], []), { frames := 0, cells := 0, slots := 0, locals := 0 })
noncomputable def ag_ruOSa : aCon := (y_BO_inCheck, false, 3, ([(.inr (some (.inl (false, 26))), none), (.inl (0, 63), none), (.inl (1, 7), none), (.inr (some (.inl (false, 27))), none), (.inl (0, 0), none)], ([(0, 0, 3), (0, 2, 4)], [(3, ([(1, 1)], 0), 2)], [], [(17, [0])])), (none, [], ([], [], [], [(785, [1])]), [[]]), ([], []), { frames := 0, cells := 0, slots := 0, locals := 0 })
noncomputable def ag_ruOSb : aCon := (y_BO_inCheck, false, 3, ([(.inr (some (.inl (false, 26))), none), (.inl (0, 63), none), (.inl (8, 15), none), (.inr (some (.inl (false, 27))), none), (.inl (1, 1), none)], ([(0, 0, 3), (0, 2, 4)], [(3, ([(1, 1)], 0), 2)], [], [(17, [0])])), (none, [], ([], [], [], [(785, [1])]), [[]]), ([], []), { frames := 0, cells := 0, slots := 0, locals := 0 })
noncomputable def ag_ruKTO : aCon := (y_BO_inCheck, false, 5, ([(.inl (0, 63), none), (.inl (0, 7), none), (.inl (1, 7), none), (.inl (-9, 9), none), (.inl (0, 63), none)], ([], [], [([(4, 1), (0, -1), (3, -1)], 0), ([(4, -1), (0, 1), (3, 1)], 0)], [(307, [0, 1, 2]), (354, [1, 3])])), (none, [], ([], [], [], [(803, [0, 1, 4])]), [[]]), ([], []), { frames := 0, cells := 0, slots := 0, locals := 0 })
noncomputable def ag_ruD3 : aCon := (y_BO_inCheck, false, 3, ([(.inr (some (.inl (false, 26))), none), (.inl (0, 63), none), (.inl (0, 15), none), (.inr (some (.inl (false, 27))), none)], ([(0, 0, 3)], [(3, ([(1, 1)], -3), 2)], [], [(17, [0])])), (none, [], ([], [], [], [(882, [1, 2])]), [[]]), ([], []), { frames := 0, cells := 0, slots := 0, locals := 0 })
noncomputable def ag_ruYs0 : aCon := (y_BO_inCheck, false, 2, ([(.inr (some (.inl (false, 26))), none), (.inl (4, 4), none), (.inl (1, 1), none), (.inl (0, 0), none)], ([(0, 3, 2), (0, 2, 3)], [], [], [(17, [0])])), (none, [], ([], [], [], [(817, [1])]), [[]]), ([], []), { frames := 0, cells := 0, slots := 0, locals := 0 })
noncomputable def ag_ruYs1 : aCon := (y_BO_inCheck, false, 2, ([(.inr (some (.inl (false, 26))), none), (.inl (4, 4), none), (.inl (3, 3), none), (.inl (0, 0), none)], ([(0, 3, 2), (0, 2, 3)], [], [], [(17, [0])])), (none, [], ([], [], [], [(817, [1])]), [[]]), ([], []), { frames := 0, cells := 0, slots := 0, locals := 0 })
noncomputable def ag_ruYs2 : aCon := (y_BO_inCheck, false, 2, ([(.inr (some (.inl (false, 26))), none), (.inl (4, 4), none), (.inl (5, 5), none), (.inl (0, 0), none)], ([(0, 3, 2), (0, 2, 3)], [], [], [(17, [0])])), (none, [], ([], [], [], [(817, [1])]), [[]]), ([], []), { frames := 0, cells := 0, slots := 0, locals := 0 })
noncomputable def ag_ruYs3 : aCon := (y_BO_inCheck, false, 2, ([(.inr (some (.inl (false, 26))), none), (.inl (4, 4), none), (.inl (7, 7), none), (.inl (0, 0), none)], ([(0, 3, 2), (0, 2, 3)], [], [], [(17, [0])])), (none, [], ([], [], [], [(817, [1])]), [[]]), ([], []), { frames := 0, cells := 0, slots := 0, locals := 0 })
noncomputable def ag_ruYs4 : aCon := (y_BO_inCheck, false, 2, ([(.inr (some (.inl (false, 26))), none), (.inl (4, 4), none), (.inl (9, 9), none), (.inl (0, 0), none)], ([(0, 3, 2), (0, 2, 3)], [], [], [(17, [0])])), (none, [], ([], [], [], [(817, [1])]), [[]]), ([], []), { frames := 0, cells := 0, slots := 0, locals := 0 })
noncomputable def ag_ruYs5 : aCon := (y_BO_inCheck, false, 2, ([(.inr (some (.inl (false, 26))), none), (.inl (4, 4), none), (.inl (11, 11), none), (.inl (0, 0), none)], ([(0, 3, 2), (0, 2, 3)], [], [], [(17, [0])])), (none, [], ([], [], [], [(817, [1])]), [[]]), ([], []), { frames := 0, cells := 0, slots := 0, locals := 0 })
noncomputable def ag_ruYs6 : aCon := (y_BO_inCheck, false, 2, ([(.inr (some (.inl (false, 26))), none), (.inl (4, 4), none), (.inl (13, 13), none), (.inl (0, 0), none)], ([(0, 3, 2), (0, 2, 3)], [], [], [(17, [0])])), (none, [], ([], [], [], [(817, [1])]), [[]]), ([], []), { frames := 0, cells := 0, slots := 0, locals := 0 })
noncomputable def ag_ruYs7 : aCon := (y_BO_inCheck, false, 2, ([(.inr (some (.inl (false, 26))), none), (.inl (4, 4), none), (.inl (15, 15), none), (.inl (0, 0), none)], ([(0, 3, 2), (0, 2, 3)], [], [], [(17, [0])])), (none, [], ([], [], [], [(817, [1])]), [[]]), ([], []), { frames := 0, cells := 0, slots := 0, locals := 0 })
noncomputable def ag_ruYs8 : aCon := (y_BO_inCheck, false, 2, ([(.inr (some (.inl (false, 26))), none), (.inl (60, 60), none), (.inl (4, 7), none), (.inl (1, 1), none)], ([(0, 3, 2), (0, 2, 3)], [], [], [(17, [0])])), (none, [], ([], [], [], [(817, [1])]), [[]]), ([], []), { frames := 0, cells := 0, slots := 0, locals := 0 })
noncomputable def ag_ruYs9 : aCon := (y_BO_inCheck, false, 2, ([(.inr (some (.inl (false, 26))), none), (.inl (60, 60), none), (.inl (12, 15), none), (.inl (1, 1), none)], ([(0, 3, 2), (0, 2, 3)], [], [], [(17, [0])])), (none, [], ([], [], [], [(817, [1])]), [[]]), ([], []), { frames := 0, cells := 0, slots := 0, locals := 0 })
noncomputable def ag_ruYl10 : aCon := (y_BO_inCheck, false, 2, ([(.inr (some (.inl (false, 26))), none), (.inl (4, 4), none), (.inl (2, 3), none), (.inl (0, 0), none)], ([(0, 3, 2), (0, 2, 3)], [], [], [(17, [0])])), (none, [], ([], [], [], [(849, [1])]), [[]]), ([], []), { frames := 0, cells := 0, slots := 0, locals := 0 })
noncomputable def ag_ruYl11 : aCon := (y_BO_inCheck, false, 2, ([(.inr (some (.inl (false, 26))), none), (.inl (4, 4), none), (.inl (6, 7), none), (.inl (0, 0), none)], ([(0, 3, 2), (0, 2, 3)], [], [], [(17, [0])])), (none, [], ([], [], [], [(849, [1])]), [[]]), ([], []), { frames := 0, cells := 0, slots := 0, locals := 0 })
noncomputable def ag_ruYl12 : aCon := (y_BO_inCheck, false, 2, ([(.inr (some (.inl (false, 26))), none), (.inl (4, 4), none), (.inl (10, 11), none), (.inl (0, 0), none)], ([(0, 3, 2), (0, 2, 3)], [], [], [(17, [0])])), (none, [], ([], [], [], [(849, [1])]), [[]]), ([], []), { frames := 0, cells := 0, slots := 0, locals := 0 })
noncomputable def ag_ruYl13 : aCon := (y_BO_inCheck, false, 2, ([(.inr (some (.inl (false, 26))), none), (.inl (4, 4), none), (.inl (14, 15), none), (.inl (0, 0), none)], ([(0, 3, 2), (0, 2, 3)], [], [], [(17, [0])])), (none, [], ([], [], [], [(849, [1])]), [[]]), ([], []), { frames := 0, cells := 0, slots := 0, locals := 0 })
noncomputable def ag_ruYl14 : aCon := (y_BO_inCheck, false, 2, ([(.inr (some (.inl (false, 26))), none), (.inl (60, 60), none), (.inl (8, 15), none), (.inl (1, 1), none)], ([(0, 3, 2), (0, 2, 3)], [], [], [(17, [0])])), (none, [], ([], [], [], [(849, [1])]), [[]]), ([], []), { frames := 0, cells := 0, slots := 0, locals := 0 })
noncomputable def ag_ruXs0 : aCon := (y_BO_inCheck, false, 2, ([(.inr (some (.inl (false, 26))), none), (.inl (4, 4), none), (.inl (0, 0), none), (.inl (0, 0), none)], ([(0, 3, 2), (0, 2, 3)], [], [], [(17, [0])])), (none, [], ([], [], [], [(833, [1])]), [[]]), ([], []), { frames := 0, cells := 0, slots := 0, locals := 0 })
noncomputable def ag_ruXs1 : aCon := (y_BO_inCheck, false, 2, ([(.inr (some (.inl (false, 26))), none), (.inl (4, 4), none), (.inl (2, 2), none), (.inl (0, 0), none)], ([(0, 3, 2), (0, 2, 3)], [], [], [(17, [0])])), (none, [], ([], [], [], [(833, [1])]), [[]]), ([], []), { frames := 0, cells := 0, slots := 0, locals := 0 })
noncomputable def ag_ruXs2 : aCon := (y_BO_inCheck, false, 2, ([(.inr (some (.inl (false, 26))), none), (.inl (4, 4), none), (.inl (4, 4), none), (.inl (0, 0), none)], ([(0, 3, 2), (0, 2, 3)], [], [], [(17, [0])])), (none, [], ([], [], [], [(833, [1])]), [[]]), ([], []), { frames := 0, cells := 0, slots := 0, locals := 0 })
noncomputable def ag_ruXs3 : aCon := (y_BO_inCheck, false, 2, ([(.inr (some (.inl (false, 26))), none), (.inl (4, 4), none), (.inl (6, 6), none), (.inl (0, 0), none)], ([(0, 3, 2), (0, 2, 3)], [], [], [(17, [0])])), (none, [], ([], [], [], [(833, [1])]), [[]]), ([], []), { frames := 0, cells := 0, slots := 0, locals := 0 })
noncomputable def ag_ruXs4 : aCon := (y_BO_inCheck, false, 2, ([(.inr (some (.inl (false, 26))), none), (.inl (4, 4), none), (.inl (8, 8), none), (.inl (0, 0), none)], ([(0, 3, 2), (0, 2, 3)], [], [], [(17, [0])])), (none, [], ([], [], [], [(833, [1])]), [[]]), ([], []), { frames := 0, cells := 0, slots := 0, locals := 0 })
noncomputable def ag_ruXs5 : aCon := (y_BO_inCheck, false, 2, ([(.inr (some (.inl (false, 26))), none), (.inl (4, 4), none), (.inl (10, 10), none), (.inl (0, 0), none)], ([(0, 3, 2), (0, 2, 3)], [], [], [(17, [0])])), (none, [], ([], [], [], [(833, [1])]), [[]]), ([], []), { frames := 0, cells := 0, slots := 0, locals := 0 })
noncomputable def ag_ruXs6 : aCon := (y_BO_inCheck, false, 2, ([(.inr (some (.inl (false, 26))), none), (.inl (4, 4), none), (.inl (12, 12), none), (.inl (0, 0), none)], ([(0, 3, 2), (0, 2, 3)], [], [], [(17, [0])])), (none, [], ([], [], [], [(833, [1])]), [[]]), ([], []), { frames := 0, cells := 0, slots := 0, locals := 0 })
noncomputable def ag_ruXs7 : aCon := (y_BO_inCheck, false, 2, ([(.inr (some (.inl (false, 26))), none), (.inl (4, 4), none), (.inl (14, 14), none), (.inl (0, 0), none)], ([(0, 3, 2), (0, 2, 3)], [], [], [(17, [0])])), (none, [], ([], [], [], [(833, [1])]), [[]]), ([], []), { frames := 0, cells := 0, slots := 0, locals := 0 })
noncomputable def ag_ruXs8 : aCon := (y_BO_inCheck, false, 2, ([(.inr (some (.inl (false, 26))), none), (.inl (60, 60), none), (.inl (0, 3), none), (.inl (1, 1), none)], ([(0, 3, 2), (0, 2, 3)], [], [], [(17, [0])])), (none, [], ([], [], [], [(833, [1])]), [[]]), ([], []), { frames := 0, cells := 0, slots := 0, locals := 0 })
noncomputable def ag_ruXs9 : aCon := (y_BO_inCheck, false, 2, ([(.inr (some (.inl (false, 26))), none), (.inl (60, 60), none), (.inl (8, 11), none), (.inl (1, 1), none)], ([(0, 3, 2), (0, 2, 3)], [], [], [(17, [0])])), (none, [], ([], [], [], [(833, [1])]), [[]]), ([], []), { frames := 0, cells := 0, slots := 0, locals := 0 })
noncomputable def ag_ruXl10 : aCon := (y_BO_inCheck, false, 2, ([(.inr (some (.inl (false, 26))), none), (.inl (4, 4), none), (.inl (0, 1), none), (.inl (0, 0), none)], ([(0, 3, 2), (0, 2, 3)], [], [], [(17, [0])])), (none, [], ([], [], [], [(865, [1])]), [[]]), ([], []), { frames := 0, cells := 0, slots := 0, locals := 0 })
noncomputable def ag_ruXl11 : aCon := (y_BO_inCheck, false, 2, ([(.inr (some (.inl (false, 26))), none), (.inl (4, 4), none), (.inl (4, 5), none), (.inl (0, 0), none)], ([(0, 3, 2), (0, 2, 3)], [], [], [(17, [0])])), (none, [], ([], [], [], [(865, [1])]), [[]]), ([], []), { frames := 0, cells := 0, slots := 0, locals := 0 })
noncomputable def ag_ruXl12 : aCon := (y_BO_inCheck, false, 2, ([(.inr (some (.inl (false, 26))), none), (.inl (4, 4), none), (.inl (8, 9), none), (.inl (0, 0), none)], ([(0, 3, 2), (0, 2, 3)], [], [], [(17, [0])])), (none, [], ([], [], [], [(865, [1])]), [[]]), ([], []), { frames := 0, cells := 0, slots := 0, locals := 0 })
noncomputable def ag_ruXl13 : aCon := (y_BO_inCheck, false, 2, ([(.inr (some (.inl (false, 26))), none), (.inl (4, 4), none), (.inl (12, 13), none), (.inl (0, 0), none)], ([(0, 3, 2), (0, 2, 3)], [], [], [(17, [0])])), (none, [], ([], [], [], [(865, [1])]), [[]]), ([], []), { frames := 0, cells := 0, slots := 0, locals := 0 })
noncomputable def ag_ruXl14 : aCon := (y_BO_inCheck, false, 2, ([(.inr (some (.inl (false, 26))), none), (.inl (60, 60), none), (.inl (0, 7), none), (.inl (1, 1), none)], ([(0, 3, 2), (0, 2, 3)], [], [], [(17, [0])])), (none, [], ([], [], [], [(865, [1])]), [[]]), ([], []), { frames := 0, cells := 0, slots := 0, locals := 0 })
noncomputable def ag_ruGSaSE : aCon := (y_BO_inCheck, false, 5, ([(.inr (some (.inl (false, 16))), none), (.inl (0, 20736), none), (.inl (0, 63), none), (.inl (3, 3), none), (.inl (4, 4), none)], ([], [], [], [])), (none, [], ([], [], [], [(1238, [0, 1, 1, 2, 3, 4])]), [[]]), ([], []), { frames := 0, cells := 0, slots := 0, locals := 0 })
noncomputable def ag_ruGScSE : aCon := (y_BO_inCheck, false, 5, ([(.inr (some (.inl (false, 16))), none), (.inl (0, 20736), none), (.inl (0, 63), none), (.inl (4, 5), none), (.inl (0, 0), none)], ([], [], [], [])), (none, [], ([], [], [], [(1238, [0, 1, 1, 2, 3, 4])]), [[]]), ([], []), { frames := 0, cells := 0, slots := 0, locals := 0 })
noncomputable def ag_ruGSk3SE : aCon := (y_BO_inCheck, false, 7, ([(.inr (some (.inl (false, 16))), none), (.inl (0, 20736), none), (.inl (0, 20736), none), (.inl (0, 63), none), (.inl (3, 3), none), (.inl (0, 7), none), (.inl (1, 1), none)], ([], [], [], [(1238, [0, 1, 2, 3, 4, 5])])), (none, [], ([], [], [], [(1255, [0, 1, 2, 3, 4, 5, 6])]), [[]]), ([], []), { frames := 0, cells := 0, slots := 0, locals := 0 })
noncomputable def ag_ruGSk4SE : aCon := (y_BO_inCheck, false, 7, ([(.inr (some (.inl (false, 16))), none), (.inl (0, 20736), none), (.inl (0, 20736), none), (.inl (0, 63), none), (.inl (4, 4), none), (.inl (0, 3), none), (.inl (1, 1), none)], ([], [], [], [(1238, [0, 1, 2, 3, 4, 5])])), (none, [], ([], [], [], [(1255, [0, 1, 2, 3, 4, 5, 6])]), [[]]), ([], []), { frames := 0, cells := 0, slots := 0, locals := 0 })
noncomputable def ag_ruGSk5SE : aCon := (y_BO_inCheck, false, 7, ([(.inr (some (.inl (false, 16))), none), (.inl (0, 20736), none), (.inl (0, 20736), none), (.inl (0, 63), none), (.inl (5, 5), none), (.inl (0, 7), none), (.inl (1, 1), none)], ([], [], [], [(1238, [0, 1, 2, 3, 4, 5])])), (none, [], ([], [], [], [(1255, [0, 1, 2, 3, 4, 5, 6])]), [[]]), ([], []), { frames := 0, cells := 0, slots := 0, locals := 0 })
noncomputable def ag_ruGSsSE : aCon := (y_BO_inCheck, false, 9, ([(.inr (some (.inl (false, 16))), none), (.inl (0, 20736), none), (.inl (0, 32767), none), (.inl (0, 20736), none), (.inl (0, 63), none), (.inl (0, 63), none), (.inl (3, 5), none), (.inl (0, 7), none), (.inl (1, 7), none)], ([], [], [([(2, 1), (4, -512), (5, -8)], 0), ([(2, -1), (4, 512), (5, 8)], 0), ([(1, 1), (3, -1)], 0)], [(1255, [0, 3, 1, 4, 6, 7, 8]), (292, [4, 7, 8, 5]), (769, [5])])), (none, [], ([], [], [], [(66810, [0, 1, 2, 0, 3, 1, 4, 6, 7, 8])]), [[]]), ([], []), { frames := 0, cells := 0, slots := 0, locals := 0 })
noncomputable def ag_ruGSnSE : aCon := (y_BO_inCheck, false, 8, ([(.inr (some (.inl (false, 16))), none), (.inl (0, 20736), none), (.inl (0, 20736), none), (.inl (0, 63), none), (.inl (3, 5), none), (.inl (0, 7), none), (.inl (1, 7), none), (.inl (0, 20736), none)], ([], [], [([(7, 1), (2, -1)], -1), ([(7, -1), (2, 1)], 1)], [(1271, [0, 1, 2, 3, 4, 5, 6])])), (none, [], ([], [], [], [(1287, [0, 1, 7, 3, 4, 5, 6])]), [[]]), ([], []), { frames := 0, cells := 0, slots := 0, locals := 0 })
noncomputable def ag_ruGSoSE : aCon := (y_BO_inCheck, false, 8, ([(.inr (some (.inl (false, 16))), none), (.inl (0, 20736), none), (.inl (0, 20736), none), (.inl (0, 63), none), (.inl (3, 5), none), (.inl (0, 7), none), (.inl (1, 7), none), (.inl (0, 63), none)], ([], [], [], [(1255, [0, 1, 2, 3, 4, 5, 6]), (292, [3, 5, 6, 7]), (785, [7])])), (none, [], ([], [], [], [(1287, [0, 1, 2, 3, 4, 5, 6])]), [[]]), ([], []), { frames := 0, cells := 0, slots := 0, locals := 0 })
noncomputable def ag_ruGSqSE : aCon := (y_BO_inCheck, false, 11, ([(.inr (some (.inl (false, 16))), none), (.inl (0, 20736), none), (.inl (0, 20736), none), (.inl (0, 63), none), (.inl (3, 5), none), (.inl (0, 7), none), (.inl (1, 7), none), (.inl (0, 63), none), (.inl (2, 8), none), (.inr (some (.inl (false, 26))), none), (.inl (0, 0), none), (.inr (some (.inl (false, 27))), none)], ([(9, 0, 11)], [(11, ([(7, 1)], 0), 10)], [([(8, 1), (6, -1)], -1), ([(8, -1), (6, 1)], 1)], [(17, [9]), (1287, [0, 1, 2, 3, 4, 5, 6]), (292, [3, 5, 6, 7])])), (none, [], ([], [], [], [(1255, [0, 1, 2, 3, 4, 5, 8])]), [[]]), ([], []), { frames := 0, cells := 0, slots := 0, locals := 0 })
noncomputable def ag_ruGSbSE : aCon := (y_BO_inCheck, false, 11, ([(.inr (some (.inl (false, 16))), none), (.inl (0, 20736), none), (.inl (0, 20736), none), (.inl (0, 63), none), (.inl (3, 5), none), (.inl (0, 7), none), (.inl (1, 7), none), (.inl (0, 63), none), (.inl (1, 8), none), (.inr (some (.inl (false, 26))), none), (.inl (1, 15), none), (.inr (some (.inl (false, 27))), none)], ([(9, 0, 11)], [(11, ([(7, 1)], 0), 10)], [([(8, 1), (5, -1)], -1), ([(8, -1), (5, 1)], 1)], [(17, [9]), (1287, [0, 1, 2, 3, 4, 5, 6]), (292, [3, 5, 6, 7])])), (none, [], ([], [], [], [(1238, [0, 1, 2, 3, 4, 8])]), [[]]), ([], []), { frames := 0, cells := 0, slots := 0, locals := 0 })
noncomputable def ag_ruGSeSE : aCon := (y_BO_inCheck, false, 9, ([(.inr (some (.inl (false, 16))), none), (.inl (0, 20736), none), (.inl (0, 20736), none), (.inl (0, 63), none), (.inl (3, 5), none), (.inl (0, 7), none), (.inl (1, 8), none), (.inl (0, 7), none), (.inl (1, 8), none)], ([], [], [([(8, 1), (5, -1)], -1), ([(8, -1), (5, 1)], 1), ([(6, 1), (7, -1)], -1)], [(1255, [0, 1, 2, 3, 4, 5, 6]), (307, [3, 5, 7])])), (none, [], ([], [], [], [(1238, [0, 1, 2, 3, 4, 8])]), [[]]), ([], []), { frames := 0, cells := 0, slots := 0, locals := 0 })
noncomputable def ag_ruGSfSE : aCon := (y_BO_inCheck, false, 6, ([(.inr (some (.inl (false, 16))), none), (.inl (0, 20736), none), (.inl (0, 20736), none), (.inl (0, 63), none), (.inl (4, 4), none), (.inl (4, 8), none)], ([], [], [], [(1238, [0, 1, 2, 3, 4, 5]), (402, [3, 4])])), (none, [], ([], [], [], [(1300, [0, 1, 2, 3])]), [[]]), ([], []), { frames := 0, cells := 0, slots := 0, locals := 0 })
noncomputable def ag_ruGSgSE : aCon := (y_BO_inCheck, false, 6, ([(.inr (some (.inl (false, 16))), none), (.inl (0, 20736), none), (.inl (0, 20736), none), (.inl (0, 63), none), (.inl (3, 5), none), (.inl (8, 8), none)], ([], [], [], [(1238, [0, 1, 2, 3, 4, 5]), (402, [3, 4])])), (none, [], ([], [], [], [(1300, [0, 1, 2, 3])]), [[]]), ([], []), { frames := 0, cells := 0, slots := 0, locals := 0 })
noncomputable def ag_ruGHaSE : aCon := (y_BO_inCheck, false, 4, ([(.inr (some (.inl (false, 16))), none), (.inl (0, 20736), none), (.inl (0, 63), none), (.inl (0, 504), none)], ([], [], [([(3, 1), (2, -8)], 0), ([(3, -1), (2, 8)], 0)], [])), (none, [], ([], [], [], [(1333, [0, 1, 1, 2, 3])]), [[]]), ([], []), { frames := 0, cells := 0, slots := 0, locals := 0 })
noncomputable def ag_ruGHsSE : aCon := (y_BO_inCheck, false, 7, ([(.inr (some (.inl (false, 16))), none), (.inl (0, 20736), none), (.inl (0, 32767), none), (.inl (0, 20736), none), (.inl (0, 63), none), (.inl (0, 63), none), (.inl (0, 511), none)], ([], [], [([(2, 1), (4, -512), (5, -8)], 0), ([(2, -1), (4, 512), (5, 8)], 0), ([(1, 1), (3, -1)], 0)], [(1333, [0, 3, 1, 4, 6]), (3267, [4, 6, 5]), (769, [5])])), (none, [], ([], [], [], [(66888, [0, 1, 2, 0, 3, 1, 4, 6])]), [[]]), ([], []), { frames := 0, cells := 0, slots := 0, locals := 0 })
noncomputable def ag_ruGHnSE : aCon := (y_BO_inCheck, false, 6, ([(.inr (some (.inl (false, 16))), none), (.inl (0, 20736), none), (.inl (0, 20736), none), (.inl (0, 63), none), (.inl (0, 511), none), (.inl (0, 20736), none)], ([], [], [([(5, 1), (2, -1)], -1), ([(5, -1), (2, 1)], 1)], [(1349, [0, 1, 2, 3, 4])])), (none, [], ([], [], [], [(1365, [0, 1, 5, 3, 4])]), [[]]), ([], []), { frames := 0, cells := 0, slots := 0, locals := 0 })
noncomputable def ag_ruGHoSE : aCon := (y_BO_inCheck, false, 6, ([(.inr (some (.inl (false, 16))), none), (.inl (0, 20736), none), (.inl (0, 20736), none), (.inl (0, 63), none), (.inl (0, 511), none), (.inl (0, 63), none)], ([], [], [], [(1333, [0, 1, 2, 3, 4]), (3267, [3, 4, 5]), (785, [5])])), (none, [], ([], [], [], [(1365, [0, 1, 2, 3, 4])]), [[]]), ([], []), { frames := 0, cells := 0, slots := 0, locals := 0 })
noncomputable def ag_ruGHqSE : aCon := (y_BO_inCheck, false, 6, ([(.inr (some (.inl (false, 16))), none), (.inl (0, 20736), none), (.inl (0, 20736), none), (.inl (0, 63), none), (.inl (0, 511), none), (.inl (1, 512), none)], ([], [], [([(5, 1), (4, -1)], -1), ([(5, -1), (4, 1)], 1)], [(1365, [0, 1, 2, 3, 4])])), (none, [], ([], [], [], [(1333, [0, 1, 2, 3, 5])]), [[]]), ([], []), { frames := 0, cells := 0, slots := 0, locals := 0 })
noncomputable def ag_ruGHdSE : aCon := (y_BO_inCheck, false, 5, ([(.inr (some (.inl (false, 16))), none), (.inl (0, 20736), none), (.inl (0, 20736), none), (.inl (0, 63), none), (.inl (0, 512), none)], ([], [], [([(4, 1), (3, -8)], -8)], [(1333, [0, 1, 2, 3, 4]), (561, [3])])), (none, [], ([], [], [], [(1300, [0, 1, 2, 3])]), [[]]), ([], []), { frames := 0, cells := 0, slots := 0, locals := 0 })
noncomputable def ag_ruGHeSE : aCon := (y_BO_inCheck, false, 6, ([(.inr (some (.inl (false, 16))), none), (.inl (0, 20736), none), (.inl (0, 20736), none), (.inl (0, 63), none), (.inl (0, 511), none), (.inl (-1, -1), none)], ([], [], [], [(1333, [0, 1, 2, 3, 4]), (3267, [3, 4, 5]), (561, [3])])), (none, [], ([], [], [], [(1300, [0, 1, 2, 3])]), [[]]), ([], []), { frames := 0, cells := 0, slots := 0, locals := 0 })
noncomputable def ag_ruGKaSE : aCon := (y_BO_inCheck, false, 5, ([(.inr (some (.inl (false, 16))), none), (.inl (0, 20736), none), (.inl (0, 63), none), (.inl (0, 1), none), (.inl (0, 0), none)], ([], [], [], [])), (none, [], ([], [], [], [(1382, [0, 1, 1, 2, 3, 4])]), [[]]), ([], []), { frames := 0, cells := 0, slots := 0, locals := 0 })
noncomputable def ag_ruGKsSE : aCon := (y_BO_inCheck, false, 8, ([(.inr (some (.inl (false, 16))), none), (.inl (0, 20736), none), (.inl (0, 32767), none), (.inl (0, 20736), none), (.inl (0, 63), none), (.inl (0, 63), none), (.inl (0, 7), none), (.inl (0, 1), none)], ([], [], [([(2, 1), (4, -512), (5, -8)], 0), ([(2, -1), (4, 512), (5, 8)], 0), ([(1, 1), (3, -1)], 0)], [(1382, [0, 3, 1, 4, 7, 6]), (803, [4, 6, 5]), (769, [5])])), (none, [], ([], [], [], [(66937, [0, 1, 2, 0, 3, 1, 4, 7, 6])]), [[]]), ([], []), { frames := 0, cells := 0, slots := 0, locals := 0 })
noncomputable def ag_ruGKnSE : aCon := (y_BO_inCheck, false, 7, ([(.inr (some (.inl (false, 16))), none), (.inl (0, 20736), none), (.inl (0, 20736), none), (.inl (0, 63), none), (.inl (0, 1), none), (.inl (0, 7), none), (.inl (0, 20736), none)], ([], [], [([(6, 1), (2, -1)], -1), ([(6, -1), (2, 1)], 1)], [(1398, [0, 1, 2, 3, 4, 5])])), (none, [], ([], [], [], [(1414, [0, 1, 6, 3, 4, 5])]), [[]]), ([], []), { frames := 0, cells := 0, slots := 0, locals := 0 })
noncomputable def ag_ruGKoSE : aCon := (y_BO_inCheck, false, 7, ([(.inr (some (.inl (false, 16))), none), (.inl (0, 20736), none), (.inl (0, 20736), none), (.inl (0, 63), none), (.inl (0, 1), none), (.inl (0, 7), none), (.inl (0, 63), none)], ([], [], [], [(1382, [0, 1, 2, 3, 4, 5]), (803, [3, 5, 6]), (785, [6])])), (none, [], ([], [], [], [(1414, [0, 1, 2, 3, 4, 5])]), [[]]), ([], []), { frames := 0, cells := 0, slots := 0, locals := 0 })
noncomputable def ag_ruGKzSE : aCon := (y_BO_inCheck, false, 7, ([(.inr (some (.inl (false, 16))), none), (.inl (0, 20736), none), (.inl (0, 20736), none), (.inl (0, 63), none), (.inl (0, 1), none), (.inl (0, 7), none), (.inl (0, 0), none)], ([], [], [], [(1382, [0, 1, 2, 3, 4, 5]), (307, [3, 5, 6])])), (none, [], ([], [], [], [(1414, [0, 1, 2, 3, 4, 5])]), [[]]), ([], []), { frames := 0, cells := 0, slots := 0, locals := 0 })
noncomputable def ag_ruGKqSE : aCon := (y_BO_inCheck, false, 7, ([(.inr (some (.inl (false, 16))), none), (.inl (0, 20736), none), (.inl (0, 20736), none), (.inl (0, 63), none), (.inl (0, 1), none), (.inl (0, 7), none), (.inl (1, 8), none)], ([], [], [([(6, 1), (5, -1)], -1), ([(6, -1), (5, 1)], 1)], [(1414, [0, 1, 2, 3, 4, 5])])), (none, [], ([], [], [], [(1382, [0, 1, 2, 3, 4, 6])]), [[]]), ([], []), { frames := 0, cells := 0, slots := 0, locals := 0 })
noncomputable def ag_ruGKdSE : aCon := (y_BO_inCheck, false, 6, ([(.inr (some (.inl (false, 16))), none), (.inl (0, 20736), none), (.inl (0, 20736), none), (.inl (0, 63), none), (.inl (0, 1), none), (.inl (8, 8), none)], ([], [], [], [(1382, [0, 1, 2, 3, 4, 5])])), (none, [], ([], [], [], [(1429, [0, 1, 2, 3, 4])]), [[]]), ([], []), { frames := 0, cells := 0, slots := 0, locals := 0 })
noncomputable def ag_ruGKeSE : aCon := (y_BO_inCheck, false, 5, ([(.inr (some (.inl (false, 16))), none), (.inl (0, 20736), none), (.inl (0, 20736), none), (.inl (0, 63), none), (.inl (1, 1), none)], ([], [], [], [(1429, [0, 1, 2, 3, 4]), (577, [3])])), (none, [], ([], [], [], [(1317, [0, 1, 2, 3, 4])]), [[]]), ([], []), { frames := 0, cells := 0, slots := 0, locals := 0 })
noncomputable def ag_ruGKahSE : aCon := (y_BO_inCheck, false, 6, ([(.inr (some (.inl (false, 16))), none), (.inl (0, 20736), none), (.inl (0, 20736), none), (.inl (0, 3), none), (.inl (0, 1), none), (.inr (some (.inl (false, 26))), none), (.inl (0, 0), none)], ([(5, 2, 6)], [], [], [(17, [5]), (1429, [0, 1, 2, 3, 4]), (577, [3])])), (none, [], ([], [], [], [(1317, [0, 1, 2, 3, 4])]), [[]]), ([], []), { frames := 0, cells := 0, slots := 0, locals := 0 })
noncomputable def ag_ruGKbhSE : aCon := (y_BO_inCheck, false, 6, ([(.inr (some (.inl (false, 16))), none), (.inl (0, 20736), none), (.inl (0, 20736), none), (.inl (5, 63), none), (.inl (0, 1), none), (.inr (some (.inl (false, 26))), none), (.inl (0, 0), none)], ([(5, 2, 6)], [], [], [(17, [5]), (1429, [0, 1, 2, 3, 4]), (577, [3])])), (none, [], ([], [], [], [(1317, [0, 1, 2, 3, 4])]), [[]]), ([], []), { frames := 0, cells := 0, slots := 0, locals := 0 })
noncomputable def ag_ruGKchSE : aCon := (y_BO_inCheck, false, 6, ([(.inr (some (.inl (false, 16))), none), (.inl (0, 20736), none), (.inl (0, 20736), none), (.inl (0, 59), none), (.inl (0, 1), none), (.inr (some (.inl (false, 26))), none), (.inl (1, 1), none)], ([(5, 2, 6)], [], [], [(17, [5]), (1429, [0, 1, 2, 3, 4]), (577, [3])])), (none, [], ([], [], [], [(1317, [0, 1, 2, 3, 4])]), [[]]), ([], []), { frames := 0, cells := 0, slots := 0, locals := 0 })
noncomputable def ag_ruGKdhSE : aCon := (y_BO_inCheck, false, 6, ([(.inr (some (.inl (false, 16))), none), (.inl (0, 20736), none), (.inl (0, 20736), none), (.inl (61, 63), none), (.inl (0, 1), none), (.inr (some (.inl (false, 26))), none), (.inl (1, 1), none)], ([(5, 2, 6)], [], [], [(17, [5]), (1429, [0, 1, 2, 3, 4]), (577, [3])])), (none, [], ([], [], [], [(1317, [0, 1, 2, 3, 4])]), [[]]), ([], []), { frames := 0, cells := 0, slots := 0, locals := 0 })
noncomputable def ag_ruGCvSE : aCon := (y_BO_inCheck, false, 9, ([(.inr (some (.inl (false, 16))), none), (.inl (0, 20736), none), (.inl (0, 32767), none), (.inl (0, 20736), none), (.inl (0, 63), none), (.inl (0, 0), none), (.inr (some (.inl (false, 26))), none), (.inl (0, 0), none), (.inl (0, 0), none), (.inl (0, 1), none)], ([(6, 2, 9)], [], [([(2, 1), (4, -520)], -16), ([(2, -1), (4, 520)], 16), ([(4, 1), (9, -56)], -4), ([(4, -1), (9, 56)], 4), ([(1, 1), (3, -1)], 0)], [(17, [6]), (1429, [0, 3, 1, 4, 5]), (817, [4]), (642, [4, 7]), (658, [4, 8])])), (none, [], ([], [], [], [(66984, [0, 1, 2, 0, 3, 1, 4, 5])]), [[]]), ([], []), { frames := 0, cells := 0, slots := 0, locals := 0 })
noncomputable def ag_ruGCwSE : aCon := (y_BO_inCheck, false, 10, ([(.inr (some (.inl (false, 16))), none), (.inl (0, 20736), none), (.inl (0, 32767), none), (.inl (0, 20736), none), (.inl (0, 63), none), (.inl (0, 0), none), (.inr (some (.inl (false, 26))), none), (.inl (0, 0), none), (.inl (0, 0), none), (.inl (0, 0), none), (.inl (0, 1), none)], ([(6, 2, 10)], [], [([(2, 1), (4, -520)], 16), ([(2, -1), (4, 520)], -16), ([(4, 1), (10, -56)], -4), ([(4, -1), (10, 56)], 4), ([(1, 1), (3, -1)], 0)], [(17, [6]), (1461, [0, 3, 1, 4, 5]), (849, [4]), (674, [4, 7]), (690, [4, 8]), (882, [4, 9])])), (none, [], ([], [], [], [(67016, [0, 1, 2, 0, 3, 1, 4, 5])]), [[]]), ([], []), { frames := 0, cells := 0, slots := 0, locals := 0 })
noncomputable def ag_ruGCnSE : aCon := (y_BO_inCheck, false, 6, ([(.inr (some (.inl (false, 16))), none), (.inl (0, 20736), none), (.inl (0, 20736), none), (.inl (0, 63), none), (.inl (0, 1), none), (.inl (0, 20736), none)], ([], [], [([(5, 1), (2, -1)], -1), ([(5, -1), (2, 1)], 1)], [(1445, [0, 1, 2, 3, 4])])), (none, [], ([], [], [], [(1461, [0, 1, 5, 3, 4])]), [[]]), ([], []), { frames := 0, cells := 0, slots := 0, locals := 0 })
noncomputable def ag_ruGDnSE : aCon := (y_BO_inCheck, false, 6, ([(.inr (some (.inl (false, 16))), none), (.inl (0, 20736), none), (.inl (0, 20736), none), (.inl (0, 63), none), (.inl (0, 1), none), (.inl (0, 20736), none)], ([], [], [([(5, 1), (2, -1)], -1), ([(5, -1), (2, 1)], 1)], [(1477, [0, 1, 2, 3, 4]), (577, [3])])), (none, [], ([], [], [], [(1317, [0, 1, 5, 3, 4])]), [[]]), ([], []), { frames := 0, cells := 0, slots := 0, locals := 0 })
noncomputable def ag_ruGC0SE : aCon := (y_BO_inCheck, false, 5, ([(.inr (some (.inl (false, 16))), none), (.inl (0, 20736), none), (.inl (0, 20736), none), (.inl (0, 63), none), (.inl (0, 1), none)], ([], [], [], [(1429, [0, 1, 2, 3, 4]), (833, [3])])), (none, [], ([], [], [], [(1461, [0, 1, 2, 3, 4])]), [[]]), ([], []), { frames := 0, cells := 0, slots := 0, locals := 0 })
noncomputable def ag_ruGD0SE : aCon := (y_BO_inCheck, false, 5, ([(.inr (some (.inl (false, 16))), none), (.inl (0, 20736), none), (.inl (0, 20736), none), (.inl (0, 63), none), (.inl (0, 1), none)], ([], [], [], [(1461, [0, 1, 2, 3, 4]), (865, [3]), (577, [3])])), (none, [], ([], [], [], [(1317, [0, 1, 2, 3, 4])]), [[]]), ([], []), { frames := 0, cells := 0, slots := 0, locals := 0 })
noncomputable def ag_ruGC1SE : aCon := (y_BO_inCheck, false, 6, ([(.inr (some (.inl (false, 16))), none), (.inl (0, 20736), none), (.inl (0, 20736), none), (.inl (0, 63), none), (.inl (0, 1), none), (.inl (1, 15), none)], ([], [], [], [(1429, [0, 1, 2, 3, 4]), (642, [3, 5])])), (none, [], ([], [], [], [(1461, [0, 1, 2, 3, 4])]), [[]]), ([], []), { frames := 0, cells := 0, slots := 0, locals := 0 })
noncomputable def ag_ruGC2SE : aCon := (y_BO_inCheck, false, 6, ([(.inr (some (.inl (false, 16))), none), (.inl (0, 20736), none), (.inl (0, 20736), none), (.inl (0, 63), none), (.inl (0, 1), none), (.inl (1, 15), none)], ([], [], [], [(1429, [0, 1, 2, 3, 4]), (658, [3, 5])])), (none, [], ([], [], [], [(1461, [0, 1, 2, 3, 4])]), [[]]), ([], []), { frames := 0, cells := 0, slots := 0, locals := 0 })
noncomputable def ag_ruGD1SE : aCon := (y_BO_inCheck, false, 6, ([(.inr (some (.inl (false, 16))), none), (.inl (0, 20736), none), (.inl (0, 20736), none), (.inl (0, 63), none), (.inl (0, 1), none), (.inl (1, 15), none)], ([], [], [], [(1461, [0, 1, 2, 3, 4]), (674, [3, 5]), (577, [3])])), (none, [], ([], [], [], [(1317, [0, 1, 2, 3, 4])]), [[]]), ([], []), { frames := 0, cells := 0, slots := 0, locals := 0 })
noncomputable def ag_ruGD2SE : aCon := (y_BO_inCheck, false, 6, ([(.inr (some (.inl (false, 16))), none), (.inl (0, 20736), none), (.inl (0, 20736), none), (.inl (0, 63), none), (.inl (0, 1), none), (.inl (1, 15), none)], ([], [], [], [(1461, [0, 1, 2, 3, 4]), (690, [3, 5]), (577, [3])])), (none, [], ([], [], [], [(1317, [0, 1, 2, 3, 4])]), [[]]), ([], []), { frames := 0, cells := 0, slots := 0, locals := 0 })
noncomputable def ag_ruGD3SE : aCon := (y_BO_inCheck, false, 6, ([(.inr (some (.inl (false, 16))), none), (.inl (0, 20736), none), (.inl (0, 20736), none), (.inl (0, 63), none), (.inl (0, 1), none), (.inl (1, 15), none)], ([], [], [], [(1461, [0, 1, 2, 3, 4]), (882, [3, 5]), (577, [3])])), (none, [], ([], [], [], [(1317, [0, 1, 2, 3, 4])]), [[]]), ([], []), { frames := 0, cells := 0, slots := 0, locals := 0 })
noncomputable def ag_ruNEa : aCon := (y_BO_inCheck, false, 2, ([(.inl (-2147483648, 2147483647), none), (.inl (-2147483648, 2147483647), none)], ([], [], [([(0, 1), (1, -1)], -1)], [])), (none, [], ([], [], [], [(3362, [0, 1])]), [[]]), ([], []), { frames := 0, cells := 0, slots := 0, locals := 0 })
noncomputable def ag_ruNEb : aCon := (y_BO_inCheck, false, 2, ([(.inl (-2147483648, 2147483647), none), (.inl (-2147483648, 2147483647), none)], ([], [], [([(0, -1), (1, 1)], -1)], [])), (none, [], ([], [], [], [(3362, [0, 1])]), [[]]), ([], []), { frames := 0, cells := 0, slots := 0, locals := 0 })
noncomputable def ag_ruPO : aCon := (y_BO_inCheck, false, 3, ([(.inr (some (.inl (false, 26))), none), (.inl (0, 63), none), (.inl (0, 63), none), (.inl (0, 1), none)], ([(0, 2, 3)], [], [([(2, 1), (1, -1), (3, 16)], -8), ([(2, -1), (1, 1), (3, -16)], 8)], [(17, [0])])), (none, [], ([], [], [], [(946, [1, 2])]), [[]]), ([], []), { frames := 0, cells := 0, slots := 0, locals := 0 })
noncomputable def ag_ruLS0 : aCon := (y_BO_inCheck, false, 3, ([(.inl (0, 63), none), (.inl (8, 55), none), (.inl (0, 0), none)], ([], [], [], [(946, [0, 1])])), (none, [], ([], [], [], [(930, [0, 2])]), [[]]), ([], []), { frames := 0, cells := 0, slots := 0, locals := 0 })
noncomputable def ag_ruLS1 : aCon := (y_BO_inCheck, false, 3, ([(.inl (0, 63), none), (.inl (0, 7), none), (.inl (1, 1), none)], ([], [], [], [(946, [0, 1])])), (none, [], ([], [], [], [(930, [0, 2])]), [[]]), ([], []), { frames := 0, cells := 0, slots := 0, locals := 0 })
noncomputable def ag_ruLS2 : aCon := (y_BO_inCheck, false, 3, ([(.inl (0, 63), none), (.inl (56, 63), none), (.inl (1, 1), none)], ([], [], [], [(946, [0, 1])])), (none, [], ([], [], [], [(930, [0, 2])]), [[]]), ([], []), { frames := 0, cells := 0, slots := 0, locals := 0 })
noncomputable def ag_ruSQE : aCon := (y_BO_inCheck, false, 4, ([(.inl (-1, 64), none), (.inl (0, 63), none), (.inl (-1, 8), none), (.inl (0, 7), none)], ([], [], [([(0, 1), (2, -8)], 0), ([(0, -1), (2, 8)], 7), ([(1, 1), (3, -8)], 0), ([(1, -1), (3, 8)], 7), ([(2, 1), (3, -1)], 0), ([(2, -1), (3, 1)], 0)], [])), (none, [], ([], [], [], [(3394, [0, 1])]), [[]]), ([], []), { frames := 0, cells := 0, slots := 0, locals := 0 })
noncomputable def ag_ruPG1 : aCon := (y_BO_inCheck, false, 4, ([(.inl (0, 63), none), (.inl (0, 63), none), (.inl (-1, 64), none), (.inl (0, 0), none)], ([], [], [([(2, 1), (1, -1)], 0), ([(2, -1), (1, 1)], 0)], [(946, [0, 1]), (626, [2, 3])])), (none, [], ([], [], [], [(898, [0, 2])]), [[]]), ([], []), { frames := 0, cells := 0, slots := 0, locals := 0 })
noncomputable def ag_ruPN1 : aCon := (y_BO_inCheck, false, 4, ([(.inl (0, 63), none), (.inl (0, 63), none), (.inl (-1, 64), none), (.inl (1, 15), none)], ([], [], [([(2, 1), (1, -1)], 0), ([(2, -1), (1, 1)], 0)], [(946, [0, 1]), (626, [2, 3])])), (none, [], ([], [], [], [(914, [0, 2])]), [[]]), ([], []), { frames := 0, cells := 0, slots := 0, locals := 0 })
noncomputable def ag_ruPN2 : aCon := (y_BO_inCheck, false, 3, ([(.inl (0, 63), none), (.inl (0, 63), none), (.inl (-1, -1), none)], ([], [], [], [(946, [0, 1]), (3362, [2, 1])])), (none, [], ([], [], [], [(914, [0, 2])]), [[]]), ([], []), { frames := 0, cells := 0, slots := 0, locals := 0 })
noncomputable def ag_ruPN3 : aCon := (y_BO_inCheck, false, 3, ([(.inl (0, 63), none), (.inl (0, 63), none), (.inl (64, 64), none)], ([], [], [], [(946, [0, 1]), (3362, [2, 1])])), (none, [], ([], [], [], [(914, [0, 2])]), [[]]), ([], []), { frames := 0, cells := 0, slots := 0, locals := 0 })
noncomputable def ag_ruPN4 : aCon := (y_BO_inCheck, false, 5, ([(.inl (0, 63), none), (.inl (0, 63), none), (.inl (-1, 64), none), (.inl (-1, 8), none), (.inl (0, 7), none)], ([], [], [([(2, 1), (3, -8)], 0), ([(2, -1), (3, 8)], 7), ([(1, 1), (4, -8)], 0), ([(1, -1), (4, 8)], 7)], [(946, [0, 1]), (3362, [2, 1]), (3362, [3, 4])])), (none, [], ([], [], [], [(914, [0, 2])]), [[]]), ([], []), { frames := 0, cells := 0, slots := 0, locals := 0 })
noncomputable def ag_ruPN5 : aCon := (y_BO_inCheck, false, 5, ([(.inl (0, 63), none), (.inl (0, 63), none), (.inl (-1, 64), none), (.inl (0, 0), none), (.inr (some (.inl (false, 26))), none), (.inl (-1, 63), none)], ([(4, 4, 5)], [], [], [(946, [0, 1]), (3362, [2, 1]), (626, [2, 3]), (17, [4]), (3362, [2, 5])])), (none, [], ([], [], [], [(914, [0, 2])]), [[]]), ([], []), { frames := 0, cells := 0, slots := 0, locals := 0 })
noncomputable def ag_ruPG2 : aCon := (y_BO_inCheck, false, 5, ([(.inl (0, 63), none), (.inl (0, 63), none), (.inl (-1, 64), none), (.inl (0, 0), none), (.inr (some (.inl (false, 26))), none), (.inl (-1, 63), none)], ([(4, 4, 5)], [], [([(2, 1), (5, -1)], 0), ([(2, -1), (5, 1)], 0)], [(946, [0, 1]), (3362, [2, 1]), (626, [2, 3]), (3394, [2, 1]), (17, [4])])), (none, [], ([], [], [], [(898, [0, 2])]), [[]]), ([], []), { frames := 0, cells := 0, slots := 0, locals := 0 })
noncomputable def ag_ruPN6a : aCon := (y_BO_inCheck, false, 5, ([(.inl (0, 63), none), (.inl (0, 63), none), (.inl (-1, 64), none), (.inl (1, 7), none), (.inr (some (.inl (false, 26))), none), (.inl (0, 0), none)], ([(4, 2, 5)], [], [], [(946, [0, 1]), (3362, [2, 1]), (626, [2, 3]), (17, [4])])), (none, [], ([], [], [], [(914, [0, 2])]), [[]]), ([], []), { frames := 0, cells := 0, slots := 0, locals := 0 })
noncomputable def ag_ruPN6b : aCon := (y_BO_inCheck, false, 5, ([(.inl (0, 63), none), (.inl (0, 63), none), (.inl (-1, 64), none), (.inl (8, 15), none), (.inr (some (.inl (false, 26))), none), (.inl (1, 1), none)], ([(4, 2, 5)], [], [], [(946, [0, 1]), (3362, [2, 1]), (626, [2, 3]), (17, [4])])), (none, [], ([], [], [], [(914, [0, 2])]), [[]]), ([], []), { frames := 0, cells := 0, slots := 0, locals := 0 })
noncomputable def ag_ruPG3a : aCon := (y_BO_inCheck, false, 5, ([(.inl (0, 63), none), (.inl (0, 63), none), (.inl (-1, 64), none), (.inl (1, 7), none), (.inr (some (.inl (false, 26))), none), (.inl (1, 1), none)], ([(4, 2, 5)], [], [], [(946, [0, 1]), (3362, [2, 1]), (626, [2, 3]), (3394, [2, 1]), (17, [4])])), (none, [], ([], [], [], [(898, [0, 2])]), [[]]), ([], []), { frames := 0, cells := 0, slots := 0, locals := 0 })
noncomputable def ag_ruPG3b : aCon := (y_BO_inCheck, false, 5, ([(.inl (0, 63), none), (.inl (0, 63), none), (.inl (-1, 64), none), (.inl (8, 15), none), (.inr (some (.inl (false, 26))), none), (.inl (0, 0), none)], ([(4, 2, 5)], [], [], [(946, [0, 1]), (3362, [2, 1]), (626, [2, 3]), (3394, [2, 1]), (17, [4])])), (none, [], ([], [], [], [(898, [0, 2])]), [[]]), ([], []), { frames := 0, cells := 0, slots := 0, locals := 0 })
noncomputable def ag_ruPTW : aCon := (y_BO_inCheck, false, 5, ([(.inr (some (.inl (false, 26))), none), (.inl (0, 63), none), (.inl (0, 63), none), (.inl (-8, 8), none), (.inl (0, 15), none), (.inr (some (.inl (false, 27))), none), (.inl (0, 1), none)], ([(0, 0, 5), (0, 2, 6)], [(5, ([(2, 1), (3, 1)], 0), 4)], [([(3, 1), (6, 16)], -8), ([(3, -1), (6, -16)], 8)], [(17, [0]), (946, [1, 2])])), (none, [], ([], [], [], [(947, [1, 1, 4])]), [[]]), ([], []), { frames := 0, cells := 0, slots := 0, locals := 0 })
noncomputable def ag_ruRKa : aCon := (y_BO_inCheck, false, 3, ([(.inr (some (.inl (false, 26))), none), (.inl (0, 63), none), (.inl (0, 0), none), (.inl (0, 0), none)], ([(0, 2, 3)], [], [([(1, 1), (2, -8)], 0), ([(1, -1), (2, 8)], 7)], [(17, [0])])), (none, [], ([], [], [], [(929, [1])]), [[]]), ([], []), { frames := 0, cells := 0, slots := 0, locals := 0 })
noncomputable def ag_ruRKb : aCon := (y_BO_inCheck, false, 3, ([(.inr (some (.inl (false, 26))), none), (.inl (0, 63), none), (.inl (2, 7), none), (.inl (0, 0), none)], ([(0, 2, 3)], [], [([(1, 1), (2, -8)], 0), ([(1, -1), (2, 8)], 7)], [(17, [0])])), (none, [], ([], [], [], [(929, [1])]), [[]]), ([], []), { frames := 0, cells := 0, slots := 0, locals := 0 })
noncomputable def ag_ruRKc : aCon := (y_BO_inCheck, false, 3, ([(.inr (some (.inl (false, 26))), none), (.inl (0, 63), none), (.inl (0, 5), none), (.inl (1, 1), none)], ([(0, 2, 3)], [], [([(1, 1), (2, -8)], 0), ([(1, -1), (2, 8)], 7)], [(17, [0])])), (none, [], ([], [], [], [(929, [1])]), [[]]), ([], []), { frames := 0, cells := 0, slots := 0, locals := 0 })
noncomputable def ag_ruRKd : aCon := (y_BO_inCheck, false, 3, ([(.inr (some (.inl (false, 26))), none), (.inl (0, 63), none), (.inl (7, 7), none), (.inl (1, 1), none)], ([(0, 2, 3)], [], [([(1, 1), (2, -8)], 0), ([(1, -1), (2, 8)], 7)], [(17, [0])])), (none, [], ([], [], [], [(929, [1])]), [[]]), ([], []), { frames := 0, cells := 0, slots := 0, locals := 0 })
noncomputable def ag_ruGQ9SE : aCon := (y_BO_inCheck, false, 5, ([(.inr (some (.inl (false, 16))), none), (.inl (0, 20736), none), (.inl (0, 63), none), (.inl (-8, -1), none), (.inr (some (.inl (false, 26))), none), (.inl (0, 1), none)], ([(4, 2, 5)], [], [([(3, 1), (2, -1), (5, 16)], -8), ([(3, -1), (2, 1), (5, -16)], 8)], [(17, [4]), (545, [2])])), (none, [], ([], [], [], [(1300, [0, 1, 1, 2])]), [[]]), ([], []), { frames := 0, cells := 0, slots := 0, locals := 0 })
noncomputable def ag_ruGQ8SE : aCon := (y_BO_inCheck, false, 5, ([(.inr (some (.inl (false, 16))), none), (.inl (0, 20736), none), (.inl (0, 63), none), (.inl (64, 71), none), (.inr (some (.inl (false, 26))), none), (.inl (0, 1), none)], ([(4, 2, 5)], [], [([(3, 1), (2, -1), (5, 16)], -8), ([(3, -1), (2, 1), (5, -16)], 8)], [(17, [4]), (545, [2])])), (none, [], ([], [], [], [(1300, [0, 1, 1, 2])]), [[]]), ([], []), { frames := 0, cells := 0, slots := 0, locals := 0 })
noncomputable def ag_ruGQ0SE : aCon := (y_BO_inCheck, false, 5, ([(.inr (some (.inl (false, 16))), none), (.inl (0, 20736), none), (.inl (0, 63), none), (.inl (-1, 64), none), (.inl (0, 63), none)], ([], [], [([(4, 1), (3, -1)], -1), ([(4, -1), (3, 1)], 1)], [(946, [2, 4])])), (none, [], ([], [], [], [(1493, [0, 1, 1, 2, 3])]), [[]]), ([], []), { frames := 0, cells := 0, slots := 0, locals := 0 })
noncomputable def ag_ruGQmSE : aCon := (y_BO_inCheck, false, 8, ([(.inr (some (.inl (false, 16))), none), (.inl (0, 20736), none), (.inl (0, 20736), none), (.inl (0, 63), none), (.inl (-1, 64), none), (.inl (0, 2), none), (.inl (0, 1), none), (.inl (0, 63), none)], ([], [], [([(5, 1), (6, -2)], 0), ([(5, -1), (6, 2)], 0), ([(7, 1), (4, -1)], 1)], [(1493, [0, 1, 2, 3, 4]), (898, [3, 4]), (930, [3, 6]), (946, [3, 7])])), (none, [], ([], [], [], [(1510, [0, 1, 2, 3, 4, 5])]), [[]]), ([], []), { frames := 0, cells := 0, slots := 0, locals := 0 })
noncomputable def ag_ruGQsSE : aCon := (y_BO_inCheck, false, 8, ([(.inr (some (.inl (false, 16))), none), (.inl (0, 20736), none), (.inl (0, 32767), none), (.inl (0, 20736), none), (.inl (0, 63), none), (.inl (-1, 64), none), (.inl (0, 6), none), (.inl (0, 1), none)], ([], [], [([(2, 1), (4, -512), (5, -8), (6, -1)], 0), ([(2, -1), (4, 512), (5, 8), (6, 1)], 0), ([(6, 1), (7, -2)], 0), ([(6, -1), (7, 5)], 0), ([(1, 1), (3, -1)], 0)], [(1510, [0, 3, 1, 4, 5, 6]), (930, [4, 7])])), (none, [], ([], [], [], [(67065, [0, 1, 2, 0, 3, 1, 4, 5, 6])]), [[]]), ([], []), { frames := 0, cells := 0, slots := 0, locals := 0 })
noncomputable def ag_ruGQnSE : aCon := (y_BO_inCheck, false, 8, ([(.inr (some (.inl (false, 16))), none), (.inl (0, 20736), none), (.inl (0, 20736), none), (.inl (0, 63), none), (.inl (-1, 64), none), (.inl (0, 6), none), (.inl (0, 20736), none), (.inl (0, 7), none)], ([], [], [([(6, 1), (2, -1)], -1), ([(6, -1), (2, 1)], 1), ([(7, 1), (5, -1)], -1), ([(7, -1), (5, 1)], 1)], [(1526, [0, 1, 2, 3, 4, 5])])), (none, [], ([], [], [], [(1510, [0, 1, 6, 3, 4, 7])]), [[]]), ([], []), { frames := 0, cells := 0, slots := 0, locals := 0 })
noncomputable def ag_ruGQqSE : aCon := (y_BO_inCheck, false, 8, ([(.inr (some (.inl (false, 16))), none), (.inl (0, 20736), none), (.inl (0, 20736), none), (.inl (0, 63), none), (.inl (-1, 64), none), (.inl (0, 6), none), (.inl (0, 1), none), (.inl (0, 65), none)], ([], [], [([(7, 1), (4, -1)], -1), ([(7, -1), (4, 1)], 1), ([(5, 1), (6, -5)], -1)], [(1510, [0, 1, 2, 3, 4, 5]), (930, [3, 6])])), (none, [], ([], [], [], [(1493, [0, 1, 2, 3, 7])]), [[]]), ([], []), { frames := 0, cells := 0, slots := 0, locals := 0 })
noncomputable def ag_ruGQzSE : aCon := (y_BO_inCheck, false, 6, ([(.inr (some (.inl (false, 16))), none), (.inl (0, 20736), none), (.inl (0, 20736), none), (.inl (0, 63), none), (.inl (-1, 64), none), (.inl (0, 65), none)], ([], [], [([(5, 1), (4, -1)], -1), ([(5, -1), (4, 1)], 1)], [(914, [3, 4]), (1493, [0, 1, 2, 3, 4])])), (none, [], ([], [], [], [(1493, [0, 1, 2, 3, 5])]), [[]]), ([], []), { frames := 0, cells := 0, slots := 0, locals := 0 })
noncomputable def ag_ruGQdSE : aCon := (y_BO_inCheck, false, 6, ([(.inr (some (.inl (false, 16))), none), (.inl (0, 20736), none), (.inl (0, 20736), none), (.inl (0, 63), none), (.inl (0, 65), none), (.inl (0, 63), none)], ([], [], [([(4, 1), (5, -1)], -2)], [(1493, [0, 1, 2, 3, 4]), (946, [3, 5])])), (none, [], ([], [], [], [(1556, [0, 1, 2, 3])]), [[]]), ([], []), { frames := 0, cells := 0, slots := 0, locals := 0 })
noncomputable def ag_ruGRsSE : aCon := (y_BO_inCheck, false, 10, ([(.inr (some (.inl (false, 16))), none), (.inl (0, 20736), none), (.inl (0, 32767), none), (.inl (0, 20736), none), (.inl (0, 63), none), (.inl (0, 63), none), (.inr (some (.inl (false, 26))), none), (.inl (0, 0), none), (.inl (-8, 8), none), (.inl (0, 0), none), (.inl (0, 1), none)], ([(6, 2, 10)], [], [([(2, 1), (4, -512), (5, -8), (8, -8)], 0), ([(2, -1), (4, 512), (5, 8), (8, 8)], 0), ([(1, 1), (3, -1)], 0), ([(8, 1), (10, 16)], -8), ([(8, -1), (10, -16)], 8), ([(4, 1), (10, -40)], -8), ([(4, -1), (10, 40)], 15)], [(17, [6]), (1556, [0, 3, 1, 4]), (626, [5, 7]), (947, [4, 4, 9]), (946, [4, 5])])), (none, [], ([], [], [], [(67111, [0, 1, 2, 0, 3, 1, 4])]), [[]]), ([], []), { frames := 0, cells := 0, slots := 0, locals := 0 })
noncomputable def ag_ruGRnSE : aCon := (y_BO_inCheck, false, 5, ([(.inr (some (.inl (false, 16))), none), (.inl (0, 20736), none), (.inl (0, 20736), none), (.inl (0, 63), none), (.inl (0, 20736), none)], ([], [], [([(4, 1), (2, -1)], -1), ([(4, -1), (2, 1)], 1)], [(1572, [0, 1, 2, 3]), (545, [3])])), (none, [], ([], [], [], [(1300, [0, 1, 4, 3])]), [[]]), ([], []), { frames := 0, cells := 0, slots := 0, locals := 0 })
noncomputable def ag_ruGRrSE : aCon := (y_BO_inCheck, false, 4, ([(.inr (some (.inl (false, 16))), none), (.inl (0, 20736), none), (.inl (0, 20736), none), (.inl (0, 63), none)], ([], [], [], [(929, [3]), (1556, [0, 1, 2, 3]), (545, [3])])), (none, [], ([], [], [], [(1300, [0, 1, 2, 3])]), [[]]), ([], []), { frames := 0, cells := 0, slots := 0, locals := 0 })
noncomputable def ag_ruGR1SE : aCon := (y_BO_inCheck, false, 6, ([(.inr (some (.inl (false, 16))), none), (.inl (0, 20736), none), (.inl (0, 20736), none), (.inl (0, 63), none), (.inl (0, 63), none), (.inl (1, 15), none)], ([], [], [], [(1556, [0, 1, 2, 3]), (626, [4, 5]), (946, [3, 4]), (545, [3])])), (none, [], ([], [], [], [(1300, [0, 1, 2, 3])]), [[]]), ([], []), { frames := 0, cells := 0, slots := 0, locals := 0 })
noncomputable def ag_ruGR2SE : aCon := (y_BO_inCheck, false, 5, ([(.inr (some (.inl (false, 16))), none), (.inl (0, 20736), none), (.inl (0, 20736), none), (.inl (0, 63), none), (.inl (1, 15), none)], ([], [], [], [(1556, [0, 1, 2, 3]), (947, [3, 3, 4]), (545, [3])])), (none, [], ([], [], [], [(1300, [0, 1, 2, 3])]), [[]]), ([], []), { frames := 0, cells := 0, slots := 0, locals := 0 })
noncomputable def ag_ruGSaEN : aCon := (y_BO_inCheck, false, 5, ([(.inr (some (.inl (false, 24))), none), (.inl (0, 1728), none), (.inl (0, 63), none), (.inl (3, 3), none), (.inl (4, 4), none)], ([], [], [], [])), (none, [], ([], [], [], [(1238, [0, 1, 1, 2, 3, 4])]), [[]]), ([], []), { frames := 0, cells := 0, slots := 0, locals := 0 })
noncomputable def ag_ruGScEN : aCon := (y_BO_inCheck, false, 5, ([(.inr (some (.inl (false, 24))), none), (.inl (0, 1728), none), (.inl (0, 63), none), (.inl (4, 5), none), (.inl (0, 0), none)], ([], [], [], [])), (none, [], ([], [], [], [(1238, [0, 1, 1, 2, 3, 4])]), [[]]), ([], []), { frames := 0, cells := 0, slots := 0, locals := 0 })
noncomputable def ag_ruGSk3EN : aCon := (y_BO_inCheck, false, 7, ([(.inr (some (.inl (false, 24))), none), (.inl (0, 1728), none), (.inl (0, 1728), none), (.inl (0, 63), none), (.inl (3, 3), none), (.inl (0, 7), none), (.inl (1, 1), none)], ([], [], [], [(1238, [0, 1, 2, 3, 4, 5])])), (none, [], ([], [], [], [(1255, [0, 1, 2, 3, 4, 5, 6])]), [[]]), ([], []), { frames := 0, cells := 0, slots := 0, locals := 0 })
noncomputable def ag_ruGSk4EN : aCon := (y_BO_inCheck, false, 7, ([(.inr (some (.inl (false, 24))), none), (.inl (0, 1728), none), (.inl (0, 1728), none), (.inl (0, 63), none), (.inl (4, 4), none), (.inl (0, 3), none), (.inl (1, 1), none)], ([], [], [], [(1238, [0, 1, 2, 3, 4, 5])])), (none, [], ([], [], [], [(1255, [0, 1, 2, 3, 4, 5, 6])]), [[]]), ([], []), { frames := 0, cells := 0, slots := 0, locals := 0 })
noncomputable def ag_ruGSk5EN : aCon := (y_BO_inCheck, false, 7, ([(.inr (some (.inl (false, 24))), none), (.inl (0, 1728), none), (.inl (0, 1728), none), (.inl (0, 63), none), (.inl (5, 5), none), (.inl (0, 7), none), (.inl (1, 1), none)], ([], [], [], [(1238, [0, 1, 2, 3, 4, 5])])), (none, [], ([], [], [], [(1255, [0, 1, 2, 3, 4, 5, 6])]), [[]]), ([], []), { frames := 0, cells := 0, slots := 0, locals := 0 })
noncomputable def ag_ruGSsEN : aCon := (y_BO_inCheck, false, 9, ([(.inr (some (.inl (false, 24))), none), (.inl (0, 1728), none), (.inl (0, 32767), none), (.inl (0, 1728), none), (.inl (0, 63), none), (.inl (0, 63), none), (.inl (3, 5), none), (.inl (0, 7), none), (.inl (1, 7), none)], ([], [], [([(2, 1), (4, -512), (5, -8)], 0), ([(2, -1), (4, 512), (5, 8)], 0), ([(1, 1), (3, -1)], 0)], [(1255, [0, 3, 1, 4, 6, 7, 8]), (292, [4, 7, 8, 5]), (769, [5])])), (none, [], ([], [], [], [(66810, [0, 1, 2, 0, 3, 1, 4, 6, 7, 8])]), [[]]), ([], []), { frames := 0, cells := 0, slots := 0, locals := 0 })
noncomputable def ag_ruGSnEN : aCon := (y_BO_inCheck, false, 8, ([(.inr (some (.inl (false, 24))), none), (.inl (0, 1728), none), (.inl (0, 1728), none), (.inl (0, 63), none), (.inl (3, 5), none), (.inl (0, 7), none), (.inl (1, 7), none), (.inl (0, 1728), none)], ([], [], [([(7, 1), (2, -1)], -1), ([(7, -1), (2, 1)], 1)], [(1271, [0, 1, 2, 3, 4, 5, 6])])), (none, [], ([], [], [], [(1287, [0, 1, 7, 3, 4, 5, 6])]), [[]]), ([], []), { frames := 0, cells := 0, slots := 0, locals := 0 })
noncomputable def ag_ruGSoEN : aCon := (y_BO_inCheck, false, 8, ([(.inr (some (.inl (false, 24))), none), (.inl (0, 1728), none), (.inl (0, 1728), none), (.inl (0, 63), none), (.inl (3, 5), none), (.inl (0, 7), none), (.inl (1, 7), none), (.inl (0, 63), none)], ([], [], [], [(1255, [0, 1, 2, 3, 4, 5, 6]), (292, [3, 5, 6, 7]), (785, [7])])), (none, [], ([], [], [], [(1287, [0, 1, 2, 3, 4, 5, 6])]), [[]]), ([], []), { frames := 0, cells := 0, slots := 0, locals := 0 })
noncomputable def ag_ruGSqEN : aCon := (y_BO_inCheck, false, 11, ([(.inr (some (.inl (false, 24))), none), (.inl (0, 1728), none), (.inl (0, 1728), none), (.inl (0, 63), none), (.inl (3, 5), none), (.inl (0, 7), none), (.inl (1, 7), none), (.inl (0, 63), none), (.inl (2, 8), none), (.inr (some (.inl (false, 26))), none), (.inl (0, 0), none), (.inr (some (.inl (false, 27))), none)], ([(9, 0, 11)], [(11, ([(7, 1)], 0), 10)], [([(8, 1), (6, -1)], -1), ([(8, -1), (6, 1)], 1)], [(17, [9]), (1287, [0, 1, 2, 3, 4, 5, 6]), (292, [3, 5, 6, 7])])), (none, [], ([], [], [], [(1255, [0, 1, 2, 3, 4, 5, 8])]), [[]]), ([], []), { frames := 0, cells := 0, slots := 0, locals := 0 })
noncomputable def ag_ruGSbEN : aCon := (y_BO_inCheck, false, 11, ([(.inr (some (.inl (false, 24))), none), (.inl (0, 1728), none), (.inl (0, 1728), none), (.inl (0, 63), none), (.inl (3, 5), none), (.inl (0, 7), none), (.inl (1, 7), none), (.inl (0, 63), none), (.inl (1, 8), none), (.inr (some (.inl (false, 26))), none), (.inl (1, 15), none), (.inr (some (.inl (false, 27))), none)], ([(9, 0, 11)], [(11, ([(7, 1)], 0), 10)], [([(8, 1), (5, -1)], -1), ([(8, -1), (5, 1)], 1)], [(17, [9]), (1287, [0, 1, 2, 3, 4, 5, 6]), (292, [3, 5, 6, 7])])), (none, [], ([], [], [], [(1238, [0, 1, 2, 3, 4, 8])]), [[]]), ([], []), { frames := 0, cells := 0, slots := 0, locals := 0 })
noncomputable def ag_ruGSeEN : aCon := (y_BO_inCheck, false, 9, ([(.inr (some (.inl (false, 24))), none), (.inl (0, 1728), none), (.inl (0, 1728), none), (.inl (0, 63), none), (.inl (3, 5), none), (.inl (0, 7), none), (.inl (1, 8), none), (.inl (0, 7), none), (.inl (1, 8), none)], ([], [], [([(8, 1), (5, -1)], -1), ([(8, -1), (5, 1)], 1), ([(6, 1), (7, -1)], -1)], [(1255, [0, 1, 2, 3, 4, 5, 6]), (307, [3, 5, 7])])), (none, [], ([], [], [], [(1238, [0, 1, 2, 3, 4, 8])]), [[]]), ([], []), { frames := 0, cells := 0, slots := 0, locals := 0 })
noncomputable def ag_ruGSfEN : aCon := (y_BO_inCheck, false, 6, ([(.inr (some (.inl (false, 24))), none), (.inl (0, 1728), none), (.inl (0, 1728), none), (.inl (0, 63), none), (.inl (4, 4), none), (.inl (4, 8), none)], ([], [], [], [(1238, [0, 1, 2, 3, 4, 5]), (402, [3, 4])])), (none, [], ([], [], [], [(1300, [0, 1, 2, 3])]), [[]]), ([], []), { frames := 0, cells := 0, slots := 0, locals := 0 })
noncomputable def ag_ruGSgEN : aCon := (y_BO_inCheck, false, 6, ([(.inr (some (.inl (false, 24))), none), (.inl (0, 1728), none), (.inl (0, 1728), none), (.inl (0, 63), none), (.inl (3, 5), none), (.inl (8, 8), none)], ([], [], [], [(1238, [0, 1, 2, 3, 4, 5]), (402, [3, 4])])), (none, [], ([], [], [], [(1300, [0, 1, 2, 3])]), [[]]), ([], []), { frames := 0, cells := 0, slots := 0, locals := 0 })
noncomputable def ag_ruGHaEN : aCon := (y_BO_inCheck, false, 4, ([(.inr (some (.inl (false, 24))), none), (.inl (0, 1728), none), (.inl (0, 63), none), (.inl (0, 504), none)], ([], [], [([(3, 1), (2, -8)], 0), ([(3, -1), (2, 8)], 0)], [])), (none, [], ([], [], [], [(1333, [0, 1, 1, 2, 3])]), [[]]), ([], []), { frames := 0, cells := 0, slots := 0, locals := 0 })
noncomputable def ag_ruGHsEN : aCon := (y_BO_inCheck, false, 7, ([(.inr (some (.inl (false, 24))), none), (.inl (0, 1728), none), (.inl (0, 32767), none), (.inl (0, 1728), none), (.inl (0, 63), none), (.inl (0, 63), none), (.inl (0, 511), none)], ([], [], [([(2, 1), (4, -512), (5, -8)], 0), ([(2, -1), (4, 512), (5, 8)], 0), ([(1, 1), (3, -1)], 0)], [(1333, [0, 3, 1, 4, 6]), (3267, [4, 6, 5]), (769, [5])])), (none, [], ([], [], [], [(66888, [0, 1, 2, 0, 3, 1, 4, 6])]), [[]]), ([], []), { frames := 0, cells := 0, slots := 0, locals := 0 })
noncomputable def ag_ruGHnEN : aCon := (y_BO_inCheck, false, 6, ([(.inr (some (.inl (false, 24))), none), (.inl (0, 1728), none), (.inl (0, 1728), none), (.inl (0, 63), none), (.inl (0, 511), none), (.inl (0, 1728), none)], ([], [], [([(5, 1), (2, -1)], -1), ([(5, -1), (2, 1)], 1)], [(1349, [0, 1, 2, 3, 4])])), (none, [], ([], [], [], [(1365, [0, 1, 5, 3, 4])]), [[]]), ([], []), { frames := 0, cells := 0, slots := 0, locals := 0 })
noncomputable def ag_ruGHoEN : aCon := (y_BO_inCheck, false, 6, ([(.inr (some (.inl (false, 24))), none), (.inl (0, 1728), none), (.inl (0, 1728), none), (.inl (0, 63), none), (.inl (0, 511), none), (.inl (0, 63), none)], ([], [], [], [(1333, [0, 1, 2, 3, 4]), (3267, [3, 4, 5]), (785, [5])])), (none, [], ([], [], [], [(1365, [0, 1, 2, 3, 4])]), [[]]), ([], []), { frames := 0, cells := 0, slots := 0, locals := 0 })
noncomputable def ag_ruGHqEN : aCon := (y_BO_inCheck, false, 6, ([(.inr (some (.inl (false, 24))), none), (.inl (0, 1728), none), (.inl (0, 1728), none), (.inl (0, 63), none), (.inl (0, 511), none), (.inl (1, 512), none)], ([], [], [([(5, 1), (4, -1)], -1), ([(5, -1), (4, 1)], 1)], [(1365, [0, 1, 2, 3, 4])])), (none, [], ([], [], [], [(1333, [0, 1, 2, 3, 5])]), [[]]), ([], []), { frames := 0, cells := 0, slots := 0, locals := 0 })
noncomputable def ag_ruGHdEN : aCon := (y_BO_inCheck, false, 5, ([(.inr (some (.inl (false, 24))), none), (.inl (0, 1728), none), (.inl (0, 1728), none), (.inl (0, 63), none), (.inl (0, 512), none)], ([], [], [([(4, 1), (3, -8)], -8)], [(1333, [0, 1, 2, 3, 4]), (561, [3])])), (none, [], ([], [], [], [(1300, [0, 1, 2, 3])]), [[]]), ([], []), { frames := 0, cells := 0, slots := 0, locals := 0 })
noncomputable def ag_ruGHeEN : aCon := (y_BO_inCheck, false, 6, ([(.inr (some (.inl (false, 24))), none), (.inl (0, 1728), none), (.inl (0, 1728), none), (.inl (0, 63), none), (.inl (0, 511), none), (.inl (-1, -1), none)], ([], [], [], [(1333, [0, 1, 2, 3, 4]), (3267, [3, 4, 5]), (561, [3])])), (none, [], ([], [], [], [(1300, [0, 1, 2, 3])]), [[]]), ([], []), { frames := 0, cells := 0, slots := 0, locals := 0 })
noncomputable def ag_ruGKaEN : aCon := (y_BO_inCheck, false, 5, ([(.inr (some (.inl (false, 24))), none), (.inl (0, 1728), none), (.inl (0, 63), none), (.inl (0, 1), none), (.inl (0, 0), none)], ([], [], [], [])), (none, [], ([], [], [], [(1382, [0, 1, 1, 2, 3, 4])]), [[]]), ([], []), { frames := 0, cells := 0, slots := 0, locals := 0 })
noncomputable def ag_ruGKsEN : aCon := (y_BO_inCheck, false, 8, ([(.inr (some (.inl (false, 24))), none), (.inl (0, 1728), none), (.inl (0, 32767), none), (.inl (0, 1728), none), (.inl (0, 63), none), (.inl (0, 63), none), (.inl (0, 7), none), (.inl (0, 1), none)], ([], [], [([(2, 1), (4, -512), (5, -8)], 0), ([(2, -1), (4, 512), (5, 8)], 0), ([(1, 1), (3, -1)], 0)], [(1382, [0, 3, 1, 4, 7, 6]), (803, [4, 6, 5]), (769, [5])])), (none, [], ([], [], [], [(66937, [0, 1, 2, 0, 3, 1, 4, 7, 6])]), [[]]), ([], []), { frames := 0, cells := 0, slots := 0, locals := 0 })
noncomputable def ag_ruGKnEN : aCon := (y_BO_inCheck, false, 7, ([(.inr (some (.inl (false, 24))), none), (.inl (0, 1728), none), (.inl (0, 1728), none), (.inl (0, 63), none), (.inl (0, 1), none), (.inl (0, 7), none), (.inl (0, 1728), none)], ([], [], [([(6, 1), (2, -1)], -1), ([(6, -1), (2, 1)], 1)], [(1398, [0, 1, 2, 3, 4, 5])])), (none, [], ([], [], [], [(1414, [0, 1, 6, 3, 4, 5])]), [[]]), ([], []), { frames := 0, cells := 0, slots := 0, locals := 0 })
noncomputable def ag_ruGKoEN : aCon := (y_BO_inCheck, false, 7, ([(.inr (some (.inl (false, 24))), none), (.inl (0, 1728), none), (.inl (0, 1728), none), (.inl (0, 63), none), (.inl (0, 1), none), (.inl (0, 7), none), (.inl (0, 63), none)], ([], [], [], [(1382, [0, 1, 2, 3, 4, 5]), (803, [3, 5, 6]), (785, [6])])), (none, [], ([], [], [], [(1414, [0, 1, 2, 3, 4, 5])]), [[]]), ([], []), { frames := 0, cells := 0, slots := 0, locals := 0 })
noncomputable def ag_ruGKzEN : aCon := (y_BO_inCheck, false, 7, ([(.inr (some (.inl (false, 24))), none), (.inl (0, 1728), none), (.inl (0, 1728), none), (.inl (0, 63), none), (.inl (0, 1), none), (.inl (0, 7), none), (.inl (0, 0), none)], ([], [], [], [(1382, [0, 1, 2, 3, 4, 5]), (307, [3, 5, 6])])), (none, [], ([], [], [], [(1414, [0, 1, 2, 3, 4, 5])]), [[]]), ([], []), { frames := 0, cells := 0, slots := 0, locals := 0 })
noncomputable def ag_ruGKqEN : aCon := (y_BO_inCheck, false, 7, ([(.inr (some (.inl (false, 24))), none), (.inl (0, 1728), none), (.inl (0, 1728), none), (.inl (0, 63), none), (.inl (0, 1), none), (.inl (0, 7), none), (.inl (1, 8), none)], ([], [], [([(6, 1), (5, -1)], -1), ([(6, -1), (5, 1)], 1)], [(1414, [0, 1, 2, 3, 4, 5])])), (none, [], ([], [], [], [(1382, [0, 1, 2, 3, 4, 6])]), [[]]), ([], []), { frames := 0, cells := 0, slots := 0, locals := 0 })
noncomputable def ag_ruGKdEN : aCon := (y_BO_inCheck, false, 6, ([(.inr (some (.inl (false, 24))), none), (.inl (0, 1728), none), (.inl (0, 1728), none), (.inl (0, 63), none), (.inl (0, 1), none), (.inl (8, 8), none)], ([], [], [], [(1382, [0, 1, 2, 3, 4, 5])])), (none, [], ([], [], [], [(1429, [0, 1, 2, 3, 4])]), [[]]), ([], []), { frames := 0, cells := 0, slots := 0, locals := 0 })
noncomputable def ag_ruGKeEN : aCon := (y_BO_inCheck, false, 5, ([(.inr (some (.inl (false, 24))), none), (.inl (0, 1728), none), (.inl (0, 1728), none), (.inl (0, 63), none), (.inl (1, 1), none)], ([], [], [], [(1429, [0, 1, 2, 3, 4]), (577, [3])])), (none, [], ([], [], [], [(1317, [0, 1, 2, 3, 4])]), [[]]), ([], []), { frames := 0, cells := 0, slots := 0, locals := 0 })
noncomputable def ag_ruGKahEN : aCon := (y_BO_inCheck, false, 6, ([(.inr (some (.inl (false, 24))), none), (.inl (0, 1728), none), (.inl (0, 1728), none), (.inl (0, 3), none), (.inl (0, 1), none), (.inr (some (.inl (false, 26))), none), (.inl (0, 0), none)], ([(5, 2, 6)], [], [], [(17, [5]), (1429, [0, 1, 2, 3, 4]), (577, [3])])), (none, [], ([], [], [], [(1317, [0, 1, 2, 3, 4])]), [[]]), ([], []), { frames := 0, cells := 0, slots := 0, locals := 0 })
noncomputable def ag_ruGKbhEN : aCon := (y_BO_inCheck, false, 6, ([(.inr (some (.inl (false, 24))), none), (.inl (0, 1728), none), (.inl (0, 1728), none), (.inl (5, 63), none), (.inl (0, 1), none), (.inr (some (.inl (false, 26))), none), (.inl (0, 0), none)], ([(5, 2, 6)], [], [], [(17, [5]), (1429, [0, 1, 2, 3, 4]), (577, [3])])), (none, [], ([], [], [], [(1317, [0, 1, 2, 3, 4])]), [[]]), ([], []), { frames := 0, cells := 0, slots := 0, locals := 0 })
noncomputable def ag_ruGKchEN : aCon := (y_BO_inCheck, false, 6, ([(.inr (some (.inl (false, 24))), none), (.inl (0, 1728), none), (.inl (0, 1728), none), (.inl (0, 59), none), (.inl (0, 1), none), (.inr (some (.inl (false, 26))), none), (.inl (1, 1), none)], ([(5, 2, 6)], [], [], [(17, [5]), (1429, [0, 1, 2, 3, 4]), (577, [3])])), (none, [], ([], [], [], [(1317, [0, 1, 2, 3, 4])]), [[]]), ([], []), { frames := 0, cells := 0, slots := 0, locals := 0 })
noncomputable def ag_ruGKdhEN : aCon := (y_BO_inCheck, false, 6, ([(.inr (some (.inl (false, 24))), none), (.inl (0, 1728), none), (.inl (0, 1728), none), (.inl (61, 63), none), (.inl (0, 1), none), (.inr (some (.inl (false, 26))), none), (.inl (1, 1), none)], ([(5, 2, 6)], [], [], [(17, [5]), (1429, [0, 1, 2, 3, 4]), (577, [3])])), (none, [], ([], [], [], [(1317, [0, 1, 2, 3, 4])]), [[]]), ([], []), { frames := 0, cells := 0, slots := 0, locals := 0 })
noncomputable def ag_ruGCvEN : aCon := (y_BO_inCheck, false, 9, ([(.inr (some (.inl (false, 24))), none), (.inl (0, 1728), none), (.inl (0, 32767), none), (.inl (0, 1728), none), (.inl (0, 63), none), (.inl (0, 0), none), (.inr (some (.inl (false, 26))), none), (.inl (0, 0), none), (.inl (0, 0), none), (.inl (0, 1), none)], ([(6, 2, 9)], [], [([(2, 1), (4, -520)], -16), ([(2, -1), (4, 520)], 16), ([(4, 1), (9, -56)], -4), ([(4, -1), (9, 56)], 4), ([(1, 1), (3, -1)], 0)], [(17, [6]), (1429, [0, 3, 1, 4, 5]), (817, [4]), (642, [4, 7]), (658, [4, 8])])), (none, [], ([], [], [], [(66984, [0, 1, 2, 0, 3, 1, 4, 5])]), [[]]), ([], []), { frames := 0, cells := 0, slots := 0, locals := 0 })
noncomputable def ag_ruGCwEN : aCon := (y_BO_inCheck, false, 10, ([(.inr (some (.inl (false, 24))), none), (.inl (0, 1728), none), (.inl (0, 32767), none), (.inl (0, 1728), none), (.inl (0, 63), none), (.inl (0, 0), none), (.inr (some (.inl (false, 26))), none), (.inl (0, 0), none), (.inl (0, 0), none), (.inl (0, 0), none), (.inl (0, 1), none)], ([(6, 2, 10)], [], [([(2, 1), (4, -520)], 16), ([(2, -1), (4, 520)], -16), ([(4, 1), (10, -56)], -4), ([(4, -1), (10, 56)], 4), ([(1, 1), (3, -1)], 0)], [(17, [6]), (1461, [0, 3, 1, 4, 5]), (849, [4]), (674, [4, 7]), (690, [4, 8]), (882, [4, 9])])), (none, [], ([], [], [], [(67016, [0, 1, 2, 0, 3, 1, 4, 5])]), [[]]), ([], []), { frames := 0, cells := 0, slots := 0, locals := 0 })
noncomputable def ag_ruGCnEN : aCon := (y_BO_inCheck, false, 6, ([(.inr (some (.inl (false, 24))), none), (.inl (0, 1728), none), (.inl (0, 1728), none), (.inl (0, 63), none), (.inl (0, 1), none), (.inl (0, 1728), none)], ([], [], [([(5, 1), (2, -1)], -1), ([(5, -1), (2, 1)], 1)], [(1445, [0, 1, 2, 3, 4])])), (none, [], ([], [], [], [(1461, [0, 1, 5, 3, 4])]), [[]]), ([], []), { frames := 0, cells := 0, slots := 0, locals := 0 })
noncomputable def ag_ruGDnEN : aCon := (y_BO_inCheck, false, 6, ([(.inr (some (.inl (false, 24))), none), (.inl (0, 1728), none), (.inl (0, 1728), none), (.inl (0, 63), none), (.inl (0, 1), none), (.inl (0, 1728), none)], ([], [], [([(5, 1), (2, -1)], -1), ([(5, -1), (2, 1)], 1)], [(1477, [0, 1, 2, 3, 4]), (577, [3])])), (none, [], ([], [], [], [(1317, [0, 1, 5, 3, 4])]), [[]]), ([], []), { frames := 0, cells := 0, slots := 0, locals := 0 })
noncomputable def ag_ruGC0EN : aCon := (y_BO_inCheck, false, 5, ([(.inr (some (.inl (false, 24))), none), (.inl (0, 1728), none), (.inl (0, 1728), none), (.inl (0, 63), none), (.inl (0, 1), none)], ([], [], [], [(1429, [0, 1, 2, 3, 4]), (833, [3])])), (none, [], ([], [], [], [(1461, [0, 1, 2, 3, 4])]), [[]]), ([], []), { frames := 0, cells := 0, slots := 0, locals := 0 })
noncomputable def ag_ruGD0EN : aCon := (y_BO_inCheck, false, 5, ([(.inr (some (.inl (false, 24))), none), (.inl (0, 1728), none), (.inl (0, 1728), none), (.inl (0, 63), none), (.inl (0, 1), none)], ([], [], [], [(1461, [0, 1, 2, 3, 4]), (865, [3]), (577, [3])])), (none, [], ([], [], [], [(1317, [0, 1, 2, 3, 4])]), [[]]), ([], []), { frames := 0, cells := 0, slots := 0, locals := 0 })
noncomputable def ag_ruGC1EN : aCon := (y_BO_inCheck, false, 6, ([(.inr (some (.inl (false, 24))), none), (.inl (0, 1728), none), (.inl (0, 1728), none), (.inl (0, 63), none), (.inl (0, 1), none), (.inl (1, 15), none)], ([], [], [], [(1429, [0, 1, 2, 3, 4]), (642, [3, 5])])), (none, [], ([], [], [], [(1461, [0, 1, 2, 3, 4])]), [[]]), ([], []), { frames := 0, cells := 0, slots := 0, locals := 0 })
noncomputable def ag_ruGC2EN : aCon := (y_BO_inCheck, false, 6, ([(.inr (some (.inl (false, 24))), none), (.inl (0, 1728), none), (.inl (0, 1728), none), (.inl (0, 63), none), (.inl (0, 1), none), (.inl (1, 15), none)], ([], [], [], [(1429, [0, 1, 2, 3, 4]), (658, [3, 5])])), (none, [], ([], [], [], [(1461, [0, 1, 2, 3, 4])]), [[]]), ([], []), { frames := 0, cells := 0, slots := 0, locals := 0 })
noncomputable def ag_ruGD1EN : aCon := (y_BO_inCheck, false, 6, ([(.inr (some (.inl (false, 24))), none), (.inl (0, 1728), none), (.inl (0, 1728), none), (.inl (0, 63), none), (.inl (0, 1), none), (.inl (1, 15), none)], ([], [], [], [(1461, [0, 1, 2, 3, 4]), (674, [3, 5]), (577, [3])])), (none, [], ([], [], [], [(1317, [0, 1, 2, 3, 4])]), [[]]), ([], []), { frames := 0, cells := 0, slots := 0, locals := 0 })
noncomputable def ag_ruGD2EN : aCon := (y_BO_inCheck, false, 6, ([(.inr (some (.inl (false, 24))), none), (.inl (0, 1728), none), (.inl (0, 1728), none), (.inl (0, 63), none), (.inl (0, 1), none), (.inl (1, 15), none)], ([], [], [], [(1461, [0, 1, 2, 3, 4]), (690, [3, 5]), (577, [3])])), (none, [], ([], [], [], [(1317, [0, 1, 2, 3, 4])]), [[]]), ([], []), { frames := 0, cells := 0, slots := 0, locals := 0 })
noncomputable def ag_ruGD3EN : aCon := (y_BO_inCheck, false, 6, ([(.inr (some (.inl (false, 24))), none), (.inl (0, 1728), none), (.inl (0, 1728), none), (.inl (0, 63), none), (.inl (0, 1), none), (.inl (1, 15), none)], ([], [], [], [(1461, [0, 1, 2, 3, 4]), (882, [3, 5]), (577, [3])])), (none, [], ([], [], [], [(1317, [0, 1, 2, 3, 4])]), [[]]), ([], []), { frames := 0, cells := 0, slots := 0, locals := 0 })
noncomputable def ag_ruGQ9EN : aCon := (y_BO_inCheck, false, 5, ([(.inr (some (.inl (false, 24))), none), (.inl (0, 1728), none), (.inl (0, 63), none), (.inl (-8, -1), none), (.inr (some (.inl (false, 26))), none), (.inl (0, 1), none)], ([(4, 2, 5)], [], [([(3, 1), (2, -1), (5, 16)], -8), ([(3, -1), (2, 1), (5, -16)], 8)], [(17, [4]), (545, [2])])), (none, [], ([], [], [], [(1300, [0, 1, 1, 2])]), [[]]), ([], []), { frames := 0, cells := 0, slots := 0, locals := 0 })
noncomputable def ag_ruGQ8EN : aCon := (y_BO_inCheck, false, 5, ([(.inr (some (.inl (false, 24))), none), (.inl (0, 1728), none), (.inl (0, 63), none), (.inl (64, 71), none), (.inr (some (.inl (false, 26))), none), (.inl (0, 1), none)], ([(4, 2, 5)], [], [([(3, 1), (2, -1), (5, 16)], -8), ([(3, -1), (2, 1), (5, -16)], 8)], [(17, [4]), (545, [2])])), (none, [], ([], [], [], [(1300, [0, 1, 1, 2])]), [[]]), ([], []), { frames := 0, cells := 0, slots := 0, locals := 0 })
noncomputable def ag_ruGQ0EN : aCon := (y_BO_inCheck, false, 5, ([(.inr (some (.inl (false, 24))), none), (.inl (0, 1728), none), (.inl (0, 63), none), (.inl (-1, 64), none), (.inl (0, 63), none)], ([], [], [([(4, 1), (3, -1)], -1), ([(4, -1), (3, 1)], 1)], [(946, [2, 4])])), (none, [], ([], [], [], [(1493, [0, 1, 1, 2, 3])]), [[]]), ([], []), { frames := 0, cells := 0, slots := 0, locals := 0 })
noncomputable def ag_ruGQmEN : aCon := (y_BO_inCheck, false, 8, ([(.inr (some (.inl (false, 24))), none), (.inl (0, 1728), none), (.inl (0, 1728), none), (.inl (0, 63), none), (.inl (-1, 64), none), (.inl (0, 2), none), (.inl (0, 1), none), (.inl (0, 63), none)], ([], [], [([(5, 1), (6, -2)], 0), ([(5, -1), (6, 2)], 0), ([(7, 1), (4, -1)], 1)], [(1493, [0, 1, 2, 3, 4]), (898, [3, 4]), (930, [3, 6]), (946, [3, 7])])), (none, [], ([], [], [], [(1510, [0, 1, 2, 3, 4, 5])]), [[]]), ([], []), { frames := 0, cells := 0, slots := 0, locals := 0 })
noncomputable def ag_ruGQsEN : aCon := (y_BO_inCheck, false, 8, ([(.inr (some (.inl (false, 24))), none), (.inl (0, 1728), none), (.inl (0, 32767), none), (.inl (0, 1728), none), (.inl (0, 63), none), (.inl (-1, 64), none), (.inl (0, 6), none), (.inl (0, 1), none)], ([], [], [([(2, 1), (4, -512), (5, -8), (6, -1)], 0), ([(2, -1), (4, 512), (5, 8), (6, 1)], 0), ([(6, 1), (7, -2)], 0), ([(6, -1), (7, 5)], 0), ([(1, 1), (3, -1)], 0)], [(1510, [0, 3, 1, 4, 5, 6]), (930, [4, 7])])), (none, [], ([], [], [], [(67065, [0, 1, 2, 0, 3, 1, 4, 5, 6])]), [[]]), ([], []), { frames := 0, cells := 0, slots := 0, locals := 0 })
noncomputable def ag_ruGQnEN : aCon := (y_BO_inCheck, false, 8, ([(.inr (some (.inl (false, 24))), none), (.inl (0, 1728), none), (.inl (0, 1728), none), (.inl (0, 63), none), (.inl (-1, 64), none), (.inl (0, 6), none), (.inl (0, 1728), none), (.inl (0, 7), none)], ([], [], [([(6, 1), (2, -1)], -1), ([(6, -1), (2, 1)], 1), ([(7, 1), (5, -1)], -1), ([(7, -1), (5, 1)], 1)], [(1526, [0, 1, 2, 3, 4, 5])])), (none, [], ([], [], [], [(1510, [0, 1, 6, 3, 4, 7])]), [[]]), ([], []), { frames := 0, cells := 0, slots := 0, locals := 0 })
noncomputable def ag_ruGQqEN : aCon := (y_BO_inCheck, false, 8, ([(.inr (some (.inl (false, 24))), none), (.inl (0, 1728), none), (.inl (0, 1728), none), (.inl (0, 63), none), (.inl (-1, 64), none), (.inl (0, 6), none), (.inl (0, 1), none), (.inl (0, 65), none)], ([], [], [([(7, 1), (4, -1)], -1), ([(7, -1), (4, 1)], 1), ([(5, 1), (6, -5)], -1)], [(1510, [0, 1, 2, 3, 4, 5]), (930, [3, 6])])), (none, [], ([], [], [], [(1493, [0, 1, 2, 3, 7])]), [[]]), ([], []), { frames := 0, cells := 0, slots := 0, locals := 0 })
noncomputable def ag_ruGQzEN : aCon := (y_BO_inCheck, false, 6, ([(.inr (some (.inl (false, 24))), none), (.inl (0, 1728), none), (.inl (0, 1728), none), (.inl (0, 63), none), (.inl (-1, 64), none), (.inl (0, 65), none)], ([], [], [([(5, 1), (4, -1)], -1), ([(5, -1), (4, 1)], 1)], [(914, [3, 4]), (1493, [0, 1, 2, 3, 4])])), (none, [], ([], [], [], [(1493, [0, 1, 2, 3, 5])]), [[]]), ([], []), { frames := 0, cells := 0, slots := 0, locals := 0 })
noncomputable def ag_ruGQdEN : aCon := (y_BO_inCheck, false, 6, ([(.inr (some (.inl (false, 24))), none), (.inl (0, 1728), none), (.inl (0, 1728), none), (.inl (0, 63), none), (.inl (0, 65), none), (.inl (0, 63), none)], ([], [], [([(4, 1), (5, -1)], -2)], [(1493, [0, 1, 2, 3, 4]), (946, [3, 5])])), (none, [], ([], [], [], [(1556, [0, 1, 2, 3])]), [[]]), ([], []), { frames := 0, cells := 0, slots := 0, locals := 0 })
noncomputable def ag_ruGRsEN : aCon := (y_BO_inCheck, false, 10, ([(.inr (some (.inl (false, 24))), none), (.inl (0, 1728), none), (.inl (0, 32767), none), (.inl (0, 1728), none), (.inl (0, 63), none), (.inl (0, 63), none), (.inr (some (.inl (false, 26))), none), (.inl (0, 0), none), (.inl (-8, 8), none), (.inl (0, 0), none), (.inl (0, 1), none)], ([(6, 2, 10)], [], [([(2, 1), (4, -512), (5, -8), (8, -8)], 0), ([(2, -1), (4, 512), (5, 8), (8, 8)], 0), ([(1, 1), (3, -1)], 0), ([(8, 1), (10, 16)], -8), ([(8, -1), (10, -16)], 8), ([(4, 1), (10, -40)], -8), ([(4, -1), (10, 40)], 15)], [(17, [6]), (1556, [0, 3, 1, 4]), (626, [5, 7]), (947, [4, 4, 9]), (946, [4, 5])])), (none, [], ([], [], [], [(67111, [0, 1, 2, 0, 3, 1, 4])]), [[]]), ([], []), { frames := 0, cells := 0, slots := 0, locals := 0 })
noncomputable def ag_ruGRnEN : aCon := (y_BO_inCheck, false, 5, ([(.inr (some (.inl (false, 24))), none), (.inl (0, 1728), none), (.inl (0, 1728), none), (.inl (0, 63), none), (.inl (0, 1728), none)], ([], [], [([(4, 1), (2, -1)], -1), ([(4, -1), (2, 1)], 1)], [(1572, [0, 1, 2, 3]), (545, [3])])), (none, [], ([], [], [], [(1300, [0, 1, 4, 3])]), [[]]), ([], []), { frames := 0, cells := 0, slots := 0, locals := 0 })
noncomputable def ag_ruGRrEN : aCon := (y_BO_inCheck, false, 4, ([(.inr (some (.inl (false, 24))), none), (.inl (0, 1728), none), (.inl (0, 1728), none), (.inl (0, 63), none)], ([], [], [], [(929, [3]), (1556, [0, 1, 2, 3]), (545, [3])])), (none, [], ([], [], [], [(1300, [0, 1, 2, 3])]), [[]]), ([], []), { frames := 0, cells := 0, slots := 0, locals := 0 })
noncomputable def ag_ruGR1EN : aCon := (y_BO_inCheck, false, 6, ([(.inr (some (.inl (false, 24))), none), (.inl (0, 1728), none), (.inl (0, 1728), none), (.inl (0, 63), none), (.inl (0, 63), none), (.inl (1, 15), none)], ([], [], [], [(1556, [0, 1, 2, 3]), (626, [4, 5]), (946, [3, 4]), (545, [3])])), (none, [], ([], [], [], [(1300, [0, 1, 2, 3])]), [[]]), ([], []), { frames := 0, cells := 0, slots := 0, locals := 0 })
noncomputable def ag_ruGR2EN : aCon := (y_BO_inCheck, false, 5, ([(.inr (some (.inl (false, 24))), none), (.inl (0, 1728), none), (.inl (0, 1728), none), (.inl (0, 63), none), (.inl (1, 15), none)], ([], [], [], [(1556, [0, 1, 2, 3]), (947, [3, 3, 4]), (545, [3])])), (none, [], ([], [], [], [(1300, [0, 1, 2, 3])]), [[]]), ([], []), { frames := 0, cells := 0, slots := 0, locals := 0 })
end
section
/-! exact facts: how they are opened -/
theorem fH_o {K : Nat → Nat} {n : Nat} {p : fP} {k : Nat} {vs : List jv} {σ : Nat → jcell} (h1 : 200 ≤ k ∧ k < 208) (h2 : ¬ (k = 204 ∨ 208 ≤ k)) : fB K n p k vs σ ↔ ∃ (b : Nat) (g : Nat → Int32) (rest : List jv), vs = fR b :: rest ∧ fMe K n σ b g ∧ fHm k g rest := by
  rw [fB_def (by omega)]
  unfold fD
  rw [if_neg (by omega), if_neg (by omega), if_neg (by omega)]
  unfold fC
  rw [if_pos h1.1]
  unfold fH
  rw [if_neg (by omega), if_neg h2]
theorem fP_o {K : Nat → Nat} {n : Nat} {p : fP} {k : Nat} {vs : List jv} {σ : Nat → jcell} (h1 : k = 204 ∨ (208 ≤ k ∧ k < 240)) : fB K n p k vs σ ↔ fHq k vs := by
  rw [fB_def (by omega)]
  unfold fD
  rw [if_neg (by omega), if_neg (by omega), if_neg (by omega)]
  unfold fC
  rw [if_pos (by omega)]
  unfold fH
  rw [if_neg (by omega), if_pos (by omega)]
theorem fS_o {K : Nat → Nat} {n : Nat} {p : fP} {k : Nat} {vs : List jv} {σ : Nat → jcell} (h1 : 240 ≤ k) (h2 : k < 400) : fB K n p k vs σ ↔ fHs K n k vs σ := by
  rw [fB_def (by omega)]
  unfold fD
  rw [if_neg (by omega), if_neg (by omega), if_neg (by omega)]
  unfold fC
  rw [if_pos (by omega)]
  unfold fH
  rw [if_pos h1]
theorem fX_o {K : Nat → Nat} {n : Nat} {p : fP} {k : Nat} {vs : List jv} {σ : Nat → jcell} (h1 : 400 ≤ k) : fB K n p k vs σ ↔ fGx K n p k vs σ := by
  rw [fB_def (by omega)]
  unfold fD
  rw [if_neg (by omega), if_neg (by omega), if_pos h1]
theorem fE_o {K : Nat → Nat} {n : Nat} {p : fP} {k : Nat} {vs : List jv} {σ : Nat → jcell} (h : k = 8 ∨ k = 17 ∨ k = 29 ∨ (48 ≤ k ∧ k < 60)) : fB K n p k vs σ ↔ fEp p k vs := by
  rw [fB_def (by omega)]
  unfold fD
  rw [if_pos (by omega)]
theorem fL_o {K : Nat → Nat} {n : Nat} {p : fP} {k : Nat} {vs : List jv} {σ : Nat → jcell} (h1 : 77 ≤ k) (h2 : k < 99) : fB K n p k vs σ ↔ ∃ (a : Nat) (lo hi : Int32) (rest : List jv) (S C : Int32 → Prop), vs = fR a :: fI lo :: fI hi :: rest ∧ fEt (fq p).1 (fq p).2 k rest lo hi S C ∧ fCv K n σ a (fEb k rest lo hi) (hi.toInt + fEc k) S C := by
  rw [fB_def (by omega)]
  unfold fD
  rw [if_neg (by omega), if_pos h2]
  unfold fEl
  rw [if_neg (by omega)]
theorem fK_o {K : Nat → Nat} {n : Nat} {p : fP} {vs : List jv} {σ : Nat → jcell} : fB K n p 60 vs σ ↔ ((∃ (a : Nat) (h : Int32), fKg K n σ a h ∧ ((vs = [fR a] ∧ fHL (fq p).1 (fq p).2 h.toInt) ∨ (∃ z r : Int32, vs = [fR a, fI z, fI r] ∧ (z.toInt < r.toInt → fHL (fq p).1 (fq p).2 h.toInt) ∧ (z.toInt = r.toInt → ¬ fHL (fq p).1 (fq p).2 h.toInt)) ∨ vs = [fR a, fI h, fI h, fI h])) ∨ (∃ (a : Nat) (r : Int32), vs = [fR a, fI r] ∧ (¬ r.toInt = 0 ∨ ∃ h, fKg K n σ a h ∧ fHL (fq p).1 (fq p).2 h.toInt))) := by
  rw [fB_def (by omega)]
  unfold fD
  rw [if_neg (by omega), if_pos (by omega)]
  unfold fEl
  rw [if_pos rfl]
theorem fMe_c {K : Nat → Nat} {n : Nat} {σ : Nat → jcell} {a c r m : Nat} {ty : FieldType} {fs : List jv} {g gc : Nat → Int32} (h : fMe K n σ a g) (hs : σ a = .inr (c, fs)) (ht : fs[0]? = some (fR r)) (sc : σ r = .inl (ty, m, .inl gc)) : g = gc := by
  obtain ⟨r', ⟨-, -, c', fs', e1, e2⟩, -, -, l3⟩ := h
  rw [hs] at e1
  cases e1
  rw [ht] at e2
  cases e2
  rw [l3] at sc
  cases sc
  rfl
theorem fKg_u {K : Nat → Nat} {n : Nat} {σ : Nat → jcell} {a : Nat} {x y : Int32} (h : fKg K n σ a x) (h' : fKg K n σ a y) : x = y := by
  obtain ⟨r, g, s, ⟨-, -, c1, f1, e1, e2⟩, -, -, l3, ⟨-, -, c2, f2, e3, e4⟩, e⟩ := h
  obtain ⟨r', g', s', ⟨-, -, c3, f3, e5, e6⟩, -, -, l6, ⟨-, -, c4, f4, e7, e8⟩, e'⟩ := h'
  rw [e1] at e3 e5 e7
  cases e3
  cases e5
  cases e7
  rw [e2] at e6
  cases e6
  rw [e4] at e8
  cases e8
  rw [l3] at l6
  cases l6
  exact e.symm.trans e'
theorem fHp_n (l : List Nat) (i j : Nat) (h : (l.map Int.ofNat).getD i (-1) < 0) (hj : i ≤ j) : (l.map Int.ofNat).getD j (-1) < 0 := by
  have hl : (l.map Int.ofNat).length ≤ i := by
    refine Nat.le_of_not_lt fun hi => ?_
    rw [List.getD_eq_getElem?_getD, List.getElem?_eq_getElem hi, List.getElem_map] at h
    have : (0 : Int) ≤ Int.ofNat l[i] := Int.natCast_nonneg _
    exact absurd h (by show ¬ Int.ofNat _ < 0; omega)
  rw [List.getD_eq_getElem?_getD, List.getElem?_eq_none (by omega)]
  decide
theorem fHp_no {s i j : Nat} (h : fHp s i < 0) (hj : i ≤ j) : fHp s j < 0 := fHp_n _ i j h hj
theorem fHp_le (s j : Nat) : fHp s j ≤ 63 := by
  unfold fHp
  generalize hl : (List.range 64).filter _ = l
  have hm : ∀ x ∈ l, x < 64 := fun x hx => by rw [← hl] at hx; exact List.mem_range.mp (List.mem_filter.mp hx).1
  rw [List.getD_eq_getElem?_getD]
  by_cases hi : j < (l.map Int.ofNat).length
  · rw [List.getElem?_eq_getElem hi, List.getElem_map]
    have hi2 : j < l.length := by rw [List.length_map] at hi; exact hi
    have := hm l[j] (List.getElem_mem hi2)
    show Int.ofNat l[j] ≤ 63
    have e : Int.ofNat l[j] = (l[j] : Int) := rfl
    omega
  · rw [List.getElem?_eq_none (by omega)]
    decide
/-! lists -/
theorem fCv_0 {K : Nat → Nat} {n : Nat} {σ : Nat → jcell} {a m : Nat} {g : Nat → Int32} {lo hi : Int} {S C : Int32 → Prop} (h1 : a < n) (h2 : fRw (K a)) (h3 : σ a = .inl (.int, m, .inl g)) (h : hi ≤ lo) (hC : ∀ x, ¬ C x) : fCv K n σ a lo hi S C := ⟨h1, h2, m, g, h3, fun k k1 k2 => by omega, fun x hx => absurd hx (hC x)⟩
theorem fCv_w {K : Nat → Nat} {n : Nat} {σ : Nat → jcell} {a : Nat} {lo hi lo' hi' : Int} {S C S' C' : Int32 → Prop} (h : fCv K n σ a lo hi S C) (e1 : lo = lo') (e2 : hi = hi') (hS : ∀ x, S x → S' x) (hC : ∀ x, C' x → C x) : fCv K n σ a lo' hi' S' C' := by
  obtain ⟨h1, h2, m, g, h3, h4, h5⟩ := h
  subst e1
  subst e2
  exact ⟨h1, h2, m, g, h3, fun k k1 k2 => hS _ (h4 k k1 k2), fun x hx => h5 x (hC x hx)⟩
theorem fCv_st {K : Nat → Nat} {n : Nat} {σ : Nat → jcell} {a i : Nat} {lo hi hi' : Int} {S C C' : Int32 → Prop} {x : Int32} (h : fCv K n σ a lo hi S C) (hi0 : (i : Int) = hi) (hl : lo ≤ hi) (e2 : hi' = hi + 1) (hS : S x) (hC : ∀ y, C' y → C y ∨ y = x) : fCv K n (jup σ a (jsto (σ a) i x)) a lo hi' S C' := by
  obtain ⟨h1, h2, m, g, h3, h4, h5⟩ := h
  subst e2
  refine ⟨h1, h2, m, upd g i x, by rw [jup_s, h3]; rfl, fun k k1 k2 => ?_, fun y hy => ?_⟩
  · unfold upd
    split
    next => exact hS
    next e => exact h4 k k1 (by omega)
  · rcases hC y hy with hy | rfl
    · obtain ⟨k, k1, k2, k3⟩ := h5 y hy
      exact ⟨k, k1, by omega, by unfold upd; rw [if_neg (by omega)]; exact k3⟩
    · exact ⟨i, by omega, by omega, by unfold upd; rw [if_pos rfl]⟩
theorem fI32 {x y : Int32} (h : x.toInt = y.toInt) : x = y := Int32.toInt_inj.mp h
/-! attack over other men -/
theorem fEm_cg {M N : Nat → Int32} (h : ∀ i, i < 64 → M i = N i) {s i k : Int} (hs : 0 ≤ s ∧ s ≤ 63) (hi : 0 ≤ i ∧ i ≤ 7) (hk : k ≤ fRc s i + 1) (e : fEm M s i k) : fEm N s i k := by
  intro q q1 q2
  have h7 := fRay hs.1 hs.2 hi.1 hi.2 q1 (by omega)
  rw [← h (s + q * fSt i).toNat (by omega)]
  exact e q q1 q2
theorem fAk_cg1 {M N : Nat → Int32} (h : ∀ i, i < 64 → M i = N i) {s b : Int} (hs : 0 ≤ s ∧ s ≤ 63) (e : fAk M s b) : fAk N s b := by
  rcases e with ⟨j, j1, j2, j3⟩ | ⟨i, i1, i2, k, k1, k2, k3, k4, k5⟩
  · have := fHp_le s.toNat j
    exact Or.inl ⟨j, j1, j2, by rw [← h _ (by omega)]; exact j3⟩
  · have h7 := fRay hs.1 hs.2 i1 (by omega) k1 k2
    have h8 := h (s + k * fSt i).toNat (by omega)
    exact Or.inr ⟨i, i1, i2, k, k1, k2, fEm_cg h hs ⟨i1, by omega⟩ (by omega) k3, by rw [← h8]; exact k4, by rw [← h8]; exact k5⟩
theorem fAk_cg {M N : Nat → Int32} (h : ∀ i, i < 64 → M i = N i) {s b : Int} (hs : 0 ≤ s ∧ s ≤ 63) : fAk M s b ↔ fAk N s b := ⟨fAk_cg1 h hs, fAk_cg1 (fun i hi => (h i hi).symm) hs⟩
/-! the level -/
theorem fDh : ∀ k, k < 200 → fh_dep.getD k [] = fg_dep.getD k []
  | 0, _ => rfl
  | 1, _ => rfl
  | 2, _ => rfl
  | 3, _ => rfl
  | 4, _ => rfl
  | 5, _ => rfl
  | 6, _ => rfl
  | 7, _ => rfl
  | 8, _ => rfl
  | 9, _ => rfl
  | 10, _ => rfl
  | 11, _ => rfl
  | 12, _ => rfl
  | 13, _ => rfl
  | 14, _ => rfl
  | 15, _ => rfl
  | 16, _ => rfl
  | 17, _ => rfl
  | 18, _ => rfl
  | 19, _ => rfl
  | 20, _ => rfl
  | 21, _ => rfl
  | 22, _ => rfl
  | 23, _ => rfl
  | 24, _ => rfl
  | 25, _ => rfl
  | 26, _ => rfl
  | 27, _ => rfl
  | 28, _ => rfl
  | 29, _ => rfl
  | 30, _ => rfl
  | 31, _ => rfl
  | 32, _ => rfl
  | 33, _ => rfl
  | 34, _ => rfl
  | 35, _ => rfl
  | 36, _ => rfl
  | 37, _ => rfl
  | 38, _ => rfl
  | 39, _ => rfl
  | 40, _ => rfl
  | 41, _ => rfl
  | 42, _ => rfl
  | 43, _ => rfl
  | 44, _ => rfl
  | 45, _ => rfl
  | 46, _ => rfl
  | 47, _ => rfl
  | 48, _ => rfl
  | 49, _ => rfl
  | 50, _ => rfl
  | 51, _ => rfl
  | 52, _ => rfl
  | 53, _ => rfl
  | 54, _ => rfl
  | 55, _ => rfl
  | 56, _ => rfl
  | 57, _ => rfl
  | 58, _ => rfl
  | 59, _ => rfl
  | 60, _ => rfl
  | 61, _ => rfl
  | 62, _ => rfl
  | 63, _ => rfl
  | 64, _ => rfl
  | 65, _ => rfl
  | 66, _ => rfl
  | 67, _ => rfl
  | 68, _ => rfl
  | 69, _ => rfl
  | 70, _ => rfl
  | 71, _ => rfl
  | 72, _ => rfl
  | 73, _ => rfl
  | 74, _ => rfl
  | 75, _ => rfl
  | 76, _ => rfl
  | 77, _ => rfl
  | 78, _ => rfl
  | 79, _ => rfl
  | 80, _ => rfl
  | 81, _ => rfl
  | 82, _ => rfl
  | 83, _ => rfl
  | 84, _ => rfl
  | 85, _ => rfl
  | 86, _ => rfl
  | 87, _ => rfl
  | 88, _ => rfl
  | 89, _ => rfl
  | 90, _ => rfl
  | 91, _ => rfl
  | 92, _ => rfl
  | 93, _ => rfl
  | 94, _ => rfl
  | 95, _ => rfl
  | 96, _ => rfl
  | 97, _ => rfl
  | 98, _ => rfl
  | 99, _ => rfl
  | 100, _ => rfl
  | 101, _ => rfl
  | 102, _ => rfl
  | 103, _ => rfl
  | 104, _ => rfl
  | 105, _ => rfl
  | 106, _ => rfl
  | 107, _ => rfl
  | 108, _ => rfl
  | 109, _ => rfl
  | 110, _ => rfl
  | 111, _ => rfl
  | 112, _ => rfl
  | 113, _ => rfl
  | 114, _ => rfl
  | 115, _ => rfl
  | 116, _ => rfl
  | 117, _ => rfl
  | 118, _ => rfl
  | 119, _ => rfl
  | 120, _ => rfl
  | 121, _ => rfl
  | 122, _ => rfl
  | 123, _ => rfl
  | 124, _ => rfl
  | 125, _ => rfl
  | 126, _ => rfl
  | 127, _ => rfl
  | 128, _ => rfl
  | 129, _ => rfl
  | 130, _ => rfl
  | 131, _ => rfl
  | 132, _ => rfl
  | 133, _ => rfl
  | 134, _ => rfl
  | 135, _ => rfl
  | 136, _ => rfl
  | 137, _ => rfl
  | 138, _ => rfl
  | 139, _ => rfl
  | 140, _ => rfl
  | 141, _ => rfl
  | 142, _ => rfl
  | 143, _ => rfl
  | 144, _ => rfl
  | 145, _ => rfl
  | 146, _ => rfl
  | 147, _ => rfl
  | 148, _ => rfl
  | 149, _ => rfl
  | 150, _ => rfl
  | 151, _ => rfl
  | 152, _ => rfl
  | 153, _ => rfl
  | 154, _ => rfl
  | 155, _ => rfl
  | 156, _ => rfl
  | 157, _ => rfl
  | 158, _ => rfl
  | 159, _ => rfl
  | 160, _ => rfl
  | 161, _ => rfl
  | 162, _ => rfl
  | 163, _ => rfl
  | 164, _ => rfl
  | 165, _ => rfl
  | 166, _ => rfl
  | 167, _ => rfl
  | 168, _ => rfl
  | 169, _ => rfl
  | 170, _ => rfl
  | 171, _ => rfl
  | 172, _ => rfl
  | 173, _ => rfl
  | 174, _ => rfl
  | 175, _ => rfl
  | 176, _ => rfl
  | 177, _ => rfl
  | 178, _ => rfl
  | 179, _ => rfl
  | 180, _ => rfl
  | 181, _ => rfl
  | 182, _ => rfl
  | 183, _ => rfl
  | 184, _ => rfl
  | 185, _ => rfl
  | 186, _ => rfl
  | 187, _ => rfl
  | 188, _ => rfl
  | 189, _ => rfl
  | 190, _ => rfl
  | 191, _ => rfl
  | 192, _ => rfl
  | 193, _ => rfl
  | 194, _ => rfl
  | 195, _ => rfl
  | 196, _ => rfl
  | 197, _ => rfl
  | 198, _ => rfl
  | 199, _ => rfl
  | k + 200, h => absurd h (by omega)
theorem fH_dp {K : Nat → Nat} {n : Nat} {k : Nat} {vs ws : List jv} {σ σ' : Nat → jcell} (hk : 200 ≤ k) (hk2 : k < 240) (h : fHd K n ws σ σ' (fh_dep.getD k [])) (hb : fC K n k vs σ) : fC K n k vs σ' := by
  unfold fC at hb ⊢
  rw [if_pos hk] at hb ⊢
  unfold fH at hb ⊢
  rw [if_neg (by omega)] at hb ⊢
  by_cases c : k = 204 ∨ 208 ≤ k
  · rw [if_pos c] at hb ⊢
    exact hb
  rw [if_neg c] at hb ⊢
  obtain ⟨b, g, rest, e, w, l⟩ := hb
  refine ⟨b, g, rest, e, ?_, l⟩
  have hh : k = 200 ∨ k = 201 ∨ k = 202 ∨ k = 203 ∨ k = 205 ∨ k = 206 ∨ k = 207 := by omega
  rcases hh with rfl | rfl | rfl | rfl | rfl | rfl | rfl <;> exact fMe_dp h (List.mem_of_getElem? (i := 0) rfl) (by decide) (List.mem_of_getElem? (i := 1) rfl) w
theorem fB_dr {K : Nat → Nat} {n : Nat} {p : fP} {k j : Nat} {ws : List jv} {σ σ' : Nat → jcell} (hk : k < 240) (h : fHd K n ws σ σ' (fh_dep.getD k [])) (hb : fB K n p k (ws.take j) σ) : fB K n p k (ws.take j) σ' := by
  by_cases c : k < 200
  · rw [fDh k c] at h
    exact fB_dq c h hb
  rw [fB_def (by omega)] at hb ⊢
  unfold fD at hb ⊢
  rw [if_neg (by omega), if_neg (by omega), if_neg (by omega)] at hb ⊢
  exact fH_dp (by omega) hk h hb
theorem fF_dph {K : Nat → Nat} {n : Nat} : aDp (fF K n) K n fh_dep := by
  refine ⟨fun p r vs σ σ' hl h hf => ?_, fF_pd K n, fun h0 => absurd h0 (by decide)⟩
  have hl : r / 16 % 4096 < 240 := of_decide_eq_true hl
  unfold fF at hf ⊢
  unfold aDg at h
  by_cases c : r < 65536
  · rw [if_pos c] at hf h ⊢
    exact fB_dr (by omega) h hf
  · rw [if_neg c] at hf h ⊢
    by_cases c2 : r < 131072
    · rw [if_pos c2] at hf ⊢
      by_cases c3 : 3 ≤ r % 16
      · rw [if_pos c3] at hf ⊢
        split at hf
        next a x y l =>
          refine fB_dr (σ := jup σ a (jsto (σ a) x.toNatClampNeg y)) (by omega) ?_ hf
          rw [show (r - 65539) / 16 = r / 16 % 4096 by omega]
          exact fSm_jup (fSm_sto _ _) h
        next a x y l =>
          refine fB_dr (σ := jup σ a (jstl (σ a) x.toNatClampNeg y)) (by omega) ?_ hf
          rw [show (r - 65539) / 16 = r / 16 % 4096 by omega]
          exact fSm_jup (fSm_stl _ _) h
        next => exact hf.elim
      · rw [if_neg c3] at hf
        exact hf.elim
    · rw [if_neg c2] at hf ⊢
      by_cases c3 : 2 ≤ r % 16
      · rw [if_pos c3] at hf ⊢
        split at hf
        next a y l =>
          by_cases c4 : (r % 131072 - 2) / 16 < 240
          · refine fB_dr (σ := jup σ a (jstf (σ a) (r / 131072 - 1) y)) c4 ?_ hf
            rw [show (r % 131072 - 2) / 16 = r / 16 % 4096 by omega]
            exact fSm_jup (fSm_stf _ _) h
          · exact (fB_hi (show 1000 ≤ (r % 131072 - 2) / 16 by omega) hf).elim
        next => exact hf.elim
      · rw [if_neg c3] at hf
        exact hf.elim
end
section
/-! exact rules, attack: their proofs -/
theorem fOr_l {a b : Prop} (h : a ∨ b) (hb : ¬ b) : a := h.resolve_right hb
theorem fOr_r {a b : Prop} (h : a ∨ b) (ha : ¬ a) : b := h.resolve_left ha
set_option maxRecDepth 8192 in
theorem rw_ruAH0 {K : Nat → Nat} {n : Nat} : aGho (fF K n) fa_T K n (fJX K n) ag_ruAH0 := by
  refine aGho_of ⟨rfl, rfl⟩ ?_
  intro p σ ρ hH hX hA hM
  have hG := aAG_of hA.1 (fun i e v he hv => (hA.2 i e v he hv).1)
  clear hA
  obtain ⟨v0, v1, v2, v3, rfl, g0, g1, g2, g3⟩ := fA_4 hG
  clear hG
  obtain ⟨x0, rfl, b0, d0⟩ := fG_ref (by decide) g0
  obtain ⟨x1, rfl, b1, d1⟩ := aG_int g1
  dsimp only at b1 d1
  obtain ⟨x2, rfl, b2, d2⟩ := aG_int g2
  dsimp only at b2 d2
  obtain ⟨x3, rfl, b3, d3⟩ := aG_int g3
  dsimp only at b3 d3
  obtain ⟨m1, m2, m3, m4⟩ := hM
  have l0 : 0 ≤ (1 * x3.toInt + (-8 * x1.toInt + 0)) + 0 := by
    obtain ⟨z, e6, e7⟩ := m3 ([(3, 1), (1, -8)], 0) (List.mem_of_getElem? (i := 0) rfl)
    obtain rfl : (1 * x3.toInt + (-8 * x1.toInt + 0)) = z := Option.some.inj (show some (1 * x3.toInt + (-8 * x1.toInt + 0)) = some z from e6)
    exact e7
  have l1 : 0 ≤ (-1 * x3.toInt + (8 * x1.toInt + 0)) + 0 := by
    obtain ⟨z, e6, e7⟩ := m3 ([(3, -1), (1, 8)], 0) (List.mem_of_getElem? (i := 1) rfl)
    obtain rfl : (-1 * x3.toInt + (8 * x1.toInt + 0)) = z := Option.some.inj (show some (-1 * x3.toInt + (8 * x1.toInt + 0)) = some z from e6)
    exact e7
  clear m1 m2 m3 m4
  obtain ⟨g0, w0⟩ := fMe_ex hH b0 d0
  have q0 : fB K n (p) 200 [fR x0, fI x1, fI x2, fI x3] σ := by
    refine (fH_o (by decide) (by decide)).mpr ⟨x0, g0, _, rfl, w0, x1, x2, x3, rfl, by omega, by omega, fun j hj => by omega⟩
  exact ⟨p, fun _ => rfl, ⟨(fun q h => by cases h), fun q h => (by cases h), (fun f h => by cases h), (aAllc ⟨_, rfl, (fF_b (r := 3204) (by decide) rfl).mpr q0⟩ (fun f h => by cases h))⟩, [], List.mem_cons_self, fun f h => (by cases h)⟩
set_option maxRecDepth 8192 in
theorem rw_ruAHV {K : Nat → Nat} {n : Nat} : aGho (fF K n) fa_T K n (fJX K n) ag_ruAHV := by
  refine aGho_of ⟨rfl, rfl⟩ ?_
  intro p σ ρ hH hX hA hM
  have hG := aAG_of hA.1 (fun i e v he hv => (hA.2 i e v he hv).1)
  clear hA
  obtain ⟨v0, v1, v2, v3, rfl, g0, g1, g2, g3⟩ := fA_4 hG
  clear hG
  obtain ⟨x0, rfl, b0, d0⟩ := fG_ref (by decide) g0
  obtain ⟨x1, rfl, b1, d1⟩ := aG_int g1
  dsimp only at b1 d1
  obtain ⟨x2, rfl, b2, d2⟩ := aG_int g2
  dsimp only at b2 d2
  obtain ⟨x3, rfl, b3, d3⟩ := aG_int g3
  dsimp only at b3 d3
  obtain ⟨m1, m2, m3, m4⟩ := hM
  obtain ⟨a, mc0, ty0, gc0, ic0, e1, sc0, jc0, e4, e5⟩ := m2 (0, ([(2, 1)], 0), 3) (List.mem_of_getElem? (i := 0) rfl)
  obtain rfl : x0 = a := Sum.inl.inj (Option.some.inj (Sum.inr.inj (Sum.inr.inj (Option.some.inj (show some (fR x0) = some _ from e1)))))
  obtain ⟨gc0, rfl⟩ : ∃ g, gc0 = .inl g := by
    rcases gc0 with g | g
    · exact ⟨g, rfl⟩
    · exact absurd (show some (fI x3) = some (.inr (.inl (g ic0))) from e5) (fun h => by cases h)
  have sc0 : σ x0 = .inl (ty0, mc0, .inl gc0) := sc0
  have ec0 : x3 = gc0 ic0 := Sum.inl.inj (Option.some.inj (show some (fI x3) = some _ from e5))
  have kc0 : (ic0 : Int) = (1 * x2.toInt + 0) + 0 := by
    obtain ⟨z, e6, e7⟩ := e4
    obtain rfl : (1 * x2.toInt + 0) = z := Option.some.inj (show some (1 * x2.toInt + 0) = some z from e6)
    exact e7
  clear e1 e4 e5
  obtain rfl : ic0 = x2.toInt.toNat := by omega
  have l0 : 0 ≤ (1 * x2.toInt + (-8 * x1.toInt + 0)) + 0 := by
    obtain ⟨z, e6, e7⟩ := m3 ([(2, 1), (1, -8)], 0) (List.mem_of_getElem? (i := 0) rfl)
    obtain rfl : (1 * x2.toInt + (-8 * x1.toInt + 0)) = z := Option.some.inj (show some (1 * x2.toInt + (-8 * x1.toInt + 0)) = some z from e6)
    exact e7
  have l1 : 0 ≤ (-1 * x2.toInt + (8 * x1.toInt + 0)) + 7 := by
    obtain ⟨z, e6, e7⟩ := m3 ([(2, -1), (1, 8)], 7) (List.mem_of_getElem? (i := 1) rfl)
    obtain rfl : (-1 * x2.toInt + (8 * x1.toInt + 0)) = z := Option.some.inj (show some (-1 * x2.toInt + (8 * x1.toInt + 0)) = some z from e6)
    exact e7
  clear m1 m2 m3 m4
  have q0 : fB K n (p) 204 [fI x1, fI x2, fI x3] σ := by
    obtain ⟨g, h1, h2⟩ := hX.2.1 x0 b0 d0
    rw [h1] at sc0
    cases sc0
    refine (fP_o (by decide)).mpr ⟨x1, x2, x3, rfl, by omega, by omega, ?_⟩
    have h3 := h2 x1.toInt.toNat (x2.toInt.toNat - 8 * x1.toInt.toNat) (by omega) (by omega)
    rw [show 8 * x1.toInt.toNat + (x2.toInt.toNat - 8 * x1.toInt.toNat) = x2.toInt.toNat by omega, ← ec0] at h3
    rw [h3, show x2.toInt.toNat - 8 * x1.toInt.toNat = (x2.toInt - 8 * x1.toInt).toNat by omega]
  exact ⟨p, fun _ => rfl, ⟨(fun q h => by cases h), fun q h => (by cases h), (fun f h => by cases h), (aAllc ⟨_, rfl, (fF_b (r := 3267) (by decide) rfl).mpr q0⟩ (fun f h => by cases h))⟩, [], List.mem_cons_self, fun f h => (by cases h)⟩
set_option maxRecDepth 8192 in
theorem rw_ruAHl {K : Nat → Nat} {n : Nat} : aGho (fF K n) fa_T K n (fJX K n) ag_ruAHl := by
  refine aGho_of ⟨rfl, rfl⟩ ?_
  intro p σ ρ hH hX hA hM
  have hG := aAG_of hA.1 (fun i e v he hv => (hA.2 i e v he hv).1)
  clear hA
  obtain ⟨v0, v1, v2, v3, v4, v5, v6, rfl, g0, g1, g2, g3, g4, g5, g6⟩ := fA_7 hG
  clear hG
  obtain ⟨x0, rfl, b0, d0⟩ := fG_ref (by decide) g0
  obtain ⟨x1, rfl, b1, d1⟩ := aG_int g1
  dsimp only at b1 d1
  obtain ⟨x2, rfl, b2, d2⟩ := aG_int g2
  dsimp only at b2 d2
  obtain ⟨x3, rfl, b3, d3⟩ := aG_int g3
  dsimp only at b3 d3
  obtain ⟨x4, rfl, b4, d4⟩ := aG_int g4
  dsimp only at b4 d4
  obtain ⟨x5, rfl, b5, d5⟩ := aG_int g5
  dsimp only at b5 d5
  obtain ⟨x6, rfl, b6, d6⟩ := fG_ref (by decide) g6
  obtain ⟨m1, m2, m3, m4⟩ := hM
  obtain ⟨a0, c0, fs0, w0, e1, s0, t0, e4⟩ := m1 (0, 0, 6) (List.mem_of_getElem? (i := 0) rfl)
  obtain rfl : x0 = a0 := Sum.inl.inj (Option.some.inj (Sum.inr.inj (Sum.inr.inj (Option.some.inj (show some (fR x0) = some _ from e1)))))
  obtain rfl : fR x6 = w0 := Option.some.inj (show some (fR x6) = some w0 from e4)
  clear e1 e4
  obtain ⟨a, mc0, ty0, gc0, ic0, e1, sc0, jc0, e4, e5⟩ := m2 (6, ([(4, 1)], 0), 5) (List.mem_of_getElem? (i := 0) rfl)
  obtain rfl : x6 = a := Sum.inl.inj (Option.some.inj (Sum.inr.inj (Sum.inr.inj (Option.some.inj (show some (fR x6) = some _ from e1)))))
  obtain ⟨gc0, rfl⟩ : ∃ g, gc0 = .inl g := by
    rcases gc0 with g | g
    · exact ⟨g, rfl⟩
    · exact absurd (show some (fI x5) = some (.inr (.inl (g ic0))) from e5) (fun h => by cases h)
  have sc0 : σ x6 = .inl (ty0, mc0, .inl gc0) := sc0
  have ec0 : x5 = gc0 ic0 := Sum.inl.inj (Option.some.inj (show some (fI x5) = some _ from e5))
  have kc0 : (ic0 : Int) = (1 * x4.toInt + 0) + 0 := by
    obtain ⟨z, e6, e7⟩ := e4
    obtain rfl : (1 * x4.toInt + 0) = z := Option.some.inj (show some (1 * x4.toInt + 0) = some z from e6)
    exact e7
  clear e1 e4 e5
  obtain rfl : ic0 = x4.toInt.toNat := by omega
  have l0 : 0 ≤ (-1 * x5.toInt + (8 * x2.toInt + 0)) + 1 := by
    obtain ⟨z, e6, e7⟩ := m3 ([(5, -1), (2, 8)], 1) (List.mem_of_getElem? (i := 0) rfl)
    obtain rfl : (-1 * x5.toInt + (8 * x2.toInt + 0)) = z := Option.some.inj (show some (-1 * x5.toInt + (8 * x2.toInt + 0)) = some z from e6)
    exact e7
  have f0 : fB K n p 200 [fR x0, fI x1, fI x2, fI x3] σ := by
    obtain ⟨w, e6, e7⟩ := m4 (3204, [0, 1, 2, 3]) (List.mem_of_getElem? (i := 0) rfl)
    obtain rfl : [fR x0, fI x1, fI x2, fI x3] = w := Option.some.inj (show some [fR x0, fI x1, fI x2, fI x3] = some w from e6)
    exact (fF_b (r := 3204) (by decide) rfl).mp e7
  have f1 : fB K n p 204 [fI x1, fI x3, fI x4] σ := by
    obtain ⟨w, e6, e7⟩ := m4 (3267, [1, 3, 4]) (List.mem_of_getElem? (i := 1) rfl)
    obtain rfl : [fI x1, fI x3, fI x4] = w := Option.some.inj (show some [fI x1, fI x3, fI x4] = some w from e6)
    exact (fF_b (r := 3267) (by decide) rfl).mp e7
  clear m1 m2 m3 m4
  obtain ⟨b9_0, g0, r9_0, e9_0, w0, y0_0, y0_1, y0_2, e8_0, h0, i0, q0⟩ := (fH_o (by decide) (by decide)).mp f0
  cases e9_0
  cases e8_0
  obtain ⟨y1_0, y1_1, y1_2, e8_1, h1, i1, q1⟩ := (fP_o (by decide)).mp f1
  cases e8_1
  obtain rfl := fMe_c w0 s0 t0 sc0
  have q0 : fB K n (p) 205 [fR x0, fI x1, fI x2, fI x3] σ := by
    refine (fH_o (by decide) (by decide)).mpr ⟨x0, g0, _, rfl, w0, x1, x2, x3, rfl, h0, by omega, fun j hj => ?_⟩
    by_cases hj' : 8 * x1.toInt + j < x3.toInt
    · exact q0 j hj'
    · rw [show j = (x3.toInt - 8 * x1.toInt).toNat by omega, ← q1]
      refine ⟨by omega, ?_⟩
      rw [← ec0]
      omega
  exact ⟨p, fun _ => rfl, ⟨(fun q h => by cases h), fun q h => (by cases h), (fun f h => by cases h), (aAllc ⟨_, rfl, (fF_b (r := 3284) (by decide) rfl).mpr q0⟩ (fun f h => by cases h))⟩, [], List.mem_cons_self, fun f h => (by cases h)⟩
set_option maxRecDepth 8192 in
theorem rw_ruAHg {K : Nat → Nat} {n : Nat} : aGho (fF K n) fa_T K n (fJX K n) ag_ruAHg := by
  refine aGho_of ⟨rfl, rfl⟩ ?_
  intro p σ ρ hH hX hA hM
  have hG := aAG_of hA.1 (fun i e v he hv => (hA.2 i e v he hv).1)
  clear hA
  obtain ⟨v0, v1, v2, v3, v4, v5, v6, rfl, g0, g1, g2, g3, g4, g5, g6⟩ := fA_7 hG
  clear hG
  obtain ⟨x0, rfl, b0, d0⟩ := fG_ref (by decide) g0
  obtain ⟨x1, rfl, b1, d1⟩ := aG_int g1
  dsimp only at b1 d1
  obtain ⟨x2, rfl, b2, d2⟩ := aG_int g2
  dsimp only at b2 d2
  obtain ⟨x3, rfl, b3, d3⟩ := aG_int g3
  dsimp only at b3 d3
  obtain ⟨x4, rfl, b4, d4⟩ := aG_int g4
  dsimp only at b4 d4
  obtain ⟨x5, rfl, b5, d5⟩ := aG_int g5
  dsimp only at b5 d5
  obtain ⟨x6, rfl, b6, d6⟩ := fG_ref (by decide) g6
  obtain ⟨m1, m2, m3, m4⟩ := hM
  obtain ⟨a0, c0, fs0, w0, e1, s0, t0, e4⟩ := m1 (0, 0, 6) (List.mem_of_getElem? (i := 0) rfl)
  obtain rfl : x0 = a0 := Sum.inl.inj (Option.some.inj (Sum.inr.inj (Sum.inr.inj (Option.some.inj (show some (fR x0) = some _ from e1)))))
  obtain rfl : fR x6 = w0 := Option.some.inj (show some (fR x6) = some w0 from e4)
  clear e1 e4
  obtain ⟨a, mc0, ty0, gc0, ic0, e1, sc0, jc0, e4, e5⟩ := m2 (6, ([(4, 1)], 0), 5) (List.mem_of_getElem? (i := 0) rfl)
  obtain rfl : x6 = a := Sum.inl.inj (Option.some.inj (Sum.inr.inj (Sum.inr.inj (Option.some.inj (show some (fR x6) = some _ from e1)))))
  obtain ⟨gc0, rfl⟩ : ∃ g, gc0 = .inl g := by
    rcases gc0 with g | g
    · exact ⟨g, rfl⟩
    · exact absurd (show some (fI x5) = some (.inr (.inl (g ic0))) from e5) (fun h => by cases h)
  have sc0 : σ x6 = .inl (ty0, mc0, .inl gc0) := sc0
  have ec0 : x5 = gc0 ic0 := Sum.inl.inj (Option.some.inj (show some (fI x5) = some _ from e5))
  have kc0 : (ic0 : Int) = (1 * x4.toInt + 0) + 0 := by
    obtain ⟨z, e6, e7⟩ := e4
    obtain rfl : (1 * x4.toInt + 0) = z := Option.some.inj (show some (1 * x4.toInt + 0) = some z from e6)
    exact e7
  clear e1 e4 e5
  obtain rfl : ic0 = x4.toInt.toNat := by omega
  have l0 : 0 ≤ (1 * x5.toInt + (-8 * x2.toInt + 0)) + -3 := by
    obtain ⟨z, e6, e7⟩ := m3 ([(5, 1), (2, -8)], -3) (List.mem_of_getElem? (i := 0) rfl)
    obtain rfl : (1 * x5.toInt + (-8 * x2.toInt + 0)) = z := Option.some.inj (show some (1 * x5.toInt + (-8 * x2.toInt + 0)) = some z from e6)
    exact e7
  have f0 : fB K n p 200 [fR x0, fI x1, fI x2, fI x3] σ := by
    obtain ⟨w, e6, e7⟩ := m4 (3204, [0, 1, 2, 3]) (List.mem_of_getElem? (i := 0) rfl)
    obtain rfl : [fR x0, fI x1, fI x2, fI x3] = w := Option.some.inj (show some [fR x0, fI x1, fI x2, fI x3] = some w from e6)
    exact (fF_b (r := 3204) (by decide) rfl).mp e7
  have f1 : fB K n p 204 [fI x1, fI x3, fI x4] σ := by
    obtain ⟨w, e6, e7⟩ := m4 (3267, [1, 3, 4]) (List.mem_of_getElem? (i := 1) rfl)
    obtain rfl : [fI x1, fI x3, fI x4] = w := Option.some.inj (show some [fI x1, fI x3, fI x4] = some w from e6)
    exact (fF_b (r := 3267) (by decide) rfl).mp e7
  clear m1 m2 m3 m4
  obtain ⟨b9_0, g0, r9_0, e9_0, w0, y0_0, y0_1, y0_2, e8_0, h0, i0, q0⟩ := (fH_o (by decide) (by decide)).mp f0
  cases e9_0
  cases e8_0
  obtain ⟨y1_0, y1_1, y1_2, e8_1, h1, i1, q1⟩ := (fP_o (by decide)).mp f1
  cases e8_1
  obtain rfl := fMe_c w0 s0 t0 sc0
  have q0 : fB K n (p) 205 [fR x0, fI x1, fI x2, fI x3] σ := by
    refine (fH_o (by decide) (by decide)).mpr ⟨x0, g0, _, rfl, w0, x1, x2, x3, rfl, h0, by omega, fun j hj => ?_⟩
    by_cases hj' : 8 * x1.toInt + j < x3.toInt
    · exact q0 j hj'
    · rw [show j = (x3.toInt - 8 * x1.toInt).toNat by omega, ← q1]
      refine ⟨by omega, ?_⟩
      rw [← ec0]
      omega
  exact ⟨p, fun _ => rfl, ⟨(fun q h => by cases h), fun q h => (by cases h), (fun f h => by cases h), (aAllc ⟨_, rfl, (fF_b (r := 3284) (by decide) rfl).mpr q0⟩ (fun f h => by cases h))⟩, [], List.mem_cons_self, fun f h => (by cases h)⟩
set_option maxRecDepth 8192 in
theorem rw_ruAHy {K : Nat → Nat} {n : Nat} : aGho (fF K n) fa_T K n (fJX K n) ag_ruAHy := by
  refine aGho_of ⟨rfl, rfl⟩ ?_
  intro p σ ρ hH hX hA hM
  have hG := aAG_of hA.1 (fun i e v he hv => (hA.2 i e v he hv).1)
  clear hA
  obtain ⟨v0, v1, v2, v3, v4, v5, v6, rfl, g0, g1, g2, g3, g4, g5, g6⟩ := fA_7 hG
  clear hG
  obtain ⟨x0, rfl, b0, d0⟩ := fG_ref (by decide) g0
  obtain ⟨x1, rfl, b1, d1⟩ := aG_int g1
  dsimp only at b1 d1
  obtain ⟨x2, rfl, b2, d2⟩ := aG_int g2
  dsimp only at b2 d2
  obtain ⟨x3, rfl, b3, d3⟩ := aG_int g3
  dsimp only at b3 d3
  obtain ⟨x4, rfl, b4, d4⟩ := aG_int g4
  dsimp only at b4 d4
  obtain ⟨x5, rfl, b5, d5⟩ := aG_int g5
  dsimp only at b5 d5
  obtain ⟨x6, rfl, b6, d6⟩ := fG_ref (by decide) g6
  obtain ⟨m1, m2, m3, m4⟩ := hM
  obtain ⟨a0, c0, fs0, w0, e1, s0, t0, e4⟩ := m1 (0, 0, 6) (List.mem_of_getElem? (i := 0) rfl)
  obtain rfl : x0 = a0 := Sum.inl.inj (Option.some.inj (Sum.inr.inj (Sum.inr.inj (Option.some.inj (show some (fR x0) = some _ from e1)))))
  obtain rfl : fR x6 = w0 := Option.some.inj (show some (fR x6) = some w0 from e4)
  clear e1 e4
  obtain ⟨a, mc0, ty0, gc0, ic0, e1, sc0, jc0, e4, e5⟩ := m2 (6, ([(4, 1)], 0), 5) (List.mem_of_getElem? (i := 0) rfl)
  obtain rfl : x6 = a := Sum.inl.inj (Option.some.inj (Sum.inr.inj (Sum.inr.inj (Option.some.inj (show some (fR x6) = some _ from e1)))))
  obtain ⟨gc0, rfl⟩ : ∃ g, gc0 = .inl g := by
    rcases gc0 with g | g
    · exact ⟨g, rfl⟩
    · exact absurd (show some (fI x5) = some (.inr (.inl (g ic0))) from e5) (fun h => by cases h)
  have sc0 : σ x6 = .inl (ty0, mc0, .inl gc0) := sc0
  have ec0 : x5 = gc0 ic0 := Sum.inl.inj (Option.some.inj (show some (fI x5) = some _ from e5))
  have kc0 : (ic0 : Int) = (1 * x4.toInt + 0) + 0 := by
    obtain ⟨z, e6, e7⟩ := e4
    obtain rfl : (1 * x4.toInt + 0) = z := Option.some.inj (show some (1 * x4.toInt + 0) = some z from e6)
    exact e7
  clear e1 e4 e5
  obtain rfl : ic0 = x4.toInt.toNat := by omega
  have l0 : 0 ≤ (1 * x5.toInt + (-8 * x2.toInt + 0)) + -2 := by
    obtain ⟨z, e6, e7⟩ := m3 ([(5, 1), (2, -8)], -2) (List.mem_of_getElem? (i := 0) rfl)
    obtain rfl : (1 * x5.toInt + (-8 * x2.toInt + 0)) = z := Option.some.inj (show some (1 * x5.toInt + (-8 * x2.toInt + 0)) = some z from e6)
    exact e7
  have l1 : 0 ≤ (-1 * x5.toInt + (8 * x2.toInt + 0)) + 2 := by
    obtain ⟨z, e6, e7⟩ := m3 ([(5, -1), (2, 8)], 2) (List.mem_of_getElem? (i := 1) rfl)
    obtain rfl : (-1 * x5.toInt + (8 * x2.toInt + 0)) = z := Option.some.inj (show some (-1 * x5.toInt + (8 * x2.toInt + 0)) = some z from e6)
    exact e7
  have f0 : fB K n p 200 [fR x0, fI x1, fI x2, fI x3] σ := by
    obtain ⟨w, e6, e7⟩ := m4 (3204, [0, 1, 2, 3]) (List.mem_of_getElem? (i := 0) rfl)
    obtain rfl : [fR x0, fI x1, fI x2, fI x3] = w := Option.some.inj (show some [fR x0, fI x1, fI x2, fI x3] = some w from e6)
    exact (fF_b (r := 3204) (by decide) rfl).mp e7
  have f1 : fB K n p 204 [fI x1, fI x3, fI x4] σ := by
    obtain ⟨w, e6, e7⟩ := m4 (3267, [1, 3, 4]) (List.mem_of_getElem? (i := 1) rfl)
    obtain rfl : [fI x1, fI x3, fI x4] = w := Option.some.inj (show some [fI x1, fI x3, fI x4] = some w from e6)
    exact (fF_b (r := 3267) (by decide) rfl).mp e7
  clear m1 m2 m3 m4
  obtain ⟨b9_0, g0, r9_0, e9_0, w0, y0_0, y0_1, y0_2, e8_0, h0, i0, q0⟩ := (fH_o (by decide) (by decide)).mp f0
  cases e9_0
  cases e8_0
  obtain ⟨y1_0, y1_1, y1_2, e8_1, h1, i1, q1⟩ := (fP_o (by decide)).mp f1
  cases e8_1
  obtain rfl := fMe_c w0 s0 t0 sc0
  have q0 : fB K n (p) 206 [fR x0, fI x1, fI x2] σ := by
    refine (fH_o (by decide) (by decide)).mpr ⟨x0, g0, _, rfl, w0, x1, x2, rfl, (x3.toInt - 8 * x1.toInt).toNat, by omega, by rw [← q1]; omega, ?_⟩
    rw [← q1, ← ec0]
    omega
  exact ⟨p, fun _ => rfl, ⟨(fun q h => by cases h), fun q h => (by cases h), (fun f h => by cases h), (aAllc ⟨_, rfl, (fF_b (r := 3299) (by decide) rfl).mpr q0⟩ (fun f h => by cases h))⟩, [], List.mem_cons_self, fun f h => (by cases h)⟩
set_option maxRecDepth 8192 in
theorem rw_ruAHn {K : Nat → Nat} {n : Nat} : aGho (fF K n) fa_T K n (fJX K n) ag_ruAHn := by
  refine aGho_of ⟨rfl, rfl⟩ ?_
  intro p σ ρ hH hX hA hM
  have hG := aAG_of hA.1 (fun i e v he hv => (hA.2 i e v he hv).1)
  clear hA
  obtain ⟨v0, v1, v2, v3, v4, rfl, g0, g1, g2, g3, g4⟩ := fA_5 hG
  clear hG
  obtain ⟨x0, rfl, b0, d0⟩ := fG_ref (by decide) g0
  obtain ⟨x1, rfl, b1, d1⟩ := aG_int g1
  dsimp only at b1 d1
  obtain ⟨x2, rfl, b2, d2⟩ := aG_int g2
  dsimp only at b2 d2
  obtain ⟨x3, rfl, b3, d3⟩ := aG_int g3
  dsimp only at b3 d3
  obtain ⟨x4, rfl, b4, d4⟩ := aG_int g4
  dsimp only at b4 d4
  obtain ⟨m1, m2, m3, m4⟩ := hM
  have l0 : 0 ≤ (1 * x4.toInt + (-1 * x3.toInt + 0)) + -1 := by
    obtain ⟨z, e6, e7⟩ := m3 ([(4, 1), (3, -1)], -1) (List.mem_of_getElem? (i := 0) rfl)
    obtain rfl : (1 * x4.toInt + (-1 * x3.toInt + 0)) = z := Option.some.inj (show some (1 * x4.toInt + (-1 * x3.toInt + 0)) = some z from e6)
    exact e7
  have l1 : 0 ≤ (-1 * x4.toInt + (1 * x3.toInt + 0)) + 1 := by
    obtain ⟨z, e6, e7⟩ := m3 ([(4, -1), (3, 1)], 1) (List.mem_of_getElem? (i := 1) rfl)
    obtain rfl : (-1 * x4.toInt + (1 * x3.toInt + 0)) = z := Option.some.inj (show some (-1 * x4.toInt + (1 * x3.toInt + 0)) = some z from e6)
    exact e7
  have f0 : fB K n p 205 [fR x0, fI x1, fI x2, fI x3] σ := by
    obtain ⟨w, e6, e7⟩ := m4 (3284, [0, 1, 2, 3]) (List.mem_of_getElem? (i := 0) rfl)
    obtain rfl : [fR x0, fI x1, fI x2, fI x3] = w := Option.some.inj (show some [fR x0, fI x1, fI x2, fI x3] = some w from e6)
    exact (fF_b (r := 3284) (by decide) rfl).mp e7
  clear m1 m2 m3 m4
  obtain ⟨b9_0, g0, r9_0, e9_0, w0, y0_0, y0_1, y0_2, e8_0, h0, i0, q0⟩ := (fH_o (by decide) (by decide)).mp f0
  cases e9_0
  cases e8_0
  have q0 : fB K n (p) 200 [fR x0, fI x1, fI x2, fI x4] σ := by
    refine (fH_o (by decide) (by decide)).mpr ⟨x0, g0, _, rfl, w0, x1, x2, x4, rfl, by omega, by omega, fun j hj => q0 j (by omega)⟩
  exact ⟨p, fun _ => rfl, ⟨(fun q h => by cases h), fun q h => (by cases h), (fun f h => by cases h), (aAllc ⟨_, rfl, (fF_b (r := 3204) (by decide) rfl).mpr q0⟩ (fun f h => by cases h))⟩, [], List.mem_cons_self, fun f h => (by cases h)⟩
set_option maxRecDepth 8192 in
theorem rw_ruAHz {K : Nat → Nat} {n : Nat} : aGho (fF K n) fa_T K n (fJX K n) ag_ruAHz := by
  refine aGho_of ⟨rfl, rfl⟩ ?_
  intro p σ ρ hH hX hA hM
  have hG := aAG_of hA.1 (fun i e v he hv => (hA.2 i e v he hv).1)
  clear hA
  obtain ⟨v0, v1, v2, v3, rfl, g0, g1, g2, g3⟩ := fA_4 hG
  clear hG
  obtain ⟨x0, rfl, b0, d0⟩ := fG_ref (by decide) g0
  obtain ⟨x1, rfl, b1, d1⟩ := aG_int g1
  dsimp only at b1 d1
  obtain ⟨x2, rfl, b2, d2⟩ := aG_int g2
  dsimp only at b2 d2
  obtain ⟨x3, rfl, b3, d3⟩ := aG_int g3
  dsimp only at b3 d3
  obtain ⟨m1, m2, m3, m4⟩ := hM
  have f0 : fB K n p 206 [fR x0, fI x1, fI x2] σ := by
    obtain ⟨w, e6, e7⟩ := m4 (3299, [0, 1, 2]) (List.mem_of_getElem? (i := 0) rfl)
    obtain rfl : [fR x0, fI x1, fI x2] = w := Option.some.inj (show some [fR x0, fI x1, fI x2] = some w from e6)
    exact (fF_b (r := 3299) (by decide) rfl).mp e7
  clear m1 m2 m3 m4
  obtain ⟨b9_0, g0, r9_0, e9_0, w0, y0_0, y0_1, e8_0, h0⟩ := (fH_o (by decide) (by decide)).mp f0
  cases e9_0
  cases e8_0
  have q0 : fB K n (p) 203 [fR x0, fI x1, fI x2, fI x3] σ := by
    refine (fH_o (by decide) (by decide)).mpr ⟨x0, g0, _, rfl, w0, x1, x2, x3, rfl, Or.inl ⟨by omega, Or.inl h0⟩⟩
  exact ⟨p, fun _ => rfl, ⟨(fun q h => by cases h), fun q h => (by cases h), (fun f h => by cases h), (aAllc ⟨_, rfl, (fF_b (r := 3252) (by decide) rfl).mpr q0⟩ (fun f h => by cases h))⟩, [], List.mem_cons_self, fun f h => (by cases h)⟩
set_option maxRecDepth 8192 in
theorem rw_ruAHd {K : Nat → Nat} {n : Nat} : aGho (fF K n) fa_T K n (fJX K n) ag_ruAHd := by
  refine aGho_of ⟨rfl, rfl⟩ ?_
  intro p σ ρ hH hX hA hM
  have hG := aAG_of hA.1 (fun i e v he hv => (hA.2 i e v he hv).1)
  clear hA
  obtain ⟨v0, v1, v2, v3, v4, rfl, g0, g1, g2, g3, g4⟩ := fA_5 hG
  clear hG
  obtain ⟨x0, rfl, b0, d0⟩ := fG_ref (by decide) g0
  obtain ⟨x1, rfl, b1, d1⟩ := aG_int g1
  dsimp only at b1 d1
  obtain ⟨x2, rfl, b2, d2⟩ := aG_int g2
  dsimp only at b2 d2
  obtain ⟨x3, rfl, b3, d3⟩ := aG_int g3
  dsimp only at b3 d3
  obtain ⟨x4, rfl, b4, d4⟩ := aG_int g4
  dsimp only at b4 d4
  obtain ⟨m1, m2, m3, m4⟩ := hM
  have l0 : 0 ≤ (1 * x3.toInt + (-8 * x1.toInt + 0)) + -8 := by
    obtain ⟨z, e6, e7⟩ := m3 ([(3, 1), (1, -8)], -8) (List.mem_of_getElem? (i := 0) rfl)
    obtain rfl : (1 * x3.toInt + (-8 * x1.toInt + 0)) = z := Option.some.inj (show some (1 * x3.toInt + (-8 * x1.toInt + 0)) = some z from e6)
    exact e7
  have f0 : fB K n p 200 [fR x0, fI x1, fI x2, fI x3] σ := by
    obtain ⟨w, e6, e7⟩ := m4 (3204, [0, 1, 2, 3]) (List.mem_of_getElem? (i := 0) rfl)
    obtain rfl : [fR x0, fI x1, fI x2, fI x3] = w := Option.some.inj (show some [fR x0, fI x1, fI x2, fI x3] = some w from e6)
    exact (fF_b (r := 3204) (by decide) rfl).mp e7
  clear m1 m2 m3 m4
  obtain ⟨b9_0, g0, r9_0, e9_0, w0, y0_0, y0_1, y0_2, e8_0, h0, i0, q0⟩ := (fH_o (by decide) (by decide)).mp f0
  cases e9_0
  cases e8_0
  have q0 : fB K n (p) 201 [fR x0, fI x1, fI x2, fI x4] σ := by
    refine (fH_o (by decide) (by decide)).mpr ⟨x0, g0, _, rfl, w0, x1, x2, x4, rfl, fun ⟨j, j1, j2, j3⟩ => (q0 j (by omega)).2 j3, fun j h1 h2 => by omega⟩
  exact ⟨p, fun _ => rfl, ⟨(fun q h => by cases h), fun q h => (by cases h), (fun f h => by cases h), (aAllc ⟨_, rfl, (fF_b (r := 3220) (by decide) rfl).mpr q0⟩ (fun f h => by cases h))⟩, [], List.mem_cons_self, fun f h => (by cases h)⟩
set_option maxRecDepth 8192 in
theorem rw_ruAHe {K : Nat → Nat} {n : Nat} : aGho (fF K n) fa_T K n (fJX K n) ag_ruAHe := by
  refine aGho_of ⟨rfl, rfl⟩ ?_
  intro p σ ρ hH hX hA hM
  have hG := aAG_of hA.1 (fun i e v he hv => (hA.2 i e v he hv).1)
  clear hA
  obtain ⟨v0, v1, v2, v3, v4, v5, rfl, g0, g1, g2, g3, g4, g5⟩ := fA_6 hG
  clear hG
  obtain ⟨x0, rfl, b0, d0⟩ := fG_ref (by decide) g0
  obtain ⟨x1, rfl, b1, d1⟩ := aG_int g1
  dsimp only at b1 d1
  obtain ⟨x2, rfl, b2, d2⟩ := aG_int g2
  dsimp only at b2 d2
  obtain ⟨x3, rfl, b3, d3⟩ := aG_int g3
  dsimp only at b3 d3
  obtain ⟨x4, rfl, b4, d4⟩ := aG_int g4
  dsimp only at b4 d4
  obtain ⟨x5, rfl, b5, d5⟩ := aG_int g5
  dsimp only at b5 d5
  obtain ⟨m1, m2, m3, m4⟩ := hM
  have f0 : fB K n p 200 [fR x0, fI x1, fI x2, fI x3] σ := by
    obtain ⟨w, e6, e7⟩ := m4 (3204, [0, 1, 2, 3]) (List.mem_of_getElem? (i := 0) rfl)
    obtain rfl : [fR x0, fI x1, fI x2, fI x3] = w := Option.some.inj (show some [fR x0, fI x1, fI x2, fI x3] = some w from e6)
    exact (fF_b (r := 3204) (by decide) rfl).mp e7
  have f1 : fB K n p 204 [fI x1, fI x3, fI x5] σ := by
    obtain ⟨w, e6, e7⟩ := m4 (3267, [1, 3, 5]) (List.mem_of_getElem? (i := 1) rfl)
    obtain rfl : [fI x1, fI x3, fI x5] = w := Option.some.inj (show some [fI x1, fI x3, fI x5] = some w from e6)
    exact (fF_b (r := 3267) (by decide) rfl).mp e7
  clear m1 m2 m3 m4
  obtain ⟨b9_0, g0, r9_0, e9_0, w0, y0_0, y0_1, y0_2, e8_0, h0, i0, q0⟩ := (fH_o (by decide) (by decide)).mp f0
  cases e9_0
  cases e8_0
  obtain ⟨y1_0, y1_1, y1_2, e8_1, h1, i1, q1⟩ := (fP_o (by decide)).mp f1
  cases e8_1
  have q0 : fB K n (p) 201 [fR x0, fI x1, fI x2, fI x4] σ := by
    refine (fH_o (by decide) (by decide)).mpr ⟨x0, g0, _, rfl, w0, x1, x2, x4, rfl, ?_, fun j h1 h2 => by omega⟩
    rintro ⟨j, j1, j2, j3⟩
    by_cases hj : 8 * x1.toInt + j < x3.toInt
    · exact (q0 j hj).2 j3
    · have := fHp_no (s := x1.toInt.toNat) (i := (x3.toInt - 8 * x1.toInt).toNat) (j := j) (by omega) (by omega)
      omega
  exact ⟨p, fun _ => rfl, ⟨(fun q h => by cases h), fun q h => (by cases h), (fun f h => by cases h), (aAllc ⟨_, rfl, (fF_b (r := 3220) (by decide) rfl).mpr q0⟩ (fun f h => by cases h))⟩, [], List.mem_cons_self, fun f h => (by cases h)⟩
set_option maxRecDepth 8192 in
theorem rw_ruAR0 {K : Nat → Nat} {n : Nat} : aGho (fF K n) fa_T K n (fJX K n) ag_ruAR0 := by
  refine aGho_of ⟨rfl, rfl⟩ ?_
  intro p σ ρ hH hX hA hM
  have hG := aAG_of hA.1 (fun i e v he hv => (hA.2 i e v he hv).1)
  clear hA
  obtain ⟨v0, v1, v2, v3, v4, rfl, g0, g1, g2, g3, g4⟩ := fA_5 hG
  clear hG
  obtain ⟨x0, rfl, b0, d0⟩ := fG_ref (by decide) g0
  obtain ⟨x1, rfl, b1, d1⟩ := aG_int g1
  dsimp only at b1 d1
  obtain ⟨x2, rfl, b2, d2⟩ := aG_int g2
  dsimp only at b2 d2
  obtain ⟨x3, rfl, b3, d3⟩ := aG_int g3
  dsimp only at b3 d3
  obtain ⟨x4, rfl, b4, d4⟩ := aG_int g4
  dsimp only at b4 d4
  obtain ⟨m1, m2, m3, m4⟩ := hM
  have f0 : fB K n p 201 [fR x0, fI x1, fI x2, fI x3] σ := by
    obtain ⟨w, e6, e7⟩ := m4 (3220, [0, 1, 2, 3]) (List.mem_of_getElem? (i := 0) rfl)
    obtain rfl : [fR x0, fI x1, fI x2, fI x3] = w := Option.some.inj (show some [fR x0, fI x1, fI x2, fI x3] = some w from e6)
    exact (fF_b (r := 3220) (by decide) rfl).mp e7
  clear m1 m2 m3 m4
  obtain ⟨b9_0, g0, r9_0, e9_0, w0, y0_0, y0_1, y0_2, e8_0, n0, r0⟩ := (fH_o (by decide) (by decide)).mp f0
  cases e9_0
  cases e8_0
  have q0 : fB K n (p) 202 [fR x0, fI x1, fI x2, fI x3, fI x4] σ := by
    refine (fH_o (by decide) (by decide)).mpr ⟨x0, g0, _, rfl, w0, x1, x2, x3, x4, rfl, n0, r0, fun q h1 h2 => by omega⟩
  exact ⟨p, fun _ => rfl, ⟨(fun q h => by cases h), fun q h => (by cases h), (fun f h => by cases h), (aAllc ⟨_, rfl, (fF_b (r := 3237) (by decide) rfl).mpr q0⟩ (fun f h => by cases h))⟩, [], List.mem_cons_self, fun f h => (by cases h)⟩
set_option maxRecDepth 8192 in
theorem rw_ruARn {K : Nat → Nat} {n : Nat} : aGho (fF K n) fa_T K n (fJX K n) ag_ruARn := by
  refine aGho_of ⟨rfl, rfl⟩ ?_
  intro p σ ρ hH hX hA hM
  have hG := aAG_of hA.1 (fun i e v he hv => (hA.2 i e v he hv).1)
  clear hA
  obtain ⟨v0, v1, v2, v3, v4, v5, v6, v7, v8, rfl, g0, g1, g2, g3, g4, g5, g6, g7, g8⟩ := fA_9 hG
  clear hG
  obtain ⟨x0, rfl, b0, d0⟩ := fG_ref (by decide) g0
  obtain ⟨x1, rfl, b1, d1⟩ := aG_int g1
  dsimp only at b1 d1
  obtain ⟨x2, rfl, b2, d2⟩ := aG_int g2
  dsimp only at b2 d2
  obtain ⟨x3, rfl, b3, d3⟩ := aG_int g3
  dsimp only at b3 d3
  obtain ⟨x4, rfl, b4, d4⟩ := aG_int g4
  dsimp only at b4 d4
  obtain ⟨x5, rfl, b5, d5⟩ := aG_int g5
  dsimp only at b5 d5
  obtain ⟨x6, rfl, b6, d6⟩ := aG_int g6
  dsimp only at b6 d6
  obtain ⟨x7, rfl, b7, d7⟩ := aG_int g7
  dsimp only at b7 d7
  obtain ⟨x8, rfl, b8, d8⟩ := fG_ref (by decide) g8
  obtain ⟨m1, m2, m3, m4⟩ := hM
  obtain ⟨a0, c0, fs0, w0, e1, s0, t0, e4⟩ := m1 (0, 0, 8) (List.mem_of_getElem? (i := 0) rfl)
  obtain rfl : x0 = a0 := Sum.inl.inj (Option.some.inj (Sum.inr.inj (Sum.inr.inj (Option.some.inj (show some (fR x0) = some _ from e1)))))
  obtain rfl : fR x8 = w0 := Option.some.inj (show some (fR x8) = some w0 from e4)
  clear e1 e4
  obtain ⟨a, mc0, ty0, gc0, ic0, e1, sc0, jc0, e4, e5⟩ := m2 (8, ([(5, 1)], 0), 6) (List.mem_of_getElem? (i := 0) rfl)
  obtain rfl : x8 = a := Sum.inl.inj (Option.some.inj (Sum.inr.inj (Sum.inr.inj (Option.some.inj (show some (fR x8) = some _ from e1)))))
  obtain ⟨gc0, rfl⟩ : ∃ g, gc0 = .inl g := by
    rcases gc0 with g | g
    · exact ⟨g, rfl⟩
    · exact absurd (show some (fI x6) = some (.inr (.inl (g ic0))) from e5) (fun h => by cases h)
  have sc0 : σ x8 = .inl (ty0, mc0, .inl gc0) := sc0
  have ec0 : x6 = gc0 ic0 := Sum.inl.inj (Option.some.inj (show some (fI x6) = some _ from e5))
  have kc0 : (ic0 : Int) = (1 * x5.toInt + 0) + 0 := by
    obtain ⟨z, e6, e7⟩ := e4
    obtain rfl : (1 * x5.toInt + 0) = z := Option.some.inj (show some (1 * x5.toInt + 0) = some z from e6)
    exact e7
  clear e1 e4 e5
  obtain rfl : ic0 = x5.toInt.toNat := by omega
  have l0 : 0 ≤ (1 * x7.toInt + (-1 * x4.toInt + 0)) + -1 := by
    obtain ⟨z, e6, e7⟩ := m3 ([(7, 1), (4, -1)], -1) (List.mem_of_getElem? (i := 0) rfl)
    obtain rfl : (1 * x7.toInt + (-1 * x4.toInt + 0)) = z := Option.some.inj (show some (1 * x7.toInt + (-1 * x4.toInt + 0)) = some z from e6)
    exact e7
  have l1 : 0 ≤ (-1 * x7.toInt + (1 * x4.toInt + 0)) + 1 := by
    obtain ⟨z, e6, e7⟩ := m3 ([(7, -1), (4, 1)], 1) (List.mem_of_getElem? (i := 1) rfl)
    obtain rfl : (-1 * x7.toInt + (1 * x4.toInt + 0)) = z := Option.some.inj (show some (-1 * x7.toInt + (1 * x4.toInt + 0)) = some z from e6)
    exact e7
  have f0 : fB K n p 202 [fR x0, fI x1, fI x2, fI x3, fI x4] σ := by
    obtain ⟨w, e6, e7⟩ := m4 (3237, [0, 1, 2, 3, 4]) (List.mem_of_getElem? (i := 0) rfl)
    obtain rfl : [fR x0, fI x1, fI x2, fI x3, fI x4] = w := Option.some.inj (show some [fR x0, fI x1, fI x2, fI x3, fI x4] = some w from e6)
    exact (fF_b (r := 3237) (by decide) rfl).mp e7
  have f1 : fB K n p 18 [fI x1, fI x3, fI x4, fI x5] σ := by
    obtain ⟨w, e6, e7⟩ := m4 (292, [1, 3, 4, 5]) (List.mem_of_getElem? (i := 1) rfl)
    obtain rfl : [fI x1, fI x3, fI x4, fI x5] = w := Option.some.inj (show some [fI x1, fI x3, fI x4, fI x5] = some w from e6)
    exact (fF_b (r := 292) (by decide) rfl).mp e7
  clear m1 m2 m3 m4
  obtain ⟨b9_0, g0, r9_0, e9_0, w0, y0_0, y0_1, y0_2, y0_3, e8_0, n0, r0, m0⟩ := (fH_o (by decide) (by decide)).mp f0
  cases e9_0
  cases e8_0
  obtain ⟨y1_0, y1_1, y1_2, y1_3, e9_1, h1, i1, t1_⟩ := f1
  cases e9_1
  obtain rfl := fMe_c w0 s0 t0 sc0
  have q0 : fB K n (p) 202 [fR x0, fI x1, fI x2, fI x3, fI x7] σ := by
    refine (fH_o (by decide) (by decide)).mpr ⟨x0, g0, _, rfl, w0, x1, x2, x3, x7, rfl, n0, r0, fun q h1 h2 => ?_⟩
    by_cases hq : q < x4.toInt
    · exact m0 q h1 hq
    · rw [show q = x4.toInt by omega, ← t1_, ← ec0]
      omega
  exact ⟨p, fun _ => rfl, ⟨(fun q h => by cases h), fun q h => (by cases h), (fun f h => by cases h), (aAllc ⟨_, rfl, (fF_b (r := 3237) (by decide) rfl).mpr q0⟩ (fun f h => by cases h))⟩, [], List.mem_cons_self, fun f h => (by cases h)⟩
set_option maxRecDepth 8192 in
theorem rw_ruARx {K : Nat → Nat} {n : Nat} : aGho (fF K n) fa_T K n (fJX K n) ag_ruARx := by
  refine aGho_of ⟨rfl, rfl⟩ ?_
  intro p σ ρ hH hX hA hM
  have hG := aAG_of hA.1 (fun i e v he hv => (hA.2 i e v he hv).1)
  clear hA
  obtain ⟨v0, v1, v2, v3, v4, v5, rfl, g0, g1, g2, g3, g4, g5⟩ := fA_6 hG
  clear hG
  obtain ⟨x0, rfl, b0, d0⟩ := fG_ref (by decide) g0
  obtain ⟨x1, rfl, b1, d1⟩ := aG_int g1
  dsimp only at b1 d1
  obtain ⟨x2, rfl, b2, d2⟩ := aG_int g2
  dsimp only at b2 d2
  obtain ⟨x3, rfl, b3, d3⟩ := aG_int g3
  dsimp only at b3 d3
  obtain ⟨x4, rfl, b4, d4⟩ := aG_int g4
  dsimp only at b4 d4
  obtain ⟨x5, rfl, b5, d5⟩ := aG_int g5
  dsimp only at b5 d5
  obtain ⟨m1, m2, m3, m4⟩ := hM
  have l0 : 0 ≤ (1 * x4.toInt + (-1 * x5.toInt + 0)) + -1 := by
    obtain ⟨z, e6, e7⟩ := m3 ([(4, 1), (5, -1)], -1) (List.mem_of_getElem? (i := 0) rfl)
    obtain rfl : (1 * x4.toInt + (-1 * x5.toInt + 0)) = z := Option.some.inj (show some (1 * x4.toInt + (-1 * x5.toInt + 0)) = some z from e6)
    exact e7
  have f0 : fB K n p 202 [fR x0, fI x1, fI x2, fI x3, fI x4] σ := by
    obtain ⟨w, e6, e7⟩ := m4 (3237, [0, 1, 2, 3, 4]) (List.mem_of_getElem? (i := 0) rfl)
    obtain rfl : [fR x0, fI x1, fI x2, fI x3, fI x4] = w := Option.some.inj (show some [fR x0, fI x1, fI x2, fI x3, fI x4] = some w from e6)
    exact (fF_b (r := 3237) (by decide) rfl).mp e7
  have f1 : fB K n p 19 [fI x1, fI x3, fI x5] σ := by
    obtain ⟨w, e6, e7⟩ := m4 (307, [1, 3, 5]) (List.mem_of_getElem? (i := 1) rfl)
    obtain rfl : [fI x1, fI x3, fI x5] = w := Option.some.inj (show some [fI x1, fI x3, fI x5] = some w from e6)
    exact (fF_b (r := 307) (by decide) rfl).mp e7
  clear m1 m2 m3 m4
  obtain ⟨b9_0, g0, r9_0, e9_0, w0, y0_0, y0_1, y0_2, y0_3, e8_0, n0, r0, m0⟩ := (fH_o (by decide) (by decide)).mp f0
  cases e9_0
  cases e8_0
  obtain ⟨y1_0, y1_1, y1_2, e9_1, h1⟩ := f1
  cases e9_1
  have q0 : fB K n (p) 207 [fR x0, fI x1, fI x2, fI x3] σ := by
    refine (fH_o (by decide) (by decide)).mpr ⟨x0, g0, _, rfl, w0, x1, x2, x3, rfl, n0, fun j j1 j2 => ?_⟩
    by_cases hj : j < x3.toInt
    · exact r0 j j1 hj
    · obtain rfl : j = x3.toInt := by omega
      rintro ⟨q, q1, q2, q3, q4, q5⟩
      exact q4 (m0 q q1 (by omega))
  exact ⟨p, fun _ => rfl, ⟨(fun q h => by cases h), fun q h => (by cases h), (fun f h => by cases h), (aAllc ⟨_, rfl, (fF_b (r := 3316) (by decide) rfl).mpr q0⟩ (fun f h => by cases h))⟩, [], List.mem_cons_self, fun f h => (by cases h)⟩
set_option maxRecDepth 8192 in
theorem rw_ruARq {K : Nat → Nat} {n : Nat} : aGho (fF K n) fa_T K n (fJX K n) ag_ruARq := by
  refine aGho_of ⟨rfl, rfl⟩ ?_
  intro p σ ρ hH hX hA hM
  have hG := aAG_of hA.1 (fun i e v he hv => (hA.2 i e v he hv).1)
  clear hA
  obtain ⟨v0, v1, v2, v3, v4, rfl, g0, g1, g2, g3, g4⟩ := fA_5 hG
  clear hG
  obtain ⟨x0, rfl, b0, d0⟩ := fG_ref (by decide) g0
  obtain ⟨x1, rfl, b1, d1⟩ := aG_int g1
  dsimp only at b1 d1
  obtain ⟨x2, rfl, b2, d2⟩ := aG_int g2
  dsimp only at b2 d2
  obtain ⟨x3, rfl, b3, d3⟩ := aG_int g3
  dsimp only at b3 d3
  obtain ⟨x4, rfl, b4, d4⟩ := aG_int g4
  dsimp only at b4 d4
  obtain ⟨m1, m2, m3, m4⟩ := hM
  have l0 : 0 ≤ (1 * x4.toInt + (-1 * x3.toInt + 0)) + -1 := by
    obtain ⟨z, e6, e7⟩ := m3 ([(4, 1), (3, -1)], -1) (List.mem_of_getElem? (i := 0) rfl)
    obtain rfl : (1 * x4.toInt + (-1 * x3.toInt + 0)) = z := Option.some.inj (show some (1 * x4.toInt + (-1 * x3.toInt + 0)) = some z from e6)
    exact e7
  have l1 : 0 ≤ (-1 * x4.toInt + (1 * x3.toInt + 0)) + 1 := by
    obtain ⟨z, e6, e7⟩ := m3 ([(4, -1), (3, 1)], 1) (List.mem_of_getElem? (i := 1) rfl)
    obtain rfl : (-1 * x4.toInt + (1 * x3.toInt + 0)) = z := Option.some.inj (show some (-1 * x4.toInt + (1 * x3.toInt + 0)) = some z from e6)
    exact e7
  have f0 : fB K n p 207 [fR x0, fI x1, fI x2, fI x3] σ := by
    obtain ⟨w, e6, e7⟩ := m4 (3316, [0, 1, 2, 3]) (List.mem_of_getElem? (i := 0) rfl)
    obtain rfl : [fR x0, fI x1, fI x2, fI x3] = w := Option.some.inj (show some [fR x0, fI x1, fI x2, fI x3] = some w from e6)
    exact (fF_b (r := 3316) (by decide) rfl).mp e7
  clear m1 m2 m3 m4
  obtain ⟨b9_0, g0, r9_0, e9_0, w0, y0_0, y0_1, y0_2, e8_0, n0, r0⟩ := (fH_o (by decide) (by decide)).mp f0
  cases e9_0
  cases e8_0
  have q0 : fB K n (p) 201 [fR x0, fI x1, fI x2, fI x4] σ := by
    refine (fH_o (by decide) (by decide)).mpr ⟨x0, g0, _, rfl, w0, x1, x2, x4, rfl, n0, fun j j1 j2 => r0 j j1 (by omega)⟩
  exact ⟨p, fun _ => rfl, ⟨(fun q h => by cases h), fun q h => (by cases h), (fun f h => by cases h), (aAllc ⟨_, rfl, (fF_b (r := 3220) (by decide) rfl).mpr q0⟩ (fun f h => by cases h))⟩, [], List.mem_cons_self, fun f h => (by cases h)⟩
set_option maxRecDepth 8192 in
theorem rw_ruARe {K : Nat → Nat} {n : Nat} : aGho (fF K n) fa_T K n (fJX K n) ag_ruARe := by
  refine aGho_of ⟨rfl, rfl⟩ ?_
  intro p σ ρ hH hX hA hM
  have hG := aAG_of hA.1 (fun i e v he hv => (hA.2 i e v he hv).1)
  clear hA
  obtain ⟨v0, v1, v2, v3, v4, rfl, g0, g1, g2, g3, g4⟩ := fA_5 hG
  clear hG
  obtain ⟨x0, rfl, b0, d0⟩ := fG_ref (by decide) g0
  obtain ⟨x1, rfl, b1, d1⟩ := aG_int g1
  dsimp only at b1 d1
  obtain ⟨x2, rfl, b2, d2⟩ := aG_int g2
  dsimp only at b2 d2
  obtain ⟨x3, rfl, b3, d3⟩ := aG_int g3
  dsimp only at b3 d3
  obtain ⟨x4, rfl, b4, d4⟩ := aG_int g4
  dsimp only at b4 d4
  obtain ⟨m1, m2, m3, m4⟩ := hM
  have f0 : fB K n p 201 [fR x0, fI x1, fI x2, fI x3] σ := by
    obtain ⟨w, e6, e7⟩ := m4 (3220, [0, 1, 2, 3]) (List.mem_of_getElem? (i := 0) rfl)
    obtain rfl : [fR x0, fI x1, fI x2, fI x3] = w := Option.some.inj (show some [fR x0, fI x1, fI x2, fI x3] = some w from e6)
    exact (fF_b (r := 3220) (by decide) rfl).mp e7
  clear m1 m2 m3 m4
  obtain ⟨b9_0, g0, r9_0, e9_0, w0, y0_0, y0_1, y0_2, e8_0, n0, r0⟩ := (fH_o (by decide) (by decide)).mp f0
  cases e9_0
  cases e8_0
  have q0 : fB K n (p) 203 [fR x0, fI x1, fI x2, fI x4] σ := by
    refine (fH_o (by decide) (by decide)).mpr ⟨x0, g0, _, rfl, w0, x1, x2, x4, rfl, Or.inr ⟨by omega, fun h => h.elim n0 (fun ⟨j, j1, j2, j3⟩ => r0 j j1 (by omega) j3)⟩⟩
  exact ⟨p, fun _ => rfl, ⟨(fun q h => by cases h), fun q h => (by cases h), (fun f h => by cases h), (aAllc ⟨_, rfl, (fF_b (r := 3252) (by decide) rfl).mpr q0⟩ (fun f h => by cases h))⟩, [], List.mem_cons_self, fun f h => (by cases h)⟩
set_option maxRecDepth 8192 in
theorem rw_ruYR5 {K : Nat → Nat} {n : Nat} : aGho (fF K n) fa_T K n (fJX K n) ag_ruYR5 := by
  refine aGho_of ⟨rfl, rfl⟩ ?_
  intro p σ ρ hH hX hA hM
  have hG := aAG_of hA.1 (fun i e v he hv => (hA.2 i e v he hv).1)
  clear hA
  obtain ⟨v0, v1, v2, v3, v4, v5, v6, v7, v8, v9, rfl, g0, g1, g2, g3, g4, g5, g6, g7, g8, g9⟩ := fA_10 hG
  clear hG
  obtain ⟨x0, rfl, b0, d0⟩ := fG_ref (by decide) g0
  obtain ⟨x1, rfl, b1, d1⟩ := aG_int g1
  dsimp only at b1 d1
  obtain ⟨x2, rfl, b2, d2⟩ := aG_int g2
  dsimp only at b2 d2
  obtain ⟨x3, rfl, b3, d3⟩ := aG_int g3
  dsimp only at b3 d3
  obtain ⟨x4, rfl, b4, d4⟩ := aG_int g4
  dsimp only at b4 d4
  obtain ⟨x5, rfl, b5, d5⟩ := aG_int g5
  dsimp only at b5 d5
  obtain ⟨x6, rfl, b6, d6⟩ := aG_int g6
  dsimp only at b6 d6
  obtain ⟨x7, rfl, b7, d7⟩ := aG_int g7
  dsimp only at b7 d7
  obtain ⟨x8, rfl, b8, d8⟩ := aG_int g8
  dsimp only at b8 d8
  obtain ⟨x9, rfl, b9, d9⟩ := fG_ref (by decide) g9
  obtain ⟨m1, m2, m3, m4⟩ := hM
  obtain ⟨a0, c0, fs0, w0, e1, s0, t0, e4⟩ := m1 (0, 0, 9) (List.mem_of_getElem? (i := 0) rfl)
  obtain rfl : x0 = a0 := Sum.inl.inj (Option.some.inj (Sum.inr.inj (Sum.inr.inj (Option.some.inj (show some (fR x0) = some _ from e1)))))
  obtain rfl : fR x9 = w0 := Option.some.inj (show some (fR x9) = some w0 from e4)
  clear e1 e4
  obtain ⟨a, mc0, ty0, gc0, ic0, e1, sc0, jc0, e4, e5⟩ := m2 (9, ([(5, 1)], 0), 6) (List.mem_of_getElem? (i := 0) rfl)
  obtain rfl : x9 = a := Sum.inl.inj (Option.some.inj (Sum.inr.inj (Sum.inr.inj (Option.some.inj (show some (fR x9) = some _ from e1)))))
  obtain ⟨gc0, rfl⟩ : ∃ g, gc0 = .inl g := by
    rcases gc0 with g | g
    · exact ⟨g, rfl⟩
    · exact absurd (show some (fI x6) = some (.inr (.inl (g ic0))) from e5) (fun h => by cases h)
  have sc0 : σ x9 = .inl (ty0, mc0, .inl gc0) := sc0
  have ec0 : x6 = gc0 ic0 := Sum.inl.inj (Option.some.inj (show some (fI x6) = some _ from e5))
  have kc0 : (ic0 : Int) = (1 * x5.toInt + 0) + 0 := by
    obtain ⟨z, e6, e7⟩ := e4
    obtain rfl : (1 * x5.toInt + 0) = z := Option.some.inj (show some (1 * x5.toInt + 0) = some z from e6)
    exact e7
  clear e1 e4 e5
  obtain rfl : ic0 = x5.toInt.toNat := by omega
  have l0 : 0 ≤ (1 * x6.toInt + (-8 * x2.toInt + (-1 * x7.toInt + 0))) + 0 := by
    obtain ⟨z, e6, e7⟩ := m3 ([(6, 1), (2, -8), (7, -1)], 0) (List.mem_of_getElem? (i := 0) rfl)
    obtain rfl : (1 * x6.toInt + (-8 * x2.toInt + (-1 * x7.toInt + 0))) = z := Option.some.inj (show some (1 * x6.toInt + (-8 * x2.toInt + (-1 * x7.toInt + 0))) = some z from e6)
    exact e7
  have l1 : 0 ≤ (-1 * x6.toInt + (8 * x2.toInt + (1 * x7.toInt + 0))) + 0 := by
    obtain ⟨z, e6, e7⟩ := m3 ([(6, -1), (2, 8), (7, 1)], 0) (List.mem_of_getElem? (i := 1) rfl)
    obtain rfl : (-1 * x6.toInt + (8 * x2.toInt + (1 * x7.toInt + 0))) = z := Option.some.inj (show some (-1 * x6.toInt + (8 * x2.toInt + (1 * x7.toInt + 0))) = some z from e6)
    exact e7
  have l2 : 0 ≤ (1 * x7.toInt + 0) + -5 := by
    obtain ⟨z, e6, e7⟩ := m3 ([(7, 1)], -5) (List.mem_of_getElem? (i := 2) rfl)
    obtain rfl : (1 * x7.toInt + 0) = z := Option.some.inj (show some (1 * x7.toInt + 0) = some z from e6)
    exact e7
  have l3 : 0 ≤ (-1 * x7.toInt + 0) + 5 := by
    obtain ⟨z, e6, e7⟩ := m3 ([(7, -1)], 5) (List.mem_of_getElem? (i := 3) rfl)
    obtain rfl : (-1 * x7.toInt + 0) = z := Option.some.inj (show some (-1 * x7.toInt + 0) = some z from e6)
    exact e7
  have f0 : fB K n p 202 [fR x0, fI x1, fI x2, fI x3, fI x4] σ := by
    obtain ⟨w, e6, e7⟩ := m4 (3237, [0, 1, 2, 3, 4]) (List.mem_of_getElem? (i := 0) rfl)
    obtain rfl : [fR x0, fI x1, fI x2, fI x3, fI x4] = w := Option.some.inj (show some [fR x0, fI x1, fI x2, fI x3, fI x4] = some w from e6)
    exact (fF_b (r := 3237) (by decide) rfl).mp e7
  have f1 : fB K n p 18 [fI x1, fI x3, fI x4, fI x5] σ := by
    obtain ⟨w, e6, e7⟩ := m4 (292, [1, 3, 4, 5]) (List.mem_of_getElem? (i := 1) rfl)
    obtain rfl : [fI x1, fI x3, fI x4, fI x5] = w := Option.some.inj (show some [fI x1, fI x3, fI x4, fI x5] = some w from e6)
    exact (fF_b (r := 292) (by decide) rfl).mp e7
  clear m1 m2 m3 m4
  obtain ⟨b9_0, g0, r9_0, e9_0, w0, y0_0, y0_1, y0_2, y0_3, e8_0, n0, r0, m0⟩ := (fH_o (by decide) (by decide)).mp f0
  cases e9_0
  cases e8_0
  obtain ⟨y1_0, y1_1, y1_2, y1_3, e9_1, h1, i1, t1_⟩ := f1
  cases e9_1
  obtain rfl := fMe_c w0 s0 t0 sc0
  have q0 : fB K n (p) 203 [fR x0, fI x1, fI x2, fI x8] σ := by
    refine (fH_o (by decide) (by decide)).mpr ⟨x0, g0, _, rfl, w0, x1, x2, x8, rfl, Or.inl ⟨by omega, Or.inr ⟨x3.toInt, by omega, by omega, x4.toInt, h1, i1, m0, ?_, ?_⟩⟩⟩
    · rw [← t1_, ← ec0]
      omega
    · rw [← t1_, ← ec0]
      unfold fHit
      omega
  exact ⟨p, fun _ => rfl, ⟨(fun q h => by cases h), fun q h => (by cases h), (fun f h => by cases h), (aAllc ⟨_, rfl, (fF_b (r := 3252) (by decide) rfl).mpr q0⟩ (fun f h => by cases h))⟩, [], List.mem_cons_self, fun f h => (by cases h)⟩
set_option maxRecDepth 8192 in
theorem rw_ruYR4 {K : Nat → Nat} {n : Nat} : aGho (fF K n) fa_T K n (fJX K n) ag_ruYR4 := by
  refine aGho_of ⟨rfl, rfl⟩ ?_
  intro p σ ρ hH hX hA hM
  have hG := aAG_of hA.1 (fun i e v he hv => (hA.2 i e v he hv).1)
  clear hA
  obtain ⟨v0, v1, v2, v3, v4, v5, v6, v7, v8, v9, rfl, g0, g1, g2, g3, g4, g5, g6, g7, g8, g9⟩ := fA_10 hG
  clear hG
  obtain ⟨x0, rfl, b0, d0⟩ := fG_ref (by decide) g0
  obtain ⟨x1, rfl, b1, d1⟩ := aG_int g1
  dsimp only at b1 d1
  obtain ⟨x2, rfl, b2, d2⟩ := aG_int g2
  dsimp only at b2 d2
  obtain ⟨x3, rfl, b3, d3⟩ := aG_int g3
  dsimp only at b3 d3
  obtain ⟨x4, rfl, b4, d4⟩ := aG_int g4
  dsimp only at b4 d4
  obtain ⟨x5, rfl, b5, d5⟩ := aG_int g5
  dsimp only at b5 d5
  obtain ⟨x6, rfl, b6, d6⟩ := aG_int g6
  dsimp only at b6 d6
  obtain ⟨x7, rfl, b7, d7⟩ := aG_int g7
  dsimp only at b7 d7
  obtain ⟨x8, rfl, b8, d8⟩ := aG_int g8
  dsimp only at b8 d8
  obtain ⟨x9, rfl, b9, d9⟩ := fG_ref (by decide) g9
  obtain ⟨m1, m2, m3, m4⟩ := hM
  obtain ⟨a0, c0, fs0, w0, e1, s0, t0, e4⟩ := m1 (0, 0, 9) (List.mem_of_getElem? (i := 0) rfl)
  obtain rfl : x0 = a0 := Sum.inl.inj (Option.some.inj (Sum.inr.inj (Sum.inr.inj (Option.some.inj (show some (fR x0) = some _ from e1)))))
  obtain rfl : fR x9 = w0 := Option.some.inj (show some (fR x9) = some w0 from e4)
  clear e1 e4
  obtain ⟨a, mc0, ty0, gc0, ic0, e1, sc0, jc0, e4, e5⟩ := m2 (9, ([(5, 1)], 0), 6) (List.mem_of_getElem? (i := 0) rfl)
  obtain rfl : x9 = a := Sum.inl.inj (Option.some.inj (Sum.inr.inj (Sum.inr.inj (Option.some.inj (show some (fR x9) = some _ from e1)))))
  obtain ⟨gc0, rfl⟩ : ∃ g, gc0 = .inl g := by
    rcases gc0 with g | g
    · exact ⟨g, rfl⟩
    · exact absurd (show some (fI x6) = some (.inr (.inl (g ic0))) from e5) (fun h => by cases h)
  have sc0 : σ x9 = .inl (ty0, mc0, .inl gc0) := sc0
  have ec0 : x6 = gc0 ic0 := Sum.inl.inj (Option.some.inj (show some (fI x6) = some _ from e5))
  have kc0 : (ic0 : Int) = (1 * x5.toInt + 0) + 0 := by
    obtain ⟨z, e6, e7⟩ := e4
    obtain rfl : (1 * x5.toInt + 0) = z := Option.some.inj (show some (1 * x5.toInt + 0) = some z from e6)
    exact e7
  clear e1 e4 e5
  obtain rfl : ic0 = x5.toInt.toNat := by omega
  have l0 : 0 ≤ (1 * x6.toInt + (-8 * x2.toInt + (-1 * x7.toInt + 0))) + 0 := by
    obtain ⟨z, e6, e7⟩ := m3 ([(6, 1), (2, -8), (7, -1)], 0) (List.mem_of_getElem? (i := 0) rfl)
    obtain rfl : (1 * x6.toInt + (-8 * x2.toInt + (-1 * x7.toInt + 0))) = z := Option.some.inj (show some (1 * x6.toInt + (-8 * x2.toInt + (-1 * x7.toInt + 0))) = some z from e6)
    exact e7
  have l1 : 0 ≤ (-1 * x6.toInt + (8 * x2.toInt + (1 * x7.toInt + 0))) + 0 := by
    obtain ⟨z, e6, e7⟩ := m3 ([(6, -1), (2, 8), (7, 1)], 0) (List.mem_of_getElem? (i := 1) rfl)
    obtain rfl : (-1 * x6.toInt + (8 * x2.toInt + (1 * x7.toInt + 0))) = z := Option.some.inj (show some (-1 * x6.toInt + (8 * x2.toInt + (1 * x7.toInt + 0))) = some z from e6)
    exact e7
  have l2 : 0 ≤ (1 * x7.toInt + 0) + -4 := by
    obtain ⟨z, e6, e7⟩ := m3 ([(7, 1)], -4) (List.mem_of_getElem? (i := 2) rfl)
    obtain rfl : (1 * x7.toInt + 0) = z := Option.some.inj (show some (1 * x7.toInt + 0) = some z from e6)
    exact e7
  have l3 : 0 ≤ (-1 * x7.toInt + 0) + 4 := by
    obtain ⟨z, e6, e7⟩ := m3 ([(7, -1)], 4) (List.mem_of_getElem? (i := 3) rfl)
    obtain rfl : (-1 * x7.toInt + 0) = z := Option.some.inj (show some (-1 * x7.toInt + 0) = some z from e6)
    exact e7
  have f0 : fB K n p 202 [fR x0, fI x1, fI x2, fI x3, fI x4] σ := by
    obtain ⟨w, e6, e7⟩ := m4 (3237, [0, 1, 2, 3, 4]) (List.mem_of_getElem? (i := 0) rfl)
    obtain rfl : [fR x0, fI x1, fI x2, fI x3, fI x4] = w := Option.some.inj (show some [fR x0, fI x1, fI x2, fI x3, fI x4] = some w from e6)
    exact (fF_b (r := 3237) (by decide) rfl).mp e7
  have f1 : fB K n p 18 [fI x1, fI x3, fI x4, fI x5] σ := by
    obtain ⟨w, e6, e7⟩ := m4 (292, [1, 3, 4, 5]) (List.mem_of_getElem? (i := 1) rfl)
    obtain rfl : [fI x1, fI x3, fI x4, fI x5] = w := Option.some.inj (show some [fI x1, fI x3, fI x4, fI x5] = some w from e6)
    exact (fF_b (r := 292) (by decide) rfl).mp e7
  clear m1 m2 m3 m4
  obtain ⟨b9_0, g0, r9_0, e9_0, w0, y0_0, y0_1, y0_2, y0_3, e8_0, n0, r0, m0⟩ := (fH_o (by decide) (by decide)).mp f0
  cases e9_0
  cases e8_0
  obtain ⟨y1_0, y1_1, y1_2, y1_3, e9_1, h1, i1, t1_⟩ := f1
  cases e9_1
  obtain rfl := fMe_c w0 s0 t0 sc0
  have q0 : fB K n (p) 203 [fR x0, fI x1, fI x2, fI x8] σ := by
    refine (fH_o (by decide) (by decide)).mpr ⟨x0, g0, _, rfl, w0, x1, x2, x8, rfl, Or.inl ⟨by omega, Or.inr ⟨x3.toInt, by omega, by omega, x4.toInt, h1, i1, m0, ?_, ?_⟩⟩⟩
    · rw [← t1_, ← ec0]
      omega
    · rw [← t1_, ← ec0]
      unfold fHit
      omega
  exact ⟨p, fun _ => rfl, ⟨(fun q h => by cases h), fun q h => (by cases h), (fun f h => by cases h), (aAllc ⟨_, rfl, (fF_b (r := 3252) (by decide) rfl).mpr q0⟩ (fun f h => by cases h))⟩, [], List.mem_cons_self, fun f h => (by cases h)⟩
set_option maxRecDepth 8192 in
theorem rw_ruYR3 {K : Nat → Nat} {n : Nat} : aGho (fF K n) fa_T K n (fJX K n) ag_ruYR3 := by
  refine aGho_of ⟨rfl, rfl⟩ ?_
  intro p σ ρ hH hX hA hM
  have hG := aAG_of hA.1 (fun i e v he hv => (hA.2 i e v he hv).1)
  clear hA
  obtain ⟨v0, v1, v2, v3, v4, v5, v6, v7, v8, v9, rfl, g0, g1, g2, g3, g4, g5, g6, g7, g8, g9⟩ := fA_10 hG
  clear hG
  obtain ⟨x0, rfl, b0, d0⟩ := fG_ref (by decide) g0
  obtain ⟨x1, rfl, b1, d1⟩ := aG_int g1
  dsimp only at b1 d1
  obtain ⟨x2, rfl, b2, d2⟩ := aG_int g2
  dsimp only at b2 d2
  obtain ⟨x3, rfl, b3, d3⟩ := aG_int g3
  dsimp only at b3 d3
  obtain ⟨x4, rfl, b4, d4⟩ := aG_int g4
  dsimp only at b4 d4
  obtain ⟨x5, rfl, b5, d5⟩ := aG_int g5
  dsimp only at b5 d5
  obtain ⟨x6, rfl, b6, d6⟩ := aG_int g6
  dsimp only at b6 d6
  obtain ⟨x7, rfl, b7, d7⟩ := aG_int g7
  dsimp only at b7 d7
  obtain ⟨x8, rfl, b8, d8⟩ := aG_int g8
  dsimp only at b8 d8
  obtain ⟨x9, rfl, b9, d9⟩ := fG_ref (by decide) g9
  obtain ⟨m1, m2, m3, m4⟩ := hM
  obtain ⟨a0, c0, fs0, w0, e1, s0, t0, e4⟩ := m1 (0, 0, 9) (List.mem_of_getElem? (i := 0) rfl)
  obtain rfl : x0 = a0 := Sum.inl.inj (Option.some.inj (Sum.inr.inj (Sum.inr.inj (Option.some.inj (show some (fR x0) = some _ from e1)))))
  obtain rfl : fR x9 = w0 := Option.some.inj (show some (fR x9) = some w0 from e4)
  clear e1 e4
  obtain ⟨a, mc0, ty0, gc0, ic0, e1, sc0, jc0, e4, e5⟩ := m2 (9, ([(5, 1)], 0), 6) (List.mem_of_getElem? (i := 0) rfl)
  obtain rfl : x9 = a := Sum.inl.inj (Option.some.inj (Sum.inr.inj (Sum.inr.inj (Option.some.inj (show some (fR x9) = some _ from e1)))))
  obtain ⟨gc0, rfl⟩ : ∃ g, gc0 = .inl g := by
    rcases gc0 with g | g
    · exact ⟨g, rfl⟩
    · exact absurd (show some (fI x6) = some (.inr (.inl (g ic0))) from e5) (fun h => by cases h)
  have sc0 : σ x9 = .inl (ty0, mc0, .inl gc0) := sc0
  have ec0 : x6 = gc0 ic0 := Sum.inl.inj (Option.some.inj (show some (fI x6) = some _ from e5))
  have kc0 : (ic0 : Int) = (1 * x5.toInt + 0) + 0 := by
    obtain ⟨z, e6, e7⟩ := e4
    obtain rfl : (1 * x5.toInt + 0) = z := Option.some.inj (show some (1 * x5.toInt + 0) = some z from e6)
    exact e7
  clear e1 e4 e5
  obtain rfl : ic0 = x5.toInt.toNat := by omega
  have l0 : 0 ≤ (1 * x6.toInt + (-8 * x2.toInt + (-1 * x7.toInt + 0))) + 0 := by
    obtain ⟨z, e6, e7⟩ := m3 ([(6, 1), (2, -8), (7, -1)], 0) (List.mem_of_getElem? (i := 0) rfl)
    obtain rfl : (1 * x6.toInt + (-8 * x2.toInt + (-1 * x7.toInt + 0))) = z := Option.some.inj (show some (1 * x6.toInt + (-8 * x2.toInt + (-1 * x7.toInt + 0))) = some z from e6)
    exact e7
  have l1 : 0 ≤ (-1 * x6.toInt + (8 * x2.toInt + (1 * x7.toInt + 0))) + 0 := by
    obtain ⟨z, e6, e7⟩ := m3 ([(6, -1), (2, 8), (7, 1)], 0) (List.mem_of_getElem? (i := 1) rfl)
    obtain rfl : (-1 * x6.toInt + (8 * x2.toInt + (1 * x7.toInt + 0))) = z := Option.some.inj (show some (-1 * x6.toInt + (8 * x2.toInt + (1 * x7.toInt + 0))) = some z from e6)
    exact e7
  have l2 : 0 ≤ (1 * x7.toInt + 0) + -3 := by
    obtain ⟨z, e6, e7⟩ := m3 ([(7, 1)], -3) (List.mem_of_getElem? (i := 2) rfl)
    obtain rfl : (1 * x7.toInt + 0) = z := Option.some.inj (show some (1 * x7.toInt + 0) = some z from e6)
    exact e7
  have l3 : 0 ≤ (-1 * x7.toInt + 0) + 3 := by
    obtain ⟨z, e6, e7⟩ := m3 ([(7, -1)], 3) (List.mem_of_getElem? (i := 3) rfl)
    obtain rfl : (-1 * x7.toInt + 0) = z := Option.some.inj (show some (-1 * x7.toInt + 0) = some z from e6)
    exact e7
  have f0 : fB K n p 202 [fR x0, fI x1, fI x2, fI x3, fI x4] σ := by
    obtain ⟨w, e6, e7⟩ := m4 (3237, [0, 1, 2, 3, 4]) (List.mem_of_getElem? (i := 0) rfl)
    obtain rfl : [fR x0, fI x1, fI x2, fI x3, fI x4] = w := Option.some.inj (show some [fR x0, fI x1, fI x2, fI x3, fI x4] = some w from e6)
    exact (fF_b (r := 3237) (by decide) rfl).mp e7
  have f1 : fB K n p 18 [fI x1, fI x3, fI x4, fI x5] σ := by
    obtain ⟨w, e6, e7⟩ := m4 (292, [1, 3, 4, 5]) (List.mem_of_getElem? (i := 1) rfl)
    obtain rfl : [fI x1, fI x3, fI x4, fI x5] = w := Option.some.inj (show some [fI x1, fI x3, fI x4, fI x5] = some w from e6)
    exact (fF_b (r := 292) (by decide) rfl).mp e7
  clear m1 m2 m3 m4
  obtain ⟨b9_0, g0, r9_0, e9_0, w0, y0_0, y0_1, y0_2, y0_3, e8_0, n0, r0, m0⟩ := (fH_o (by decide) (by decide)).mp f0
  cases e9_0
  cases e8_0
  obtain ⟨y1_0, y1_1, y1_2, y1_3, e9_1, h1, i1, t1_⟩ := f1
  cases e9_1
  obtain rfl := fMe_c w0 s0 t0 sc0
  have q0 : fB K n (p) 203 [fR x0, fI x1, fI x2, fI x8] σ := by
    refine (fH_o (by decide) (by decide)).mpr ⟨x0, g0, _, rfl, w0, x1, x2, x8, rfl, Or.inl ⟨by omega, Or.inr ⟨x3.toInt, by omega, by omega, x4.toInt, h1, i1, m0, ?_, ?_⟩⟩⟩
    · rw [← t1_, ← ec0]
      omega
    · rw [← t1_, ← ec0]
      unfold fHit
      omega
  exact ⟨p, fun _ => rfl, ⟨(fun q h => by cases h), fun q h => (by cases h), (fun f h => by cases h), (aAllc ⟨_, rfl, (fF_b (r := 3252) (by decide) rfl).mpr q0⟩ (fun f h => by cases h))⟩, [], List.mem_cons_self, fun f h => (by cases h)⟩
set_option maxRecDepth 8192 in
theorem rw_ruYR6 {K : Nat → Nat} {n : Nat} : aGho (fF K n) fa_T K n (fJX K n) ag_ruYR6 := by
  refine aGho_of ⟨rfl, rfl⟩ ?_
  intro p σ ρ hH hX hA hM
  have hG := aAG_of hA.1 (fun i e v he hv => (hA.2 i e v he hv).1)
  clear hA
  obtain ⟨v0, v1, v2, v3, v4, v5, v6, v7, v8, v9, rfl, g0, g1, g2, g3, g4, g5, g6, g7, g8, g9⟩ := fA_10 hG
  clear hG
  obtain ⟨x0, rfl, b0, d0⟩ := fG_ref (by decide) g0
  obtain ⟨x1, rfl, b1, d1⟩ := aG_int g1
  dsimp only at b1 d1
  obtain ⟨x2, rfl, b2, d2⟩ := aG_int g2
  dsimp only at b2 d2
  obtain ⟨x3, rfl, b3, d3⟩ := aG_int g3
  dsimp only at b3 d3
  obtain ⟨x4, rfl, b4, d4⟩ := aG_int g4
  dsimp only at b4 d4
  obtain ⟨x5, rfl, b5, d5⟩ := aG_int g5
  dsimp only at b5 d5
  obtain ⟨x6, rfl, b6, d6⟩ := aG_int g6
  dsimp only at b6 d6
  obtain ⟨x7, rfl, b7, d7⟩ := aG_int g7
  dsimp only at b7 d7
  obtain ⟨x8, rfl, b8, d8⟩ := aG_int g8
  dsimp only at b8 d8
  obtain ⟨x9, rfl, b9, d9⟩ := fG_ref (by decide) g9
  obtain ⟨m1, m2, m3, m4⟩ := hM
  obtain ⟨a0, c0, fs0, w0, e1, s0, t0, e4⟩ := m1 (0, 0, 9) (List.mem_of_getElem? (i := 0) rfl)
  obtain rfl : x0 = a0 := Sum.inl.inj (Option.some.inj (Sum.inr.inj (Sum.inr.inj (Option.some.inj (show some (fR x0) = some _ from e1)))))
  obtain rfl : fR x9 = w0 := Option.some.inj (show some (fR x9) = some w0 from e4)
  clear e1 e4
  obtain ⟨a, mc0, ty0, gc0, ic0, e1, sc0, jc0, e4, e5⟩ := m2 (9, ([(5, 1)], 0), 6) (List.mem_of_getElem? (i := 0) rfl)
  obtain rfl : x9 = a := Sum.inl.inj (Option.some.inj (Sum.inr.inj (Sum.inr.inj (Option.some.inj (show some (fR x9) = some _ from e1)))))
  obtain ⟨gc0, rfl⟩ : ∃ g, gc0 = .inl g := by
    rcases gc0 with g | g
    · exact ⟨g, rfl⟩
    · exact absurd (show some (fI x6) = some (.inr (.inl (g ic0))) from e5) (fun h => by cases h)
  have sc0 : σ x9 = .inl (ty0, mc0, .inl gc0) := sc0
  have ec0 : x6 = gc0 ic0 := Sum.inl.inj (Option.some.inj (show some (fI x6) = some _ from e5))
  have kc0 : (ic0 : Int) = (1 * x5.toInt + 0) + 0 := by
    obtain ⟨z, e6, e7⟩ := e4
    obtain rfl : (1 * x5.toInt + 0) = z := Option.some.inj (show some (1 * x5.toInt + 0) = some z from e6)
    exact e7
  clear e1 e4 e5
  obtain rfl : ic0 = x5.toInt.toNat := by omega
  have l0 : 0 ≤ (1 * x6.toInt + (-8 * x2.toInt + (-1 * x7.toInt + 0))) + 0 := by
    obtain ⟨z, e6, e7⟩ := m3 ([(6, 1), (2, -8), (7, -1)], 0) (List.mem_of_getElem? (i := 0) rfl)
    obtain rfl : (1 * x6.toInt + (-8 * x2.toInt + (-1 * x7.toInt + 0))) = z := Option.some.inj (show some (1 * x6.toInt + (-8 * x2.toInt + (-1 * x7.toInt + 0))) = some z from e6)
    exact e7
  have l1 : 0 ≤ (-1 * x6.toInt + (8 * x2.toInt + (1 * x7.toInt + 0))) + 0 := by
    obtain ⟨z, e6, e7⟩ := m3 ([(6, -1), (2, 8), (7, 1)], 0) (List.mem_of_getElem? (i := 1) rfl)
    obtain rfl : (-1 * x6.toInt + (8 * x2.toInt + (1 * x7.toInt + 0))) = z := Option.some.inj (show some (-1 * x6.toInt + (8 * x2.toInt + (1 * x7.toInt + 0))) = some z from e6)
    exact e7
  have l2 : 0 ≤ (1 * x7.toInt + 0) + -6 := by
    obtain ⟨z, e6, e7⟩ := m3 ([(7, 1)], -6) (List.mem_of_getElem? (i := 2) rfl)
    obtain rfl : (1 * x7.toInt + 0) = z := Option.some.inj (show some (1 * x7.toInt + 0) = some z from e6)
    exact e7
  have l3 : 0 ≤ (-1 * x7.toInt + 0) + 6 := by
    obtain ⟨z, e6, e7⟩ := m3 ([(7, -1)], 6) (List.mem_of_getElem? (i := 3) rfl)
    obtain rfl : (-1 * x7.toInt + 0) = z := Option.some.inj (show some (-1 * x7.toInt + 0) = some z from e6)
    exact e7
  have f0 : fB K n p 202 [fR x0, fI x1, fI x2, fI x3, fI x4] σ := by
    obtain ⟨w, e6, e7⟩ := m4 (3237, [0, 1, 2, 3, 4]) (List.mem_of_getElem? (i := 0) rfl)
    obtain rfl : [fR x0, fI x1, fI x2, fI x3, fI x4] = w := Option.some.inj (show some [fR x0, fI x1, fI x2, fI x3, fI x4] = some w from e6)
    exact (fF_b (r := 3237) (by decide) rfl).mp e7
  have f1 : fB K n p 18 [fI x1, fI x3, fI x4, fI x5] σ := by
    obtain ⟨w, e6, e7⟩ := m4 (292, [1, 3, 4, 5]) (List.mem_of_getElem? (i := 1) rfl)
    obtain rfl : [fI x1, fI x3, fI x4, fI x5] = w := Option.some.inj (show some [fI x1, fI x3, fI x4, fI x5] = some w from e6)
    exact (fF_b (r := 292) (by decide) rfl).mp e7
  clear m1 m2 m3 m4
  obtain ⟨b9_0, g0, r9_0, e9_0, w0, y0_0, y0_1, y0_2, y0_3, e8_0, n0, r0, m0⟩ := (fH_o (by decide) (by decide)).mp f0
  cases e9_0
  cases e8_0
  obtain ⟨y1_0, y1_1, y1_2, y1_3, e9_1, h1, i1, t1_⟩ := f1
  cases e9_1
  obtain rfl := fMe_c w0 s0 t0 sc0
  have q0 : fB K n (p) 203 [fR x0, fI x1, fI x2, fI x8] σ := by
    refine (fH_o (by decide) (by decide)).mpr ⟨x0, g0, _, rfl, w0, x1, x2, x8, rfl, Or.inl ⟨by omega, Or.inr ⟨x3.toInt, by omega, by omega, x4.toInt, h1, i1, m0, ?_, ?_⟩⟩⟩
    · rw [← t1_, ← ec0]
      omega
    · rw [← t1_, ← ec0]
      unfold fHit
      omega
  exact ⟨p, fun _ => rfl, ⟨(fun q h => by cases h), fun q h => (by cases h), (fun f h => by cases h), (aAllc ⟨_, rfl, (fF_b (r := 3252) (by decide) rfl).mpr q0⟩ (fun f h => by cases h))⟩, [], List.mem_cons_self, fun f h => (by cases h)⟩
set_option maxRecDepth 8192 in
theorem rw_ruYR1a {K : Nat → Nat} {n : Nat} : aGho (fF K n) fa_T K n (fJX K n) ag_ruYR1a := by
  refine aGho_of ⟨rfl, rfl⟩ ?_
  intro p σ ρ hH hX hA hM
  have hG := aAG_of hA.1 (fun i e v he hv => (hA.2 i e v he hv).1)
  clear hA
  obtain ⟨v0, v1, v2, v3, v4, v5, v6, v7, v8, v9, v10, rfl, g0, g1, g2, g3, g4, g5, g6, g7, g8, g9, g10⟩ := fA_11 hG
  clear hG
  obtain ⟨x0, rfl, b0, d0⟩ := fG_ref (by decide) g0
  obtain ⟨x1, rfl, b1, d1⟩ := aG_int g1
  dsimp only at b1 d1
  obtain ⟨x2, rfl, b2, d2⟩ := aG_int g2
  dsimp only at b2 d2
  obtain ⟨x3, rfl, b3, d3⟩ := aG_int g3
  dsimp only at b3 d3
  obtain ⟨x4, rfl, b4, d4⟩ := aG_int g4
  dsimp only at b4 d4
  obtain ⟨x5, rfl, b5, d5⟩ := aG_int g5
  dsimp only at b5 d5
  obtain ⟨x6, rfl, b6, d6⟩ := aG_int g6
  dsimp only at b6 d6
  obtain ⟨x7, rfl, b7, d7⟩ := aG_int g7
  dsimp only at b7 d7
  obtain ⟨x8, rfl, b8, d8⟩ := aG_int g8
  dsimp only at b8 d8
  obtain ⟨x9, rfl, b9, d9⟩ := aG_int g9
  dsimp only at b9 d9
  obtain ⟨x10, rfl, b10, d10⟩ := fG_ref (by decide) g10
  obtain ⟨m1, m2, m3, m4⟩ := hM
  obtain ⟨a0, c0, fs0, w0, e1, s0, t0, e4⟩ := m1 (0, 0, 10) (List.mem_of_getElem? (i := 0) rfl)
  obtain rfl : x0 = a0 := Sum.inl.inj (Option.some.inj (Sum.inr.inj (Sum.inr.inj (Option.some.inj (show some (fR x0) = some _ from e1)))))
  obtain rfl : fR x10 = w0 := Option.some.inj (show some (fR x10) = some w0 from e4)
  clear e1 e4
  obtain ⟨a, mc0, ty0, gc0, ic0, e1, sc0, jc0, e4, e5⟩ := m2 (10, ([(5, 1)], 0), 6) (List.mem_of_getElem? (i := 0) rfl)
  obtain rfl : x10 = a := Sum.inl.inj (Option.some.inj (Sum.inr.inj (Sum.inr.inj (Option.some.inj (show some (fR x10) = some _ from e1)))))
  obtain ⟨gc0, rfl⟩ : ∃ g, gc0 = .inl g := by
    rcases gc0 with g | g
    · exact ⟨g, rfl⟩
    · exact absurd (show some (fI x6) = some (.inr (.inl (g ic0))) from e5) (fun h => by cases h)
  have sc0 : σ x10 = .inl (ty0, mc0, .inl gc0) := sc0
  have ec0 : x6 = gc0 ic0 := Sum.inl.inj (Option.some.inj (show some (fI x6) = some _ from e5))
  have kc0 : (ic0 : Int) = (1 * x5.toInt + 0) + 0 := by
    obtain ⟨z, e6, e7⟩ := e4
    obtain rfl : (1 * x5.toInt + 0) = z := Option.some.inj (show some (1 * x5.toInt + 0) = some z from e6)
    exact e7
  clear e1 e4 e5
  obtain rfl : ic0 = x5.toInt.toNat := by omega
  have l0 : 0 ≤ (1 * x6.toInt + (-8 * x2.toInt + (-1 * x7.toInt + 0))) + 0 := by
    obtain ⟨z, e6, e7⟩ := m3 ([(6, 1), (2, -8), (7, -1)], 0) (List.mem_of_getElem? (i := 0) rfl)
    obtain rfl : (1 * x6.toInt + (-8 * x2.toInt + (-1 * x7.toInt + 0))) = z := Option.some.inj (show some (1 * x6.toInt + (-8 * x2.toInt + (-1 * x7.toInt + 0))) = some z from e6)
    exact e7
  have l1 : 0 ≤ (-1 * x6.toInt + (8 * x2.toInt + (1 * x7.toInt + 0))) + 0 := by
    obtain ⟨z, e6, e7⟩ := m3 ([(6, -1), (2, 8), (7, 1)], 0) (List.mem_of_getElem? (i := 1) rfl)
    obtain rfl : (-1 * x6.toInt + (8 * x2.toInt + (1 * x7.toInt + 0))) = z := Option.some.inj (show some (-1 * x6.toInt + (8 * x2.toInt + (1 * x7.toInt + 0))) = some z from e6)
    exact e7
  have l2 : 0 ≤ (1 * x7.toInt + 0) + -1 := by
    obtain ⟨z, e6, e7⟩ := m3 ([(7, 1)], -1) (List.mem_of_getElem? (i := 2) rfl)
    obtain rfl : (1 * x7.toInt + 0) = z := Option.some.inj (show some (1 * x7.toInt + 0) = some z from e6)
    exact e7
  have l3 : 0 ≤ (-1 * x7.toInt + 0) + 1 := by
    obtain ⟨z, e6, e7⟩ := m3 ([(7, -1)], 1) (List.mem_of_getElem? (i := 3) rfl)
    obtain rfl : (-1 * x7.toInt + 0) = z := Option.some.inj (show some (-1 * x7.toInt + 0) = some z from e6)
    exact e7
  have f0 : fB K n p 202 [fR x0, fI x1, fI x2, fI x3, fI x4] σ := by
    obtain ⟨w, e6, e7⟩ := m4 (3237, [0, 1, 2, 3, 4]) (List.mem_of_getElem? (i := 0) rfl)
    obtain rfl : [fR x0, fI x1, fI x2, fI x3, fI x4] = w := Option.some.inj (show some [fR x0, fI x1, fI x2, fI x3, fI x4] = some w from e6)
    exact (fF_b (r := 3237) (by decide) rfl).mp e7
  have f1 : fB K n p 18 [fI x1, fI x3, fI x4, fI x5] σ := by
    obtain ⟨w, e6, e7⟩ := m4 (292, [1, 3, 4, 5]) (List.mem_of_getElem? (i := 1) rfl)
    obtain rfl : [fI x1, fI x3, fI x4, fI x5] = w := Option.some.inj (show some [fI x1, fI x3, fI x4, fI x5] = some w from e6)
    exact (fF_b (r := 292) (by decide) rfl).mp e7
  have f2 : fB K n p 22 [fI x3, fI x8] σ := by
    obtain ⟨w, e6, e7⟩ := m4 (354, [3, 8]) (List.mem_of_getElem? (i := 2) rfl)
    obtain rfl : [fI x3, fI x8] = w := Option.some.inj (show some [fI x3, fI x8] = some w from e6)
    exact (fF_b (r := 354) (by decide) rfl).mp e7
  clear m1 m2 m3 m4
  obtain ⟨b9_0, g0, r9_0, e9_0, w0, y0_0, y0_1, y0_2, y0_3, e8_0, n0, r0, m0⟩ := (fH_o (by decide) (by decide)).mp f0
  cases e9_0
  cases e8_0
  obtain ⟨y1_0, y1_1, y1_2, y1_3, e9_1, h1, i1, t1_⟩ := f1
  cases e9_1
  obtain ⟨y2_0, y2_1, e9_2, h2⟩ := f2
  cases e9_2
  obtain rfl := fMe_c w0 s0 t0 sc0
  have q0 : fB K n (p) 203 [fR x0, fI x1, fI x2, fI x9] σ := by
    refine (fH_o (by decide) (by decide)).mpr ⟨x0, g0, _, rfl, w0, x1, x2, x9, rfl, Or.inl ⟨by omega, Or.inr ⟨x3.toInt, by omega, by omega, x4.toInt, h1, i1, m0, ?_, ?_⟩⟩⟩
    · rw [← t1_, ← ec0]
      omega
    · rw [← t1_, ← ec0]
      unfold fHit
      omega
  exact ⟨p, fun _ => rfl, ⟨(fun q h => by cases h), fun q h => (by cases h), (fun f h => by cases h), (aAllc ⟨_, rfl, (fF_b (r := 3252) (by decide) rfl).mpr q0⟩ (fun f h => by cases h))⟩, [], List.mem_cons_self, fun f h => (by cases h)⟩
set_option maxRecDepth 8192 in
theorem rw_ruYR1b {K : Nat → Nat} {n : Nat} : aGho (fF K n) fa_T K n (fJX K n) ag_ruYR1b := by
  refine aGho_of ⟨rfl, rfl⟩ ?_
  intro p σ ρ hH hX hA hM
  have hG := aAG_of hA.1 (fun i e v he hv => (hA.2 i e v he hv).1)
  clear hA
  obtain ⟨v0, v1, v2, v3, v4, v5, v6, v7, v8, v9, v10, rfl, g0, g1, g2, g3, g4, g5, g6, g7, g8, g9, g10⟩ := fA_11 hG
  clear hG
  obtain ⟨x0, rfl, b0, d0⟩ := fG_ref (by decide) g0
  obtain ⟨x1, rfl, b1, d1⟩ := aG_int g1
  dsimp only at b1 d1
  obtain ⟨x2, rfl, b2, d2⟩ := aG_int g2
  dsimp only at b2 d2
  obtain ⟨x3, rfl, b3, d3⟩ := aG_int g3
  dsimp only at b3 d3
  obtain ⟨x4, rfl, b4, d4⟩ := aG_int g4
  dsimp only at b4 d4
  obtain ⟨x5, rfl, b5, d5⟩ := aG_int g5
  dsimp only at b5 d5
  obtain ⟨x6, rfl, b6, d6⟩ := aG_int g6
  dsimp only at b6 d6
  obtain ⟨x7, rfl, b7, d7⟩ := aG_int g7
  dsimp only at b7 d7
  obtain ⟨x8, rfl, b8, d8⟩ := aG_int g8
  dsimp only at b8 d8
  obtain ⟨x9, rfl, b9, d9⟩ := aG_int g9
  dsimp only at b9 d9
  obtain ⟨x10, rfl, b10, d10⟩ := fG_ref (by decide) g10
  obtain ⟨m1, m2, m3, m4⟩ := hM
  obtain ⟨a0, c0, fs0, w0, e1, s0, t0, e4⟩ := m1 (0, 0, 10) (List.mem_of_getElem? (i := 0) rfl)
  obtain rfl : x0 = a0 := Sum.inl.inj (Option.some.inj (Sum.inr.inj (Sum.inr.inj (Option.some.inj (show some (fR x0) = some _ from e1)))))
  obtain rfl : fR x10 = w0 := Option.some.inj (show some (fR x10) = some w0 from e4)
  clear e1 e4
  obtain ⟨a, mc0, ty0, gc0, ic0, e1, sc0, jc0, e4, e5⟩ := m2 (10, ([(5, 1)], 0), 6) (List.mem_of_getElem? (i := 0) rfl)
  obtain rfl : x10 = a := Sum.inl.inj (Option.some.inj (Sum.inr.inj (Sum.inr.inj (Option.some.inj (show some (fR x10) = some _ from e1)))))
  obtain ⟨gc0, rfl⟩ : ∃ g, gc0 = .inl g := by
    rcases gc0 with g | g
    · exact ⟨g, rfl⟩
    · exact absurd (show some (fI x6) = some (.inr (.inl (g ic0))) from e5) (fun h => by cases h)
  have sc0 : σ x10 = .inl (ty0, mc0, .inl gc0) := sc0
  have ec0 : x6 = gc0 ic0 := Sum.inl.inj (Option.some.inj (show some (fI x6) = some _ from e5))
  have kc0 : (ic0 : Int) = (1 * x5.toInt + 0) + 0 := by
    obtain ⟨z, e6, e7⟩ := e4
    obtain rfl : (1 * x5.toInt + 0) = z := Option.some.inj (show some (1 * x5.toInt + 0) = some z from e6)
    exact e7
  clear e1 e4 e5
  obtain rfl : ic0 = x5.toInt.toNat := by omega
  have l0 : 0 ≤ (1 * x6.toInt + (-8 * x2.toInt + (-1 * x7.toInt + 0))) + 0 := by
    obtain ⟨z, e6, e7⟩ := m3 ([(6, 1), (2, -8), (7, -1)], 0) (List.mem_of_getElem? (i := 0) rfl)
    obtain rfl : (1 * x6.toInt + (-8 * x2.toInt + (-1 * x7.toInt + 0))) = z := Option.some.inj (show some (1 * x6.toInt + (-8 * x2.toInt + (-1 * x7.toInt + 0))) = some z from e6)
    exact e7
  have l1 : 0 ≤ (-1 * x6.toInt + (8 * x2.toInt + (1 * x7.toInt + 0))) + 0 := by
    obtain ⟨z, e6, e7⟩ := m3 ([(6, -1), (2, 8), (7, 1)], 0) (List.mem_of_getElem? (i := 1) rfl)
    obtain rfl : (-1 * x6.toInt + (8 * x2.toInt + (1 * x7.toInt + 0))) = z := Option.some.inj (show some (-1 * x6.toInt + (8 * x2.toInt + (1 * x7.toInt + 0))) = some z from e6)
    exact e7
  have l2 : 0 ≤ (1 * x7.toInt + 0) + -1 := by
    obtain ⟨z, e6, e7⟩ := m3 ([(7, 1)], -1) (List.mem_of_getElem? (i := 2) rfl)
    obtain rfl : (1 * x7.toInt + 0) = z := Option.some.inj (show some (1 * x7.toInt + 0) = some z from e6)
    exact e7
  have l3 : 0 ≤ (-1 * x7.toInt + 0) + 1 := by
    obtain ⟨z, e6, e7⟩ := m3 ([(7, -1)], 1) (List.mem_of_getElem? (i := 3) rfl)
    obtain rfl : (-1 * x7.toInt + 0) = z := Option.some.inj (show some (-1 * x7.toInt + 0) = some z from e6)
    exact e7
  have f0 : fB K n p 202 [fR x0, fI x1, fI x2, fI x3, fI x4] σ := by
    obtain ⟨w, e6, e7⟩ := m4 (3237, [0, 1, 2, 3, 4]) (List.mem_of_getElem? (i := 0) rfl)
    obtain rfl : [fR x0, fI x1, fI x2, fI x3, fI x4] = w := Option.some.inj (show some [fR x0, fI x1, fI x2, fI x3, fI x4] = some w from e6)
    exact (fF_b (r := 3237) (by decide) rfl).mp e7
  have f1 : fB K n p 18 [fI x1, fI x3, fI x4, fI x5] σ := by
    obtain ⟨w, e6, e7⟩ := m4 (292, [1, 3, 4, 5]) (List.mem_of_getElem? (i := 1) rfl)
    obtain rfl : [fI x1, fI x3, fI x4, fI x5] = w := Option.some.inj (show some [fI x1, fI x3, fI x4, fI x5] = some w from e6)
    exact (fF_b (r := 292) (by decide) rfl).mp e7
  have f2 : fB K n p 22 [fI x3, fI x8] σ := by
    obtain ⟨w, e6, e7⟩ := m4 (354, [3, 8]) (List.mem_of_getElem? (i := 2) rfl)
    obtain rfl : [fI x3, fI x8] = w := Option.some.inj (show some [fI x3, fI x8] = some w from e6)
    exact (fF_b (r := 354) (by decide) rfl).mp e7
  clear m1 m2 m3 m4
  obtain ⟨b9_0, g0, r9_0, e9_0, w0, y0_0, y0_1, y0_2, y0_3, e8_0, n0, r0, m0⟩ := (fH_o (by decide) (by decide)).mp f0
  cases e9_0
  cases e8_0
  obtain ⟨y1_0, y1_1, y1_2, y1_3, e9_1, h1, i1, t1_⟩ := f1
  cases e9_1
  obtain ⟨y2_0, y2_1, e9_2, h2⟩ := f2
  cases e9_2
  obtain rfl := fMe_c w0 s0 t0 sc0
  have q0 : fB K n (p) 203 [fR x0, fI x1, fI x2, fI x9] σ := by
    refine (fH_o (by decide) (by decide)).mpr ⟨x0, g0, _, rfl, w0, x1, x2, x9, rfl, Or.inl ⟨by omega, Or.inr ⟨x3.toInt, by omega, by omega, x4.toInt, h1, i1, m0, ?_, ?_⟩⟩⟩
    · rw [← t1_, ← ec0]
      omega
    · rw [← t1_, ← ec0]
      unfold fHit
      omega
  exact ⟨p, fun _ => rfl, ⟨(fun q h => by cases h), fun q h => (by cases h), (fun f h => by cases h), (aAllc ⟨_, rfl, (fF_b (r := 3252) (by decide) rfl).mpr q0⟩ (fun f h => by cases h))⟩, [], List.mem_cons_self, fun f h => (by cases h)⟩
set_option maxRecDepth 8192 in
theorem rw_ruNR0 {K : Nat → Nat} {n : Nat} : aGho (fF K n) fa_T K n (fJX K n) ag_ruNR0 := by
  refine aGho_of ⟨rfl, rfl⟩ ?_
  intro p σ ρ hH hX hA hM
  have hG := aAG_of hA.1 (fun i e v he hv => (hA.2 i e v he hv).1)
  clear hA
  obtain ⟨v0, v1, v2, v3, v4, v5, v6, v7, v8, rfl, g0, g1, g2, g3, g4, g5, g6, g7, g8⟩ := fA_9 hG
  clear hG
  obtain ⟨x0, rfl, b0, d0⟩ := fG_ref (by decide) g0
  obtain ⟨x1, rfl, b1, d1⟩ := aG_int g1
  dsimp only at b1 d1
  obtain ⟨x2, rfl, b2, d2⟩ := aG_int g2
  dsimp only at b2 d2
  obtain ⟨x3, rfl, b3, d3⟩ := aG_int g3
  dsimp only at b3 d3
  obtain ⟨x4, rfl, b4, d4⟩ := aG_int g4
  dsimp only at b4 d4
  obtain ⟨x5, rfl, b5, d5⟩ := aG_int g5
  dsimp only at b5 d5
  obtain ⟨x6, rfl, b6, d6⟩ := aG_int g6
  dsimp only at b6 d6
  obtain ⟨x7, rfl, b7, d7⟩ := aG_int g7
  dsimp only at b7 d7
  obtain ⟨x8, rfl, b8, d8⟩ := fG_ref (by decide) g8
  obtain ⟨m1, m2, m3, m4⟩ := hM
  obtain ⟨a0, c0, fs0, w0, e1, s0, t0, e4⟩ := m1 (0, 0, 8) (List.mem_of_getElem? (i := 0) rfl)
  obtain rfl : x0 = a0 := Sum.inl.inj (Option.some.inj (Sum.inr.inj (Sum.inr.inj (Option.some.inj (show some (fR x0) = some _ from e1)))))
  obtain rfl : fR x8 = w0 := Option.some.inj (show some (fR x8) = some w0 from e4)
  clear e1 e4
  obtain ⟨a, mc0, ty0, gc0, ic0, e1, sc0, jc0, e4, e5⟩ := m2 (8, ([(5, 1)], 0), 6) (List.mem_of_getElem? (i := 0) rfl)
  obtain rfl : x8 = a := Sum.inl.inj (Option.some.inj (Sum.inr.inj (Sum.inr.inj (Option.some.inj (show some (fR x8) = some _ from e1)))))
  obtain ⟨gc0, rfl⟩ : ∃ g, gc0 = .inl g := by
    rcases gc0 with g | g
    · exact ⟨g, rfl⟩
    · exact absurd (show some (fI x6) = some (.inr (.inl (g ic0))) from e5) (fun h => by cases h)
  have sc0 : σ x8 = .inl (ty0, mc0, .inl gc0) := sc0
  have ec0 : x6 = gc0 ic0 := Sum.inl.inj (Option.some.inj (show some (fI x6) = some _ from e5))
  have kc0 : (ic0 : Int) = (1 * x5.toInt + 0) + 0 := by
    obtain ⟨z, e6, e7⟩ := e4
    obtain rfl : (1 * x5.toInt + 0) = z := Option.some.inj (show some (1 * x5.toInt + 0) = some z from e6)
    exact e7
  clear e1 e4 e5
  obtain rfl : ic0 = x5.toInt.toNat := by omega
  have l0 : 0 ≤ (1 * x6.toInt + (-8 * x2.toInt + (-1 * x7.toInt + 0))) + 0 := by
    obtain ⟨z, e6, e7⟩ := m3 ([(6, 1), (2, -8), (7, -1)], 0) (List.mem_of_getElem? (i := 0) rfl)
    obtain rfl : (1 * x6.toInt + (-8 * x2.toInt + (-1 * x7.toInt + 0))) = z := Option.some.inj (show some (1 * x6.toInt + (-8 * x2.toInt + (-1 * x7.toInt + 0))) = some z from e6)
    exact e7
  have l1 : 0 ≤ (-1 * x6.toInt + (8 * x2.toInt + (1 * x7.toInt + 0))) + 0 := by
    obtain ⟨z, e6, e7⟩ := m3 ([(6, -1), (2, 8), (7, 1)], 0) (List.mem_of_getElem? (i := 1) rfl)
    obtain rfl : (-1 * x6.toInt + (8 * x2.toInt + (1 * x7.toInt + 0))) = z := Option.some.inj (show some (-1 * x6.toInt + (8 * x2.toInt + (1 * x7.toInt + 0))) = some z from e6)
    exact e7
  have l2 : 0 ≤ (1 * x7.toInt + 0) + 0 := by
    obtain ⟨z, e6, e7⟩ := m3 ([(7, 1)], 0) (List.mem_of_getElem? (i := 2) rfl)
    obtain rfl : (1 * x7.toInt + 0) = z := Option.some.inj (show some (1 * x7.toInt + 0) = some z from e6)
    exact e7
  have l3 : 0 ≤ (-1 * x7.toInt + 0) + 0 := by
    obtain ⟨z, e6, e7⟩ := m3 ([(7, -1)], 0) (List.mem_of_getElem? (i := 3) rfl)
    obtain rfl : (-1 * x7.toInt + 0) = z := Option.some.inj (show some (-1 * x7.toInt + 0) = some z from e6)
    exact e7
  have f0 : fB K n p 202 [fR x0, fI x1, fI x2, fI x3, fI x4] σ := by
    obtain ⟨w, e6, e7⟩ := m4 (3237, [0, 1, 2, 3, 4]) (List.mem_of_getElem? (i := 0) rfl)
    obtain rfl : [fR x0, fI x1, fI x2, fI x3, fI x4] = w := Option.some.inj (show some [fR x0, fI x1, fI x2, fI x3, fI x4] = some w from e6)
    exact (fF_b (r := 3237) (by decide) rfl).mp e7
  have f1 : fB K n p 18 [fI x1, fI x3, fI x4, fI x5] σ := by
    obtain ⟨w, e6, e7⟩ := m4 (292, [1, 3, 4, 5]) (List.mem_of_getElem? (i := 1) rfl)
    obtain rfl : [fI x1, fI x3, fI x4, fI x5] = w := Option.some.inj (show some [fI x1, fI x3, fI x4, fI x5] = some w from e6)
    exact (fF_b (r := 292) (by decide) rfl).mp e7
  clear m1 m2 m3 m4
  obtain ⟨b9_0, g0, r9_0, e9_0, w0, y0_0, y0_1, y0_2, y0_3, e8_0, n0, r0, m0⟩ := (fH_o (by decide) (by decide)).mp f0
  cases e9_0
  cases e8_0
  obtain ⟨y1_0, y1_1, y1_2, y1_3, e9_1, h1, i1, t1_⟩ := f1
  cases e9_1
  obtain rfl := fMe_c w0 s0 t0 sc0
  have q0 : fB K n (p) 207 [fR x0, fI x1, fI x2, fI x3] σ := by
    refine (fH_o (by decide) (by decide)).mpr ⟨x0, g0, _, rfl, w0, x1, x2, x3, rfl, n0, fun j j1 j2 => ?_⟩
    by_cases hj : j < x3.toInt
    · exact r0 j j1 hj
    · obtain rfl : j = x3.toInt := by omega
      rintro ⟨q, q1, q2, q3, q4, q5⟩
      rcases Int.lt_trichotomy q x4.toInt with hq | hq | hq
      · exact q4 (m0 q q1 hq)
      · rw [hq, ← t1_, ← ec0] at q5
        unfold fHit at q5
        omega
      · have h9 := q3 x4.toInt h1 hq
        rw [← t1_, ← ec0] at h9
        omega
  exact ⟨p, fun _ => rfl, ⟨(fun q h => by cases h), fun q h => (by cases h), (fun f h => by cases h), (aAllc ⟨_, rfl, (fF_b (r := 3316) (by decide) rfl).mpr q0⟩ (fun f h => by cases h))⟩, [], List.mem_cons_self, fun f h => (by cases h)⟩
set_option maxRecDepth 8192 in
theorem rw_ruNR2 {K : Nat → Nat} {n : Nat} : aGho (fF K n) fa_T K n (fJX K n) ag_ruNR2 := by
  refine aGho_of ⟨rfl, rfl⟩ ?_
  intro p σ ρ hH hX hA hM
  have hG := aAG_of hA.1 (fun i e v he hv => (hA.2 i e v he hv).1)
  clear hA
  obtain ⟨v0, v1, v2, v3, v4, v5, v6, v7, v8, rfl, g0, g1, g2, g3, g4, g5, g6, g7, g8⟩ := fA_9 hG
  clear hG
  obtain ⟨x0, rfl, b0, d0⟩ := fG_ref (by decide) g0
  obtain ⟨x1, rfl, b1, d1⟩ := aG_int g1
  dsimp only at b1 d1
  obtain ⟨x2, rfl, b2, d2⟩ := aG_int g2
  dsimp only at b2 d2
  obtain ⟨x3, rfl, b3, d3⟩ := aG_int g3
  dsimp only at b3 d3
  obtain ⟨x4, rfl, b4, d4⟩ := aG_int g4
  dsimp only at b4 d4
  obtain ⟨x5, rfl, b5, d5⟩ := aG_int g5
  dsimp only at b5 d5
  obtain ⟨x6, rfl, b6, d6⟩ := aG_int g6
  dsimp only at b6 d6
  obtain ⟨x7, rfl, b7, d7⟩ := aG_int g7
  dsimp only at b7 d7
  obtain ⟨x8, rfl, b8, d8⟩ := fG_ref (by decide) g8
  obtain ⟨m1, m2, m3, m4⟩ := hM
  obtain ⟨a0, c0, fs0, w0, e1, s0, t0, e4⟩ := m1 (0, 0, 8) (List.mem_of_getElem? (i := 0) rfl)
  obtain rfl : x0 = a0 := Sum.inl.inj (Option.some.inj (Sum.inr.inj (Sum.inr.inj (Option.some.inj (show some (fR x0) = some _ from e1)))))
  obtain rfl : fR x8 = w0 := Option.some.inj (show some (fR x8) = some w0 from e4)
  clear e1 e4
  obtain ⟨a, mc0, ty0, gc0, ic0, e1, sc0, jc0, e4, e5⟩ := m2 (8, ([(5, 1)], 0), 6) (List.mem_of_getElem? (i := 0) rfl)
  obtain rfl : x8 = a := Sum.inl.inj (Option.some.inj (Sum.inr.inj (Sum.inr.inj (Option.some.inj (show some (fR x8) = some _ from e1)))))
  obtain ⟨gc0, rfl⟩ : ∃ g, gc0 = .inl g := by
    rcases gc0 with g | g
    · exact ⟨g, rfl⟩
    · exact absurd (show some (fI x6) = some (.inr (.inl (g ic0))) from e5) (fun h => by cases h)
  have sc0 : σ x8 = .inl (ty0, mc0, .inl gc0) := sc0
  have ec0 : x6 = gc0 ic0 := Sum.inl.inj (Option.some.inj (show some (fI x6) = some _ from e5))
  have kc0 : (ic0 : Int) = (1 * x5.toInt + 0) + 0 := by
    obtain ⟨z, e6, e7⟩ := e4
    obtain rfl : (1 * x5.toInt + 0) = z := Option.some.inj (show some (1 * x5.toInt + 0) = some z from e6)
    exact e7
  clear e1 e4 e5
  obtain rfl : ic0 = x5.toInt.toNat := by omega
  have l0 : 0 ≤ (1 * x6.toInt + (-8 * x2.toInt + (-1 * x7.toInt + 0))) + 0 := by
    obtain ⟨z, e6, e7⟩ := m3 ([(6, 1), (2, -8), (7, -1)], 0) (List.mem_of_getElem? (i := 0) rfl)
    obtain rfl : (1 * x6.toInt + (-8 * x2.toInt + (-1 * x7.toInt + 0))) = z := Option.some.inj (show some (1 * x6.toInt + (-8 * x2.toInt + (-1 * x7.toInt + 0))) = some z from e6)
    exact e7
  have l1 : 0 ≤ (-1 * x6.toInt + (8 * x2.toInt + (1 * x7.toInt + 0))) + 0 := by
    obtain ⟨z, e6, e7⟩ := m3 ([(6, -1), (2, 8), (7, 1)], 0) (List.mem_of_getElem? (i := 1) rfl)
    obtain rfl : (-1 * x6.toInt + (8 * x2.toInt + (1 * x7.toInt + 0))) = z := Option.some.inj (show some (-1 * x6.toInt + (8 * x2.toInt + (1 * x7.toInt + 0))) = some z from e6)
    exact e7
  have l2 : 0 ≤ (1 * x7.toInt + 0) + -2 := by
    obtain ⟨z, e6, e7⟩ := m3 ([(7, 1)], -2) (List.mem_of_getElem? (i := 2) rfl)
    obtain rfl : (1 * x7.toInt + 0) = z := Option.some.inj (show some (1 * x7.toInt + 0) = some z from e6)
    exact e7
  have l3 : 0 ≤ (-1 * x7.toInt + 0) + 2 := by
    obtain ⟨z, e6, e7⟩ := m3 ([(7, -1)], 2) (List.mem_of_getElem? (i := 3) rfl)
    obtain rfl : (-1 * x7.toInt + 0) = z := Option.some.inj (show some (-1 * x7.toInt + 0) = some z from e6)
    exact e7
  have f0 : fB K n p 202 [fR x0, fI x1, fI x2, fI x3, fI x4] σ := by
    obtain ⟨w, e6, e7⟩ := m4 (3237, [0, 1, 2, 3, 4]) (List.mem_of_getElem? (i := 0) rfl)
    obtain rfl : [fR x0, fI x1, fI x2, fI x3, fI x4] = w := Option.some.inj (show some [fR x0, fI x1, fI x2, fI x3, fI x4] = some w from e6)
    exact (fF_b (r := 3237) (by decide) rfl).mp e7
  have f1 : fB K n p 18 [fI x1, fI x3, fI x4, fI x5] σ := by
    obtain ⟨w, e6, e7⟩ := m4 (292, [1, 3, 4, 5]) (List.mem_of_getElem? (i := 1) rfl)
    obtain rfl : [fI x1, fI x3, fI x4, fI x5] = w := Option.some.inj (show some [fI x1, fI x3, fI x4, fI x5] = some w from e6)
    exact (fF_b (r := 292) (by decide) rfl).mp e7
  clear m1 m2 m3 m4
  obtain ⟨b9_0, g0, r9_0, e9_0, w0, y0_0, y0_1, y0_2, y0_3, e8_0, n0, r0, m0⟩ := (fH_o (by decide) (by decide)).mp f0
  cases e9_0
  cases e8_0
  obtain ⟨y1_0, y1_1, y1_2, y1_3, e9_1, h1, i1, t1_⟩ := f1
  cases e9_1
  obtain rfl := fMe_c w0 s0 t0 sc0
  have q0 : fB K n (p) 207 [fR x0, fI x1, fI x2, fI x3] σ := by
    refine (fH_o (by decide) (by decide)).mpr ⟨x0, g0, _, rfl, w0, x1, x2, x3, rfl, n0, fun j j1 j2 => ?_⟩
    by_cases hj : j < x3.toInt
    · exact r0 j j1 hj
    · obtain rfl : j = x3.toInt := by omega
      rintro ⟨q, q1, q2, q3, q4, q5⟩
      rcases Int.lt_trichotomy q x4.toInt with hq | hq | hq
      · exact q4 (m0 q q1 hq)
      · rw [hq, ← t1_, ← ec0] at q5
        unfold fHit at q5
        omega
      · have h9 := q3 x4.toInt h1 hq
        rw [← t1_, ← ec0] at h9
        omega
  exact ⟨p, fun _ => rfl, ⟨(fun q h => by cases h), fun q h => (by cases h), (fun f h => by cases h), (aAllc ⟨_, rfl, (fF_b (r := 3316) (by decide) rfl).mpr q0⟩ (fun f h => by cases h))⟩, [], List.mem_cons_self, fun f h => (by cases h)⟩
set_option maxRecDepth 8192 in
theorem rw_ruNR7 {K : Nat → Nat} {n : Nat} : aGho (fF K n) fa_T K n (fJX K n) ag_ruNR7 := by
  refine aGho_of ⟨rfl, rfl⟩ ?_
  intro p σ ρ hH hX hA hM
  have hG := aAG_of hA.1 (fun i e v he hv => (hA.2 i e v he hv).1)
  clear hA
  obtain ⟨v0, v1, v2, v3, v4, v5, v6, v7, v8, rfl, g0, g1, g2, g3, g4, g5, g6, g7, g8⟩ := fA_9 hG
  clear hG
  obtain ⟨x0, rfl, b0, d0⟩ := fG_ref (by decide) g0
  obtain ⟨x1, rfl, b1, d1⟩ := aG_int g1
  dsimp only at b1 d1
  obtain ⟨x2, rfl, b2, d2⟩ := aG_int g2
  dsimp only at b2 d2
  obtain ⟨x3, rfl, b3, d3⟩ := aG_int g3
  dsimp only at b3 d3
  obtain ⟨x4, rfl, b4, d4⟩ := aG_int g4
  dsimp only at b4 d4
  obtain ⟨x5, rfl, b5, d5⟩ := aG_int g5
  dsimp only at b5 d5
  obtain ⟨x6, rfl, b6, d6⟩ := aG_int g6
  dsimp only at b6 d6
  obtain ⟨x7, rfl, b7, d7⟩ := aG_int g7
  dsimp only at b7 d7
  obtain ⟨x8, rfl, b8, d8⟩ := fG_ref (by decide) g8
  obtain ⟨m1, m2, m3, m4⟩ := hM
  obtain ⟨a0, c0, fs0, w0, e1, s0, t0, e4⟩ := m1 (0, 0, 8) (List.mem_of_getElem? (i := 0) rfl)
  obtain rfl : x0 = a0 := Sum.inl.inj (Option.some.inj (Sum.inr.inj (Sum.inr.inj (Option.some.inj (show some (fR x0) = some _ from e1)))))
  obtain rfl : fR x8 = w0 := Option.some.inj (show some (fR x8) = some w0 from e4)
  clear e1 e4
  obtain ⟨a, mc0, ty0, gc0, ic0, e1, sc0, jc0, e4, e5⟩ := m2 (8, ([(5, 1)], 0), 6) (List.mem_of_getElem? (i := 0) rfl)
  obtain rfl : x8 = a := Sum.inl.inj (Option.some.inj (Sum.inr.inj (Sum.inr.inj (Option.some.inj (show some (fR x8) = some _ from e1)))))
  obtain ⟨gc0, rfl⟩ : ∃ g, gc0 = .inl g := by
    rcases gc0 with g | g
    · exact ⟨g, rfl⟩
    · exact absurd (show some (fI x6) = some (.inr (.inl (g ic0))) from e5) (fun h => by cases h)
  have sc0 : σ x8 = .inl (ty0, mc0, .inl gc0) := sc0
  have ec0 : x6 = gc0 ic0 := Sum.inl.inj (Option.some.inj (show some (fI x6) = some _ from e5))
  have kc0 : (ic0 : Int) = (1 * x5.toInt + 0) + 0 := by
    obtain ⟨z, e6, e7⟩ := e4
    obtain rfl : (1 * x5.toInt + 0) = z := Option.some.inj (show some (1 * x5.toInt + 0) = some z from e6)
    exact e7
  clear e1 e4 e5
  obtain rfl : ic0 = x5.toInt.toNat := by omega
  have l0 : 0 ≤ (1 * x6.toInt + (-8 * x2.toInt + (-1 * x7.toInt + 0))) + 0 := by
    obtain ⟨z, e6, e7⟩ := m3 ([(6, 1), (2, -8), (7, -1)], 0) (List.mem_of_getElem? (i := 0) rfl)
    obtain rfl : (1 * x6.toInt + (-8 * x2.toInt + (-1 * x7.toInt + 0))) = z := Option.some.inj (show some (1 * x6.toInt + (-8 * x2.toInt + (-1 * x7.toInt + 0))) = some z from e6)
    exact e7
  have l1 : 0 ≤ (-1 * x6.toInt + (8 * x2.toInt + (1 * x7.toInt + 0))) + 0 := by
    obtain ⟨z, e6, e7⟩ := m3 ([(6, -1), (2, 8), (7, 1)], 0) (List.mem_of_getElem? (i := 1) rfl)
    obtain rfl : (-1 * x6.toInt + (8 * x2.toInt + (1 * x7.toInt + 0))) = z := Option.some.inj (show some (-1 * x6.toInt + (8 * x2.toInt + (1 * x7.toInt + 0))) = some z from e6)
    exact e7
  have l2 : 0 ≤ (1 * x7.toInt + 0) + -7 := by
    obtain ⟨z, e6, e7⟩ := m3 ([(7, 1)], -7) (List.mem_of_getElem? (i := 2) rfl)
    obtain rfl : (1 * x7.toInt + 0) = z := Option.some.inj (show some (1 * x7.toInt + 0) = some z from e6)
    exact e7
  have l3 : 0 ≤ (-1 * x7.toInt + 0) + 7 := by
    obtain ⟨z, e6, e7⟩ := m3 ([(7, -1)], 7) (List.mem_of_getElem? (i := 3) rfl)
    obtain rfl : (-1 * x7.toInt + 0) = z := Option.some.inj (show some (-1 * x7.toInt + 0) = some z from e6)
    exact e7
  have f0 : fB K n p 202 [fR x0, fI x1, fI x2, fI x3, fI x4] σ := by
    obtain ⟨w, e6, e7⟩ := m4 (3237, [0, 1, 2, 3, 4]) (List.mem_of_getElem? (i := 0) rfl)
    obtain rfl : [fR x0, fI x1, fI x2, fI x3, fI x4] = w := Option.some.inj (show some [fR x0, fI x1, fI x2, fI x3, fI x4] = some w from e6)
    exact (fF_b (r := 3237) (by decide) rfl).mp e7
  have f1 : fB K n p 18 [fI x1, fI x3, fI x4, fI x5] σ := by
    obtain ⟨w, e6, e7⟩ := m4 (292, [1, 3, 4, 5]) (List.mem_of_getElem? (i := 1) rfl)
    obtain rfl : [fI x1, fI x3, fI x4, fI x5] = w := Option.some.inj (show some [fI x1, fI x3, fI x4, fI x5] = some w from e6)
    exact (fF_b (r := 292) (by decide) rfl).mp e7
  clear m1 m2 m3 m4
  obtain ⟨b9_0, g0, r9_0, e9_0, w0, y0_0, y0_1, y0_2, y0_3, e8_0, n0, r0, m0⟩ := (fH_o (by decide) (by decide)).mp f0
  cases e9_0
  cases e8_0
  obtain ⟨y1_0, y1_1, y1_2, y1_3, e9_1, h1, i1, t1_⟩ := f1
  cases e9_1
  obtain rfl := fMe_c w0 s0 t0 sc0
  have q0 : fB K n (p) 207 [fR x0, fI x1, fI x2, fI x3] σ := by
    refine (fH_o (by decide) (by decide)).mpr ⟨x0, g0, _, rfl, w0, x1, x2, x3, rfl, n0, fun j j1 j2 => ?_⟩
    by_cases hj : j < x3.toInt
    · exact r0 j j1 hj
    · obtain rfl : j = x3.toInt := by omega
      rintro ⟨q, q1, q2, q3, q4, q5⟩
      rcases Int.lt_trichotomy q x4.toInt with hq | hq | hq
      · exact q4 (m0 q q1 hq)
      · rw [hq, ← t1_, ← ec0] at q5
        unfold fHit at q5
        omega
      · have h9 := q3 x4.toInt h1 hq
        rw [← t1_, ← ec0] at h9
        omega
  exact ⟨p, fun _ => rfl, ⟨(fun q h => by cases h), fun q h => (by cases h), (fun f h => by cases h), (aAllc ⟨_, rfl, (fF_b (r := 3316) (by decide) rfl).mpr q0⟩ (fun f h => by cases h))⟩, [], List.mem_cons_self, fun f h => (by cases h)⟩
set_option maxRecDepth 8192 in
theorem rw_ruNR3 {K : Nat → Nat} {n : Nat} : aGho (fF K n) fa_T K n (fJX K n) ag_ruNR3 := by
  refine aGho_of ⟨rfl, rfl⟩ ?_
  intro p σ ρ hH hX hA hM
  have hG := aAG_of hA.1 (fun i e v he hv => (hA.2 i e v he hv).1)
  clear hA
  obtain ⟨v0, v1, v2, v3, v4, v5, v6, v7, v8, rfl, g0, g1, g2, g3, g4, g5, g6, g7, g8⟩ := fA_9 hG
  clear hG
  obtain ⟨x0, rfl, b0, d0⟩ := fG_ref (by decide) g0
  obtain ⟨x1, rfl, b1, d1⟩ := aG_int g1
  dsimp only at b1 d1
  obtain ⟨x2, rfl, b2, d2⟩ := aG_int g2
  dsimp only at b2 d2
  obtain ⟨x3, rfl, b3, d3⟩ := aG_int g3
  dsimp only at b3 d3
  obtain ⟨x4, rfl, b4, d4⟩ := aG_int g4
  dsimp only at b4 d4
  obtain ⟨x5, rfl, b5, d5⟩ := aG_int g5
  dsimp only at b5 d5
  obtain ⟨x6, rfl, b6, d6⟩ := aG_int g6
  dsimp only at b6 d6
  obtain ⟨x7, rfl, b7, d7⟩ := aG_int g7
  dsimp only at b7 d7
  obtain ⟨x8, rfl, b8, d8⟩ := fG_ref (by decide) g8
  obtain ⟨m1, m2, m3, m4⟩ := hM
  obtain ⟨a0, c0, fs0, w0, e1, s0, t0, e4⟩ := m1 (0, 0, 8) (List.mem_of_getElem? (i := 0) rfl)
  obtain rfl : x0 = a0 := Sum.inl.inj (Option.some.inj (Sum.inr.inj (Sum.inr.inj (Option.some.inj (show some (fR x0) = some _ from e1)))))
  obtain rfl : fR x8 = w0 := Option.some.inj (show some (fR x8) = some w0 from e4)
  clear e1 e4
  obtain ⟨a, mc0, ty0, gc0, ic0, e1, sc0, jc0, e4, e5⟩ := m2 (8, ([(5, 1)], 0), 6) (List.mem_of_getElem? (i := 0) rfl)
  obtain rfl : x8 = a := Sum.inl.inj (Option.some.inj (Sum.inr.inj (Sum.inr.inj (Option.some.inj (show some (fR x8) = some _ from e1)))))
  obtain ⟨gc0, rfl⟩ : ∃ g, gc0 = .inl g := by
    rcases gc0 with g | g
    · exact ⟨g, rfl⟩
    · exact absurd (show some (fI x6) = some (.inr (.inl (g ic0))) from e5) (fun h => by cases h)
  have sc0 : σ x8 = .inl (ty0, mc0, .inl gc0) := sc0
  have ec0 : x6 = gc0 ic0 := Sum.inl.inj (Option.some.inj (show some (fI x6) = some _ from e5))
  have kc0 : (ic0 : Int) = (1 * x5.toInt + 0) + 0 := by
    obtain ⟨z, e6, e7⟩ := e4
    obtain rfl : (1 * x5.toInt + 0) = z := Option.some.inj (show some (1 * x5.toInt + 0) = some z from e6)
    exact e7
  clear e1 e4 e5
  obtain rfl : ic0 = x5.toInt.toNat := by omega
  have l0 : 0 ≤ (1 * x6.toInt + (-8 * x2.toInt + (-1 * x7.toInt + 0))) + 0 := by
    obtain ⟨z, e6, e7⟩ := m3 ([(6, 1), (2, -8), (7, -1)], 0) (List.mem_of_getElem? (i := 0) rfl)
    obtain rfl : (1 * x6.toInt + (-8 * x2.toInt + (-1 * x7.toInt + 0))) = z := Option.some.inj (show some (1 * x6.toInt + (-8 * x2.toInt + (-1 * x7.toInt + 0))) = some z from e6)
    exact e7
  have l1 : 0 ≤ (-1 * x6.toInt + (8 * x2.toInt + (1 * x7.toInt + 0))) + 0 := by
    obtain ⟨z, e6, e7⟩ := m3 ([(6, -1), (2, 8), (7, 1)], 0) (List.mem_of_getElem? (i := 1) rfl)
    obtain rfl : (-1 * x6.toInt + (8 * x2.toInt + (1 * x7.toInt + 0))) = z := Option.some.inj (show some (-1 * x6.toInt + (8 * x2.toInt + (1 * x7.toInt + 0))) = some z from e6)
    exact e7
  have l2 : 0 ≤ (1 * x7.toInt + 0) + -3 := by
    obtain ⟨z, e6, e7⟩ := m3 ([(7, 1)], -3) (List.mem_of_getElem? (i := 2) rfl)
    obtain rfl : (1 * x7.toInt + 0) = z := Option.some.inj (show some (1 * x7.toInt + 0) = some z from e6)
    exact e7
  have l3 : 0 ≤ (-1 * x7.toInt + 0) + 3 := by
    obtain ⟨z, e6, e7⟩ := m3 ([(7, -1)], 3) (List.mem_of_getElem? (i := 3) rfl)
    obtain rfl : (-1 * x7.toInt + 0) = z := Option.some.inj (show some (-1 * x7.toInt + 0) = some z from e6)
    exact e7
  have f0 : fB K n p 202 [fR x0, fI x1, fI x2, fI x3, fI x4] σ := by
    obtain ⟨w, e6, e7⟩ := m4 (3237, [0, 1, 2, 3, 4]) (List.mem_of_getElem? (i := 0) rfl)
    obtain rfl : [fR x0, fI x1, fI x2, fI x3, fI x4] = w := Option.some.inj (show some [fR x0, fI x1, fI x2, fI x3, fI x4] = some w from e6)
    exact (fF_b (r := 3237) (by decide) rfl).mp e7
  have f1 : fB K n p 18 [fI x1, fI x3, fI x4, fI x5] σ := by
    obtain ⟨w, e6, e7⟩ := m4 (292, [1, 3, 4, 5]) (List.mem_of_getElem? (i := 1) rfl)
    obtain rfl : [fI x1, fI x3, fI x4, fI x5] = w := Option.some.inj (show some [fI x1, fI x3, fI x4, fI x5] = some w from e6)
    exact (fF_b (r := 292) (by decide) rfl).mp e7
  clear m1 m2 m3 m4
  obtain ⟨b9_0, g0, r9_0, e9_0, w0, y0_0, y0_1, y0_2, y0_3, e8_0, n0, r0, m0⟩ := (fH_o (by decide) (by decide)).mp f0
  cases e9_0
  cases e8_0
  obtain ⟨y1_0, y1_1, y1_2, y1_3, e9_1, h1, i1, t1_⟩ := f1
  cases e9_1
  obtain rfl := fMe_c w0 s0 t0 sc0
  have q0 : fB K n (p) 207 [fR x0, fI x1, fI x2, fI x3] σ := by
    refine (fH_o (by decide) (by decide)).mpr ⟨x0, g0, _, rfl, w0, x1, x2, x3, rfl, n0, fun j j1 j2 => ?_⟩
    by_cases hj : j < x3.toInt
    · exact r0 j j1 hj
    · obtain rfl : j = x3.toInt := by omega
      rintro ⟨q, q1, q2, q3, q4, q5⟩
      rcases Int.lt_trichotomy q x4.toInt with hq | hq | hq
      · exact q4 (m0 q q1 hq)
      · rw [hq, ← t1_, ← ec0] at q5
        unfold fHit at q5
        omega
      · have h9 := q3 x4.toInt h1 hq
        rw [← t1_, ← ec0] at h9
        omega
  exact ⟨p, fun _ => rfl, ⟨(fun q h => by cases h), fun q h => (by cases h), (fun f h => by cases h), (aAllc ⟨_, rfl, (fF_b (r := 3316) (by decide) rfl).mpr q0⟩ (fun f h => by cases h))⟩, [], List.mem_cons_self, fun f h => (by cases h)⟩
set_option maxRecDepth 8192 in
theorem rw_ruNR4 {K : Nat → Nat} {n : Nat} : aGho (fF K n) fa_T K n (fJX K n) ag_ruNR4 := by
  refine aGho_of ⟨rfl, rfl⟩ ?_
  intro p σ ρ hH hX hA hM
  have hG := aAG_of hA.1 (fun i e v he hv => (hA.2 i e v he hv).1)
  clear hA
  obtain ⟨v0, v1, v2, v3, v4, v5, v6, v7, v8, rfl, g0, g1, g2, g3, g4, g5, g6, g7, g8⟩ := fA_9 hG
  clear hG
  obtain ⟨x0, rfl, b0, d0⟩ := fG_ref (by decide) g0
  obtain ⟨x1, rfl, b1, d1⟩ := aG_int g1
  dsimp only at b1 d1
  obtain ⟨x2, rfl, b2, d2⟩ := aG_int g2
  dsimp only at b2 d2
  obtain ⟨x3, rfl, b3, d3⟩ := aG_int g3
  dsimp only at b3 d3
  obtain ⟨x4, rfl, b4, d4⟩ := aG_int g4
  dsimp only at b4 d4
  obtain ⟨x5, rfl, b5, d5⟩ := aG_int g5
  dsimp only at b5 d5
  obtain ⟨x6, rfl, b6, d6⟩ := aG_int g6
  dsimp only at b6 d6
  obtain ⟨x7, rfl, b7, d7⟩ := aG_int g7
  dsimp only at b7 d7
  obtain ⟨x8, rfl, b8, d8⟩ := fG_ref (by decide) g8
  obtain ⟨m1, m2, m3, m4⟩ := hM
  obtain ⟨a0, c0, fs0, w0, e1, s0, t0, e4⟩ := m1 (0, 0, 8) (List.mem_of_getElem? (i := 0) rfl)
  obtain rfl : x0 = a0 := Sum.inl.inj (Option.some.inj (Sum.inr.inj (Sum.inr.inj (Option.some.inj (show some (fR x0) = some _ from e1)))))
  obtain rfl : fR x8 = w0 := Option.some.inj (show some (fR x8) = some w0 from e4)
  clear e1 e4
  obtain ⟨a, mc0, ty0, gc0, ic0, e1, sc0, jc0, e4, e5⟩ := m2 (8, ([(5, 1)], 0), 6) (List.mem_of_getElem? (i := 0) rfl)
  obtain rfl : x8 = a := Sum.inl.inj (Option.some.inj (Sum.inr.inj (Sum.inr.inj (Option.some.inj (show some (fR x8) = some _ from e1)))))
  obtain ⟨gc0, rfl⟩ : ∃ g, gc0 = .inl g := by
    rcases gc0 with g | g
    · exact ⟨g, rfl⟩
    · exact absurd (show some (fI x6) = some (.inr (.inl (g ic0))) from e5) (fun h => by cases h)
  have sc0 : σ x8 = .inl (ty0, mc0, .inl gc0) := sc0
  have ec0 : x6 = gc0 ic0 := Sum.inl.inj (Option.some.inj (show some (fI x6) = some _ from e5))
  have kc0 : (ic0 : Int) = (1 * x5.toInt + 0) + 0 := by
    obtain ⟨z, e6, e7⟩ := e4
    obtain rfl : (1 * x5.toInt + 0) = z := Option.some.inj (show some (1 * x5.toInt + 0) = some z from e6)
    exact e7
  clear e1 e4 e5
  obtain rfl : ic0 = x5.toInt.toNat := by omega
  have l0 : 0 ≤ (1 * x6.toInt + (-8 * x2.toInt + (-1 * x7.toInt + 0))) + 0 := by
    obtain ⟨z, e6, e7⟩ := m3 ([(6, 1), (2, -8), (7, -1)], 0) (List.mem_of_getElem? (i := 0) rfl)
    obtain rfl : (1 * x6.toInt + (-8 * x2.toInt + (-1 * x7.toInt + 0))) = z := Option.some.inj (show some (1 * x6.toInt + (-8 * x2.toInt + (-1 * x7.toInt + 0))) = some z from e6)
    exact e7
  have l1 : 0 ≤ (-1 * x6.toInt + (8 * x2.toInt + (1 * x7.toInt + 0))) + 0 := by
    obtain ⟨z, e6, e7⟩ := m3 ([(6, -1), (2, 8), (7, 1)], 0) (List.mem_of_getElem? (i := 1) rfl)
    obtain rfl : (-1 * x6.toInt + (8 * x2.toInt + (1 * x7.toInt + 0))) = z := Option.some.inj (show some (-1 * x6.toInt + (8 * x2.toInt + (1 * x7.toInt + 0))) = some z from e6)
    exact e7
  have l2 : 0 ≤ (1 * x7.toInt + 0) + -4 := by
    obtain ⟨z, e6, e7⟩ := m3 ([(7, 1)], -4) (List.mem_of_getElem? (i := 2) rfl)
    obtain rfl : (1 * x7.toInt + 0) = z := Option.some.inj (show some (1 * x7.toInt + 0) = some z from e6)
    exact e7
  have l3 : 0 ≤ (-1 * x7.toInt + 0) + 4 := by
    obtain ⟨z, e6, e7⟩ := m3 ([(7, -1)], 4) (List.mem_of_getElem? (i := 3) rfl)
    obtain rfl : (-1 * x7.toInt + 0) = z := Option.some.inj (show some (-1 * x7.toInt + 0) = some z from e6)
    exact e7
  have f0 : fB K n p 202 [fR x0, fI x1, fI x2, fI x3, fI x4] σ := by
    obtain ⟨w, e6, e7⟩ := m4 (3237, [0, 1, 2, 3, 4]) (List.mem_of_getElem? (i := 0) rfl)
    obtain rfl : [fR x0, fI x1, fI x2, fI x3, fI x4] = w := Option.some.inj (show some [fR x0, fI x1, fI x2, fI x3, fI x4] = some w from e6)
    exact (fF_b (r := 3237) (by decide) rfl).mp e7
  have f1 : fB K n p 18 [fI x1, fI x3, fI x4, fI x5] σ := by
    obtain ⟨w, e6, e7⟩ := m4 (292, [1, 3, 4, 5]) (List.mem_of_getElem? (i := 1) rfl)
    obtain rfl : [fI x1, fI x3, fI x4, fI x5] = w := Option.some.inj (show some [fI x1, fI x3, fI x4, fI x5] = some w from e6)
    exact (fF_b (r := 292) (by decide) rfl).mp e7
  clear m1 m2 m3 m4
  obtain ⟨b9_0, g0, r9_0, e9_0, w0, y0_0, y0_1, y0_2, y0_3, e8_0, n0, r0, m0⟩ := (fH_o (by decide) (by decide)).mp f0
  cases e9_0
  cases e8_0
  obtain ⟨y1_0, y1_1, y1_2, y1_3, e9_1, h1, i1, t1_⟩ := f1
  cases e9_1
  obtain rfl := fMe_c w0 s0 t0 sc0
  have q0 : fB K n (p) 207 [fR x0, fI x1, fI x2, fI x3] σ := by
    refine (fH_o (by decide) (by decide)).mpr ⟨x0, g0, _, rfl, w0, x1, x2, x3, rfl, n0, fun j j1 j2 => ?_⟩
    by_cases hj : j < x3.toInt
    · exact r0 j j1 hj
    · obtain rfl : j = x3.toInt := by omega
      rintro ⟨q, q1, q2, q3, q4, q5⟩
      rcases Int.lt_trichotomy q x4.toInt with hq | hq | hq
      · exact q4 (m0 q q1 hq)
      · rw [hq, ← t1_, ← ec0] at q5
        unfold fHit at q5
        omega
      · have h9 := q3 x4.toInt h1 hq
        rw [← t1_, ← ec0] at h9
        omega
  exact ⟨p, fun _ => rfl, ⟨(fun q h => by cases h), fun q h => (by cases h), (fun f h => by cases h), (aAllc ⟨_, rfl, (fF_b (r := 3316) (by decide) rfl).mpr q0⟩ (fun f h => by cases h))⟩, [], List.mem_cons_self, fun f h => (by cases h)⟩
set_option maxRecDepth 8192 in
theorem rw_ruNR6 {K : Nat → Nat} {n : Nat} : aGho (fF K n) fa_T K n (fJX K n) ag_ruNR6 := by
  refine aGho_of ⟨rfl, rfl⟩ ?_
  intro p σ ρ hH hX hA hM
  have hG := aAG_of hA.1 (fun i e v he hv => (hA.2 i e v he hv).1)
  clear hA
  obtain ⟨v0, v1, v2, v3, v4, v5, v6, v7, v8, rfl, g0, g1, g2, g3, g4, g5, g6, g7, g8⟩ := fA_9 hG
  clear hG
  obtain ⟨x0, rfl, b0, d0⟩ := fG_ref (by decide) g0
  obtain ⟨x1, rfl, b1, d1⟩ := aG_int g1
  dsimp only at b1 d1
  obtain ⟨x2, rfl, b2, d2⟩ := aG_int g2
  dsimp only at b2 d2
  obtain ⟨x3, rfl, b3, d3⟩ := aG_int g3
  dsimp only at b3 d3
  obtain ⟨x4, rfl, b4, d4⟩ := aG_int g4
  dsimp only at b4 d4
  obtain ⟨x5, rfl, b5, d5⟩ := aG_int g5
  dsimp only at b5 d5
  obtain ⟨x6, rfl, b6, d6⟩ := aG_int g6
  dsimp only at b6 d6
  obtain ⟨x7, rfl, b7, d7⟩ := aG_int g7
  dsimp only at b7 d7
  obtain ⟨x8, rfl, b8, d8⟩ := fG_ref (by decide) g8
  obtain ⟨m1, m2, m3, m4⟩ := hM
  obtain ⟨a0, c0, fs0, w0, e1, s0, t0, e4⟩ := m1 (0, 0, 8) (List.mem_of_getElem? (i := 0) rfl)
  obtain rfl : x0 = a0 := Sum.inl.inj (Option.some.inj (Sum.inr.inj (Sum.inr.inj (Option.some.inj (show some (fR x0) = some _ from e1)))))
  obtain rfl : fR x8 = w0 := Option.some.inj (show some (fR x8) = some w0 from e4)
  clear e1 e4
  obtain ⟨a, mc0, ty0, gc0, ic0, e1, sc0, jc0, e4, e5⟩ := m2 (8, ([(5, 1)], 0), 6) (List.mem_of_getElem? (i := 0) rfl)
  obtain rfl : x8 = a := Sum.inl.inj (Option.some.inj (Sum.inr.inj (Sum.inr.inj (Option.some.inj (show some (fR x8) = some _ from e1)))))
  obtain ⟨gc0, rfl⟩ : ∃ g, gc0 = .inl g := by
    rcases gc0 with g | g
    · exact ⟨g, rfl⟩
    · exact absurd (show some (fI x6) = some (.inr (.inl (g ic0))) from e5) (fun h => by cases h)
  have sc0 : σ x8 = .inl (ty0, mc0, .inl gc0) := sc0
  have ec0 : x6 = gc0 ic0 := Sum.inl.inj (Option.some.inj (show some (fI x6) = some _ from e5))
  have kc0 : (ic0 : Int) = (1 * x5.toInt + 0) + 0 := by
    obtain ⟨z, e6, e7⟩ := e4
    obtain rfl : (1 * x5.toInt + 0) = z := Option.some.inj (show some (1 * x5.toInt + 0) = some z from e6)
    exact e7
  clear e1 e4 e5
  obtain rfl : ic0 = x5.toInt.toNat := by omega
  have l0 : 0 ≤ (1 * x6.toInt + (-8 * x2.toInt + (-1 * x7.toInt + 0))) + 0 := by
    obtain ⟨z, e6, e7⟩ := m3 ([(6, 1), (2, -8), (7, -1)], 0) (List.mem_of_getElem? (i := 0) rfl)
    obtain rfl : (1 * x6.toInt + (-8 * x2.toInt + (-1 * x7.toInt + 0))) = z := Option.some.inj (show some (1 * x6.toInt + (-8 * x2.toInt + (-1 * x7.toInt + 0))) = some z from e6)
    exact e7
  have l1 : 0 ≤ (-1 * x6.toInt + (8 * x2.toInt + (1 * x7.toInt + 0))) + 0 := by
    obtain ⟨z, e6, e7⟩ := m3 ([(6, -1), (2, 8), (7, 1)], 0) (List.mem_of_getElem? (i := 1) rfl)
    obtain rfl : (-1 * x6.toInt + (8 * x2.toInt + (1 * x7.toInt + 0))) = z := Option.some.inj (show some (-1 * x6.toInt + (8 * x2.toInt + (1 * x7.toInt + 0))) = some z from e6)
    exact e7
  have l2 : 0 ≤ (1 * x7.toInt + 0) + -6 := by
    obtain ⟨z, e6, e7⟩ := m3 ([(7, 1)], -6) (List.mem_of_getElem? (i := 2) rfl)
    obtain rfl : (1 * x7.toInt + 0) = z := Option.some.inj (show some (1 * x7.toInt + 0) = some z from e6)
    exact e7
  have l3 : 0 ≤ (-1 * x7.toInt + 0) + 6 := by
    obtain ⟨z, e6, e7⟩ := m3 ([(7, -1)], 6) (List.mem_of_getElem? (i := 3) rfl)
    obtain rfl : (-1 * x7.toInt + 0) = z := Option.some.inj (show some (-1 * x7.toInt + 0) = some z from e6)
    exact e7
  have f0 : fB K n p 202 [fR x0, fI x1, fI x2, fI x3, fI x4] σ := by
    obtain ⟨w, e6, e7⟩ := m4 (3237, [0, 1, 2, 3, 4]) (List.mem_of_getElem? (i := 0) rfl)
    obtain rfl : [fR x0, fI x1, fI x2, fI x3, fI x4] = w := Option.some.inj (show some [fR x0, fI x1, fI x2, fI x3, fI x4] = some w from e6)
    exact (fF_b (r := 3237) (by decide) rfl).mp e7
  have f1 : fB K n p 18 [fI x1, fI x3, fI x4, fI x5] σ := by
    obtain ⟨w, e6, e7⟩ := m4 (292, [1, 3, 4, 5]) (List.mem_of_getElem? (i := 1) rfl)
    obtain rfl : [fI x1, fI x3, fI x4, fI x5] = w := Option.some.inj (show some [fI x1, fI x3, fI x4, fI x5] = some w from e6)
    exact (fF_b (r := 292) (by decide) rfl).mp e7
  clear m1 m2 m3 m4
  obtain ⟨b9_0, g0, r9_0, e9_0, w0, y0_0, y0_1, y0_2, y0_3, e8_0, n0, r0, m0⟩ := (fH_o (by decide) (by decide)).mp f0
  cases e9_0
  cases e8_0
  obtain ⟨y1_0, y1_1, y1_2, y1_3, e9_1, h1, i1, t1_⟩ := f1
  cases e9_1
  obtain rfl := fMe_c w0 s0 t0 sc0
  have q0 : fB K n (p) 207 [fR x0, fI x1, fI x2, fI x3] σ := by
    refine (fH_o (by decide) (by decide)).mpr ⟨x0, g0, _, rfl, w0, x1, x2, x3, rfl, n0, fun j j1 j2 => ?_⟩
    by_cases hj : j < x3.toInt
    · exact r0 j j1 hj
    · obtain rfl : j = x3.toInt := by omega
      rintro ⟨q, q1, q2, q3, q4, q5⟩
      rcases Int.lt_trichotomy q x4.toInt with hq | hq | hq
      · exact q4 (m0 q q1 hq)
      · rw [hq, ← t1_, ← ec0] at q5
        unfold fHit at q5
        omega
      · have h9 := q3 x4.toInt h1 hq
        rw [← t1_, ← ec0] at h9
        omega
  exact ⟨p, fun _ => rfl, ⟨(fun q h => by cases h), fun q h => (by cases h), (fun f h => by cases h), (aAllc ⟨_, rfl, (fF_b (r := 3316) (by decide) rfl).mpr q0⟩ (fun f h => by cases h))⟩, [], List.mem_cons_self, fun f h => (by cases h)⟩
set_option maxRecDepth 8192 in
theorem rw_ruNR1a {K : Nat → Nat} {n : Nat} : aGho (fF K n) fa_T K n (fJX K n) ag_ruNR1a := by
  refine aGho_of ⟨rfl, rfl⟩ ?_
  intro p σ ρ hH hX hA hM
  have hG := aAG_of hA.1 (fun i e v he hv => (hA.2 i e v he hv).1)
  clear hA
  obtain ⟨v0, v1, v2, v3, v4, v5, v6, v7, v8, rfl, g0, g1, g2, g3, g4, g5, g6, g7, g8⟩ := fA_9 hG
  clear hG
  obtain ⟨x0, rfl, b0, d0⟩ := fG_ref (by decide) g0
  obtain ⟨x1, rfl, b1, d1⟩ := aG_int g1
  dsimp only at b1 d1
  obtain ⟨x2, rfl, b2, d2⟩ := aG_int g2
  dsimp only at b2 d2
  obtain ⟨x3, rfl, b3, d3⟩ := aG_int g3
  dsimp only at b3 d3
  obtain ⟨x4, rfl, b4, d4⟩ := aG_int g4
  dsimp only at b4 d4
  obtain ⟨x5, rfl, b5, d5⟩ := aG_int g5
  dsimp only at b5 d5
  obtain ⟨x6, rfl, b6, d6⟩ := aG_int g6
  dsimp only at b6 d6
  obtain ⟨x7, rfl, b7, d7⟩ := aG_int g7
  dsimp only at b7 d7
  obtain ⟨x8, rfl, b8, d8⟩ := fG_ref (by decide) g8
  obtain ⟨m1, m2, m3, m4⟩ := hM
  obtain ⟨a0, c0, fs0, w0, e1, s0, t0, e4⟩ := m1 (0, 0, 8) (List.mem_of_getElem? (i := 0) rfl)
  obtain rfl : x0 = a0 := Sum.inl.inj (Option.some.inj (Sum.inr.inj (Sum.inr.inj (Option.some.inj (show some (fR x0) = some _ from e1)))))
  obtain rfl : fR x8 = w0 := Option.some.inj (show some (fR x8) = some w0 from e4)
  clear e1 e4
  obtain ⟨a, mc0, ty0, gc0, ic0, e1, sc0, jc0, e4, e5⟩ := m2 (8, ([(5, 1)], 0), 6) (List.mem_of_getElem? (i := 0) rfl)
  obtain rfl : x8 = a := Sum.inl.inj (Option.some.inj (Sum.inr.inj (Sum.inr.inj (Option.some.inj (show some (fR x8) = some _ from e1)))))
  obtain ⟨gc0, rfl⟩ : ∃ g, gc0 = .inl g := by
    rcases gc0 with g | g
    · exact ⟨g, rfl⟩
    · exact absurd (show some (fI x6) = some (.inr (.inl (g ic0))) from e5) (fun h => by cases h)
  have sc0 : σ x8 = .inl (ty0, mc0, .inl gc0) := sc0
  have ec0 : x6 = gc0 ic0 := Sum.inl.inj (Option.some.inj (show some (fI x6) = some _ from e5))
  have kc0 : (ic0 : Int) = (1 * x5.toInt + 0) + 0 := by
    obtain ⟨z, e6, e7⟩ := e4
    obtain rfl : (1 * x5.toInt + 0) = z := Option.some.inj (show some (1 * x5.toInt + 0) = some z from e6)
    exact e7
  clear e1 e4 e5
  obtain rfl : ic0 = x5.toInt.toNat := by omega
  have l0 : 0 ≤ (1 * x6.toInt + (-8 * x2.toInt + (-1 * x7.toInt + 0))) + 0 := by
    obtain ⟨z, e6, e7⟩ := m3 ([(6, 1), (2, -8), (7, -1)], 0) (List.mem_of_getElem? (i := 0) rfl)
    obtain rfl : (1 * x6.toInt + (-8 * x2.toInt + (-1 * x7.toInt + 0))) = z := Option.some.inj (show some (1 * x6.toInt + (-8 * x2.toInt + (-1 * x7.toInt + 0))) = some z from e6)
    exact e7
  have l1 : 0 ≤ (-1 * x6.toInt + (8 * x2.toInt + (1 * x7.toInt + 0))) + 0 := by
    obtain ⟨z, e6, e7⟩ := m3 ([(6, -1), (2, 8), (7, 1)], 0) (List.mem_of_getElem? (i := 1) rfl)
    obtain rfl : (-1 * x6.toInt + (8 * x2.toInt + (1 * x7.toInt + 0))) = z := Option.some.inj (show some (-1 * x6.toInt + (8 * x2.toInt + (1 * x7.toInt + 0))) = some z from e6)
    exact e7
  have l2 : 0 ≤ (1 * x7.toInt + 0) + -1 := by
    obtain ⟨z, e6, e7⟩ := m3 ([(7, 1)], -1) (List.mem_of_getElem? (i := 2) rfl)
    obtain rfl : (1 * x7.toInt + 0) = z := Option.some.inj (show some (1 * x7.toInt + 0) = some z from e6)
    exact e7
  have l3 : 0 ≤ (-1 * x7.toInt + 0) + 1 := by
    obtain ⟨z, e6, e7⟩ := m3 ([(7, -1)], 1) (List.mem_of_getElem? (i := 3) rfl)
    obtain rfl : (-1 * x7.toInt + 0) = z := Option.some.inj (show some (-1 * x7.toInt + 0) = some z from e6)
    exact e7
  have f0 : fB K n p 202 [fR x0, fI x1, fI x2, fI x3, fI x4] σ := by
    obtain ⟨w, e6, e7⟩ := m4 (3237, [0, 1, 2, 3, 4]) (List.mem_of_getElem? (i := 0) rfl)
    obtain rfl : [fR x0, fI x1, fI x2, fI x3, fI x4] = w := Option.some.inj (show some [fR x0, fI x1, fI x2, fI x3, fI x4] = some w from e6)
    exact (fF_b (r := 3237) (by decide) rfl).mp e7
  have f1 : fB K n p 18 [fI x1, fI x3, fI x4, fI x5] σ := by
    obtain ⟨w, e6, e7⟩ := m4 (292, [1, 3, 4, 5]) (List.mem_of_getElem? (i := 1) rfl)
    obtain rfl : [fI x1, fI x3, fI x4, fI x5] = w := Option.some.inj (show some [fI x1, fI x3, fI x4, fI x5] = some w from e6)
    exact (fF_b (r := 292) (by decide) rfl).mp e7
  clear m1 m2 m3 m4
  obtain ⟨b9_0, g0, r9_0, e9_0, w0, y0_0, y0_1, y0_2, y0_3, e8_0, n0, r0, m0⟩ := (fH_o (by decide) (by decide)).mp f0
  cases e9_0
  cases e8_0
  obtain ⟨y1_0, y1_1, y1_2, y1_3, e9_1, h1, i1, t1_⟩ := f1
  cases e9_1
  obtain rfl := fMe_c w0 s0 t0 sc0
  have q0 : fB K n (p) 207 [fR x0, fI x1, fI x2, fI x3] σ := by
    refine (fH_o (by decide) (by decide)).mpr ⟨x0, g0, _, rfl, w0, x1, x2, x3, rfl, n0, fun j j1 j2 => ?_⟩
    by_cases hj : j < x3.toInt
    · exact r0 j j1 hj
    · obtain rfl : j = x3.toInt := by omega
      rintro ⟨q, q1, q2, q3, q4, q5⟩
      rcases Int.lt_trichotomy q x4.toInt with hq | hq | hq
      · exact q4 (m0 q q1 hq)
      · rw [hq, ← t1_, ← ec0] at q5
        unfold fHit at q5
        omega
      · have h9 := q3 x4.toInt h1 hq
        rw [← t1_, ← ec0] at h9
        omega
  exact ⟨p, fun _ => rfl, ⟨(fun q h => by cases h), fun q h => (by cases h), (fun f h => by cases h), (aAllc ⟨_, rfl, (fF_b (r := 3316) (by decide) rfl).mpr q0⟩ (fun f h => by cases h))⟩, [], List.mem_cons_self, fun f h => (by cases h)⟩
set_option maxRecDepth 8192 in
theorem rw_ruNR1b {K : Nat → Nat} {n : Nat} : aGho (fF K n) fa_T K n (fJX K n) ag_ruNR1b := by
  refine aGho_of ⟨rfl, rfl⟩ ?_
  intro p σ ρ hH hX hA hM
  have hG := aAG_of hA.1 (fun i e v he hv => (hA.2 i e v he hv).1)
  clear hA
  obtain ⟨v0, v1, v2, v3, v4, v5, v6, v7, v8, rfl, g0, g1, g2, g3, g4, g5, g6, g7, g8⟩ := fA_9 hG
  clear hG
  obtain ⟨x0, rfl, b0, d0⟩ := fG_ref (by decide) g0
  obtain ⟨x1, rfl, b1, d1⟩ := aG_int g1
  dsimp only at b1 d1
  obtain ⟨x2, rfl, b2, d2⟩ := aG_int g2
  dsimp only at b2 d2
  obtain ⟨x3, rfl, b3, d3⟩ := aG_int g3
  dsimp only at b3 d3
  obtain ⟨x4, rfl, b4, d4⟩ := aG_int g4
  dsimp only at b4 d4
  obtain ⟨x5, rfl, b5, d5⟩ := aG_int g5
  dsimp only at b5 d5
  obtain ⟨x6, rfl, b6, d6⟩ := aG_int g6
  dsimp only at b6 d6
  obtain ⟨x7, rfl, b7, d7⟩ := aG_int g7
  dsimp only at b7 d7
  obtain ⟨x8, rfl, b8, d8⟩ := fG_ref (by decide) g8
  obtain ⟨m1, m2, m3, m4⟩ := hM
  obtain ⟨a0, c0, fs0, w0, e1, s0, t0, e4⟩ := m1 (0, 0, 8) (List.mem_of_getElem? (i := 0) rfl)
  obtain rfl : x0 = a0 := Sum.inl.inj (Option.some.inj (Sum.inr.inj (Sum.inr.inj (Option.some.inj (show some (fR x0) = some _ from e1)))))
  obtain rfl : fR x8 = w0 := Option.some.inj (show some (fR x8) = some w0 from e4)
  clear e1 e4
  obtain ⟨a, mc0, ty0, gc0, ic0, e1, sc0, jc0, e4, e5⟩ := m2 (8, ([(5, 1)], 0), 6) (List.mem_of_getElem? (i := 0) rfl)
  obtain rfl : x8 = a := Sum.inl.inj (Option.some.inj (Sum.inr.inj (Sum.inr.inj (Option.some.inj (show some (fR x8) = some _ from e1)))))
  obtain ⟨gc0, rfl⟩ : ∃ g, gc0 = .inl g := by
    rcases gc0 with g | g
    · exact ⟨g, rfl⟩
    · exact absurd (show some (fI x6) = some (.inr (.inl (g ic0))) from e5) (fun h => by cases h)
  have sc0 : σ x8 = .inl (ty0, mc0, .inl gc0) := sc0
  have ec0 : x6 = gc0 ic0 := Sum.inl.inj (Option.some.inj (show some (fI x6) = some _ from e5))
  have kc0 : (ic0 : Int) = (1 * x5.toInt + 0) + 0 := by
    obtain ⟨z, e6, e7⟩ := e4
    obtain rfl : (1 * x5.toInt + 0) = z := Option.some.inj (show some (1 * x5.toInt + 0) = some z from e6)
    exact e7
  clear e1 e4 e5
  obtain rfl : ic0 = x5.toInt.toNat := by omega
  have l0 : 0 ≤ (1 * x6.toInt + (-8 * x2.toInt + (-1 * x7.toInt + 0))) + 0 := by
    obtain ⟨z, e6, e7⟩ := m3 ([(6, 1), (2, -8), (7, -1)], 0) (List.mem_of_getElem? (i := 0) rfl)
    obtain rfl : (1 * x6.toInt + (-8 * x2.toInt + (-1 * x7.toInt + 0))) = z := Option.some.inj (show some (1 * x6.toInt + (-8 * x2.toInt + (-1 * x7.toInt + 0))) = some z from e6)
    exact e7
  have l1 : 0 ≤ (-1 * x6.toInt + (8 * x2.toInt + (1 * x7.toInt + 0))) + 0 := by
    obtain ⟨z, e6, e7⟩ := m3 ([(6, -1), (2, 8), (7, 1)], 0) (List.mem_of_getElem? (i := 1) rfl)
    obtain rfl : (-1 * x6.toInt + (8 * x2.toInt + (1 * x7.toInt + 0))) = z := Option.some.inj (show some (-1 * x6.toInt + (8 * x2.toInt + (1 * x7.toInt + 0))) = some z from e6)
    exact e7
  have l2 : 0 ≤ (1 * x7.toInt + 0) + -1 := by
    obtain ⟨z, e6, e7⟩ := m3 ([(7, 1)], -1) (List.mem_of_getElem? (i := 2) rfl)
    obtain rfl : (1 * x7.toInt + 0) = z := Option.some.inj (show some (1 * x7.toInt + 0) = some z from e6)
    exact e7
  have l3 : 0 ≤ (-1 * x7.toInt + 0) + 1 := by
    obtain ⟨z, e6, e7⟩ := m3 ([(7, -1)], 1) (List.mem_of_getElem? (i := 3) rfl)
    obtain rfl : (-1 * x7.toInt + 0) = z := Option.some.inj (show some (-1 * x7.toInt + 0) = some z from e6)
    exact e7
  have f0 : fB K n p 202 [fR x0, fI x1, fI x2, fI x3, fI x4] σ := by
    obtain ⟨w, e6, e7⟩ := m4 (3237, [0, 1, 2, 3, 4]) (List.mem_of_getElem? (i := 0) rfl)
    obtain rfl : [fR x0, fI x1, fI x2, fI x3, fI x4] = w := Option.some.inj (show some [fR x0, fI x1, fI x2, fI x3, fI x4] = some w from e6)
    exact (fF_b (r := 3237) (by decide) rfl).mp e7
  have f1 : fB K n p 18 [fI x1, fI x3, fI x4, fI x5] σ := by
    obtain ⟨w, e6, e7⟩ := m4 (292, [1, 3, 4, 5]) (List.mem_of_getElem? (i := 1) rfl)
    obtain rfl : [fI x1, fI x3, fI x4, fI x5] = w := Option.some.inj (show some [fI x1, fI x3, fI x4, fI x5] = some w from e6)
    exact (fF_b (r := 292) (by decide) rfl).mp e7
  clear m1 m2 m3 m4
  obtain ⟨b9_0, g0, r9_0, e9_0, w0, y0_0, y0_1, y0_2, y0_3, e8_0, n0, r0, m0⟩ := (fH_o (by decide) (by decide)).mp f0
  cases e9_0
  cases e8_0
  obtain ⟨y1_0, y1_1, y1_2, y1_3, e9_1, h1, i1, t1_⟩ := f1
  cases e9_1
  obtain rfl := fMe_c w0 s0 t0 sc0
  have q0 : fB K n (p) 207 [fR x0, fI x1, fI x2, fI x3] σ := by
    refine (fH_o (by decide) (by decide)).mpr ⟨x0, g0, _, rfl, w0, x1, x2, x3, rfl, n0, fun j j1 j2 => ?_⟩
    by_cases hj : j < x3.toInt
    · exact r0 j j1 hj
    · obtain rfl : j = x3.toInt := by omega
      rintro ⟨q, q1, q2, q3, q4, q5⟩
      rcases Int.lt_trichotomy q x4.toInt with hq | hq | hq
      · exact q4 (m0 q q1 hq)
      · rw [hq, ← t1_, ← ec0] at q5
        unfold fHit at q5
        omega
      · have h9 := q3 x4.toInt h1 hq
        rw [← t1_, ← ec0] at h9
        omega
  exact ⟨p, fun _ => rfl, ⟨(fun q h => by cases h), fun q h => (by cases h), (fun f h => by cases h), (aAllc ⟨_, rfl, (fF_b (r := 3316) (by decide) rfl).mpr q0⟩ (fun f h => by cases h))⟩, [], List.mem_cons_self, fun f h => (by cases h)⟩
set_option maxRecDepth 8192 in
theorem rw_ruNR1c {K : Nat → Nat} {n : Nat} : aGho (fF K n) fa_T K n (fJX K n) ag_ruNR1c := by
  refine aGho_of ⟨rfl, rfl⟩ ?_
  intro p σ ρ hH hX hA hM
  have hG := aAG_of hA.1 (fun i e v he hv => (hA.2 i e v he hv).1)
  clear hA
  obtain ⟨v0, v1, v2, v3, v4, v5, v6, v7, v8, v9, rfl, g0, g1, g2, g3, g4, g5, g6, g7, g8, g9⟩ := fA_10 hG
  clear hG
  obtain ⟨x0, rfl, b0, d0⟩ := fG_ref (by decide) g0
  obtain ⟨x1, rfl, b1, d1⟩ := aG_int g1
  dsimp only at b1 d1
  obtain ⟨x2, rfl, b2, d2⟩ := aG_int g2
  dsimp only at b2 d2
  obtain ⟨x3, rfl, b3, d3⟩ := aG_int g3
  dsimp only at b3 d3
  obtain ⟨x4, rfl, b4, d4⟩ := aG_int g4
  dsimp only at b4 d4
  obtain ⟨x5, rfl, b5, d5⟩ := aG_int g5
  dsimp only at b5 d5
  obtain ⟨x6, rfl, b6, d6⟩ := aG_int g6
  dsimp only at b6 d6
  obtain ⟨x7, rfl, b7, d7⟩ := aG_int g7
  dsimp only at b7 d7
  obtain ⟨x8, rfl, b8, d8⟩ := aG_int g8
  dsimp only at b8 d8
  obtain ⟨x9, rfl, b9, d9⟩ := fG_ref (by decide) g9
  obtain ⟨m1, m2, m3, m4⟩ := hM
  obtain ⟨a0, c0, fs0, w0, e1, s0, t0, e4⟩ := m1 (0, 0, 9) (List.mem_of_getElem? (i := 0) rfl)
  obtain rfl : x0 = a0 := Sum.inl.inj (Option.some.inj (Sum.inr.inj (Sum.inr.inj (Option.some.inj (show some (fR x0) = some _ from e1)))))
  obtain rfl : fR x9 = w0 := Option.some.inj (show some (fR x9) = some w0 from e4)
  clear e1 e4
  obtain ⟨a, mc0, ty0, gc0, ic0, e1, sc0, jc0, e4, e5⟩ := m2 (9, ([(5, 1)], 0), 6) (List.mem_of_getElem? (i := 0) rfl)
  obtain rfl : x9 = a := Sum.inl.inj (Option.some.inj (Sum.inr.inj (Sum.inr.inj (Option.some.inj (show some (fR x9) = some _ from e1)))))
  obtain ⟨gc0, rfl⟩ : ∃ g, gc0 = .inl g := by
    rcases gc0 with g | g
    · exact ⟨g, rfl⟩
    · exact absurd (show some (fI x6) = some (.inr (.inl (g ic0))) from e5) (fun h => by cases h)
  have sc0 : σ x9 = .inl (ty0, mc0, .inl gc0) := sc0
  have ec0 : x6 = gc0 ic0 := Sum.inl.inj (Option.some.inj (show some (fI x6) = some _ from e5))
  have kc0 : (ic0 : Int) = (1 * x5.toInt + 0) + 0 := by
    obtain ⟨z, e6, e7⟩ := e4
    obtain rfl : (1 * x5.toInt + 0) = z := Option.some.inj (show some (1 * x5.toInt + 0) = some z from e6)
    exact e7
  clear e1 e4 e5
  obtain rfl : ic0 = x5.toInt.toNat := by omega
  have l0 : 0 ≤ (1 * x6.toInt + (-8 * x2.toInt + (-1 * x7.toInt + 0))) + 0 := by
    obtain ⟨z, e6, e7⟩ := m3 ([(6, 1), (2, -8), (7, -1)], 0) (List.mem_of_getElem? (i := 0) rfl)
    obtain rfl : (1 * x6.toInt + (-8 * x2.toInt + (-1 * x7.toInt + 0))) = z := Option.some.inj (show some (1 * x6.toInt + (-8 * x2.toInt + (-1 * x7.toInt + 0))) = some z from e6)
    exact e7
  have l1 : 0 ≤ (-1 * x6.toInt + (8 * x2.toInt + (1 * x7.toInt + 0))) + 0 := by
    obtain ⟨z, e6, e7⟩ := m3 ([(6, -1), (2, 8), (7, 1)], 0) (List.mem_of_getElem? (i := 1) rfl)
    obtain rfl : (-1 * x6.toInt + (8 * x2.toInt + (1 * x7.toInt + 0))) = z := Option.some.inj (show some (-1 * x6.toInt + (8 * x2.toInt + (1 * x7.toInt + 0))) = some z from e6)
    exact e7
  have l2 : 0 ≤ (1 * x7.toInt + 0) + -1 := by
    obtain ⟨z, e6, e7⟩ := m3 ([(7, 1)], -1) (List.mem_of_getElem? (i := 2) rfl)
    obtain rfl : (1 * x7.toInt + 0) = z := Option.some.inj (show some (1 * x7.toInt + 0) = some z from e6)
    exact e7
  have l3 : 0 ≤ (-1 * x7.toInt + 0) + 1 := by
    obtain ⟨z, e6, e7⟩ := m3 ([(7, -1)], 1) (List.mem_of_getElem? (i := 3) rfl)
    obtain rfl : (-1 * x7.toInt + 0) = z := Option.some.inj (show some (-1 * x7.toInt + 0) = some z from e6)
    exact e7
  have f0 : fB K n p 202 [fR x0, fI x1, fI x2, fI x3, fI x4] σ := by
    obtain ⟨w, e6, e7⟩ := m4 (3237, [0, 1, 2, 3, 4]) (List.mem_of_getElem? (i := 0) rfl)
    obtain rfl : [fR x0, fI x1, fI x2, fI x3, fI x4] = w := Option.some.inj (show some [fR x0, fI x1, fI x2, fI x3, fI x4] = some w from e6)
    exact (fF_b (r := 3237) (by decide) rfl).mp e7
  have f1 : fB K n p 18 [fI x1, fI x3, fI x4, fI x5] σ := by
    obtain ⟨w, e6, e7⟩ := m4 (292, [1, 3, 4, 5]) (List.mem_of_getElem? (i := 1) rfl)
    obtain rfl : [fI x1, fI x3, fI x4, fI x5] = w := Option.some.inj (show some [fI x1, fI x3, fI x4, fI x5] = some w from e6)
    exact (fF_b (r := 292) (by decide) rfl).mp e7
  have f2 : fB K n p 22 [fI x3, fI x8] σ := by
    obtain ⟨w, e6, e7⟩ := m4 (354, [3, 8]) (List.mem_of_getElem? (i := 2) rfl)
    obtain rfl : [fI x3, fI x8] = w := Option.some.inj (show some [fI x3, fI x8] = some w from e6)
    exact (fF_b (r := 354) (by decide) rfl).mp e7
  clear m1 m2 m3 m4
  obtain ⟨b9_0, g0, r9_0, e9_0, w0, y0_0, y0_1, y0_2, y0_3, e8_0, n0, r0, m0⟩ := (fH_o (by decide) (by decide)).mp f0
  cases e9_0
  cases e8_0
  obtain ⟨y1_0, y1_1, y1_2, y1_3, e9_1, h1, i1, t1_⟩ := f1
  cases e9_1
  obtain ⟨y2_0, y2_1, e9_2, h2⟩ := f2
  cases e9_2
  obtain rfl := fMe_c w0 s0 t0 sc0
  have q0 : fB K n (p) 207 [fR x0, fI x1, fI x2, fI x3] σ := by
    refine (fH_o (by decide) (by decide)).mpr ⟨x0, g0, _, rfl, w0, x1, x2, x3, rfl, n0, fun j j1 j2 => ?_⟩
    by_cases hj : j < x3.toInt
    · exact r0 j j1 hj
    · obtain rfl : j = x3.toInt := by omega
      rintro ⟨q, q1, q2, q3, q4, q5⟩
      rcases Int.lt_trichotomy q x4.toInt with hq | hq | hq
      · exact q4 (m0 q q1 hq)
      · rw [hq, ← t1_, ← ec0] at q5
        unfold fHit at q5
        omega
      · have h9 := q3 x4.toInt h1 hq
        rw [← t1_, ← ec0] at h9
        omega
  exact ⟨p, fun _ => rfl, ⟨(fun q h => by cases h), fun q h => (by cases h), (fun f h => by cases h), (aAllc ⟨_, rfl, (fF_b (r := 3316) (by decide) rfl).mpr q0⟩ (fun f h => by cases h))⟩, [], List.mem_cons_self, fun f h => (by cases h)⟩
set_option maxRecDepth 8192 in
theorem rw_ruNR1d {K : Nat → Nat} {n : Nat} : aGho (fF K n) fa_T K n (fJX K n) ag_ruNR1d := by
  refine aGho_of ⟨rfl, rfl⟩ ?_
  intro p σ ρ hH hX hA hM
  have hG := aAG_of hA.1 (fun i e v he hv => (hA.2 i e v he hv).1)
  clear hA
  obtain ⟨v0, v1, v2, v3, v4, v5, v6, v7, v8, v9, rfl, g0, g1, g2, g3, g4, g5, g6, g7, g8, g9⟩ := fA_10 hG
  clear hG
  obtain ⟨x0, rfl, b0, d0⟩ := fG_ref (by decide) g0
  obtain ⟨x1, rfl, b1, d1⟩ := aG_int g1
  dsimp only at b1 d1
  obtain ⟨x2, rfl, b2, d2⟩ := aG_int g2
  dsimp only at b2 d2
  obtain ⟨x3, rfl, b3, d3⟩ := aG_int g3
  dsimp only at b3 d3
  obtain ⟨x4, rfl, b4, d4⟩ := aG_int g4
  dsimp only at b4 d4
  obtain ⟨x5, rfl, b5, d5⟩ := aG_int g5
  dsimp only at b5 d5
  obtain ⟨x6, rfl, b6, d6⟩ := aG_int g6
  dsimp only at b6 d6
  obtain ⟨x7, rfl, b7, d7⟩ := aG_int g7
  dsimp only at b7 d7
  obtain ⟨x8, rfl, b8, d8⟩ := aG_int g8
  dsimp only at b8 d8
  obtain ⟨x9, rfl, b9, d9⟩ := fG_ref (by decide) g9
  obtain ⟨m1, m2, m3, m4⟩ := hM
  obtain ⟨a0, c0, fs0, w0, e1, s0, t0, e4⟩ := m1 (0, 0, 9) (List.mem_of_getElem? (i := 0) rfl)
  obtain rfl : x0 = a0 := Sum.inl.inj (Option.some.inj (Sum.inr.inj (Sum.inr.inj (Option.some.inj (show some (fR x0) = some _ from e1)))))
  obtain rfl : fR x9 = w0 := Option.some.inj (show some (fR x9) = some w0 from e4)
  clear e1 e4
  obtain ⟨a, mc0, ty0, gc0, ic0, e1, sc0, jc0, e4, e5⟩ := m2 (9, ([(5, 1)], 0), 6) (List.mem_of_getElem? (i := 0) rfl)
  obtain rfl : x9 = a := Sum.inl.inj (Option.some.inj (Sum.inr.inj (Sum.inr.inj (Option.some.inj (show some (fR x9) = some _ from e1)))))
  obtain ⟨gc0, rfl⟩ : ∃ g, gc0 = .inl g := by
    rcases gc0 with g | g
    · exact ⟨g, rfl⟩
    · exact absurd (show some (fI x6) = some (.inr (.inl (g ic0))) from e5) (fun h => by cases h)
  have sc0 : σ x9 = .inl (ty0, mc0, .inl gc0) := sc0
  have ec0 : x6 = gc0 ic0 := Sum.inl.inj (Option.some.inj (show some (fI x6) = some _ from e5))
  have kc0 : (ic0 : Int) = (1 * x5.toInt + 0) + 0 := by
    obtain ⟨z, e6, e7⟩ := e4
    obtain rfl : (1 * x5.toInt + 0) = z := Option.some.inj (show some (1 * x5.toInt + 0) = some z from e6)
    exact e7
  clear e1 e4 e5
  obtain rfl : ic0 = x5.toInt.toNat := by omega
  have l0 : 0 ≤ (1 * x6.toInt + (-8 * x2.toInt + (-1 * x7.toInt + 0))) + 0 := by
    obtain ⟨z, e6, e7⟩ := m3 ([(6, 1), (2, -8), (7, -1)], 0) (List.mem_of_getElem? (i := 0) rfl)
    obtain rfl : (1 * x6.toInt + (-8 * x2.toInt + (-1 * x7.toInt + 0))) = z := Option.some.inj (show some (1 * x6.toInt + (-8 * x2.toInt + (-1 * x7.toInt + 0))) = some z from e6)
    exact e7
  have l1 : 0 ≤ (-1 * x6.toInt + (8 * x2.toInt + (1 * x7.toInt + 0))) + 0 := by
    obtain ⟨z, e6, e7⟩ := m3 ([(6, -1), (2, 8), (7, 1)], 0) (List.mem_of_getElem? (i := 1) rfl)
    obtain rfl : (-1 * x6.toInt + (8 * x2.toInt + (1 * x7.toInt + 0))) = z := Option.some.inj (show some (-1 * x6.toInt + (8 * x2.toInt + (1 * x7.toInt + 0))) = some z from e6)
    exact e7
  have l2 : 0 ≤ (1 * x7.toInt + 0) + -1 := by
    obtain ⟨z, e6, e7⟩ := m3 ([(7, 1)], -1) (List.mem_of_getElem? (i := 2) rfl)
    obtain rfl : (1 * x7.toInt + 0) = z := Option.some.inj (show some (1 * x7.toInt + 0) = some z from e6)
    exact e7
  have l3 : 0 ≤ (-1 * x7.toInt + 0) + 1 := by
    obtain ⟨z, e6, e7⟩ := m3 ([(7, -1)], 1) (List.mem_of_getElem? (i := 3) rfl)
    obtain rfl : (-1 * x7.toInt + 0) = z := Option.some.inj (show some (-1 * x7.toInt + 0) = some z from e6)
    exact e7
  have f0 : fB K n p 202 [fR x0, fI x1, fI x2, fI x3, fI x4] σ := by
    obtain ⟨w, e6, e7⟩ := m4 (3237, [0, 1, 2, 3, 4]) (List.mem_of_getElem? (i := 0) rfl)
    obtain rfl : [fR x0, fI x1, fI x2, fI x3, fI x4] = w := Option.some.inj (show some [fR x0, fI x1, fI x2, fI x3, fI x4] = some w from e6)
    exact (fF_b (r := 3237) (by decide) rfl).mp e7
  have f1 : fB K n p 18 [fI x1, fI x3, fI x4, fI x5] σ := by
    obtain ⟨w, e6, e7⟩ := m4 (292, [1, 3, 4, 5]) (List.mem_of_getElem? (i := 1) rfl)
    obtain rfl : [fI x1, fI x3, fI x4, fI x5] = w := Option.some.inj (show some [fI x1, fI x3, fI x4, fI x5] = some w from e6)
    exact (fF_b (r := 292) (by decide) rfl).mp e7
  have f2 : fB K n p 22 [fI x3, fI x8] σ := by
    obtain ⟨w, e6, e7⟩ := m4 (354, [3, 8]) (List.mem_of_getElem? (i := 2) rfl)
    obtain rfl : [fI x3, fI x8] = w := Option.some.inj (show some [fI x3, fI x8] = some w from e6)
    exact (fF_b (r := 354) (by decide) rfl).mp e7
  clear m1 m2 m3 m4
  obtain ⟨b9_0, g0, r9_0, e9_0, w0, y0_0, y0_1, y0_2, y0_3, e8_0, n0, r0, m0⟩ := (fH_o (by decide) (by decide)).mp f0
  cases e9_0
  cases e8_0
  obtain ⟨y1_0, y1_1, y1_2, y1_3, e9_1, h1, i1, t1_⟩ := f1
  cases e9_1
  obtain ⟨y2_0, y2_1, e9_2, h2⟩ := f2
  cases e9_2
  obtain rfl := fMe_c w0 s0 t0 sc0
  have q0 : fB K n (p) 207 [fR x0, fI x1, fI x2, fI x3] σ := by
    refine (fH_o (by decide) (by decide)).mpr ⟨x0, g0, _, rfl, w0, x1, x2, x3, rfl, n0, fun j j1 j2 => ?_⟩
    by_cases hj : j < x3.toInt
    · exact r0 j j1 hj
    · obtain rfl : j = x3.toInt := by omega
      rintro ⟨q, q1, q2, q3, q4, q5⟩
      rcases Int.lt_trichotomy q x4.toInt with hq | hq | hq
      · exact q4 (m0 q q1 hq)
      · rw [hq, ← t1_, ← ec0] at q5
        unfold fHit at q5
        omega
      · have h9 := q3 x4.toInt h1 hq
        rw [← t1_, ← ec0] at h9
        omega
  exact ⟨p, fun _ => rfl, ⟨(fun q h => by cases h), fun q h => (by cases h), (fun f h => by cases h), (aAllc ⟨_, rfl, (fF_b (r := 3316) (by decide) rfl).mpr q0⟩ (fun f h => by cases h))⟩, [], List.mem_cons_self, fun f h => (by cases h)⟩
set_option maxRecDepth 8192 in
theorem rw_ruNC0 {K : Nat → Nat} {n : Nat} : aGho (fF K n) fa_T K n (fJX K n) ag_ruNC0 := by
  refine aGho_of ⟨rfl, rfl⟩ ?_
  intro p σ ρ hH hX hA hM
  have hG := aAG_of hA.1 (fun i e v he hv => (hA.2 i e v he hv).1)
  clear hA
  obtain ⟨v0, v1, v2, v3, v4, v5, v6, v7, v8, rfl, g0, g1, g2, g3, g4, g5, g6, g7, g8⟩ := fA_9 hG
  clear hG
  obtain ⟨x0, rfl, b0, d0⟩ := fG_ref (by decide) g0
  obtain ⟨x1, rfl, b1, d1⟩ := aG_int g1
  dsimp only at b1 d1
  obtain ⟨x2, rfl, b2, d2⟩ := aG_int g2
  dsimp only at b2 d2
  obtain ⟨x3, rfl, b3, d3⟩ := aG_int g3
  dsimp only at b3 d3
  obtain ⟨x4, rfl, b4, d4⟩ := aG_int g4
  dsimp only at b4 d4
  obtain ⟨x5, rfl, b5, d5⟩ := aG_int g5
  dsimp only at b5 d5
  obtain ⟨x6, rfl, b6, d6⟩ := aG_int g6
  dsimp only at b6 d6
  obtain ⟨x7, rfl, b7, d7⟩ := aG_int g7
  dsimp only at b7 d7
  obtain ⟨x8, rfl, b8, d8⟩ := fG_ref (by decide) g8
  obtain ⟨m1, m2, m3, m4⟩ := hM
  obtain ⟨a0, c0, fs0, w0, e1, s0, t0, e4⟩ := m1 (0, 0, 8) (List.mem_of_getElem? (i := 0) rfl)
  obtain rfl : x0 = a0 := Sum.inl.inj (Option.some.inj (Sum.inr.inj (Sum.inr.inj (Option.some.inj (show some (fR x0) = some _ from e1)))))
  obtain rfl : fR x8 = w0 := Option.some.inj (show some (fR x8) = some w0 from e4)
  clear e1 e4
  obtain ⟨a, mc0, ty0, gc0, ic0, e1, sc0, jc0, e4, e5⟩ := m2 (8, ([(5, 1)], 0), 6) (List.mem_of_getElem? (i := 0) rfl)
  obtain rfl : x8 = a := Sum.inl.inj (Option.some.inj (Sum.inr.inj (Sum.inr.inj (Option.some.inj (show some (fR x8) = some _ from e1)))))
  obtain ⟨gc0, rfl⟩ : ∃ g, gc0 = .inl g := by
    rcases gc0 with g | g
    · exact ⟨g, rfl⟩
    · exact absurd (show some (fI x6) = some (.inr (.inl (g ic0))) from e5) (fun h => by cases h)
  have sc0 : σ x8 = .inl (ty0, mc0, .inl gc0) := sc0
  have ec0 : x6 = gc0 ic0 := Sum.inl.inj (Option.some.inj (show some (fI x6) = some _ from e5))
  have kc0 : (ic0 : Int) = (1 * x5.toInt + 0) + 0 := by
    obtain ⟨z, e6, e7⟩ := e4
    obtain rfl : (1 * x5.toInt + 0) = z := Option.some.inj (show some (1 * x5.toInt + 0) = some z from e6)
    exact e7
  clear e1 e4 e5
  obtain rfl : ic0 = x5.toInt.toNat := by omega
  have f0 : fB K n p 202 [fR x0, fI x1, fI x2, fI x3, fI x4] σ := by
    obtain ⟨w, e6, e7⟩ := m4 (3237, [0, 1, 2, 3, 4]) (List.mem_of_getElem? (i := 0) rfl)
    obtain rfl : [fR x0, fI x1, fI x2, fI x3, fI x4] = w := Option.some.inj (show some [fR x0, fI x1, fI x2, fI x3, fI x4] = some w from e6)
    exact (fF_b (r := 3237) (by decide) rfl).mp e7
  have f1 : fB K n p 18 [fI x1, fI x3, fI x4, fI x5] σ := by
    obtain ⟨w, e6, e7⟩ := m4 (292, [1, 3, 4, 5]) (List.mem_of_getElem? (i := 1) rfl)
    obtain rfl : [fI x1, fI x3, fI x4, fI x5] = w := Option.some.inj (show some [fI x1, fI x3, fI x4, fI x5] = some w from e6)
    exact (fF_b (r := 292) (by decide) rfl).mp e7
  clear m1 m2 m3 m4
  obtain ⟨b9_0, g0, r9_0, e9_0, w0, y0_0, y0_1, y0_2, y0_3, e8_0, n0, r0, m0⟩ := (fH_o (by decide) (by decide)).mp f0
  cases e9_0
  cases e8_0
  obtain ⟨y1_0, y1_1, y1_2, y1_3, e9_1, h1, i1, t1_⟩ := f1
  cases e9_1
  obtain rfl := fMe_c w0 s0 t0 sc0
  have q0 : fB K n (p) 207 [fR x0, fI x1, fI x2, fI x3] σ := by
    refine (fH_o (by decide) (by decide)).mpr ⟨x0, g0, _, rfl, w0, x1, x2, x3, rfl, n0, fun j j1 j2 => ?_⟩
    by_cases hj : j < x3.toInt
    · exact r0 j j1 hj
    · obtain rfl : j = x3.toInt := by omega
      rintro ⟨q, q1, q2, q3, q4, q5⟩
      rcases Int.lt_trichotomy q x4.toInt with hq | hq | hq
      · exact q4 (m0 q q1 hq)
      · rw [hq, ← t1_, ← ec0] at q5
        unfold fHit at q5
        omega
      · have h9 := q3 x4.toInt h1 hq
        rw [← t1_, ← ec0] at h9
        omega
  exact ⟨p, fun _ => rfl, ⟨(fun q h => by cases h), fun q h => (by cases h), (fun f h => by cases h), (aAllc ⟨_, rfl, (fF_b (r := 3316) (by decide) rfl).mpr q0⟩ (fun f h => by cases h))⟩, [], List.mem_cons_self, fun f h => (by cases h)⟩
set_option maxRecDepth 8192 in
theorem rw_ruNC1 {K : Nat → Nat} {n : Nat} : aGho (fF K n) fa_T K n (fJX K n) ag_ruNC1 := by
  refine aGho_of ⟨rfl, rfl⟩ ?_
  intro p σ ρ hH hX hA hM
  have hG := aAG_of hA.1 (fun i e v he hv => (hA.2 i e v he hv).1)
  clear hA
  obtain ⟨v0, v1, v2, v3, v4, v5, v6, v7, v8, rfl, g0, g1, g2, g3, g4, g5, g6, g7, g8⟩ := fA_9 hG
  clear hG
  obtain ⟨x0, rfl, b0, d0⟩ := fG_ref (by decide) g0
  obtain ⟨x1, rfl, b1, d1⟩ := aG_int g1
  dsimp only at b1 d1
  obtain ⟨x2, rfl, b2, d2⟩ := aG_int g2
  dsimp only at b2 d2
  obtain ⟨x3, rfl, b3, d3⟩ := aG_int g3
  dsimp only at b3 d3
  obtain ⟨x4, rfl, b4, d4⟩ := aG_int g4
  dsimp only at b4 d4
  obtain ⟨x5, rfl, b5, d5⟩ := aG_int g5
  dsimp only at b5 d5
  obtain ⟨x6, rfl, b6, d6⟩ := aG_int g6
  dsimp only at b6 d6
  obtain ⟨x7, rfl, b7, d7⟩ := aG_int g7
  dsimp only at b7 d7
  obtain ⟨x8, rfl, b8, d8⟩ := fG_ref (by decide) g8
  obtain ⟨m1, m2, m3, m4⟩ := hM
  obtain ⟨a0, c0, fs0, w0, e1, s0, t0, e4⟩ := m1 (0, 0, 8) (List.mem_of_getElem? (i := 0) rfl)
  obtain rfl : x0 = a0 := Sum.inl.inj (Option.some.inj (Sum.inr.inj (Sum.inr.inj (Option.some.inj (show some (fR x0) = some _ from e1)))))
  obtain rfl : fR x8 = w0 := Option.some.inj (show some (fR x8) = some w0 from e4)
  clear e1 e4
  obtain ⟨a, mc0, ty0, gc0, ic0, e1, sc0, jc0, e4, e5⟩ := m2 (8, ([(5, 1)], 0), 6) (List.mem_of_getElem? (i := 0) rfl)
  obtain rfl : x8 = a := Sum.inl.inj (Option.some.inj (Sum.inr.inj (Sum.inr.inj (Option.some.inj (show some (fR x8) = some _ from e1)))))
  obtain ⟨gc0, rfl⟩ : ∃ g, gc0 = .inl g := by
    rcases gc0 with g | g
    · exact ⟨g, rfl⟩
    · exact absurd (show some (fI x6) = some (.inr (.inl (g ic0))) from e5) (fun h => by cases h)
  have sc0 : σ x8 = .inl (ty0, mc0, .inl gc0) := sc0
  have ec0 : x6 = gc0 ic0 := Sum.inl.inj (Option.some.inj (show some (fI x6) = some _ from e5))
  have kc0 : (ic0 : Int) = (1 * x5.toInt + 0) + 0 := by
    obtain ⟨z, e6, e7⟩ := e4
    obtain rfl : (1 * x5.toInt + 0) = z := Option.some.inj (show some (1 * x5.toInt + 0) = some z from e6)
    exact e7
  clear e1 e4 e5
  obtain rfl : ic0 = x5.toInt.toNat := by omega
  have f0 : fB K n p 202 [fR x0, fI x1, fI x2, fI x3, fI x4] σ := by
    obtain ⟨w, e6, e7⟩ := m4 (3237, [0, 1, 2, 3, 4]) (List.mem_of_getElem? (i := 0) rfl)
    obtain rfl : [fR x0, fI x1, fI x2, fI x3, fI x4] = w := Option.some.inj (show some [fR x0, fI x1, fI x2, fI x3, fI x4] = some w from e6)
    exact (fF_b (r := 3237) (by decide) rfl).mp e7
  have f1 : fB K n p 18 [fI x1, fI x3, fI x4, fI x5] σ := by
    obtain ⟨w, e6, e7⟩ := m4 (292, [1, 3, 4, 5]) (List.mem_of_getElem? (i := 1) rfl)
    obtain rfl : [fI x1, fI x3, fI x4, fI x5] = w := Option.some.inj (show some [fI x1, fI x3, fI x4, fI x5] = some w from e6)
    exact (fF_b (r := 292) (by decide) rfl).mp e7
  clear m1 m2 m3 m4
  obtain ⟨b9_0, g0, r9_0, e9_0, w0, y0_0, y0_1, y0_2, y0_3, e8_0, n0, r0, m0⟩ := (fH_o (by decide) (by decide)).mp f0
  cases e9_0
  cases e8_0
  obtain ⟨y1_0, y1_1, y1_2, y1_3, e9_1, h1, i1, t1_⟩ := f1
  cases e9_1
  obtain rfl := fMe_c w0 s0 t0 sc0
  have q0 : fB K n (p) 207 [fR x0, fI x1, fI x2, fI x3] σ := by
    refine (fH_o (by decide) (by decide)).mpr ⟨x0, g0, _, rfl, w0, x1, x2, x3, rfl, n0, fun j j1 j2 => ?_⟩
    by_cases hj : j < x3.toInt
    · exact r0 j j1 hj
    · obtain rfl : j = x3.toInt := by omega
      rintro ⟨q, q1, q2, q3, q4, q5⟩
      rcases Int.lt_trichotomy q x4.toInt with hq | hq | hq
      · exact q4 (m0 q q1 hq)
      · rw [hq, ← t1_, ← ec0] at q5
        unfold fHit at q5
        omega
      · have h9 := q3 x4.toInt h1 hq
        rw [← t1_, ← ec0] at h9
        omega
  exact ⟨p, fun _ => rfl, ⟨(fun q h => by cases h), fun q h => (by cases h), (fun f h => by cases h), (aAllc ⟨_, rfl, (fF_b (r := 3316) (by decide) rfl).mpr q0⟩ (fun f h => by cases h))⟩, [], List.mem_cons_self, fun f h => (by cases h)⟩
set_option maxRecDepth 8192 in
theorem rw_ruTRI {K : Nat → Nat} {n : Nat} : aGho (fF K n) fa_T K n (fJX K n) ag_ruTRI := by
  refine aGho_of ⟨rfl, rfl⟩ ?_
  intro p σ ρ hH hX hA hM
  have hG := aAG_of hA.1 (fun i e v he hv => (hA.2 i e v he hv).1)
  clear hA
  obtain ⟨v0, v1, rfl, g0, g1⟩ := fA_2 hG
  clear hG
  obtain ⟨x0, rfl, b0, d0⟩ := aG_int g0
  dsimp only at b0 d0
  obtain ⟨x1, rfl, b1, d1⟩ := aG_int g1
  dsimp only at b1 d1
  obtain ⟨m1, m2, m3, m4⟩ := hM
  clear m1 m2 m3 m4
  rcases Int.lt_trichotomy x0.toInt x1.toInt with hh | hh | hh
  · exact ⟨p, fun _ => rfl, ⟨(fun q h => by cases h), fun q h => (by cases h), (fun f h => by cases h), (fun f h => by cases h)⟩, _, List.mem_of_getElem? (i := 0) rfl, (aAllc ⟨_, rfl, (show 0 ≤ (-1 * x0.toInt + (1 * x1.toInt + 0)) + -1 by omega)⟩ (fun f h => by cases h))⟩
  · exact ⟨p, fun _ => rfl, ⟨(fun q h => by cases h), fun q h => (by cases h), (fun f h => by cases h), (fun f h => by cases h)⟩, _, List.mem_of_getElem? (i := 1) rfl, (aAllc ⟨_, rfl, (show 0 ≤ (1 * x0.toInt + (-1 * x1.toInt + 0)) + 0 by omega)⟩ (aAllc ⟨_, rfl, (show 0 ≤ (-1 * x0.toInt + (1 * x1.toInt + 0)) + 0 by omega)⟩ (fun f h => by cases h)))⟩
  · exact ⟨p, fun _ => rfl, ⟨(fun q h => by cases h), fun q h => (by cases h), (fun f h => by cases h), (fun f h => by cases h)⟩, _, List.mem_of_getElem? (i := 2) rfl, (aAllc ⟨_, rfl, (show 0 ≤ (1 * x0.toInt + (-1 * x1.toInt + 0)) + -1 by omega)⟩ (fun f h => by cases h))⟩
end
