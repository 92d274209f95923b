section
/-! legal moves, exactly -/
noncomputable def ag_ruICa : aCon := (y_BO_inCheck, false, 3, ([(.inl (0, 63), none), (.inl (0, 63), none), (.inl (1, 1), none)], ([], [], [([(1, 1), (0, -1)], -2), ([(1, -1), (0, 1)], 2)], [])), (none, [], ([], [], [], [(3379, [0, 1, 2])]), [[]]), ([], []), { frames := 0, cells := 0, slots := 0, locals := 0 })
noncomputable def ag_ruICb : aCon := (y_BO_inCheck, false, 3, ([(.inl (0, 63), none), (.inl (0, 63), none), (.inl (1, 1), none)], ([], [], [([(0, 1), (1, -1)], -2), ([(0, -1), (1, 1)], 2)], [])), (none, [], ([], [], [], [(3379, [0, 1, 2])]), [[]]), ([], []), { frames := 0, cells := 0, slots := 0, locals := 0 })
noncomputable def ag_ruICc : aCon := (y_BO_inCheck, false, 3, ([(.inl (0, 63), none), (.inl (0, 63), none), (.inl (0, 0), none)], ([], [], [([(1, 1), (0, -1)], -3)], [])), (none, [], ([], [], [], [(3379, [0, 1, 2])]), [[]]), ([], []), { frames := 0, cells := 0, slots := 0, locals := 0 })
noncomputable def ag_ruICd : aCon := (y_BO_inCheck, false, 3, ([(.inl (0, 63), none), (.inl (0, 63), none), (.inl (0, 0), none)], ([], [], [([(0, 1), (1, -1)], -3)], [])), (none, [], ([], [], [], [(3379, [0, 1, 2])]), [[]]), ([], []), { frames := 0, cells := 0, slots := 0, locals := 0 })
noncomputable def ag_ruICe : aCon := (y_BO_inCheck, false, 3, ([(.inl (0, 63), none), (.inl (0, 63), none), (.inl (0, 0), none)], ([], [], [([(1, 1), (0, -1)], 1), ([(0, 1), (1, -1)], 1)], [])), (none, [], ([], [], [], [(3379, [0, 1, 2])]), [[]]), ([], []), { frames := 0, cells := 0, slots := 0, locals := 0 })
noncomputable def ag_ruWPa : aCon := (y_BO_inCheck, false, 2, ([(.inr (some (.inl (false, 26))), none), (.inl (0, 63), none), (.inl (0, 0), none), (.inl (16, 47), none)], ([(0, 2, 2), (0, 4, 3)], [], [([(1, 1), (3, -1)], 8), ([(1, -1), (3, 1)], -8)], [(17, [0])])), (none, [], ([], [], [], [(273, [1])]), [[]]), ([], []), { frames := 0, cells := 0, slots := 0, locals := 0 })
noncomputable def ag_ruWPb : aCon := (y_BO_inCheck, false, 2, ([(.inr (some (.inl (false, 26))), none), (.inl (0, 63), none), (.inl (1, 1), none), (.inl (16, 47), none)], ([(0, 2, 2), (0, 4, 3)], [], [([(1, 1), (3, -1)], -8), ([(1, -1), (3, 1)], 8)], [(17, [0])])), (none, [], ([], [], [], [(273, [1])]), [[]]), ([], []), { frames := 0, cells := 0, slots := 0, locals := 0 })
noncomputable def ag_ruNZa : aCon := (y_BO_inCheck, false, 1, ([(.inl (-2147483648, 2147483647), none)], ([], [], [([(0, 1)], -1)], [])), (none, [], ([], [], [], [(3345, [0])]), [[]]), ([], []), { frames := 0, cells := 0, slots := 0, locals := 0 })
noncomputable def ag_ruNZb : aCon := (y_BO_inCheck, false, 1, ([(.inl (-2147483648, 2147483647), none)], ([], [], [([(0, -1)], -1)], [])), (none, [], ([], [], [], [(3345, [0])]), [[]]), ([], []), { frames := 0, cells := 0, slots := 0, locals := 0 })
noncomputable def ag_ruNMa : aCon := (y_BO_inCheck, false, 2, ([(.inl (-2147483648, 2147483647), none), (.inl (-2147483648, 2147483647), none)], ([], [], [([(0, 1), (1, 1)], -1)], [])), (none, [], ([], [], [], [(3410, [0, 1])]), [[]]), ([], []), { frames := 0, cells := 0, slots := 0, locals := 0 })
noncomputable def ag_ruNMb : aCon := (y_BO_inCheck, false, 2, ([(.inl (-2147483648, 2147483647), none), (.inl (-2147483648, 2147483647), none)], ([], [], [([(0, -1), (1, -1)], -1)], [])), (none, [], ([], [], [], [(3410, [0, 1])]), [[]]), ([], []), { frames := 0, cells := 0, slots := 0, locals := 0 })
noncomputable def ag_ruQF : aCon := (y_BO_inCheck, false, 6, ([(.inl (0, 63), none), (.inl (0, 63), none), (.inl (-2147483648, 2147483647), none), (.inl (-2147483648, 2147483647), none), (.inl (0, 7), none), (.inl (0, 7), none)], ([], [], [([(2, 1), (1, -1), (4, 8), (0, 1), (5, -8)], 0), ([(2, -1), (1, 1), (4, -8), (0, -1), (5, 8)], 0), ([(3, 1), (4, -1), (5, 1)], 0), ([(3, -1), (4, 1), (5, -1)], 0), ([(1, 1), (4, -8)], 0), ([(1, -1), (4, 8)], 7), ([(0, 1), (5, -8)], 0), ([(0, -1), (5, 8)], 7)], [])), (none, [], ([], [], [], [(3476, [0, 1, 2, 3])]), [[]]), ([], []), { frames := 0, cells := 0, slots := 0, locals := 0 })
noncomputable def ag_ruFR1 : aCon := (y_BO_inCheck, false, 6, ([(.inl (0, 63), none), (.inl (0, 63), none), (.inl (0, 0), none), (.inl (-2147483648, 2147483647), none), (.inl (-2147483648, 2147483647), none), (.inl (1, 1), none)], ([], [], [], [(3476, [0, 1, 3, 4]), (3345, [3]), (3345, [4]), (3362, [3, 4]), (3410, [3, 4])])), (none, [], ([], [], [], [(3332, [0, 1, 2, 5])]), [[]]), ([], []), { frames := 0, cells := 0, slots := 0, locals := 0 })
noncomputable def ag_ruFRc : aCon := (y_BO_inCheck, false, 6, ([(.inl (0, 63), none), (.inl (0, 63), none), (.inl (1, 1), none), (.inl (-2147483648, 2147483647), none), (.inl (-2147483648, 2147483647), none), (.inl (0, 0), none)], ([], [], [], [(3476, [0, 1, 3, 4])])), (none, [], ([], [], [], [(3332, [0, 1, 2, 5])]), [[]]), ([], []), { frames := 0, cells := 0, slots := 0, locals := 0 })
noncomputable def ag_ruFRa : aCon := (y_BO_inCheck, false, 6, ([(.inl (0, 63), none), (.inl (0, 63), none), (.inl (0, 1), none), (.inl (-2147483648, 2147483647), none), (.inl (-2147483648, 2147483647), none), (.inl (0, 0), none)], ([], [], [([(3, 1)], 0), ([(3, -1)], 0)], [(3476, [0, 1, 3, 4])])), (none, [], ([], [], [], [(3332, [0, 1, 2, 5])]), [[]]), ([], []), { frames := 0, cells := 0, slots := 0, locals := 0 })
noncomputable def ag_ruFRb : aCon := (y_BO_inCheck, false, 6, ([(.inl (0, 63), none), (.inl (0, 63), none), (.inl (0, 1), none), (.inl (-2147483648, 2147483647), none), (.inl (-2147483648, 2147483647), none), (.inl (0, 0), none)], ([], [], [([(4, 1)], 0), ([(4, -1)], 0)], [(3476, [0, 1, 3, 4])])), (none, [], ([], [], [], [(3332, [0, 1, 2, 5])]), [[]]), ([], []), { frames := 0, cells := 0, slots := 0, locals := 0 })
noncomputable def ag_ruFRd : aCon := (y_BO_inCheck, false, 6, ([(.inl (0, 63), none), (.inl (0, 63), none), (.inl (0, 1), none), (.inl (-2147483648, 2147483647), none), (.inl (-2147483648, 2147483647), none), (.inl (0, 0), none)], ([], [], [([(3, 1), (4, -1)], 0), ([(3, -1), (4, 1)], 0)], [(3476, [0, 1, 3, 4])])), (none, [], ([], [], [], [(3332, [0, 1, 2, 5])]), [[]]), ([], []), { frames := 0, cells := 0, slots := 0, locals := 0 })
noncomputable def ag_ruFRe : aCon := (y_BO_inCheck, false, 6, ([(.inl (0, 63), none), (.inl (0, 63), none), (.inl (0, 1), none), (.inl (-2147483648, 2147483647), none), (.inl (-2147483648, 2147483647), none), (.inl (0, 0), none)], ([], [], [([(3, 1), (4, 1)], 0), ([(3, -1), (4, -1)], 0)], [(3476, [0, 1, 3, 4])])), (none, [], ([], [], [], [(3332, [0, 1, 2, 5])]), [[]]), ([], []), { frames := 0, cells := 0, slots := 0, locals := 0 })
noncomputable def ag_ruMT : aCon := (y_BO_inCheck, false, 4, ([(.inl (0, 32767), none), (.inl (0, 63), none), (.inl (0, 4095), none), (.inl (0, 63), none)], ([], [], [([(0, 1), (2, -8)], 0), ([(0, -1), (2, 8)], 7), ([(1, 1), (2, -1), (3, 64)], 0), ([(1, -1), (2, 1), (3, -64)], 0)], [])), (none, [], ([], [], [], [(3426, [0, 1])]), [[]]), ([], []), { frames := 0, cells := 0, slots := 0, locals := 0 })
noncomputable def ag_ruWHa : aCon := (y_BO_inCheck, false, 5, ([(.inl (0, 63), none), (.inl (0, 63), none), (.inl (0, 63), none), (.inl (2, 7), none), (.inr (some (.inl (false, 26))), none)], ([], [], [([(2, 1), (1, -1)], 0), ([(2, -1), (1, 1)], 0)], [(402, [0, 3]), (17, [4])])), (none, [], ([], [], [], [(275, [0, 1, 2])]), [[]]), ([], []), { frames := 0, cells := 0, slots := 0, locals := 0 })
noncomputable def ag_ruWHb : aCon := (y_BO_inCheck, false, 5, ([(.inl (0, 63), none), (.inl (0, 63), none), (.inl (0, 63), none), (.inl (1, 1), none), (.inr (some (.inl (false, 26))), none), (.inl (-1, 63), none)], ([(4, 4, 5)], [], [([(2, 1), (1, -1)], 0), ([(2, -1), (1, 1)], 0), ([(1, 1), (5, -1)], -1)], [(402, [0, 3]), (17, [4])])), (none, [], ([], [], [], [(275, [0, 1, 2])]), [[]]), ([], []), { frames := 0, cells := 0, slots := 0, locals := 0 })
noncomputable def ag_ruWHc : aCon := (y_BO_inCheck, false, 5, ([(.inl (0, 63), none), (.inl (0, 63), none), (.inl (0, 63), none), (.inl (1, 1), none), (.inr (some (.inl (false, 26))), none), (.inl (-1, 63), none)], ([(4, 4, 5)], [], [([(2, 1), (1, -1)], 0), ([(2, -1), (1, 1)], 0), ([(1, -1), (5, 1)], -1)], [(402, [0, 3]), (17, [4])])), (none, [], ([], [], [], [(275, [0, 1, 2])]), [[]]), ([], []), { frames := 0, cells := 0, slots := 0, locals := 0 })
noncomputable def ag_ruWHd : aCon := (y_BO_inCheck, false, 5, ([(.inl (0, 63), none), (.inl (0, 63), none), (.inl (0, 63), none), (.inl (1, 1), none), (.inr (some (.inl (false, 26))), none), (.inl (-1, 63), none)], ([(4, 4, 5)], [], [([(1, 1), (5, -1)], 0), ([(1, -1), (5, 1)], 0)], [(402, [0, 3]), (17, [4]), (273, [2])])), (none, [], ([], [], [], [(275, [0, 1, 2])]), [[]]), ([], []), { frames := 0, cells := 0, slots := 0, locals := 0 })
noncomputable def ag_ruNF0 : aCon := (y_BO_inCheck, false, 6, ([(.inl (0, 63), none), (.inl (0, 63), none), (.inl (0, 1), none), (.inl (0, 63), none), (.inl (0, 63), none), (.inl (0, 0), none)], ([], [], [], [(3332, [0, 1, 2, 5])])), (none, [], ([], [], [], [(3445, [0, 1, 2, 3, 4])]), [[]]), ([], []), { frames := 0, cells := 0, slots := 0, locals := 0 })
noncomputable def ag_ruNF1 : aCon := (y_BO_inCheck, false, 5, ([(.inl (0, 63), none), (.inl (0, 63), none), (.inl (0, 1), none), (.inl (0, 63), none), (.inl (0, 63), none)], ([], [], [([(3, 1), (4, -1)], -1)], [])), (none, [], ([], [], [], [(3445, [0, 1, 2, 3, 4])]), [[]]), ([], []), { frames := 0, cells := 0, slots := 0, locals := 0 })
noncomputable def ag_ruNF2 : aCon := (y_BO_inCheck, false, 5, ([(.inl (0, 63), none), (.inl (0, 63), none), (.inl (0, 1), none), (.inl (0, 63), none), (.inl (0, 63), none)], ([], [], [([(3, -1), (4, 1)], -1)], [])), (none, [], ([], [], [], [(3445, [0, 1, 2, 3, 4])]), [[]]), ([], []), { frames := 0, cells := 0, slots := 0, locals := 0 })
noncomputable def ag_ruOA1 : aCon := (y_BO_inCheck, false, 10, ([(.inr (some (.inl (false, 26))), none), (.inl (0, 63), none), (.inl (0, 0), none), (.inl (0, 63), none), (.inl (0, 0), none), (.inl (0, 63), none), (.inl (0, 15), none), (.inl (0, 63), none), (.inl (0, 1), none), (.inl (0, 1), none), (.inl (0, 1), none)], ([(0, 2, 10)], [], [([(8, 1), (10, 1)], -1), ([(8, -1), (10, -1)], 1)], [(103, [0, 1, 2, 3, 4, 5, 6]), (3252, [0, 7, 8, 9])])), (none, [], ([], [], [], [(902, [1, 3, 5, 6, 7, 9])]), [[]]), ([], []), { frames := 0, cells := 0, slots := 0, locals := 0 })
noncomputable def ag_ruOA2 : aCon := (y_BO_inCheck, false, 10, ([(.inr (some (.inl (false, 26))), none), (.inl (0, 63), none), (.inl (0, 0), none), (.inl (0, 63), none), (.inl (0, 0), none), (.inl (0, 63), none), (.inl (0, 15), none), (.inl (0, 63), none), (.inl (0, 1), none), (.inl (0, 1), none), (.inl (0, 1), none)], ([(0, 2, 10)], [], [([(8, 1), (10, 1)], -1), ([(8, -1), (10, -1)], 1)], [(103, [0, 1, 2, 3, 4, 5, 6]), (3252, [0, 7, 8, 9])])), (none, [], ([], [], [], [(918, [1, 3, 5, 6, 7, 9])]), [[]]), ([], []), { frames := 0, cells := 0, slots := 0, locals := 0 })
noncomputable def ag_ruSG1 : aCon := (y_BO_inCheck, false, 8, ([(.inl (0, 63), none), (.inl (0, 1), none), (.inl (0, 63), none), (.inl (0, 32767), none), (.inl (1, 1), none), (.inl (0, 63), none), (.inl (0, 63), none), (.inl (1, 1), none)], ([], [], [([(5, 1), (6, -1)], 0), ([(5, -1), (6, 1)], 0)], [(482, [3, 2]), (3426, [3, 5]), (275, [2, 5, 6]), (3332, [0, 2, 1, 7])])), (none, [], ([], [], [], [(469, [0, 1, 2, 3, 4])]), [[]]), ([], []), { frames := 0, cells := 0, slots := 0, locals := 0 })
noncomputable def ag_ruSGa5 : aCon := (y_BO_inCheck, false, 11, ([(.inl (0, 63), none), (.inl (0, 1), none), (.inl (0, 63), none), (.inl (0, 32767), none), (.inl (1, 1), none), (.inl (0, 63), none), (.inl (0, 63), none), (.inl (0, 15), none), (.inl (0, 63), none), (.inl (0, 0), none), (.inl (0, 5), none)], ([], [], [([(8, 1), (0, -1)], 0), ([(8, -1), (0, 1)], 0)], [(482, [3, 2]), (3426, [3, 5]), (275, [2, 5, 6]), (402, [2, 10]), (626, [2, 7]), (902, [2, 6, 5, 7, 8, 9])])), (none, [], ([], [], [], [(469, [0, 1, 2, 3, 4])]), [[]]), ([], []), { frames := 0, cells := 0, slots := 0, locals := 0 })
noncomputable def ag_ruSGd5 : aCon := (y_BO_inCheck, false, 11, ([(.inl (0, 63), none), (.inl (0, 1), none), (.inl (0, 63), none), (.inl (0, 32767), none), (.inl (0, 0), none), (.inl (0, 63), none), (.inl (0, 63), none), (.inl (0, 15), none), (.inl (0, 63), none), (.inl (1, 1), none), (.inl (0, 5), none)], ([], [], [([(8, 1), (0, -1)], 0), ([(8, -1), (0, 1)], 0)], [(482, [3, 2]), (3426, [3, 5]), (275, [2, 5, 6]), (402, [2, 10]), (626, [2, 7]), (902, [2, 6, 5, 7, 8, 9]), (3445, [0, 2, 1, 5, 6])])), (none, [], ([], [], [], [(469, [0, 1, 2, 3, 4])]), [[]]), ([], []), { frames := 0, cells := 0, slots := 0, locals := 0 })
noncomputable def ag_ruSGb : aCon := (y_BO_inCheck, false, 12, ([(.inl (0, 63), none), (.inl (0, 1), none), (.inl (0, 63), none), (.inl (0, 32767), none), (.inl (1, 1), none), (.inl (0, 63), none), (.inl (0, 63), none), (.inl (0, 15), none), (.inl (0, 63), none), (.inl (0, 0), none), (.inl (6, 6), none), (.inl (0, 0), none)], ([], [], [([(8, 1), (5, -1)], 0), ([(8, -1), (5, 1)], 0)], [(482, [3, 2]), (3426, [3, 5]), (275, [2, 5, 6]), (402, [2, 10]), (626, [2, 7]), (902, [2, 6, 5, 7, 8, 9]), (3379, [2, 5, 11])])), (none, [], ([], [], [], [(469, [0, 1, 2, 3, 4])]), [[]]), ([], []), { frames := 0, cells := 0, slots := 0, locals := 0 })
noncomputable def ag_ruSGe : aCon := (y_BO_inCheck, false, 11, ([(.inl (0, 63), none), (.inl (0, 1), none), (.inl (0, 63), none), (.inl (0, 32767), none), (.inl (0, 0), none), (.inl (0, 63), none), (.inl (0, 63), none), (.inl (0, 15), none), (.inl (0, 63), none), (.inl (1, 1), none), (.inl (6, 6), none)], ([], [], [([(8, 1), (5, -1)], 0), ([(8, -1), (5, 1)], 0)], [(482, [3, 2]), (3426, [3, 5]), (275, [2, 5, 6]), (402, [2, 10]), (626, [2, 7]), (902, [2, 6, 5, 7, 8, 9]), (3445, [0, 2, 1, 5, 6])])), (none, [], ([], [], [], [(469, [0, 1, 2, 3, 4])]), [[]]), ([], []), { frames := 0, cells := 0, slots := 0, locals := 0 })
noncomputable def ag_ruSGc : aCon := (y_BO_inCheck, false, 14, ([(.inl (0, 63), none), (.inl (0, 1), none), (.inl (0, 63), none), (.inl (0, 32767), none), (.inl (1, 1), none), (.inl (0, 63), none), (.inl (0, 63), none), (.inl (0, 15), none), (.inl (0, 63), none), (.inl (0, 0), none), (.inl (6, 6), none), (.inl (1, 1), none), (.inl (0, 63), none), (.inl (0, 0), none)], ([], [], [([(8, 1), (5, -1)], 0), ([(8, -1), (5, 1)], 0), ([(2, 1), (5, 1), (12, -2)], 0), ([(2, -1), (5, -1), (12, 2)], 1)], [(482, [3, 2]), (3426, [3, 5]), (275, [2, 5, 6]), (402, [2, 10]), (626, [2, 7]), (902, [2, 6, 5, 7, 8, 9]), (3379, [2, 5, 11]), (918, [2, 6, 5, 7, 12, 13])])), (none, [], ([], [], [], [(469, [0, 1, 2, 3, 4])]), [[]]), ([], []), { frames := 0, cells := 0, slots := 0, locals := 0 })
noncomputable def ag_ruSGf : aCon := (y_BO_inCheck, false, 14, ([(.inl (0, 63), none), (.inl (0, 1), none), (.inl (0, 63), none), (.inl (0, 32767), none), (.inl (0, 0), none), (.inl (0, 63), none), (.inl (0, 63), none), (.inl (0, 15), none), (.inl (0, 63), none), (.inl (0, 0), none), (.inl (6, 6), none), (.inl (1, 1), none), (.inl (0, 63), none), (.inl (1, 1), none)], ([], [], [([(8, 1), (5, -1)], 0), ([(8, -1), (5, 1)], 0), ([(2, 1), (5, 1), (12, -2)], 0), ([(2, -1), (5, -1), (12, 2)], 1)], [(482, [3, 2]), (3426, [3, 5]), (275, [2, 5, 6]), (402, [2, 10]), (626, [2, 7]), (902, [2, 6, 5, 7, 8, 9]), (3379, [2, 5, 11]), (918, [2, 6, 5, 7, 12, 13]), (3445, [0, 2, 1, 5, 6])])), (none, [], ([], [], [], [(469, [0, 1, 2, 3, 4])]), [[]]), ([], []), { frames := 0, cells := 0, slots := 0, locals := 0 })
noncomputable def ag_ruHK : aCon := (y_BO_inCheck, false, 3, ([(.inr (some (.inl (false, 26))), none), (.inl (0, 0), none), (.inl (1, 1728), none)], ([], [], [], [(963, [0, 1, 2])])), (none, [], ([], [], [], [(961, [0])]), [[]]), ([], []), { frames := 0, cells := 0, slots := 0, locals := 0 })
noncomputable def ag_ruHK2 : aCon := (y_BO_inCheck, false, 3, ([(.inr (some (.inl (false, 26))), none), (.inl (0, 0), none), (.inl (0, 1728), none)], ([], [], [], [(961, [0]), (963, [0, 1, 2])])), (none, [], ([], [], [([(2, 1)], -1)], []), [[]]), ([], []), { frames := 0, cells := 0, slots := 0, locals := 0 })
noncomputable def ag_ruHKa : aCon := (y_BO_inCheck, false, 2, ([(.inr (some (.inl (false, 26))), none), (.inl (1, 1), none)], ([], [], [], [])), (none, [], ([], [], [], [(962, [0, 1])]), [[]]), ([], []), { frames := 0, cells := 0, slots := 0, locals := 0 })
noncomputable def ag_ruHKb : aCon := (y_BO_inCheck, false, 2, ([(.inr (some (.inl (false, 26))), none), (.inl (0, 0), none)], ([], [], [], [(961, [0])])), (none, [], ([], [], [], [(962, [0, 1])]), [[]]), ([], []), { frames := 0, cells := 0, slots := 0, locals := 0 })
noncomputable def ag_ruHKc : aCon := (y_BO_inCheck, false, 2, ([(.inr (some (.inl (false, 26))), none), (.inl (0, 0), none)], ([], [], [], [(962, [0, 1])])), (none, [], ([], [], [], [(961, [0])]), [[]]), ([], []), { frames := 0, cells := 0, slots := 0, locals := 0 })
noncomputable def ag_ruKH : aCon := (y_BO_inCheck, false, 2, ([(.inr (some (.inl (false, 26))), none), (.inl (0, 63), none), (.inr (some (.inl (false, 28))), none), (.inl (0, 1), none)], ([(0, 1, 2), (0, 2, 3)], [(2, ([(3, 1)], 0), 1)], [], [(17, [0])])), (none, [], ([], [], [], [(964, [0, 1, 1, 1])]), [[]]), ([], []), { frames := 0, cells := 0, slots := 0, locals := 0 })
noncomputable def ag_ruHQ0SE : aCon := (y_BO_inCheck, false, 6, ([(.inl (0, 0), none), (.inl (0, 0), none), (.inl (0, 63), none), (.inl (0, 1), none), (.inr (some (.inl (false, 26))), none), (.inl (0, 1), none), (.inl (0, 1), none)], ([(4, 2, 6)], [], [([(5, 1), (6, 1)], -1), ([(5, -1), (6, -1)], 1)], [(17, [4]), (3252, [4, 2, 5, 3])])), (none, [], ([], [], [], [(133, [0, 0, 1, 2, 3])]), [[]]), ([], []), { frames := 0, cells := 0, slots := 0, locals := 0 })
noncomputable def ag_ruHQeSE : aCon := (y_BO_inCheck, false, 6, ([(.inl (0, 0), none), (.inl (0, 20736), none), (.inl (0, 63), none), (.inl (0, 63), none), (.inl (0, 1), none), (.inl (0, 64), none)], ([], [], [([(5, 1), (2, -1)], -1), ([(5, -1), (2, 1)], 1)], [(133, [0, 1, 2, 3, 4]), (769, [2])])), (none, [], ([], [], [], [(133, [0, 1, 5, 3, 4])]), [[]]), ([], []), { frames := 0, cells := 0, slots := 0, locals := 0 })
noncomputable def ag_ruGUSE : aCon := (y_BO_inCheck, false, 6, ([(.inr (some (.inl (false, 16))), none), (.inl (0, 20736), none), (.inl (0, 20736), none), (.inl (0, 63), none), (.inl (0, 1), none), (.inl (1, 5), none)], ([], [], [], [(1300, [0, 1, 2, 3]), (402, [3, 5])])), (none, [], ([], [], [], [(1317, [0, 1, 2, 3, 4])]), [[]]), ([], []), { frames := 0, cells := 0, slots := 0, locals := 0 })
noncomputable def ag_ruHI0SE : aCon := (y_BO_inCheck, false, 9, ([(.inr (some (.inl (false, 16))), none), (.inl (0, 20736), none), (.inl (0, 20736), none), (.inl (0, 0), none), (.inl (0, 63), none), (.inl (0, 63), none), (.inl (0, 1), none), (.inl (1, 6), none), (.inr (some (.inl (false, 26))), none)], ([], [], [], [(17, [8]), (133, [3, 1, 4, 5, 6]), (1317, [0, 1, 2, 4, 6]), (402, [4, 7])])), (none, [], ([], [], [], [(1304, [0, 1, 2, 3, 1, 4, 5, 6])]), [[]]), ([], []), { frames := 0, cells := 0, slots := 0, locals := 0 })
noncomputable def ag_ruSFLSE : aCon := (y_BO_inCheck, false, 7, ([(.inr (some (.inl (false, 16))), none), (.inl (0, 63), none), (.inl (0, 20736), none), (.inl (0, 63), none), (.inl (0, 1), none), (.inl (0, 1), none), (.inl (0, 32767), none)], ([], [(0, ([(2, 1)], 0), 6)], [], [(469, [3, 4, 1, 6, 5])])), (none, [], ([], [], [], [(1350, [0, 1, 2, 3, 4, 5])]), [[]]), ([], []), { frames := 0, cells := 0, slots := 0, locals := 0 })
noncomputable def ag_ruHIsSE : aCon := (y_BO_inCheck, false, 10, ([(.inr (some (.inl (false, 16))), none), (.inl (0, 20736), none), (.inl (0, 32767), none), (.inl (0, 20736), none), (.inl (0, 20736), none), (.inl (0, 0), none), (.inl (0, 63), none), (.inl (0, 63), none), (.inl (0, 1), none), (.inl (1, 1), none)], ([], [(0, ([(3, 1)], 0), 2)], [([(3, 1), (1, -1)], 0), ([(4, 1), (3, -1)], -1)], [(1304, [0, 3, 4, 5, 1, 6, 7, 8]), (1350, [0, 6, 3, 7, 8, 9])])), (none, [], ([], [], [], [(66859, [0, 1, 2, 0, 3, 4, 5, 1, 6, 7, 8])]), [[]]), ([], []), { frames := 0, cells := 0, slots := 0, locals := 0 })
noncomputable def ag_ruHIkSE : aCon := (y_BO_inCheck, false, 10, ([(.inr (some (.inl (false, 16))), none), (.inl (0, 20736), none), (.inl (0, 20736), none), (.inl (0, 0), none), (.inl (0, 20736), none), (.inl (0, 63), none), (.inl (0, 63), none), (.inl (0, 1), none), (.inl (0, 20736), none), (.inl (0, 20736), none)], ([], [], [([(8, 1), (1, -1)], -1), ([(8, -1), (1, 1)], 1), ([(9, 1), (4, -1)], -1), ([(9, -1), (4, 1)], 1)], [(1320, [0, 1, 2, 3, 4, 5, 6, 7])])), (none, [], ([], [], [], [(1304, [0, 8, 2, 3, 9, 5, 6, 7])]), [[]]), ([], []), { frames := 0, cells := 0, slots := 0, locals := 0 })
noncomputable def ag_ruHInSE : aCon := (y_BO_inCheck, false, 10, ([(.inr (some (.inl (false, 16))), none), (.inl (0, 20736), none), (.inl (0, 20736), none), (.inl (0, 0), none), (.inl (0, 20736), none), (.inl (0, 63), none), (.inl (0, 63), none), (.inl (0, 1), none), (.inl (0, 20736), none), (.inl (0, 0), none)], ([], [], [([(8, 1), (1, -1)], -1), ([(8, -1), (1, 1)], 1)], [(1304, [0, 1, 2, 3, 4, 5, 6, 7]), (1350, [0, 5, 1, 6, 7, 9])])), (none, [], ([], [], [], [(1304, [0, 8, 2, 3, 4, 5, 6, 7])]), [[]]), ([], []), { frames := 0, cells := 0, slots := 0, locals := 0 })
noncomputable def ag_ruHQnSE : aCon := (y_BO_inCheck, false, 9, ([(.inr (some (.inl (false, 16))), none), (.inl (0, 20736), none), (.inl (0, 20736), none), (.inl (0, 0), none), (.inl (0, 20736), none), (.inl (0, 63), none), (.inl (0, 63), none), (.inl (0, 1), none), (.inl (0, 64), none)], ([], [], [([(8, 1), (5, -1)], -1), ([(8, -1), (5, 1)], 1), ([(1, 1), (2, -1)], 0)], [(1304, [0, 1, 2, 3, 4, 5, 6, 7])])), (none, [], ([], [], [], [(133, [3, 4, 8, 6, 7])]), [[]]), ([], []), { frames := 0, cells := 0, slots := 0, locals := 0 })
noncomputable def ag_ruHEfSE : aCon := (y_BO_inCheck, false, 6, ([(.inl (0, 0), none), (.inl (0, 20736), none), (.inl (0, 64), none), (.inl (0, 63), none), (.inl (0, 1), none), (.inr (some (.inl (false, 26))), none)], ([], [], [([(2, 1)], -64), ([(1, 1), (0, -1)], 0)], [(133, [0, 1, 2, 3, 4]), (17, [5]), (964, [5, 3, 3, 3])])), (none, [], ([], [], [], [(963, [5, 0, 1])]), [[]]), ([], []), { frames := 0, cells := 0, slots := 0, locals := 0 })
noncomputable def ag_ruHEkSE : aCon := (y_BO_inCheck, false, 6, ([(.inl (0, 0), none), (.inl (0, 20736), none), (.inl (0, 64), none), (.inl (0, 63), none), (.inl (0, 1), none), (.inr (some (.inl (false, 26))), none)], ([], [], [([(1, 1), (0, -1)], -1), ([(1, 1), (0, -1)], 0)], [(133, [0, 1, 2, 3, 4]), (17, [5]), (964, [5, 3, 3, 3])])), (none, [], ([], [], [], [(963, [5, 0, 1])]), [[]]), ([], []), { frames := 0, cells := 0, slots := 0, locals := 0 })
noncomputable def ag_ruHQ0EN : aCon := (y_BO_inCheck, false, 6, ([(.inl (0, 0), none), (.inl (0, 0), none), (.inl (0, 63), none), (.inl (0, 1), none), (.inr (some (.inl (false, 26))), none), (.inl (0, 1), none), (.inl (0, 1), none)], ([(4, 2, 6)], [], [([(5, 1), (6, 1)], -1), ([(5, -1), (6, -1)], 1)], [(17, [4]), (3252, [4, 2, 5, 3])])), (none, [], ([], [], [], [(133, [0, 0, 1, 2, 3])]), [[]]), ([], []), { frames := 0, cells := 0, slots := 0, locals := 0 })
noncomputable def ag_ruHQeEN : aCon := (y_BO_inCheck, false, 6, ([(.inl (0, 0), none), (.inl (0, 1728), none), (.inl (0, 63), none), (.inl (0, 63), none), (.inl (0, 1), none), (.inl (0, 64), none)], ([], [], [([(5, 1), (2, -1)], -1), ([(5, -1), (2, 1)], 1)], [(133, [0, 1, 2, 3, 4]), (769, [2])])), (none, [], ([], [], [], [(133, [0, 1, 5, 3, 4])]), [[]]), ([], []), { frames := 0, cells := 0, slots := 0, locals := 0 })
noncomputable def ag_ruGUEN : aCon := (y_BO_inCheck, false, 6, ([(.inr (some (.inl (false, 24))), none), (.inl (0, 1728), none), (.inl (0, 1728), none), (.inl (0, 63), none), (.inl (0, 1), none), (.inl (1, 5), none)], ([], [], [], [(1300, [0, 1, 2, 3]), (402, [3, 5])])), (none, [], ([], [], [], [(1317, [0, 1, 2, 3, 4])]), [[]]), ([], []), { frames := 0, cells := 0, slots := 0, locals := 0 })
noncomputable def ag_ruHI0EN : aCon := (y_BO_inCheck, false, 9, ([(.inr (some (.inl (false, 24))), none), (.inl (0, 1728), none), (.inl (0, 1728), none), (.inl (0, 0), none), (.inl (0, 63), none), (.inl (0, 63), none), (.inl (0, 1), none), (.inl (1, 6), none), (.inr (some (.inl (false, 26))), none)], ([], [], [], [(17, [8]), (133, [3, 1, 4, 5, 6]), (1317, [0, 1, 2, 4, 6]), (402, [4, 7])])), (none, [], ([], [], [], [(1304, [0, 1, 2, 3, 1, 4, 5, 6])]), [[]]), ([], []), { frames := 0, cells := 0, slots := 0, locals := 0 })
noncomputable def ag_ruSFLEN : aCon := (y_BO_inCheck, false, 7, ([(.inr (some (.inl (false, 24))), none), (.inl (0, 63), none), (.inl (0, 1728), none), (.inl (0, 63), none), (.inl (0, 1), none), (.inl (0, 1), none), (.inl (0, 32767), none)], ([], [(0, ([(2, 1)], 0), 6)], [], [(469, [3, 4, 1, 6, 5])])), (none, [], ([], [], [], [(1350, [0, 1, 2, 3, 4, 5])]), [[]]), ([], []), { frames := 0, cells := 0, slots := 0, locals := 0 })
noncomputable def ag_ruHIsEN : aCon := (y_BO_inCheck, false, 10, ([(.inr (some (.inl (false, 24))), none), (.inl (0, 1728), none), (.inl (0, 32767), none), (.inl (0, 1728), none), (.inl (0, 1728), none), (.inl (0, 0), none), (.inl (0, 63), none), (.inl (0, 63), none), (.inl (0, 1), none), (.inl (1, 1), none)], ([], [(0, ([(3, 1)], 0), 2)], [([(3, 1), (1, -1)], 0), ([(4, 1), (3, -1)], -1)], [(1304, [0, 3, 4, 5, 1, 6, 7, 8]), (1350, [0, 6, 3, 7, 8, 9])])), (none, [], ([], [], [], [(66859, [0, 1, 2, 0, 3, 4, 5, 1, 6, 7, 8])]), [[]]), ([], []), { frames := 0, cells := 0, slots := 0, locals := 0 })
noncomputable def ag_ruHIkEN : aCon := (y_BO_inCheck, false, 10, ([(.inr (some (.inl (false, 24))), none), (.inl (0, 1728), none), (.inl (0, 1728), none), (.inl (0, 0), none), (.inl (0, 1728), none), (.inl (0, 63), none), (.inl (0, 63), none), (.inl (0, 1), none), (.inl (0, 1728), none), (.inl (0, 1728), none)], ([], [], [([(8, 1), (1, -1)], -1), ([(8, -1), (1, 1)], 1), ([(9, 1), (4, -1)], -1), ([(9, -1), (4, 1)], 1)], [(1320, [0, 1, 2, 3, 4, 5, 6, 7])])), (none, [], ([], [], [], [(1304, [0, 8, 2, 3, 9, 5, 6, 7])]), [[]]), ([], []), { frames := 0, cells := 0, slots := 0, locals := 0 })
noncomputable def ag_ruHInEN : aCon := (y_BO_inCheck, false, 10, ([(.inr (some (.inl (false, 24))), none), (.inl (0, 1728), none), (.inl (0, 1728), none), (.inl (0, 0), none), (.inl (0, 1728), none), (.inl (0, 63), none), (.inl (0, 63), none), (.inl (0, 1), none), (.inl (0, 1728), none), (.inl (0, 0), none)], ([], [], [([(8, 1), (1, -1)], -1), ([(8, -1), (1, 1)], 1)], [(1304, [0, 1, 2, 3, 4, 5, 6, 7]), (1350, [0, 5, 1, 6, 7, 9])])), (none, [], ([], [], [], [(1304, [0, 8, 2, 3, 4, 5, 6, 7])]), [[]]), ([], []), { frames := 0, cells := 0, slots := 0, locals := 0 })
noncomputable def ag_ruHQnEN : aCon := (y_BO_inCheck, false, 9, ([(.inr (some (.inl (false, 24))), none), (.inl (0, 1728), none), (.inl (0, 1728), none), (.inl (0, 0), none), (.inl (0, 1728), none), (.inl (0, 63), none), (.inl (0, 63), none), (.inl (0, 1), none), (.inl (0, 64), none)], ([], [], [([(8, 1), (5, -1)], -1), ([(8, -1), (5, 1)], 1), ([(1, 1), (2, -1)], 0)], [(1304, [0, 1, 2, 3, 4, 5, 6, 7])])), (none, [], ([], [], [], [(133, [3, 4, 8, 6, 7])]), [[]]), ([], []), { frames := 0, cells := 0, slots := 0, locals := 0 })
noncomputable def ag_ruHEfEN : aCon := (y_BO_inCheck, false, 6, ([(.inl (0, 0), none), (.inl (0, 1728), none), (.inl (0, 64), none), (.inl (0, 63), none), (.inl (0, 1), none), (.inr (some (.inl (false, 26))), none)], ([], [], [([(2, 1)], -64), ([(1, 1), (0, -1)], 0)], [(133, [0, 1, 2, 3, 4]), (17, [5]), (964, [5, 3, 3, 3])])), (none, [], ([], [], [], [(963, [5, 0, 1])]), [[]]), ([], []), { frames := 0, cells := 0, slots := 0, locals := 0 })
noncomputable def ag_ruHEkEN : aCon := (y_BO_inCheck, false, 6, ([(.inl (0, 0), none), (.inl (0, 1728), none), (.inl (0, 64), none), (.inl (0, 63), none), (.inl (0, 1), none), (.inr (some (.inl (false, 26))), none)], ([], [], [([(1, 1), (0, -1)], -1), ([(1, 1), (0, -1)], 0)], [(133, [0, 1, 2, 3, 4]), (17, [5]), (964, [5, 3, 3, 3])])), (none, [], ([], [], [], [(963, [5, 0, 1])]), [[]]), ([], []), { frames := 0, cells := 0, slots := 0, locals := 0 })
end
section
/-! exact rules, legal moves: their proofs -/
theorem fK_1 {K : Nat → Nat} {n : Nat} {p : fP} {σ : Nat → jcell} {a : Nat} : fB K n p 60 [fR a] σ ↔ ∃ h, fKg K n σ a h ∧ fHL (fq p).1 (fq p).2 h.toInt := by
  rw [fK_o]
  constructor
  · rintro (⟨a', h, hk, ⟨e, hl⟩ | ⟨z, r, e, -⟩ | e⟩ | ⟨a', r, e, -⟩)
    · cases e
      exact ⟨h, hk, hl⟩
    · cases e
    · cases e
    · cases e
  · rintro ⟨h, hk, hl⟩
    exact Or.inl ⟨a, h, hk, Or.inl ⟨rfl, hl⟩⟩
theorem fK_2 {K : Nat → Nat} {n : Nat} {p : fP} {σ : Nat → jcell} {a : Nat} {r : Int32} : fB K n p 60 [fR a, fI r] σ ↔ (¬ r.toInt = 0 ∨ ∃ h, fKg K n σ a h ∧ fHL (fq p).1 (fq p).2 h.toInt) := by
  rw [fK_o]
  constructor
  · rintro (⟨a', h, hk, ⟨e, hl⟩ | ⟨z, r, e, -⟩ | e⟩ | ⟨a', r, e, hl⟩)
    · cases e
    · cases e
    · cases e
    · cases e
      exact hl
  · intro hl
    exact Or.inr ⟨a, r, rfl, hl⟩
theorem fK_3 {K : Nat → Nat} {n : Nat} {p : fP} {σ : Nat → jcell} {a : Nat} {z r : Int32} : fB K n p 60 [fR a, fI z, fI r] σ ↔ ∃ h, fKg K n σ a h ∧ (z.toInt < r.toInt → fHL (fq p).1 (fq p).2 h.toInt) ∧ (z.toInt = r.toInt → ¬ fHL (fq p).1 (fq p).2 h.toInt) := by
  rw [fK_o]
  constructor
  · rintro (⟨a', h, hk, ⟨e, hl⟩ | ⟨z, r, e, hl⟩ | e⟩ | ⟨a', r, e, -⟩)
    · cases e
    · cases e
      exact ⟨h, hk, hl⟩
    · cases e
    · cases e
  · rintro ⟨h, hk, hl⟩
    exact Or.inl ⟨a, h, hk, Or.inr (Or.inl ⟨z, r, rfl, hl⟩)⟩
theorem fK_4 {K : Nat → Nat} {n : Nat} {p : fP} {σ : Nat → jcell} {a : Nat} {x : Int32} : fB K n p 60 [fR a, fI x, fI x, fI x] σ ↔ fKg K n σ a x := by
  rw [fK_o]
  constructor
  · rintro (⟨a', h, hk, ⟨e, hl⟩ | ⟨z, r, e, hl⟩ | e⟩ | ⟨a', r, e, -⟩)
    · cases e
    · cases e
    · cases e
      exact hk
    · cases e
  · intro hk
    exact Or.inl ⟨a, x, hk, Or.inr (Or.inr rfl)⟩
theorem fAt_me {K : Nat → Nat} {n : Nat} {σ : Nat → jcell} {a : Nat} {men F g : Nat → Int32} (h : fAt K n σ a men F) (w : fMe K n σ a g) : ∀ i, i < 64 → g i = men i := by
  obtain ⟨h1, h2, fs, r, g', h3, h4, h5, h6, h7, h8, -⟩ := h
  obtain ⟨r', ⟨-, -, c, fs', e1, e2⟩, -, -, l3⟩ := w
  rw [h3] at e1
  cases e1
  rw [h4] at e2
  cases e2
  rw [h7] at l3
  cases l3
  exact h8
theorem fA7 {x : Int32} (h : 0 ≤ x.toInt) : (x &&& 7).toInt = x.toInt % 8 := by
  have k7 : (7 : Int32).toInt = 7 := by decide
  have := aAnd_m (x := x) (y := 7) h (by decide) (by decide)
  rw [k7] at this
  exact this
theorem nI_self {x : Int32} (h : 0 ≤ x.toInt) : nI x.toInt.toNat = x := by
  have := Int32.toInt_lt x
  exact fI32 (by rw [nI_toInt (by omega)]; omega)
/-- what safe is, over the numbers at hand -/
theorem fSf_iff {M F : Nat → Int32} {h ck : Int} {f t w mn m : Int32} (hf : 0 ≤ f.toInt) (ht : t.toInt = fMt m) (hw : w = bWh M F f.toInt.toNat t.toInt.toNat) (hm : M f.toInt.toNat = mn) : fSf M F h ck f.toInt m ↔ (fFr h f.toInt ck ∧ w = t) ∨ (¬ fAk (fOv M f w t mn) (if mn.toInt % 8 = 6 then t.toInt else h) (1 - (F 2).toInt) ∧ (mn.toInt % 8 = 6 → (t.toInt - f.toInt = 2 ∨ f.toInt - t.toInt = 2) → ¬ fAk (fOv M f w t mn) ((f.toInt + t.toInt) / 2) (1 - (F 2).toInt))) := by
  have e1 : fMt m = t.toInt.toNat := by omega
  have e2 := nI_self hf
  have e3 : nI t.toInt.toNat = t := nI_self (by omega)
  unfold fSf
  rw [e1, ← hw, hm, e2, e3, show ((t.toInt.toNat : Nat) : Int) = t.toInt by omega]
theorem fCk_u {M F : Nat → Int32} {h c d : Int} (h1 : fCk M F h c) (h2 : (d = 0 ∨ d = 1) ∧ (d = 1 ↔ fAk M h (1 - (F 2).toInt))) : d = c := by
  obtain ⟨a1, a2⟩ := h1
  obtain ⟨b1, b2⟩ := h2
  by_cases hh : fAk M h (1 - (F 2).toInt)
  · rw [a2.mpr hh, b2.mpr hh]
  · have x1 : ¬ c = 1 := fun e => hh (a2.mp e)
    have x2 : ¬ d = 1 := fun e => hh (b2.mp e)
    omega
theorem fA_14 {K : Nat → Nat} {n : Nat} {t0 t1 t2 t3 t4 t5 t6 t7 t8 t9 t10 t11 t12 t13 : aT} {ρ : List jv} (h : aAG K n [t0, t1, t2, t3, t4, t5, t6, t7, t8, t9, t10, t11, t12, t13] ρ) : ∃ v0 v1 v2 v3 v4 v5 v6 v7 v8 v9 v10 v11 v12 v13 : jv, ρ = [v0, v1, v2, v3, v4, v5, v6, v7, v8, v9, v10, v11, v12, v13] ∧ aG K n t0 v0 ∧ aG K n t1 v1 ∧ aG K n t2 v2 ∧ aG K n t3 v3 ∧ aG K n t4 v4 ∧ aG K n t5 v5 ∧ aG K n t6 v6 ∧ aG K n t7 v7 ∧ aG K n t8 v8 ∧ aG K n t9 v9 ∧ aG K n t10 v10 ∧ aG K n t11 v11 ∧ aG K n t12 v12 ∧ aG K n t13 v13 := by
  match ρ, h with
  | [v0, v1, v2, v3, v4, v5, v6, v7, v8, v9, v10, v11, v12, v13], h => exact ⟨v0, v1, v2, v3, v4, v5, v6, v7, v8, v9, v10, v11, v12, v13, rfl, h.1, h.2.1, h.2.2.1, h.2.2.2.1, h.2.2.2.2.1, h.2.2.2.2.2.1, h.2.2.2.2.2.2.1, h.2.2.2.2.2.2.2.1, h.2.2.2.2.2.2.2.2.1, h.2.2.2.2.2.2.2.2.2.1, h.2.2.2.2.2.2.2.2.2.2.1, h.2.2.2.2.2.2.2.2.2.2.2.1, h.2.2.2.2.2.2.2.2.2.2.2.2.1, h.2.2.2.2.2.2.2.2.2.2.2.2.2.1⟩
set_option maxRecDepth 8192 in
theorem rw_ruICa {K : Nat → Nat} {n : Nat} : aGho (fF K n) fa_T K n (fJX K n) ag_ruICa := by
  refine aGho_of ⟨rfl, rfl⟩ ?_
  intro p σ ρ hH hX hA hM
  have hG := aAG_of hA.1 (fun i e v he hv => (hA.2 i e v he hv).1)
  clear hA
  obtain ⟨v0, v1, v2, rfl, g0, g1, g2⟩ := fA_3 hG
  clear hG
  obtain ⟨x0, rfl, b0, d0⟩ := aG_int g0
  dsimp only at b0 d0
  obtain ⟨x1, rfl, b1, d1⟩ := aG_int g1
  dsimp only at b1 d1
  obtain ⟨x2, rfl, b2, d2⟩ := aG_int g2
  dsimp only at b2 d2
  obtain ⟨m1, m2, m3, m4⟩ := hM
  have l0 : 0 ≤ (1 * x1.toInt + (-1 * x0.toInt + 0)) + -2 := by
    obtain ⟨z, e6, e7⟩ := m3 ([(1, 1), (0, -1)], -2) (List.mem_of_getElem? (i := 0) rfl)
    obtain rfl : (1 * x1.toInt + (-1 * x0.toInt + 0)) = z := Option.some.inj (show some (1 * x1.toInt + (-1 * x0.toInt + 0)) = some z from e6)
    exact e7
  have l1 : 0 ≤ (-1 * x1.toInt + (1 * x0.toInt + 0)) + 2 := by
    obtain ⟨z, e6, e7⟩ := m3 ([(1, -1), (0, 1)], 2) (List.mem_of_getElem? (i := 1) rfl)
    obtain rfl : (-1 * x1.toInt + (1 * x0.toInt + 0)) = z := Option.some.inj (show some (-1 * x1.toInt + (1 * x0.toInt + 0)) = some z from e6)
    exact e7
  clear m1 m2 m3 m4
  have q0 : fB K n (p) 211 [fI x0, fI x1, fI x2] σ := by
    refine (fP_o (by decide)).mpr ⟨x0, x1, x2, rfl, Or.inl ⟨by omega, by omega⟩⟩
  exact ⟨p, fun _ => rfl, ⟨(fun q h => by cases h), fun q h => (by cases h), (fun f h => by cases h), (aAllc ⟨_, rfl, (fF_b (r := 3379) (by decide) rfl).mpr q0⟩ (fun f h => by cases h))⟩, [], List.mem_cons_self, fun f h => (by cases h)⟩
set_option maxRecDepth 8192 in
theorem rw_ruICb {K : Nat → Nat} {n : Nat} : aGho (fF K n) fa_T K n (fJX K n) ag_ruICb := by
  refine aGho_of ⟨rfl, rfl⟩ ?_
  intro p σ ρ hH hX hA hM
  have hG := aAG_of hA.1 (fun i e v he hv => (hA.2 i e v he hv).1)
  clear hA
  obtain ⟨v0, v1, v2, rfl, g0, g1, g2⟩ := fA_3 hG
  clear hG
  obtain ⟨x0, rfl, b0, d0⟩ := aG_int g0
  dsimp only at b0 d0
  obtain ⟨x1, rfl, b1, d1⟩ := aG_int g1
  dsimp only at b1 d1
  obtain ⟨x2, rfl, b2, d2⟩ := aG_int g2
  dsimp only at b2 d2
  obtain ⟨m1, m2, m3, m4⟩ := hM
  have l0 : 0 ≤ (1 * x0.toInt + (-1 * x1.toInt + 0)) + -2 := by
    obtain ⟨z, e6, e7⟩ := m3 ([(0, 1), (1, -1)], -2) (List.mem_of_getElem? (i := 0) rfl)
    obtain rfl : (1 * x0.toInt + (-1 * x1.toInt + 0)) = z := Option.some.inj (show some (1 * x0.toInt + (-1 * x1.toInt + 0)) = some z from e6)
    exact e7
  have l1 : 0 ≤ (-1 * x0.toInt + (1 * x1.toInt + 0)) + 2 := by
    obtain ⟨z, e6, e7⟩ := m3 ([(0, -1), (1, 1)], 2) (List.mem_of_getElem? (i := 1) rfl)
    obtain rfl : (-1 * x0.toInt + (1 * x1.toInt + 0)) = z := Option.some.inj (show some (-1 * x0.toInt + (1 * x1.toInt + 0)) = some z from e6)
    exact e7
  clear m1 m2 m3 m4
  have q0 : fB K n (p) 211 [fI x0, fI x1, fI x2] σ := by
    refine (fP_o (by decide)).mpr ⟨x0, x1, x2, rfl, Or.inl ⟨by omega, by omega⟩⟩
  exact ⟨p, fun _ => rfl, ⟨(fun q h => by cases h), fun q h => (by cases h), (fun f h => by cases h), (aAllc ⟨_, rfl, (fF_b (r := 3379) (by decide) rfl).mpr q0⟩ (fun f h => by cases h))⟩, [], List.mem_cons_self, fun f h => (by cases h)⟩
set_option maxRecDepth 8192 in
theorem rw_ruICc {K : Nat → Nat} {n : Nat} : aGho (fF K n) fa_T K n (fJX K n) ag_ruICc := by
  refine aGho_of ⟨rfl, rfl⟩ ?_
  intro p σ ρ hH hX hA hM
  have hG := aAG_of hA.1 (fun i e v he hv => (hA.2 i e v he hv).1)
  clear hA
  obtain ⟨v0, v1, v2, rfl, g0, g1, g2⟩ := fA_3 hG
  clear hG
  obtain ⟨x0, rfl, b0, d0⟩ := aG_int g0
  dsimp only at b0 d0
  obtain ⟨x1, rfl, b1, d1⟩ := aG_int g1
  dsimp only at b1 d1
  obtain ⟨x2, rfl, b2, d2⟩ := aG_int g2
  dsimp only at b2 d2
  obtain ⟨m1, m2, m3, m4⟩ := hM
  have l0 : 0 ≤ (1 * x1.toInt + (-1 * x0.toInt + 0)) + -3 := by
    obtain ⟨z, e6, e7⟩ := m3 ([(1, 1), (0, -1)], -3) (List.mem_of_getElem? (i := 0) rfl)
    obtain rfl : (1 * x1.toInt + (-1 * x0.toInt + 0)) = z := Option.some.inj (show some (1 * x1.toInt + (-1 * x0.toInt + 0)) = some z from e6)
    exact e7
  clear m1 m2 m3 m4
  have q0 : fB K n (p) 211 [fI x0, fI x1, fI x2] σ := by
    refine (fP_o (by decide)).mpr ⟨x0, x1, x2, rfl, Or.inr ⟨by omega, by omega⟩⟩
  exact ⟨p, fun _ => rfl, ⟨(fun q h => by cases h), fun q h => (by cases h), (fun f h => by cases h), (aAllc ⟨_, rfl, (fF_b (r := 3379) (by decide) rfl).mpr q0⟩ (fun f h => by cases h))⟩, [], List.mem_cons_self, fun f h => (by cases h)⟩
set_option maxRecDepth 8192 in
theorem rw_ruICd {K : Nat → Nat} {n : Nat} : aGho (fF K n) fa_T K n (fJX K n) ag_ruICd := by
  refine aGho_of ⟨rfl, rfl⟩ ?_
  intro p σ ρ hH hX hA hM
  have hG := aAG_of hA.1 (fun i e v he hv => (hA.2 i e v he hv).1)
  clear hA
  obtain ⟨v0, v1, v2, rfl, g0, g1, g2⟩ := fA_3 hG
  clear hG
  obtain ⟨x0, rfl, b0, d0⟩ := aG_int g0
  dsimp only at b0 d0
  obtain ⟨x1, rfl, b1, d1⟩ := aG_int g1
  dsimp only at b1 d1
  obtain ⟨x2, rfl, b2, d2⟩ := aG_int g2
  dsimp only at b2 d2
  obtain ⟨m1, m2, m3, m4⟩ := hM
  have l0 : 0 ≤ (1 * x0.toInt + (-1 * x1.toInt + 0)) + -3 := by
    obtain ⟨z, e6, e7⟩ := m3 ([(0, 1), (1, -1)], -3) (List.mem_of_getElem? (i := 0) rfl)
    obtain rfl : (1 * x0.toInt + (-1 * x1.toInt + 0)) = z := Option.some.inj (show some (1 * x0.toInt + (-1 * x1.toInt + 0)) = some z from e6)
    exact e7
  clear m1 m2 m3 m4
  have q0 : fB K n (p) 211 [fI x0, fI x1, fI x2] σ := by
    refine (fP_o (by decide)).mpr ⟨x0, x1, x2, rfl, Or.inr ⟨by omega, by omega⟩⟩
  exact ⟨p, fun _ => rfl, ⟨(fun q h => by cases h), fun q h => (by cases h), (fun f h => by cases h), (aAllc ⟨_, rfl, (fF_b (r := 3379) (by decide) rfl).mpr q0⟩ (fun f h => by cases h))⟩, [], List.mem_cons_self, fun f h => (by cases h)⟩
set_option maxRecDepth 8192 in
theorem rw_ruICe {K : Nat → Nat} {n : Nat} : aGho (fF K n) fa_T K n (fJX K n) ag_ruICe := by
  refine aGho_of ⟨rfl, rfl⟩ ?_
  intro p σ ρ hH hX hA hM
  have hG := aAG_of hA.1 (fun i e v he hv => (hA.2 i e v he hv).1)
  clear hA
  obtain ⟨v0, v1, v2, rfl, g0, g1, g2⟩ := fA_3 hG
  clear hG
  obtain ⟨x0, rfl, b0, d0⟩ := aG_int g0
  dsimp only at b0 d0
  obtain ⟨x1, rfl, b1, d1⟩ := aG_int g1
  dsimp only at b1 d1
  obtain ⟨x2, rfl, b2, d2⟩ := aG_int g2
  dsimp only at b2 d2
  obtain ⟨m1, m2, m3, m4⟩ := hM
  have l0 : 0 ≤ (1 * x1.toInt + (-1 * x0.toInt + 0)) + 1 := by
    obtain ⟨z, e6, e7⟩ := m3 ([(1, 1), (0, -1)], 1) (List.mem_of_getElem? (i := 0) rfl)
    obtain rfl : (1 * x1.toInt + (-1 * x0.toInt + 0)) = z := Option.some.inj (show some (1 * x1.toInt + (-1 * x0.toInt + 0)) = some z from e6)
    exact e7
  have l1 : 0 ≤ (1 * x0.toInt + (-1 * x1.toInt + 0)) + 1 := by
    obtain ⟨z, e6, e7⟩ := m3 ([(0, 1), (1, -1)], 1) (List.mem_of_getElem? (i := 1) rfl)
    obtain rfl : (1 * x0.toInt + (-1 * x1.toInt + 0)) = z := Option.some.inj (show some (1 * x0.toInt + (-1 * x1.toInt + 0)) = some z from e6)
    exact e7
  clear m1 m2 m3 m4
  have q0 : fB K n (p) 211 [fI x0, fI x1, fI x2] σ := by
    refine (fP_o (by decide)).mpr ⟨x0, x1, x2, rfl, Or.inr ⟨by omega, by omega⟩⟩
  exact ⟨p, fun _ => rfl, ⟨(fun q h => by cases h), fun q h => (by cases h), (fun f h => by cases h), (aAllc ⟨_, rfl, (fF_b (r := 3379) (by decide) rfl).mpr q0⟩ (fun f h => by cases h))⟩, [], List.mem_cons_self, fun f h => (by cases h)⟩
set_option maxRecDepth 8192 in
theorem rw_ruWPa {K : Nat → Nat} {n : Nat} : aGho (fF K n) fa_T K n (fJX K n) ag_ruWPa := by
  refine aGho_of ⟨rfl, rfl⟩ ?_
  intro p σ ρ hH hX hA hM
  have hG := aAG_of hA.1 (fun i e v he hv => (hA.2 i e v he hv).1)
  clear hA
  obtain ⟨v0, v1, v2, v3, rfl, g0, g1, g2, g3⟩ := fA_4 hG
  clear hG
  obtain ⟨x0, rfl, b0, d0⟩ := fG_ref (by decide) g0
  obtain ⟨x1, rfl, b1, d1⟩ := aG_int g1
  dsimp only at b1 d1
  obtain ⟨x2, rfl, b2, d2⟩ := aG_int g2
  dsimp only at b2 d2
  obtain ⟨x3, rfl, b3, d3⟩ := aG_int g3
  dsimp only at b3 d3
  obtain ⟨m1, m2, m3, m4⟩ := hM
  obtain ⟨a0, c0, fs0, w0, e1, s0, t0, e4⟩ := m1 (0, 2, 2) (List.mem_of_getElem? (i := 0) rfl)
  obtain rfl : x0 = a0 := Sum.inl.inj (Option.some.inj (Sum.inr.inj (Sum.inr.inj (Option.some.inj (show some (fR x0) = some _ from e1)))))
  obtain rfl : fI x2 = w0 := Option.some.inj (show some (fI x2) = some w0 from e4)
  clear e1 e4
  obtain ⟨a1, c1, fs1, w1, e1, s1, t1, e4⟩ := m1 (0, 4, 3) (List.mem_of_getElem? (i := 1) rfl)
  obtain rfl : x0 = a1 := Sum.inl.inj (Option.some.inj (Sum.inr.inj (Sum.inr.inj (Option.some.inj (show some (fR x0) = some _ from e1)))))
  obtain rfl : fI x3 = w1 := Option.some.inj (show some (fI x3) = some w1 from e4)
  clear e1 e4
  have l0 : 0 ≤ (1 * x1.toInt + (-1 * x3.toInt + 0)) + 8 := by
    obtain ⟨z, e6, e7⟩ := m3 ([(1, 1), (3, -1)], 8) (List.mem_of_getElem? (i := 0) rfl)
    obtain rfl : (1 * x1.toInt + (-1 * x3.toInt + 0)) = z := Option.some.inj (show some (1 * x1.toInt + (-1 * x3.toInt + 0)) = some z from e6)
    exact e7
  have l1 : 0 ≤ (-1 * x1.toInt + (1 * x3.toInt + 0)) + -8 := by
    obtain ⟨z, e6, e7⟩ := m3 ([(1, -1), (3, 1)], -8) (List.mem_of_getElem? (i := 1) rfl)
    obtain rfl : (-1 * x1.toInt + (1 * x3.toInt + 0)) = z := Option.some.inj (show some (-1 * x1.toInt + (1 * x3.toInt + 0)) = some z from e6)
    exact e7
  have f0 : fB K n p 1 [fR x0] σ := by
    obtain ⟨w, e6, e7⟩ := m4 (17, [0]) (List.mem_of_getElem? (i := 0) rfl)
    obtain rfl : [fR x0] = w := Option.some.inj (show some [fR x0] = some w from e6)
    exact (fF_b (r := 17) (by decide) rfl).mp e7
  clear m1 m2 m3 m4
  obtain ⟨a9_0, e9_0, h0, g0⟩ := f0
  cases e9_0
  have hF := fAt_of h0 s0
  have hsd := hF.2.1 x2 t0
  have hps := hF.2.2.2.1 x3 (by rw [s0] at s1; cases s1; exact t1)
  have k8 : (8 : Int32).toInt = 8 := by decide
  have q0 : fB K n (p) 17 [fI x1] σ := by
    refine (fE_o (by decide)).mpr (Or.inl ⟨x1, rfl, ?_⟩)
    unfold bPP
    rw [← hsd, ← hps, if_pos (fI32 (show x2.toInt = (0 : Int32).toInt by rw [show (0 : Int32).toInt = 0 by decide]; omega))]
    exact fI32 (by rw [Int32.toInt_sub, k8, Int.bmod_eq_of_le (by omega) (by omega)]; omega)
  exact ⟨p, fun _ => rfl, ⟨(fun q h => by cases h), fun q h => (by cases h), (fun f h => by cases h), (aAllc ⟨_, rfl, (fF_b (r := 273) (by decide) rfl).mpr q0⟩ (fun f h => by cases h))⟩, [], List.mem_cons_self, fun f h => (by cases h)⟩
set_option maxRecDepth 8192 in
theorem rw_ruWPb {K : Nat → Nat} {n : Nat} : aGho (fF K n) fa_T K n (fJX K n) ag_ruWPb := by
  refine aGho_of ⟨rfl, rfl⟩ ?_
  intro p σ ρ hH hX hA hM
  have hG := aAG_of hA.1 (fun i e v he hv => (hA.2 i e v he hv).1)
  clear hA
  obtain ⟨v0, v1, v2, v3, rfl, g0, g1, g2, g3⟩ := fA_4 hG
  clear hG
  obtain ⟨x0, rfl, b0, d0⟩ := fG_ref (by decide) g0
  obtain ⟨x1, rfl, b1, d1⟩ := aG_int g1
  dsimp only at b1 d1
  obtain ⟨x2, rfl, b2, d2⟩ := aG_int g2
  dsimp only at b2 d2
  obtain ⟨x3, rfl, b3, d3⟩ := aG_int g3
  dsimp only at b3 d3
  obtain ⟨m1, m2, m3, m4⟩ := hM
  obtain ⟨a0, c0, fs0, w0, e1, s0, t0, e4⟩ := m1 (0, 2, 2) (List.mem_of_getElem? (i := 0) rfl)
  obtain rfl : x0 = a0 := Sum.inl.inj (Option.some.inj (Sum.inr.inj (Sum.inr.inj (Option.some.inj (show some (fR x0) = some _ from e1)))))
  obtain rfl : fI x2 = w0 := Option.some.inj (show some (fI x2) = some w0 from e4)
  clear e1 e4
  obtain ⟨a1, c1, fs1, w1, e1, s1, t1, e4⟩ := m1 (0, 4, 3) (List.mem_of_getElem? (i := 1) rfl)
  obtain rfl : x0 = a1 := Sum.inl.inj (Option.some.inj (Sum.inr.inj (Sum.inr.inj (Option.some.inj (show some (fR x0) = some _ from e1)))))
  obtain rfl : fI x3 = w1 := Option.some.inj (show some (fI x3) = some w1 from e4)
  clear e1 e4
  have l0 : 0 ≤ (1 * x1.toInt + (-1 * x3.toInt + 0)) + -8 := by
    obtain ⟨z, e6, e7⟩ := m3 ([(1, 1), (3, -1)], -8) (List.mem_of_getElem? (i := 0) rfl)
    obtain rfl : (1 * x1.toInt + (-1 * x3.toInt + 0)) = z := Option.some.inj (show some (1 * x1.toInt + (-1 * x3.toInt + 0)) = some z from e6)
    exact e7
  have l1 : 0 ≤ (-1 * x1.toInt + (1 * x3.toInt + 0)) + 8 := by
    obtain ⟨z, e6, e7⟩ := m3 ([(1, -1), (3, 1)], 8) (List.mem_of_getElem? (i := 1) rfl)
    obtain rfl : (-1 * x1.toInt + (1 * x3.toInt + 0)) = z := Option.some.inj (show some (-1 * x1.toInt + (1 * x3.toInt + 0)) = some z from e6)
    exact e7
  have f0 : fB K n p 1 [fR x0] σ := by
    obtain ⟨w, e6, e7⟩ := m4 (17, [0]) (List.mem_of_getElem? (i := 0) rfl)
    obtain rfl : [fR x0] = w := Option.some.inj (show some [fR x0] = some w from e6)
    exact (fF_b (r := 17) (by decide) rfl).mp e7
  clear m1 m2 m3 m4
  obtain ⟨a9_0, e9_0, h0, g0⟩ := f0
  cases e9_0
  have hF := fAt_of h0 s0
  have hsd := hF.2.1 x2 t0
  have hps := hF.2.2.2.1 x3 (by rw [s0] at s1; cases s1; exact t1)
  have k8 : (8 : Int32).toInt = 8 := by decide
  have q0 : fB K n (p) 17 [fI x1] σ := by
    refine (fE_o (by decide)).mpr (Or.inl ⟨x1, rfl, ?_⟩)
    unfold bPP
    rw [← hsd, ← hps, if_neg (fun e => by rw [e, show (0 : Int32).toInt = 0 by decide] at b2; omega)]
    exact fI32 (by rw [Int32.toInt_add, k8, Int.bmod_eq_of_le (by omega) (by omega)]; omega)
  exact ⟨p, fun _ => rfl, ⟨(fun q h => by cases h), fun q h => (by cases h), (fun f h => by cases h), (aAllc ⟨_, rfl, (fF_b (r := 273) (by decide) rfl).mpr q0⟩ (fun f h => by cases h))⟩, [], List.mem_cons_self, fun f h => (by cases h)⟩
set_option maxRecDepth 8192 in
theorem rw_ruQF {K : Nat → Nat} {n : Nat} : aGho (fF K n) fa_T K n (fJX K n) ag_ruQF := by
  refine aGho_of ⟨rfl, rfl⟩ ?_
  intro p σ ρ hH hX hA hM
  have hG := aAG_of hA.1 (fun i e v he hv => (hA.2 i e v he hv).1)
  clear hA
  obtain ⟨v0, v1, v2, v3, v4, v5, rfl, g0, g1, g2, g3, g4, g5⟩ := fA_6 hG
  clear hG
  obtain ⟨x0, rfl, b0, d0⟩ := aG_int g0
  dsimp only at b0 d0
  obtain ⟨x1, rfl, b1, d1⟩ := aG_int g1
  dsimp only at b1 d1
  obtain ⟨x2, rfl, b2, d2⟩ := aG_int g2
  dsimp only at b2 d2
  obtain ⟨x3, rfl, b3, d3⟩ := aG_int g3
  dsimp only at b3 d3
  obtain ⟨x4, rfl, b4, d4⟩ := aG_int g4
  dsimp only at b4 d4
  obtain ⟨x5, rfl, b5, d5⟩ := aG_int g5
  dsimp only at b5 d5
  obtain ⟨m1, m2, m3, m4⟩ := hM
  have l0 : 0 ≤ (1 * x2.toInt + (-1 * x1.toInt + (8 * x4.toInt + (1 * x0.toInt + (-8 * x5.toInt + 0))))) + 0 := by
    obtain ⟨z, e6, e7⟩ := m3 ([(2, 1), (1, -1), (4, 8), (0, 1), (5, -8)], 0) (List.mem_of_getElem? (i := 0) rfl)
    obtain rfl : (1 * x2.toInt + (-1 * x1.toInt + (8 * x4.toInt + (1 * x0.toInt + (-8 * x5.toInt + 0))))) = z := Option.some.inj (show some (1 * x2.toInt + (-1 * x1.toInt + (8 * x4.toInt + (1 * x0.toInt + (-8 * x5.toInt + 0))))) = some z from e6)
    exact e7
  have l1 : 0 ≤ (-1 * x2.toInt + (1 * x1.toInt + (-8 * x4.toInt + (-1 * x0.toInt + (8 * x5.toInt + 0))))) + 0 := by
    obtain ⟨z, e6, e7⟩ := m3 ([(2, -1), (1, 1), (4, -8), (0, -1), (5, 8)], 0) (List.mem_of_getElem? (i := 1) rfl)
    obtain rfl : (-1 * x2.toInt + (1 * x1.toInt + (-8 * x4.toInt + (-1 * x0.toInt + (8 * x5.toInt + 0))))) = z := Option.some.inj (show some (-1 * x2.toInt + (1 * x1.toInt + (-8 * x4.toInt + (-1 * x0.toInt + (8 * x5.toInt + 0))))) = some z from e6)
    exact e7
  have l2 : 0 ≤ (1 * x3.toInt + (-1 * x4.toInt + (1 * x5.toInt + 0))) + 0 := by
    obtain ⟨z, e6, e7⟩ := m3 ([(3, 1), (4, -1), (5, 1)], 0) (List.mem_of_getElem? (i := 2) rfl)
    obtain rfl : (1 * x3.toInt + (-1 * x4.toInt + (1 * x5.toInt + 0))) = z := Option.some.inj (show some (1 * x3.toInt + (-1 * x4.toInt + (1 * x5.toInt + 0))) = some z from e6)
    exact e7
  have l3 : 0 ≤ (-1 * x3.toInt + (1 * x4.toInt + (-1 * x5.toInt + 0))) + 0 := by
    obtain ⟨z, e6, e7⟩ := m3 ([(3, -1), (4, 1), (5, -1)], 0) (List.mem_of_getElem? (i := 3) rfl)
    obtain rfl : (-1 * x3.toInt + (1 * x4.toInt + (-1 * x5.toInt + 0))) = z := Option.some.inj (show some (-1 * x3.toInt + (1 * x4.toInt + (-1 * x5.toInt + 0))) = some z from e6)
    exact e7
  have l4 : 0 ≤ (1 * x1.toInt + (-8 * x4.toInt + 0)) + 0 := by
    obtain ⟨z, e6, e7⟩ := m3 ([(1, 1), (4, -8)], 0) (List.mem_of_getElem? (i := 4) rfl)
    obtain rfl : (1 * x1.toInt + (-8 * x4.toInt + 0)) = z := Option.some.inj (show some (1 * x1.toInt + (-8 * x4.toInt + 0)) = some z from e6)
    exact e7
  have l5 : 0 ≤ (-1 * x1.toInt + (8 * x4.toInt + 0)) + 7 := by
    obtain ⟨z, e6, e7⟩ := m3 ([(1, -1), (4, 8)], 7) (List.mem_of_getElem? (i := 5) rfl)
    obtain rfl : (-1 * x1.toInt + (8 * x4.toInt + 0)) = z := Option.some.inj (show some (-1 * x1.toInt + (8 * x4.toInt + 0)) = some z from e6)
    exact e7
  have l6 : 0 ≤ (1 * x0.toInt + (-8 * x5.toInt + 0)) + 0 := by
    obtain ⟨z, e6, e7⟩ := m3 ([(0, 1), (5, -8)], 0) (List.mem_of_getElem? (i := 6) rfl)
    obtain rfl : (1 * x0.toInt + (-8 * x5.toInt + 0)) = z := Option.some.inj (show some (1 * x0.toInt + (-8 * x5.toInt + 0)) = some z from e6)
    exact e7
  have l7 : 0 ≤ (-1 * x0.toInt + (8 * x5.toInt + 0)) + 7 := by
    obtain ⟨z, e6, e7⟩ := m3 ([(0, -1), (5, 8)], 7) (List.mem_of_getElem? (i := 7) rfl)
    obtain rfl : (-1 * x0.toInt + (8 * x5.toInt + 0)) = z := Option.some.inj (show some (-1 * x0.toInt + (8 * x5.toInt + 0)) = some z from e6)
    exact e7
  clear m1 m2 m3 m4
  have q0 : fB K n (p) 217 [fI x0, fI x1, fI x2, fI x3] σ := by
    refine (fP_o (by decide)).mpr ⟨x0, x1, x2, x3, rfl, by omega, by omega⟩
  exact ⟨p, fun _ => rfl, ⟨(fun q h => by cases h), fun q h => (by cases h), (fun f h => by cases h), (aAllc ⟨_, rfl, (fF_b (r := 3476) (by decide) rfl).mpr q0⟩ (fun f h => by cases h))⟩, [], List.mem_cons_self, fun f h => (by cases h)⟩
set_option maxRecDepth 8192 in
theorem rw_ruNZa {K : Nat → Nat} {n : Nat} : aGho (fF K n) fa_T K n (fJX K n) ag_ruNZa := by
  refine aGho_of ⟨rfl, rfl⟩ ?_
  intro p σ ρ hH hX hA hM
  have hG := aAG_of hA.1 (fun i e v he hv => (hA.2 i e v he hv).1)
  clear hA
  obtain ⟨v0, rfl, g0⟩ := fA_1 hG
  clear hG
  obtain ⟨x0, rfl, b0, d0⟩ := aG_int g0
  dsimp only at b0 d0
  obtain ⟨m1, m2, m3, m4⟩ := hM
  have l0 : 0 ≤ (1 * x0.toInt + 0) + -1 := by
    obtain ⟨z, e6, e7⟩ := m3 ([(0, 1)], -1) (List.mem_of_getElem? (i := 0) rfl)
    obtain rfl : (1 * x0.toInt + 0) = z := Option.some.inj (show some (1 * x0.toInt + 0) = some z from e6)
    exact e7
  clear m1 m2 m3 m4
  have q0 : fB K n (p) 209 [fI x0] σ := by
    refine (fP_o (by decide)).mpr ⟨x0, rfl, by omega⟩
  exact ⟨p, fun _ => rfl, ⟨(fun q h => by cases h), fun q h => (by cases h), (fun f h => by cases h), (aAllc ⟨_, rfl, (fF_b (r := 3345) (by decide) rfl).mpr q0⟩ (fun f h => by cases h))⟩, [], List.mem_cons_self, fun f h => (by cases h)⟩
set_option maxRecDepth 8192 in
theorem rw_ruNMa {K : Nat → Nat} {n : Nat} : aGho (fF K n) fa_T K n (fJX K n) ag_ruNMa := by
  refine aGho_of ⟨rfl, rfl⟩ ?_
  intro p σ ρ hH hX hA hM
  have hG := aAG_of hA.1 (fun i e v he hv => (hA.2 i e v he hv).1)
  clear hA
  obtain ⟨v0, v1, rfl, g0, g1⟩ := fA_2 hG
  clear hG
  obtain ⟨x0, rfl, b0, d0⟩ := aG_int g0
  dsimp only at b0 d0
  obtain ⟨x1, rfl, b1, d1⟩ := aG_int g1
  dsimp only at b1 d1
  obtain ⟨m1, m2, m3, m4⟩ := hM
  have l0 : 0 ≤ (1 * x0.toInt + (1 * x1.toInt + 0)) + -1 := by
    obtain ⟨z, e6, e7⟩ := m3 ([(0, 1), (1, 1)], -1) (List.mem_of_getElem? (i := 0) rfl)
    obtain rfl : (1 * x0.toInt + (1 * x1.toInt + 0)) = z := Option.some.inj (show some (1 * x0.toInt + (1 * x1.toInt + 0)) = some z from e6)
    exact e7
  clear m1 m2 m3 m4
  have q0 : fB K n (p) 213 [fI x0, fI x1] σ := by
    refine (fP_o (by decide)).mpr ⟨x0, x1, rfl, by omega⟩
  exact ⟨p, fun _ => rfl, ⟨(fun q h => by cases h), fun q h => (by cases h), (fun f h => by cases h), (aAllc ⟨_, rfl, (fF_b (r := 3410) (by decide) rfl).mpr q0⟩ (fun f h => by cases h))⟩, [], List.mem_cons_self, fun f h => (by cases h)⟩
set_option maxRecDepth 8192 in
theorem rw_ruNZb {K : Nat → Nat} {n : Nat} : aGho (fF K n) fa_T K n (fJX K n) ag_ruNZb := by
  refine aGho_of ⟨rfl, rfl⟩ ?_
  intro p σ ρ hH hX hA hM
  have hG := aAG_of hA.1 (fun i e v he hv => (hA.2 i e v he hv).1)
  clear hA
  obtain ⟨v0, rfl, g0⟩ := fA_1 hG
  clear hG
  obtain ⟨x0, rfl, b0, d0⟩ := aG_int g0
  dsimp only at b0 d0
  obtain ⟨m1, m2, m3, m4⟩ := hM
  have l0 : 0 ≤ (-1 * x0.toInt + 0) + -1 := by
    obtain ⟨z, e6, e7⟩ := m3 ([(0, -1)], -1) (List.mem_of_getElem? (i := 0) rfl)
    obtain rfl : (-1 * x0.toInt + 0) = z := Option.some.inj (show some (-1 * x0.toInt + 0) = some z from e6)
    exact e7
  clear m1 m2 m3 m4
  have q0 : fB K n (p) 209 [fI x0] σ := by
    refine (fP_o (by decide)).mpr ⟨x0, rfl, by omega⟩
  exact ⟨p, fun _ => rfl, ⟨(fun q h => by cases h), fun q h => (by cases h), (fun f h => by cases h), (aAllc ⟨_, rfl, (fF_b (r := 3345) (by decide) rfl).mpr q0⟩ (fun f h => by cases h))⟩, [], List.mem_cons_self, fun f h => (by cases h)⟩
set_option maxRecDepth 8192 in
theorem rw_ruNMb {K : Nat → Nat} {n : Nat} : aGho (fF K n) fa_T K n (fJX K n) ag_ruNMb := by
  refine aGho_of ⟨rfl, rfl⟩ ?_
  intro p σ ρ hH hX hA hM
  have hG := aAG_of hA.1 (fun i e v he hv => (hA.2 i e v he hv).1)
  clear hA
  obtain ⟨v0, v1, rfl, g0, g1⟩ := fA_2 hG
  clear hG
  obtain ⟨x0, rfl, b0, d0⟩ := aG_int g0
  dsimp only at b0 d0
  obtain ⟨x1, rfl, b1, d1⟩ := aG_int g1
  dsimp only at b1 d1
  obtain ⟨m1, m2, m3, m4⟩ := hM
  have l0 : 0 ≤ (-1 * x0.toInt + (-1 * x1.toInt + 0)) + -1 := by
    obtain ⟨z, e6, e7⟩ := m3 ([(0, -1), (1, -1)], -1) (List.mem_of_getElem? (i := 0) rfl)
    obtain rfl : (-1 * x0.toInt + (-1 * x1.toInt + 0)) = z := Option.some.inj (show some (-1 * x0.toInt + (-1 * x1.toInt + 0)) = some z from e6)
    exact e7
  clear m1 m2 m3 m4
  have q0 : fB K n (p) 213 [fI x0, fI x1] σ := by
    refine (fP_o (by decide)).mpr ⟨x0, x1, rfl, by omega⟩
  exact ⟨p, fun _ => rfl, ⟨(fun q h => by cases h), fun q h => (by cases h), (fun f h => by cases h), (aAllc ⟨_, rfl, (fF_b (r := 3410) (by decide) rfl).mpr q0⟩ (fun f h => by cases h))⟩, [], List.mem_cons_self, fun f h => (by cases h)⟩
set_option maxRecDepth 8192 in
theorem rw_ruFR1 {K : Nat → Nat} {n : Nat} : aGho (fF K n) fa_T K n (fJX K n) ag_ruFR1 := by
  refine aGho_of ⟨rfl, rfl⟩ ?_
  intro p σ ρ hH hX hA hM
  have hG := aAG_of hA.1 (fun i e v he hv => (hA.2 i e v he hv).1)
  clear hA
  obtain ⟨v0, v1, v2, v3, v4, v5, rfl, g0, g1, g2, g3, g4, g5⟩ := fA_6 hG
  clear hG
  obtain ⟨x0, rfl, b0, d0⟩ := aG_int g0
  dsimp only at b0 d0
  obtain ⟨x1, rfl, b1, d1⟩ := aG_int g1
  dsimp only at b1 d1
  obtain ⟨x2, rfl, b2, d2⟩ := aG_int g2
  dsimp only at b2 d2
  obtain ⟨x3, rfl, b3, d3⟩ := aG_int g3
  dsimp only at b3 d3
  obtain ⟨x4, rfl, b4, d4⟩ := aG_int g4
  dsimp only at b4 d4
  obtain ⟨x5, rfl, b5, d5⟩ := aG_int g5
  dsimp only at b5 d5
  obtain ⟨m1, m2, m3, m4⟩ := hM
  have f0 : fB K n p 217 [fI x0, fI x1, fI x3, fI x4] σ := by
    obtain ⟨w, e6, e7⟩ := m4 (3476, [0, 1, 3, 4]) (List.mem_of_getElem? (i := 0) rfl)
    obtain rfl : [fI x0, fI x1, fI x3, fI x4] = w := Option.some.inj (show some [fI x0, fI x1, fI x3, fI x4] = some w from e6)
    exact (fF_b (r := 3476) (by decide) rfl).mp e7
  have f1 : fB K n p 209 [fI x3] σ := by
    obtain ⟨w, e6, e7⟩ := m4 (3345, [3]) (List.mem_of_getElem? (i := 1) rfl)
    obtain rfl : [fI x3] = w := Option.some.inj (show some [fI x3] = some w from e6)
    exact (fF_b (r := 3345) (by decide) rfl).mp e7
  have f2 : fB K n p 209 [fI x4] σ := by
    obtain ⟨w, e6, e7⟩ := m4 (3345, [4]) (List.mem_of_getElem? (i := 2) rfl)
    obtain rfl : [fI x4] = w := Option.some.inj (show some [fI x4] = some w from e6)
    exact (fF_b (r := 3345) (by decide) rfl).mp e7
  have f3 : fB K n p 210 [fI x3, fI x4] σ := by
    obtain ⟨w, e6, e7⟩ := m4 (3362, [3, 4]) (List.mem_of_getElem? (i := 3) rfl)
    obtain rfl : [fI x3, fI x4] = w := Option.some.inj (show some [fI x3, fI x4] = some w from e6)
    exact (fF_b (r := 3362) (by decide) rfl).mp e7
  have f4 : fB K n p 213 [fI x3, fI x4] σ := by
    obtain ⟨w, e6, e7⟩ := m4 (3410, [3, 4]) (List.mem_of_getElem? (i := 4) rfl)
    obtain rfl : [fI x3, fI x4] = w := Option.some.inj (show some [fI x3, fI x4] = some w from e6)
    exact (fF_b (r := 3410) (by decide) rfl).mp e7
  clear m1 m2 m3 m4
  obtain ⟨y0_0, y0_1, y0_2, y0_3, e8_0, h0, i0⟩ := (fP_o (by decide)).mp f0
  cases e8_0
  obtain ⟨y1_0, e8_1, h1⟩ := (fP_o (by decide)).mp f1
  cases e8_1
  obtain ⟨y2_0, e8_2, h2⟩ := (fP_o (by decide)).mp f2
  cases e8_2
  obtain ⟨y3_0, y3_1, e8_3, h3⟩ := (fP_o (by decide)).mp f3
  cases e8_3
  obtain ⟨y4_0, y4_1, e8_4, h4⟩ := (fP_o (by decide)).mp f4
  cases e8_4
  have q0 : fB K n (p) 208 [fI x0, fI x1, fI x2, fI x5] σ := by
    refine (fP_o (by decide)).mpr ⟨x0, x1, x2, x5, rfl, Or.inl ⟨by omega, ?_⟩⟩
    unfold fFr
    omega
  exact ⟨p, fun _ => rfl, ⟨(fun q h => by cases h), fun q h => (by cases h), (fun f h => by cases h), (aAllc ⟨_, rfl, (fF_b (r := 3332) (by decide) rfl).mpr q0⟩ (fun f h => by cases h))⟩, [], List.mem_cons_self, fun f h => (by cases h)⟩
set_option maxRecDepth 8192 in
theorem rw_ruFRc {K : Nat → Nat} {n : Nat} : aGho (fF K n) fa_T K n (fJX K n) ag_ruFRc := by
  refine aGho_of ⟨rfl, rfl⟩ ?_
  intro p σ ρ hH hX hA hM
  have hG := aAG_of hA.1 (fun i e v he hv => (hA.2 i e v he hv).1)
  clear hA
  obtain ⟨v0, v1, v2, v3, v4, v5, rfl, g0, g1, g2, g3, g4, g5⟩ := fA_6 hG
  clear hG
  obtain ⟨x0, rfl, b0, d0⟩ := aG_int g0
  dsimp only at b0 d0
  obtain ⟨x1, rfl, b1, d1⟩ := aG_int g1
  dsimp only at b1 d1
  obtain ⟨x2, rfl, b2, d2⟩ := aG_int g2
  dsimp only at b2 d2
  obtain ⟨x3, rfl, b3, d3⟩ := aG_int g3
  dsimp only at b3 d3
  obtain ⟨x4, rfl, b4, d4⟩ := aG_int g4
  dsimp only at b4 d4
  obtain ⟨x5, rfl, b5, d5⟩ := aG_int g5
  dsimp only at b5 d5
  obtain ⟨m1, m2, m3, m4⟩ := hM
  have f0 : fB K n p 217 [fI x0, fI x1, fI x3, fI x4] σ := by
    obtain ⟨w, e6, e7⟩ := m4 (3476, [0, 1, 3, 4]) (List.mem_of_getElem? (i := 0) rfl)
    obtain rfl : [fI x0, fI x1, fI x3, fI x4] = w := Option.some.inj (show some [fI x0, fI x1, fI x3, fI x4] = some w from e6)
    exact (fF_b (r := 3476) (by decide) rfl).mp e7
  clear m1 m2 m3 m4
  obtain ⟨y0_0, y0_1, y0_2, y0_3, e8_0, h0, i0⟩ := (fP_o (by decide)).mp f0
  cases e8_0
  have q0 : fB K n (p) 208 [fI x0, fI x1, fI x2, fI x5] σ := by
    refine (fP_o (by decide)).mpr ⟨x0, x1, x2, x5, rfl, Or.inr ⟨by omega, ?_⟩⟩
    unfold fFr
    omega
  exact ⟨p, fun _ => rfl, ⟨(fun q h => by cases h), fun q h => (by cases h), (fun f h => by cases h), (aAllc ⟨_, rfl, (fF_b (r := 3332) (by decide) rfl).mpr q0⟩ (fun f h => by cases h))⟩, [], List.mem_cons_self, fun f h => (by cases h)⟩
set_option maxRecDepth 8192 in
theorem rw_ruFRa {K : Nat → Nat} {n : Nat} : aGho (fF K n) fa_T K n (fJX K n) ag_ruFRa := by
  refine aGho_of ⟨rfl, rfl⟩ ?_
  intro p σ ρ hH hX hA hM
  have hG := aAG_of hA.1 (fun i e v he hv => (hA.2 i e v he hv).1)
  clear hA
  obtain ⟨v0, v1, v2, v3, v4, v5, rfl, g0, g1, g2, g3, g4, g5⟩ := fA_6 hG
  clear hG
  obtain ⟨x0, rfl, b0, d0⟩ := aG_int g0
  dsimp only at b0 d0
  obtain ⟨x1, rfl, b1, d1⟩ := aG_int g1
  dsimp only at b1 d1
  obtain ⟨x2, rfl, b2, d2⟩ := aG_int g2
  dsimp only at b2 d2
  obtain ⟨x3, rfl, b3, d3⟩ := aG_int g3
  dsimp only at b3 d3
  obtain ⟨x4, rfl, b4, d4⟩ := aG_int g4
  dsimp only at b4 d4
  obtain ⟨x5, rfl, b5, d5⟩ := aG_int g5
  dsimp only at b5 d5
  obtain ⟨m1, m2, m3, m4⟩ := hM
  have l0 : 0 ≤ (1 * x3.toInt + 0) + 0 := by
    obtain ⟨z, e6, e7⟩ := m3 ([(3, 1)], 0) (List.mem_of_getElem? (i := 0) rfl)
    obtain rfl : (1 * x3.toInt + 0) = z := Option.some.inj (show some (1 * x3.toInt + 0) = some z from e6)
    exact e7
  have l1 : 0 ≤ (-1 * x3.toInt + 0) + 0 := by
    obtain ⟨z, e6, e7⟩ := m3 ([(3, -1)], 0) (List.mem_of_getElem? (i := 1) rfl)
    obtain rfl : (-1 * x3.toInt + 0) = z := Option.some.inj (show some (-1 * x3.toInt + 0) = some z from e6)
    exact e7
  have f0 : fB K n p 217 [fI x0, fI x1, fI x3, fI x4] σ := by
    obtain ⟨w, e6, e7⟩ := m4 (3476, [0, 1, 3, 4]) (List.mem_of_getElem? (i := 0) rfl)
    obtain rfl : [fI x0, fI x1, fI x3, fI x4] = w := Option.some.inj (show some [fI x0, fI x1, fI x3, fI x4] = some w from e6)
    exact (fF_b (r := 3476) (by decide) rfl).mp e7
  clear m1 m2 m3 m4
  obtain ⟨y0_0, y0_1, y0_2, y0_3, e8_0, h0, i0⟩ := (fP_o (by decide)).mp f0
  cases e8_0
  have q0 : fB K n (p) 208 [fI x0, fI x1, fI x2, fI x5] σ := by
    refine (fP_o (by decide)).mpr ⟨x0, x1, x2, x5, rfl, Or.inr ⟨by omega, ?_⟩⟩
    unfold fFr
    omega
  exact ⟨p, fun _ => rfl, ⟨(fun q h => by cases h), fun q h => (by cases h), (fun f h => by cases h), (aAllc ⟨_, rfl, (fF_b (r := 3332) (by decide) rfl).mpr q0⟩ (fun f h => by cases h))⟩, [], List.mem_cons_self, fun f h => (by cases h)⟩
set_option maxRecDepth 8192 in
theorem rw_ruFRb {K : Nat → Nat} {n : Nat} : aGho (fF K n) fa_T K n (fJX K n) ag_ruFRb := by
  refine aGho_of ⟨rfl, rfl⟩ ?_
  intro p σ ρ hH hX hA hM
  have hG := aAG_of hA.1 (fun i e v he hv => (hA.2 i e v he hv).1)
  clear hA
  obtain ⟨v0, v1, v2, v3, v4, v5, rfl, g0, g1, g2, g3, g4, g5⟩ := fA_6 hG
  clear hG
  obtain ⟨x0, rfl, b0, d0⟩ := aG_int g0
  dsimp only at b0 d0
  obtain ⟨x1, rfl, b1, d1⟩ := aG_int g1
  dsimp only at b1 d1
  obtain ⟨x2, rfl, b2, d2⟩ := aG_int g2
  dsimp only at b2 d2
  obtain ⟨x3, rfl, b3, d3⟩ := aG_int g3
  dsimp only at b3 d3
  obtain ⟨x4, rfl, b4, d4⟩ := aG_int g4
  dsimp only at b4 d4
  obtain ⟨x5, rfl, b5, d5⟩ := aG_int g5
  dsimp only at b5 d5
  obtain ⟨m1, m2, m3, m4⟩ := hM
  have l0 : 0 ≤ (1 * x4.toInt + 0) + 0 := by
    obtain ⟨z, e6, e7⟩ := m3 ([(4, 1)], 0) (List.mem_of_getElem? (i := 0) rfl)
    obtain rfl : (1 * x4.toInt + 0) = z := Option.some.inj (show some (1 * x4.toInt + 0) = some z from e6)
    exact e7
  have l1 : 0 ≤ (-1 * x4.toInt + 0) + 0 := by
    obtain ⟨z, e6, e7⟩ := m3 ([(4, -1)], 0) (List.mem_of_getElem? (i := 1) rfl)
    obtain rfl : (-1 * x4.toInt + 0) = z := Option.some.inj (show some (-1 * x4.toInt + 0) = some z from e6)
    exact e7
  have f0 : fB K n p 217 [fI x0, fI x1, fI x3, fI x4] σ := by
    obtain ⟨w, e6, e7⟩ := m4 (3476, [0, 1, 3, 4]) (List.mem_of_getElem? (i := 0) rfl)
    obtain rfl : [fI x0, fI x1, fI x3, fI x4] = w := Option.some.inj (show some [fI x0, fI x1, fI x3, fI x4] = some w from e6)
    exact (fF_b (r := 3476) (by decide) rfl).mp e7
  clear m1 m2 m3 m4
  obtain ⟨y0_0, y0_1, y0_2, y0_3, e8_0, h0, i0⟩ := (fP_o (by decide)).mp f0
  cases e8_0
  have q0 : fB K n (p) 208 [fI x0, fI x1, fI x2, fI x5] σ := by
    refine (fP_o (by decide)).mpr ⟨x0, x1, x2, x5, rfl, Or.inr ⟨by omega, ?_⟩⟩
    unfold fFr
    omega
  exact ⟨p, fun _ => rfl, ⟨(fun q h => by cases h), fun q h => (by cases h), (fun f h => by cases h), (aAllc ⟨_, rfl, (fF_b (r := 3332) (by decide) rfl).mpr q0⟩ (fun f h => by cases h))⟩, [], List.mem_cons_self, fun f h => (by cases h)⟩
set_option maxRecDepth 8192 in
theorem rw_ruFRd {K : Nat → Nat} {n : Nat} : aGho (fF K n) fa_T K n (fJX K n) ag_ruFRd := by
  refine aGho_of ⟨rfl, rfl⟩ ?_
  intro p σ ρ hH hX hA hM
  have hG := aAG_of hA.1 (fun i e v he hv => (hA.2 i e v he hv).1)
  clear hA
  obtain ⟨v0, v1, v2, v3, v4, v5, rfl, g0, g1, g2, g3, g4, g5⟩ := fA_6 hG
  clear hG
  obtain ⟨x0, rfl, b0, d0⟩ := aG_int g0
  dsimp only at b0 d0
  obtain ⟨x1, rfl, b1, d1⟩ := aG_int g1
  dsimp only at b1 d1
  obtain ⟨x2, rfl, b2, d2⟩ := aG_int g2
  dsimp only at b2 d2
  obtain ⟨x3, rfl, b3, d3⟩ := aG_int g3
  dsimp only at b3 d3
  obtain ⟨x4, rfl, b4, d4⟩ := aG_int g4
  dsimp only at b4 d4
  obtain ⟨x5, rfl, b5, d5⟩ := aG_int g5
  dsimp only at b5 d5
  obtain ⟨m1, m2, m3, m4⟩ := hM
  have l0 : 0 ≤ (1 * x3.toInt + (-1 * x4.toInt + 0)) + 0 := by
    obtain ⟨z, e6, e7⟩ := m3 ([(3, 1), (4, -1)], 0) (List.mem_of_getElem? (i := 0) rfl)
    obtain rfl : (1 * x3.toInt + (-1 * x4.toInt + 0)) = z := Option.some.inj (show some (1 * x3.toInt + (-1 * x4.toInt + 0)) = some z from e6)
    exact e7
  have l1 : 0 ≤ (-1 * x3.toInt + (1 * x4.toInt + 0)) + 0 := by
    obtain ⟨z, e6, e7⟩ := m3 ([(3, -1), (4, 1)], 0) (List.mem_of_getElem? (i := 1) rfl)
    obtain rfl : (-1 * x3.toInt + (1 * x4.toInt + 0)) = z := Option.some.inj (show some (-1 * x3.toInt + (1 * x4.toInt + 0)) = some z from e6)
    exact e7
  have f0 : fB K n p 217 [fI x0, fI x1, fI x3, fI x4] σ := by
    obtain ⟨w, e6, e7⟩ := m4 (3476, [0, 1, 3, 4]) (List.mem_of_getElem? (i := 0) rfl)
    obtain rfl : [fI x0, fI x1, fI x3, fI x4] = w := Option.some.inj (show some [fI x0, fI x1, fI x3, fI x4] = some w from e6)
    exact (fF_b (r := 3476) (by decide) rfl).mp e7
  clear m1 m2 m3 m4
  obtain ⟨y0_0, y0_1, y0_2, y0_3, e8_0, h0, i0⟩ := (fP_o (by decide)).mp f0
  cases e8_0
  have q0 : fB K n (p) 208 [fI x0, fI x1, fI x2, fI x5] σ := by
    refine (fP_o (by decide)).mpr ⟨x0, x1, x2, x5, rfl, Or.inr ⟨by omega, ?_⟩⟩
    unfold fFr
    omega
  exact ⟨p, fun _ => rfl, ⟨(fun q h => by cases h), fun q h => (by cases h), (fun f h => by cases h), (aAllc ⟨_, rfl, (fF_b (r := 3332) (by decide) rfl).mpr q0⟩ (fun f h => by cases h))⟩, [], List.mem_cons_self, fun f h => (by cases h)⟩
set_option maxRecDepth 8192 in
theorem rw_ruFRe {K : Nat → Nat} {n : Nat} : aGho (fF K n) fa_T K n (fJX K n) ag_ruFRe := by
  refine aGho_of ⟨rfl, rfl⟩ ?_
  intro p σ ρ hH hX hA hM
  have hG := aAG_of hA.1 (fun i e v he hv => (hA.2 i e v he hv).1)
  clear hA
  obtain ⟨v0, v1, v2, v3, v4, v5, rfl, g0, g1, g2, g3, g4, g5⟩ := fA_6 hG
  clear hG
  obtain ⟨x0, rfl, b0, d0⟩ := aG_int g0
  dsimp only at b0 d0
  obtain ⟨x1, rfl, b1, d1⟩ := aG_int g1
  dsimp only at b1 d1
  obtain ⟨x2, rfl, b2, d2⟩ := aG_int g2
  dsimp only at b2 d2
  obtain ⟨x3, rfl, b3, d3⟩ := aG_int g3
  dsimp only at b3 d3
  obtain ⟨x4, rfl, b4, d4⟩ := aG_int g4
  dsimp only at b4 d4
  obtain ⟨x5, rfl, b5, d5⟩ := aG_int g5
  dsimp only at b5 d5
  obtain ⟨m1, m2, m3, m4⟩ := hM
  have l0 : 0 ≤ (1 * x3.toInt + (1 * x4.toInt + 0)) + 0 := by
    obtain ⟨z, e6, e7⟩ := m3 ([(3, 1), (4, 1)], 0) (List.mem_of_getElem? (i := 0) rfl)
    obtain rfl : (1 * x3.toInt + (1 * x4.toInt + 0)) = z := Option.some.inj (show some (1 * x3.toInt + (1 * x4.toInt + 0)) = some z from e6)
    exact e7
  have l1 : 0 ≤ (-1 * x3.toInt + (-1 * x4.toInt + 0)) + 0 := by
    obtain ⟨z, e6, e7⟩ := m3 ([(3, -1), (4, -1)], 0) (List.mem_of_getElem? (i := 1) rfl)
    obtain rfl : (-1 * x3.toInt + (-1 * x4.toInt + 0)) = z := Option.some.inj (show some (-1 * x3.toInt + (-1 * x4.toInt + 0)) = some z from e6)
    exact e7
  have f0 : fB K n p 217 [fI x0, fI x1, fI x3, fI x4] σ := by
    obtain ⟨w, e6, e7⟩ := m4 (3476, [0, 1, 3, 4]) (List.mem_of_getElem? (i := 0) rfl)
    obtain rfl : [fI x0, fI x1, fI x3, fI x4] = w := Option.some.inj (show some [fI x0, fI x1, fI x3, fI x4] = some w from e6)
    exact (fF_b (r := 3476) (by decide) rfl).mp e7
  clear m1 m2 m3 m4
  obtain ⟨y0_0, y0_1, y0_2, y0_3, e8_0, h0, i0⟩ := (fP_o (by decide)).mp f0
  cases e8_0
  have q0 : fB K n (p) 208 [fI x0, fI x1, fI x2, fI x5] σ := by
    refine (fP_o (by decide)).mpr ⟨x0, x1, x2, x5, rfl, Or.inr ⟨by omega, ?_⟩⟩
    unfold fFr
    omega
  exact ⟨p, fun _ => rfl, ⟨(fun q h => by cases h), fun q h => (by cases h), (fun f h => by cases h), (aAllc ⟨_, rfl, (fF_b (r := 3332) (by decide) rfl).mpr q0⟩ (fun f h => by cases h))⟩, [], List.mem_cons_self, fun f h => (by cases h)⟩
set_option maxRecDepth 8192 in
theorem rw_ruMT {K : Nat → Nat} {n : Nat} : aGho (fF K n) fa_T K n (fJX K n) ag_ruMT := by
  refine aGho_of ⟨rfl, rfl⟩ ?_
  intro p σ ρ hH hX hA hM
  have hG := aAG_of hA.1 (fun i e v he hv => (hA.2 i e v he hv).1)
  clear hA
  obtain ⟨v0, v1, v2, v3, rfl, g0, g1, g2, g3⟩ := fA_4 hG
  clear hG
  obtain ⟨x0, rfl, b0, d0⟩ := aG_int g0
  dsimp only at b0 d0
  obtain ⟨x1, rfl, b1, d1⟩ := aG_int g1
  dsimp only at b1 d1
  obtain ⟨x2, rfl, b2, d2⟩ := aG_int g2
  dsimp only at b2 d2
  obtain ⟨x3, rfl, b3, d3⟩ := aG_int g3
  dsimp only at b3 d3
  obtain ⟨m1, m2, m3, m4⟩ := hM
  have l0 : 0 ≤ (1 * x0.toInt + (-8 * x2.toInt + 0)) + 0 := by
    obtain ⟨z, e6, e7⟩ := m3 ([(0, 1), (2, -8)], 0) (List.mem_of_getElem? (i := 0) rfl)
    obtain rfl : (1 * x0.toInt + (-8 * x2.toInt + 0)) = z := Option.some.inj (show some (1 * x0.toInt + (-8 * x2.toInt + 0)) = some z from e6)
    exact e7
  have l1 : 0 ≤ (-1 * x0.toInt + (8 * x2.toInt + 0)) + 7 := by
    obtain ⟨z, e6, e7⟩ := m3 ([(0, -1), (2, 8)], 7) (List.mem_of_getElem? (i := 1) rfl)
    obtain rfl : (-1 * x0.toInt + (8 * x2.toInt + 0)) = z := Option.some.inj (show some (-1 * x0.toInt + (8 * x2.toInt + 0)) = some z from e6)
    exact e7
  have l2 : 0 ≤ (1 * x1.toInt + (-1 * x2.toInt + (64 * x3.toInt + 0))) + 0 := by
    obtain ⟨z, e6, e7⟩ := m3 ([(1, 1), (2, -1), (3, 64)], 0) (List.mem_of_getElem? (i := 2) rfl)
    obtain rfl : (1 * x1.toInt + (-1 * x2.toInt + (64 * x3.toInt + 0))) = z := Option.some.inj (show some (1 * x1.toInt + (-1 * x2.toInt + (64 * x3.toInt + 0))) = some z from e6)
    exact e7
  have l3 : 0 ≤ (-1 * x1.toInt + (1 * x2.toInt + (-64 * x3.toInt + 0))) + 0 := by
    obtain ⟨z, e6, e7⟩ := m3 ([(1, -1), (2, 1), (3, -64)], 0) (List.mem_of_getElem? (i := 3) rfl)
    obtain rfl : (-1 * x1.toInt + (1 * x2.toInt + (-64 * x3.toInt + 0))) = z := Option.some.inj (show some (-1 * x1.toInt + (1 * x2.toInt + (-64 * x3.toInt + 0))) = some z from e6)
    exact e7
  clear m1 m2 m3 m4
  have q0 : fB K n (p) 214 [fI x0, fI x1] σ := by
    have h9 := fMk (m := x0) (f := x3.toInt) (t := x1.toInt) (b := x0.toInt - 8 * x2.toInt) (by omega) (by omega) (by omega) (by omega)
    refine (fP_o (by decide)).mpr ⟨x0, x1, rfl, h9.2.1.symm⟩
  exact ⟨p, fun _ => rfl, ⟨(fun q h => by cases h), fun q h => (by cases h), (fun f h => by cases h), (aAllc ⟨_, rfl, (fF_b (r := 3426) (by decide) rfl).mpr q0⟩ (fun f h => by cases h))⟩, [], List.mem_cons_self, fun f h => (by cases h)⟩
set_option maxRecDepth 8192 in
theorem rw_ruWHa {K : Nat → Nat} {n : Nat} : aGho (fF K n) fa_T K n (fJX K n) ag_ruWHa := by
  refine aGho_of ⟨rfl, rfl⟩ ?_
  intro p σ ρ hH hX hA hM
  have hG := aAG_of hA.1 (fun i e v he hv => (hA.2 i e v he hv).1)
  clear hA
  obtain ⟨v0, v1, v2, v3, v4, rfl, g0, g1, g2, g3, g4⟩ := fA_5 hG
  clear hG
  obtain ⟨x0, rfl, b0, d0⟩ := aG_int g0
  dsimp only at b0 d0
  obtain ⟨x1, rfl, b1, d1⟩ := aG_int g1
  dsimp only at b1 d1
  obtain ⟨x2, rfl, b2, d2⟩ := aG_int g2
  dsimp only at b2 d2
  obtain ⟨x3, rfl, b3, d3⟩ := aG_int g3
  dsimp only at b3 d3
  obtain ⟨x4, rfl, b4, d4⟩ := fG_ref (by decide) g4
  obtain ⟨m1, m2, m3, m4⟩ := hM
  have l0 : 0 ≤ (1 * x2.toInt + (-1 * x1.toInt + 0)) + 0 := by
    obtain ⟨z, e6, e7⟩ := m3 ([(2, 1), (1, -1)], 0) (List.mem_of_getElem? (i := 0) rfl)
    obtain rfl : (1 * x2.toInt + (-1 * x1.toInt + 0)) = z := Option.some.inj (show some (1 * x2.toInt + (-1 * x1.toInt + 0)) = some z from e6)
    exact e7
  have l1 : 0 ≤ (-1 * x2.toInt + (1 * x1.toInt + 0)) + 0 := by
    obtain ⟨z, e6, e7⟩ := m3 ([(2, -1), (1, 1)], 0) (List.mem_of_getElem? (i := 1) rfl)
    obtain rfl : (-1 * x2.toInt + (1 * x1.toInt + 0)) = z := Option.some.inj (show some (-1 * x2.toInt + (1 * x1.toInt + 0)) = some z from e6)
    exact e7
  have f0 : fB K n p 25 [fI x0, fI x3] σ := by
    obtain ⟨w, e6, e7⟩ := m4 (402, [0, 3]) (List.mem_of_getElem? (i := 0) rfl)
    obtain rfl : [fI x0, fI x3] = w := Option.some.inj (show some [fI x0, fI x3] = some w from e6)
    exact (fF_b (r := 402) (by decide) rfl).mp e7
  have f1 : fB K n p 1 [fR x4] σ := by
    obtain ⟨w, e6, e7⟩ := m4 (17, [4]) (List.mem_of_getElem? (i := 1) rfl)
    obtain rfl : [fR x4] = w := Option.some.inj (show some [fR x4] = some w from e6)
    exact (fF_b (r := 17) (by decide) rfl).mp e7
  clear m1 m2 m3 m4
  obtain ⟨y0_0, y0_1, e9_0, h0⟩ := f0
  cases e9_0
  obtain ⟨a9_1, e9_1, h1, g1⟩ := f1
  cases e9_1
  unfold fOw at h0
  rw [fNc] at h0
  have hgd := g1.1.2.2.1
  have hmk : ((fq p).1 x0.toInt.toNat &&& 7).toInt = x3.toInt := by
    rw [fA7 (by rw [h0]; omega), h0, show ((x3.toNatClampNeg : Nat) : Int) = x3.toInt by rw [fNc]; omega]
    omega
  have k1 : (1 : Int32).toInt = 1 := by decide
  have q0 : fB K n (p) 17 [fI x0, fI x1, fI x2] σ := by
    refine (fE_o (by decide)).mpr (Or.inr ⟨x0, x1, x2, rfl, ?_⟩)
    unfold bWh
    rw [if_neg (fun e => by rw [e.1, k1] at hmk; omega)]
    exact fI32 (by rw [nI_toInt (by omega)]; omega)
  exact ⟨p, fun _ => rfl, ⟨(fun q h => by cases h), fun q h => (by cases h), (fun f h => by cases h), (aAllc ⟨_, rfl, (fF_b (r := 275) (by decide) rfl).mpr q0⟩ (fun f h => by cases h))⟩, [], List.mem_cons_self, fun f h => (by cases h)⟩
set_option maxRecDepth 8192 in
theorem rw_ruWHb {K : Nat → Nat} {n : Nat} : aGho (fF K n) fa_T K n (fJX K n) ag_ruWHb := by
  refine aGho_of ⟨rfl, rfl⟩ ?_
  intro p σ ρ hH hX hA hM
  have hG := aAG_of hA.1 (fun i e v he hv => (hA.2 i e v he hv).1)
  clear hA
  obtain ⟨v0, v1, v2, v3, v4, v5, rfl, g0, g1, g2, g3, g4, g5⟩ := fA_6 hG
  clear hG
  obtain ⟨x0, rfl, b0, d0⟩ := aG_int g0
  dsimp only at b0 d0
  obtain ⟨x1, rfl, b1, d1⟩ := aG_int g1
  dsimp only at b1 d1
  obtain ⟨x2, rfl, b2, d2⟩ := aG_int g2
  dsimp only at b2 d2
  obtain ⟨x3, rfl, b3, d3⟩ := aG_int g3
  dsimp only at b3 d3
  obtain ⟨x4, rfl, b4, d4⟩ := fG_ref (by decide) g4
  obtain ⟨x5, rfl, b5, d5⟩ := aG_int g5
  dsimp only at b5 d5
  obtain ⟨m1, m2, m3, m4⟩ := hM
  obtain ⟨a0, c0, fs0, w0, e1, s0, t0, e4⟩ := m1 (4, 4, 5) (List.mem_of_getElem? (i := 0) rfl)
  obtain rfl : x4 = a0 := Sum.inl.inj (Option.some.inj (Sum.inr.inj (Sum.inr.inj (Option.some.inj (show some (fR x4) = some _ from e1)))))
  obtain rfl : fI x5 = w0 := Option.some.inj (show some (fI x5) = some w0 from e4)
  clear e1 e4
  have l0 : 0 ≤ (1 * x2.toInt + (-1 * x1.toInt + 0)) + 0 := by
    obtain ⟨z, e6, e7⟩ := m3 ([(2, 1), (1, -1)], 0) (List.mem_of_getElem? (i := 0) rfl)
    obtain rfl : (1 * x2.toInt + (-1 * x1.toInt + 0)) = z := Option.some.inj (show some (1 * x2.toInt + (-1 * x1.toInt + 0)) = some z from e6)
    exact e7
  have l1 : 0 ≤ (-1 * x2.toInt + (1 * x1.toInt + 0)) + 0 := by
    obtain ⟨z, e6, e7⟩ := m3 ([(2, -1), (1, 1)], 0) (List.mem_of_getElem? (i := 1) rfl)
    obtain rfl : (-1 * x2.toInt + (1 * x1.toInt + 0)) = z := Option.some.inj (show some (-1 * x2.toInt + (1 * x1.toInt + 0)) = some z from e6)
    exact e7
  have l2 : 0 ≤ (1 * x1.toInt + (-1 * x5.toInt + 0)) + -1 := by
    obtain ⟨z, e6, e7⟩ := m3 ([(1, 1), (5, -1)], -1) (List.mem_of_getElem? (i := 2) rfl)
    obtain rfl : (1 * x1.toInt + (-1 * x5.toInt + 0)) = z := Option.some.inj (show some (1 * x1.toInt + (-1 * x5.toInt + 0)) = some z from e6)
    exact e7
  have f0 : fB K n p 25 [fI x0, fI x3] σ := by
    obtain ⟨w, e6, e7⟩ := m4 (402, [0, 3]) (List.mem_of_getElem? (i := 0) rfl)
    obtain rfl : [fI x0, fI x3] = w := Option.some.inj (show some [fI x0, fI x3] = some w from e6)
    exact (fF_b (r := 402) (by decide) rfl).mp e7
  have f1 : fB K n p 1 [fR x4] σ := by
    obtain ⟨w, e6, e7⟩ := m4 (17, [4]) (List.mem_of_getElem? (i := 1) rfl)
    obtain rfl : [fR x4] = w := Option.some.inj (show some [fR x4] = some w from e6)
    exact (fF_b (r := 17) (by decide) rfl).mp e7
  clear m1 m2 m3 m4
  obtain ⟨y0_0, y0_1, e9_0, h0⟩ := f0
  cases e9_0
  obtain ⟨a9_1, e9_1, h1, g1⟩ := f1
  cases e9_1
  unfold fOw at h0
  rw [fNc] at h0
  have hgd := g1.1.2.2.1
  have hmk : ((fq p).1 x0.toInt.toNat &&& 7).toInt = x3.toInt := by
    rw [fA7 (by rw [h0]; omega), h0, show ((x3.toNatClampNeg : Nat) : Int) = x3.toInt by rw [fNc]; omega]
    omega
  have k1 : (1 : Int32).toInt = 1 := by decide
  have hF := fAt_of h1 s0
  have hps := hF.2.2.2.1 x5 t0
  have q0 : fB K n (p) 17 [fI x0, fI x1, fI x2] σ := by
    refine (fE_o (by decide)).mpr (Or.inr ⟨x0, x1, x2, rfl, ?_⟩)
    unfold bWh
    rw [if_neg (fun e => by
      have e9 := congrArg Int32.toInt e.2
      rw [nI_toInt (by omega), ← hps] at e9
      omega)]
    exact fI32 (by rw [nI_toInt (by omega)]; omega)
  exact ⟨p, fun _ => rfl, ⟨(fun q h => by cases h), fun q h => (by cases h), (fun f h => by cases h), (aAllc ⟨_, rfl, (fF_b (r := 275) (by decide) rfl).mpr q0⟩ (fun f h => by cases h))⟩, [], List.mem_cons_self, fun f h => (by cases h)⟩
set_option maxRecDepth 8192 in
theorem rw_ruWHc {K : Nat → Nat} {n : Nat} : aGho (fF K n) fa_T K n (fJX K n) ag_ruWHc := by
  refine aGho_of ⟨rfl, rfl⟩ ?_
  intro p σ ρ hH hX hA hM
  have hG := aAG_of hA.1 (fun i e v he hv => (hA.2 i e v he hv).1)
  clear hA
  obtain ⟨v0, v1, v2, v3, v4, v5, rfl, g0, g1, g2, g3, g4, g5⟩ := fA_6 hG
  clear hG
  obtain ⟨x0, rfl, b0, d0⟩ := aG_int g0
  dsimp only at b0 d0
  obtain ⟨x1, rfl, b1, d1⟩ := aG_int g1
  dsimp only at b1 d1
  obtain ⟨x2, rfl, b2, d2⟩ := aG_int g2
  dsimp only at b2 d2
  obtain ⟨x3, rfl, b3, d3⟩ := aG_int g3
  dsimp only at b3 d3
  obtain ⟨x4, rfl, b4, d4⟩ := fG_ref (by decide) g4
  obtain ⟨x5, rfl, b5, d5⟩ := aG_int g5
  dsimp only at b5 d5
  obtain ⟨m1, m2, m3, m4⟩ := hM
  obtain ⟨a0, c0, fs0, w0, e1, s0, t0, e4⟩ := m1 (4, 4, 5) (List.mem_of_getElem? (i := 0) rfl)
  obtain rfl : x4 = a0 := Sum.inl.inj (Option.some.inj (Sum.inr.inj (Sum.inr.inj (Option.some.inj (show some (fR x4) = some _ from e1)))))
  obtain rfl : fI x5 = w0 := Option.some.inj (show some (fI x5) = some w0 from e4)
  clear e1 e4
  have l0 : 0 ≤ (1 * x2.toInt + (-1 * x1.toInt + 0)) + 0 := by
    obtain ⟨z, e6, e7⟩ := m3 ([(2, 1), (1, -1)], 0) (List.mem_of_getElem? (i := 0) rfl)
    obtain rfl : (1 * x2.toInt + (-1 * x1.toInt + 0)) = z := Option.some.inj (show some (1 * x2.toInt + (-1 * x1.toInt + 0)) = some z from e6)
    exact e7
  have l1 : 0 ≤ (-1 * x2.toInt + (1 * x1.toInt + 0)) + 0 := by
    obtain ⟨z, e6, e7⟩ := m3 ([(2, -1), (1, 1)], 0) (List.mem_of_getElem? (i := 1) rfl)
    obtain rfl : (-1 * x2.toInt + (1 * x1.toInt + 0)) = z := Option.some.inj (show some (-1 * x2.toInt + (1 * x1.toInt + 0)) = some z from e6)
    exact e7
  have l2 : 0 ≤ (-1 * x1.toInt + (1 * x5.toInt + 0)) + -1 := by
    obtain ⟨z, e6, e7⟩ := m3 ([(1, -1), (5, 1)], -1) (List.mem_of_getElem? (i := 2) rfl)
    obtain rfl : (-1 * x1.toInt + (1 * x5.toInt + 0)) = z := Option.some.inj (show some (-1 * x1.toInt + (1 * x5.toInt + 0)) = some z from e6)
    exact e7
  have f0 : fB K n p 25 [fI x0, fI x3] σ := by
    obtain ⟨w, e6, e7⟩ := m4 (402, [0, 3]) (List.mem_of_getElem? (i := 0) rfl)
    obtain rfl : [fI x0, fI x3] = w := Option.some.inj (show some [fI x0, fI x3] = some w from e6)
    exact (fF_b (r := 402) (by decide) rfl).mp e7
  have f1 : fB K n p 1 [fR x4] σ := by
    obtain ⟨w, e6, e7⟩ := m4 (17, [4]) (List.mem_of_getElem? (i := 1) rfl)
    obtain rfl : [fR x4] = w := Option.some.inj (show some [fR x4] = some w from e6)
    exact (fF_b (r := 17) (by decide) rfl).mp e7
  clear m1 m2 m3 m4
  obtain ⟨y0_0, y0_1, e9_0, h0⟩ := f0
  cases e9_0
  obtain ⟨a9_1, e9_1, h1, g1⟩ := f1
  cases e9_1
  unfold fOw at h0
  rw [fNc] at h0
  have hgd := g1.1.2.2.1
  have hmk : ((fq p).1 x0.toInt.toNat &&& 7).toInt = x3.toInt := by
    rw [fA7 (by rw [h0]; omega), h0, show ((x3.toNatClampNeg : Nat) : Int) = x3.toInt by rw [fNc]; omega]
    omega
  have k1 : (1 : Int32).toInt = 1 := by decide
  have hF := fAt_of h1 s0
  have hps := hF.2.2.2.1 x5 t0
  have q0 : fB K n (p) 17 [fI x0, fI x1, fI x2] σ := by
    refine (fE_o (by decide)).mpr (Or.inr ⟨x0, x1, x2, rfl, ?_⟩)
    unfold bWh
    rw [if_neg (fun e => by
      have e9 := congrArg Int32.toInt e.2
      rw [nI_toInt (by omega), ← hps] at e9
      omega)]
    exact fI32 (by rw [nI_toInt (by omega)]; omega)
  exact ⟨p, fun _ => rfl, ⟨(fun q h => by cases h), fun q h => (by cases h), (fun f h => by cases h), (aAllc ⟨_, rfl, (fF_b (r := 275) (by decide) rfl).mpr q0⟩ (fun f h => by cases h))⟩, [], List.mem_cons_self, fun f h => (by cases h)⟩
set_option maxRecDepth 8192 in
theorem rw_ruWHd {K : Nat → Nat} {n : Nat} : aGho (fF K n) fa_T K n (fJX K n) ag_ruWHd := by
  refine aGho_of ⟨rfl, rfl⟩ ?_
  intro p σ ρ hH hX hA hM
  have hG := aAG_of hA.1 (fun i e v he hv => (hA.2 i e v he hv).1)
  clear hA
  obtain ⟨v0, v1, v2, v3, v4, v5, rfl, g0, g1, g2, g3, g4, g5⟩ := fA_6 hG
  clear hG
  obtain ⟨x0, rfl, b0, d0⟩ := aG_int g0
  dsimp only at b0 d0
  obtain ⟨x1, rfl, b1, d1⟩ := aG_int g1
  dsimp only at b1 d1
  obtain ⟨x2, rfl, b2, d2⟩ := aG_int g2
  dsimp only at b2 d2
  obtain ⟨x3, rfl, b3, d3⟩ := aG_int g3
  dsimp only at b3 d3
  obtain ⟨x4, rfl, b4, d4⟩ := fG_ref (by decide) g4
  obtain ⟨x5, rfl, b5, d5⟩ := aG_int g5
  dsimp only at b5 d5
  obtain ⟨m1, m2, m3, m4⟩ := hM
  obtain ⟨a0, c0, fs0, w0, e1, s0, t0, e4⟩ := m1 (4, 4, 5) (List.mem_of_getElem? (i := 0) rfl)
  obtain rfl : x4 = a0 := Sum.inl.inj (Option.some.inj (Sum.inr.inj (Sum.inr.inj (Option.some.inj (show some (fR x4) = some _ from e1)))))
  obtain rfl : fI x5 = w0 := Option.some.inj (show some (fI x5) = some w0 from e4)
  clear e1 e4
  have l0 : 0 ≤ (1 * x1.toInt + (-1 * x5.toInt + 0)) + 0 := by
    obtain ⟨z, e6, e7⟩ := m3 ([(1, 1), (5, -1)], 0) (List.mem_of_getElem? (i := 0) rfl)
    obtain rfl : (1 * x1.toInt + (-1 * x5.toInt + 0)) = z := Option.some.inj (show some (1 * x1.toInt + (-1 * x5.toInt + 0)) = some z from e6)
    exact e7
  have l1 : 0 ≤ (-1 * x1.toInt + (1 * x5.toInt + 0)) + 0 := by
    obtain ⟨z, e6, e7⟩ := m3 ([(1, -1), (5, 1)], 0) (List.mem_of_getElem? (i := 1) rfl)
    obtain rfl : (-1 * x1.toInt + (1 * x5.toInt + 0)) = z := Option.some.inj (show some (-1 * x1.toInt + (1 * x5.toInt + 0)) = some z from e6)
    exact e7
  have f0 : fB K n p 25 [fI x0, fI x3] σ := by
    obtain ⟨w, e6, e7⟩ := m4 (402, [0, 3]) (List.mem_of_getElem? (i := 0) rfl)
    obtain rfl : [fI x0, fI x3] = w := Option.some.inj (show some [fI x0, fI x3] = some w from e6)
    exact (fF_b (r := 402) (by decide) rfl).mp e7
  have f1 : fB K n p 1 [fR x4] σ := by
    obtain ⟨w, e6, e7⟩ := m4 (17, [4]) (List.mem_of_getElem? (i := 1) rfl)
    obtain rfl : [fR x4] = w := Option.some.inj (show some [fR x4] = some w from e6)
    exact (fF_b (r := 17) (by decide) rfl).mp e7
  have f2 : fB K n p 17 [fI x2] σ := by
    obtain ⟨w, e6, e7⟩ := m4 (273, [2]) (List.mem_of_getElem? (i := 2) rfl)
    obtain rfl : [fI x2] = w := Option.some.inj (show some [fI x2] = some w from e6)
    exact (fF_b (r := 273) (by decide) rfl).mp e7
  clear m1 m2 m3 m4
  obtain ⟨y0_0, y0_1, e9_0, h0⟩ := f0
  cases e9_0
  obtain ⟨a9_1, e9_1, h1, g1⟩ := f1
  cases e9_1
  obtain ⟨y2_0, e8_2, h2⟩ := fOr_l ((fE_o (by decide)).mp f2) (by rintro ⟨_, _, _, e9, -⟩; cases e9)
  cases e8_2
  unfold fOw at h0
  rw [fNc] at h0
  have hgd := g1.1.2.2.1
  have hmk : ((fq p).1 x0.toInt.toNat &&& 7).toInt = x3.toInt := by
    rw [fA7 (by rw [h0]; omega), h0, show ((x3.toNatClampNeg : Nat) : Int) = x3.toInt by rw [fNc]; omega]
    omega
  have k1 : (1 : Int32).toInt = 1 := by decide
  have hF := fAt_of h1 s0
  have hps := hF.2.2.2.1 x5 t0
  have q0 : fB K n (p) 17 [fI x0, fI x1, fI x2] σ := by
    refine (fE_o (by decide)).mpr (Or.inr ⟨x0, x1, x2, rfl, ?_⟩)
    unfold bWh
    rw [if_pos ⟨fI32 (by rw [hmk, k1]; omega), by rw [← hps]; exact fI32 (by rw [nI_toInt (by omega)]; omega)⟩]
    exact h2
  exact ⟨p, fun _ => rfl, ⟨(fun q h => by cases h), fun q h => (by cases h), (fun f h => by cases h), (aAllc ⟨_, rfl, (fF_b (r := 275) (by decide) rfl).mpr q0⟩ (fun f h => by cases h))⟩, [], List.mem_cons_self, fun f h => (by cases h)⟩
set_option maxRecDepth 8192 in
theorem rw_ruNF0 {K : Nat → Nat} {n : Nat} : aGho (fF K n) fa_T K n (fJX K n) ag_ruNF0 := by
  refine aGho_of ⟨rfl, rfl⟩ ?_
  intro p σ ρ hH hX hA hM
  have hG := aAG_of hA.1 (fun i e v he hv => (hA.2 i e v he hv).1)
  clear hA
  obtain ⟨v0, v1, v2, v3, v4, v5, rfl, g0, g1, g2, g3, g4, g5⟩ := fA_6 hG
  clear hG
  obtain ⟨x0, rfl, b0, d0⟩ := aG_int g0
  dsimp only at b0 d0
  obtain ⟨x1, rfl, b1, d1⟩ := aG_int g1
  dsimp only at b1 d1
  obtain ⟨x2, rfl, b2, d2⟩ := aG_int g2
  dsimp only at b2 d2
  obtain ⟨x3, rfl, b3, d3⟩ := aG_int g3
  dsimp only at b3 d3
  obtain ⟨x4, rfl, b4, d4⟩ := aG_int g4
  dsimp only at b4 d4
  obtain ⟨x5, rfl, b5, d5⟩ := aG_int g5
  dsimp only at b5 d5
  obtain ⟨m1, m2, m3, m4⟩ := hM
  have f0 : fB K n p 208 [fI x0, fI x1, fI x2, fI x5] σ := by
    obtain ⟨w, e6, e7⟩ := m4 (3332, [0, 1, 2, 5]) (List.mem_of_getElem? (i := 0) rfl)
    obtain rfl : [fI x0, fI x1, fI x2, fI x5] = w := Option.some.inj (show some [fI x0, fI x1, fI x2, fI x5] = some w from e6)
    exact (fF_b (r := 3332) (by decide) rfl).mp e7
  clear m1 m2 m3 m4
  obtain ⟨y0_0, y0_1, y0_2, y0_3, e8_0, h0⟩ := (fP_o (by decide)).mp f0
  cases e8_0
  have q0 : fB K n (p) 215 [fI x0, fI x1, fI x2, fI x3, fI x4] σ := by
    refine (fP_o (by decide)).mpr ⟨x0, x1, x2, x3, x4, rfl, fun h => ?_⟩
    rcases h0 with h0 | h0
    · omega
    · exact h0.2 h.1
  exact ⟨p, fun _ => rfl, ⟨(fun q h => by cases h), fun q h => (by cases h), (fun f h => by cases h), (aAllc ⟨_, rfl, (fF_b (r := 3445) (by decide) rfl).mpr q0⟩ (fun f h => by cases h))⟩, [], List.mem_cons_self, fun f h => (by cases h)⟩
set_option maxRecDepth 8192 in
theorem rw_ruNF1 {K : Nat → Nat} {n : Nat} : aGho (fF K n) fa_T K n (fJX K n) ag_ruNF1 := by
  refine aGho_of ⟨rfl, rfl⟩ ?_
  intro p σ ρ hH hX hA hM
  have hG := aAG_of hA.1 (fun i e v he hv => (hA.2 i e v he hv).1)
  clear hA
  obtain ⟨v0, v1, v2, v3, v4, rfl, g0, g1, g2, g3, g4⟩ := fA_5 hG
  clear hG
  obtain ⟨x0, rfl, b0, d0⟩ := aG_int g0
  dsimp only at b0 d0
  obtain ⟨x1, rfl, b1, d1⟩ := aG_int g1
  dsimp only at b1 d1
  obtain ⟨x2, rfl, b2, d2⟩ := aG_int g2
  dsimp only at b2 d2
  obtain ⟨x3, rfl, b3, d3⟩ := aG_int g3
  dsimp only at b3 d3
  obtain ⟨x4, rfl, b4, d4⟩ := aG_int g4
  dsimp only at b4 d4
  obtain ⟨m1, m2, m3, m4⟩ := hM
  have l0 : 0 ≤ (1 * x3.toInt + (-1 * x4.toInt + 0)) + -1 := by
    obtain ⟨z, e6, e7⟩ := m3 ([(3, 1), (4, -1)], -1) (List.mem_of_getElem? (i := 0) rfl)
    obtain rfl : (1 * x3.toInt + (-1 * x4.toInt + 0)) = z := Option.some.inj (show some (1 * x3.toInt + (-1 * x4.toInt + 0)) = some z from e6)
    exact e7
  clear m1 m2 m3 m4
  have q0 : fB K n (p) 215 [fI x0, fI x1, fI x2, fI x3, fI x4] σ := by
    refine (fP_o (by decide)).mpr ⟨x0, x1, x2, x3, x4, rfl, fun h => ?_⟩
    have := h.2
    omega
  exact ⟨p, fun _ => rfl, ⟨(fun q h => by cases h), fun q h => (by cases h), (fun f h => by cases h), (aAllc ⟨_, rfl, (fF_b (r := 3445) (by decide) rfl).mpr q0⟩ (fun f h => by cases h))⟩, [], List.mem_cons_self, fun f h => (by cases h)⟩
set_option maxRecDepth 8192 in
theorem rw_ruNF2 {K : Nat → Nat} {n : Nat} : aGho (fF K n) fa_T K n (fJX K n) ag_ruNF2 := by
  refine aGho_of ⟨rfl, rfl⟩ ?_
  intro p σ ρ hH hX hA hM
  have hG := aAG_of hA.1 (fun i e v he hv => (hA.2 i e v he hv).1)
  clear hA
  obtain ⟨v0, v1, v2, v3, v4, rfl, g0, g1, g2, g3, g4⟩ := fA_5 hG
  clear hG
  obtain ⟨x0, rfl, b0, d0⟩ := aG_int g0
  dsimp only at b0 d0
  obtain ⟨x1, rfl, b1, d1⟩ := aG_int g1
  dsimp only at b1 d1
  obtain ⟨x2, rfl, b2, d2⟩ := aG_int g2
  dsimp only at b2 d2
  obtain ⟨x3, rfl, b3, d3⟩ := aG_int g3
  dsimp only at b3 d3
  obtain ⟨x4, rfl, b4, d4⟩ := aG_int g4
  dsimp only at b4 d4
  obtain ⟨m1, m2, m3, m4⟩ := hM
  have l0 : 0 ≤ (-1 * x3.toInt + (1 * x4.toInt + 0)) + -1 := by
    obtain ⟨z, e6, e7⟩ := m3 ([(3, -1), (4, 1)], -1) (List.mem_of_getElem? (i := 0) rfl)
    obtain rfl : (-1 * x3.toInt + (1 * x4.toInt + 0)) = z := Option.some.inj (show some (-1 * x3.toInt + (1 * x4.toInt + 0)) = some z from e6)
    exact e7
  clear m1 m2 m3 m4
  have q0 : fB K n (p) 215 [fI x0, fI x1, fI x2, fI x3, fI x4] σ := by
    refine (fP_o (by decide)).mpr ⟨x0, x1, x2, x3, x4, rfl, fun h => ?_⟩
    have := h.2
    omega
  exact ⟨p, fun _ => rfl, ⟨(fun q h => by cases h), fun q h => (by cases h), (fun f h => by cases h), (aAllc ⟨_, rfl, (fF_b (r := 3445) (by decide) rfl).mpr q0⟩ (fun f h => by cases h))⟩, [], List.mem_cons_self, fun f h => (by cases h)⟩
set_option maxRecDepth 8192 in
theorem rw_ruOA1 {K : Nat → Nat} {n : Nat} : aGho (fF K n) fa_T K n (fJX K n) ag_ruOA1 := by
  refine aGho_of ⟨rfl, rfl⟩ ?_
  intro p σ ρ hH hX hA hM
  have hG := aAG_of hA.1 (fun i e v he hv => (hA.2 i e v he hv).1)
  clear hA
  obtain ⟨v0, v1, v2, v3, v4, v5, v6, v7, v8, v9, v10, rfl, g0, g1, g2, g3, g4, g5, g6, g7, g8, g9, g10⟩ := fA_11 hG
  clear hG
  obtain ⟨x0, rfl, b0, d0⟩ := fG_ref (by decide) g0
  obtain ⟨x1, rfl, b1, d1⟩ := aG_int g1
  dsimp only at b1 d1
  obtain ⟨x2, rfl, b2, d2⟩ := aG_int g2
  dsimp only at b2 d2
  obtain ⟨x3, rfl, b3, d3⟩ := aG_int g3
  dsimp only at b3 d3
  obtain ⟨x4, rfl, b4, d4⟩ := aG_int g4
  dsimp only at b4 d4
  obtain ⟨x5, rfl, b5, d5⟩ := aG_int g5
  dsimp only at b5 d5
  obtain ⟨x6, rfl, b6, d6⟩ := aG_int g6
  dsimp only at b6 d6
  obtain ⟨x7, rfl, b7, d7⟩ := aG_int g7
  dsimp only at b7 d7
  obtain ⟨x8, rfl, b8, d8⟩ := aG_int g8
  dsimp only at b8 d8
  obtain ⟨x9, rfl, b9, d9⟩ := aG_int g9
  dsimp only at b9 d9
  obtain ⟨x10, rfl, b10, d10⟩ := aG_int g10
  dsimp only at b10 d10
  obtain ⟨m1, m2, m3, m4⟩ := hM
  obtain ⟨a0, c0, fs0, w0, e1, s0, t0, e4⟩ := m1 (0, 2, 10) (List.mem_of_getElem? (i := 0) rfl)
  obtain rfl : x0 = a0 := Sum.inl.inj (Option.some.inj (Sum.inr.inj (Sum.inr.inj (Option.some.inj (show some (fR x0) = some _ from e1)))))
  obtain rfl : fI x10 = w0 := Option.some.inj (show some (fI x10) = some w0 from e4)
  clear e1 e4
  have l0 : 0 ≤ (1 * x8.toInt + (1 * x10.toInt + 0)) + -1 := by
    obtain ⟨z, e6, e7⟩ := m3 ([(8, 1), (10, 1)], -1) (List.mem_of_getElem? (i := 0) rfl)
    obtain rfl : (1 * x8.toInt + (1 * x10.toInt + 0)) = z := Option.some.inj (show some (1 * x8.toInt + (1 * x10.toInt + 0)) = some z from e6)
    exact e7
  have l1 : 0 ≤ (-1 * x8.toInt + (-1 * x10.toInt + 0)) + 1 := by
    obtain ⟨z, e6, e7⟩ := m3 ([(8, -1), (10, -1)], 1) (List.mem_of_getElem? (i := 1) rfl)
    obtain rfl : (-1 * x8.toInt + (-1 * x10.toInt + 0)) = z := Option.some.inj (show some (-1 * x8.toInt + (-1 * x10.toInt + 0)) = some z from e6)
    exact e7
  have f0 : fB K n p 6 [fR x0, fI x1, fI x2, fI x3, fI x4, fI x5, fI x6] σ := by
    obtain ⟨w, e6, e7⟩ := m4 (103, [0, 1, 2, 3, 4, 5, 6]) (List.mem_of_getElem? (i := 0) rfl)
    obtain rfl : [fR x0, fI x1, fI x2, fI x3, fI x4, fI x5, fI x6] = w := Option.some.inj (show some [fR x0, fI x1, fI x2, fI x3, fI x4, fI x5, fI x6] = some w from e6)
    exact (fF_b (r := 103) (by decide) rfl).mp e7
  have f1 : fB K n p 203 [fR x0, fI x7, fI x8, fI x9] σ := by
    obtain ⟨w, e6, e7⟩ := m4 (3252, [0, 7, 8, 9]) (List.mem_of_getElem? (i := 1) rfl)
    obtain rfl : [fR x0, fI x7, fI x8, fI x9] = w := Option.some.inj (show some [fR x0, fI x7, fI x8, fI x9] = some w from e6)
    exact (fF_b (r := 3252) (by decide) rfl).mp e7
  clear m1 m2 m3 m4
  obtain ⟨a9_0, u1_0, v1_0, u2_0, v2_0, u3_0, v3_0, e9_0, h0, g0⟩ := f0
  cases e9_0
  obtain ⟨b9_1, g1, r9_1, e9_1, w1, y1_0, y1_1, y1_2, e8_1, a1⟩ := (fH_o (by decide) (by decide)).mp f1
  cases e9_1
  cases e8_1
  have hF := fAt_of h0 s0
  have hsd := hF.2.1 x10 t0
  have k0 : (0 : Int32).toInt = 0 := by decide
  obtain rfl : x2 = 0 := fI32 (by omega)
  obtain rfl : x4 = 0 := fI32 (by omega)
  have hc := fAk_cg (b := x8.toInt) (fAt_me h0 w1) (s := x7.toInt) ⟨by omega, by omega⟩
  have eb : x8.toInt = 1 - ((fq p).2 2).toInt := by rw [← hsd]; omega
  rw [eb] at hc a1
  have q0 : fB K n (p) 56 [fI x1, fI x3, fI x5, fI x6, fI x7, fI x9] σ := by
    refine (fE_o (by decide)).mpr (Or.inr ⟨x1, x3, x5, x6, x7, x9, rfl, ?_⟩)
    rcases a1 with ⟨a1, a2⟩ | ⟨a1, a2⟩
    · exact Or.inl ⟨a1, hc.mp a2⟩
    · exact Or.inr ⟨a1, fun h => a2 (hc.mpr h)⟩
  exact ⟨p, fun _ => rfl, ⟨(fun q h => by cases h), fun q h => (by cases h), (fun f h => by cases h), (aAllc ⟨_, rfl, (fF_b (r := 902) (by decide) rfl).mpr q0⟩ (fun f h => by cases h))⟩, [], List.mem_cons_self, fun f h => (by cases h)⟩
set_option maxRecDepth 8192 in
theorem rw_ruOA2 {K : Nat → Nat} {n : Nat} : aGho (fF K n) fa_T K n (fJX K n) ag_ruOA2 := by
  refine aGho_of ⟨rfl, rfl⟩ ?_
  intro p σ ρ hH hX hA hM
  have hG := aAG_of hA.1 (fun i e v he hv => (hA.2 i e v he hv).1)
  clear hA
  obtain ⟨v0, v1, v2, v3, v4, v5, v6, v7, v8, v9, v10, rfl, g0, g1, g2, g3, g4, g5, g6, g7, g8, g9, g10⟩ := fA_11 hG
  clear hG
  obtain ⟨x0, rfl, b0, d0⟩ := fG_ref (by decide) g0
  obtain ⟨x1, rfl, b1, d1⟩ := aG_int g1
  dsimp only at b1 d1
  obtain ⟨x2, rfl, b2, d2⟩ := aG_int g2
  dsimp only at b2 d2
  obtain ⟨x3, rfl, b3, d3⟩ := aG_int g3
  dsimp only at b3 d3
  obtain ⟨x4, rfl, b4, d4⟩ := aG_int g4
  dsimp only at b4 d4
  obtain ⟨x5, rfl, b5, d5⟩ := aG_int g5
  dsimp only at b5 d5
  obtain ⟨x6, rfl, b6, d6⟩ := aG_int g6
  dsimp only at b6 d6
  obtain ⟨x7, rfl, b7, d7⟩ := aG_int g7
  dsimp only at b7 d7
  obtain ⟨x8, rfl, b8, d8⟩ := aG_int g8
  dsimp only at b8 d8
  obtain ⟨x9, rfl, b9, d9⟩ := aG_int g9
  dsimp only at b9 d9
  obtain ⟨x10, rfl, b10, d10⟩ := aG_int g10
  dsimp only at b10 d10
  obtain ⟨m1, m2, m3, m4⟩ := hM
  obtain ⟨a0, c0, fs0, w0, e1, s0, t0, e4⟩ := m1 (0, 2, 10) (List.mem_of_getElem? (i := 0) rfl)
  obtain rfl : x0 = a0 := Sum.inl.inj (Option.some.inj (Sum.inr.inj (Sum.inr.inj (Option.some.inj (show some (fR x0) = some _ from e1)))))
  obtain rfl : fI x10 = w0 := Option.some.inj (show some (fI x10) = some w0 from e4)
  clear e1 e4
  have l0 : 0 ≤ (1 * x8.toInt + (1 * x10.toInt + 0)) + -1 := by
    obtain ⟨z, e6, e7⟩ := m3 ([(8, 1), (10, 1)], -1) (List.mem_of_getElem? (i := 0) rfl)
    obtain rfl : (1 * x8.toInt + (1 * x10.toInt + 0)) = z := Option.some.inj (show some (1 * x8.toInt + (1 * x10.toInt + 0)) = some z from e6)
    exact e7
  have l1 : 0 ≤ (-1 * x8.toInt + (-1 * x10.toInt + 0)) + 1 := by
    obtain ⟨z, e6, e7⟩ := m3 ([(8, -1), (10, -1)], 1) (List.mem_of_getElem? (i := 1) rfl)
    obtain rfl : (-1 * x8.toInt + (-1 * x10.toInt + 0)) = z := Option.some.inj (show some (-1 * x8.toInt + (-1 * x10.toInt + 0)) = some z from e6)
    exact e7
  have f0 : fB K n p 6 [fR x0, fI x1, fI x2, fI x3, fI x4, fI x5, fI x6] σ := by
    obtain ⟨w, e6, e7⟩ := m4 (103, [0, 1, 2, 3, 4, 5, 6]) (List.mem_of_getElem? (i := 0) rfl)
    obtain rfl : [fR x0, fI x1, fI x2, fI x3, fI x4, fI x5, fI x6] = w := Option.some.inj (show some [fR x0, fI x1, fI x2, fI x3, fI x4, fI x5, fI x6] = some w from e6)
    exact (fF_b (r := 103) (by decide) rfl).mp e7
  have f1 : fB K n p 203 [fR x0, fI x7, fI x8, fI x9] σ := by
    obtain ⟨w, e6, e7⟩ := m4 (3252, [0, 7, 8, 9]) (List.mem_of_getElem? (i := 1) rfl)
    obtain rfl : [fR x0, fI x7, fI x8, fI x9] = w := Option.some.inj (show some [fR x0, fI x7, fI x8, fI x9] = some w from e6)
    exact (fF_b (r := 3252) (by decide) rfl).mp e7
  clear m1 m2 m3 m4
  obtain ⟨a9_0, u1_0, v1_0, u2_0, v2_0, u3_0, v3_0, e9_0, h0, g0⟩ := f0
  cases e9_0
  obtain ⟨b9_1, g1, r9_1, e9_1, w1, y1_0, y1_1, y1_2, e8_1, a1⟩ := (fH_o (by decide) (by decide)).mp f1
  cases e9_1
  cases e8_1
  have hF := fAt_of h0 s0
  have hsd := hF.2.1 x10 t0
  have k0 : (0 : Int32).toInt = 0 := by decide
  obtain rfl : x2 = 0 := fI32 (by omega)
  obtain rfl : x4 = 0 := fI32 (by omega)
  have hc := fAk_cg (b := x8.toInt) (fAt_me h0 w1) (s := x7.toInt) ⟨by omega, by omega⟩
  have eb : x8.toInt = 1 - ((fq p).2 2).toInt := by rw [← hsd]; omega
  rw [eb] at hc a1
  have q0 : fB K n (p) 57 [fI x1, fI x3, fI x5, fI x6, fI x7, fI x9] σ := by
    refine (fE_o (by decide)).mpr (Or.inr ⟨x1, x3, x5, x6, x7, x9, rfl, ?_⟩)
    rcases a1 with ⟨a1, a2⟩ | ⟨a1, a2⟩
    · exact Or.inl ⟨a1, hc.mp a2⟩
    · exact Or.inr ⟨a1, fun h => a2 (hc.mpr h)⟩
  exact ⟨p, fun _ => rfl, ⟨(fun q h => by cases h), fun q h => (by cases h), (fun f h => by cases h), (aAllc ⟨_, rfl, (fF_b (r := 918) (by decide) rfl).mpr q0⟩ (fun f h => by cases h))⟩, [], List.mem_cons_self, fun f h => (by cases h)⟩
set_option maxRecDepth 8192 in
theorem rw_ruSG1 {K : Nat → Nat} {n : Nat} : aGho (fF K n) fa_T K n (fJX K n) ag_ruSG1 := by
  refine aGho_of ⟨rfl, rfl⟩ ?_
  intro p σ ρ hH hX hA hM
  have hG := aAG_of hA.1 (fun i e v he hv => (hA.2 i e v he hv).1)
  clear hA
  obtain ⟨v0, v1, v2, v3, v4, v5, v6, v7, rfl, g0, g1, g2, g3, g4, g5, g6, g7⟩ := fA_8 hG
  clear hG
  obtain ⟨x0, rfl, b0, d0⟩ := aG_int g0
  dsimp only at b0 d0
  obtain ⟨x1, rfl, b1, d1⟩ := aG_int g1
  dsimp only at b1 d1
  obtain ⟨x2, rfl, b2, d2⟩ := aG_int g2
  dsimp only at b2 d2
  obtain ⟨x3, rfl, b3, d3⟩ := aG_int g3
  dsimp only at b3 d3
  obtain ⟨x4, rfl, b4, d4⟩ := aG_int g4
  dsimp only at b4 d4
  obtain ⟨x5, rfl, b5, d5⟩ := aG_int g5
  dsimp only at b5 d5
  obtain ⟨x6, rfl, b6, d6⟩ := aG_int g6
  dsimp only at b6 d6
  obtain ⟨x7, rfl, b7, d7⟩ := aG_int g7
  dsimp only at b7 d7
  obtain ⟨m1, m2, m3, m4⟩ := hM
  have l0 : 0 ≤ (1 * x5.toInt + (-1 * x6.toInt + 0)) + 0 := by
    obtain ⟨z, e6, e7⟩ := m3 ([(5, 1), (6, -1)], 0) (List.mem_of_getElem? (i := 0) rfl)
    obtain rfl : (1 * x5.toInt + (-1 * x6.toInt + 0)) = z := Option.some.inj (show some (1 * x5.toInt + (-1 * x6.toInt + 0)) = some z from e6)
    exact e7
  have l1 : 0 ≤ (-1 * x5.toInt + (1 * x6.toInt + 0)) + 0 := by
    obtain ⟨z, e6, e7⟩ := m3 ([(5, -1), (6, 1)], 0) (List.mem_of_getElem? (i := 1) rfl)
    obtain rfl : (-1 * x5.toInt + (1 * x6.toInt + 0)) = z := Option.some.inj (show some (-1 * x5.toInt + (1 * x6.toInt + 0)) = some z from e6)
    exact e7
  have f0 : fB K n p 30 [fI x3, fI x2] σ := by
    obtain ⟨w, e6, e7⟩ := m4 (482, [3, 2]) (List.mem_of_getElem? (i := 0) rfl)
    obtain rfl : [fI x3, fI x2] = w := Option.some.inj (show some [fI x3, fI x2] = some w from e6)
    exact (fF_b (r := 482) (by decide) rfl).mp e7
  have f1 : fB K n p 214 [fI x3, fI x5] σ := by
    obtain ⟨w, e6, e7⟩ := m4 (3426, [3, 5]) (List.mem_of_getElem? (i := 1) rfl)
    obtain rfl : [fI x3, fI x5] = w := Option.some.inj (show some [fI x3, fI x5] = some w from e6)
    exact (fF_b (r := 3426) (by decide) rfl).mp e7
  have f2 : fB K n p 17 [fI x2, fI x5, fI x6] σ := by
    obtain ⟨w, e6, e7⟩ := m4 (275, [2, 5, 6]) (List.mem_of_getElem? (i := 2) rfl)
    obtain rfl : [fI x2, fI x5, fI x6] = w := Option.some.inj (show some [fI x2, fI x5, fI x6] = some w from e6)
    exact (fF_b (r := 275) (by decide) rfl).mp e7
  have f3 : fB K n p 208 [fI x0, fI x2, fI x1, fI x7] σ := by
    obtain ⟨w, e6, e7⟩ := m4 (3332, [0, 2, 1, 7]) (List.mem_of_getElem? (i := 3) rfl)
    obtain rfl : [fI x0, fI x2, fI x1, fI x7] = w := Option.some.inj (show some [fI x0, fI x2, fI x1, fI x7] = some w from e6)
    exact (fF_b (r := 3332) (by decide) rfl).mp e7
  clear m1 m2 m3 m4
  obtain ⟨y0_0, y0_1, e9_0, h0, i0⟩ := f0
  cases e9_0
  obtain ⟨y1_0, y1_1, e8_1, h1⟩ := (fP_o (by decide)).mp f1
  cases e8_1
  obtain ⟨y2_0, y2_1, y2_2, e8_2, h2⟩ := fOr_r ((fE_o (by decide)).mp f2) (by rintro ⟨_, e9, -⟩; cases e9)
  cases e8_2
  obtain ⟨y3_0, y3_1, y3_2, y3_3, e8_3, h3⟩ := (fP_o (by decide)).mp f3
  cases e8_3
  have hs := fSf_iff (M := (fq p).1) (F := (fq p).2) (h := x0.toInt) (ck := x1.toInt) (f := x2) (t := x5) (w := x6) (mn := (fq p).1 x2.toInt.toNat) (m := x3) (by omega) h1 h2 rfl
  have q0 : fB K n (p) 29 [fI x0, fI x1, fI x2, fI x3, fI x4] σ := by
    refine (fE_o (by decide)).mpr ⟨x0, x1, x2, x3, x4, rfl, Or.inl ⟨by omega, hs.mpr (Or.inl ⟨?_, fI32 (by omega)⟩)⟩⟩
    rcases h3 with h3 | h3
    · exact h3.2
    · omega
  exact ⟨p, fun _ => rfl, ⟨(fun q h => by cases h), fun q h => (by cases h), (fun f h => by cases h), (aAllc ⟨_, rfl, (fF_b (r := 469) (by decide) rfl).mpr q0⟩ (fun f h => by cases h))⟩, [], List.mem_cons_self, fun f h => (by cases h)⟩
set_option maxRecDepth 8192 in
theorem rw_ruSGa5 {K : Nat → Nat} {n : Nat} : aGho (fF K n) fa_T K n (fJX K n) ag_ruSGa5 := by
  refine aGho_of ⟨rfl, rfl⟩ ?_
  intro p σ ρ hH hX hA hM
  have hG := aAG_of hA.1 (fun i e v he hv => (hA.2 i e v he hv).1)
  clear hA
  obtain ⟨v0, v1, v2, v3, v4, v5, v6, v7, v8, v9, v10, rfl, g0, g1, g2, g3, g4, g5, g6, g7, g8, g9, g10⟩ := fA_11 hG
  clear hG
  obtain ⟨x0, rfl, b0, d0⟩ := aG_int g0
  dsimp only at b0 d0
  obtain ⟨x1, rfl, b1, d1⟩ := aG_int g1
  dsimp only at b1 d1
  obtain ⟨x2, rfl, b2, d2⟩ := aG_int g2
  dsimp only at b2 d2
  obtain ⟨x3, rfl, b3, d3⟩ := aG_int g3
  dsimp only at b3 d3
  obtain ⟨x4, rfl, b4, d4⟩ := aG_int g4
  dsimp only at b4 d4
  obtain ⟨x5, rfl, b5, d5⟩ := aG_int g5
  dsimp only at b5 d5
  obtain ⟨x6, rfl, b6, d6⟩ := aG_int g6
  dsimp only at b6 d6
  obtain ⟨x7, rfl, b7, d7⟩ := aG_int g7
  dsimp only at b7 d7
  obtain ⟨x8, rfl, b8, d8⟩ := aG_int g8
  dsimp only at b8 d8
  obtain ⟨x9, rfl, b9, d9⟩ := aG_int g9
  dsimp only at b9 d9
  obtain ⟨x10, rfl, b10, d10⟩ := aG_int g10
  dsimp only at b10 d10
  obtain ⟨m1, m2, m3, m4⟩ := hM
  have l0 : 0 ≤ (1 * x8.toInt + (-1 * x0.toInt + 0)) + 0 := by
    obtain ⟨z, e6, e7⟩ := m3 ([(8, 1), (0, -1)], 0) (List.mem_of_getElem? (i := 0) rfl)
    obtain rfl : (1 * x8.toInt + (-1 * x0.toInt + 0)) = z := Option.some.inj (show some (1 * x8.toInt + (-1 * x0.toInt + 0)) = some z from e6)
    exact e7
  have l1 : 0 ≤ (-1 * x8.toInt + (1 * x0.toInt + 0)) + 0 := by
    obtain ⟨z, e6, e7⟩ := m3 ([(8, -1), (0, 1)], 0) (List.mem_of_getElem? (i := 1) rfl)
    obtain rfl : (-1 * x8.toInt + (1 * x0.toInt + 0)) = z := Option.some.inj (show some (-1 * x8.toInt + (1 * x0.toInt + 0)) = some z from e6)
    exact e7
  have f0 : fB K n p 30 [fI x3, fI x2] σ := by
    obtain ⟨w, e6, e7⟩ := m4 (482, [3, 2]) (List.mem_of_getElem? (i := 0) rfl)
    obtain rfl : [fI x3, fI x2] = w := Option.some.inj (show some [fI x3, fI x2] = some w from e6)
    exact (fF_b (r := 482) (by decide) rfl).mp e7
  have f1 : fB K n p 214 [fI x3, fI x5] σ := by
    obtain ⟨w, e6, e7⟩ := m4 (3426, [3, 5]) (List.mem_of_getElem? (i := 1) rfl)
    obtain rfl : [fI x3, fI x5] = w := Option.some.inj (show some [fI x3, fI x5] = some w from e6)
    exact (fF_b (r := 3426) (by decide) rfl).mp e7
  have f2 : fB K n p 17 [fI x2, fI x5, fI x6] σ := by
    obtain ⟨w, e6, e7⟩ := m4 (275, [2, 5, 6]) (List.mem_of_getElem? (i := 2) rfl)
    obtain rfl : [fI x2, fI x5, fI x6] = w := Option.some.inj (show some [fI x2, fI x5, fI x6] = some w from e6)
    exact (fF_b (r := 275) (by decide) rfl).mp e7
  have f3 : fB K n p 25 [fI x2, fI x10] σ := by
    obtain ⟨w, e6, e7⟩ := m4 (402, [2, 10]) (List.mem_of_getElem? (i := 3) rfl)
    obtain rfl : [fI x2, fI x10] = w := Option.some.inj (show some [fI x2, fI x10] = some w from e6)
    exact (fF_b (r := 402) (by decide) rfl).mp e7
  have f4 : fB K n p 39 [fI x2, fI x7] σ := by
    obtain ⟨w, e6, e7⟩ := m4 (626, [2, 7]) (List.mem_of_getElem? (i := 4) rfl)
    obtain rfl : [fI x2, fI x7] = w := Option.some.inj (show some [fI x2, fI x7] = some w from e6)
    exact (fF_b (r := 626) (by decide) rfl).mp e7
  have f5 : fB K n p 56 [fI x2, fI x6, fI x5, fI x7, fI x8, fI x9] σ := by
    obtain ⟨w, e6, e7⟩ := m4 (902, [2, 6, 5, 7, 8, 9]) (List.mem_of_getElem? (i := 5) rfl)
    obtain rfl : [fI x2, fI x6, fI x5, fI x7, fI x8, fI x9] = w := Option.some.inj (show some [fI x2, fI x6, fI x5, fI x7, fI x8, fI x9] = some w from e6)
    exact (fF_b (r := 902) (by decide) rfl).mp e7
  clear m1 m2 m3 m4
  obtain ⟨y0_0, y0_1, e9_0, h0, i0⟩ := f0
  cases e9_0
  obtain ⟨y1_0, y1_1, e8_1, h1⟩ := (fP_o (by decide)).mp f1
  cases e8_1
  obtain ⟨y2_0, y2_1, y2_2, e8_2, h2⟩ := fOr_r ((fE_o (by decide)).mp f2) (by rintro ⟨_, e9, -⟩; cases e9)
  cases e8_2
  obtain ⟨y3_0, y3_1, e9_3, h3⟩ := f3
  cases e9_3
  obtain ⟨y4_0, y4_1, e9_4, h4⟩ := f4
  cases e9_4
  obtain ⟨y5_0, y5_1, y5_2, y5_3, y5_4, y5_5, e8_5, h5⟩ := fOr_r ((fE_o (by decide)).mp f5) (by rintro ⟨_, _, e9, -⟩; cases e9)
  cases e8_5
  rw [fNc] at h4
  unfold fOw at h3
  rw [fNc] at h3
  have hmk : x7.toInt % 8 = x10.toInt := by
    rw [← h4, h3, show ((x10.toNatClampNeg : Nat) : Int) = x10.toInt by rw [fNc]; omega]
    omega
  have hs := fSf_iff (M := (fq p).1) (F := (fq p).2) (h := x0.toInt) (ck := x1.toInt) (f := x2) (t := x5) (w := x6) (mn := x7) (m := x3) (by omega) h1 h2 h4
  have hk6 : ¬ x7.toInt % 8 = 6 := by omega
  rw [if_neg hk6] at hs
  have ex : x8.toInt = x0.toInt := by omega
  rw [ex] at h5
  have q0 : fB K n (p) 29 [fI x0, fI x1, fI x2, fI x3, fI x4] σ := by
    refine (fE_o (by decide)).mpr ⟨x0, x1, x2, x3, x4, rfl, Or.inl ⟨by omega, hs.mpr (Or.inr ⟨?_, fun h => absurd h hk6⟩)⟩⟩
    rcases h5 with h5 | h5
    · omega
    · exact h5.2
  exact ⟨p, fun _ => rfl, ⟨(fun q h => by cases h), fun q h => (by cases h), (fun f h => by cases h), (aAllc ⟨_, rfl, (fF_b (r := 469) (by decide) rfl).mpr q0⟩ (fun f h => by cases h))⟩, [], List.mem_cons_self, fun f h => (by cases h)⟩
set_option maxRecDepth 8192 in
theorem rw_ruSGd5 {K : Nat → Nat} {n : Nat} : aGho (fF K n) fa_T K n (fJX K n) ag_ruSGd5 := by
  refine aGho_of ⟨rfl, rfl⟩ ?_
  intro p σ ρ hH hX hA hM
  have hG := aAG_of hA.1 (fun i e v he hv => (hA.2 i e v he hv).1)
  clear hA
  obtain ⟨v0, v1, v2, v3, v4, v5, v6, v7, v8, v9, v10, rfl, g0, g1, g2, g3, g4, g5, g6, g7, g8, g9, g10⟩ := fA_11 hG
  clear hG
  obtain ⟨x0, rfl, b0, d0⟩ := aG_int g0
  dsimp only at b0 d0
  obtain ⟨x1, rfl, b1, d1⟩ := aG_int g1
  dsimp only at b1 d1
  obtain ⟨x2, rfl, b2, d2⟩ := aG_int g2
  dsimp only at b2 d2
  obtain ⟨x3, rfl, b3, d3⟩ := aG_int g3
  dsimp only at b3 d3
  obtain ⟨x4, rfl, b4, d4⟩ := aG_int g4
  dsimp only at b4 d4
  obtain ⟨x5, rfl, b5, d5⟩ := aG_int g5
  dsimp only at b5 d5
  obtain ⟨x6, rfl, b6, d6⟩ := aG_int g6
  dsimp only at b6 d6
  obtain ⟨x7, rfl, b7, d7⟩ := aG_int g7
  dsimp only at b7 d7
  obtain ⟨x8, rfl, b8, d8⟩ := aG_int g8
  dsimp only at b8 d8
  obtain ⟨x9, rfl, b9, d9⟩ := aG_int g9
  dsimp only at b9 d9
  obtain ⟨x10, rfl, b10, d10⟩ := aG_int g10
  dsimp only at b10 d10
  obtain ⟨m1, m2, m3, m4⟩ := hM
  have l0 : 0 ≤ (1 * x8.toInt + (-1 * x0.toInt + 0)) + 0 := by
    obtain ⟨z, e6, e7⟩ := m3 ([(8, 1), (0, -1)], 0) (List.mem_of_getElem? (i := 0) rfl)
    obtain rfl : (1 * x8.toInt + (-1 * x0.toInt + 0)) = z := Option.some.inj (show some (1 * x8.toInt + (-1 * x0.toInt + 0)) = some z from e6)
    exact e7
  have l1 : 0 ≤ (-1 * x8.toInt + (1 * x0.toInt + 0)) + 0 := by
    obtain ⟨z, e6, e7⟩ := m3 ([(8, -1), (0, 1)], 0) (List.mem_of_getElem? (i := 1) rfl)
    obtain rfl : (-1 * x8.toInt + (1 * x0.toInt + 0)) = z := Option.some.inj (show some (-1 * x8.toInt + (1 * x0.toInt + 0)) = some z from e6)
    exact e7
  have f0 : fB K n p 30 [fI x3, fI x2] σ := by
    obtain ⟨w, e6, e7⟩ := m4 (482, [3, 2]) (List.mem_of_getElem? (i := 0) rfl)
    obtain rfl : [fI x3, fI x2] = w := Option.some.inj (show some [fI x3, fI x2] = some w from e6)
    exact (fF_b (r := 482) (by decide) rfl).mp e7
  have f1 : fB K n p 214 [fI x3, fI x5] σ := by
    obtain ⟨w, e6, e7⟩ := m4 (3426, [3, 5]) (List.mem_of_getElem? (i := 1) rfl)
    obtain rfl : [fI x3, fI x5] = w := Option.some.inj (show some [fI x3, fI x5] = some w from e6)
    exact (fF_b (r := 3426) (by decide) rfl).mp e7
  have f2 : fB K n p 17 [fI x2, fI x5, fI x6] σ := by
    obtain ⟨w, e6, e7⟩ := m4 (275, [2, 5, 6]) (List.mem_of_getElem? (i := 2) rfl)
    obtain rfl : [fI x2, fI x5, fI x6] = w := Option.some.inj (show some [fI x2, fI x5, fI x6] = some w from e6)
    exact (fF_b (r := 275) (by decide) rfl).mp e7
  have f3 : fB K n p 25 [fI x2, fI x10] σ := by
    obtain ⟨w, e6, e7⟩ := m4 (402, [2, 10]) (List.mem_of_getElem? (i := 3) rfl)
    obtain rfl : [fI x2, fI x10] = w := Option.some.inj (show some [fI x2, fI x10] = some w from e6)
    exact (fF_b (r := 402) (by decide) rfl).mp e7
  have f4 : fB K n p 39 [fI x2, fI x7] σ := by
    obtain ⟨w, e6, e7⟩ := m4 (626, [2, 7]) (List.mem_of_getElem? (i := 4) rfl)
    obtain rfl : [fI x2, fI x7] = w := Option.some.inj (show some [fI x2, fI x7] = some w from e6)
    exact (fF_b (r := 626) (by decide) rfl).mp e7
  have f5 : fB K n p 56 [fI x2, fI x6, fI x5, fI x7, fI x8, fI x9] σ := by
    obtain ⟨w, e6, e7⟩ := m4 (902, [2, 6, 5, 7, 8, 9]) (List.mem_of_getElem? (i := 5) rfl)
    obtain rfl : [fI x2, fI x6, fI x5, fI x7, fI x8, fI x9] = w := Option.some.inj (show some [fI x2, fI x6, fI x5, fI x7, fI x8, fI x9] = some w from e6)
    exact (fF_b (r := 902) (by decide) rfl).mp e7
  have f6 : fB K n p 215 [fI x0, fI x2, fI x1, fI x5, fI x6] σ := by
    obtain ⟨w, e6, e7⟩ := m4 (3445, [0, 2, 1, 5, 6]) (List.mem_of_getElem? (i := 6) rfl)
    obtain rfl : [fI x0, fI x2, fI x1, fI x5, fI x6] = w := Option.some.inj (show some [fI x0, fI x2, fI x1, fI x5, fI x6] = some w from e6)
    exact (fF_b (r := 3445) (by decide) rfl).mp e7
  clear m1 m2 m3 m4
  obtain ⟨y0_0, y0_1, e9_0, h0, i0⟩ := f0
  cases e9_0
  obtain ⟨y1_0, y1_1, e8_1, h1⟩ := (fP_o (by decide)).mp f1
  cases e8_1
  obtain ⟨y2_0, y2_1, y2_2, e8_2, h2⟩ := fOr_r ((fE_o (by decide)).mp f2) (by rintro ⟨_, e9, -⟩; cases e9)
  cases e8_2
  obtain ⟨y3_0, y3_1, e9_3, h3⟩ := f3
  cases e9_3
  obtain ⟨y4_0, y4_1, e9_4, h4⟩ := f4
  cases e9_4
  obtain ⟨y5_0, y5_1, y5_2, y5_3, y5_4, y5_5, e8_5, h5⟩ := fOr_r ((fE_o (by decide)).mp f5) (by rintro ⟨_, _, e9, -⟩; cases e9)
  cases e8_5
  obtain ⟨y6_0, y6_1, y6_2, y6_3, y6_4, e8_6, h6⟩ := (fP_o (by decide)).mp f6
  cases e8_6
  rw [fNc] at h4
  unfold fOw at h3
  rw [fNc] at h3
  have hmk : x7.toInt % 8 = x10.toInt := by
    rw [← h4, h3, show ((x10.toNatClampNeg : Nat) : Int) = x10.toInt by rw [fNc]; omega]
    omega
  have hs := fSf_iff (M := (fq p).1) (F := (fq p).2) (h := x0.toInt) (ck := x1.toInt) (f := x2) (t := x5) (w := x6) (mn := x7) (m := x3) (by omega) h1 h2 h4
  have hk6 : ¬ x7.toInt % 8 = 6 := by omega
  rw [if_neg hk6] at hs
  have ex : x8.toInt = x0.toInt := by omega
  rw [ex] at h5
  have q0 : fB K n (p) 29 [fI x0, fI x1, fI x2, fI x3, fI x4] σ := by
    refine (fE_o (by decide)).mpr ⟨x0, x1, x2, x3, x4, rfl, Or.inr ⟨by omega, fun h9 => ?_⟩⟩
    rcases hs.mp h9 with hh | hh
    · exact h6 ⟨hh.1, by rw [hh.2]⟩
    · rcases h5 with h5 | h5
      · exact hh.1 h5.2
      · omega
  exact ⟨p, fun _ => rfl, ⟨(fun q h => by cases h), fun q h => (by cases h), (fun f h => by cases h), (aAllc ⟨_, rfl, (fF_b (r := 469) (by decide) rfl).mpr q0⟩ (fun f h => by cases h))⟩, [], List.mem_cons_self, fun f h => (by cases h)⟩
set_option maxRecDepth 8192 in
theorem rw_ruSGb {K : Nat → Nat} {n : Nat} : aGho (fF K n) fa_T K n (fJX K n) ag_ruSGb := by
  refine aGho_of ⟨rfl, rfl⟩ ?_
  intro p σ ρ hH hX hA hM
  have hG := aAG_of hA.1 (fun i e v he hv => (hA.2 i e v he hv).1)
  clear hA
  obtain ⟨v0, v1, v2, v3, v4, v5, v6, v7, v8, v9, v10, v11, rfl, g0, g1, g2, g3, g4, g5, g6, g7, g8, g9, g10, g11⟩ := fA_12 hG
  clear hG
  obtain ⟨x0, rfl, b0, d0⟩ := aG_int g0
  dsimp only at b0 d0
  obtain ⟨x1, rfl, b1, d1⟩ := aG_int g1
  dsimp only at b1 d1
  obtain ⟨x2, rfl, b2, d2⟩ := aG_int g2
  dsimp only at b2 d2
  obtain ⟨x3, rfl, b3, d3⟩ := aG_int g3
  dsimp only at b3 d3
  obtain ⟨x4, rfl, b4, d4⟩ := aG_int g4
  dsimp only at b4 d4
  obtain ⟨x5, rfl, b5, d5⟩ := aG_int g5
  dsimp only at b5 d5
  obtain ⟨x6, rfl, b6, d6⟩ := aG_int g6
  dsimp only at b6 d6
  obtain ⟨x7, rfl, b7, d7⟩ := aG_int g7
  dsimp only at b7 d7
  obtain ⟨x8, rfl, b8, d8⟩ := aG_int g8
  dsimp only at b8 d8
  obtain ⟨x9, rfl, b9, d9⟩ := aG_int g9
  dsimp only at b9 d9
  obtain ⟨x10, rfl, b10, d10⟩ := aG_int g10
  dsimp only at b10 d10
  obtain ⟨x11, rfl, b11, d11⟩ := aG_int g11
  dsimp only at b11 d11
  obtain ⟨m1, m2, m3, m4⟩ := hM
  have l0 : 0 ≤ (1 * x8.toInt + (-1 * x5.toInt + 0)) + 0 := by
    obtain ⟨z, e6, e7⟩ := m3 ([(8, 1), (5, -1)], 0) (List.mem_of_getElem? (i := 0) rfl)
    obtain rfl : (1 * x8.toInt + (-1 * x5.toInt + 0)) = z := Option.some.inj (show some (1 * x8.toInt + (-1 * x5.toInt + 0)) = some z from e6)
    exact e7
  have l1 : 0 ≤ (-1 * x8.toInt + (1 * x5.toInt + 0)) + 0 := by
    obtain ⟨z, e6, e7⟩ := m3 ([(8, -1), (5, 1)], 0) (List.mem_of_getElem? (i := 1) rfl)
    obtain rfl : (-1 * x8.toInt + (1 * x5.toInt + 0)) = z := Option.some.inj (show some (-1 * x8.toInt + (1 * x5.toInt + 0)) = some z from e6)
    exact e7
  have f0 : fB K n p 30 [fI x3, fI x2] σ := by
    obtain ⟨w, e6, e7⟩ := m4 (482, [3, 2]) (List.mem_of_getElem? (i := 0) rfl)
    obtain rfl : [fI x3, fI x2] = w := Option.some.inj (show some [fI x3, fI x2] = some w from e6)
    exact (fF_b (r := 482) (by decide) rfl).mp e7
  have f1 : fB K n p 214 [fI x3, fI x5] σ := by
    obtain ⟨w, e6, e7⟩ := m4 (3426, [3, 5]) (List.mem_of_getElem? (i := 1) rfl)
    obtain rfl : [fI x3, fI x5] = w := Option.some.inj (show some [fI x3, fI x5] = some w from e6)
    exact (fF_b (r := 3426) (by decide) rfl).mp e7
  have f2 : fB K n p 17 [fI x2, fI x5, fI x6] σ := by
    obtain ⟨w, e6, e7⟩ := m4 (275, [2, 5, 6]) (List.mem_of_getElem? (i := 2) rfl)
    obtain rfl : [fI x2, fI x5, fI x6] = w := Option.some.inj (show some [fI x2, fI x5, fI x6] = some w from e6)
    exact (fF_b (r := 275) (by decide) rfl).mp e7
  have f3 : fB K n p 25 [fI x2, fI x10] σ := by
    obtain ⟨w, e6, e7⟩ := m4 (402, [2, 10]) (List.mem_of_getElem? (i := 3) rfl)
    obtain rfl : [fI x2, fI x10] = w := Option.some.inj (show some [fI x2, fI x10] = some w from e6)
    exact (fF_b (r := 402) (by decide) rfl).mp e7
  have f4 : fB K n p 39 [fI x2, fI x7] σ := by
    obtain ⟨w, e6, e7⟩ := m4 (626, [2, 7]) (List.mem_of_getElem? (i := 4) rfl)
    obtain rfl : [fI x2, fI x7] = w := Option.some.inj (show some [fI x2, fI x7] = some w from e6)
    exact (fF_b (r := 626) (by decide) rfl).mp e7
  have f5 : fB K n p 56 [fI x2, fI x6, fI x5, fI x7, fI x8, fI x9] σ := by
    obtain ⟨w, e6, e7⟩ := m4 (902, [2, 6, 5, 7, 8, 9]) (List.mem_of_getElem? (i := 5) rfl)
    obtain rfl : [fI x2, fI x6, fI x5, fI x7, fI x8, fI x9] = w := Option.some.inj (show some [fI x2, fI x6, fI x5, fI x7, fI x8, fI x9] = some w from e6)
    exact (fF_b (r := 902) (by decide) rfl).mp e7
  have f6 : fB K n p 211 [fI x2, fI x5, fI x11] σ := by
    obtain ⟨w, e6, e7⟩ := m4 (3379, [2, 5, 11]) (List.mem_of_getElem? (i := 6) rfl)
    obtain rfl : [fI x2, fI x5, fI x11] = w := Option.some.inj (show some [fI x2, fI x5, fI x11] = some w from e6)
    exact (fF_b (r := 3379) (by decide) rfl).mp e7
  clear m1 m2 m3 m4
  obtain ⟨y0_0, y0_1, e9_0, h0, i0⟩ := f0
  cases e9_0
  obtain ⟨y1_0, y1_1, e8_1, h1⟩ := (fP_o (by decide)).mp f1
  cases e8_1
  obtain ⟨y2_0, y2_1, y2_2, e8_2, h2⟩ := fOr_r ((fE_o (by decide)).mp f2) (by rintro ⟨_, e9, -⟩; cases e9)
  cases e8_2
  obtain ⟨y3_0, y3_1, e9_3, h3⟩ := f3
  cases e9_3
  obtain ⟨y4_0, y4_1, e9_4, h4⟩ := f4
  cases e9_4
  obtain ⟨y5_0, y5_1, y5_2, y5_3, y5_4, y5_5, e8_5, h5⟩ := fOr_r ((fE_o (by decide)).mp f5) (by rintro ⟨_, _, e9, -⟩; cases e9)
  cases e8_5
  obtain ⟨y6_0, y6_1, y6_2, e8_6, h6⟩ := (fP_o (by decide)).mp f6
  cases e8_6
  rw [fNc] at h4
  unfold fOw at h3
  rw [fNc] at h3
  have hmk : x7.toInt % 8 = x10.toInt := by
    rw [← h4, h3, show ((x10.toNatClampNeg : Nat) : Int) = x10.toInt by rw [fNc]; omega]
    omega
  have hs := fSf_iff (M := (fq p).1) (F := (fq p).2) (h := x0.toInt) (ck := x1.toInt) (f := x2) (t := x5) (w := x6) (mn := x7) (m := x3) (by omega) h1 h2 h4
  have hk6 : x7.toInt % 8 = 6 := by omega
  rw [if_pos hk6] at hs
  have ex : x8.toInt = x5.toInt := by omega
  rw [ex] at h5
  have q0 : fB K n (p) 29 [fI x0, fI x1, fI x2, fI x3, fI x4] σ := by
    refine (fE_o (by decide)).mpr ⟨x0, x1, x2, x3, x4, rfl, Or.inl ⟨by omega, hs.mpr (Or.inr ⟨?_, fun _ hc => ?_⟩)⟩⟩
    · rcases h5 with h5 | h5
      · omega
      · exact h5.2
    · rcases h6 with h6 | h6
      · omega
      · exact absurd hc h6.2
  exact ⟨p, fun _ => rfl, ⟨(fun q h => by cases h), fun q h => (by cases h), (fun f h => by cases h), (aAllc ⟨_, rfl, (fF_b (r := 469) (by decide) rfl).mpr q0⟩ (fun f h => by cases h))⟩, [], List.mem_cons_self, fun f h => (by cases h)⟩
set_option maxRecDepth 8192 in
theorem rw_ruSGe {K : Nat → Nat} {n : Nat} : aGho (fF K n) fa_T K n (fJX K n) ag_ruSGe := by
  refine aGho_of ⟨rfl, rfl⟩ ?_
  intro p σ ρ hH hX hA hM
  have hG := aAG_of hA.1 (fun i e v he hv => (hA.2 i e v he hv).1)
  clear hA
  obtain ⟨v0, v1, v2, v3, v4, v5, v6, v7, v8, v9, v10, rfl, g0, g1, g2, g3, g4, g5, g6, g7, g8, g9, g10⟩ := fA_11 hG
  clear hG
  obtain ⟨x0, rfl, b0, d0⟩ := aG_int g0
  dsimp only at b0 d0
  obtain ⟨x1, rfl, b1, d1⟩ := aG_int g1
  dsimp only at b1 d1
  obtain ⟨x2, rfl, b2, d2⟩ := aG_int g2
  dsimp only at b2 d2
  obtain ⟨x3, rfl, b3, d3⟩ := aG_int g3
  dsimp only at b3 d3
  obtain ⟨x4, rfl, b4, d4⟩ := aG_int g4
  dsimp only at b4 d4
  obtain ⟨x5, rfl, b5, d5⟩ := aG_int g5
  dsimp only at b5 d5
  obtain ⟨x6, rfl, b6, d6⟩ := aG_int g6
  dsimp only at b6 d6
  obtain ⟨x7, rfl, b7, d7⟩ := aG_int g7
  dsimp only at b7 d7
  obtain ⟨x8, rfl, b8, d8⟩ := aG_int g8
  dsimp only at b8 d8
  obtain ⟨x9, rfl, b9, d9⟩ := aG_int g9
  dsimp only at b9 d9
  obtain ⟨x10, rfl, b10, d10⟩ := aG_int g10
  dsimp only at b10 d10
  obtain ⟨m1, m2, m3, m4⟩ := hM
  have l0 : 0 ≤ (1 * x8.toInt + (-1 * x5.toInt + 0)) + 0 := by
    obtain ⟨z, e6, e7⟩ := m3 ([(8, 1), (5, -1)], 0) (List.mem_of_getElem? (i := 0) rfl)
    obtain rfl : (1 * x8.toInt + (-1 * x5.toInt + 0)) = z := Option.some.inj (show some (1 * x8.toInt + (-1 * x5.toInt + 0)) = some z from e6)
    exact e7
  have l1 : 0 ≤ (-1 * x8.toInt + (1 * x5.toInt + 0)) + 0 := by
    obtain ⟨z, e6, e7⟩ := m3 ([(8, -1), (5, 1)], 0) (List.mem_of_getElem? (i := 1) rfl)
    obtain rfl : (-1 * x8.toInt + (1 * x5.toInt + 0)) = z := Option.some.inj (show some (-1 * x8.toInt + (1 * x5.toInt + 0)) = some z from e6)
    exact e7
  have f0 : fB K n p 30 [fI x3, fI x2] σ := by
    obtain ⟨w, e6, e7⟩ := m4 (482, [3, 2]) (List.mem_of_getElem? (i := 0) rfl)
    obtain rfl : [fI x3, fI x2] = w := Option.some.inj (show some [fI x3, fI x2] = some w from e6)
    exact (fF_b (r := 482) (by decide) rfl).mp e7
  have f1 : fB K n p 214 [fI x3, fI x5] σ := by
    obtain ⟨w, e6, e7⟩ := m4 (3426, [3, 5]) (List.mem_of_getElem? (i := 1) rfl)
    obtain rfl : [fI x3, fI x5] = w := Option.some.inj (show some [fI x3, fI x5] = some w from e6)
    exact (fF_b (r := 3426) (by decide) rfl).mp e7
  have f2 : fB K n p 17 [fI x2, fI x5, fI x6] σ := by
    obtain ⟨w, e6, e7⟩ := m4 (275, [2, 5, 6]) (List.mem_of_getElem? (i := 2) rfl)
    obtain rfl : [fI x2, fI x5, fI x6] = w := Option.some.inj (show some [fI x2, fI x5, fI x6] = some w from e6)
    exact (fF_b (r := 275) (by decide) rfl).mp e7
  have f3 : fB K n p 25 [fI x2, fI x10] σ := by
    obtain ⟨w, e6, e7⟩ := m4 (402, [2, 10]) (List.mem_of_getElem? (i := 3) rfl)
    obtain rfl : [fI x2, fI x10] = w := Option.some.inj (show some [fI x2, fI x10] = some w from e6)
    exact (fF_b (r := 402) (by decide) rfl).mp e7
  have f4 : fB K n p 39 [fI x2, fI x7] σ := by
    obtain ⟨w, e6, e7⟩ := m4 (626, [2, 7]) (List.mem_of_getElem? (i := 4) rfl)
    obtain rfl : [fI x2, fI x7] = w := Option.some.inj (show some [fI x2, fI x7] = some w from e6)
    exact (fF_b (r := 626) (by decide) rfl).mp e7
  have f5 : fB K n p 56 [fI x2, fI x6, fI x5, fI x7, fI x8, fI x9] σ := by
    obtain ⟨w, e6, e7⟩ := m4 (902, [2, 6, 5, 7, 8, 9]) (List.mem_of_getElem? (i := 5) rfl)
    obtain rfl : [fI x2, fI x6, fI x5, fI x7, fI x8, fI x9] = w := Option.some.inj (show some [fI x2, fI x6, fI x5, fI x7, fI x8, fI x9] = some w from e6)
    exact (fF_b (r := 902) (by decide) rfl).mp e7
  have f6 : fB K n p 215 [fI x0, fI x2, fI x1, fI x5, fI x6] σ := by
    obtain ⟨w, e6, e7⟩ := m4 (3445, [0, 2, 1, 5, 6]) (List.mem_of_getElem? (i := 6) rfl)
    obtain rfl : [fI x0, fI x2, fI x1, fI x5, fI x6] = w := Option.some.inj (show some [fI x0, fI x2, fI x1, fI x5, fI x6] = some w from e6)
    exact (fF_b (r := 3445) (by decide) rfl).mp e7
  clear m1 m2 m3 m4
  obtain ⟨y0_0, y0_1, e9_0, h0, i0⟩ := f0
  cases e9_0
  obtain ⟨y1_0, y1_1, e8_1, h1⟩ := (fP_o (by decide)).mp f1
  cases e8_1
  obtain ⟨y2_0, y2_1, y2_2, e8_2, h2⟩ := fOr_r ((fE_o (by decide)).mp f2) (by rintro ⟨_, e9, -⟩; cases e9)
  cases e8_2
  obtain ⟨y3_0, y3_1, e9_3, h3⟩ := f3
  cases e9_3
  obtain ⟨y4_0, y4_1, e9_4, h4⟩ := f4
  cases e9_4
  obtain ⟨y5_0, y5_1, y5_2, y5_3, y5_4, y5_5, e8_5, h5⟩ := fOr_r ((fE_o (by decide)).mp f5) (by rintro ⟨_, _, e9, -⟩; cases e9)
  cases e8_5
  obtain ⟨y6_0, y6_1, y6_2, y6_3, y6_4, e8_6, h6⟩ := (fP_o (by decide)).mp f6
  cases e8_6
  rw [fNc] at h4
  unfold fOw at h3
  rw [fNc] at h3
  have hmk : x7.toInt % 8 = x10.toInt := by
    rw [← h4, h3, show ((x10.toNatClampNeg : Nat) : Int) = x10.toInt by rw [fNc]; omega]
    omega
  have hs := fSf_iff (M := (fq p).1) (F := (fq p).2) (h := x0.toInt) (ck := x1.toInt) (f := x2) (t := x5) (w := x6) (mn := x7) (m := x3) (by omega) h1 h2 h4
  have hk6 : x7.toInt % 8 = 6 := by omega
  rw [if_pos hk6] at hs
  have ex : x8.toInt = x5.toInt := by omega
  rw [ex] at h5
  have q0 : fB K n (p) 29 [fI x0, fI x1, fI x2, fI x3, fI x4] σ := by
    refine (fE_o (by decide)).mpr ⟨x0, x1, x2, x3, x4, rfl, Or.inr ⟨by omega, fun h9 => ?_⟩⟩
    rcases hs.mp h9 with hh | hh
    · exact h6 ⟨hh.1, by rw [hh.2]⟩
    · rcases h5 with h5 | h5
      · exact hh.1 h5.2
      · omega
  exact ⟨p, fun _ => rfl, ⟨(fun q h => by cases h), fun q h => (by cases h), (fun f h => by cases h), (aAllc ⟨_, rfl, (fF_b (r := 469) (by decide) rfl).mpr q0⟩ (fun f h => by cases h))⟩, [], List.mem_cons_self, fun f h => (by cases h)⟩
set_option maxRecDepth 8192 in
theorem rw_ruSGc {K : Nat → Nat} {n : Nat} : aGho (fF K n) fa_T K n (fJX K n) ag_ruSGc := by
  refine aGho_of ⟨rfl, rfl⟩ ?_
  intro p σ ρ hH hX hA hM
  have hG := aAG_of hA.1 (fun i e v he hv => (hA.2 i e v he hv).1)
  clear hA
  obtain ⟨v0, v1, v2, v3, v4, v5, v6, v7, v8, v9, v10, v11, v12, v13, rfl, g0, g1, g2, g3, g4, g5, g6, g7, g8, g9, g10, g11, g12, g13⟩ := fA_14 hG
  clear hG
  obtain ⟨x0, rfl, b0, d0⟩ := aG_int g0
  dsimp only at b0 d0
  obtain ⟨x1, rfl, b1, d1⟩ := aG_int g1
  dsimp only at b1 d1
  obtain ⟨x2, rfl, b2, d2⟩ := aG_int g2
  dsimp only at b2 d2
  obtain ⟨x3, rfl, b3, d3⟩ := aG_int g3
  dsimp only at b3 d3
  obtain ⟨x4, rfl, b4, d4⟩ := aG_int g4
  dsimp only at b4 d4
  obtain ⟨x5, rfl, b5, d5⟩ := aG_int g5
  dsimp only at b5 d5
  obtain ⟨x6, rfl, b6, d6⟩ := aG_int g6
  dsimp only at b6 d6
  obtain ⟨x7, rfl, b7, d7⟩ := aG_int g7
  dsimp only at b7 d7
  obtain ⟨x8, rfl, b8, d8⟩ := aG_int g8
  dsimp only at b8 d8
  obtain ⟨x9, rfl, b9, d9⟩ := aG_int g9
  dsimp only at b9 d9
  obtain ⟨x10, rfl, b10, d10⟩ := aG_int g10
  dsimp only at b10 d10
  obtain ⟨x11, rfl, b11, d11⟩ := aG_int g11
  dsimp only at b11 d11
  obtain ⟨x12, rfl, b12, d12⟩ := aG_int g12
  dsimp only at b12 d12
  obtain ⟨x13, rfl, b13, d13⟩ := aG_int g13
  dsimp only at b13 d13
  obtain ⟨m1, m2, m3, m4⟩ := hM
  have l0 : 0 ≤ (1 * x8.toInt + (-1 * x5.toInt + 0)) + 0 := by
    obtain ⟨z, e6, e7⟩ := m3 ([(8, 1), (5, -1)], 0) (List.mem_of_getElem? (i := 0) rfl)
    obtain rfl : (1 * x8.toInt + (-1 * x5.toInt + 0)) = z := Option.some.inj (show some (1 * x8.toInt + (-1 * x5.toInt + 0)) = some z from e6)
    exact e7
  have l1 : 0 ≤ (-1 * x8.toInt + (1 * x5.toInt + 0)) + 0 := by
    obtain ⟨z, e6, e7⟩ := m3 ([(8, -1), (5, 1)], 0) (List.mem_of_getElem? (i := 1) rfl)
    obtain rfl : (-1 * x8.toInt + (1 * x5.toInt + 0)) = z := Option.some.inj (show some (-1 * x8.toInt + (1 * x5.toInt + 0)) = some z from e6)
    exact e7
  have l2 : 0 ≤ (1 * x2.toInt + (1 * x5.toInt + (-2 * x12.toInt + 0))) + 0 := by
    obtain ⟨z, e6, e7⟩ := m3 ([(2, 1), (5, 1), (12, -2)], 0) (List.mem_of_getElem? (i := 2) rfl)
    obtain rfl : (1 * x2.toInt + (1 * x5.toInt + (-2 * x12.toInt + 0))) = z := Option.some.inj (show some (1 * x2.toInt + (1 * x5.toInt + (-2 * x12.toInt + 0))) = some z from e6)
    exact e7
  have l3 : 0 ≤ (-1 * x2.toInt + (-1 * x5.toInt + (2 * x12.toInt + 0))) + 1 := by
    obtain ⟨z, e6, e7⟩ := m3 ([(2, -1), (5, -1), (12, 2)], 1) (List.mem_of_getElem? (i := 3) rfl)
    obtain rfl : (-1 * x2.toInt + (-1 * x5.toInt + (2 * x12.toInt + 0))) = z := Option.some.inj (show some (-1 * x2.toInt + (-1 * x5.toInt + (2 * x12.toInt + 0))) = some z from e6)
    exact e7
  have f0 : fB K n p 30 [fI x3, fI x2] σ := by
    obtain ⟨w, e6, e7⟩ := m4 (482, [3, 2]) (List.mem_of_getElem? (i := 0) rfl)
    obtain rfl : [fI x3, fI x2] = w := Option.some.inj (show some [fI x3, fI x2] = some w from e6)
    exact (fF_b (r := 482) (by decide) rfl).mp e7
  have f1 : fB K n p 214 [fI x3, fI x5] σ := by
    obtain ⟨w, e6, e7⟩ := m4 (3426, [3, 5]) (List.mem_of_getElem? (i := 1) rfl)
    obtain rfl : [fI x3, fI x5] = w := Option.some.inj (show some [fI x3, fI x5] = some w from e6)
    exact (fF_b (r := 3426) (by decide) rfl).mp e7
  have f2 : fB K n p 17 [fI x2, fI x5, fI x6] σ := by
    obtain ⟨w, e6, e7⟩ := m4 (275, [2, 5, 6]) (List.mem_of_getElem? (i := 2) rfl)
    obtain rfl : [fI x2, fI x5, fI x6] = w := Option.some.inj (show some [fI x2, fI x5, fI x6] = some w from e6)
    exact (fF_b (r := 275) (by decide) rfl).mp e7
  have f3 : fB K n p 25 [fI x2, fI x10] σ := by
    obtain ⟨w, e6, e7⟩ := m4 (402, [2, 10]) (List.mem_of_getElem? (i := 3) rfl)
    obtain rfl : [fI x2, fI x10] = w := Option.some.inj (show some [fI x2, fI x10] = some w from e6)
    exact (fF_b (r := 402) (by decide) rfl).mp e7
  have f4 : fB K n p 39 [fI x2, fI x7] σ := by
    obtain ⟨w, e6, e7⟩ := m4 (626, [2, 7]) (List.mem_of_getElem? (i := 4) rfl)
    obtain rfl : [fI x2, fI x7] = w := Option.some.inj (show some [fI x2, fI x7] = some w from e6)
    exact (fF_b (r := 626) (by decide) rfl).mp e7
  have f5 : fB K n p 56 [fI x2, fI x6, fI x5, fI x7, fI x8, fI x9] σ := by
    obtain ⟨w, e6, e7⟩ := m4 (902, [2, 6, 5, 7, 8, 9]) (List.mem_of_getElem? (i := 5) rfl)
    obtain rfl : [fI x2, fI x6, fI x5, fI x7, fI x8, fI x9] = w := Option.some.inj (show some [fI x2, fI x6, fI x5, fI x7, fI x8, fI x9] = some w from e6)
    exact (fF_b (r := 902) (by decide) rfl).mp e7
  have f6 : fB K n p 211 [fI x2, fI x5, fI x11] σ := by
    obtain ⟨w, e6, e7⟩ := m4 (3379, [2, 5, 11]) (List.mem_of_getElem? (i := 6) rfl)
    obtain rfl : [fI x2, fI x5, fI x11] = w := Option.some.inj (show some [fI x2, fI x5, fI x11] = some w from e6)
    exact (fF_b (r := 3379) (by decide) rfl).mp e7
  have f7 : fB K n p 57 [fI x2, fI x6, fI x5, fI x7, fI x12, fI x13] σ := by
    obtain ⟨w, e6, e7⟩ := m4 (918, [2, 6, 5, 7, 12, 13]) (List.mem_of_getElem? (i := 7) rfl)
    obtain rfl : [fI x2, fI x6, fI x5, fI x7, fI x12, fI x13] = w := Option.some.inj (show some [fI x2, fI x6, fI x5, fI x7, fI x12, fI x13] = some w from e6)
    exact (fF_b (r := 918) (by decide) rfl).mp e7
  clear m1 m2 m3 m4
  obtain ⟨y0_0, y0_1, e9_0, h0, i0⟩ := f0
  cases e9_0
  obtain ⟨y1_0, y1_1, e8_1, h1⟩ := (fP_o (by decide)).mp f1
  cases e8_1
  obtain ⟨y2_0, y2_1, y2_2, e8_2, h2⟩ := fOr_r ((fE_o (by decide)).mp f2) (by rintro ⟨_, e9, -⟩; cases e9)
  cases e8_2
  obtain ⟨y3_0, y3_1, e9_3, h3⟩ := f3
  cases e9_3
  obtain ⟨y4_0, y4_1, e9_4, h4⟩ := f4
  cases e9_4
  obtain ⟨y5_0, y5_1, y5_2, y5_3, y5_4, y5_5, e8_5, h5⟩ := fOr_r ((fE_o (by decide)).mp f5) (by rintro ⟨_, _, e9, -⟩; cases e9)
  cases e8_5
  obtain ⟨y6_0, y6_1, y6_2, e8_6, h6⟩ := (fP_o (by decide)).mp f6
  cases e8_6
  obtain ⟨y7_0, y7_1, y7_2, y7_3, y7_4, y7_5, e8_7, h7⟩ := fOr_r ((fE_o (by decide)).mp f7) (by rintro ⟨_, _, e9, -⟩; cases e9)
  cases e8_7
  rw [fNc] at h4
  unfold fOw at h3
  rw [fNc] at h3
  have hmk : x7.toInt % 8 = x10.toInt := by
    rw [← h4, h3, show ((x10.toNatClampNeg : Nat) : Int) = x10.toInt by rw [fNc]; omega]
    omega
  have hs := fSf_iff (M := (fq p).1) (F := (fq p).2) (h := x0.toInt) (ck := x1.toInt) (f := x2) (t := x5) (w := x6) (mn := x7) (m := x3) (by omega) h1 h2 h4
  have hk6 : x7.toInt % 8 = 6 := by omega
  rw [if_pos hk6] at hs
  have ex : x8.toInt = x5.toInt := by omega
  rw [ex] at h5
  have em : x12.toInt = (x2.toInt + x5.toInt) / 2 := by omega
  rw [em] at h7
  have q0 : fB K n (p) 29 [fI x0, fI x1, fI x2, fI x3, fI x4] σ := by
    refine (fE_o (by decide)).mpr ⟨x0, x1, x2, x3, x4, rfl, Or.inl ⟨by omega, hs.mpr (Or.inr ⟨?_, fun _ _ => ?_⟩)⟩⟩
    · rcases h5 with h5 | h5
      · omega
      · exact h5.2
    · rcases h7 with h7 | h7
      · omega
      · exact h7.2
  exact ⟨p, fun _ => rfl, ⟨(fun q h => by cases h), fun q h => (by cases h), (fun f h => by cases h), (aAllc ⟨_, rfl, (fF_b (r := 469) (by decide) rfl).mpr q0⟩ (fun f h => by cases h))⟩, [], List.mem_cons_self, fun f h => (by cases h)⟩
set_option maxRecDepth 8192 in
theorem rw_ruSGf {K : Nat → Nat} {n : Nat} : aGho (fF K n) fa_T K n (fJX K n) ag_ruSGf := by
  refine aGho_of ⟨rfl, rfl⟩ ?_
  intro p σ ρ hH hX hA hM
  have hG := aAG_of hA.1 (fun i e v he hv => (hA.2 i e v he hv).1)
  clear hA
  obtain ⟨v0, v1, v2, v3, v4, v5, v6, v7, v8, v9, v10, v11, v12, v13, rfl, g0, g1, g2, g3, g4, g5, g6, g7, g8, g9, g10, g11, g12, g13⟩ := fA_14 hG
  clear hG
  obtain ⟨x0, rfl, b0, d0⟩ := aG_int g0
  dsimp only at b0 d0
  obtain ⟨x1, rfl, b1, d1⟩ := aG_int g1
  dsimp only at b1 d1
  obtain ⟨x2, rfl, b2, d2⟩ := aG_int g2
  dsimp only at b2 d2
  obtain ⟨x3, rfl, b3, d3⟩ := aG_int g3
  dsimp only at b3 d3
  obtain ⟨x4, rfl, b4, d4⟩ := aG_int g4
  dsimp only at b4 d4
  obtain ⟨x5, rfl, b5, d5⟩ := aG_int g5
  dsimp only at b5 d5
  obtain ⟨x6, rfl, b6, d6⟩ := aG_int g6
  dsimp only at b6 d6
  obtain ⟨x7, rfl, b7, d7⟩ := aG_int g7
  dsimp only at b7 d7
  obtain ⟨x8, rfl, b8, d8⟩ := aG_int g8
  dsimp only at b8 d8
  obtain ⟨x9, rfl, b9, d9⟩ := aG_int g9
  dsimp only at b9 d9
  obtain ⟨x10, rfl, b10, d10⟩ := aG_int g10
  dsimp only at b10 d10
  obtain ⟨x11, rfl, b11, d11⟩ := aG_int g11
  dsimp only at b11 d11
  obtain ⟨x12, rfl, b12, d12⟩ := aG_int g12
  dsimp only at b12 d12
  obtain ⟨x13, rfl, b13, d13⟩ := aG_int g13
  dsimp only at b13 d13
  obtain ⟨m1, m2, m3, m4⟩ := hM
  have l0 : 0 ≤ (1 * x8.toInt + (-1 * x5.toInt + 0)) + 0 := by
    obtain ⟨z, e6, e7⟩ := m3 ([(8, 1), (5, -1)], 0) (List.mem_of_getElem? (i := 0) rfl)
    obtain rfl : (1 * x8.toInt + (-1 * x5.toInt + 0)) = z := Option.some.inj (show some (1 * x8.toInt + (-1 * x5.toInt + 0)) = some z from e6)
    exact e7
  have l1 : 0 ≤ (-1 * x8.toInt + (1 * x5.toInt + 0)) + 0 := by
    obtain ⟨z, e6, e7⟩ := m3 ([(8, -1), (5, 1)], 0) (List.mem_of_getElem? (i := 1) rfl)
    obtain rfl : (-1 * x8.toInt + (1 * x5.toInt + 0)) = z := Option.some.inj (show some (-1 * x8.toInt + (1 * x5.toInt + 0)) = some z from e6)
    exact e7
  have l2 : 0 ≤ (1 * x2.toInt + (1 * x5.toInt + (-2 * x12.toInt + 0))) + 0 := by
    obtain ⟨z, e6, e7⟩ := m3 ([(2, 1), (5, 1), (12, -2)], 0) (List.mem_of_getElem? (i := 2) rfl)
    obtain rfl : (1 * x2.toInt + (1 * x5.toInt + (-2 * x12.toInt + 0))) = z := Option.some.inj (show some (1 * x2.toInt + (1 * x5.toInt + (-2 * x12.toInt + 0))) = some z from e6)
    exact e7
  have l3 : 0 ≤ (-1 * x2.toInt + (-1 * x5.toInt + (2 * x12.toInt + 0))) + 1 := by
    obtain ⟨z, e6, e7⟩ := m3 ([(2, -1), (5, -1), (12, 2)], 1) (List.mem_of_getElem? (i := 3) rfl)
    obtain rfl : (-1 * x2.toInt + (-1 * x5.toInt + (2 * x12.toInt + 0))) = z := Option.some.inj (show some (-1 * x2.toInt + (-1 * x5.toInt + (2 * x12.toInt + 0))) = some z from e6)
    exact e7
  have f0 : fB K n p 30 [fI x3, fI x2] σ := by
    obtain ⟨w, e6, e7⟩ := m4 (482, [3, 2]) (List.mem_of_getElem? (i := 0) rfl)
    obtain rfl : [fI x3, fI x2] = w := Option.some.inj (show some [fI x3, fI x2] = some w from e6)
    exact (fF_b (r := 482) (by decide) rfl).mp e7
  have f1 : fB K n p 214 [fI x3, fI x5] σ := by
    obtain ⟨w, e6, e7⟩ := m4 (3426, [3, 5]) (List.mem_of_getElem? (i := 1) rfl)
    obtain rfl : [fI x3, fI x5] = w := Option.some.inj (show some [fI x3, fI x5] = some w from e6)
    exact (fF_b (r := 3426) (by decide) rfl).mp e7
  have f2 : fB K n p 17 [fI x2, fI x5, fI x6] σ := by
    obtain ⟨w, e6, e7⟩ := m4 (275, [2, 5, 6]) (List.mem_of_getElem? (i := 2) rfl)
    obtain rfl : [fI x2, fI x5, fI x6] = w := Option.some.inj (show some [fI x2, fI x5, fI x6] = some w from e6)
    exact (fF_b (r := 275) (by decide) rfl).mp e7
  have f3 : fB K n p 25 [fI x2, fI x10] σ := by
    obtain ⟨w, e6, e7⟩ := m4 (402, [2, 10]) (List.mem_of_getElem? (i := 3) rfl)
    obtain rfl : [fI x2, fI x10] = w := Option.some.inj (show some [fI x2, fI x10] = some w from e6)
    exact (fF_b (r := 402) (by decide) rfl).mp e7
  have f4 : fB K n p 39 [fI x2, fI x7] σ := by
    obtain ⟨w, e6, e7⟩ := m4 (626, [2, 7]) (List.mem_of_getElem? (i := 4) rfl)
    obtain rfl : [fI x2, fI x7] = w := Option.some.inj (show some [fI x2, fI x7] = some w from e6)
    exact (fF_b (r := 626) (by decide) rfl).mp e7
  have f5 : fB K n p 56 [fI x2, fI x6, fI x5, fI x7, fI x8, fI x9] σ := by
    obtain ⟨w, e6, e7⟩ := m4 (902, [2, 6, 5, 7, 8, 9]) (List.mem_of_getElem? (i := 5) rfl)
    obtain rfl : [fI x2, fI x6, fI x5, fI x7, fI x8, fI x9] = w := Option.some.inj (show some [fI x2, fI x6, fI x5, fI x7, fI x8, fI x9] = some w from e6)
    exact (fF_b (r := 902) (by decide) rfl).mp e7
  have f6 : fB K n p 211 [fI x2, fI x5, fI x11] σ := by
    obtain ⟨w, e6, e7⟩ := m4 (3379, [2, 5, 11]) (List.mem_of_getElem? (i := 6) rfl)
    obtain rfl : [fI x2, fI x5, fI x11] = w := Option.some.inj (show some [fI x2, fI x5, fI x11] = some w from e6)
    exact (fF_b (r := 3379) (by decide) rfl).mp e7
  have f7 : fB K n p 57 [fI x2, fI x6, fI x5, fI x7, fI x12, fI x13] σ := by
    obtain ⟨w, e6, e7⟩ := m4 (918, [2, 6, 5, 7, 12, 13]) (List.mem_of_getElem? (i := 7) rfl)
    obtain rfl : [fI x2, fI x6, fI x5, fI x7, fI x12, fI x13] = w := Option.some.inj (show some [fI x2, fI x6, fI x5, fI x7, fI x12, fI x13] = some w from e6)
    exact (fF_b (r := 918) (by decide) rfl).mp e7
  have f8 : fB K n p 215 [fI x0, fI x2, fI x1, fI x5, fI x6] σ := by
    obtain ⟨w, e6, e7⟩ := m4 (3445, [0, 2, 1, 5, 6]) (List.mem_of_getElem? (i := 8) rfl)
    obtain rfl : [fI x0, fI x2, fI x1, fI x5, fI x6] = w := Option.some.inj (show some [fI x0, fI x2, fI x1, fI x5, fI x6] = some w from e6)
    exact (fF_b (r := 3445) (by decide) rfl).mp e7
  clear m1 m2 m3 m4
  obtain ⟨y0_0, y0_1, e9_0, h0, i0⟩ := f0
  cases e9_0
  obtain ⟨y1_0, y1_1, e8_1, h1⟩ := (fP_o (by decide)).mp f1
  cases e8_1
  obtain ⟨y2_0, y2_1, y2_2, e8_2, h2⟩ := fOr_r ((fE_o (by decide)).mp f2) (by rintro ⟨_, e9, -⟩; cases e9)
  cases e8_2
  obtain ⟨y3_0, y3_1, e9_3, h3⟩ := f3
  cases e9_3
  obtain ⟨y4_0, y4_1, e9_4, h4⟩ := f4
  cases e9_4
  obtain ⟨y5_0, y5_1, y5_2, y5_3, y5_4, y5_5, e8_5, h5⟩ := fOr_r ((fE_o (by decide)).mp f5) (by rintro ⟨_, _, e9, -⟩; cases e9)
  cases e8_5
  obtain ⟨y6_0, y6_1, y6_2, e8_6, h6⟩ := (fP_o (by decide)).mp f6
  cases e8_6
  obtain ⟨y7_0, y7_1, y7_2, y7_3, y7_4, y7_5, e8_7, h7⟩ := fOr_r ((fE_o (by decide)).mp f7) (by rintro ⟨_, _, e9, -⟩; cases e9)
  cases e8_7
  obtain ⟨y8_0, y8_1, y8_2, y8_3, y8_4, e8_8, h8⟩ := (fP_o (by decide)).mp f8
  cases e8_8
  rw [fNc] at h4
  unfold fOw at h3
  rw [fNc] at h3
  have hmk : x7.toInt % 8 = x10.toInt := by
    rw [← h4, h3, show ((x10.toNatClampNeg : Nat) : Int) = x10.toInt by rw [fNc]; omega]
    omega
  have hs := fSf_iff (M := (fq p).1) (F := (fq p).2) (h := x0.toInt) (ck := x1.toInt) (f := x2) (t := x5) (w := x6) (mn := x7) (m := x3) (by omega) h1 h2 h4
  have hk6 : x7.toInt % 8 = 6 := by omega
  rw [if_pos hk6] at hs
  have ex : x8.toInt = x5.toInt := by omega
  rw [ex] at h5
  have em : x12.toInt = (x2.toInt + x5.toInt) / 2 := by omega
  rw [em] at h7
  have q0 : fB K n (p) 29 [fI x0, fI x1, fI x2, fI x3, fI x4] σ := by
    refine (fE_o (by decide)).mpr ⟨x0, x1, x2, x3, x4, rfl, Or.inr ⟨by omega, fun h9 => ?_⟩⟩
    rcases hs.mp h9 with hh | hh
    · exact h8 ⟨hh.1, by rw [hh.2]⟩
    · rcases h7 with h7 | h7
      · rcases h6 with h6 | h6
        · exact hh.2 hk6 h6.2 h7.2
        · omega
      · omega
  exact ⟨p, fun _ => rfl, ⟨(fun q h => by cases h), fun q h => (by cases h), (fun f h => by cases h), (aAllc ⟨_, rfl, (fF_b (r := 469) (by decide) rfl).mpr q0⟩ (fun f h => by cases h))⟩, [], List.mem_cons_self, fun f h => (by cases h)⟩
set_option maxRecDepth 8192 in
theorem rw_ruHK {K : Nat → Nat} {n : Nat} : aGho (fF K n) fa_T K n (fJX K n) ag_ruHK := by
  refine aGho_of ⟨rfl, rfl⟩ ?_
  intro p σ ρ hH hX hA hM
  have hG := aAG_of hA.1 (fun i e v he hv => (hA.2 i e v he hv).1)
  clear hA
  obtain ⟨v0, v1, v2, rfl, g0, g1, g2⟩ := fA_3 hG
  clear hG
  obtain ⟨x0, rfl, b0, d0⟩ := fG_ref (by decide) g0
  obtain ⟨x1, rfl, b1, d1⟩ := aG_int g1
  dsimp only at b1 d1
  obtain ⟨x2, rfl, b2, d2⟩ := aG_int g2
  dsimp only at b2 d2
  obtain ⟨m1, m2, m3, m4⟩ := hM
  have f0 : fB K n p 60 [fR x0, fI x1, fI x2] σ := by
    obtain ⟨w, e6, e7⟩ := m4 (963, [0, 1, 2]) (List.mem_of_getElem? (i := 0) rfl)
    obtain rfl : [fR x0, fI x1, fI x2] = w := Option.some.inj (show some [fR x0, fI x1, fI x2] = some w from e6)
    exact (fF_b (r := 963) (by decide) rfl).mp e7
  clear m1 m2 m3 m4
  obtain ⟨k0, h0, u0, v0⟩ := fK_3.mp f0
  have q0 : fB K n (p) 60 [fR x0] σ := by
    exact fK_1.mpr ⟨k0, h0, u0 (by omega)⟩
  exact ⟨p, fun _ => rfl, ⟨(fun q h => by cases h), fun q h => (by cases h), (fun f h => by cases h), (aAllc ⟨_, rfl, (fF_b (r := 961) (by decide) rfl).mpr q0⟩ (fun f h => by cases h))⟩, [], List.mem_cons_self, fun f h => (by cases h)⟩
set_option maxRecDepth 8192 in
theorem rw_ruHK2 {K : Nat → Nat} {n : Nat} : aGho (fF K n) fa_T K n (fJX K n) ag_ruHK2 := by
  refine aGho_of ⟨rfl, rfl⟩ ?_
  intro p σ ρ hH hX hA hM
  have hG := aAG_of hA.1 (fun i e v he hv => (hA.2 i e v he hv).1)
  clear hA
  obtain ⟨v0, v1, v2, rfl, g0, g1, g2⟩ := fA_3 hG
  clear hG
  obtain ⟨x0, rfl, b0, d0⟩ := fG_ref (by decide) g0
  obtain ⟨x1, rfl, b1, d1⟩ := aG_int g1
  dsimp only at b1 d1
  obtain ⟨x2, rfl, b2, d2⟩ := aG_int g2
  dsimp only at b2 d2
  obtain ⟨m1, m2, m3, m4⟩ := hM
  have f0 : fB K n p 60 [fR x0] σ := by
    obtain ⟨w, e6, e7⟩ := m4 (961, [0]) (List.mem_of_getElem? (i := 0) rfl)
    obtain rfl : [fR x0] = w := Option.some.inj (show some [fR x0] = some w from e6)
    exact (fF_b (r := 961) (by decide) rfl).mp e7
  have f1 : fB K n p 60 [fR x0, fI x1, fI x2] σ := by
    obtain ⟨w, e6, e7⟩ := m4 (963, [0, 1, 2]) (List.mem_of_getElem? (i := 1) rfl)
    obtain rfl : [fR x0, fI x1, fI x2] = w := Option.some.inj (show some [fR x0, fI x1, fI x2] = some w from e6)
    exact (fF_b (r := 963) (by decide) rfl).mp e7
  clear m1 m2 m3 m4
  obtain ⟨k0, h0, i0⟩ := fK_1.mp f0
  obtain ⟨k1, h1, u1, v1⟩ := fK_3.mp f1
  have r0 : 0 ≤ (1 * x2.toInt + 0) + -1 := by
    by_cases hz : x2.toInt = 0
    · exfalso
      obtain rfl := fKg_u h0 h1
      exact v1 (by omega) i0
    · omega
  exact ⟨p, fun _ => rfl, ⟨(fun q h => by cases h), fun q h => (by cases h), (aAllc ⟨_, rfl, r0⟩ (fun f h => by cases h)), (fun f h => by cases h)⟩, [], List.mem_cons_self, fun f h => (by cases h)⟩
set_option maxRecDepth 8192 in
theorem rw_ruHKa {K : Nat → Nat} {n : Nat} : aGho (fF K n) fa_T K n (fJX K n) ag_ruHKa := by
  refine aGho_of ⟨rfl, rfl⟩ ?_
  intro p σ ρ hH hX hA hM
  have hG := aAG_of hA.1 (fun i e v he hv => (hA.2 i e v he hv).1)
  clear hA
  obtain ⟨v0, v1, rfl, g0, g1⟩ := fA_2 hG
  clear hG
  obtain ⟨x0, rfl, b0, d0⟩ := fG_ref (by decide) g0
  obtain ⟨x1, rfl, b1, d1⟩ := aG_int g1
  dsimp only at b1 d1
  obtain ⟨m1, m2, m3, m4⟩ := hM
  clear m1 m2 m3 m4
  have q0 : fB K n (p) 60 [fR x0, fI x1] σ := by
    exact fK_2.mpr (Or.inl (by omega))
  exact ⟨p, fun _ => rfl, ⟨(fun q h => by cases h), fun q h => (by cases h), (fun f h => by cases h), (aAllc ⟨_, rfl, (fF_b (r := 962) (by decide) rfl).mpr q0⟩ (fun f h => by cases h))⟩, [], List.mem_cons_self, fun f h => (by cases h)⟩
set_option maxRecDepth 8192 in
theorem rw_ruHKb {K : Nat → Nat} {n : Nat} : aGho (fF K n) fa_T K n (fJX K n) ag_ruHKb := by
  refine aGho_of ⟨rfl, rfl⟩ ?_
  intro p σ ρ hH hX hA hM
  have hG := aAG_of hA.1 (fun i e v he hv => (hA.2 i e v he hv).1)
  clear hA
  obtain ⟨v0, v1, rfl, g0, g1⟩ := fA_2 hG
  clear hG
  obtain ⟨x0, rfl, b0, d0⟩ := fG_ref (by decide) g0
  obtain ⟨x1, rfl, b1, d1⟩ := aG_int g1
  dsimp only at b1 d1
  obtain ⟨m1, m2, m3, m4⟩ := hM
  have f0 : fB K n p 60 [fR x0] σ := by
    obtain ⟨w, e6, e7⟩ := m4 (961, [0]) (List.mem_of_getElem? (i := 0) rfl)
    obtain rfl : [fR x0] = w := Option.some.inj (show some [fR x0] = some w from e6)
    exact (fF_b (r := 961) (by decide) rfl).mp e7
  clear m1 m2 m3 m4
  obtain ⟨k0, h0, i0⟩ := fK_1.mp f0
  have q0 : fB K n (p) 60 [fR x0, fI x1] σ := by
    exact fK_2.mpr (Or.inr ⟨k0, h0, i0⟩)
  exact ⟨p, fun _ => rfl, ⟨(fun q h => by cases h), fun q h => (by cases h), (fun f h => by cases h), (aAllc ⟨_, rfl, (fF_b (r := 962) (by decide) rfl).mpr q0⟩ (fun f h => by cases h))⟩, [], List.mem_cons_self, fun f h => (by cases h)⟩
set_option maxRecDepth 8192 in
theorem rw_ruHKc {K : Nat → Nat} {n : Nat} : aGho (fF K n) fa_T K n (fJX K n) ag_ruHKc := by
  refine aGho_of ⟨rfl, rfl⟩ ?_
  intro p σ ρ hH hX hA hM
  have hG := aAG_of hA.1 (fun i e v he hv => (hA.2 i e v he hv).1)
  clear hA
  obtain ⟨v0, v1, rfl, g0, g1⟩ := fA_2 hG
  clear hG
  obtain ⟨x0, rfl, b0, d0⟩ := fG_ref (by decide) g0
  obtain ⟨x1, rfl, b1, d1⟩ := aG_int g1
  dsimp only at b1 d1
  obtain ⟨m1, m2, m3, m4⟩ := hM
  have f0 : fB K n p 60 [fR x0, fI x1] σ := by
    obtain ⟨w, e6, e7⟩ := m4 (962, [0, 1]) (List.mem_of_getElem? (i := 0) rfl)
    obtain rfl : [fR x0, fI x1] = w := Option.some.inj (show some [fR x0, fI x1] = some w from e6)
    exact (fF_b (r := 962) (by decide) rfl).mp e7
  clear m1 m2 m3 m4
  have h0 := fK_2.mp f0
  have q0 : fB K n (p) 60 [fR x0] σ := by
    exact fK_1.mpr (h0.resolve_left (by omega))
  exact ⟨p, fun _ => rfl, ⟨(fun q h => by cases h), fun q h => (by cases h), (fun f h => by cases h), (aAllc ⟨_, rfl, (fF_b (r := 961) (by decide) rfl).mpr q0⟩ (fun f h => by cases h))⟩, [], List.mem_cons_self, fun f h => (by cases h)⟩
set_option maxRecDepth 8192 in
theorem rw_ruKH {K : Nat → Nat} {n : Nat} : aGho (fF K n) fa_T K n (fJX K n) ag_ruKH := by
  refine aGho_of ⟨rfl, rfl⟩ ?_
  intro p σ ρ hH hX hA hM
  have hG := aAG_of hA.1 (fun i e v he hv => (hA.2 i e v he hv).1)
  clear hA
  obtain ⟨v0, v1, v2, v3, rfl, g0, g1, g2, g3⟩ := fA_4 hG
  clear hG
  obtain ⟨x0, rfl, b0, d0⟩ := fG_ref (by decide) g0
  obtain ⟨x1, rfl, b1, d1⟩ := aG_int g1
  dsimp only at b1 d1
  obtain ⟨x2, rfl, b2, d2⟩ := fG_ref (by decide) g2
  obtain ⟨x3, rfl, b3, d3⟩ := aG_int g3
  dsimp only at b3 d3
  obtain ⟨m1, m2, m3, m4⟩ := hM
  obtain ⟨a0, c0, fs0, w0, e1, s0, t0, e4⟩ := m1 (0, 1, 2) (List.mem_of_getElem? (i := 0) rfl)
  obtain rfl : x0 = a0 := Sum.inl.inj (Option.some.inj (Sum.inr.inj (Sum.inr.inj (Option.some.inj (show some (fR x0) = some _ from e1)))))
  obtain rfl : fR x2 = w0 := Option.some.inj (show some (fR x2) = some w0 from e4)
  clear e1 e4
  obtain ⟨a1, c1, fs1, w1, e1, s1, t1, e4⟩ := m1 (0, 2, 3) (List.mem_of_getElem? (i := 1) rfl)
  obtain rfl : x0 = a1 := Sum.inl.inj (Option.some.inj (Sum.inr.inj (Sum.inr.inj (Option.some.inj (show some (fR x0) = some _ from e1)))))
  obtain rfl : fI x3 = w1 := Option.some.inj (show some (fI x3) = some w1 from e4)
  clear e1 e4
  obtain ⟨a, mc0, ty0, gc0, ic0, e1, sc0, jc0, e4, e5⟩ := m2 (2, ([(3, 1)], 0), 1) (List.mem_of_getElem? (i := 0) rfl)
  obtain rfl : x2 = a := Sum.inl.inj (Option.some.inj (Sum.inr.inj (Sum.inr.inj (Option.some.inj (show some (fR x2) = some _ from e1)))))
  obtain ⟨gc0, rfl⟩ : ∃ g, gc0 = .inl g := by
    rcases gc0 with g | g
    · exact ⟨g, rfl⟩
    · exact absurd (show some (fI x1) = some (.inr (.inl (g ic0))) from e5) (fun h => by cases h)
  have sc0 : σ x2 = .inl (ty0, mc0, .inl gc0) := sc0
  have ec0 : x1 = gc0 ic0 := Sum.inl.inj (Option.some.inj (show some (fI x1) = some _ from e5))
  have kc0 : (ic0 : Int) = (1 * x3.toInt + 0) + 0 := by
    obtain ⟨z, e6, e7⟩ := e4
    obtain rfl : (1 * x3.toInt + 0) = z := Option.some.inj (show some (1 * x3.toInt + 0) = some z from e6)
    exact e7
  clear e1 e4 e5
  obtain rfl : ic0 = x3.toInt.toNat := by omega
  have f0 : fB K n p 1 [fR x0] σ := by
    obtain ⟨w, e6, e7⟩ := m4 (17, [0]) (List.mem_of_getElem? (i := 0) rfl)
    obtain rfl : [fR x0] = w := Option.some.inj (show some [fR x0] = some w from e6)
    exact (fF_b (r := 17) (by decide) rfl).mp e7
  clear m1 m2 m3 m4
  obtain ⟨a9_0, e9_0, h0, g0⟩ := f0
  cases e9_0
  have hkr : ∃ g, σ x2 = .inl (.int, 2, .inl g) := fRow hH b2 d2 rfl (by decide)
  obtain ⟨g9, w9⟩ := hkr
  rw [w9] at sc0
  cases sc0
  have q0 : fB K n (p) 60 [fR x0, fI x1, fI x1, fI x1] σ := by
    exact fK_4.mpr ⟨x2, _, x3, ⟨b0, d0, _, _, s0, t0⟩, b2, d2, w9, ⟨b0, d0, _, _, s1, t1⟩, ec0.symm⟩
  exact ⟨p, fun _ => rfl, ⟨(fun q h => by cases h), fun q h => (by cases h), (fun f h => by cases h), (aAllc ⟨_, rfl, (fF_b (r := 964) (by decide) rfl).mpr q0⟩ (fun f h => by cases h))⟩, [], List.mem_cons_self, fun f h => (by cases h)⟩
set_option maxRecDepth 8192 in
theorem rw_ruHQ0SE {K : Nat → Nat} {n : Nat} : aGho (fF K n) fa_T K n (fJX K n) ag_ruHQ0SE := by
  refine aGho_of ⟨rfl, rfl⟩ ?_
  intro p σ ρ hH hX hA hM
  have hG := aAG_of hA.1 (fun i e v he hv => (hA.2 i e v he hv).1)
  clear hA
  obtain ⟨v0, v1, v2, v3, v4, v5, v6, rfl, g0, g1, g2, g3, g4, g5, g6⟩ := fA_7 hG
  clear hG
  obtain ⟨x0, rfl, b0, d0⟩ := aG_int g0
  dsimp only at b0 d0
  obtain ⟨x1, rfl, b1, d1⟩ := aG_int g1
  dsimp only at b1 d1
  obtain ⟨x2, rfl, b2, d2⟩ := aG_int g2
  dsimp only at b2 d2
  obtain ⟨x3, rfl, b3, d3⟩ := aG_int g3
  dsimp only at b3 d3
  obtain ⟨x4, rfl, b4, d4⟩ := fG_ref (by decide) g4
  obtain ⟨x5, rfl, b5, d5⟩ := aG_int g5
  dsimp only at b5 d5
  obtain ⟨x6, rfl, b6, d6⟩ := aG_int g6
  dsimp only at b6 d6
  obtain ⟨m1, m2, m3, m4⟩ := hM
  obtain ⟨a0, c0, fs0, w0, e1, s0, t0, e4⟩ := m1 (4, 2, 6) (List.mem_of_getElem? (i := 0) rfl)
  obtain rfl : x4 = a0 := Sum.inl.inj (Option.some.inj (Sum.inr.inj (Sum.inr.inj (Option.some.inj (show some (fR x4) = some _ from e1)))))
  obtain rfl : fI x6 = w0 := Option.some.inj (show some (fI x6) = some w0 from e4)
  clear e1 e4
  have l0 : 0 ≤ (1 * x5.toInt + (1 * x6.toInt + 0)) + -1 := by
    obtain ⟨z, e6, e7⟩ := m3 ([(5, 1), (6, 1)], -1) (List.mem_of_getElem? (i := 0) rfl)
    obtain rfl : (1 * x5.toInt + (1 * x6.toInt + 0)) = z := Option.some.inj (show some (1 * x5.toInt + (1 * x6.toInt + 0)) = some z from e6)
    exact e7
  have l1 : 0 ≤ (-1 * x5.toInt + (-1 * x6.toInt + 0)) + 1 := by
    obtain ⟨z, e6, e7⟩ := m3 ([(5, -1), (6, -1)], 1) (List.mem_of_getElem? (i := 1) rfl)
    obtain rfl : (-1 * x5.toInt + (-1 * x6.toInt + 0)) = z := Option.some.inj (show some (-1 * x5.toInt + (-1 * x6.toInt + 0)) = some z from e6)
    exact e7
  have f0 : fB K n p 1 [fR x4] σ := by
    obtain ⟨w, e6, e7⟩ := m4 (17, [4]) (List.mem_of_getElem? (i := 0) rfl)
    obtain rfl : [fR x4] = w := Option.some.inj (show some [fR x4] = some w from e6)
    exact (fF_b (r := 17) (by decide) rfl).mp e7
  have f1 : fB K n p 203 [fR x4, fI x2, fI x5, fI x3] σ := by
    obtain ⟨w, e6, e7⟩ := m4 (3252, [4, 2, 5, 3]) (List.mem_of_getElem? (i := 1) rfl)
    obtain rfl : [fR x4, fI x2, fI x5, fI x3] = w := Option.some.inj (show some [fR x4, fI x2, fI x5, fI x3] = some w from e6)
    exact (fF_b (r := 3252) (by decide) rfl).mp e7
  clear m1 m2 m3 m4
  obtain ⟨a9_0, e9_0, h0, g0⟩ := f0
  cases e9_0
  obtain ⟨b9_1, g1, r9_1, e9_1, w1, y1_0, y1_1, y1_2, e8_1, a1⟩ := (fH_o (by decide) (by decide)).mp f1
  cases e9_1
  cases e8_1
  have hF := fAt_of h0 s0
  have hsd := hF.2.1 x6 t0
  have hc := fAk_cg (b := x5.toInt) (fAt_me h0 w1) (s := x2.toInt) ⟨by omega, by omega⟩
  have eb : x5.toInt = 1 - ((fq p).2 2).toInt := by rw [← hsd]; omega
  rw [eb] at hc a1
  have q0 : fB K n (p) 8 [fI x0, fI x0, fI x1, fI x2, fI x3] σ := by
    refine (fE_o (by decide)).mpr ⟨x0, x0, x1, x2, x3, rfl, ⟨by omega, ?_⟩, fun h => by omega, fun _ f h9 h8 => by omega⟩
    rcases a1 with ⟨a1, a2⟩ | ⟨a1, a2⟩
    · exact ⟨fun _ => hc.mp a2, fun _ => a1⟩
    · exact ⟨fun h => by omega, fun h => absurd (hc.mpr h) a2⟩
  exact ⟨p, fun _ => rfl, ⟨(fun q h => by cases h), fun q h => (by cases h), (fun f h => by cases h), (aAllc ⟨_, rfl, (fF_b (r := 133) (by decide) rfl).mpr q0⟩ (fun f h => by cases h))⟩, [], List.mem_cons_self, fun f h => (by cases h)⟩
set_option maxRecDepth 8192 in
theorem rw_ruHQeSE {K : Nat → Nat} {n : Nat} : aGho (fF K n) fa_T K n (fJX K n) ag_ruHQeSE := by
  refine aGho_of ⟨rfl, rfl⟩ ?_
  intro p σ ρ hH hX hA hM
  have hG := aAG_of hA.1 (fun i e v he hv => (hA.2 i e v he hv).1)
  clear hA
  obtain ⟨v0, v1, v2, v3, v4, v5, rfl, g0, g1, g2, g3, g4, g5⟩ := fA_6 hG
  clear hG
  obtain ⟨x0, rfl, b0, d0⟩ := aG_int g0
  dsimp only at b0 d0
  obtain ⟨x1, rfl, b1, d1⟩ := aG_int g1
  dsimp only at b1 d1
  obtain ⟨x2, rfl, b2, d2⟩ := aG_int g2
  dsimp only at b2 d2
  obtain ⟨x3, rfl, b3, d3⟩ := aG_int g3
  dsimp only at b3 d3
  obtain ⟨x4, rfl, b4, d4⟩ := aG_int g4
  dsimp only at b4 d4
  obtain ⟨x5, rfl, b5, d5⟩ := aG_int g5
  dsimp only at b5 d5
  obtain ⟨m1, m2, m3, m4⟩ := hM
  have l0 : 0 ≤ (1 * x5.toInt + (-1 * x2.toInt + 0)) + -1 := by
    obtain ⟨z, e6, e7⟩ := m3 ([(5, 1), (2, -1)], -1) (List.mem_of_getElem? (i := 0) rfl)
    obtain rfl : (1 * x5.toInt + (-1 * x2.toInt + 0)) = z := Option.some.inj (show some (1 * x5.toInt + (-1 * x2.toInt + 0)) = some z from e6)
    exact e7
  have l1 : 0 ≤ (-1 * x5.toInt + (1 * x2.toInt + 0)) + 1 := by
    obtain ⟨z, e6, e7⟩ := m3 ([(5, -1), (2, 1)], 1) (List.mem_of_getElem? (i := 1) rfl)
    obtain rfl : (-1 * x5.toInt + (1 * x2.toInt + 0)) = z := Option.some.inj (show some (-1 * x5.toInt + (1 * x2.toInt + 0)) = some z from e6)
    exact e7
  have f0 : fB K n p 8 [fI x0, fI x1, fI x2, fI x3, fI x4] σ := by
    obtain ⟨w, e6, e7⟩ := m4 (133, [0, 1, 2, 3, 4]) (List.mem_of_getElem? (i := 0) rfl)
    obtain rfl : [fI x0, fI x1, fI x2, fI x3, fI x4] = w := Option.some.inj (show some [fI x0, fI x1, fI x2, fI x3, fI x4] = some w from e6)
    exact (fF_b (r := 133) (by decide) rfl).mp e7
  have f1 : fB K n p 48 [fI x2] σ := by
    obtain ⟨w, e6, e7⟩ := m4 (769, [2]) (List.mem_of_getElem? (i := 1) rfl)
    obtain rfl : [fI x2] = w := Option.some.inj (show some [fI x2] = some w from e6)
    exact (fF_b (r := 769) (by decide) rfl).mp e7
  clear m1 m2 m3 m4
  obtain ⟨y0_0, y0_1, y0_2, y0_3, y0_4, e8_0, c0, u0, v0⟩ := (fE_o (by decide)).mp f0
  cases e8_0
  obtain ⟨y1_0, e8_1, h1⟩ := (fE_o (by decide)).mp f1
  cases e8_1
  have q0 : fB K n (p) 8 [fI x0, fI x1, fI x5, fI x3, fI x4] σ := by
    refine (fE_o (by decide)).mpr ⟨x0, x1, x5, x3, x4, rfl, c0, u0, fun h f h9 h8 ho => ?_⟩
    by_cases hf : f < x2.toInt
    · exact v0 h f h9 hf ho
    · obtain rfl : f = x2.toInt := by omega
      exact absurd ho (fun ho => h1.elim ho.1 (fun h => h ho.2))
  exact ⟨p, fun _ => rfl, ⟨(fun q h => by cases h), fun q h => (by cases h), (fun f h => by cases h), (aAllc ⟨_, rfl, (fF_b (r := 133) (by decide) rfl).mpr q0⟩ (fun f h => by cases h))⟩, [], List.mem_cons_self, fun f h => (by cases h)⟩
set_option maxRecDepth 8192 in
theorem rw_ruGUSE {K : Nat → Nat} {n : Nat} : aGho (fF K n) fa_T K n (fJX K n) ag_ruGUSE := by
  refine aGho_of ⟨rfl, rfl⟩ ?_
  intro p σ ρ hH hX hA hM
  have hG := aAG_of hA.1 (fun i e v he hv => (hA.2 i e v he hv).1)
  clear hA
  obtain ⟨v0, v1, v2, v3, v4, v5, rfl, g0, g1, g2, g3, g4, g5⟩ := fA_6 hG
  clear hG
  obtain ⟨x0, rfl, b0, d0⟩ := fG_ref (by decide) g0
  obtain ⟨x1, rfl, b1, d1⟩ := aG_int g1
  dsimp only at b1 d1
  obtain ⟨x2, rfl, b2, d2⟩ := aG_int g2
  dsimp only at b2 d2
  obtain ⟨x3, rfl, b3, d3⟩ := aG_int g3
  dsimp only at b3 d3
  obtain ⟨x4, rfl, b4, d4⟩ := aG_int g4
  dsimp only at b4 d4
  obtain ⟨x5, rfl, b5, d5⟩ := aG_int g5
  dsimp only at b5 d5
  obtain ⟨m1, m2, m3, m4⟩ := hM
  have f0 : fB K n p 81 [fR x0, fI x1, fI x2, fI x3] σ := by
    obtain ⟨w, e6, e7⟩ := m4 (1300, [0, 1, 2, 3]) (List.mem_of_getElem? (i := 0) rfl)
    obtain rfl : [fR x0, fI x1, fI x2, fI x3] = w := Option.some.inj (show some [fR x0, fI x1, fI x2, fI x3] = some w from e6)
    exact (fF_b (r := 1300) (by decide) rfl).mp e7
  have f1 : fB K n p 25 [fI x3, fI x5] σ := by
    obtain ⟨w, e6, e7⟩ := m4 (402, [3, 5]) (List.mem_of_getElem? (i := 1) rfl)
    obtain rfl : [fI x3, fI x5] = w := Option.some.inj (show some [fI x3, fI x5] = some w from e6)
    exact (fF_b (r := 402) (by decide) rfl).mp e7
  clear m1 m2 m3 m4
  obtain ⟨a9_0, lo9_0, hi9_0, r9_0, S0, C0, e9_0, T0, V0⟩ := (fL_o (by decide) (by decide)).mp f0
  cases e9_0
  obtain ⟨y0_0, e8_0, eS0, eC0⟩ := (fOr_l T0 (by rintro ⟨_, _, _, _, _, e9, -⟩; cases e9))
  cases e8_0
  subst eS0
  subst eC0
  obtain ⟨y1_0, y1_1, e9_1, h1⟩ := f1
  cases e9_1
  have hmk : ((fq p).1 x3.toInt.toNat).toInt % 8 = x5.toInt := by
    unfold fOw at h1
    rw [fNc] at h1
    rw [h1, show ((x5.toNatClampNeg : Nat) : Int) = x5.toInt by rw [fNc]; omega]
    omega
  have hg : ∀ c d y, fGn (fq p).1 (fq p).2 c x3.toInt y → fGn (fq p).1 (fq p).2 d x3.toInt y := by
    intro c d y hy
    rcases hy with hy | hy | hy | hy
    · exact Or.inl hy
    · exact Or.inr (Or.inl hy)
    · omega
    · exact Or.inr (Or.inr (Or.inr hy))
  have q0 : fB K n (p) 82 [fR x0, fI x1, fI x2, fI x3, fI x4] σ := by
    refine (fL_o (by decide) (by decide)).mpr ⟨x0, x1, x2, _, _, _, rfl, (Or.inl ⟨x3, x4, rfl, rfl, rfl⟩), ?_⟩
    exact fCv_w V0 rfl (by have e1 : fEc 81 = 0 := rfl; have e2 : fEc 82 = 0 := rfl; omega) (fun y hy => hg _ _ y hy) (fun y hy => hg _ _ y hy)
  exact ⟨p, fun _ => rfl, ⟨(fun q h => by cases h), fun q h => (by cases h), (fun f h => by cases h), (aAllc ⟨_, rfl, (fF_b (r := 1317) (by decide) rfl).mpr q0⟩ (fun f h => by cases h))⟩, [], List.mem_cons_self, fun f h => (by cases h)⟩
set_option maxRecDepth 8192 in
theorem rw_ruHI0SE {K : Nat → Nat} {n : Nat} : aGho (fF K n) fa_T K n (fJX K n) ag_ruHI0SE := by
  refine aGho_of ⟨rfl, rfl⟩ ?_
  intro p σ ρ hH hX hA hM
  have hG := aAG_of hA.1 (fun i e v he hv => (hA.2 i e v he hv).1)
  clear hA
  obtain ⟨v0, v1, v2, v3, v4, v5, v6, v7, v8, rfl, g0, g1, g2, g3, g4, g5, g6, g7, g8⟩ := fA_9 hG
  clear hG
  obtain ⟨x0, rfl, b0, d0⟩ := fG_ref (by decide) g0
  obtain ⟨x1, rfl, b1, d1⟩ := aG_int g1
  dsimp only at b1 d1
  obtain ⟨x2, rfl, b2, d2⟩ := aG_int g2
  dsimp only at b2 d2
  obtain ⟨x3, rfl, b3, d3⟩ := aG_int g3
  dsimp only at b3 d3
  obtain ⟨x4, rfl, b4, d4⟩ := aG_int g4
  dsimp only at b4 d4
  obtain ⟨x5, rfl, b5, d5⟩ := aG_int g5
  dsimp only at b5 d5
  obtain ⟨x6, rfl, b6, d6⟩ := aG_int g6
  dsimp only at b6 d6
  obtain ⟨x7, rfl, b7, d7⟩ := aG_int g7
  dsimp only at b7 d7
  obtain ⟨x8, rfl, b8, d8⟩ := fG_ref (by decide) g8
  obtain ⟨m1, m2, m3, m4⟩ := hM
  have f0 : fB K n p 1 [fR x8] σ := by
    obtain ⟨w, e6, e7⟩ := m4 (17, [8]) (List.mem_of_getElem? (i := 0) rfl)
    obtain rfl : [fR x8] = w := Option.some.inj (show some [fR x8] = some w from e6)
    exact (fF_b (r := 17) (by decide) rfl).mp e7
  have f1 : fB K n p 8 [fI x3, fI x1, fI x4, fI x5, fI x6] σ := by
    obtain ⟨w, e6, e7⟩ := m4 (133, [3, 1, 4, 5, 6]) (List.mem_of_getElem? (i := 1) rfl)
    obtain rfl : [fI x3, fI x1, fI x4, fI x5, fI x6] = w := Option.some.inj (show some [fI x3, fI x1, fI x4, fI x5, fI x6] = some w from e6)
    exact (fF_b (r := 133) (by decide) rfl).mp e7
  have f2 : fB K n p 82 [fR x0, fI x1, fI x2, fI x4, fI x6] σ := by
    obtain ⟨w, e6, e7⟩ := m4 (1317, [0, 1, 2, 4, 6]) (List.mem_of_getElem? (i := 2) rfl)
    obtain rfl : [fR x0, fI x1, fI x2, fI x4, fI x6] = w := Option.some.inj (show some [fR x0, fI x1, fI x2, fI x4, fI x6] = some w from e6)
    exact (fF_b (r := 1317) (by decide) rfl).mp e7
  have f3 : fB K n p 25 [fI x4, fI x7] σ := by
    obtain ⟨w, e6, e7⟩ := m4 (402, [4, 7]) (List.mem_of_getElem? (i := 3) rfl)
    obtain rfl : [fI x4, fI x7] = w := Option.some.inj (show some [fI x4, fI x7] = some w from e6)
    exact (fF_b (r := 402) (by decide) rfl).mp e7
  clear m1 m2 m3 m4
  obtain ⟨a9_0, e9_0, h0, g0⟩ := f0
  cases e9_0
  obtain ⟨y1_0, y1_1, y1_2, y1_3, y1_4, e8_1, c1, u1, v1⟩ := (fE_o (by decide)).mp f1
  cases e8_1
  obtain ⟨a9_2, lo9_2, hi9_2, r9_2, S2, C2, e9_2, T2, V2⟩ := (fL_o (by decide) (by decide)).mp f2
  cases e9_2
  obtain ⟨y2_0, y2_1, e8_2, eS2, eC2⟩ := (fOr_l T2 (by rintro ⟨_, _, _, _, _, e9, -⟩; cases e9))
  cases e8_2
  subst eS2
  subst eC2
  obtain ⟨y3_0, y3_1, e9_3, h3⟩ := f3
  cases e9_3
  have hgd := g0.1.2.2.1
  have ho : fOn (fq p).1 (fq p).2 x4.toInt := by
    unfold fOw at h3
    rw [fNc, show ((x7.toNatClampNeg : Nat) : Int) = x7.toInt by rw [fNc]; omega] at h3
    unfold fOn
    rw [h3]
    omega
  have q0 : fB K n (p) 81 [fR x0, fI x1, fI x2, fI x3, fI x1, fI x4, fI x5, fI x6] σ := by
    refine (fL_o (by decide) (by decide)).mpr ⟨x0, x1, x2, _, _, _, rfl, (Or.inr ⟨x3, x1, x4, x5, x6, rfl, rfl, rfl, c1, ho, u1, v1⟩), ?_⟩
    exact fCv_w V2 rfl (by have e1 : fEc 82 = 0 := rfl; have e2 : fEc 81 = 0 := rfl; omega) (fun y hy => hy) (fun y hy => hy.2.1)
  exact ⟨p, fun _ => rfl, ⟨(fun q h => by cases h), fun q h => (by cases h), (fun f h => by cases h), (aAllc ⟨_, rfl, (fF_b (r := 1304) (by decide) rfl).mpr q0⟩ (fun f h => by cases h))⟩, [], List.mem_cons_self, fun f h => (by cases h)⟩
set_option maxRecDepth 8192 in
theorem rw_ruSFLSE {K : Nat → Nat} {n : Nat} : aGho (fF K n) fa_T K n (fJX K n) ag_ruSFLSE := by
  refine aGho_of ⟨rfl, rfl⟩ ?_
  intro p σ ρ hH hX hA hM
  have hG := aAG_of hA.1 (fun i e v he hv => (hA.2 i e v he hv).1)
  clear hA
  obtain ⟨v0, v1, v2, v3, v4, v5, v6, rfl, g0, g1, g2, g3, g4, g5, g6⟩ := fA_7 hG
  clear hG
  obtain ⟨x0, rfl, b0, d0⟩ := fG_ref (by decide) g0
  obtain ⟨x1, rfl, b1, d1⟩ := aG_int g1
  dsimp only at b1 d1
  obtain ⟨x2, rfl, b2, d2⟩ := aG_int g2
  dsimp only at b2 d2
  obtain ⟨x3, rfl, b3, d3⟩ := aG_int g3
  dsimp only at b3 d3
  obtain ⟨x4, rfl, b4, d4⟩ := aG_int g4
  dsimp only at b4 d4
  obtain ⟨x5, rfl, b5, d5⟩ := aG_int g5
  dsimp only at b5 d5
  obtain ⟨x6, rfl, b6, d6⟩ := aG_int g6
  dsimp only at b6 d6
  obtain ⟨m1, m2, m3, m4⟩ := hM
  obtain ⟨a, mc0, ty0, gc0, ic0, e1, sc0, jc0, e4, e5⟩ := m2 (0, ([(2, 1)], 0), 6) (List.mem_of_getElem? (i := 0) rfl)
  obtain rfl : x0 = a := Sum.inl.inj (Option.some.inj (Sum.inr.inj (Sum.inr.inj (Option.some.inj (show some (fR x0) = some _ from e1)))))
  obtain ⟨gc0, rfl⟩ : ∃ g, gc0 = .inl g := by
    rcases gc0 with g | g
    · exact ⟨g, rfl⟩
    · exact absurd (show some (fI x6) = some (.inr (.inl (g ic0))) from e5) (fun h => by cases h)
  have sc0 : σ x0 = .inl (ty0, mc0, .inl gc0) := sc0
  have ec0 : x6 = gc0 ic0 := Sum.inl.inj (Option.some.inj (show some (fI x6) = some _ from e5))
  have kc0 : (ic0 : Int) = (1 * x2.toInt + 0) + 0 := by
    obtain ⟨z, e6, e7⟩ := e4
    obtain rfl : (1 * x2.toInt + 0) = z := Option.some.inj (show some (1 * x2.toInt + 0) = some z from e6)
    exact e7
  clear e1 e4 e5
  obtain rfl : ic0 = x2.toInt.toNat := by omega
  have f0 : fB K n p 29 [fI x3, fI x4, fI x1, fI x6, fI x5] σ := by
    obtain ⟨w, e6, e7⟩ := m4 (469, [3, 4, 1, 6, 5]) (List.mem_of_getElem? (i := 0) rfl)
    obtain rfl : [fI x3, fI x4, fI x1, fI x6, fI x5] = w := Option.some.inj (show some [fI x3, fI x4, fI x1, fI x6, fI x5] = some w from e6)
    exact (fF_b (r := 469) (by decide) rfl).mp e7
  clear m1 m2 m3 m4
  obtain ⟨y0_0, y0_1, y0_2, y0_3, y0_4, e8_0, h0⟩ := (fE_o (by decide)).mp f0
  cases e8_0
  obtain ⟨g9, hg9⟩ := fRow hH b0 d0 rfl (by decide)
  rw [hg9] at sc0
  cases sc0
  have q0 : fB K n (p) 84 [fR x0, fI x1, fI x2, fI x3, fI x4, fI x5] σ := by
    refine (fL_o (by decide) (by decide)).mpr ⟨x0, x1, x2, _, _, _, rfl, (Or.inr ⟨x3, x4, x5, rfl, rfl, rfl⟩), ?_⟩
    refine ⟨b0, by unfold fRw; omega, _, gc0, hg9, fun k k1 k2 => ?_, fun y hy => hy.elim⟩
    have e1 : fEc 84 = 1 := rfl
    have k3 : x2.toInt ≤ (k : Int) := k1
    have k4 : (k : Int) < x2.toInt + 1 := by omega
    rw [show k = x2.toInt.toNat by omega, ← ec0]
    exact h0
  exact ⟨p, fun _ => rfl, ⟨(fun q h => by cases h), fun q h => (by cases h), (fun f h => by cases h), (aAllc ⟨_, rfl, (fF_b (r := 1350) (by decide) rfl).mpr q0⟩ (fun f h => by cases h))⟩, [], List.mem_cons_self, fun f h => (by cases h)⟩
set_option maxRecDepth 8192 in
theorem rw_ruHIsSE {K : Nat → Nat} {n : Nat} : aGho (fF K n) fa_T K n (fJX K n) ag_ruHIsSE := by
  refine aGho_of ⟨rfl, rfl⟩ ?_
  intro p σ ρ hH hX hA hM
  have hG := aAG_of hA.1 (fun i e v he hv => (hA.2 i e v he hv).1)
  clear hA
  obtain ⟨v0, v1, v2, v3, v4, v5, v6, v7, v8, v9, rfl, g0, g1, g2, g3, g4, g5, g6, g7, g8, g9⟩ := fA_10 hG
  clear hG
  obtain ⟨x0, rfl, b0, d0⟩ := fG_ref (by decide) g0
  obtain ⟨x1, rfl, b1, d1⟩ := aG_int g1
  dsimp only at b1 d1
  obtain ⟨x2, rfl, b2, d2⟩ := aG_int g2
  dsimp only at b2 d2
  obtain ⟨x3, rfl, b3, d3⟩ := aG_int g3
  dsimp only at b3 d3
  obtain ⟨x4, rfl, b4, d4⟩ := aG_int g4
  dsimp only at b4 d4
  obtain ⟨x5, rfl, b5, d5⟩ := aG_int g5
  dsimp only at b5 d5
  obtain ⟨x6, rfl, b6, d6⟩ := aG_int g6
  dsimp only at b6 d6
  obtain ⟨x7, rfl, b7, d7⟩ := aG_int g7
  dsimp only at b7 d7
  obtain ⟨x8, rfl, b8, d8⟩ := aG_int g8
  dsimp only at b8 d8
  obtain ⟨x9, rfl, b9, d9⟩ := aG_int g9
  dsimp only at b9 d9
  obtain ⟨m1, m2, m3, m4⟩ := hM
  obtain ⟨a, mc0, ty0, gc0, ic0, e1, sc0, jc0, e4, e5⟩ := m2 (0, ([(3, 1)], 0), 2) (List.mem_of_getElem? (i := 0) rfl)
  obtain rfl : x0 = a := Sum.inl.inj (Option.some.inj (Sum.inr.inj (Sum.inr.inj (Option.some.inj (show some (fR x0) = some _ from e1)))))
  obtain ⟨gc0, rfl⟩ : ∃ g, gc0 = .inl g := by
    rcases gc0 with g | g
    · exact ⟨g, rfl⟩
    · exact absurd (show some (fI x2) = some (.inr (.inl (g ic0))) from e5) (fun h => by cases h)
  have sc0 : σ x0 = .inl (ty0, mc0, .inl gc0) := sc0
  have ec0 : x2 = gc0 ic0 := Sum.inl.inj (Option.some.inj (show some (fI x2) = some _ from e5))
  have kc0 : (ic0 : Int) = (1 * x3.toInt + 0) + 0 := by
    obtain ⟨z, e6, e7⟩ := e4
    obtain rfl : (1 * x3.toInt + 0) = z := Option.some.inj (show some (1 * x3.toInt + 0) = some z from e6)
    exact e7
  clear e1 e4 e5
  obtain rfl : ic0 = x3.toInt.toNat := by omega
  have l0 : 0 ≤ (1 * x3.toInt + (-1 * x1.toInt + 0)) + 0 := by
    obtain ⟨z, e6, e7⟩ := m3 ([(3, 1), (1, -1)], 0) (List.mem_of_getElem? (i := 0) rfl)
    obtain rfl : (1 * x3.toInt + (-1 * x1.toInt + 0)) = z := Option.some.inj (show some (1 * x3.toInt + (-1 * x1.toInt + 0)) = some z from e6)
    exact e7
  have l1 : 0 ≤ (1 * x4.toInt + (-1 * x3.toInt + 0)) + -1 := by
    obtain ⟨z, e6, e7⟩ := m3 ([(4, 1), (3, -1)], -1) (List.mem_of_getElem? (i := 1) rfl)
    obtain rfl : (1 * x4.toInt + (-1 * x3.toInt + 0)) = z := Option.some.inj (show some (1 * x4.toInt + (-1 * x3.toInt + 0)) = some z from e6)
    exact e7
  have f0 : fB K n p 81 [fR x0, fI x3, fI x4, fI x5, fI x1, fI x6, fI x7, fI x8] σ := by
    obtain ⟨w, e6, e7⟩ := m4 (1304, [0, 3, 4, 5, 1, 6, 7, 8]) (List.mem_of_getElem? (i := 0) rfl)
    obtain rfl : [fR x0, fI x3, fI x4, fI x5, fI x1, fI x6, fI x7, fI x8] = w := Option.some.inj (show some [fR x0, fI x3, fI x4, fI x5, fI x1, fI x6, fI x7, fI x8] = some w from e6)
    exact (fF_b (r := 1304) (by decide) rfl).mp e7
  have f1 : fB K n p 84 [fR x0, fI x6, fI x3, fI x7, fI x8, fI x9] σ := by
    obtain ⟨w, e6, e7⟩ := m4 (1350, [0, 6, 3, 7, 8, 9]) (List.mem_of_getElem? (i := 1) rfl)
    obtain rfl : [fR x0, fI x6, fI x3, fI x7, fI x8, fI x9] = w := Option.some.inj (show some [fR x0, fI x6, fI x3, fI x7, fI x8, fI x9] = some w from e6)
    exact (fF_b (r := 1350) (by decide) rfl).mp e7
  clear m1 m2 m3 m4
  obtain ⟨a9_0, lo9_0, hi9_0, r9_0, S0, C0, e9_0, T0, V0⟩ := (fL_o (by decide) (by decide)).mp f0
  cases e9_0
  obtain ⟨y0_0, y0_1, y0_2, y0_3, y0_4, e8_0, eS0, eC0, c0, o0, u0, v0⟩ := (fOr_r T0 (by rintro ⟨_, e9, -⟩; cases e9))
  cases e8_0
  subst eS0
  subst eC0
  obtain ⟨a9_1, lo9_1, hi9_1, r9_1, S1, C1, e9_1, T1, V1⟩ := (fL_o (by decide) (by decide)).mp f1
  cases e9_1
  obtain ⟨y1_0, y1_1, y1_2, e8_1, eS1, eC1⟩ := (fOr_r T1 (by rintro ⟨_, _, e9, -⟩; cases e9))
  cases e8_1
  subst eS1
  subst eC1
  obtain ⟨q1, q2, mm, gg, q3, q4, q5⟩ := V0
  obtain ⟨r1, r2, mm2, gg2, r3, r4, -⟩ := V1
  rw [q3] at r3
  cases r3
  rw [q3] at sc0
  cases sc0
  have e81 : fEc 81 = 0 := rfl
  have e84 : fEc 84 = 1 := rfl
  have e82 : fEc 82 = 0 := rfl
  have hS := q4 x3.toInt.toNat (show x3.toInt ≤ _ by omega) (by omega)
  have hT := r4 x3.toInt.toNat (show x3.toInt ≤ _ by omega) (by omega)
  have hl : fHL (fq p).1 (fq p).2 x7.toInt := ⟨x8.toInt, c0.1, c0.2, x6.toInt, _, by omega, by omega, o0, hS, by
    rcases hT with hT | hT
    · exact hT.2
    · omega⟩
  have q0 : fB K n (p) 82 [fR x0, fI x3, fI x4, fI x5, fI x1, fI x6, fI x7, fI x8] (jup σ x0 (jsto (σ x0) x1.toNatClampNeg x2)) := by
    refine (fL_o (by decide) (by decide)).mpr ⟨x0, x3, x4, _, _, _, rfl, (Or.inr ⟨x5, x1, x6, x7, x8, rfl, rfl, rfl, c0, o0, hl⟩), ?_⟩
    refine ⟨q1, q2, _, upd gc0 x1.toNatClampNeg x2, by rw [jup_s, q3]; rfl, fun k k1 k2 => ?_, fun y hy => hy.elim⟩
    have k3 : x3.toInt + 1 ≤ (k : Int) := k1
    unfold upd
    rw [if_neg (by rw [fNc]; omega)]
    exact q4 k (show x3.toInt ≤ _ by omega) (by omega)
  exact ⟨p, fun _ => rfl, ⟨(fun q h => by cases h), fun q h => (by cases h), (fun f h => by cases h), (aAllc ⟨_, rfl, fF_p (r := 1320) (by decide) (by decide) rfl q0⟩ (fun f h => by cases h))⟩, [], List.mem_cons_self, fun f h => (by cases h)⟩
set_option maxRecDepth 8192 in
theorem rw_ruHIkSE {K : Nat → Nat} {n : Nat} : aGho (fF K n) fa_T K n (fJX K n) ag_ruHIkSE := by
  refine aGho_of ⟨rfl, rfl⟩ ?_
  intro p σ ρ hH hX hA hM
  have hG := aAG_of hA.1 (fun i e v he hv => (hA.2 i e v he hv).1)
  clear hA
  obtain ⟨v0, v1, v2, v3, v4, v5, v6, v7, v8, v9, rfl, g0, g1, g2, g3, g4, g5, g6, g7, g8, g9⟩ := fA_10 hG
  clear hG
  obtain ⟨x0, rfl, b0, d0⟩ := fG_ref (by decide) g0
  obtain ⟨x1, rfl, b1, d1⟩ := aG_int g1
  dsimp only at b1 d1
  obtain ⟨x2, rfl, b2, d2⟩ := aG_int g2
  dsimp only at b2 d2
  obtain ⟨x3, rfl, b3, d3⟩ := aG_int g3
  dsimp only at b3 d3
  obtain ⟨x4, rfl, b4, d4⟩ := aG_int g4
  dsimp only at b4 d4
  obtain ⟨x5, rfl, b5, d5⟩ := aG_int g5
  dsimp only at b5 d5
  obtain ⟨x6, rfl, b6, d6⟩ := aG_int g6
  dsimp only at b6 d6
  obtain ⟨x7, rfl, b7, d7⟩ := aG_int g7
  dsimp only at b7 d7
  obtain ⟨x8, rfl, b8, d8⟩ := aG_int g8
  dsimp only at b8 d8
  obtain ⟨x9, rfl, b9, d9⟩ := aG_int g9
  dsimp only at b9 d9
  obtain ⟨m1, m2, m3, m4⟩ := hM
  have l0 : 0 ≤ (1 * x8.toInt + (-1 * x1.toInt + 0)) + -1 := by
    obtain ⟨z, e6, e7⟩ := m3 ([(8, 1), (1, -1)], -1) (List.mem_of_getElem? (i := 0) rfl)
    obtain rfl : (1 * x8.toInt + (-1 * x1.toInt + 0)) = z := Option.some.inj (show some (1 * x8.toInt + (-1 * x1.toInt + 0)) = some z from e6)
    exact e7
  have l1 : 0 ≤ (-1 * x8.toInt + (1 * x1.toInt + 0)) + 1 := by
    obtain ⟨z, e6, e7⟩ := m3 ([(8, -1), (1, 1)], 1) (List.mem_of_getElem? (i := 1) rfl)
    obtain rfl : (-1 * x8.toInt + (1 * x1.toInt + 0)) = z := Option.some.inj (show some (-1 * x8.toInt + (1 * x1.toInt + 0)) = some z from e6)
    exact e7
  have l2 : 0 ≤ (1 * x9.toInt + (-1 * x4.toInt + 0)) + -1 := by
    obtain ⟨z, e6, e7⟩ := m3 ([(9, 1), (4, -1)], -1) (List.mem_of_getElem? (i := 2) rfl)
    obtain rfl : (1 * x9.toInt + (-1 * x4.toInt + 0)) = z := Option.some.inj (show some (1 * x9.toInt + (-1 * x4.toInt + 0)) = some z from e6)
    exact e7
  have l3 : 0 ≤ (-1 * x9.toInt + (1 * x4.toInt + 0)) + 1 := by
    obtain ⟨z, e6, e7⟩ := m3 ([(9, -1), (4, 1)], 1) (List.mem_of_getElem? (i := 3) rfl)
    obtain rfl : (-1 * x9.toInt + (1 * x4.toInt + 0)) = z := Option.some.inj (show some (-1 * x9.toInt + (1 * x4.toInt + 0)) = some z from e6)
    exact e7
  have f0 : fB K n p 82 [fR x0, fI x1, fI x2, fI x3, fI x4, fI x5, fI x6, fI x7] σ := by
    obtain ⟨w, e6, e7⟩ := m4 (1320, [0, 1, 2, 3, 4, 5, 6, 7]) (List.mem_of_getElem? (i := 0) rfl)
    obtain rfl : [fR x0, fI x1, fI x2, fI x3, fI x4, fI x5, fI x6, fI x7] = w := Option.some.inj (show some [fR x0, fI x1, fI x2, fI x3, fI x4, fI x5, fI x6, fI x7] = some w from e6)
    exact (fF_b (r := 1320) (by decide) rfl).mp e7
  clear m1 m2 m3 m4
  obtain ⟨a9_0, lo9_0, hi9_0, r9_0, S0, C0, e9_0, T0, V0⟩ := (fL_o (by decide) (by decide)).mp f0
  cases e9_0
  obtain ⟨y0_0, y0_1, y0_2, y0_3, y0_4, e8_0, eS0, eC0, c0, o0, u0⟩ := (fOr_r T0 (by rintro ⟨_, _, e9, -⟩; cases e9))
  cases e8_0
  subst eS0
  subst eC0
  have q0 : fB K n (p) 81 [fR x0, fI x8, fI x2, fI x3, fI x9, fI x5, fI x6, fI x7] σ := by
    refine (fL_o (by decide) (by decide)).mpr ⟨x0, x8, x2, _, _, _, rfl, (Or.inr ⟨x3, x9, x5, x6, x7, rfl, rfl, rfl, c0, o0, fun _ => u0, fun h => by omega⟩), ?_⟩
    obtain ⟨q1, q2, mm, gg, q3, q4, -⟩ := V0
    have e81 : fEc 81 = 0 := rfl
    have e82 : fEc 82 = 0 := rfl
    exact ⟨q1, q2, mm, gg, q3, fun k k1 k2 => q4 k (show x1.toInt + 1 ≤ _ by have k3 : x8.toInt ≤ (k : Int) := k1; omega) (by omega), fun y hy => by have := hy.1; omega⟩
  exact ⟨p, fun _ => rfl, ⟨(fun q h => by cases h), fun q h => (by cases h), (fun f h => by cases h), (aAllc ⟨_, rfl, (fF_b (r := 1304) (by decide) rfl).mpr q0⟩ (fun f h => by cases h))⟩, [], List.mem_cons_self, fun f h => (by cases h)⟩
set_option maxRecDepth 8192 in
theorem rw_ruHInSE {K : Nat → Nat} {n : Nat} : aGho (fF K n) fa_T K n (fJX K n) ag_ruHInSE := by
  refine aGho_of ⟨rfl, rfl⟩ ?_
  intro p σ ρ hH hX hA hM
  have hG := aAG_of hA.1 (fun i e v he hv => (hA.2 i e v he hv).1)
  clear hA
  obtain ⟨v0, v1, v2, v3, v4, v5, v6, v7, v8, v9, rfl, g0, g1, g2, g3, g4, g5, g6, g7, g8, g9⟩ := fA_10 hG
  clear hG
  obtain ⟨x0, rfl, b0, d0⟩ := fG_ref (by decide) g0
  obtain ⟨x1, rfl, b1, d1⟩ := aG_int g1
  dsimp only at b1 d1
  obtain ⟨x2, rfl, b2, d2⟩ := aG_int g2
  dsimp only at b2 d2
  obtain ⟨x3, rfl, b3, d3⟩ := aG_int g3
  dsimp only at b3 d3
  obtain ⟨x4, rfl, b4, d4⟩ := aG_int g4
  dsimp only at b4 d4
  obtain ⟨x5, rfl, b5, d5⟩ := aG_int g5
  dsimp only at b5 d5
  obtain ⟨x6, rfl, b6, d6⟩ := aG_int g6
  dsimp only at b6 d6
  obtain ⟨x7, rfl, b7, d7⟩ := aG_int g7
  dsimp only at b7 d7
  obtain ⟨x8, rfl, b8, d8⟩ := aG_int g8
  dsimp only at b8 d8
  obtain ⟨x9, rfl, b9, d9⟩ := aG_int g9
  dsimp only at b9 d9
  obtain ⟨m1, m2, m3, m4⟩ := hM
  have l0 : 0 ≤ (1 * x8.toInt + (-1 * x1.toInt + 0)) + -1 := by
    obtain ⟨z, e6, e7⟩ := m3 ([(8, 1), (1, -1)], -1) (List.mem_of_getElem? (i := 0) rfl)
    obtain rfl : (1 * x8.toInt + (-1 * x1.toInt + 0)) = z := Option.some.inj (show some (1 * x8.toInt + (-1 * x1.toInt + 0)) = some z from e6)
    exact e7
  have l1 : 0 ≤ (-1 * x8.toInt + (1 * x1.toInt + 0)) + 1 := by
    obtain ⟨z, e6, e7⟩ := m3 ([(8, -1), (1, 1)], 1) (List.mem_of_getElem? (i := 1) rfl)
    obtain rfl : (-1 * x8.toInt + (1 * x1.toInt + 0)) = z := Option.some.inj (show some (-1 * x8.toInt + (1 * x1.toInt + 0)) = some z from e6)
    exact e7
  have f0 : fB K n p 81 [fR x0, fI x1, fI x2, fI x3, fI x4, fI x5, fI x6, fI x7] σ := by
    obtain ⟨w, e6, e7⟩ := m4 (1304, [0, 1, 2, 3, 4, 5, 6, 7]) (List.mem_of_getElem? (i := 0) rfl)
    obtain rfl : [fR x0, fI x1, fI x2, fI x3, fI x4, fI x5, fI x6, fI x7] = w := Option.some.inj (show some [fR x0, fI x1, fI x2, fI x3, fI x4, fI x5, fI x6, fI x7] = some w from e6)
    exact (fF_b (r := 1304) (by decide) rfl).mp e7
  have f1 : fB K n p 84 [fR x0, fI x5, fI x1, fI x6, fI x7, fI x9] σ := by
    obtain ⟨w, e6, e7⟩ := m4 (1350, [0, 5, 1, 6, 7, 9]) (List.mem_of_getElem? (i := 1) rfl)
    obtain rfl : [fR x0, fI x5, fI x1, fI x6, fI x7, fI x9] = w := Option.some.inj (show some [fR x0, fI x5, fI x1, fI x6, fI x7, fI x9] = some w from e6)
    exact (fF_b (r := 1350) (by decide) rfl).mp e7
  clear m1 m2 m3 m4
  obtain ⟨a9_0, lo9_0, hi9_0, r9_0, S0, C0, e9_0, T0, V0⟩ := (fL_o (by decide) (by decide)).mp f0
  cases e9_0
  obtain ⟨y0_0, y0_1, y0_2, y0_3, y0_4, e8_0, eS0, eC0, c0, o0, u0, v0⟩ := (fOr_r T0 (by rintro ⟨_, e9, -⟩; cases e9))
  cases e8_0
  subst eS0
  subst eC0
  obtain ⟨a9_1, lo9_1, hi9_1, r9_1, S1, C1, e9_1, T1, V1⟩ := (fL_o (by decide) (by decide)).mp f1
  cases e9_1
  obtain ⟨y1_0, y1_1, y1_2, e8_1, eS1, eC1⟩ := (fOr_r T1 (by rintro ⟨_, _, e9, -⟩; cases e9))
  cases e8_1
  subst eS1
  subst eC1
  obtain ⟨r1, r2, mm2, gg2, r3, r4, -⟩ := V1
  have e84 : fEc 84 = 1 := rfl
  have hT := r4 x1.toInt.toNat (show x1.toInt ≤ _ by omega) (by omega)
  have q0 : fB K n (p) 81 [fR x0, fI x8, fI x2, fI x3, fI x4, fI x5, fI x6, fI x7] σ := by
    refine (fL_o (by decide) (by decide)).mpr ⟨x0, x8, x2, _, _, _, rfl, (Or.inr ⟨x3, x4, x5, x6, x7, rfl, rfl, rfl, c0, o0, u0, v0⟩), ?_⟩
    obtain ⟨q1, q2, mm, gg, q3, q4, q5⟩ := V0
    rw [q3] at r3
    cases r3
    refine ⟨q1, q2, mm2, gg2, q3, fun k k1 k2 => q4 k (show x1.toInt ≤ _ by have k3 : x8.toInt ≤ (k : Int) := k1; omega) k2, fun y hy => ?_⟩
    obtain ⟨k, k1, k2, k3⟩ := q5 y hy
    have k4 : x1.toInt ≤ (k : Int) := k1
    by_cases hk : (k : Int) = x1.toInt
    · exfalso
      rw [show x1.toInt.toNat = k by omega, k3] at hT
      rcases hT with hT | hT
      · omega
      · exact hT.2 hy.2.2
    · exact ⟨k, show x8.toInt ≤ _ by omega, k2, k3⟩
  exact ⟨p, fun _ => rfl, ⟨(fun q h => by cases h), fun q h => (by cases h), (fun f h => by cases h), (aAllc ⟨_, rfl, (fF_b (r := 1304) (by decide) rfl).mpr q0⟩ (fun f h => by cases h))⟩, [], List.mem_cons_self, fun f h => (by cases h)⟩
set_option maxRecDepth 8192 in
theorem rw_ruHQnSE {K : Nat → Nat} {n : Nat} : aGho (fF K n) fa_T K n (fJX K n) ag_ruHQnSE := by
  refine aGho_of ⟨rfl, rfl⟩ ?_
  intro p σ ρ hH hX hA hM
  have hG := aAG_of hA.1 (fun i e v he hv => (hA.2 i e v he hv).1)
  clear hA
  obtain ⟨v0, v1, v2, v3, v4, v5, v6, v7, v8, rfl, g0, g1, g2, g3, g4, g5, g6, g7, g8⟩ := fA_9 hG
  clear hG
  obtain ⟨x0, rfl, b0, d0⟩ := fG_ref (by decide) g0
  obtain ⟨x1, rfl, b1, d1⟩ := aG_int g1
  dsimp only at b1 d1
  obtain ⟨x2, rfl, b2, d2⟩ := aG_int g2
  dsimp only at b2 d2
  obtain ⟨x3, rfl, b3, d3⟩ := aG_int g3
  dsimp only at b3 d3
  obtain ⟨x4, rfl, b4, d4⟩ := aG_int g4
  dsimp only at b4 d4
  obtain ⟨x5, rfl, b5, d5⟩ := aG_int g5
  dsimp only at b5 d5
  obtain ⟨x6, rfl, b6, d6⟩ := aG_int g6
  dsimp only at b6 d6
  obtain ⟨x7, rfl, b7, d7⟩ := aG_int g7
  dsimp only at b7 d7
  obtain ⟨x8, rfl, b8, d8⟩ := aG_int g8
  dsimp only at b8 d8
  obtain ⟨m1, m2, m3, m4⟩ := hM
  have l0 : 0 ≤ (1 * x8.toInt + (-1 * x5.toInt + 0)) + -1 := by
    obtain ⟨z, e6, e7⟩ := m3 ([(8, 1), (5, -1)], -1) (List.mem_of_getElem? (i := 0) rfl)
    obtain rfl : (1 * x8.toInt + (-1 * x5.toInt + 0)) = z := Option.some.inj (show some (1 * x8.toInt + (-1 * x5.toInt + 0)) = some z from e6)
    exact e7
  have l1 : 0 ≤ (-1 * x8.toInt + (1 * x5.toInt + 0)) + 1 := by
    obtain ⟨z, e6, e7⟩ := m3 ([(8, -1), (5, 1)], 1) (List.mem_of_getElem? (i := 1) rfl)
    obtain rfl : (-1 * x8.toInt + (1 * x5.toInt + 0)) = z := Option.some.inj (show some (-1 * x8.toInt + (1 * x5.toInt + 0)) = some z from e6)
    exact e7
  have l2 : 0 ≤ (1 * x1.toInt + (-1 * x2.toInt + 0)) + 0 := by
    obtain ⟨z, e6, e7⟩ := m3 ([(1, 1), (2, -1)], 0) (List.mem_of_getElem? (i := 2) rfl)
    obtain rfl : (1 * x1.toInt + (-1 * x2.toInt + 0)) = z := Option.some.inj (show some (1 * x1.toInt + (-1 * x2.toInt + 0)) = some z from e6)
    exact e7
  have f0 : fB K n p 81 [fR x0, fI x1, fI x2, fI x3, fI x4, fI x5, fI x6, fI x7] σ := by
    obtain ⟨w, e6, e7⟩ := m4 (1304, [0, 1, 2, 3, 4, 5, 6, 7]) (List.mem_of_getElem? (i := 0) rfl)
    obtain rfl : [fR x0, fI x1, fI x2, fI x3, fI x4, fI x5, fI x6, fI x7] = w := Option.some.inj (show some [fR x0, fI x1, fI x2, fI x3, fI x4, fI x5, fI x6, fI x7] = some w from e6)
    exact (fF_b (r := 1304) (by decide) rfl).mp e7
  clear m1 m2 m3 m4
  obtain ⟨a9_0, lo9_0, hi9_0, r9_0, S0, C0, e9_0, T0, V0⟩ := (fL_o (by decide) (by decide)).mp f0
  cases e9_0
  obtain ⟨y0_0, y0_1, y0_2, y0_3, y0_4, e8_0, eS0, eC0, c0, o0, u0, v0⟩ := (fOr_r T0 (by rintro ⟨_, e9, -⟩; cases e9))
  cases e8_0
  subst eS0
  subst eC0
  have q0 : fB K n (p) 8 [fI x3, fI x4, fI x8, fI x6, fI x7] σ := by
    refine (fE_o (by decide)).mpr ⟨x3, x4, x8, x6, x7, rfl, c0, u0, fun h f h9 h8 ho y hy hs => ?_⟩
    by_cases hf : f < x5.toInt
    · exact v0 h f h9 hf ho y hy hs
    · obtain rfl : f = x5.toInt := by omega
      obtain ⟨q1, q2, mm, gg, q3, q4, q5⟩ := V0
      obtain ⟨k, k1, k2, -⟩ := q5 y ⟨h, hy, hs⟩
      have e81 : fEc 81 = 0 := rfl
      have k3 : x1.toInt ≤ (k : Int) := k1
      omega
  exact ⟨p, fun _ => rfl, ⟨(fun q h => by cases h), fun q h => (by cases h), (fun f h => by cases h), (aAllc ⟨_, rfl, (fF_b (r := 133) (by decide) rfl).mpr q0⟩ (fun f h => by cases h))⟩, [], List.mem_cons_self, fun f h => (by cases h)⟩
set_option maxRecDepth 8192 in
theorem rw_ruHEfSE {K : Nat → Nat} {n : Nat} : aGho (fF K n) fa_T K n (fJX K n) ag_ruHEfSE := by
  refine aGho_of ⟨rfl, rfl⟩ ?_
  intro p σ ρ hH hX hA hM
  have hG := aAG_of hA.1 (fun i e v he hv => (hA.2 i e v he hv).1)
  clear hA
  obtain ⟨v0, v1, v2, v3, v4, v5, rfl, g0, g1, g2, g3, g4, g5⟩ := fA_6 hG
  clear hG
  obtain ⟨x0, rfl, b0, d0⟩ := aG_int g0
  dsimp only at b0 d0
  obtain ⟨x1, rfl, b1, d1⟩ := aG_int g1
  dsimp only at b1 d1
  obtain ⟨x2, rfl, b2, d2⟩ := aG_int g2
  dsimp only at b2 d2
  obtain ⟨x3, rfl, b3, d3⟩ := aG_int g3
  dsimp only at b3 d3
  obtain ⟨x4, rfl, b4, d4⟩ := aG_int g4
  dsimp only at b4 d4
  obtain ⟨x5, rfl, b5, d5⟩ := fG_ref (by decide) g5
  obtain ⟨m1, m2, m3, m4⟩ := hM
  have l0 : 0 ≤ (1 * x2.toInt + 0) + -64 := by
    obtain ⟨z, e6, e7⟩ := m3 ([(2, 1)], -64) (List.mem_of_getElem? (i := 0) rfl)
    obtain rfl : (1 * x2.toInt + 0) = z := Option.some.inj (show some (1 * x2.toInt + 0) = some z from e6)
    exact e7
  have l1 : 0 ≤ (1 * x1.toInt + (-1 * x0.toInt + 0)) + 0 := by
    obtain ⟨z, e6, e7⟩ := m3 ([(1, 1), (0, -1)], 0) (List.mem_of_getElem? (i := 1) rfl)
    obtain rfl : (1 * x1.toInt + (-1 * x0.toInt + 0)) = z := Option.some.inj (show some (1 * x1.toInt + (-1 * x0.toInt + 0)) = some z from e6)
    exact e7
  have f0 : fB K n p 8 [fI x0, fI x1, fI x2, fI x3, fI x4] σ := by
    obtain ⟨w, e6, e7⟩ := m4 (133, [0, 1, 2, 3, 4]) (List.mem_of_getElem? (i := 0) rfl)
    obtain rfl : [fI x0, fI x1, fI x2, fI x3, fI x4] = w := Option.some.inj (show some [fI x0, fI x1, fI x2, fI x3, fI x4] = some w from e6)
    exact (fF_b (r := 133) (by decide) rfl).mp e7
  have f1 : fB K n p 1 [fR x5] σ := by
    obtain ⟨w, e6, e7⟩ := m4 (17, [5]) (List.mem_of_getElem? (i := 1) rfl)
    obtain rfl : [fR x5] = w := Option.some.inj (show some [fR x5] = some w from e6)
    exact (fF_b (r := 17) (by decide) rfl).mp e7
  have f2 : fB K n p 60 [fR x5, fI x3, fI x3, fI x3] σ := by
    obtain ⟨w, e6, e7⟩ := m4 (964, [5, 3, 3, 3]) (List.mem_of_getElem? (i := 2) rfl)
    obtain rfl : [fR x5, fI x3, fI x3, fI x3] = w := Option.some.inj (show some [fR x5, fI x3, fI x3, fI x3] = some w from e6)
    exact (fF_b (r := 964) (by decide) rfl).mp e7
  clear m1 m2 m3 m4
  obtain ⟨y0_0, y0_1, y0_2, y0_3, y0_4, e8_0, c0, u0, v0⟩ := (fE_o (by decide)).mp f0
  cases e8_0
  obtain ⟨a9_1, e9_1, h1, g1⟩ := f1
  cases e9_1
  have h2 := fK_4.mp f2
  have q0 : fB K n (p) 60 [fR x5, fI x0, fI x1] σ := by
    refine fK_3.mpr ⟨x3, h2, u0, fun h hl => ?_⟩
    obtain ⟨d, d1, d2, f, y, f1, f2, ho, hy, hs⟩ := hl
    obtain rfl := fCk_u c0 ⟨d1, d2⟩
    exact v0 h f f1 (by omega) ho y hy hs
  exact ⟨p, fun _ => rfl, ⟨(fun q h => by cases h), fun q h => (by cases h), (fun f h => by cases h), (aAllc ⟨_, rfl, (fF_b (r := 963) (by decide) rfl).mpr q0⟩ (fun f h => by cases h))⟩, [], List.mem_cons_self, fun f h => (by cases h)⟩
set_option maxRecDepth 8192 in
theorem rw_ruHEkSE {K : Nat → Nat} {n : Nat} : aGho (fF K n) fa_T K n (fJX K n) ag_ruHEkSE := by
  refine aGho_of ⟨rfl, rfl⟩ ?_
  intro p σ ρ hH hX hA hM
  have hG := aAG_of hA.1 (fun i e v he hv => (hA.2 i e v he hv).1)
  clear hA
  obtain ⟨v0, v1, v2, v3, v4, v5, rfl, g0, g1, g2, g3, g4, g5⟩ := fA_6 hG
  clear hG
  obtain ⟨x0, rfl, b0, d0⟩ := aG_int g0
  dsimp only at b0 d0
  obtain ⟨x1, rfl, b1, d1⟩ := aG_int g1
  dsimp only at b1 d1
  obtain ⟨x2, rfl, b2, d2⟩ := aG_int g2
  dsimp only at b2 d2
  obtain ⟨x3, rfl, b3, d3⟩ := aG_int g3
  dsimp only at b3 d3
  obtain ⟨x4, rfl, b4, d4⟩ := aG_int g4
  dsimp only at b4 d4
  obtain ⟨x5, rfl, b5, d5⟩ := fG_ref (by decide) g5
  obtain ⟨m1, m2, m3, m4⟩ := hM
  have l0 : 0 ≤ (1 * x1.toInt + (-1 * x0.toInt + 0)) + -1 := by
    obtain ⟨z, e6, e7⟩ := m3 ([(1, 1), (0, -1)], -1) (List.mem_of_getElem? (i := 0) rfl)
    obtain rfl : (1 * x1.toInt + (-1 * x0.toInt + 0)) = z := Option.some.inj (show some (1 * x1.toInt + (-1 * x0.toInt + 0)) = some z from e6)
    exact e7
  have l1 : 0 ≤ (1 * x1.toInt + (-1 * x0.toInt + 0)) + 0 := by
    obtain ⟨z, e6, e7⟩ := m3 ([(1, 1), (0, -1)], 0) (List.mem_of_getElem? (i := 1) rfl)
    obtain rfl : (1 * x1.toInt + (-1 * x0.toInt + 0)) = z := Option.some.inj (show some (1 * x1.toInt + (-1 * x0.toInt + 0)) = some z from e6)
    exact e7
  have f0 : fB K n p 8 [fI x0, fI x1, fI x2, fI x3, fI x4] σ := by
    obtain ⟨w, e6, e7⟩ := m4 (133, [0, 1, 2, 3, 4]) (List.mem_of_getElem? (i := 0) rfl)
    obtain rfl : [fI x0, fI x1, fI x2, fI x3, fI x4] = w := Option.some.inj (show some [fI x0, fI x1, fI x2, fI x3, fI x4] = some w from e6)
    exact (fF_b (r := 133) (by decide) rfl).mp e7
  have f1 : fB K n p 1 [fR x5] σ := by
    obtain ⟨w, e6, e7⟩ := m4 (17, [5]) (List.mem_of_getElem? (i := 1) rfl)
    obtain rfl : [fR x5] = w := Option.some.inj (show some [fR x5] = some w from e6)
    exact (fF_b (r := 17) (by decide) rfl).mp e7
  have f2 : fB K n p 60 [fR x5, fI x3, fI x3, fI x3] σ := by
    obtain ⟨w, e6, e7⟩ := m4 (964, [5, 3, 3, 3]) (List.mem_of_getElem? (i := 2) rfl)
    obtain rfl : [fR x5, fI x3, fI x3, fI x3] = w := Option.some.inj (show some [fR x5, fI x3, fI x3, fI x3] = some w from e6)
    exact (fF_b (r := 964) (by decide) rfl).mp e7
  clear m1 m2 m3 m4
  obtain ⟨y0_0, y0_1, y0_2, y0_3, y0_4, e8_0, c0, u0, v0⟩ := (fE_o (by decide)).mp f0
  cases e8_0
  obtain ⟨a9_1, e9_1, h1, g1⟩ := f1
  cases e9_1
  have h2 := fK_4.mp f2
  have q0 : fB K n (p) 60 [fR x5, fI x0, fI x1] σ := by
    exact fK_3.mpr ⟨x3, h2, u0, fun h => by omega⟩
  exact ⟨p, fun _ => rfl, ⟨(fun q h => by cases h), fun q h => (by cases h), (fun f h => by cases h), (aAllc ⟨_, rfl, (fF_b (r := 963) (by decide) rfl).mpr q0⟩ (fun f h => by cases h))⟩, [], List.mem_cons_self, fun f h => (by cases h)⟩
set_option maxRecDepth 8192 in
theorem rw_ruHQ0EN {K : Nat → Nat} {n : Nat} : aGho (fF K n) fa_T K n (fJX K n) ag_ruHQ0EN := by
  refine aGho_of ⟨rfl, rfl⟩ ?_
  intro p σ ρ hH hX hA hM
  have hG := aAG_of hA.1 (fun i e v he hv => (hA.2 i e v he hv).1)
  clear hA
  obtain ⟨v0, v1, v2, v3, v4, v5, v6, rfl, g0, g1, g2, g3, g4, g5, g6⟩ := fA_7 hG
  clear hG
  obtain ⟨x0, rfl, b0, d0⟩ := aG_int g0
  dsimp only at b0 d0
  obtain ⟨x1, rfl, b1, d1⟩ := aG_int g1
  dsimp only at b1 d1
  obtain ⟨x2, rfl, b2, d2⟩ := aG_int g2
  dsimp only at b2 d2
  obtain ⟨x3, rfl, b3, d3⟩ := aG_int g3
  dsimp only at b3 d3
  obtain ⟨x4, rfl, b4, d4⟩ := fG_ref (by decide) g4
  obtain ⟨x5, rfl, b5, d5⟩ := aG_int g5
  dsimp only at b5 d5
  obtain ⟨x6, rfl, b6, d6⟩ := aG_int g6
  dsimp only at b6 d6
  obtain ⟨m1, m2, m3, m4⟩ := hM
  obtain ⟨a0, c0, fs0, w0, e1, s0, t0, e4⟩ := m1 (4, 2, 6) (List.mem_of_getElem? (i := 0) rfl)
  obtain rfl : x4 = a0 := Sum.inl.inj (Option.some.inj (Sum.inr.inj (Sum.inr.inj (Option.some.inj (show some (fR x4) = some _ from e1)))))
  obtain rfl : fI x6 = w0 := Option.some.inj (show some (fI x6) = some w0 from e4)
  clear e1 e4
  have l0 : 0 ≤ (1 * x5.toInt + (1 * x6.toInt + 0)) + -1 := by
    obtain ⟨z, e6, e7⟩ := m3 ([(5, 1), (6, 1)], -1) (List.mem_of_getElem? (i := 0) rfl)
    obtain rfl : (1 * x5.toInt + (1 * x6.toInt + 0)) = z := Option.some.inj (show some (1 * x5.toInt + (1 * x6.toInt + 0)) = some z from e6)
    exact e7
  have l1 : 0 ≤ (-1 * x5.toInt + (-1 * x6.toInt + 0)) + 1 := by
    obtain ⟨z, e6, e7⟩ := m3 ([(5, -1), (6, -1)], 1) (List.mem_of_getElem? (i := 1) rfl)
    obtain rfl : (-1 * x5.toInt + (-1 * x6.toInt + 0)) = z := Option.some.inj (show some (-1 * x5.toInt + (-1 * x6.toInt + 0)) = some z from e6)
    exact e7
  have f0 : fB K n p 1 [fR x4] σ := by
    obtain ⟨w, e6, e7⟩ := m4 (17, [4]) (List.mem_of_getElem? (i := 0) rfl)
    obtain rfl : [fR x4] = w := Option.some.inj (show some [fR x4] = some w from e6)
    exact (fF_b (r := 17) (by decide) rfl).mp e7
  have f1 : fB K n p 203 [fR x4, fI x2, fI x5, fI x3] σ := by
    obtain ⟨w, e6, e7⟩ := m4 (3252, [4, 2, 5, 3]) (List.mem_of_getElem? (i := 1) rfl)
    obtain rfl : [fR x4, fI x2, fI x5, fI x3] = w := Option.some.inj (show some [fR x4, fI x2, fI x5, fI x3] = some w from e6)
    exact (fF_b (r := 3252) (by decide) rfl).mp e7
  clear m1 m2 m3 m4
  obtain ⟨a9_0, e9_0, h0, g0⟩ := f0
  cases e9_0
  obtain ⟨b9_1, g1, r9_1, e9_1, w1, y1_0, y1_1, y1_2, e8_1, a1⟩ := (fH_o (by decide) (by decide)).mp f1
  cases e9_1
  cases e8_1
  have hF := fAt_of h0 s0
  have hsd := hF.2.1 x6 t0
  have hc := fAk_cg (b := x5.toInt) (fAt_me h0 w1) (s := x2.toInt) ⟨by omega, by omega⟩
  have eb : x5.toInt = 1 - ((fq p).2 2).toInt := by rw [← hsd]; omega
  rw [eb] at hc a1
  have q0 : fB K n (p) 8 [fI x0, fI x0, fI x1, fI x2, fI x3] σ := by
    refine (fE_o (by decide)).mpr ⟨x0, x0, x1, x2, x3, rfl, ⟨by omega, ?_⟩, fun h => by omega, fun _ f h9 h8 => by omega⟩
    rcases a1 with ⟨a1, a2⟩ | ⟨a1, a2⟩
    · exact ⟨fun _ => hc.mp a2, fun _ => a1⟩
    · exact ⟨fun h => by omega, fun h => absurd (hc.mpr h) a2⟩
  exact ⟨p, fun _ => rfl, ⟨(fun q h => by cases h), fun q h => (by cases h), (fun f h => by cases h), (aAllc ⟨_, rfl, (fF_b (r := 133) (by decide) rfl).mpr q0⟩ (fun f h => by cases h))⟩, [], List.mem_cons_self, fun f h => (by cases h)⟩
set_option maxRecDepth 8192 in
theorem rw_ruHQeEN {K : Nat → Nat} {n : Nat} : aGho (fF K n) fa_T K n (fJX K n) ag_ruHQeEN := by
  refine aGho_of ⟨rfl, rfl⟩ ?_
  intro p σ ρ hH hX hA hM
  have hG := aAG_of hA.1 (fun i e v he hv => (hA.2 i e v he hv).1)
  clear hA
  obtain ⟨v0, v1, v2, v3, v4, v5, rfl, g0, g1, g2, g3, g4, g5⟩ := fA_6 hG
  clear hG
  obtain ⟨x0, rfl, b0, d0⟩ := aG_int g0
  dsimp only at b0 d0
  obtain ⟨x1, rfl, b1, d1⟩ := aG_int g1
  dsimp only at b1 d1
  obtain ⟨x2, rfl, b2, d2⟩ := aG_int g2
  dsimp only at b2 d2
  obtain ⟨x3, rfl, b3, d3⟩ := aG_int g3
  dsimp only at b3 d3
  obtain ⟨x4, rfl, b4, d4⟩ := aG_int g4
  dsimp only at b4 d4
  obtain ⟨x5, rfl, b5, d5⟩ := aG_int g5
  dsimp only at b5 d5
  obtain ⟨m1, m2, m3, m4⟩ := hM
  have l0 : 0 ≤ (1 * x5.toInt + (-1 * x2.toInt + 0)) + -1 := by
    obtain ⟨z, e6, e7⟩ := m3 ([(5, 1), (2, -1)], -1) (List.mem_of_getElem? (i := 0) rfl)
    obtain rfl : (1 * x5.toInt + (-1 * x2.toInt + 0)) = z := Option.some.inj (show some (1 * x5.toInt + (-1 * x2.toInt + 0)) = some z from e6)
    exact e7
  have l1 : 0 ≤ (-1 * x5.toInt + (1 * x2.toInt + 0)) + 1 := by
    obtain ⟨z, e6, e7⟩ := m3 ([(5, -1), (2, 1)], 1) (List.mem_of_getElem? (i := 1) rfl)
    obtain rfl : (-1 * x5.toInt + (1 * x2.toInt + 0)) = z := Option.some.inj (show some (-1 * x5.toInt + (1 * x2.toInt + 0)) = some z from e6)
    exact e7
  have f0 : fB K n p 8 [fI x0, fI x1, fI x2, fI x3, fI x4] σ := by
    obtain ⟨w, e6, e7⟩ := m4 (133, [0, 1, 2, 3, 4]) (List.mem_of_getElem? (i := 0) rfl)
    obtain rfl : [fI x0, fI x1, fI x2, fI x3, fI x4] = w := Option.some.inj (show some [fI x0, fI x1, fI x2, fI x3, fI x4] = some w from e6)
    exact (fF_b (r := 133) (by decide) rfl).mp e7
  have f1 : fB K n p 48 [fI x2] σ := by
    obtain ⟨w, e6, e7⟩ := m4 (769, [2]) (List.mem_of_getElem? (i := 1) rfl)
    obtain rfl : [fI x2] = w := Option.some.inj (show some [fI x2] = some w from e6)
    exact (fF_b (r := 769) (by decide) rfl).mp e7
  clear m1 m2 m3 m4
  obtain ⟨y0_0, y0_1, y0_2, y0_3, y0_4, e8_0, c0, u0, v0⟩ := (fE_o (by decide)).mp f0
  cases e8_0
  obtain ⟨y1_0, e8_1, h1⟩ := (fE_o (by decide)).mp f1
  cases e8_1
  have q0 : fB K n (p) 8 [fI x0, fI x1, fI x5, fI x3, fI x4] σ := by
    refine (fE_o (by decide)).mpr ⟨x0, x1, x5, x3, x4, rfl, c0, u0, fun h f h9 h8 ho => ?_⟩
    by_cases hf : f < x2.toInt
    · exact v0 h f h9 hf ho
    · obtain rfl : f = x2.toInt := by omega
      exact absurd ho (fun ho => h1.elim ho.1 (fun h => h ho.2))
  exact ⟨p, fun _ => rfl, ⟨(fun q h => by cases h), fun q h => (by cases h), (fun f h => by cases h), (aAllc ⟨_, rfl, (fF_b (r := 133) (by decide) rfl).mpr q0⟩ (fun f h => by cases h))⟩, [], List.mem_cons_self, fun f h => (by cases h)⟩
set_option maxRecDepth 8192 in
theorem rw_ruGUEN {K : Nat → Nat} {n : Nat} : aGho (fF K n) fa_T K n (fJX K n) ag_ruGUEN := by
  refine aGho_of ⟨rfl, rfl⟩ ?_
  intro p σ ρ hH hX hA hM
  have hG := aAG_of hA.1 (fun i e v he hv => (hA.2 i e v he hv).1)
  clear hA
  obtain ⟨v0, v1, v2, v3, v4, v5, rfl, g0, g1, g2, g3, g4, g5⟩ := fA_6 hG
  clear hG
  obtain ⟨x0, rfl, b0, d0⟩ := fG_ref (by decide) g0
  obtain ⟨x1, rfl, b1, d1⟩ := aG_int g1
  dsimp only at b1 d1
  obtain ⟨x2, rfl, b2, d2⟩ := aG_int g2
  dsimp only at b2 d2
  obtain ⟨x3, rfl, b3, d3⟩ := aG_int g3
  dsimp only at b3 d3
  obtain ⟨x4, rfl, b4, d4⟩ := aG_int g4
  dsimp only at b4 d4
  obtain ⟨x5, rfl, b5, d5⟩ := aG_int g5
  dsimp only at b5 d5
  obtain ⟨m1, m2, m3, m4⟩ := hM
  have f0 : fB K n p 81 [fR x0, fI x1, fI x2, fI x3] σ := by
    obtain ⟨w, e6, e7⟩ := m4 (1300, [0, 1, 2, 3]) (List.mem_of_getElem? (i := 0) rfl)
    obtain rfl : [fR x0, fI x1, fI x2, fI x3] = w := Option.some.inj (show some [fR x0, fI x1, fI x2, fI x3] = some w from e6)
    exact (fF_b (r := 1300) (by decide) rfl).mp e7
  have f1 : fB K n p 25 [fI x3, fI x5] σ := by
    obtain ⟨w, e6, e7⟩ := m4 (402, [3, 5]) (List.mem_of_getElem? (i := 1) rfl)
    obtain rfl : [fI x3, fI x5] = w := Option.some.inj (show some [fI x3, fI x5] = some w from e6)
    exact (fF_b (r := 402) (by decide) rfl).mp e7
  clear m1 m2 m3 m4
  obtain ⟨a9_0, lo9_0, hi9_0, r9_0, S0, C0, e9_0, T0, V0⟩ := (fL_o (by decide) (by decide)).mp f0
  cases e9_0
  obtain ⟨y0_0, e8_0, eS0, eC0⟩ := (fOr_l T0 (by rintro ⟨_, _, _, _, _, e9, -⟩; cases e9))
  cases e8_0
  subst eS0
  subst eC0
  obtain ⟨y1_0, y1_1, e9_1, h1⟩ := f1
  cases e9_1
  have hmk : ((fq p).1 x3.toInt.toNat).toInt % 8 = x5.toInt := by
    unfold fOw at h1
    rw [fNc] at h1
    rw [h1, show ((x5.toNatClampNeg : Nat) : Int) = x5.toInt by rw [fNc]; omega]
    omega
  have hg : ∀ c d y, fGn (fq p).1 (fq p).2 c x3.toInt y → fGn (fq p).1 (fq p).2 d x3.toInt y := by
    intro c d y hy
    rcases hy with hy | hy | hy | hy
    · exact Or.inl hy
    · exact Or.inr (Or.inl hy)
    · omega
    · exact Or.inr (Or.inr (Or.inr hy))
  have q0 : fB K n (p) 82 [fR x0, fI x1, fI x2, fI x3, fI x4] σ := by
    refine (fL_o (by decide) (by decide)).mpr ⟨x0, x1, x2, _, _, _, rfl, (Or.inl ⟨x3, x4, rfl, rfl, rfl⟩), ?_⟩
    exact fCv_w V0 rfl (by have e1 : fEc 81 = 0 := rfl; have e2 : fEc 82 = 0 := rfl; omega) (fun y hy => hg _ _ y hy) (fun y hy => hg _ _ y hy)
  exact ⟨p, fun _ => rfl, ⟨(fun q h => by cases h), fun q h => (by cases h), (fun f h => by cases h), (aAllc ⟨_, rfl, (fF_b (r := 1317) (by decide) rfl).mpr q0⟩ (fun f h => by cases h))⟩, [], List.mem_cons_self, fun f h => (by cases h)⟩
set_option maxRecDepth 8192 in
theorem rw_ruHI0EN {K : Nat → Nat} {n : Nat} : aGho (fF K n) fa_T K n (fJX K n) ag_ruHI0EN := by
  refine aGho_of ⟨rfl, rfl⟩ ?_
  intro p σ ρ hH hX hA hM
  have hG := aAG_of hA.1 (fun i e v he hv => (hA.2 i e v he hv).1)
  clear hA
  obtain ⟨v0, v1, v2, v3, v4, v5, v6, v7, v8, rfl, g0, g1, g2, g3, g4, g5, g6, g7, g8⟩ := fA_9 hG
  clear hG
  obtain ⟨x0, rfl, b0, d0⟩ := fG_ref (by decide) g0
  obtain ⟨x1, rfl, b1, d1⟩ := aG_int g1
  dsimp only at b1 d1
  obtain ⟨x2, rfl, b2, d2⟩ := aG_int g2
  dsimp only at b2 d2
  obtain ⟨x3, rfl, b3, d3⟩ := aG_int g3
  dsimp only at b3 d3
  obtain ⟨x4, rfl, b4, d4⟩ := aG_int g4
  dsimp only at b4 d4
  obtain ⟨x5, rfl, b5, d5⟩ := aG_int g5
  dsimp only at b5 d5
  obtain ⟨x6, rfl, b6, d6⟩ := aG_int g6
  dsimp only at b6 d6
  obtain ⟨x7, rfl, b7, d7⟩ := aG_int g7
  dsimp only at b7 d7
  obtain ⟨x8, rfl, b8, d8⟩ := fG_ref (by decide) g8
  obtain ⟨m1, m2, m3, m4⟩ := hM
  have f0 : fB K n p 1 [fR x8] σ := by
    obtain ⟨w, e6, e7⟩ := m4 (17, [8]) (List.mem_of_getElem? (i := 0) rfl)
    obtain rfl : [fR x8] = w := Option.some.inj (show some [fR x8] = some w from e6)
    exact (fF_b (r := 17) (by decide) rfl).mp e7
  have f1 : fB K n p 8 [fI x3, fI x1, fI x4, fI x5, fI x6] σ := by
    obtain ⟨w, e6, e7⟩ := m4 (133, [3, 1, 4, 5, 6]) (List.mem_of_getElem? (i := 1) rfl)
    obtain rfl : [fI x3, fI x1, fI x4, fI x5, fI x6] = w := Option.some.inj (show some [fI x3, fI x1, fI x4, fI x5, fI x6] = some w from e6)
    exact (fF_b (r := 133) (by decide) rfl).mp e7
  have f2 : fB K n p 82 [fR x0, fI x1, fI x2, fI x4, fI x6] σ := by
    obtain ⟨w, e6, e7⟩ := m4 (1317, [0, 1, 2, 4, 6]) (List.mem_of_getElem? (i := 2) rfl)
    obtain rfl : [fR x0, fI x1, fI x2, fI x4, fI x6] = w := Option.some.inj (show some [fR x0, fI x1, fI x2, fI x4, fI x6] = some w from e6)
    exact (fF_b (r := 1317) (by decide) rfl).mp e7
  have f3 : fB K n p 25 [fI x4, fI x7] σ := by
    obtain ⟨w, e6, e7⟩ := m4 (402, [4, 7]) (List.mem_of_getElem? (i := 3) rfl)
    obtain rfl : [fI x4, fI x7] = w := Option.some.inj (show some [fI x4, fI x7] = some w from e6)
    exact (fF_b (r := 402) (by decide) rfl).mp e7
  clear m1 m2 m3 m4
  obtain ⟨a9_0, e9_0, h0, g0⟩ := f0
  cases e9_0
  obtain ⟨y1_0, y1_1, y1_2, y1_3, y1_4, e8_1, c1, u1, v1⟩ := (fE_o (by decide)).mp f1
  cases e8_1
  obtain ⟨a9_2, lo9_2, hi9_2, r9_2, S2, C2, e9_2, T2, V2⟩ := (fL_o (by decide) (by decide)).mp f2
  cases e9_2
  obtain ⟨y2_0, y2_1, e8_2, eS2, eC2⟩ := (fOr_l T2 (by rintro ⟨_, _, _, _, _, e9, -⟩; cases e9))
  cases e8_2
  subst eS2
  subst eC2
  obtain ⟨y3_0, y3_1, e9_3, h3⟩ := f3
  cases e9_3
  have hgd := g0.1.2.2.1
  have ho : fOn (fq p).1 (fq p).2 x4.toInt := by
    unfold fOw at h3
    rw [fNc, show ((x7.toNatClampNeg : Nat) : Int) = x7.toInt by rw [fNc]; omega] at h3
    unfold fOn
    rw [h3]
    omega
  have q0 : fB K n (p) 81 [fR x0, fI x1, fI x2, fI x3, fI x1, fI x4, fI x5, fI x6] σ := by
    refine (fL_o (by decide) (by decide)).mpr ⟨x0, x1, x2, _, _, _, rfl, (Or.inr ⟨x3, x1, x4, x5, x6, rfl, rfl, rfl, c1, ho, u1, v1⟩), ?_⟩
    exact fCv_w V2 rfl (by have e1 : fEc 82 = 0 := rfl; have e2 : fEc 81 = 0 := rfl; omega) (fun y hy => hy) (fun y hy => hy.2.1)
  exact ⟨p, fun _ => rfl, ⟨(fun q h => by cases h), fun q h => (by cases h), (fun f h => by cases h), (aAllc ⟨_, rfl, (fF_b (r := 1304) (by decide) rfl).mpr q0⟩ (fun f h => by cases h))⟩, [], List.mem_cons_self, fun f h => (by cases h)⟩
set_option maxRecDepth 8192 in
theorem rw_ruSFLEN {K : Nat → Nat} {n : Nat} : aGho (fF K n) fa_T K n (fJX K n) ag_ruSFLEN := by
  refine aGho_of ⟨rfl, rfl⟩ ?_
  intro p σ ρ hH hX hA hM
  have hG := aAG_of hA.1 (fun i e v he hv => (hA.2 i e v he hv).1)
  clear hA
  obtain ⟨v0, v1, v2, v3, v4, v5, v6, rfl, g0, g1, g2, g3, g4, g5, g6⟩ := fA_7 hG
  clear hG
  obtain ⟨x0, rfl, b0, d0⟩ := fG_ref (by decide) g0
  obtain ⟨x1, rfl, b1, d1⟩ := aG_int g1
  dsimp only at b1 d1
  obtain ⟨x2, rfl, b2, d2⟩ := aG_int g2
  dsimp only at b2 d2
  obtain ⟨x3, rfl, b3, d3⟩ := aG_int g3
  dsimp only at b3 d3
  obtain ⟨x4, rfl, b4, d4⟩ := aG_int g4
  dsimp only at b4 d4
  obtain ⟨x5, rfl, b5, d5⟩ := aG_int g5
  dsimp only at b5 d5
  obtain ⟨x6, rfl, b6, d6⟩ := aG_int g6
  dsimp only at b6 d6
  obtain ⟨m1, m2, m3, m4⟩ := hM
  obtain ⟨a, mc0, ty0, gc0, ic0, e1, sc0, jc0, e4, e5⟩ := m2 (0, ([(2, 1)], 0), 6) (List.mem_of_getElem? (i := 0) rfl)
  obtain rfl : x0 = a := Sum.inl.inj (Option.some.inj (Sum.inr.inj (Sum.inr.inj (Option.some.inj (show some (fR x0) = some _ from e1)))))
  obtain ⟨gc0, rfl⟩ : ∃ g, gc0 = .inl g := by
    rcases gc0 with g | g
    · exact ⟨g, rfl⟩
    · exact absurd (show some (fI x6) = some (.inr (.inl (g ic0))) from e5) (fun h => by cases h)
  have sc0 : σ x0 = .inl (ty0, mc0, .inl gc0) := sc0
  have ec0 : x6 = gc0 ic0 := Sum.inl.inj (Option.some.inj (show some (fI x6) = some _ from e5))
  have kc0 : (ic0 : Int) = (1 * x2.toInt + 0) + 0 := by
    obtain ⟨z, e6, e7⟩ := e4
    obtain rfl : (1 * x2.toInt + 0) = z := Option.some.inj (show some (1 * x2.toInt + 0) = some z from e6)
    exact e7
  clear e1 e4 e5
  obtain rfl : ic0 = x2.toInt.toNat := by omega
  have f0 : fB K n p 29 [fI x3, fI x4, fI x1, fI x6, fI x5] σ := by
    obtain ⟨w, e6, e7⟩ := m4 (469, [3, 4, 1, 6, 5]) (List.mem_of_getElem? (i := 0) rfl)
    obtain rfl : [fI x3, fI x4, fI x1, fI x6, fI x5] = w := Option.some.inj (show some [fI x3, fI x4, fI x1, fI x6, fI x5] = some w from e6)
    exact (fF_b (r := 469) (by decide) rfl).mp e7
  clear m1 m2 m3 m4
  obtain ⟨y0_0, y0_1, y0_2, y0_3, y0_4, e8_0, h0⟩ := (fE_o (by decide)).mp f0
  cases e8_0
  obtain ⟨g9, hg9⟩ := fRow hH b0 d0 rfl (by decide)
  rw [hg9] at sc0
  cases sc0
  have q0 : fB K n (p) 84 [fR x0, fI x1, fI x2, fI x3, fI x4, fI x5] σ := by
    refine (fL_o (by decide) (by decide)).mpr ⟨x0, x1, x2, _, _, _, rfl, (Or.inr ⟨x3, x4, x5, rfl, rfl, rfl⟩), ?_⟩
    refine ⟨b0, by unfold fRw; omega, _, gc0, hg9, fun k k1 k2 => ?_, fun y hy => hy.elim⟩
    have e1 : fEc 84 = 1 := rfl
    have k3 : x2.toInt ≤ (k : Int) := k1
    have k4 : (k : Int) < x2.toInt + 1 := by omega
    rw [show k = x2.toInt.toNat by omega, ← ec0]
    exact h0
  exact ⟨p, fun _ => rfl, ⟨(fun q h => by cases h), fun q h => (by cases h), (fun f h => by cases h), (aAllc ⟨_, rfl, (fF_b (r := 1350) (by decide) rfl).mpr q0⟩ (fun f h => by cases h))⟩, [], List.mem_cons_self, fun f h => (by cases h)⟩
set_option maxRecDepth 8192 in
theorem rw_ruHIsEN {K : Nat → Nat} {n : Nat} : aGho (fF K n) fa_T K n (fJX K n) ag_ruHIsEN := by
  refine aGho_of ⟨rfl, rfl⟩ ?_
  intro p σ ρ hH hX hA hM
  have hG := aAG_of hA.1 (fun i e v he hv => (hA.2 i e v he hv).1)
  clear hA
  obtain ⟨v0, v1, v2, v3, v4, v5, v6, v7, v8, v9, rfl, g0, g1, g2, g3, g4, g5, g6, g7, g8, g9⟩ := fA_10 hG
  clear hG
  obtain ⟨x0, rfl, b0, d0⟩ := fG_ref (by decide) g0
  obtain ⟨x1, rfl, b1, d1⟩ := aG_int g1
  dsimp only at b1 d1
  obtain ⟨x2, rfl, b2, d2⟩ := aG_int g2
  dsimp only at b2 d2
  obtain ⟨x3, rfl, b3, d3⟩ := aG_int g3
  dsimp only at b3 d3
  obtain ⟨x4, rfl, b4, d4⟩ := aG_int g4
  dsimp only at b4 d4
  obtain ⟨x5, rfl, b5, d5⟩ := aG_int g5
  dsimp only at b5 d5
  obtain ⟨x6, rfl, b6, d6⟩ := aG_int g6
  dsimp only at b6 d6
  obtain ⟨x7, rfl, b7, d7⟩ := aG_int g7
  dsimp only at b7 d7
  obtain ⟨x8, rfl, b8, d8⟩ := aG_int g8
  dsimp only at b8 d8
  obtain ⟨x9, rfl, b9, d9⟩ := aG_int g9
  dsimp only at b9 d9
  obtain ⟨m1, m2, m3, m4⟩ := hM
  obtain ⟨a, mc0, ty0, gc0, ic0, e1, sc0, jc0, e4, e5⟩ := m2 (0, ([(3, 1)], 0), 2) (List.mem_of_getElem? (i := 0) rfl)
  obtain rfl : x0 = a := Sum.inl.inj (Option.some.inj (Sum.inr.inj (Sum.inr.inj (Option.some.inj (show some (fR x0) = some _ from e1)))))
  obtain ⟨gc0, rfl⟩ : ∃ g, gc0 = .inl g := by
    rcases gc0 with g | g
    · exact ⟨g, rfl⟩
    · exact absurd (show some (fI x2) = some (.inr (.inl (g ic0))) from e5) (fun h => by cases h)
  have sc0 : σ x0 = .inl (ty0, mc0, .inl gc0) := sc0
  have ec0 : x2 = gc0 ic0 := Sum.inl.inj (Option.some.inj (show some (fI x2) = some _ from e5))
  have kc0 : (ic0 : Int) = (1 * x3.toInt + 0) + 0 := by
    obtain ⟨z, e6, e7⟩ := e4
    obtain rfl : (1 * x3.toInt + 0) = z := Option.some.inj (show some (1 * x3.toInt + 0) = some z from e6)
    exact e7
  clear e1 e4 e5
  obtain rfl : ic0 = x3.toInt.toNat := by omega
  have l0 : 0 ≤ (1 * x3.toInt + (-1 * x1.toInt + 0)) + 0 := by
    obtain ⟨z, e6, e7⟩ := m3 ([(3, 1), (1, -1)], 0) (List.mem_of_getElem? (i := 0) rfl)
    obtain rfl : (1 * x3.toInt + (-1 * x1.toInt + 0)) = z := Option.some.inj (show some (1 * x3.toInt + (-1 * x1.toInt + 0)) = some z from e6)
    exact e7
  have l1 : 0 ≤ (1 * x4.toInt + (-1 * x3.toInt + 0)) + -1 := by
    obtain ⟨z, e6, e7⟩ := m3 ([(4, 1), (3, -1)], -1) (List.mem_of_getElem? (i := 1) rfl)
    obtain rfl : (1 * x4.toInt + (-1 * x3.toInt + 0)) = z := Option.some.inj (show some (1 * x4.toInt + (-1 * x3.toInt + 0)) = some z from e6)
    exact e7
  have f0 : fB K n p 81 [fR x0, fI x3, fI x4, fI x5, fI x1, fI x6, fI x7, fI x8] σ := by
    obtain ⟨w, e6, e7⟩ := m4 (1304, [0, 3, 4, 5, 1, 6, 7, 8]) (List.mem_of_getElem? (i := 0) rfl)
    obtain rfl : [fR x0, fI x3, fI x4, fI x5, fI x1, fI x6, fI x7, fI x8] = w := Option.some.inj (show some [fR x0, fI x3, fI x4, fI x5, fI x1, fI x6, fI x7, fI x8] = some w from e6)
    exact (fF_b (r := 1304) (by decide) rfl).mp e7
  have f1 : fB K n p 84 [fR x0, fI x6, fI x3, fI x7, fI x8, fI x9] σ := by
    obtain ⟨w, e6, e7⟩ := m4 (1350, [0, 6, 3, 7, 8, 9]) (List.mem_of_getElem? (i := 1) rfl)
    obtain rfl : [fR x0, fI x6, fI x3, fI x7, fI x8, fI x9] = w := Option.some.inj (show some [fR x0, fI x6, fI x3, fI x7, fI x8, fI x9] = some w from e6)
    exact (fF_b (r := 1350) (by decide) rfl).mp e7
  clear m1 m2 m3 m4
  obtain ⟨a9_0, lo9_0, hi9_0, r9_0, S0, C0, e9_0, T0, V0⟩ := (fL_o (by decide) (by decide)).mp f0
  cases e9_0
  obtain ⟨y0_0, y0_1, y0_2, y0_3, y0_4, e8_0, eS0, eC0, c0, o0, u0, v0⟩ := (fOr_r T0 (by rintro ⟨_, e9, -⟩; cases e9))
  cases e8_0
  subst eS0
  subst eC0
  obtain ⟨a9_1, lo9_1, hi9_1, r9_1, S1, C1, e9_1, T1, V1⟩ := (fL_o (by decide) (by decide)).mp f1
  cases e9_1
  obtain ⟨y1_0, y1_1, y1_2, e8_1, eS1, eC1⟩ := (fOr_r T1 (by rintro ⟨_, _, e9, -⟩; cases e9))
  cases e8_1
  subst eS1
  subst eC1
  obtain ⟨q1, q2, mm, gg, q3, q4, q5⟩ := V0
  obtain ⟨r1, r2, mm2, gg2, r3, r4, -⟩ := V1
  rw [q3] at r3
  cases r3
  rw [q3] at sc0
  cases sc0
  have e81 : fEc 81 = 0 := rfl
  have e84 : fEc 84 = 1 := rfl
  have e82 : fEc 82 = 0 := rfl
  have hS := q4 x3.toInt.toNat (show x3.toInt ≤ _ by omega) (by omega)
  have hT := r4 x3.toInt.toNat (show x3.toInt ≤ _ by omega) (by omega)
  have hl : fHL (fq p).1 (fq p).2 x7.toInt := ⟨x8.toInt, c0.1, c0.2, x6.toInt, _, by omega, by omega, o0, hS, by
    rcases hT with hT | hT
    · exact hT.2
    · omega⟩
  have q0 : fB K n (p) 82 [fR x0, fI x3, fI x4, fI x5, fI x1, fI x6, fI x7, fI x8] (jup σ x0 (jsto (σ x0) x1.toNatClampNeg x2)) := by
    refine (fL_o (by decide) (by decide)).mpr ⟨x0, x3, x4, _, _, _, rfl, (Or.inr ⟨x5, x1, x6, x7, x8, rfl, rfl, rfl, c0, o0, hl⟩), ?_⟩
    refine ⟨q1, q2, _, upd gc0 x1.toNatClampNeg x2, by rw [jup_s, q3]; rfl, fun k k1 k2 => ?_, fun y hy => hy.elim⟩
    have k3 : x3.toInt + 1 ≤ (k : Int) := k1
    unfold upd
    rw [if_neg (by rw [fNc]; omega)]
    exact q4 k (show x3.toInt ≤ _ by omega) (by omega)
  exact ⟨p, fun _ => rfl, ⟨(fun q h => by cases h), fun q h => (by cases h), (fun f h => by cases h), (aAllc ⟨_, rfl, fF_p (r := 1320) (by decide) (by decide) rfl q0⟩ (fun f h => by cases h))⟩, [], List.mem_cons_self, fun f h => (by cases h)⟩
set_option maxRecDepth 8192 in
theorem rw_ruHIkEN {K : Nat → Nat} {n : Nat} : aGho (fF K n) fa_T K n (fJX K n) ag_ruHIkEN := by
  refine aGho_of ⟨rfl, rfl⟩ ?_
  intro p σ ρ hH hX hA hM
  have hG := aAG_of hA.1 (fun i e v he hv => (hA.2 i e v he hv).1)
  clear hA
  obtain ⟨v0, v1, v2, v3, v4, v5, v6, v7, v8, v9, rfl, g0, g1, g2, g3, g4, g5, g6, g7, g8, g9⟩ := fA_10 hG
  clear hG
  obtain ⟨x0, rfl, b0, d0⟩ := fG_ref (by decide) g0
  obtain ⟨x1, rfl, b1, d1⟩ := aG_int g1
  dsimp only at b1 d1
  obtain ⟨x2, rfl, b2, d2⟩ := aG_int g2
  dsimp only at b2 d2
  obtain ⟨x3, rfl, b3, d3⟩ := aG_int g3
  dsimp only at b3 d3
  obtain ⟨x4, rfl, b4, d4⟩ := aG_int g4
  dsimp only at b4 d4
  obtain ⟨x5, rfl, b5, d5⟩ := aG_int g5
  dsimp only at b5 d5
  obtain ⟨x6, rfl, b6, d6⟩ := aG_int g6
  dsimp only at b6 d6
  obtain ⟨x7, rfl, b7, d7⟩ := aG_int g7
  dsimp only at b7 d7
  obtain ⟨x8, rfl, b8, d8⟩ := aG_int g8
  dsimp only at b8 d8
  obtain ⟨x9, rfl, b9, d9⟩ := aG_int g9
  dsimp only at b9 d9
  obtain ⟨m1, m2, m3, m4⟩ := hM
  have l0 : 0 ≤ (1 * x8.toInt + (-1 * x1.toInt + 0)) + -1 := by
    obtain ⟨z, e6, e7⟩ := m3 ([(8, 1), (1, -1)], -1) (List.mem_of_getElem? (i := 0) rfl)
    obtain rfl : (1 * x8.toInt + (-1 * x1.toInt + 0)) = z := Option.some.inj (show some (1 * x8.toInt + (-1 * x1.toInt + 0)) = some z from e6)
    exact e7
  have l1 : 0 ≤ (-1 * x8.toInt + (1 * x1.toInt + 0)) + 1 := by
    obtain ⟨z, e6, e7⟩ := m3 ([(8, -1), (1, 1)], 1) (List.mem_of_getElem? (i := 1) rfl)
    obtain rfl : (-1 * x8.toInt + (1 * x1.toInt + 0)) = z := Option.some.inj (show some (-1 * x8.toInt + (1 * x1.toInt + 0)) = some z from e6)
    exact e7
  have l2 : 0 ≤ (1 * x9.toInt + (-1 * x4.toInt + 0)) + -1 := by
    obtain ⟨z, e6, e7⟩ := m3 ([(9, 1), (4, -1)], -1) (List.mem_of_getElem? (i := 2) rfl)
    obtain rfl : (1 * x9.toInt + (-1 * x4.toInt + 0)) = z := Option.some.inj (show some (1 * x9.toInt + (-1 * x4.toInt + 0)) = some z from e6)
    exact e7
  have l3 : 0 ≤ (-1 * x9.toInt + (1 * x4.toInt + 0)) + 1 := by
    obtain ⟨z, e6, e7⟩ := m3 ([(9, -1), (4, 1)], 1) (List.mem_of_getElem? (i := 3) rfl)
    obtain rfl : (-1 * x9.toInt + (1 * x4.toInt + 0)) = z := Option.some.inj (show some (-1 * x9.toInt + (1 * x4.toInt + 0)) = some z from e6)
    exact e7
  have f0 : fB K n p 82 [fR x0, fI x1, fI x2, fI x3, fI x4, fI x5, fI x6, fI x7] σ := by
    obtain ⟨w, e6, e7⟩ := m4 (1320, [0, 1, 2, 3, 4, 5, 6, 7]) (List.mem_of_getElem? (i := 0) rfl)
    obtain rfl : [fR x0, fI x1, fI x2, fI x3, fI x4, fI x5, fI x6, fI x7] = w := Option.some.inj (show some [fR x0, fI x1, fI x2, fI x3, fI x4, fI x5, fI x6, fI x7] = some w from e6)
    exact (fF_b (r := 1320) (by decide) rfl).mp e7
  clear m1 m2 m3 m4
  obtain ⟨a9_0, lo9_0, hi9_0, r9_0, S0, C0, e9_0, T0, V0⟩ := (fL_o (by decide) (by decide)).mp f0
  cases e9_0
  obtain ⟨y0_0, y0_1, y0_2, y0_3, y0_4, e8_0, eS0, eC0, c0, o0, u0⟩ := (fOr_r T0 (by rintro ⟨_, _, e9, -⟩; cases e9))
  cases e8_0
  subst eS0
  subst eC0
  have q0 : fB K n (p) 81 [fR x0, fI x8, fI x2, fI x3, fI x9, fI x5, fI x6, fI x7] σ := by
    refine (fL_o (by decide) (by decide)).mpr ⟨x0, x8, x2, _, _, _, rfl, (Or.inr ⟨x3, x9, x5, x6, x7, rfl, rfl, rfl, c0, o0, fun _ => u0, fun h => by omega⟩), ?_⟩
    obtain ⟨q1, q2, mm, gg, q3, q4, -⟩ := V0
    have e81 : fEc 81 = 0 := rfl
    have e82 : fEc 82 = 0 := rfl
    exact ⟨q1, q2, mm, gg, q3, fun k k1 k2 => q4 k (show x1.toInt + 1 ≤ _ by have k3 : x8.toInt ≤ (k : Int) := k1; omega) (by omega), fun y hy => by have := hy.1; omega⟩
  exact ⟨p, fun _ => rfl, ⟨(fun q h => by cases h), fun q h => (by cases h), (fun f h => by cases h), (aAllc ⟨_, rfl, (fF_b (r := 1304) (by decide) rfl).mpr q0⟩ (fun f h => by cases h))⟩, [], List.mem_cons_self, fun f h => (by cases h)⟩
set_option maxRecDepth 8192 in
theorem rw_ruHInEN {K : Nat → Nat} {n : Nat} : aGho (fF K n) fa_T K n (fJX K n) ag_ruHInEN := by
  refine aGho_of ⟨rfl, rfl⟩ ?_
  intro p σ ρ hH hX hA hM
  have hG := aAG_of hA.1 (fun i e v he hv => (hA.2 i e v he hv).1)
  clear hA
  obtain ⟨v0, v1, v2, v3, v4, v5, v6, v7, v8, v9, rfl, g0, g1, g2, g3, g4, g5, g6, g7, g8, g9⟩ := fA_10 hG
  clear hG
  obtain ⟨x0, rfl, b0, d0⟩ := fG_ref (by decide) g0
  obtain ⟨x1, rfl, b1, d1⟩ := aG_int g1
  dsimp only at b1 d1
  obtain ⟨x2, rfl, b2, d2⟩ := aG_int g2
  dsimp only at b2 d2
  obtain ⟨x3, rfl, b3, d3⟩ := aG_int g3
  dsimp only at b3 d3
  obtain ⟨x4, rfl, b4, d4⟩ := aG_int g4
  dsimp only at b4 d4
  obtain ⟨x5, rfl, b5, d5⟩ := aG_int g5
  dsimp only at b5 d5
  obtain ⟨x6, rfl, b6, d6⟩ := aG_int g6
  dsimp only at b6 d6
  obtain ⟨x7, rfl, b7, d7⟩ := aG_int g7
  dsimp only at b7 d7
  obtain ⟨x8, rfl, b8, d8⟩ := aG_int g8
  dsimp only at b8 d8
  obtain ⟨x9, rfl, b9, d9⟩ := aG_int g9
  dsimp only at b9 d9
  obtain ⟨m1, m2, m3, m4⟩ := hM
  have l0 : 0 ≤ (1 * x8.toInt + (-1 * x1.toInt + 0)) + -1 := by
    obtain ⟨z, e6, e7⟩ := m3 ([(8, 1), (1, -1)], -1) (List.mem_of_getElem? (i := 0) rfl)
    obtain rfl : (1 * x8.toInt + (-1 * x1.toInt + 0)) = z := Option.some.inj (show some (1 * x8.toInt + (-1 * x1.toInt + 0)) = some z from e6)
    exact e7
  have l1 : 0 ≤ (-1 * x8.toInt + (1 * x1.toInt + 0)) + 1 := by
    obtain ⟨z, e6, e7⟩ := m3 ([(8, -1), (1, 1)], 1) (List.mem_of_getElem? (i := 1) rfl)
    obtain rfl : (-1 * x8.toInt + (1 * x1.toInt + 0)) = z := Option.some.inj (show some (-1 * x8.toInt + (1 * x1.toInt + 0)) = some z from e6)
    exact e7
  have f0 : fB K n p 81 [fR x0, fI x1, fI x2, fI x3, fI x4, fI x5, fI x6, fI x7] σ := by
    obtain ⟨w, e6, e7⟩ := m4 (1304, [0, 1, 2, 3, 4, 5, 6, 7]) (List.mem_of_getElem? (i := 0) rfl)
    obtain rfl : [fR x0, fI x1, fI x2, fI x3, fI x4, fI x5, fI x6, fI x7] = w := Option.some.inj (show some [fR x0, fI x1, fI x2, fI x3, fI x4, fI x5, fI x6, fI x7] = some w from e6)
    exact (fF_b (r := 1304) (by decide) rfl).mp e7
  have f1 : fB K n p 84 [fR x0, fI x5, fI x1, fI x6, fI x7, fI x9] σ := by
    obtain ⟨w, e6, e7⟩ := m4 (1350, [0, 5, 1, 6, 7, 9]) (List.mem_of_getElem? (i := 1) rfl)
    obtain rfl : [fR x0, fI x5, fI x1, fI x6, fI x7, fI x9] = w := Option.some.inj (show some [fR x0, fI x5, fI x1, fI x6, fI x7, fI x9] = some w from e6)
    exact (fF_b (r := 1350) (by decide) rfl).mp e7
  clear m1 m2 m3 m4
  obtain ⟨a9_0, lo9_0, hi9_0, r9_0, S0, C0, e9_0, T0, V0⟩ := (fL_o (by decide) (by decide)).mp f0
  cases e9_0
  obtain ⟨y0_0, y0_1, y0_2, y0_3, y0_4, e8_0, eS0, eC0, c0, o0, u0, v0⟩ := (fOr_r T0 (by rintro ⟨_, e9, -⟩; cases e9))
  cases e8_0
  subst eS0
  subst eC0
  obtain ⟨a9_1, lo9_1, hi9_1, r9_1, S1, C1, e9_1, T1, V1⟩ := (fL_o (by decide) (by decide)).mp f1
  cases e9_1
  obtain ⟨y1_0, y1_1, y1_2, e8_1, eS1, eC1⟩ := (fOr_r T1 (by rintro ⟨_, _, e9, -⟩; cases e9))
  cases e8_1
  subst eS1
  subst eC1
  obtain ⟨r1, r2, mm2, gg2, r3, r4, -⟩ := V1
  have e84 : fEc 84 = 1 := rfl
  have hT := r4 x1.toInt.toNat (show x1.toInt ≤ _ by omega) (by omega)
  have q0 : fB K n (p) 81 [fR x0, fI x8, fI x2, fI x3, fI x4, fI x5, fI x6, fI x7] σ := by
    refine (fL_o (by decide) (by decide)).mpr ⟨x0, x8, x2, _, _, _, rfl, (Or.inr ⟨x3, x4, x5, x6, x7, rfl, rfl, rfl, c0, o0, u0, v0⟩), ?_⟩
    obtain ⟨q1, q2, mm, gg, q3, q4, q5⟩ := V0
    rw [q3] at r3
    cases r3
    refine ⟨q1, q2, mm2, gg2, q3, fun k k1 k2 => q4 k (show x1.toInt ≤ _ by have k3 : x8.toInt ≤ (k : Int) := k1; omega) k2, fun y hy => ?_⟩
    obtain ⟨k, k1, k2, k3⟩ := q5 y hy
    have k4 : x1.toInt ≤ (k : Int) := k1
    by_cases hk : (k : Int) = x1.toInt
    · exfalso
      rw [show x1.toInt.toNat = k by omega, k3] at hT
      rcases hT with hT | hT
      · omega
      · exact hT.2 hy.2.2
    · exact ⟨k, show x8.toInt ≤ _ by omega, k2, k3⟩
  exact ⟨p, fun _ => rfl, ⟨(fun q h => by cases h), fun q h => (by cases h), (fun f h => by cases h), (aAllc ⟨_, rfl, (fF_b (r := 1304) (by decide) rfl).mpr q0⟩ (fun f h => by cases h))⟩, [], List.mem_cons_self, fun f h => (by cases h)⟩
set_option maxRecDepth 8192 in
theorem rw_ruHQnEN {K : Nat → Nat} {n : Nat} : aGho (fF K n) fa_T K n (fJX K n) ag_ruHQnEN := by
  refine aGho_of ⟨rfl, rfl⟩ ?_
  intro p σ ρ hH hX hA hM
  have hG := aAG_of hA.1 (fun i e v he hv => (hA.2 i e v he hv).1)
  clear hA
  obtain ⟨v0, v1, v2, v3, v4, v5, v6, v7, v8, rfl, g0, g1, g2, g3, g4, g5, g6, g7, g8⟩ := fA_9 hG
  clear hG
  obtain ⟨x0, rfl, b0, d0⟩ := fG_ref (by decide) g0
  obtain ⟨x1, rfl, b1, d1⟩ := aG_int g1
  dsimp only at b1 d1
  obtain ⟨x2, rfl, b2, d2⟩ := aG_int g2
  dsimp only at b2 d2
  obtain ⟨x3, rfl, b3, d3⟩ := aG_int g3
  dsimp only at b3 d3
  obtain ⟨x4, rfl, b4, d4⟩ := aG_int g4
  dsimp only at b4 d4
  obtain ⟨x5, rfl, b5, d5⟩ := aG_int g5
  dsimp only at b5 d5
  obtain ⟨x6, rfl, b6, d6⟩ := aG_int g6
  dsimp only at b6 d6
  obtain ⟨x7, rfl, b7, d7⟩ := aG_int g7
  dsimp only at b7 d7
  obtain ⟨x8, rfl, b8, d8⟩ := aG_int g8
  dsimp only at b8 d8
  obtain ⟨m1, m2, m3, m4⟩ := hM
  have l0 : 0 ≤ (1 * x8.toInt + (-1 * x5.toInt + 0)) + -1 := by
    obtain ⟨z, e6, e7⟩ := m3 ([(8, 1), (5, -1)], -1) (List.mem_of_getElem? (i := 0) rfl)
    obtain rfl : (1 * x8.toInt + (-1 * x5.toInt + 0)) = z := Option.some.inj (show some (1 * x8.toInt + (-1 * x5.toInt + 0)) = some z from e6)
    exact e7
  have l1 : 0 ≤ (-1 * x8.toInt + (1 * x5.toInt + 0)) + 1 := by
    obtain ⟨z, e6, e7⟩ := m3 ([(8, -1), (5, 1)], 1) (List.mem_of_getElem? (i := 1) rfl)
    obtain rfl : (-1 * x8.toInt + (1 * x5.toInt + 0)) = z := Option.some.inj (show some (-1 * x8.toInt + (1 * x5.toInt + 0)) = some z from e6)
    exact e7
  have l2 : 0 ≤ (1 * x1.toInt + (-1 * x2.toInt + 0)) + 0 := by
    obtain ⟨z, e6, e7⟩ := m3 ([(1, 1), (2, -1)], 0) (List.mem_of_getElem? (i := 2) rfl)
    obtain rfl : (1 * x1.toInt + (-1 * x2.toInt + 0)) = z := Option.some.inj (show some (1 * x1.toInt + (-1 * x2.toInt + 0)) = some z from e6)
    exact e7
  have f0 : fB K n p 81 [fR x0, fI x1, fI x2, fI x3, fI x4, fI x5, fI x6, fI x7] σ := by
    obtain ⟨w, e6, e7⟩ := m4 (1304, [0, 1, 2, 3, 4, 5, 6, 7]) (List.mem_of_getElem? (i := 0) rfl)
    obtain rfl : [fR x0, fI x1, fI x2, fI x3, fI x4, fI x5, fI x6, fI x7] = w := Option.some.inj (show some [fR x0, fI x1, fI x2, fI x3, fI x4, fI x5, fI x6, fI x7] = some w from e6)
    exact (fF_b (r := 1304) (by decide) rfl).mp e7
  clear m1 m2 m3 m4
  obtain ⟨a9_0, lo9_0, hi9_0, r9_0, S0, C0, e9_0, T0, V0⟩ := (fL_o (by decide) (by decide)).mp f0
  cases e9_0
  obtain ⟨y0_0, y0_1, y0_2, y0_3, y0_4, e8_0, eS0, eC0, c0, o0, u0, v0⟩ := (fOr_r T0 (by rintro ⟨_, e9, -⟩; cases e9))
  cases e8_0
  subst eS0
  subst eC0
  have q0 : fB K n (p) 8 [fI x3, fI x4, fI x8, fI x6, fI x7] σ := by
    refine (fE_o (by decide)).mpr ⟨x3, x4, x8, x6, x7, rfl, c0, u0, fun h f h9 h8 ho y hy hs => ?_⟩
    by_cases hf : f < x5.toInt
    · exact v0 h f h9 hf ho y hy hs
    · obtain rfl : f = x5.toInt := by omega
      obtain ⟨q1, q2, mm, gg, q3, q4, q5⟩ := V0
      obtain ⟨k, k1, k2, -⟩ := q5 y ⟨h, hy, hs⟩
      have e81 : fEc 81 = 0 := rfl
      have k3 : x1.toInt ≤ (k : Int) := k1
      omega
  exact ⟨p, fun _ => rfl, ⟨(fun q h => by cases h), fun q h => (by cases h), (fun f h => by cases h), (aAllc ⟨_, rfl, (fF_b (r := 133) (by decide) rfl).mpr q0⟩ (fun f h => by cases h))⟩, [], List.mem_cons_self, fun f h => (by cases h)⟩
set_option maxRecDepth 8192 in
theorem rw_ruHEfEN {K : Nat → Nat} {n : Nat} : aGho (fF K n) fa_T K n (fJX K n) ag_ruHEfEN := by
  refine aGho_of ⟨rfl, rfl⟩ ?_
  intro p σ ρ hH hX hA hM
  have hG := aAG_of hA.1 (fun i e v he hv => (hA.2 i e v he hv).1)
  clear hA
  obtain ⟨v0, v1, v2, v3, v4, v5, rfl, g0, g1, g2, g3, g4, g5⟩ := fA_6 hG
  clear hG
  obtain ⟨x0, rfl, b0, d0⟩ := aG_int g0
  dsimp only at b0 d0
  obtain ⟨x1, rfl, b1, d1⟩ := aG_int g1
  dsimp only at b1 d1
  obtain ⟨x2, rfl, b2, d2⟩ := aG_int g2
  dsimp only at b2 d2
  obtain ⟨x3, rfl, b3, d3⟩ := aG_int g3
  dsimp only at b3 d3
  obtain ⟨x4, rfl, b4, d4⟩ := aG_int g4
  dsimp only at b4 d4
  obtain ⟨x5, rfl, b5, d5⟩ := fG_ref (by decide) g5
  obtain ⟨m1, m2, m3, m4⟩ := hM
  have l0 : 0 ≤ (1 * x2.toInt + 0) + -64 := by
    obtain ⟨z, e6, e7⟩ := m3 ([(2, 1)], -64) (List.mem_of_getElem? (i := 0) rfl)
    obtain rfl : (1 * x2.toInt + 0) = z := Option.some.inj (show some (1 * x2.toInt + 0) = some z from e6)
    exact e7
  have l1 : 0 ≤ (1 * x1.toInt + (-1 * x0.toInt + 0)) + 0 := by
    obtain ⟨z, e6, e7⟩ := m3 ([(1, 1), (0, -1)], 0) (List.mem_of_getElem? (i := 1) rfl)
    obtain rfl : (1 * x1.toInt + (-1 * x0.toInt + 0)) = z := Option.some.inj (show some (1 * x1.toInt + (-1 * x0.toInt + 0)) = some z from e6)
    exact e7
  have f0 : fB K n p 8 [fI x0, fI x1, fI x2, fI x3, fI x4] σ := by
    obtain ⟨w, e6, e7⟩ := m4 (133, [0, 1, 2, 3, 4]) (List.mem_of_getElem? (i := 0) rfl)
    obtain rfl : [fI x0, fI x1, fI x2, fI x3, fI x4] = w := Option.some.inj (show some [fI x0, fI x1, fI x2, fI x3, fI x4] = some w from e6)
    exact (fF_b (r := 133) (by decide) rfl).mp e7
  have f1 : fB K n p 1 [fR x5] σ := by
    obtain ⟨w, e6, e7⟩ := m4 (17, [5]) (List.mem_of_getElem? (i := 1) rfl)
    obtain rfl : [fR x5] = w := Option.some.inj (show some [fR x5] = some w from e6)
    exact (fF_b (r := 17) (by decide) rfl).mp e7
  have f2 : fB K n p 60 [fR x5, fI x3, fI x3, fI x3] σ := by
    obtain ⟨w, e6, e7⟩ := m4 (964, [5, 3, 3, 3]) (List.mem_of_getElem? (i := 2) rfl)
    obtain rfl : [fR x5, fI x3, fI x3, fI x3] = w := Option.some.inj (show some [fR x5, fI x3, fI x3, fI x3] = some w from e6)
    exact (fF_b (r := 964) (by decide) rfl).mp e7
  clear m1 m2 m3 m4
  obtain ⟨y0_0, y0_1, y0_2, y0_3, y0_4, e8_0, c0, u0, v0⟩ := (fE_o (by decide)).mp f0
  cases e8_0
  obtain ⟨a9_1, e9_1, h1, g1⟩ := f1
  cases e9_1
  have h2 := fK_4.mp f2
  have q0 : fB K n (p) 60 [fR x5, fI x0, fI x1] σ := by
    refine fK_3.mpr ⟨x3, h2, u0, fun h hl => ?_⟩
    obtain ⟨d, d1, d2, f, y, f1, f2, ho, hy, hs⟩ := hl
    obtain rfl := fCk_u c0 ⟨d1, d2⟩
    exact v0 h f f1 (by omega) ho y hy hs
  exact ⟨p, fun _ => rfl, ⟨(fun q h => by cases h), fun q h => (by cases h), (fun f h => by cases h), (aAllc ⟨_, rfl, (fF_b (r := 963) (by decide) rfl).mpr q0⟩ (fun f h => by cases h))⟩, [], List.mem_cons_self, fun f h => (by cases h)⟩
set_option maxRecDepth 8192 in
theorem rw_ruHEkEN {K : Nat → Nat} {n : Nat} : aGho (fF K n) fa_T K n (fJX K n) ag_ruHEkEN := by
  refine aGho_of ⟨rfl, rfl⟩ ?_
  intro p σ ρ hH hX hA hM
  have hG := aAG_of hA.1 (fun i e v he hv => (hA.2 i e v he hv).1)
  clear hA
  obtain ⟨v0, v1, v2, v3, v4, v5, rfl, g0, g1, g2, g3, g4, g5⟩ := fA_6 hG
  clear hG
  obtain ⟨x0, rfl, b0, d0⟩ := aG_int g0
  dsimp only at b0 d0
  obtain ⟨x1, rfl, b1, d1⟩ := aG_int g1
  dsimp only at b1 d1
  obtain ⟨x2, rfl, b2, d2⟩ := aG_int g2
  dsimp only at b2 d2
  obtain ⟨x3, rfl, b3, d3⟩ := aG_int g3
  dsimp only at b3 d3
  obtain ⟨x4, rfl, b4, d4⟩ := aG_int g4
  dsimp only at b4 d4
  obtain ⟨x5, rfl, b5, d5⟩ := fG_ref (by decide) g5
  obtain ⟨m1, m2, m3, m4⟩ := hM
  have l0 : 0 ≤ (1 * x1.toInt + (-1 * x0.toInt + 0)) + -1 := by
    obtain ⟨z, e6, e7⟩ := m3 ([(1, 1), (0, -1)], -1) (List.mem_of_getElem? (i := 0) rfl)
    obtain rfl : (1 * x1.toInt + (-1 * x0.toInt + 0)) = z := Option.some.inj (show some (1 * x1.toInt + (-1 * x0.toInt + 0)) = some z from e6)
    exact e7
  have l1 : 0 ≤ (1 * x1.toInt + (-1 * x0.toInt + 0)) + 0 := by
    obtain ⟨z, e6, e7⟩ := m3 ([(1, 1), (0, -1)], 0) (List.mem_of_getElem? (i := 1) rfl)
    obtain rfl : (1 * x1.toInt + (-1 * x0.toInt + 0)) = z := Option.some.inj (show some (1 * x1.toInt + (-1 * x0.toInt + 0)) = some z from e6)
    exact e7
  have f0 : fB K n p 8 [fI x0, fI x1, fI x2, fI x3, fI x4] σ := by
    obtain ⟨w, e6, e7⟩ := m4 (133, [0, 1, 2, 3, 4]) (List.mem_of_getElem? (i := 0) rfl)
    obtain rfl : [fI x0, fI x1, fI x2, fI x3, fI x4] = w := Option.some.inj (show some [fI x0, fI x1, fI x2, fI x3, fI x4] = some w from e6)
    exact (fF_b (r := 133) (by decide) rfl).mp e7
  have f1 : fB K n p 1 [fR x5] σ := by
    obtain ⟨w, e6, e7⟩ := m4 (17, [5]) (List.mem_of_getElem? (i := 1) rfl)
    obtain rfl : [fR x5] = w := Option.some.inj (show some [fR x5] = some w from e6)
    exact (fF_b (r := 17) (by decide) rfl).mp e7
  have f2 : fB K n p 60 [fR x5, fI x3, fI x3, fI x3] σ := by
    obtain ⟨w, e6, e7⟩ := m4 (964, [5, 3, 3, 3]) (List.mem_of_getElem? (i := 2) rfl)
    obtain rfl : [fR x5, fI x3, fI x3, fI x3] = w := Option.some.inj (show some [fR x5, fI x3, fI x3, fI x3] = some w from e6)
    exact (fF_b (r := 964) (by decide) rfl).mp e7
  clear m1 m2 m3 m4
  obtain ⟨y0_0, y0_1, y0_2, y0_3, y0_4, e8_0, c0, u0, v0⟩ := (fE_o (by decide)).mp f0
  cases e8_0
  obtain ⟨a9_1, e9_1, h1, g1⟩ := f1
  cases e9_1
  have h2 := fK_4.mp f2
  have q0 : fB K n (p) 60 [fR x5, fI x0, fI x1] σ := by
    exact fK_3.mpr ⟨x3, h2, u0, fun h => by omega⟩
  exact ⟨p, fun _ => rfl, ⟨(fun q h => by cases h), fun q h => (by cases h), (fun f h => by cases h), (aAllc ⟨_, rfl, (fF_b (r := 963) (by decide) rfl).mpr q0⟩ (fun f h => by cases h))⟩, [], List.mem_cons_self, fun f h => (by cases h)⟩
end
section
noncomputable def y_SE_makeBest : jY := (⟨"ChessHouse$Search", "makeBest", "()V"⟩, prog_11_method_6_code, 1, none)
noncomputable def y_SE_takeBack : jY := (⟨"ChessHouse$Search", "takeBack", "()V"⟩, prog_11_method_7_code, 1, none)
noncomputable def y_CH_think : jY := (⟨"ChessHouse", "think", "()V"⟩, prog_1_method_34_code, 5, none)
noncomputable def fi_dep : List (List aDe) := [[], [(26, [0, 2, 3, 4, 5, 8], none), (27, [], none), (30, [], none)], [(9, [], some ([(2, 1)], 0)), (16, [], some ([(2, 1)], 0)), (22, [], some ([(2, 1)], 0)), (24, [], some ([(2, 1)], 0))], [], [], [], [(26, [0, 2, 3, 4, 5, 8], none), (27, [], none), (30, [], none)], [], [], [], [(88, [2, 3, 4, 5], none), (90, [], none)], [(103, [], some ([(2, 1)], 0))], [], [(88, [15, 16, 17, 18, 19, 20], none), (97, [], some ([(1, 1)], 1)), (98, [], some ([(1, 1)], 1)), (99, [], some ([(1, 1)], 1)), (100, [], some ([(1, 1)], 1)), (101, [], some ([(1, 1)], 1)), (102, [], some ([(1, 1)], 1))], [], [(88, [9, 10, 11, 12], none), (91, [], some ([(1, 64)], 0)), (92, [], some ([(1, 1)], 0)), (93, [], some ([(1, 1)], 0)), (94, [], some ([(1, 1)], 0))], [(88, [2, 3, 4, 5], none), (90, [], none)], [], [], [], [(26, [0, 2, 3, 4, 5, 8], none), (27, [], none), (30, [], none), (25, [0, 1, 2, 3, 4, 7], none), (38, [], none), (39, [], none), (42, [], none)], [(26, [0, 2, 3, 4, 5, 8], none), (27, [], none), (30, [], none), (25, [0, 1, 3, 4, 7], none), (38, [], none), (39, [], none), (42, [], none)], [], [], [], [], [(9, [], some ([(2, 1)], 0)), (16, [], some ([(2, 1)], 0)), (22, [], some ([(2, 1)], 0)), (24, [], some ([(2, 1)], 0))], [(9, [], some ([(2, 1)], 1)), (16, [], some ([(2, 1)], 1)), (22, [], some ([(2, 1)], 1)), (24, [], some ([(2, 1)], 1))], [(26, [0, 2, 3, 4, 5, 8], none), (27, [], none), (30, [], none)], [], [], [], [(9, [], some ([(2, 1)], 1)), (16, [], some ([(2, 1)], 1)), (22, [], some ([(2, 1)], 1)), (24, [], some ([(2, 1)], 1))], [(9, [], some ([(2, 1)], 0)), (16, [], some ([(2, 1)], 0)), (22, [], some ([(2, 1)], 0)), (24, [], some ([(2, 1)], 0))], [], [], [], [], [], [], [], [], [], [], [], [], [], [(9, [], some ([(1, 1)], 0)), (16, [], some ([(1, 1)], 0)), (22, [], some ([(1, 1)], 0)), (24, [], some ([(1, 1)], 0))], [], [], [], [], [], [], [], [], [], [], [], [], [(26, [1, 2], none), (28, [], none)], [(25, [3, 4, 5, 6, 7], none), (38, [], some ([(2, 1)], 1)), (39, [], some ([(2, 1)], 1)), (40, [], some ([(2, 1)], 1)), (41, [], some ([(2, 1)], 1)), (42, [], none)], [(25, [3, 4, 5, 6, 7], none), (38, [], some ([(2, 1)], 1)), (39, [], some ([(2, 1)], 1)), (40, [], some ([(2, 1)], 1)), (41, [], some ([(2, 1)], 1)), (42, [], none)], [(25, [3, 4, 5, 6, 7], none), (38, [], none), (39, [], none), (40, [], none), (41, [], none), (42, [], none)], [(25, [3, 4, 5, 6, 7], none), (38, [], none), (39, [], none), (40, [], none), (41, [], none), (42, [], none)], [(24, [], none)], [(24, [], some ([(1, 1)], 0))], [(25, [3, 4, 5, 6, 7, 1], none), (38, [], none), (39, [], none), (40, [], none), (41, [], none), (42, [], none)], [(25, [3, 4, 5, 6, 7, 1], none), (38, [], none), (39, [], none), (40, [], none), (41, [], none), (42, [], none)], [(25, [3, 4, 5, 6, 7, 1], none), (38, [], none), (39, [], none), (40, [], none), (41, [], none), (42, [], none)], [(25, [3, 4, 5, 6, 7, 1], none), (38, [], none), (39, [], none), (40, [], none), (41, [], none), (42, [], none)], [(19, [3, 4, 9], none), (20, [], none)], [(19, [3, 4, 9], none), (20, [], none)], [(19, [5], none), (21, [], none)], [(19, [5], none), (21, [], none)], [(19, [5], none), (21, [], none)], [(19, [5], none), (21, [], none)], [(9, [], some ([(2, 1)], 0)), (16, [], some ([(2, 1)], 0)), (22, [], some ([(2, 1)], 0)), (24, [], some ([(2, 1)], 0))], [(9, [], some ([(2, 1)], 0)), (16, [], some ([(2, 1)], 0)), (22, [], some ([(2, 1)], 0)), (24, [], some ([(2, 1)], 0))], [(9, [], some ([(2, 1)], 1)), (16, [], some ([(2, 1)], 1)), (22, [], some ([(2, 1)], 1)), (24, [], some ([(2, 1)], 1))], [(9, [], some ([(2, 1)], 0)), (16, [], some ([(2, 1)], 0)), (22, [], some ([(2, 1)], 0)), (24, [], some ([(2, 1)], 0))], [(9, [], some ([(2, 1)], 0)), (16, [], some ([(2, 1)], 0)), (22, [], some ([(2, 1)], 0)), (24, [], some ([(2, 1)], 0))], [(9, [], some ([(2, 1)], 0)), (16, [], some ([(2, 1)], 0)), (22, [], some ([(2, 1)], 0)), (24, [], some ([(2, 1)], 0))], [(9, [], some ([(2, 1)], 0)), (16, [], some ([(2, 1)], 0)), (22, [], some ([(2, 1)], 0)), (24, [], some ([(2, 1)], 0))], [(9, [], some ([(2, 1)], 1)), (16, [], some ([(2, 1)], 1)), (22, [], some ([(2, 1)], 1)), (24, [], some ([(2, 1)], 1))], [(9, [], some ([(2, 1)], 0)), (16, [], some ([(2, 1)], 0)), (22, [], some ([(2, 1)], 0)), (24, [], some ([(2, 1)], 0))], [(9, [], some ([(2, 1)], 0)), (16, [], some ([(2, 1)], 0)), (22, [], some ([(2, 1)], 0)), (24, [], some ([(2, 1)], 0))], [(9, [], some ([(2, 1)], 1)), (16, [], some ([(2, 1)], 1)), (22, [], some ([(2, 1)], 1)), (24, [], some ([(2, 1)], 1))], [(9, [], some ([(2, 1)], 0)), (16, [], some ([(2, 1)], 0)), (22, [], some ([(2, 1)], 0)), (24, [], some ([(2, 1)], 0))], [(9, [], some ([(2, 1)], 0)), (16, [], some ([(2, 1)], 0)), (22, [], some ([(2, 1)], 0)), (24, [], some ([(2, 1)], 0))], [(9, [], some ([(2, 1)], 1)), (16, [], some ([(2, 1)], 1)), (22, [], some ([(2, 1)], 1)), (24, [], some ([(2, 1)], 1))], [(9, [], some ([(2, 1)], 0)), (16, [], some ([(2, 1)], 0)), (22, [], some ([(2, 1)], 0)), (24, [], some ([(2, 1)], 0))], [(9, [], some ([(2, 1)], 1)), (16, [], some ([(2, 1)], 1)), (22, [], some ([(2, 1)], 1)), (24, [], some ([(2, 1)], 1))], [(9, [], some ([(2, 1)], 0)), (16, [], some ([(2, 1)], 0)), (22, [], some ([(2, 1)], 0)), (24, [], some ([(2, 1)], 0))], [(9, [], some ([(2, 1)], 0)), (16, [], some ([(2, 1)], 0)), (22, [], some ([(2, 1)], 0)), (24, [], some ([(2, 1)], 0))], [(9, [], some ([(2, 1)], 1)), (16, [], some ([(2, 1)], 1)), (22, [], some ([(2, 1)], 1)), (24, [], some ([(2, 1)], 1))], [], [(9, [], some ([(2, 1)], 0)), (16, [], some ([(2, 1)], 0)), (22, [], some ([(2, 1)], 0)), (24, [], some ([(2, 1)], 0))], [(9, [], some ([(2, 1)], 1)), (16, [], some ([(2, 1)], 1)), (22, [], some ([(2, 1)], 1)), (24, [], some ([(2, 1)], 1))], [], [(25, [3, 4, 5, 6, 7, 0, 1, 2], none), (38, [], none), (39, [], none), (40, [], none), (41, [], none), (42, [], none), (26, [0, 2, 3, 4, 5, 8], none), (27, [], none), (30, [], none)], [(25, [3, 4, 5, 6, 7, 1], none), (38, [], none), (39, [], none), (40, [], none), (41, [], none), (42, [], none), (26, [0, 2, 3, 4, 5, 8], none), (27, [], none), (30, [], none)], [(25, [3, 12, 1], none), (38, [], none), (47, [], none)], [(25, [3, 12, 1], none), (38, [], none), (47, [], none)], [(25, [3, 1], none), (38, [], none)], [(25, [3, 1, 4], none), (38, [], none), (39, [], none)], [(25, [3, 5, 6, 1], none), (38, [], none), (40, [], none), (41, [], none)], [(25, [3, 4, 5, 6, 7], none), (38, [], none), (39, [], none), (40, [], none), (41, [], none), (42, [], none)], [(25, [3, 12, 1], none), (38, [], none), (47, [], none)], [(25, [3, 1, 4], none), (38, [], none), (39, [], none)], [(25, [4], none), (39, [], none)], [], [], [(25, [6], none), (41, [], none)], [(19, [7], none)], [(19, [7], none)], [(25, [3, 4, 5, 6, 7, 1], none), (38, [], none), (39, [], none), (40, [], none), (41, [], none), (42, [], none), (26, [0, 2, 3, 4, 5, 8], none), (27, [], none), (30, [], none)], [(25, [3, 5, 6, 1], none), (38, [], none), (40, [], none), (41, [], none)], [(25, [3, 5], none), (38, [], none), (40, [], none)], [(25, [3, 1], none), (38, [], none)], [(25, [3, 5], none), (38, [], none), (40, [], none)], [(11, [9, 10, 11, 2], none), (12, [], none), (25, [3, 4, 5, 6, 7, 0, 1, 2], none), (38, [], none), (39, [], none), (40, [], none), (41, [], none), (42, [], none), (26, [0, 2, 3, 4, 5, 8], none), (27, [], none), (30, [], none)], [(11, [2], none), (12, [], none)], [(25, [2], none)], [(25, [5], none), (40, [], none)], [(25, [3, 4, 5, 6, 7, 0, 1, 2], none), (38, [], none), (39, [], none), (40, [], none), (41, [], none), (42, [], none), (26, [0, 2, 3, 4, 5, 8], none), (27, [], none), (30, [], none)], [(0, [10, 11], none), (25, [3, 4, 5, 6, 7, 0, 1, 2], none), (38, [], none), (39, [], none), (40, [], none), (41, [], none), (42, [], none), (26, [0, 2, 3, 4, 5, 8], none), (27, [], none), (30, [], none)], [(26, [0, 2, 3, 4, 5, 8], none), (27, [], none), (30, [], none)], [(26, [0, 2, 3, 4, 5, 8], none), (27, [], none), (30, [], none)], [(11, [2], none), (12, [], none)], [(26, [0], none), (27, [], none)], [(6, [3, 4], none), (1, [], none)], [(6, [3, 4, 2], none), (1, [], none)], [(6, [3, 4, 2], none), (1, [], none)], [(6, [3], none), (1, [], none)], [(27, [], some ([(1, 1)], 0))], [(27, [], none)], [(26, [0], none), (27, [], none)], [(26, [0, 3], none), (27, [], none)], [(26, [0, 3], none), (27, [], none)], [(26, [0, 3], none), (27, [], none)], [(26, [0, 3], none), (27, [], none)], [(26, [0, 3], none), (27, [], none)], [(26, [0, 4, 2], none), (27, [], none)], [(26, [0], none), (27, [], none)], [(27, [], none)], [(26, [0], none), (27, [], none)], [(26, [0], none), (27, [], none)], [(26, [0, 3], none), (27, [], none)], [(26, [0, 4, 2], none), (27, [], none)], [(26, [3], none)], [(26, [3], none)], [(26, [3], none)], [(26, [3], none)], [(26, [0, 8], none), (27, [], none), (30, [], none)], [(26, [0], none), (27, [], none)], [(26, [0], none), (27, [], none)], [(26, [0], none), (27, [], none)], [(30, [], none)], [(30, [], none)], [(26, [0], none), (27, [], none)], [(26, [0], none), (27, [], none)], [(26, [0], none), (27, [], none)], [(26, [0], none), (27, [], none)], [(26, [0], none), (27, [], none)], [(26, [0], none), (27, [], none)], [(26, [0], none), (27, [], none)], [(26, [0], none), (27, [], none)], [(26, [0], none), (27, [], none)], [(26, [0], none), (27, [], none)], [(26, [0], none), (27, [], none)], [(26, [0], none), (27, [], none)], [(26, [0], none), (27, [], none)], [(26, [0], none), (27, [], none)], [(26, [0], none), (27, [], none)], [(26, [0], none), (27, [], none)], [(26, [0], none), (27, [], none)], [(26, [0], none), (27, [], none)], [(26, [0], none), (27, [], none)], [(26, [0], none), (27, [], none)], [(26, [0], none), (27, [], none)], [(26, [0], none), (27, [], none)], [(26, [0], none), (27, [], none)], [(26, [0], none), (27, [], none)], [(26, [0], none), (27, [], none)], [(26, [0], none), (27, [], none)], [(26, [0], none), (27, [], none)], [(26, [0], none), (27, [], none)], [(26, [0], none), (27, [], none)], [(26, [0], none), (27, [], none)], [(26, [0], none), (27, [], none)], [(26, [0], none), (27, [], none)], [(26, [0], none), (27, [], none)], [], [], [], [], [], [], [], [(26, [0], none), (27, [], none)], [(26, [0], none), (27, [], none)], [(26, [0], none), (27, [], none)], [(26, [0], none), (27, [], none)], [], [(26, [0], none), (27, [], none)], [(26, [0], none), (27, [], none)], [(26, [0], none), (27, [], none)], [], [], [], [], [], [], [], [], [], [], [], [], [], [], [], [], [], [], [], [], [], [], [], [], [], [], [], [], [], [], [], [], [(15, [2], none), (17, [], some ([], 1))], [(15, [2], none), (17, [], some ([], 2))], [(15, [2], none), (17, [], some ([], 3))], [], [], [], [], [], [], [], [], [], [], [], [], [], [], [], [], [], [], [], [], [], [], [], [], [], [], [], [], [], [], [], [], [], [], [], [], [], [], [], [], [], [], [], [], [], [], [], [], [], [], [], [], [], [], [], [], [], [], [], [], [], [], [], [], [], [], [], [], [], [], [], [], [], [], [], [], [], [], [], [], [], [], [], [], [], [], [], [], [], [], [], [], [], [], [], [], [], [], [], [], [], [], [], [], [], [], [], [], [], [], [], [], [], [], [], [], [], [], [], [], [], [], [], [], [], [], [], [], [], [], [], [], [], [], [], [], [], [], [], [], [], [], [], [], [], [], [], [], [], [], [], [], [], [], [], [], [], [(15, [3], none), (18, [], none)], [(15, [3], none), (18, [], none)], [(15, [3], none), (18, [], none)], [(26, [0, 2, 3, 4, 5, 8], none), (27, [], none), (30, [], none), (15, [2, 3], none), (17, [], none), (18, [], none)], [(9, [], some ([(1, 1)], 0)), (16, [], some ([(1, 1)], 0)), (22, [], some ([(1, 1)], 0)), (24, [], some ([(1, 1)], 0))], [(9, [], some ([(1, 1)], 1)), (16, [], some ([(1, 1)], 1)), (22, [], some ([(1, 1)], 1)), (24, [], some ([(1, 1)], 1))], [(9, [], some ([(2, 1)], 0)), (16, [], some ([(2, 1)], 0)), (22, [], some ([(2, 1)], 0)), (24, [], some ([(2, 1)], 0))], [], [], [(26, [0, 2, 3, 4, 5, 8], none), (27, [], none), (30, [], none), (15, [2, 3], none), (17, [], none), (18, [], none)], [], [], [], [], [], [], [], [], [], [], [], [], [], [], [], [], [], [], [], [], [], [], [], [], [], [], [], [], [], []]
noncomputable def ag_ruSUs0 : aCon := (y_BO_inCheck, false, 5, ([(.inr (some (.inl (false, 15))), none), (.inr (some (.inl (false, 18))), none), (.inl (0, 0), none), (.inr none, none), (.inl (0, 32767), none)], ([(0, 3, 1)], [], [], [(66, [4, 3])])), (none, [], ([], [], [], [(71941, [1, 2, 3, 0, 4])]), [[]]), ([], []), { frames := 0, cells := 0, slots := 0, locals := 0 })
noncomputable def ag_ruSUk0 : aCon := (y_BO_inCheck, false, 5, ([(.inr (some (.inl (false, 15))), none), (.inr (some (.inl (false, 18))), none), (.inl (1, 2), none), (.inr none, none), (.inl (0, 32767), none)], ([(0, 3, 1)], [], [], [(6402, [0, 4])])), (none, [], ([], [], [], [(71941, [1, 2, 3, 0, 4])]), [[]]), ([], []), { frames := 0, cells := 0, slots := 0, locals := 0 })
noncomputable def ag_ruMDs0 : aCon := (y_BO_inCheck, false, 4, ([(.inr (some (.inl (false, 15))), none), (.inr (some (.inl (false, 17))), none), (.inl (0, 0), none), (.inl (0, 32767), none)], ([(0, 2, 1)], [], [], [])), (none, [], ([], [], [], [(69381, [1, 2, 3, 0, 3])]), [[]]), ([], []), { frames := 0, cells := 0, slots := 0, locals := 0 })
noncomputable def ag_ruSUs1 : aCon := (y_BO_inCheck, false, 5, ([(.inr (some (.inl (false, 15))), none), (.inr (some (.inl (false, 18))), none), (.inl (1, 1), none), (.inr none, none), (.inl (0, 32767), none)], ([(0, 3, 1)], [], [], [(66, [4, 3])])), (none, [], ([], [], [], [(71957, [1, 2, 3, 0, 4])]), [[]]), ([], []), { frames := 0, cells := 0, slots := 0, locals := 0 })
noncomputable def ag_ruSUk1 : aCon := (y_BO_inCheck, false, 5, ([(.inr (some (.inl (false, 15))), none), (.inr (some (.inl (false, 18))), none), (.inl (2, 2), none), (.inr none, none), (.inl (0, 32767), none)], ([(0, 3, 1)], [], [], [(6418, [0, 4])])), (none, [], ([], [], [], [(71957, [1, 2, 3, 0, 4])]), [[]]), ([], []), { frames := 0, cells := 0, slots := 0, locals := 0 })
noncomputable def ag_ruMDs1 : aCon := (y_BO_inCheck, false, 4, ([(.inr (some (.inl (false, 15))), none), (.inr (some (.inl (false, 17))), none), (.inl (1, 1), none), (.inl (0, 32767), none)], ([(0, 2, 1)], [], [], [])), (none, [], ([], [], [], [(69397, [1, 2, 3, 0, 3])]), [[]]), ([], []), { frames := 0, cells := 0, slots := 0, locals := 0 })
noncomputable def ag_ruSUs2 : aCon := (y_BO_inCheck, false, 5, ([(.inr (some (.inl (false, 15))), none), (.inr (some (.inl (false, 18))), none), (.inl (2, 2), none), (.inr none, none), (.inl (0, 32767), none)], ([(0, 3, 1)], [], [], [(66, [4, 3])])), (none, [], ([], [], [], [(71973, [1, 2, 3, 0, 4])]), [[]]), ([], []), { frames := 0, cells := 0, slots := 0, locals := 0 })
noncomputable def ag_ruMDs2 : aCon := (y_BO_inCheck, false, 4, ([(.inr (some (.inl (false, 15))), none), (.inr (some (.inl (false, 17))), none), (.inl (2, 2), none), (.inl (0, 32767), none)], ([(0, 2, 1)], [], [], [])), (none, [], ([], [], [], [(69413, [1, 2, 3, 0, 3])]), [[]]), ([], []), { frames := 0, cells := 0, slots := 0, locals := 0 })
noncomputable def ag_ruLNp0 : aCon := (y_BO_inCheck, false, 3, ([(.inr (some (.inl (false, 15))), none), (.inr (some (.inl (false, 26))), none), (.inl (0, 0), none)], ([], [], [], [(17, [1])])), (none, [], ([], [], [], [(6450, [0, 1])]), [[]]), ([], []), { frames := 0, cells := 0, slots := 0, locals := 0 })
noncomputable def ag_ruLNu0 : aCon := (y_BO_inCheck, false, 3, ([(.inr (some (.inl (false, 15))), none), (.inr (some (.inl (false, 26))), none), (.inr (some (.inl (false, 17))), none)], ([(0, 2, 2)], [], [], [(6450, [0, 1])])), (none, [], ([], [], [], [(17, [1])]), [[]]), ([], []), { frames := 0, cells := 0, slots := 0, locals := 0 })
noncomputable def ag_ruLNb0 : aCon := (y_BO_inCheck, false, 4, ([(.inr (some (.inl (false, 15))), none), (.inr (some (.inl (false, 26))), none), (.inl (0, 32767), none), (.inl (0, 0), none)], ([], [], [], [(17, [1]), (49, [2])])), (none, [], ([], [], [], [(6547, [0, 1, 2])]), [[]]), ([], []), { frames := 0, cells := 0, slots := 0, locals := 0 })
noncomputable def ag_ruLNv0 : aCon := (y_BO_inCheck, false, 4, ([(.inr (some (.inl (false, 15))), none), (.inr (some (.inl (false, 26))), none), (.inl (0, 32767), none), (.inr (some (.inl (false, 17))), none)], ([(0, 2, 3)], [], [], [(6547, [0, 1, 2])])), (none, [], ([], [], [], [(17, [1]), (49, [2])]), [[]]), ([], []), { frames := 0, cells := 0, slots := 0, locals := 0 })
noncomputable def ag_ruLNp1 : aCon := (y_BO_inCheck, false, 4, ([(.inr (some (.inl (false, 15))), none), (.inr (some (.inl (false, 26))), none), (.inl (0, 32767), none), (.inl (1, 1), none)], ([], [], [], [(17, [1, 2]), (49, [2]), (6402, [0, 2]), (3842, [0, 2])])), (none, [], ([], [], [], [(6451, [0, 1, 0])]), [[]]), ([], []), { frames := 0, cells := 0, slots := 0, locals := 0 })
noncomputable def ag_ruLNu1 : aCon := (y_BO_inCheck, false, 4, ([(.inr (some (.inl (false, 15))), none), (.inr (some (.inl (false, 26))), none), (.inl (0, 32767), none), (.inr (some (.inl (false, 17))), none)], ([(0, 2, 3)], [(3, ([], 0), 2)], [], [(6451, [0, 1, 0])])), (none, [], ([], [], [], [(17, [1, 2]), (49, [2]), (6402, [0, 2]), (3842, [0, 2])]), [[]]), ([], []), { frames := 0, cells := 0, slots := 0, locals := 0 })
noncomputable def ag_ruLNb1 : aCon := (y_BO_inCheck, false, 5, ([(.inr (some (.inl (false, 15))), none), (.inr (some (.inl (false, 26))), none), (.inl (0, 32767), none), (.inl (0, 32767), none), (.inl (1, 1), none)], ([], [], [], [(17, [1, 2]), (49, [2]), (6402, [0, 2]), (3842, [0, 2]), (49, [3, 2])])), (none, [], ([], [], [], [(6548, [0, 1, 3, 0])]), [[]]), ([], []), { frames := 0, cells := 0, slots := 0, locals := 0 })
noncomputable def ag_ruLNv1 : aCon := (y_BO_inCheck, false, 5, ([(.inr (some (.inl (false, 15))), none), (.inr (some (.inl (false, 26))), none), (.inl (0, 32767), none), (.inl (0, 32767), none), (.inr (some (.inl (false, 17))), none)], ([(0, 2, 4)], [(4, ([], 0), 2)], [], [(6548, [0, 1, 3, 0])])), (none, [], ([], [], [], [(17, [1, 2]), (49, [2]), (6402, [0, 2]), (3842, [0, 2]), (49, [3, 2])]), [[]]), ([], []), { frames := 0, cells := 0, slots := 0, locals := 0 })
noncomputable def ag_ruLNp2 : aCon := (y_BO_inCheck, false, 5, ([(.inr (some (.inl (false, 15))), none), (.inr (some (.inl (false, 26))), none), (.inl (0, 32767), none), (.inl (0, 32767), none), (.inl (2, 2), none)], ([], [], [], [(17, [1, 3, 2]), (49, [2]), (6402, [0, 2]), (3842, [0, 2]), (49, [3, 2]), (6418, [0, 3, 2]), (3858, [0, 3])])), (none, [], ([], [], [], [(6452, [0, 1, 0, 0])]), [[]]), ([], []), { frames := 0, cells := 0, slots := 0, locals := 0 })
noncomputable def ag_ruLNu2 : aCon := (y_BO_inCheck, false, 5, ([(.inr (some (.inl (false, 15))), none), (.inr (some (.inl (false, 26))), none), (.inl (0, 32767), none), (.inl (0, 32767), none), (.inr (some (.inl (false, 17))), none)], ([(0, 2, 4)], [(4, ([], 0), 2), (4, ([], 1), 3)], [], [(6452, [0, 1, 0, 0])])), (none, [], ([], [], [], [(17, [1, 3, 2]), (49, [2]), (6402, [0, 2]), (3842, [0, 2]), (49, [3, 2]), (6418, [0, 3, 2]), (3858, [0, 3])]), [[]]), ([], []), { frames := 0, cells := 0, slots := 0, locals := 0 })
noncomputable def ag_ruLNb2 : aCon := (y_BO_inCheck, false, 6, ([(.inr (some (.inl (false, 15))), none), (.inr (some (.inl (false, 26))), none), (.inl (0, 32767), none), (.inl (0, 32767), none), (.inl (0, 32767), none), (.inl (2, 2), none)], ([], [], [], [(17, [1, 3, 2]), (49, [2]), (6402, [0, 2]), (3842, [0, 2]), (49, [3, 2]), (6418, [0, 3, 2]), (3858, [0, 3]), (49, [4, 3, 2])])), (none, [], ([], [], [], [(6549, [0, 1, 4, 0, 0])]), [[]]), ([], []), { frames := 0, cells := 0, slots := 0, locals := 0 })
noncomputable def ag_ruLNv2 : aCon := (y_BO_inCheck, false, 6, ([(.inr (some (.inl (false, 15))), none), (.inr (some (.inl (false, 26))), none), (.inl (0, 32767), none), (.inl (0, 32767), none), (.inl (0, 32767), none), (.inr (some (.inl (false, 17))), none)], ([(0, 2, 5)], [(5, ([], 0), 2), (5, ([], 1), 3)], [], [(6549, [0, 1, 4, 0, 0])])), (none, [], ([], [], [], [(17, [1, 3, 2]), (49, [2]), (6402, [0, 2]), (3842, [0, 2]), (49, [3, 2]), (6418, [0, 3, 2]), (3858, [0, 3]), (49, [4, 3, 2])]), [[]]), ([], []), { frames := 0, cells := 0, slots := 0, locals := 0 })
noncomputable def ag_ruLNp3 : aCon := (y_BO_inCheck, false, 6, ([(.inr (some (.inl (false, 15))), none), (.inr (some (.inl (false, 26))), none), (.inl (0, 32767), none), (.inl (0, 32767), none), (.inl (0, 32767), none), (.inl (3, 3), none)], ([], [], [], [(17, [1, 4, 3, 2]), (49, [2]), (6402, [0, 2]), (3842, [0, 2]), (49, [3, 2]), (6418, [0, 3, 2]), (3858, [0, 3]), (49, [4, 3, 2]), (6434, [0, 4, 3, 2]), (3874, [0, 4])])), (none, [], ([], [], [], [(6453, [0, 1, 0, 0, 0])]), [[]]), ([], []), { frames := 0, cells := 0, slots := 0, locals := 0 })
noncomputable def ag_ruLNu3 : aCon := (y_BO_inCheck, false, 6, ([(.inr (some (.inl (false, 15))), none), (.inr (some (.inl (false, 26))), none), (.inl (0, 32767), none), (.inl (0, 32767), none), (.inl (0, 32767), none), (.inr (some (.inl (false, 17))), none)], ([(0, 2, 5)], [(5, ([], 0), 2), (5, ([], 1), 3), (5, ([], 2), 4)], [], [(6453, [0, 1, 0, 0, 0])])), (none, [], ([], [], [], [(17, [1, 4, 3, 2]), (49, [2]), (6402, [0, 2]), (3842, [0, 2]), (49, [3, 2]), (6418, [0, 3, 2]), (3858, [0, 3]), (49, [4, 3, 2]), (6434, [0, 4, 3, 2]), (3874, [0, 4])]), [[]]), ([], []), { frames := 0, cells := 0, slots := 0, locals := 0 })
noncomputable def ag_ruSUu10 : aCon := (y_BO_inCheck, false, 5, ([(.inr (some (.inl (false, 15))), none), (.inr (some (.inl (false, 18))), none), (.inl (0, 32767), none), (.inr none, none), (.inl (0, 0), none)], ([(0, 3, 1)], [(1, ([(4, 1)], 0), 3)], [], [(6402, [0, 2])])), (none, [], ([], [], [], [(66, [2, 3])]), [[]]), ([], []), { frames := 0, cells := 0, slots := 0, locals := 0 })
noncomputable def ag_ruEQ10 : aCon := (y_BO_inCheck, false, 6, ([(.inr (some (.inl (false, 15))), none), (.inr (some (.inl (false, 26))), none), (.inr (some (.inl (false, 17))), none), (.inl (0, 0), none), (.inl (0, 32767), none), (.inl (0, 32767), none)], ([(0, 2, 2)], [(2, ([], 0), 5), (2, ([(3, 1)], 0), 4)], [], [(17, [1, 5]), (49, [5]), (6402, [0, 5])])), (none, [], ([], [], [], [(17, [1, 4]), (49, [4]), (6402, [0, 4])]), [[]]), ([], []), { frames := 0, cells := 0, slots := 0, locals := 0 })
noncomputable def ag_ruSUu20 : aCon := (y_BO_inCheck, false, 5, ([(.inr (some (.inl (false, 15))), none), (.inr (some (.inl (false, 18))), none), (.inl (0, 32767), none), (.inr none, none), (.inl (1, 1), none)], ([(0, 3, 1)], [(1, ([(4, 1)], 0), 3)], [], [(6418, [0, 2])])), (none, [], ([], [], [], [(66, [2, 3])]), [[]]), ([], []), { frames := 0, cells := 0, slots := 0, locals := 0 })
noncomputable def ag_ruEQ20 : aCon := (y_BO_inCheck, false, 7, ([(.inr (some (.inl (false, 15))), none), (.inr (some (.inl (false, 26))), none), (.inr (some (.inl (false, 17))), none), (.inl (1, 1), none), (.inl (0, 32767), none), (.inl (0, 32767), none), (.inl (0, 32767), none)], ([(0, 2, 2)], [(2, ([], 1), 5), (2, ([(3, 1)], 0), 4)], [], [(17, [1, 5, 6]), (49, [5, 6]), (6418, [0, 5, 6])])), (none, [], ([], [], [], [(17, [1, 4, 6]), (49, [4, 6]), (6418, [0, 4, 6])]), [[]]), ([], []), { frames := 0, cells := 0, slots := 0, locals := 0 })
noncomputable def ag_ruSUu30 : aCon := (y_BO_inCheck, false, 5, ([(.inr (some (.inl (false, 15))), none), (.inr (some (.inl (false, 18))), none), (.inl (0, 32767), none), (.inr none, none), (.inl (2, 2), none)], ([(0, 3, 1)], [(1, ([(4, 1)], 0), 3)], [], [(6434, [0, 2])])), (none, [], ([], [], [], [(66, [2, 3])]), [[]]), ([], []), { frames := 0, cells := 0, slots := 0, locals := 0 })
noncomputable def ag_ruEQ30 : aCon := (y_BO_inCheck, false, 8, ([(.inr (some (.inl (false, 15))), none), (.inr (some (.inl (false, 26))), none), (.inr (some (.inl (false, 17))), none), (.inl (2, 2), none), (.inl (0, 32767), none), (.inl (0, 32767), none), (.inl (0, 32767), none), (.inl (0, 32767), none)], ([(0, 2, 2)], [(2, ([], 2), 5), (2, ([(3, 1)], 0), 4)], [], [(17, [1, 5, 6, 7]), (49, [5, 6, 7]), (6434, [0, 5, 6, 7])])), (none, [], ([], [], [], [(17, [1, 4, 6, 7]), (49, [4, 6, 7]), (6434, [0, 4, 6, 7])]), [[]]), ([], []), { frames := 0, cells := 0, slots := 0, locals := 0 })
end
section
noncomputable def y_EN_distanceOf : jY := (⟨"ChessHouse$Endings", "distanceOf", "(LChessHouse$Board;I)I"⟩, prog_6_method_5_code, 5, (some .int))
noncomputable def y_EN_look : jY := (⟨"ChessHouse$Endings", "look", "(LChessHouse$Board;)V"⟩, prog_6_method_3_code, 13, none)
noncomputable def ag_ruK7 : aCon := (y_BO_inCheck, false, 5, ([(.inr (some (.inl (false, 26))), none), (.inl (0, 63), none), (.inl (0, 7), none), (.inl (0, 15), none), (.inl (0, 1), none), (.inr (some (.inl (false, 27))), none)], ([(0, 0, 5)], [(5, ([(1, 1)], 0), 3)], [([(3, 1), (2, -1), (4, -8)], 0), ([(3, -1), (2, 1), (4, 8)], 0)], [(17, [0])])), (none, [], ([], [], [([(2, -1)], 6)], []), [[]]), ([], []), { frames := 0, cells := 0, slots := 0, locals := 0 })
noncomputable def ag_ruP1 : aCon := (y_BO_inCheck, false, 5, ([(.inr (some (.inl (false, 26))), none), (.inl (0, 63), none), (.inl (0, 7), none), (.inl (0, 15), none), (.inl (0, 1), none), (.inr (some (.inl (false, 27))), none)], ([(0, 0, 5)], [(5, ([(1, 1)], 0), 3)], [([(3, 1), (2, -1), (4, -8)], 0), ([(3, -1), (2, 1), (4, 8)], 0), ([(2, 1)], -1), ([(2, -1)], 1)], [(17, [0])])), (none, [], ([], [], [([(1, 1)], -8), ([(1, -1)], 55)], []), [[]]), ([], []), { frames := 0, cells := 0, slots := 0, locals := 0 })
noncomputable def ag_ruP8 : aCon := (y_BO_inCheck, false, 1, ([(.inl (-2147483648, 2147483647), none)], ([], [], [([(0, 1)], -8), ([(0, -1)], 55)], [])), (none, [], ([], [], [([(0, 1)], -8), ([(0, -1)], 55)], []), [[]]), ([], []), { frames := 0, cells := 0, slots := 0, locals := 0 })
noncomputable def ag_ruKT0 : aCon := (y_BO_inCheck, false, 1, ([(.inl (-2147483648, 2147483647), none)], ([], [], [([(0, 1)], 0), ([(0, -1)], 0)], [])), (none, [], ([], [], [([(0, 1)], 0), ([(0, -1)], 0)], []), [[]]), ([], []), { frames := 0, cells := 0, slots := 0, locals := 0 })
noncomputable def ag_ruKT1 : aCon := (y_BO_inCheck, false, 1, ([(.inl (-2147483648, 2147483647), none)], ([], [], [([(0, 1)], -1), ([(0, -1)], 1)], [])), (none, [], ([], [], [([(0, 1)], -1), ([(0, -1)], 1)], []), [[]]), ([], []), { frames := 0, cells := 0, slots := 0, locals := 0 })
noncomputable def ag_ruKT2 : aCon := (y_BO_inCheck, false, 1, ([(.inl (-2147483648, 2147483647), none)], ([], [], [([(0, 1)], -2), ([(0, -1)], 6)], [])), (none, [], ([], [], [([(0, 1)], -2), ([(0, -1)], 6)], []), [[]]), ([], []), { frames := 0, cells := 0, slots := 0, locals := 0 })
noncomputable def ag_ruRTS : aCon := (y_BO_inCheck, false, 2, ([(.inr (some (.inl (false, 26))), none), (.inl (0, 15), none)], ([(0, 3, 1)], [], [], [(17, [0])])), (none, [], ([], [], [], [(6529, [1])]), [[]]), ([], []), { frames := 0, cells := 0, slots := 0, locals := 0 })
noncomputable def ag_ruRT0 : aCon := (y_BO_inCheck, false, 3, ([(.inr (some (.inl (false, 26))), none), (.inl (0, 0), none), (.inr (some (.inl (false, 23))), none)], ([], [], [], [(17, [0])])), (none, [], ([], [], [], [(524307, [0, 1, 0, 2])]), [[]]), ([], []), { frames := 0, cells := 0, slots := 0, locals := 0 })
noncomputable def ag_ruRT1 : aCon := (y_BO_inCheck, false, 3, ([(.inr (some (.inl (false, 26))), none), (.inl (0, 15), none), (.inr (some (.inl (false, 23))), none)], ([], [], [], [(17, [0, 2]), (6529, [1])])), (none, [], ([], [], [], [(524307, [0, 1, 0])]), [[]]), ([], []), { frames := 0, cells := 0, slots := 0, locals := 0 })
noncomputable def ag_ruLOx : aCon := (y_BO_inCheck, false, 2, ([(.inl (-1, 32767), none), (.inr (some (.inl (false, 23))), none)], ([], [], [], [(737, [0, 1])])), (none, [], ([], [], [], [(737, [0])]), [[]]), ([], []), { frames := 0, cells := 0, slots := 0, locals := 0 })
noncomputable def ag_ruLTa : aCon := (y_BO_inCheck, false, 3, ([(.inr (some (.inl (false, 24))), none), (.inl (0, 0), none), (.inr (some (.inl (false, 26))), none)], ([], [], [], [(17, [2])])), (none, [], ([], [], [], [(6466, [0, 1])]), [[]]), ([], []), { frames := 0, cells := 0, slots := 0, locals := 0 })
noncomputable def ag_ruLTs : aCon := (y_BO_inCheck, false, 8, ([(.inr (some (.inl (false, 24))), none), (.inl (0, 1728), none), (.inl (0, 32767), none), (.inl (0, 32767), none), (.inl (0, 511), none), (.inl (0, 63), none), (.inl (0, 7), none), (.inl (0, 1728), none)], ([], [], [([(2, 1), (3, -1), (4, 128), (5, -1024), (6, 8192)], -29120), ([(2, -1), (3, 1), (4, -128), (5, 1024), (6, -8192)], 29120), ([(3, 1), (4, -64)], 0), ([(3, -1), (4, 64)], 63), ([(3, 1), (5, -512)], 0), ([(3, -1), (5, 512)], 511), ([(3, 1), (6, -4096)], 0), ([(3, -1), (6, 4096)], 4095)], [(6466, [0, 1]), (49, [3]), (35, [0, 1, 7])])), (none, [], ([], [], [], [(72021, [0, 1, 2, 0, 1]), (72038, [0, 1, 2, 0, 1, 7])]), [[]]), ([], []), { frames := 0, cells := 0, slots := 0, locals := 0 })
noncomputable def ag_ruLTn : aCon := (y_BO_inCheck, false, 4, ([(.inr (some (.inl (false, 24))), none), (.inl (0, 1728), none), (.inl (0, 1728), none), (.inl (0, 1728), none)], ([], [], [([(2, 1), (1, -1)], -1), ([(2, -1), (1, 1)], 1)], [(6482, [0, 1]), (6499, [0, 1, 3])])), (none, [], ([], [], [], [(6466, [0, 2]), (35, [0, 2, 3])]), [[]]), ([], []), { frames := 0, cells := 0, slots := 0, locals := 0 })
noncomputable def ag_ruLTw : aCon := (y_BO_inCheck, false, 3, ([(.inr (some (.inl (false, 24))), none), (.inl (0, 1728), none), (.inl (0, 1728), none)], ([], [], [([(1, 1), (2, -1)], 0)], [(6466, [0, 1])])), (none, [], ([], [], [], [(6466, [0, 2])]), [[]]), ([], []), { frames := 0, cells := 0, slots := 0, locals := 0 })
noncomputable def ag_ruXMl : aCon := (y_BO_inCheck, false, 4, ([(.inr (some (.inl (false, 24))), none), (.inl (0, 1728), none), (.inl (0, 1728), none), (.inl (0, 32767), none)], ([], [(0, ([(2, 1)], 0), 3)], [([(1, 1), (2, -1)], -1)], [(6466, [0, 1])])), (none, [], ([], [], [], [(6513, [3])]), [[]]), ([], []), { frames := 0, cells := 0, slots := 0, locals := 0 })
noncomputable def ag_ruXMp : aCon := (y_BO_inCheck, false, 4, ([(.inr (some (.inl (false, 24))), none), (.inl (0, 1728), none), (.inl (0, 1728), none), (.inl (0, 32767), none)], ([], [(0, ([(2, 1)], -1), 3)], [([(2, 1)], -1), ([(1, 1), (2, -1)], 0)], [(6466, [0, 1])])), (none, [], ([], [], [], [(6513, [3])]), [[]]), ([], []), { frames := 0, cells := 0, slots := 0, locals := 0 })
noncomputable def ag_ruLTt : aCon := (y_BO_inCheck, false, 4, ([(.inr (some (.inl (false, 24))), none), (.inl (0, 1728), none), (.inl (0, 1728), none), (.inl (0, 32767), none)], ([], [], [], [(6466, [0, 1]), (6513, [3])])), (none, [], ([], [], [], [(72005, [0, 2, 3, 0, 1])]), [[]]), ([], []), { frames := 0, cells := 0, slots := 0, locals := 0 })
noncomputable def ag_ruXMm : aCon := (y_BO_inCheck, false, 5, ([(.inl (0, 32767), none), (.inl (0, 32767), none), (.inl (0, 511), none), (.inl (0, 63), none), (.inl (0, 7), none)], ([], [], [([(0, 1), (1, -1), (2, 128), (3, -1024), (4, 8192)], -29120), ([(0, -1), (1, 1), (2, -128), (3, 1024), (4, -8192)], 29120), ([(1, 1), (2, -64)], 0), ([(1, -1), (2, 64)], 63), ([(1, 1), (3, -512)], 0), ([(1, -1), (3, 512)], 511), ([(1, 1), (4, -4096)], 0), ([(1, -1), (4, 4096)], 4095)], [(6513, [1])])), (none, [], ([], [], [], [(49, [0])]), [[]]), ([], []), { frames := 0, cells := 0, slots := 0, locals := 0 })
noncomputable def ag_ruM0a : aCon := (y_BO_inCheck, false, 3, ([(.inr (some (.inl (false, 24))), none), (.inl (0, 0), none), (.inl (0, 1728), none)], ([], [], [], [(35, [0, 1, 2])])), (none, [], ([], [], [], [(1058, [0, 2])]), [[]]), ([], []), { frames := 0, cells := 0, slots := 0, locals := 0 })
noncomputable def ag_ruM0m : aCon := (y_BO_inCheck, false, 4, ([(.inr (some (.inl (false, 24))), none), (.inl (0, 1728), none), (.inl (0, 1728), none), (.inl (0, 32767), none)], ([], [(0, ([(2, 1)], 0), 3)], [([(1, 1), (2, -1)], -1)], [(1058, [0, 1])])), (none, [], ([], [], [], [(49, [3])]), [[]]), ([], []), { frames := 0, cells := 0, slots := 0, locals := 0 })
noncomputable def ag_ruM0s : aCon := (y_BO_inCheck, false, 4, ([(.inr (some (.inl (false, 24))), none), (.inl (0, 1728), none), (.inl (0, 1728), none), (.inl (0, 32767), none)], ([], [], [], [(1058, [0, 1]), (49, [3])])), (none, [], ([], [], [], [(66597, [0, 2, 3, 0, 1])]), [[]]), ([], []), { frames := 0, cells := 0, slots := 0, locals := 0 })
noncomputable def ag_ruM0l : aCon := (y_BO_inCheck, false, 3, ([(.inr (some (.inl (false, 24))), none), (.inl (0, 0), none), (.inl (0, 1728), none)], ([], [], [], [(1058, [0, 2])])), (none, [], ([], [], [], [(35, [0, 1, 2])]), [[]]), ([], []), { frames := 0, cells := 0, slots := 0, locals := 0 })
end
section
/-! facts look at what dep says: think and look -/
theorem fDi : ∀ k, k < 240 → fi_dep.getD k [] = fh_dep.getD k []
  | 0, _ => rfl
  | 1, _ => rfl
  | 2, _ => rfl
  | 3, _ => rfl
  | 4, _ => rfl
  | 5, _ => rfl
  | 6, _ => rfl
  | 7, _ => rfl
  | 8, _ => rfl
  | 9, _ => rfl
  | 10, _ => rfl
  | 11, _ => rfl
  | 12, _ => rfl
  | 13, _ => rfl
  | 14, _ => rfl
  | 15, _ => rfl
  | 16, _ => rfl
  | 17, _ => rfl
  | 18, _ => rfl
  | 19, _ => rfl
  | 20, _ => rfl
  | 21, _ => rfl
  | 22, _ => rfl
  | 23, _ => rfl
  | 24, _ => rfl
  | 25, _ => rfl
  | 26, _ => rfl
  | 27, _ => rfl
  | 28, _ => rfl
  | 29, _ => rfl
  | 30, _ => rfl
  | 31, _ => rfl
  | 32, _ => rfl
  | 33, _ => rfl
  | 34, _ => rfl
  | 35, _ => rfl
  | 36, _ => rfl
  | 37, _ => rfl
  | 38, _ => rfl
  | 39, _ => rfl
  | 40, _ => rfl
  | 41, _ => rfl
  | 42, _ => rfl
  | 43, _ => rfl
  | 44, _ => rfl
  | 45, _ => rfl
  | 46, _ => rfl
  | 47, _ => rfl
  | 48, _ => rfl
  | 49, _ => rfl
  | 50, _ => rfl
  | 51, _ => rfl
  | 52, _ => rfl
  | 53, _ => rfl
  | 54, _ => rfl
  | 55, _ => rfl
  | 56, _ => rfl
  | 57, _ => rfl
  | 58, _ => rfl
  | 59, _ => rfl
  | 60, _ => rfl
  | 61, _ => rfl
  | 62, _ => rfl
  | 63, _ => rfl
  | 64, _ => rfl
  | 65, _ => rfl
  | 66, _ => rfl
  | 67, _ => rfl
  | 68, _ => rfl
  | 69, _ => rfl
  | 70, _ => rfl
  | 71, _ => rfl
  | 72, _ => rfl
  | 73, _ => rfl
  | 74, _ => rfl
  | 75, _ => rfl
  | 76, _ => rfl
  | 77, _ => rfl
  | 78, _ => rfl
  | 79, _ => rfl
  | 80, _ => rfl
  | 81, _ => rfl
  | 82, _ => rfl
  | 83, _ => rfl
  | 84, _ => rfl
  | 85, _ => rfl
  | 86, _ => rfl
  | 87, _ => rfl
  | 88, _ => rfl
  | 89, _ => rfl
  | 90, _ => rfl
  | 91, _ => rfl
  | 92, _ => rfl
  | 93, _ => rfl
  | 94, _ => rfl
  | 95, _ => rfl
  | 96, _ => rfl
  | 97, _ => rfl
  | 98, _ => rfl
  | 99, _ => rfl
  | 100, _ => rfl
  | 101, _ => rfl
  | 102, _ => rfl
  | 103, _ => rfl
  | 104, _ => rfl
  | 105, _ => rfl
  | 106, _ => rfl
  | 107, _ => rfl
  | 108, _ => rfl
  | 109, _ => rfl
  | 110, _ => rfl
  | 111, _ => rfl
  | 112, _ => rfl
  | 113, _ => rfl
  | 114, _ => rfl
  | 115, _ => rfl
  | 116, _ => rfl
  | 117, _ => rfl
  | 118, _ => rfl
  | 119, _ => rfl
  | 120, _ => rfl
  | 121, _ => rfl
  | 122, _ => rfl
  | 123, _ => rfl
  | 124, _ => rfl
  | 125, _ => rfl
  | 126, _ => rfl
  | 127, _ => rfl
  | 128, _ => rfl
  | 129, _ => rfl
  | 130, _ => rfl
  | 131, _ => rfl
  | 132, _ => rfl
  | 133, _ => rfl
  | 134, _ => rfl
  | 135, _ => rfl
  | 136, _ => rfl
  | 137, _ => rfl
  | 138, _ => rfl
  | 139, _ => rfl
  | 140, _ => rfl
  | 141, _ => rfl
  | 142, _ => rfl
  | 143, _ => rfl
  | 144, _ => rfl
  | 145, _ => rfl
  | 146, _ => rfl
  | 147, _ => rfl
  | 148, _ => rfl
  | 149, _ => rfl
  | 150, _ => rfl
  | 151, _ => rfl
  | 152, _ => rfl
  | 153, _ => rfl
  | 154, _ => rfl
  | 155, _ => rfl
  | 156, _ => rfl
  | 157, _ => rfl
  | 158, _ => rfl
  | 159, _ => rfl
  | 160, _ => rfl
  | 161, _ => rfl
  | 162, _ => rfl
  | 163, _ => rfl
  | 164, _ => rfl
  | 165, _ => rfl
  | 166, _ => rfl
  | 167, _ => rfl
  | 168, _ => rfl
  | 169, _ => rfl
  | 170, _ => rfl
  | 171, _ => rfl
  | 172, _ => rfl
  | 173, _ => rfl
  | 174, _ => rfl
  | 175, _ => rfl
  | 176, _ => rfl
  | 177, _ => rfl
  | 178, _ => rfl
  | 179, _ => rfl
  | 180, _ => rfl
  | 181, _ => rfl
  | 182, _ => rfl
  | 183, _ => rfl
  | 184, _ => rfl
  | 185, _ => rfl
  | 186, _ => rfl
  | 187, _ => rfl
  | 188, _ => rfl
  | 189, _ => rfl
  | 190, _ => rfl
  | 191, _ => rfl
  | 192, _ => rfl
  | 193, _ => rfl
  | 194, _ => rfl
  | 195, _ => rfl
  | 196, _ => rfl
  | 197, _ => rfl
  | 198, _ => rfl
  | 199, _ => rfl
  | 200, _ => rfl
  | 201, _ => rfl
  | 202, _ => rfl
  | 203, _ => rfl
  | 204, _ => rfl
  | 205, _ => rfl
  | 206, _ => rfl
  | 207, _ => rfl
  | 208, _ => rfl
  | 209, _ => rfl
  | 210, _ => rfl
  | 211, _ => rfl
  | 212, _ => rfl
  | 213, _ => rfl
  | 214, _ => rfl
  | 215, _ => rfl
  | 216, _ => rfl
  | 217, _ => rfl
  | 218, _ => rfl
  | 219, _ => rfl
  | 220, _ => rfl
  | 221, _ => rfl
  | 222, _ => rfl
  | 223, _ => rfl
  | 224, _ => rfl
  | 225, _ => rfl
  | 226, _ => rfl
  | 227, _ => rfl
  | 228, _ => rfl
  | 229, _ => rfl
  | 230, _ => rfl
  | 231, _ => rfl
  | 232, _ => rfl
  | 233, _ => rfl
  | 234, _ => rfl
  | 235, _ => rfl
  | 236, _ => rfl
  | 237, _ => rfl
  | 238, _ => rfl
  | 239, _ => rfl
  | k + 240, h => absurd h (by omega)
theorem fVa0 {vs : List jv} {c z : Int} (h : aVa vs ([], c) z) : z = c := by
  obtain ⟨w, e, rfl⟩ := h
  have e2 : (0 : Int) = w := Option.some.inj (show some (0 : Int) = some w from e)
  dsimp only
  omega
theorem fHs_dp0 {K : Nat → Nat} {n : Nat} {σ σ' : Nat → jcell} {vs ws : List jv} (h : fHd K n ws σ σ' [(15, [2], none), (17, [], some ([], 1))]) (hb : fHs K n 240 vs σ) : fHs K n 240 vs σ' := by
  obtain ⟨hk, a, m, g, e, ⟨r, o, l1, l2, l3⟩, hg⟩ := hb
  have o' := fOb_dp h (List.mem_of_getElem? (i := 0) rfl) (by decide) o
  rcases h r l1 _ (List.mem_of_getElem? (i := 1) rfl) l2.symm with e0 | ⟨k, f1, f2, e1, -⟩ | ⟨ty, m2, g1, g2, f, z, e1, e2, e3, e4, e5⟩
  · exact ⟨hk, a, m, g, e, ⟨r, o', l1, l2, by rw [e0]; exact l3⟩, hg⟩
  · rw [l3] at e1
    cases e1
  · obtain rfl := Option.some.inj e1
    rw [l3] at e3
    cases e3
    have hz := fVa0 e2
    refine ⟨hk, a, m, g2, e, ⟨r, o', l1, l2, e4⟩, ?_⟩
    rw [e5 (240 - 240) (by omega)]
    exact hg
theorem fHs_dp1 {K : Nat → Nat} {n : Nat} {σ σ' : Nat → jcell} {vs ws : List jv} (h : fHd K n ws σ σ' [(15, [2], none), (17, [], some ([], 2))]) (hb : fHs K n 241 vs σ) : fHs K n 241 vs σ' := by
  obtain ⟨hk, a, m, g, e, ⟨r, o, l1, l2, l3⟩, hg⟩ := hb
  have o' := fOb_dp h (List.mem_of_getElem? (i := 0) rfl) (by decide) o
  rcases h r l1 _ (List.mem_of_getElem? (i := 1) rfl) l2.symm with e0 | ⟨k, f1, f2, e1, -⟩ | ⟨ty, m2, g1, g2, f, z, e1, e2, e3, e4, e5⟩
  · exact ⟨hk, a, m, g, e, ⟨r, o', l1, l2, by rw [e0]; exact l3⟩, hg⟩
  · rw [l3] at e1
    cases e1
  · obtain rfl := Option.some.inj e1
    rw [l3] at e3
    cases e3
    have hz := fVa0 e2
    refine ⟨hk, a, m, g2, e, ⟨r, o', l1, l2, e4⟩, ?_⟩
    rw [e5 (241 - 240) (by omega)]
    exact hg
theorem fHs_dp2 {K : Nat → Nat} {n : Nat} {σ σ' : Nat → jcell} {vs ws : List jv} (h : fHd K n ws σ σ' [(15, [2], none), (17, [], some ([], 3))]) (hb : fHs K n 242 vs σ) : fHs K n 242 vs σ' := by
  obtain ⟨hk, a, m, g, e, ⟨r, o, l1, l2, l3⟩, hg⟩ := hb
  have o' := fOb_dp h (List.mem_of_getElem? (i := 0) rfl) (by decide) o
  rcases h r l1 _ (List.mem_of_getElem? (i := 1) rfl) l2.symm with e0 | ⟨k, f1, f2, e1, -⟩ | ⟨ty, m2, g1, g2, f, z, e1, e2, e3, e4, e5⟩
  · exact ⟨hk, a, m, g, e, ⟨r, o', l1, l2, by rw [e0]; exact l3⟩, hg⟩
  · rw [l3] at e1
    cases e1
  · obtain rfl := Option.some.inj e1
    rw [l3] at e3
    cases e3
    have hz := fVa0 e2
    refine ⟨hk, a, m, g2, e, ⟨r, o', l1, l2, e4⟩, ?_⟩
    rw [e5 (242 - 240) (by omega)]
    exact hg
theorem fSu_dp {K : Nat → Nat} {n : Nat} {σ σ' : Nat → jcell} {vs : List jv} {D : List aDe} (h : fHd K n vs σ σ' D) {a : Nat} {g : Nat → Int64} {F : List Nat} (m1 : ((15, F, none) : aDe) ∈ D) (hf : 3 ∈ F) (m2 : ((18, [], none) : aDe) ∈ D) (h0 : fSu K n σ a g) : fSu K n σ' a g := by
  obtain ⟨r, o, l1, l2, l3⟩ := h0
  have h2 := h r l1 _ m2 l2.symm
  rw [l3] at h2
  exact ⟨r, fOb_dp h m1 hf o, l1, l2, fSm_row h2⟩
theorem fSw_dp {K : Nat → Nat} {n : Nat} {σ σ' : Nat → jcell} {vs : List jv} {D : List aDe} (h : fHd K n vs σ σ' D) {a : Nat} {g : Nat → Int32} {F : List Nat} (m1 : ((15, F, none) : aDe) ∈ D) (hf : 2 ∈ F) (m2 : ((17, [], none) : aDe) ∈ D) (h0 : fSw K n σ a g) : fSw K n σ' a g := by
  obtain ⟨r, o, l1, l2, l3⟩ := h0
  have h2 := h r l1 _ m2 l2.symm
  rw [l3] at h2
  exact ⟨r, fOb_dp h m1 hf o, l1, l2, fSm_row h2⟩
theorem fGx_dp {K : Nat → Nat} {n : Nat} {p : fP} {k j : Nat} {ws : List jv} {σ σ' : Nat → jcell} (h : fHd K n ws σ σ' (fi_dep.getD k [])) (hb : fGx K n p k (ws.take j) σ) : fGx K n p k (ws.take j) σ' := by
  by_cases c400 : k = 400
  · subst c400
    obtain ⟨a, m, g, e, w, l⟩ := hb
    exact ⟨a, m, g, e, fSu_dp (D := [(15, [3], none), (18, [], none)]) h (List.mem_of_getElem? (i := 0) rfl) (by decide) (List.mem_of_getElem? (i := 1) rfl) w, l⟩
  by_cases c401 : k = 401
  · subst c401
    obtain ⟨a, m, g, e, w, l⟩ := hb
    exact ⟨a, m, g, e, fSu_dp (D := [(15, [3], none), (18, [], none)]) h (List.mem_of_getElem? (i := 0) rfl) (by decide) (List.mem_of_getElem? (i := 1) rfl) w, l⟩
  by_cases c402 : k = 402
  · subst c402
    obtain ⟨a, m, g, e, w, l⟩ := hb
    exact ⟨a, m, g, e, fSu_dp (D := [(15, [3], none), (18, [], none)]) h (List.mem_of_getElem? (i := 0) rfl) (by decide) (List.mem_of_getElem? (i := 1) rfl) w, l⟩
  by_cases c403 : k = 403
  · subst c403
    have h : fHd K n ws σ σ' [(26, [0, 2, 3, 4, 5, 8], none), (27, [], none), (30, [], none), (15, [2, 3], none), (17, [], none), (18, [], none)] := h
    obtain ⟨a, b, rest, g, u, e, w1, w2, l1, l2, l3, l4⟩ := hb
    exact ⟨a, b, rest, g, u, e, fSw_dp h (List.mem_of_getElem? (i := 3) rfl) (by decide) (List.mem_of_getElem? (i := 4) rfl) w1, fSu_dp h (List.mem_of_getElem? (i := 3) rfl) (by decide) (List.mem_of_getElem? (i := 5) rfl) w2, l1, l2, l3, fAt_dq h (by decide) l4⟩
  by_cases c409 : k = 409
  · subst c409
    have h : fHd K n ws σ σ' [(26, [0, 2, 3, 4, 5, 8], none), (27, [], none), (30, [], none), (15, [2, 3], none), (17, [], none), (18, [], none)] := h
    obtain ⟨a, b, m, rest, g, u, e, w1, w2, l1, l2, l3, l4, l5⟩ := hb
    exact ⟨a, b, m, rest, g, u, e, fSw_dp h (List.mem_of_getElem? (i := 3) rfl) (by decide) (List.mem_of_getElem? (i := 4) rfl) w1, fSu_dp h (List.mem_of_getElem? (i := 3) rfl) (by decide) (List.mem_of_getElem? (i := 5) rfl) w2, l1, l2, l3, fAt_dq h (by decide) l4, l5⟩
  by_cases c404 : k = 404
  · subst c404
    obtain ⟨a, hi, e, h0⟩ := hb
    exact ⟨a, hi, e, fLl_dp (fm := ([(1, 1)], 0)) h (fun z k hz hk => by have := fVa1 (x := hi) hz (fTak (j := j) (by rw [e]; rfl)); omega) h0⟩
  by_cases c405 : k = 405
  · subst c405
    obtain ⟨a, hi, e, h0⟩ := hb
    exact ⟨a, hi, e, fLl_dp (fm := ([(1, 1)], 1)) h (fun z k hz hk => by have := fVa1 (x := hi) hz (fTak (j := j) (by rw [e]; rfl)); omega) h0⟩
  by_cases c406 : k = 406
  · subst c406
    obtain ⟨a, lo, hi, e, h0⟩ := hb
    exact ⟨a, lo, hi, e, fLl_dp (fm := ([(2, 1)], 0)) h (fun z k hz hk => by have := fVa1 (x := hi) hz (fTak (j := j) (by rw [e]; rfl)); omega) h0⟩
  by_cases c407 : k = 407
  · subst c407
    exact hb
  by_cases c408 : k = 408
  · subst c408
    exact hb
  exfalso
  unfold fGx at hb
  split at hb <;> first | omega | exact hb
theorem fB_ds {K : Nat → Nat} {n : Nat} {p : fP} {k j : Nat} {ws : List jv} {σ σ' : Nat → jcell} (h : fHd K n ws σ σ' (fi_dep.getD k [])) (hb : fB K n p k (ws.take j) σ) : fB K n p k (ws.take j) σ' := by
  by_cases c : k < 240
  · rw [fDi k c] at h
    exact fB_dr c h hb
  by_cases c2 : k < 400
  · rw [fS_o (by omega) c2] at hb ⊢
    have hk := hb.1
    have hh : k = 240 ∨ k = 241 ∨ k = 242 := by omega
    rcases hh with rfl | rfl | rfl
    · exact fHs_dp0 h hb
    · exact fHs_dp1 h hb
    · exact fHs_dp2 h hb
  rw [fX_o (by omega)] at hb ⊢
  exact fGx_dp h hb
set_option maxRecDepth 8000 in
theorem fF_dpi {K : Nat → Nat} {n : Nat} : aDp (fF K n) K n fi_dep := by
  refine ⟨fun p r vs σ σ' hl h hf => ?_, fF_pd K n, fun h0 => absurd h0 (by decide)⟩
  have hl : r / 16 % 4096 < 440 := of_decide_eq_true hl
  unfold fF at hf ⊢
  unfold aDg at h
  by_cases c : r < 65536
  · rw [if_pos c] at hf h ⊢
    exact fB_ds h hf
  · rw [if_neg c] at hf h ⊢
    by_cases c2 : r < 131072
    · rw [if_pos c2] at hf ⊢
      by_cases c3 : 3 ≤ r % 16
      · rw [if_pos c3] at hf ⊢
        split at hf
        next a x y l =>
          refine fB_ds (σ := jup σ a (jsto (σ a) x.toNatClampNeg y)) ?_ hf
          rw [show (r - 65539) / 16 = r / 16 % 4096 by omega]
          exact fSm_jup (fSm_sto _ _) h
        next a x y l =>
          refine fB_ds (σ := jup σ a (jstl (σ a) x.toNatClampNeg y)) ?_ hf
          rw [show (r - 65539) / 16 = r / 16 % 4096 by omega]
          exact fSm_jup (fSm_stl _ _) h
        next => exact hf.elim
      · rw [if_neg c3] at hf
        exact hf.elim
    · rw [if_neg c2] at hf ⊢
      by_cases c3 : 2 ≤ r % 16
      · rw [if_pos c3] at hf ⊢
        split at hf
        next a y l =>
          by_cases c4 : (r % 131072 - 2) / 16 < 440
          · refine fB_ds (σ := jup σ a (jstf (σ a) (r / 131072 - 1) y)) ?_ hf
            rw [show (r % 131072 - 2) / 16 = r / 16 % 4096 by omega]
            exact fSm_jup (fSm_stf _ _) h
          · exact (fB_hi (show 1000 ≤ (r % 131072 - 2) / 16 by omega) hf).elim
        next => exact hf.elim
      · rw [if_neg c3] at hf
        exact hf.elim
end
