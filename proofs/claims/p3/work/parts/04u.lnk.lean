section
/-! the links of each class, once -/
noncomputable def lk_CH : jLk := ([(10, 0, 0, 813), (20, 0, 1, 814), (27, 0, 2, 815), (34, 0, 3, 816), (41, 0, 4, 817), (48, 0, 5, 818), (55, 0, 6, 819), (62, 0, 7, 820), (69, 0, 8, 821), (75, 0, 9, 822), (82, 0, 10, 823), (86, 0, 11, 824), (89, 0, 12, 825), (105, 0, 14, 827), (108, 0, 13, 826), (123, 1, 1, 355), (129, 1, 0, 352), (203, 9, 0, 725), (260, 2, 2, 373), (280, 9, 1, 728), (285, 4, 0, 437), (303, 9, 5, 741), (306, 9, 2, 732), (309, 9, 4, 738), (312, 9, 6, 744), (315, 2, 0, 369), (331, 9, 3, 735), (340, 9, 9, 751), (343, 9, 11, 756), (378, 9, 13, 761), (391, 10, 5, 672), (403, 2, 1, 371), (417, 6, 0, 502), (452, 7, 0, 532), (487, 7, 2, 536), (490, 7, 3, 538), (493, 7, 4, 540), (496, 7, 5, 542), (509, 8, 0, 575), (512, 8, 1, 577)], [(82, 0, 10, 823, 3), (86, 0, 11, 824, 3), (89, 0, 12, 825, 0), (105, 0, 14, 827, 0), (108, 0, 13, 826, 0), (366, 9, 18, 773, 0), (481, 7, 1, 534, 0)], [(132, 2, 1041), (270, 3, 1187)])
theorem lo_CH : jLkOk "ChessHouse" lw_tbl jcl jtb lk_CH := ⟨(aAllc (jokF_of rfl (by decide) rfl rfl rfl (Or.inl (jtF_ok rfl))) (aAllc (jokF_of rfl (by decide) rfl rfl rfl (Or.inl (jtF_ok rfl))) (aAllc (jokF_of rfl (by decide) rfl rfl rfl (Or.inl (jtF_ok rfl))) (aAllc (jokF_of rfl (by decide) rfl rfl rfl (Or.inl (jtF_ok rfl))) (aAllc (jokF_of rfl (by decide) rfl rfl rfl (Or.inl (jtF_ok rfl))) (aAllc (jokF_of rfl (by decide) rfl rfl rfl (Or.inl (jtF_ok rfl))) (aAllc (jokF_of rfl (by decide) rfl rfl rfl (Or.inl (jtF_ok rfl))) (aAllc (jokF_of rfl (by decide) rfl rfl rfl (Or.inl (jtF_ok rfl))) (aAllc (jokF_of rfl (by decide) rfl rfl rfl (Or.inl (jtF_ok rfl))) (aAllc (jokF_of rfl (by decide) rfl rfl rfl (Or.inl (jtF_ok rfl))) (aAllc (jokF_of rfl (by decide) rfl rfl rfl (Or.inl (jtF_ok rfl))) (aAllc (jokF_of rfl (by decide) rfl rfl rfl (Or.inl (jtF_ok rfl))) (aAllc (jokF_of rfl (by decide) rfl rfl rfl (Or.inl (jtF_ok rfl))) (aAllc (jokF_of rfl (by decide) rfl rfl rfl (Or.inl (jtF_ok rfl))) (aAllc (jokF_of rfl (by decide) rfl rfl rfl (Or.inl (jtF_ok rfl))) (aAllc (jokF_of rfl (by decide) rfl rfl rfl (Or.inl (jtF_ok rfl))) (aAllc (jokF_of rfl (by decide) rfl rfl rfl (Or.inl (jtF_ok rfl))) (aAllc (jokF_of rfl (by decide) rfl rfl rfl (Or.inl (jtF_ok rfl))) (aAllc (jokF_of rfl (by decide) rfl rfl rfl (Or.inl (jtF_ok rfl))) (aAllc (jokF_of rfl (by decide) rfl rfl rfl (Or.inl (jtF_ok rfl))) (aAllc (jokF_of rfl (by decide) rfl rfl rfl (Or.inl (jtF_ok rfl))) (aAllc (jokF_of rfl (by decide) rfl rfl rfl (Or.inl (jtF_ok rfl))) (aAllc (jokF_of rfl (by decide) rfl rfl rfl (Or.inl (jtF_ok rfl))) (aAllc (jokF_of rfl (by decide) rfl rfl rfl (Or.inl (jtF_ok rfl))) (aAllc (jokF_of rfl (by decide) rfl rfl rfl (Or.inl (jtF_ok rfl))) (aAllc (jokF_of rfl (by decide) rfl rfl rfl (Or.inl (jtF_ok rfl))) (aAllc (jokF_of rfl (by decide) rfl rfl rfl (Or.inl (jtF_ok rfl))) (aAllc (jokF_of rfl (by decide) rfl rfl rfl (Or.inl (jtF_ok rfl))) (aAllc (jokF_of rfl (by decide) rfl rfl rfl (Or.inl (jtF_ok rfl))) (aAllc (jokF_of rfl (by decide) rfl rfl rfl (Or.inl (jtF_ok rfl))) (aAllc (jokF_of rfl (by decide) rfl rfl rfl (Or.inl (jtF_ok rfl))) (aAllc (jokF_of rfl (by decide) rfl rfl rfl (Or.inl (jtF_ok rfl))) (aAllc (jokF_of rfl (by decide) rfl rfl rfl (Or.inl (jtF_ok rfl))) (aAllc (jokF_of rfl (by decide) rfl rfl rfl (Or.inl (jtF_ok rfl))) (aAllc (jokF_of rfl (by decide) rfl rfl rfl (Or.inl (jtF_ok rfl))) (aAllc (jokF_of rfl (by decide) rfl rfl rfl (Or.inl (jtF_ok rfl))) (aAllc (jokF_of rfl (by decide) rfl rfl rfl (Or.inl (jtF_ok rfl))) (aAllc (jokF_of rfl (by decide) rfl rfl rfl (Or.inl (jtF_ok rfl))) (aAllc (jokF_of rfl (by decide) rfl rfl rfl (Or.inl (jtF_ok rfl))) (aAllc (jokF_of rfl (by decide) rfl rfl rfl (Or.inl (jtF_ok rfl))) (fun q h => by cases h))))))))))))))))))))))))))))))))))))))))), (aAllc (⟨jokF_of rfl (by decide) rfl rfl rfl (Or.inl (jtF_ok rfl)), _, rfl, rfl, by decide +kernel⟩) (aAllc (⟨jokF_of rfl (by decide) rfl rfl rfl (Or.inl (jtF_ok rfl)), _, rfl, rfl, by decide +kernel⟩) (aAllc (⟨jokF_of rfl (by decide) rfl rfl rfl (Or.inl (jtF_ok rfl)), _, rfl, rfl, by decide +kernel⟩) (aAllc (⟨jokF_of rfl (by decide) rfl rfl rfl (Or.inl (jtF_ok rfl)), _, rfl, rfl, by decide +kernel⟩) (aAllc (⟨jokF_of rfl (by decide) rfl rfl rfl (Or.inl (jtF_ok rfl)), _, rfl, rfl, by decide +kernel⟩) (aAllc (⟨jokF_of rfl (by decide) rfl rfl rfl (Or.inl (jtF_ok rfl)), _, rfl, rfl, by decide +kernel⟩) (aAllc (⟨jokF_of rfl (by decide) rfl rfl rfl (Or.inl (jtF_ok rfl)), _, rfl, rfl, by decide +kernel⟩) (fun q h => by cases h)))))))), (aAllc (jokS_of rfl rfl rfl rfl (jtF_ok rfl)) (aAllc (jokS_of rfl rfl rfl rfl (jtF_ok rfl)) (fun q h => by cases h)))⟩
noncomputable def lk_BY : jLk := ([(9, 1, 0, 350), (15, 1, 1, 353)], [(15, 1, 1, 353, 0)], [])
theorem lo_BY : jLkOk "ChessHouse$Bytes" lw_tbl jcl jtb lk_BY := ⟨(aAllc (jokF_of rfl (by decide) rfl rfl rfl (Or.inl (jtF_ok rfl))) (aAllc (jokF_of rfl (by decide) rfl rfl rfl (Or.inl (jtF_ok rfl))) (fun q h => by cases h))), (aAllc (⟨jokF_of rfl (by decide) rfl rfl rfl (Or.inl (jtF_ok rfl)), _, rfl, rfl, by decide +kernel⟩) (fun q h => by cases h)), (fun q h => by cases h)⟩
noncomputable def lk_WO : jLk := ([(7, 2, 0, 368), (13, 2, 3, 374), (17, 2, 4, 375), (21, 2, 2, 372), (46, 2, 1, 370)], [(13, 2, 3, 374, 3), (17, 2, 4, 375, 0), (21, 2, 2, 372, 0), (46, 2, 1, 370, 0)], [])
theorem lo_WO : jLkOk "ChessHouse$Words" lw_tbl jcl jtb lk_WO := ⟨(aAllc (jokF_of rfl (by decide) rfl rfl rfl (Or.inl (jtF_ok rfl))) (aAllc (jokF_of rfl (by decide) rfl rfl rfl (Or.inl (jtF_ok rfl))) (aAllc (jokF_of rfl (by decide) rfl rfl rfl (Or.inl (jtF_ok rfl))) (aAllc (jokF_of rfl (by decide) rfl rfl rfl (Or.inl (jtF_ok rfl))) (aAllc (jokF_of rfl (by decide) rfl rfl rfl (Or.inl (jtF_ok rfl))) (fun q h => by cases h)))))), (aAllc (⟨jokF_of rfl (by decide) rfl rfl rfl (Or.inl (jtF_ok rfl)), _, rfl, rfl, by decide +kernel⟩) (aAllc (⟨jokF_of rfl (by decide) rfl rfl rfl (Or.inl (jtF_ok rfl)), _, rfl, rfl, by decide +kernel⟩) (aAllc (⟨jokF_of rfl (by decide) rfl rfl rfl (Or.inl (jtF_ok rfl)), _, rfl, rfl, by decide +kernel⟩) (aAllc (⟨jokF_of rfl (by decide) rfl rfl rfl (Or.inl (jtF_ok rfl)), _, rfl, rfl, by decide +kernel⟩) (fun q h => by cases h))))), (fun q h => by cases h)⟩
noncomputable def lk_SI : jLk := ([(9, 3, 0, 394), (15, 3, 1, 395), (34, 3, 9, 403), (41, 3, 10, 404), (49, 3, 2, 396), (61, 3, 4, 398), (64, 3, 5, 399), (67, 3, 7, 401), (78, 3, 8, 402), (81, 3, 3, 397), (99, 3, 6, 400), (102, 10, 0, 662)], [(34, 3, 9, 403, 1), (41, 3, 10, 404, 0), (49, 3, 2, 396, 0), (61, 3, 4, 398, 0), (64, 3, 5, 399, 0), (67, 3, 7, 401, 0), (78, 3, 8, 402, 0), (81, 3, 3, 397, 0), (99, 3, 6, 400, 0)], [])
theorem lo_SI : jLkOk "ChessHouse$Signs" lw_tbl jcl jtb lk_SI := ⟨(aAllc (jokF_of rfl (by decide) rfl rfl rfl (Or.inl (jtF_ok rfl))) (aAllc (jokF_of rfl (by decide) rfl rfl rfl (Or.inl (jtF_ok rfl))) (aAllc (jokF_of rfl (by decide) rfl rfl rfl (Or.inl (jtF_ok rfl))) (aAllc (jokF_of rfl (by decide) rfl rfl rfl (Or.inl (jtF_ok rfl))) (aAllc (jokF_of rfl (by decide) rfl rfl rfl (Or.inl (jtF_ok rfl))) (aAllc (jokF_of rfl (by decide) rfl rfl rfl (Or.inl (jtF_ok rfl))) (aAllc (jokF_of rfl (by decide) rfl rfl rfl (Or.inl (jtF_ok rfl))) (aAllc (jokF_of rfl (by decide) rfl rfl rfl (Or.inl (jtF_ok rfl))) (aAllc (jokF_of rfl (by decide) rfl rfl rfl (Or.inl (jtF_ok rfl))) (aAllc (jokF_of rfl (by decide) rfl rfl rfl (Or.inl (jtF_ok rfl))) (aAllc (jokF_of rfl (by decide) rfl rfl rfl (Or.inl (jtF_ok rfl))) (aAllc (jokF_of rfl (by decide) rfl rfl rfl (Or.inl (jtF_ok rfl))) (fun q h => by cases h))))))))))))), (aAllc (⟨jokF_of rfl (by decide) rfl rfl rfl (Or.inl (jtF_ok rfl)), _, rfl, rfl, by decide +kernel⟩) (aAllc (⟨jokF_of rfl (by decide) rfl rfl rfl (Or.inl (jtF_ok rfl)), _, rfl, rfl, by decide +kernel⟩) (aAllc (⟨jokF_of rfl (by decide) rfl rfl rfl (Or.inl (jtF_ok rfl)), _, rfl, rfl, by decide +kernel⟩) (aAllc (⟨jokF_of rfl (by decide) rfl rfl rfl (Or.inl (jtF_ok rfl)), _, rfl, rfl, by decide +kernel⟩) (aAllc (⟨jokF_of rfl (by decide) rfl rfl rfl (Or.inl (jtF_ok rfl)), _, rfl, rfl, by decide +kernel⟩) (aAllc (⟨jokF_of rfl (by decide) rfl rfl rfl (Or.inl (jtF_ok rfl)), _, rfl, rfl, by decide +kernel⟩) (aAllc (⟨jokF_of rfl (by decide) rfl rfl rfl (Or.inl (jtF_ok rfl)), _, rfl, rfl, by decide +kernel⟩) (aAllc (⟨jokF_of rfl (by decide) rfl rfl rfl (Or.inl (jtF_ok rfl)), _, rfl, rfl, by decide +kernel⟩) (aAllc (⟨jokF_of rfl (by decide) rfl rfl rfl (Or.inl (jtF_ok rfl)), _, rfl, rfl, by decide +kernel⟩) (fun q h => by cases h)))))))))), (fun q h => by cases h)⟩
noncomputable def lk_GR : jLk := ([(12, 4, 1, 438), (20, 4, 2, 439), (24, 4, 3, 440), (28, 4, 4, 441), (32, 4, 5, 442), (35, 4, 6, 443), (39, 4, 7, 444), (42, 4, 8, 445), (45, 4, 9, 446), (48, 4, 10, 447), (51, 4, 11, 448), (107, 9, 13, 760), (118, 9, 0, 724), (140, 9, 2, 731), (180, 9, 1, 727), (186, 10, 6, 675)], [(28, 4, 4, 441, 3), (32, 4, 5, 442, 3), (35, 4, 6, 443, 0), (39, 4, 7, 444, 0), (42, 4, 8, 445, 0), (45, 4, 9, 446, 0), (48, 4, 10, 447, 0), (51, 4, 11, 448, 0), (94, 4, 0, 436, 0), (163, 9, 18, 772, 0)], [])
theorem lo_GR : jLkOk "ChessHouse$GameReader" lw_tbl jcl jtb lk_GR := ⟨(aAllc (jokF_of rfl (by decide) rfl rfl rfl (Or.inl (jtF_ok rfl))) (aAllc (jokF_of rfl (by decide) rfl rfl rfl (Or.inl (jtF_ok rfl))) (aAllc (jokF_of rfl (by decide) rfl rfl rfl (Or.inl (jtF_ok rfl))) (aAllc (jokF_of rfl (by decide) rfl rfl rfl (Or.inl (jtF_ok rfl))) (aAllc (jokF_of rfl (by decide) rfl rfl rfl (Or.inl (jtF_ok rfl))) (aAllc (jokF_of rfl (by decide) rfl rfl rfl (Or.inl (jtF_ok rfl))) (aAllc (jokF_of rfl (by decide) rfl rfl rfl (Or.inl (jtF_ok rfl))) (aAllc (jokF_of rfl (by decide) rfl rfl rfl (Or.inl (jtF_ok rfl))) (aAllc (jokF_of rfl (by decide) rfl rfl rfl (Or.inl (jtF_ok rfl))) (aAllc (jokF_of rfl (by decide) rfl rfl rfl (Or.inl (jtF_ok rfl))) (aAllc (jokF_of rfl (by decide) rfl rfl rfl (Or.inl (jtF_ok rfl))) (aAllc (jokF_of rfl (by decide) rfl rfl rfl (Or.inl (jtF_ok rfl))) (aAllc (jokF_of rfl (by decide) rfl rfl rfl (Or.inl (jtF_ok rfl))) (aAllc (jokF_of rfl (by decide) rfl rfl rfl (Or.inl (jtF_ok rfl))) (aAllc (jokF_of rfl (by decide) rfl rfl rfl (Or.inl (jtF_ok rfl))) (aAllc (jokF_of rfl (by decide) rfl rfl rfl (Or.inl (jtF_ok rfl))) (fun q h => by cases h))))))))))))))))), (aAllc (⟨jokF_of rfl (by decide) rfl rfl rfl (Or.inl (jtF_ok rfl)), _, rfl, rfl, by decide +kernel⟩) (aAllc (⟨jokF_of rfl (by decide) rfl rfl rfl (Or.inl (jtF_ok rfl)), _, rfl, rfl, by decide +kernel⟩) (aAllc (⟨jokF_of rfl (by decide) rfl rfl rfl (Or.inl (jtF_ok rfl)), _, rfl, rfl, by decide +kernel⟩) (aAllc (⟨jokF_of rfl (by decide) rfl rfl rfl (Or.inl (jtF_ok rfl)), _, rfl, rfl, by decide +kernel⟩) (aAllc (⟨jokF_of rfl (by decide) rfl rfl rfl (Or.inl (jtF_ok rfl)), _, rfl, rfl, by decide +kernel⟩) (aAllc (⟨jokF_of rfl (by decide) rfl rfl rfl (Or.inl (jtF_ok rfl)), _, rfl, rfl, by decide +kernel⟩) (aAllc (⟨jokF_of rfl (by decide) rfl rfl rfl (Or.inl (jtF_ok rfl)), _, rfl, rfl, by decide +kernel⟩) (aAllc (⟨jokF_of rfl (by decide) rfl rfl rfl (Or.inl (jtF_ok rfl)), _, rfl, rfl, by decide +kernel⟩) (aAllc (⟨jokF_of rfl (by decide) rfl rfl rfl (Or.inl (jtF_ok rfl)), _, rfl, rfl, by decide +kernel⟩) (aAllc (⟨jokF_of rfl (by decide) rfl rfl rfl (Or.inl (jtF_ok rfl)), _, rfl, rfl, by decide +kernel⟩) (fun q h => by cases h))))))))))), (fun q h => by cases h)⟩
noncomputable def lk_GW : jLk := ([(15, 5, 0, 485), (24, 5, 1, 486), (28, 5, 2, 487), (32, 9, 2, 729), (51, 9, 5, 740), (62, 9, 18, 771), (74, 1, 1, 354), (84, 1, 0, 351), (92, 9, 13, 759), (95, 9, 14, 763), (98, 9, 15, 765), (103, 9, 17, 769), (106, 9, 16, 767), (115, 9, 11, 755), (118, 9, 10, 753), (121, 10, 6, 673), (125, 10, 2, 666), (132, 9, 9, 750), (135, 9, 8, 748), (138, 9, 0, 723), (146, 9, 4, 737), (159, 9, 6, 743), (162, 9, 7, 746), (174, 9, 3, 734)], [(28, 5, 2, 487, 3)], [])
theorem lo_GW : jLkOk "ChessHouse$GameWriter" lw_tbl jcl jtb lk_GW := ⟨(aAllc (jokF_of rfl (by decide) rfl rfl rfl (Or.inl (jtF_ok rfl))) (aAllc (jokF_of rfl (by decide) rfl rfl rfl (Or.inl (jtF_ok rfl))) (aAllc (jokF_of rfl (by decide) rfl rfl rfl (Or.inl (jtF_ok rfl))) (aAllc (jokF_of rfl (by decide) rfl rfl rfl (Or.inl (jtF_ok rfl))) (aAllc (jokF_of rfl (by decide) rfl rfl rfl (Or.inl (jtF_ok rfl))) (aAllc (jokF_of rfl (by decide) rfl rfl rfl (Or.inl (jtF_ok rfl))) (aAllc (jokF_of rfl (by decide) rfl rfl rfl (Or.inl (jtF_ok rfl))) (aAllc (jokF_of rfl (by decide) rfl rfl rfl (Or.inl (jtF_ok rfl))) (aAllc (jokF_of rfl (by decide) rfl rfl rfl (Or.inl (jtF_ok rfl))) (aAllc (jokF_of rfl (by decide) rfl rfl rfl (Or.inl (jtF_ok rfl))) (aAllc (jokF_of rfl (by decide) rfl rfl rfl (Or.inl (jtF_ok rfl))) (aAllc (jokF_of rfl (by decide) rfl rfl rfl (Or.inl (jtF_ok rfl))) (aAllc (jokF_of rfl (by decide) rfl rfl rfl (Or.inl (jtF_ok rfl))) (aAllc (jokF_of rfl (by decide) rfl rfl rfl (Or.inl (jtF_ok rfl))) (aAllc (jokF_of rfl (by decide) rfl rfl rfl (Or.inl (jtF_ok rfl))) (aAllc (jokF_of rfl (by decide) rfl rfl rfl (Or.inl (jtF_ok rfl))) (aAllc (jokF_of rfl (by decide) rfl rfl rfl (Or.inl (jtF_ok rfl))) (aAllc (jokF_of rfl (by decide) rfl rfl rfl (Or.inl (jtF_ok rfl))) (aAllc (jokF_of rfl (by decide) rfl rfl rfl (Or.inl (jtF_ok rfl))) (aAllc (jokF_of rfl (by decide) rfl rfl rfl (Or.inl (jtF_ok rfl))) (aAllc (jokF_of rfl (by decide) rfl rfl rfl (Or.inl (jtF_ok rfl))) (aAllc (jokF_of rfl (by decide) rfl rfl rfl (Or.inl (jtF_ok rfl))) (aAllc (jokF_of rfl (by decide) rfl rfl rfl (Or.inl (jtF_ok rfl))) (aAllc (jokF_of rfl (by decide) rfl rfl rfl (Or.inl (jtF_ok rfl))) (fun q h => by cases h))))))))))))))))))))))))), (aAllc (⟨jokF_of rfl (by decide) rfl rfl rfl (Or.inl (jtF_ok rfl)), _, rfl, rfl, by decide +kernel⟩) (fun q h => by cases h)), (fun q h => by cases h)⟩
noncomputable def lk_SE : jLk := ([(9, 6, 1, 503), (15, 6, 2, 504), (18, 6, 3, 505), (22, 6, 5, 507), (26, 6, 6, 508), (30, 6, 4, 506), (65, 6, 0, 501)], [(22, 6, 5, 507, 3), (26, 6, 6, 508, 1), (30, 6, 4, 506, 0), (65, 6, 0, 501, 0)], [])
theorem lo_SE : jLkOk "ChessHouse$Search" lw_tbl jcl jtb lk_SE := ⟨(aAllc (jokF_of rfl (by decide) rfl rfl rfl (Or.inl (jtF_ok rfl))) (aAllc (jokF_of rfl (by decide) rfl rfl rfl (Or.inl (jtF_ok rfl))) (aAllc (jokF_of rfl (by decide) rfl rfl rfl (Or.inl (jtF_ok rfl))) (aAllc (jokF_of rfl (by decide) rfl rfl rfl (Or.inl (jtF_ok rfl))) (aAllc (jokF_of rfl (by decide) rfl rfl rfl (Or.inl (jtF_ok rfl))) (aAllc (jokF_of rfl (by decide) rfl rfl rfl (Or.inl (jtF_ok rfl))) (aAllc (jokF_of rfl (by decide) rfl rfl rfl (Or.inl (jtF_ok rfl))) (fun q h => by cases h)))))))), (aAllc (⟨jokF_of rfl (by decide) rfl rfl rfl (Or.inl (jtF_ok rfl)), _, rfl, rfl, by decide +kernel⟩) (aAllc (⟨jokF_of rfl (by decide) rfl rfl rfl (Or.inl (jtF_ok rfl)), _, rfl, rfl, by decide +kernel⟩) (aAllc (⟨jokF_of rfl (by decide) rfl rfl rfl (Or.inl (jtF_ok rfl)), _, rfl, rfl, by decide +kernel⟩) (aAllc (⟨jokF_of rfl (by decide) rfl rfl rfl (Or.inl (jtF_ok rfl)), _, rfl, rfl, by decide +kernel⟩) (fun q h => by cases h))))), (fun q h => by cases h)⟩
noncomputable def lk_PR : jLk := ([(7, 7, 4, 539), (19, 7, 6, 543), (22, 7, 7, 544), (26, 7, 0, 531), (30, 7, 8, 545), (33, 7, 9, 546), (37, 7, 2, 535), (40, 7, 3, 537), (75, 7, 1, 533)], [(22, 7, 7, 544, 3), (26, 7, 0, 531, 1), (30, 7, 8, 545, 1), (33, 7, 9, 546, 0), (37, 7, 2, 535, 0), (40, 7, 3, 537, 1)], [])
theorem lo_PR : jLkOk "ChessHouse$Problems" lw_tbl jcl jtb lk_PR := ⟨(aAllc (jokF_of rfl (by decide) rfl rfl rfl (Or.inl (jtF_ok rfl))) (aAllc (jokF_of rfl (by decide) rfl rfl rfl (Or.inl (jtF_ok rfl))) (aAllc (jokF_of rfl (by decide) rfl rfl rfl (Or.inl (jtF_ok rfl))) (aAllc (jokF_of rfl (by decide) rfl rfl rfl (Or.inl (jtF_ok rfl))) (aAllc (jokF_of rfl (by decide) rfl rfl rfl (Or.inl (jtF_ok rfl))) (aAllc (jokF_of rfl (by decide) rfl rfl rfl (Or.inl (jtF_ok rfl))) (aAllc (jokF_of rfl (by decide) rfl rfl rfl (Or.inl (jtF_ok rfl))) (aAllc (jokF_of rfl (by decide) rfl rfl rfl (Or.inl (jtF_ok rfl))) (aAllc (jokF_of rfl (by decide) rfl rfl rfl (Or.inl (jtF_ok rfl))) (fun q h => by cases h)))))))))), (aAllc (⟨jokF_of rfl (by decide) rfl rfl rfl (Or.inl (jtF_ok rfl)), _, rfl, rfl, by decide +kernel⟩) (aAllc (⟨jokF_of rfl (by decide) rfl rfl rfl (Or.inl (jtF_ok rfl)), _, rfl, rfl, by decide +kernel⟩) (aAllc (⟨jokF_of rfl (by decide) rfl rfl rfl (Or.inl (jtF_ok rfl)), _, rfl, rfl, by decide +kernel⟩) (aAllc (⟨jokF_of rfl (by decide) rfl rfl rfl (Or.inl (jtF_ok rfl)), _, rfl, rfl, by decide +kernel⟩) (aAllc (⟨jokF_of rfl (by decide) rfl rfl rfl (Or.inl (jtF_ok rfl)), _, rfl, rfl, by decide +kernel⟩) (aAllc (⟨jokF_of rfl (by decide) rfl rfl rfl (Or.inl (jtF_ok rfl)), _, rfl, rfl, by decide +kernel⟩) (fun q h => by cases h))))))), (fun q h => by cases h)⟩
noncomputable def lk_EN : jLk := ([(9, 8, 2, 578), (15, 8, 7, 583), (18, 10, 0, 661), (25, 8, 3, 579), (33, 8, 4, 580), (36, 8, 5, 581), (39, 10, 3, 668), (50, 8, 1, 576), (69, 10, 2, 665), (72, 10, 1, 664), (82, 8, 9, 585), (88, 8, 6, 582), (91, 8, 8, 584)], [(15, 8, 7, 583, 3), (25, 8, 3, 579, 3), (33, 8, 4, 580, 3), (36, 8, 5, 581, 3), (39, 10, 3, 668, 0), (47, 8, 0, 574, 0), (50, 8, 1, 576, 0), (82, 8, 9, 585, 0), (88, 8, 6, 582, 3), (91, 8, 8, 584, 0)], [(85, 7, 1816), (127, 8, 1833)])
theorem lo_EN : jLkOk "ChessHouse$Endings" lw_tbl jcl jtb lk_EN := ⟨(aAllc (jokF_of rfl (by decide) rfl rfl rfl (Or.inl (jtF_ok rfl))) (aAllc (jokF_of rfl (by decide) rfl rfl rfl (Or.inl (jtF_ok rfl))) (aAllc (jokF_of rfl (by decide) rfl rfl rfl (Or.inl (jtF_ok rfl))) (aAllc (jokF_of rfl (by decide) rfl rfl rfl (Or.inl (jtF_ok rfl))) (aAllc (jokF_of rfl (by decide) rfl rfl rfl (Or.inl (jtF_ok rfl))) (aAllc (jokF_of rfl (by decide) rfl rfl rfl (Or.inl (jtF_ok rfl))) (aAllc (jokF_of rfl (by decide) rfl rfl rfl (Or.inl (jtF_ok rfl))) (aAllc (jokF_of rfl (by decide) rfl rfl rfl (Or.inl (jtF_ok rfl))) (aAllc (jokF_of rfl (by decide) rfl rfl rfl (Or.inl (jtF_ok rfl))) (aAllc (jokF_of rfl (by decide) rfl rfl rfl (Or.inl (jtF_ok rfl))) (aAllc (jokF_of rfl (by decide) rfl rfl rfl (Or.inl (jtF_ok rfl))) (aAllc (jokF_of rfl (by decide) rfl rfl rfl (Or.inl (jtF_ok rfl))) (aAllc (jokF_of rfl (by decide) rfl rfl rfl (Or.inl (jtF_ok rfl))) (fun q h => by cases h)))))))))))))), (aAllc (⟨jokF_of rfl (by decide) rfl rfl rfl (Or.inl (jtF_ok rfl)), _, rfl, rfl, by decide +kernel⟩) (aAllc (⟨jokF_of rfl (by decide) rfl rfl rfl (Or.inl (jtF_ok rfl)), _, rfl, rfl, by decide +kernel⟩) (aAllc (⟨jokF_of rfl (by decide) rfl rfl rfl (Or.inl (jtF_ok rfl)), _, rfl, rfl, by decide +kernel⟩) (aAllc (⟨jokF_of rfl (by decide) rfl rfl rfl (Or.inl (jtF_ok rfl)), _, rfl, rfl, by decide +kernel⟩) (aAllc (⟨jokF_of rfl (by decide) rfl rfl rfl (Or.inl (jtF_ok rfl)), _, rfl, rfl, by decide +kernel⟩) (aAllc (⟨jokF_of rfl (by decide) rfl rfl rfl (Or.inl (jtF_ok rfl)), _, rfl, rfl, by decide +kernel⟩) (aAllc (⟨jokF_of rfl (by decide) rfl rfl rfl (Or.inl (jtF_ok rfl)), _, rfl, rfl, by decide +kernel⟩) (aAllc (⟨jokF_of rfl (by decide) rfl rfl rfl (Or.inl (jtF_ok rfl)), _, rfl, rfl, by decide +kernel⟩) (aAllc (⟨jokF_of rfl (by decide) rfl rfl rfl (Or.inl (jtF_ok rfl)), _, rfl, rfl, by decide +kernel⟩) (aAllc (⟨jokF_of rfl (by decide) rfl rfl rfl (Or.inl (jtF_ok rfl)), _, rfl, rfl, by decide +kernel⟩) (fun q h => by cases h))))))))))), (aAllc (jokS_of rfl rfl rfl rfl (jtF_ok rfl)) (aAllc (jokS_of rfl rfl rfl rfl (jtF_ok rfl)) (fun q h => by cases h)))⟩
noncomputable def lk_GA : jLk := ([(12, 9, 0, 722), (18, 9, 3, 733), (22, 9, 4, 736), (25, 9, 5, 739), (28, 9, 6, 742), (31, 9, 7, 745), (35, 9, 8, 747), (38, 9, 9, 749), (42, 9, 10, 752), (46, 9, 11, 754), (49, 9, 12, 757), (52, 9, 14, 762), (55, 9, 15, 764), (58, 9, 16, 766), (61, 9, 17, 768), (67, 9, 1, 726), (71, 9, 2, 730), (74, 9, 13, 758), (77, 9, 18, 770)], [(67, 9, 1, 726, 0), (71, 9, 2, 730, 0), (74, 9, 13, 758, 0), (77, 9, 18, 770, 0)], [(123, 3, 1248), (136, 5, 1335)])
theorem lo_GA : jLkOk "ChessHouse$Game" lw_tbl jcl jtb lk_GA := ⟨(aAllc (jokF_of rfl (by decide) rfl rfl rfl (Or.inl (jtF_ok rfl))) (aAllc (jokF_of rfl (by decide) rfl rfl rfl (Or.inl (jtF_ok rfl))) (aAllc (jokF_of rfl (by decide) rfl rfl rfl (Or.inl (jtF_ok rfl))) (aAllc (jokF_of rfl (by decide) rfl rfl rfl (Or.inl (jtF_ok rfl))) (aAllc (jokF_of rfl (by decide) rfl rfl rfl (Or.inl (jtF_ok rfl))) (aAllc (jokF_of rfl (by decide) rfl rfl rfl (Or.inl (jtF_ok rfl))) (aAllc (jokF_of rfl (by decide) rfl rfl rfl (Or.inl (jtF_ok rfl))) (aAllc (jokF_of rfl (by decide) rfl rfl rfl (Or.inl (jtF_ok rfl))) (aAllc (jokF_of rfl (by decide) rfl rfl rfl (Or.inl (jtF_ok rfl))) (aAllc (jokF_of rfl (by decide) rfl rfl rfl (Or.inl (jtF_ok rfl))) (aAllc (jokF_of rfl (by decide) rfl rfl rfl (Or.inl (jtF_ok rfl))) (aAllc (jokF_of rfl (by decide) rfl rfl rfl (Or.inl (jtF_ok rfl))) (aAllc (jokF_of rfl (by decide) rfl rfl rfl (Or.inl (jtF_ok rfl))) (aAllc (jokF_of rfl (by decide) rfl rfl rfl (Or.inl (jtF_ok rfl))) (aAllc (jokF_of rfl (by decide) rfl rfl rfl (Or.inl (jtF_ok rfl))) (aAllc (jokF_of rfl (by decide) rfl rfl rfl (Or.inl (jtF_ok rfl))) (aAllc (jokF_of rfl (by decide) rfl rfl rfl (Or.inl (jtF_ok rfl))) (aAllc (jokF_of rfl (by decide) rfl rfl rfl (Or.inl (jtF_ok rfl))) (aAllc (jokF_of rfl (by decide) rfl rfl rfl (Or.inl (jtF_ok rfl))) (fun q h => by cases h)))))))))))))))))))), (aAllc (⟨jokF_of rfl (by decide) rfl rfl rfl (Or.inl (jtF_ok rfl)), _, rfl, rfl, by decide +kernel⟩) (aAllc (⟨jokF_of rfl (by decide) rfl rfl rfl (Or.inl (jtF_ok rfl)), _, rfl, rfl, by decide +kernel⟩) (aAllc (⟨jokF_of rfl (by decide) rfl rfl rfl (Or.inl (jtF_ok rfl)), _, rfl, rfl, by decide +kernel⟩) (aAllc (⟨jokF_of rfl (by decide) rfl rfl rfl (Or.inl (jtF_ok rfl)), _, rfl, rfl, by decide +kernel⟩) (fun q h => by cases h))))), (aAllc (jokS_of rfl rfl rfl rfl (jtF_ok rfl)) (aAllc (jokS_of rfl rfl rfl rfl (jtF_ok rfl)) (fun q h => by cases h)))⟩
noncomputable def lk_BO : jLk := ([(7, 10, 0, 660), (13, 10, 1, 663), (16, 10, 7, 676), (20, 10, 8, 677), (23, 10, 9, 678), (26, 10, 10, 679), (29, 10, 11, 680), (32, 10, 12, 681), (35, 10, 13, 682), (38, 10, 14, 683), (41, 10, 15, 684), (77, 10, 2, 667), (81, 10, 3, 669), (84, 10, 4, 670), (87, 10, 5, 671), (90, 10, 6, 674), (93, 10, 16, 685)], [(77, 10, 2, 667, 0), (81, 10, 3, 669, 0), (84, 10, 4, 670, 0), (87, 10, 5, 671, 0), (90, 10, 6, 674, 0), (93, 10, 16, 685, 0)], [(44, 0, 619), (99, 1, 654), (135, 4, 1307), (157, 6, 1636)])
theorem lo_BO : jLkOk "ChessHouse$Board" lw_tbl jcl jtb lk_BO := ⟨(aAllc (jokF_of rfl (by decide) rfl rfl rfl (Or.inl (jtF_ok rfl))) (aAllc (jokF_of rfl (by decide) rfl rfl rfl (Or.inl (jtF_ok rfl))) (aAllc (jokF_of rfl (by decide) rfl rfl rfl (Or.inl (jtF_ok rfl))) (aAllc (jokF_of rfl (by decide) rfl rfl rfl (Or.inl (jtF_ok rfl))) (aAllc (jokF_of rfl (by decide) rfl rfl rfl (Or.inl (jtF_ok rfl))) (aAllc (jokF_of rfl (by decide) rfl rfl rfl (Or.inl (jtF_ok rfl))) (aAllc (jokF_of rfl (by decide) rfl rfl rfl (Or.inl (jtF_ok rfl))) (aAllc (jokF_of rfl (by decide) rfl rfl rfl (Or.inl (jtF_ok rfl))) (aAllc (jokF_of rfl (by decide) rfl rfl rfl (Or.inl (jtF_ok rfl))) (aAllc (jokF_of rfl (by decide) rfl rfl rfl (Or.inl (jtF_ok rfl))) (aAllc (jokF_of rfl (by decide) rfl rfl rfl (Or.inl (jtF_ok rfl))) (aAllc (jokF_of rfl (by decide) rfl rfl rfl (Or.inl (jtF_ok rfl))) (aAllc (jokF_of rfl (by decide) rfl rfl rfl (Or.inl (jtF_ok rfl))) (aAllc (jokF_of rfl (by decide) rfl rfl rfl (Or.inl (jtF_ok rfl))) (aAllc (jokF_of rfl (by decide) rfl rfl rfl (Or.inl (jtF_ok rfl))) (aAllc (jokF_of rfl (by decide) rfl rfl rfl (Or.inl (jtF_ok rfl))) (aAllc (jokF_of rfl (by decide) rfl rfl rfl (Or.inl (jtF_ok rfl))) (fun q h => by cases h)))))))))))))))))), (aAllc (⟨jokF_of rfl (by decide) rfl rfl rfl (Or.inl (jtF_ok rfl)), _, rfl, rfl, by decide +kernel⟩) (aAllc (⟨jokF_of rfl (by decide) rfl rfl rfl (Or.inl (jtF_ok rfl)), _, rfl, rfl, by decide +kernel⟩) (aAllc (⟨jokF_of rfl (by decide) rfl rfl rfl (Or.inl (jtF_ok rfl)), _, rfl, rfl, by decide +kernel⟩) (aAllc (⟨jokF_of rfl (by decide) rfl rfl rfl (Or.inl (jtF_ok rfl)), _, rfl, rfl, by decide +kernel⟩) (aAllc (⟨jokF_of rfl (by decide) rfl rfl rfl (Or.inl (jtF_ok rfl)), _, rfl, rfl, by decide +kernel⟩) (aAllc (⟨jokF_of rfl (by decide) rfl rfl rfl (Or.inl (jtF_ok rfl)), _, rfl, rfl, by decide +kernel⟩) (fun q h => by cases h))))))), (aAllc (jokS_of rfl rfl rfl rfl (jtF_ok rfl)) (aAllc (jokS_of rfl rfl rfl rfl (jtF_ok rfl)) (aAllc (jokS_of rfl rfl rfl rfl (jtF_ok rfl)) (aAllc (jokS_of rfl rfl rfl rfl (jtF_ok rfl)) (fun q h => by cases h)))))⟩
noncomputable def lk_MM : jLk := ([(10, 11, 2, 2304), (14, 11, 4, 2306), (20, 11, 5, 2307), (27, 11, 6, 2308), (32, 11, 14, 2316), (36, 11, 15, 2317), (39, 11, 17, 2319), (42, 11, 18, 2320), (46, 11, 0, 2302), (50, 11, 1, 2303), (57, 11, 3, 2305), (60, 11, 12, 2314), (63, 11, 10, 2312), (66, 11, 11, 2313), (72, 11, 9, 2311), (75, 11, 8, 2310), (108, 11, 13, 2315), (125, 11, 16, 2318), (165, 12, 5, 2019), (226, 12, 6, 2021), (233, 13, 1, 2173), (247, 12, 18, 2044), (250, 12, 19, 2046), (253, 12, 20, 2048), (256, 12, 21, 2050), (259, 12, 22, 2052), (262, 12, 2, 2015), (268, 12, 7, 2024), (273, 12, 4, 2018), (278, 12, 36, 2077), (281, 12, 35, 2075), (284, 12, 10, 2030), (287, 12, 11, 2032), (289, 12, 9, 2028), (306, 12, 0, 2010), (307, 12, 8, 2026), (313, 12, 15, 2038), (316, 12, 14, 2036), (329, 12, 23, 2054), (340, 12, 24, 2056), (343, 13, 2, 2175), (344, 13, 3, 2177), (347, 12, 25, 2058), (348, 13, 4, 2179), (352, 13, 5, 2181), (356, 13, 6, 2183), (360, 13, 7, 2185), (366, 12, 16, 2040), (369, 12, 17, 2042), (389, 13, 36, 2224), (392, 12, 33, 2072), (394, 12, 32, 2070), (450, 13, 26, 2207), (453, 13, 28, 2211), (456, 13, 27, 2209), (468, 11, 7, 2309), (528, 13, 29, 2213), (531, 13, 30, 2215), (551, 13, 33, 2221)], [(46, 11, 0, 2302, 0), (50, 11, 1, 2303, 0), (57, 11, 3, 2305, 0), (60, 11, 12, 2314, 0), (63, 11, 10, 2312, 0), (66, 11, 11, 2313, 0), (72, 11, 9, 2311, 0), (75, 11, 8, 2310, 0), (108, 11, 13, 2315, 0), (125, 11, 16, 2318, 1), (226, 12, 6, 2021, 0), (236, 13, 0, 2170, 0), (263, 12, 1, 2012, 0), (344, 13, 3, 2177, 0), (347, 12, 25, 2058, 0), (348, 13, 4, 2179, 0), (351, 12, 26, 2060, 0), (352, 13, 5, 2181, 0), (355, 12, 27, 2062, 0), (356, 13, 6, 2183, 0), (359, 12, 28, 2064, 0), (360, 13, 7, 2185, 0), (362, 12, 29, 2066, 0), (378, 13, 8, 2187, 0), (463, 13, 23, 2203, 1), (468, 11, 7, 2309, 3), (542, 13, 31, 2217, 0), (545, 13, 32, 2219, 1)], [])
theorem lo_MM : jLkOk "ChessHouseModel" lw_tbl jcl jtb lk_MM := ⟨(aAllc (jokF_of rfl (by decide) rfl rfl rfl (Or.inl (jtF_ok rfl))) (aAllc (jokF_of rfl (by decide) rfl rfl rfl (Or.inl (jtF_ok rfl))) (aAllc (jokF_of rfl (by decide) rfl rfl rfl (Or.inl (jtF_ok rfl))) (aAllc (jokF_of rfl (by decide) rfl rfl rfl (Or.inl (jtF_ok rfl))) (aAllc (jokF_of rfl (by decide) rfl rfl rfl (Or.inl (jtF_ok rfl))) (aAllc (jokF_of rfl (by decide) rfl rfl rfl (Or.inl (jtF_ok rfl))) (aAllc (jokF_of rfl (by decide) rfl rfl rfl (Or.inl (jtF_ok rfl))) (aAllc (jokF_of rfl (by decide) rfl rfl rfl (Or.inl (jtF_ok rfl))) (aAllc (jokF_of rfl (by decide) rfl rfl rfl (Or.inl (jtF_ok rfl))) (aAllc (jokF_of rfl (by decide) rfl rfl rfl (Or.inl (jtF_ok rfl))) (aAllc (jokF_of rfl (by decide) rfl rfl rfl (Or.inl (jtF_ok rfl))) (aAllc (jokF_of rfl (by decide) rfl rfl rfl (Or.inl (jtF_ok rfl))) (aAllc (jokF_of rfl (by decide) rfl rfl rfl (Or.inl (jtF_ok rfl))) (aAllc (jokF_of rfl (by decide) rfl rfl rfl (Or.inl (jtF_ok rfl))) (aAllc (jokF_of rfl (by decide) rfl rfl rfl (Or.inl (jtF_ok rfl))) (aAllc (jokF_of rfl (by decide) rfl rfl rfl (Or.inl (jtF_ok rfl))) (aAllc (jokF_of rfl (by decide) rfl rfl rfl (Or.inl (jtF_ok rfl))) (aAllc (jokF_of rfl (by decide) rfl rfl rfl (Or.inl (jtF_ok rfl))) (aAllc (jokF_of rfl (by decide) rfl rfl rfl (Or.inr ⟨_, jtF_ok rfl⟩)) (aAllc (jokF_of rfl (by decide) rfl rfl rfl (Or.inr ⟨_, jtF_ok rfl⟩)) (aAllc (jokF_of rfl (by decide) rfl rfl rfl (Or.inr ⟨_, jtF_ok rfl⟩)) (aAllc (jokF_of rfl (by decide) rfl rfl rfl (Or.inr ⟨_, jtF_ok rfl⟩)) (aAllc (jokF_of rfl (by decide) rfl rfl rfl (Or.inr ⟨_, jtF_ok rfl⟩)) (aAllc (jokF_of rfl (by decide) rfl rfl rfl (Or.inr ⟨_, jtF_ok rfl⟩)) (aAllc (jokF_of rfl (by decide) rfl rfl rfl (Or.inr ⟨_, jtF_ok rfl⟩)) (aAllc (jokF_of rfl (by decide) rfl rfl rfl (Or.inr ⟨_, jtF_ok rfl⟩)) (aAllc (jokF_of rfl (by decide) rfl rfl rfl (Or.inr ⟨_, jtF_ok rfl⟩)) (aAllc (jokF_of rfl (by decide) rfl rfl rfl (Or.inr ⟨_, jtF_ok rfl⟩)) (aAllc (jokF_of rfl (by decide) rfl rfl rfl (Or.inr ⟨_, jtF_ok rfl⟩)) (aAllc (jokF_of rfl (by decide) rfl rfl rfl (Or.inr ⟨_, jtF_ok rfl⟩)) (aAllc (jokF_of rfl (by decide) rfl rfl rfl (Or.inr ⟨_, jtF_ok rfl⟩)) (aAllc (jokF_of rfl (by decide) rfl rfl rfl (Or.inr ⟨_, jtF_ok rfl⟩)) (aAllc (jokF_of rfl (by decide) rfl rfl rfl (Or.inr ⟨_, jtF_ok rfl⟩)) (aAllc (jokF_of rfl (by decide) rfl rfl rfl (Or.inr ⟨_, jtF_ok rfl⟩)) (aAllc (jokF_of rfl (by decide) rfl rfl rfl (Or.inr ⟨_, jtF_ok rfl⟩)) (aAllc (jokF_of rfl (by decide) rfl rfl rfl (Or.inr ⟨_, jtF_ok rfl⟩)) (aAllc (jokF_of rfl (by decide) rfl rfl rfl (Or.inr ⟨_, jtF_ok rfl⟩)) (aAllc (jokF_of rfl (by decide) rfl rfl rfl (Or.inr ⟨_, jtF_ok rfl⟩)) (aAllc (jokF_of rfl (by decide) rfl rfl rfl (Or.inr ⟨_, jtF_ok rfl⟩)) (aAllc (jokF_of rfl (by decide) rfl rfl rfl (Or.inr ⟨_, jtF_ok rfl⟩)) (aAllc (jokF_of rfl (by decide) rfl rfl rfl (Or.inr ⟨_, jtF_ok rfl⟩)) (aAllc (jokF_of rfl (by decide) rfl rfl rfl (Or.inr ⟨_, jtF_ok rfl⟩)) (aAllc (jokF_of rfl (by decide) rfl rfl rfl (Or.inr ⟨_, jtF_ok rfl⟩)) (aAllc (jokF_of rfl (by decide) rfl rfl rfl (Or.inr ⟨_, jtF_ok rfl⟩)) (aAllc (jokF_of rfl (by decide) rfl rfl rfl (Or.inr ⟨_, jtF_ok rfl⟩)) (aAllc (jokF_of rfl (by decide) rfl rfl rfl (Or.inr ⟨_, jtF_ok rfl⟩)) (aAllc (jokF_of rfl (by decide) rfl rfl rfl (Or.inr ⟨_, jtF_ok rfl⟩)) (aAllc (jokF_of rfl (by decide) rfl rfl rfl (Or.inr ⟨_, jtF_ok rfl⟩)) (aAllc (jokF_of rfl (by decide) rfl rfl rfl (Or.inr ⟨_, jtF_ok rfl⟩)) (aAllc (jokF_of rfl (by decide) rfl rfl rfl (Or.inr ⟨_, jtF_ok rfl⟩)) (aAllc (jokF_of rfl (by decide) rfl rfl rfl (Or.inr ⟨_, jtF_ok rfl⟩)) (aAllc (jokF_of rfl (by decide) rfl rfl rfl (Or.inr ⟨_, jtF_ok rfl⟩)) (aAllc (jokF_of rfl (by decide) rfl rfl rfl (Or.inr ⟨_, jtF_ok rfl⟩)) (aAllc (jokF_of rfl (by decide) rfl rfl rfl (Or.inr ⟨_, jtF_ok rfl⟩)) (aAllc (jokF_of rfl (by decide) rfl rfl rfl (Or.inr ⟨_, jtF_ok rfl⟩)) (aAllc (jokF_of rfl (by decide) rfl rfl rfl (Or.inl (jtF_ok rfl))) (aAllc (jokF_of rfl (by decide) rfl rfl rfl (Or.inr ⟨_, jtF_ok rfl⟩)) (aAllc (jokF_of rfl (by decide) rfl rfl rfl (Or.inr ⟨_, jtF_ok rfl⟩)) (aAllc (jokF_of rfl (by decide) rfl rfl rfl (Or.inr ⟨_, jtF_ok rfl⟩)) (fun q h => by cases h)))))))))))))))))))))))))))))))))))))))))))))))))))))))))))), (aAllc (⟨jokF_of rfl (by decide) rfl rfl rfl (Or.inl (jtF_ok rfl)), _, rfl, rfl, by decide +kernel⟩) (aAllc (⟨jokF_of rfl (by decide) rfl rfl rfl (Or.inl (jtF_ok rfl)), _, rfl, rfl, by decide +kernel⟩) (aAllc (⟨jokF_of rfl (by decide) rfl rfl rfl (Or.inl (jtF_ok rfl)), _, rfl, rfl, by decide +kernel⟩) (aAllc (⟨jokF_of rfl (by decide) rfl rfl rfl (Or.inl (jtF_ok rfl)), _, rfl, rfl, by decide +kernel⟩) (aAllc (⟨jokF_of rfl (by decide) rfl rfl rfl (Or.inl (jtF_ok rfl)), _, rfl, rfl, by decide +kernel⟩) (aAllc (⟨jokF_of rfl (by decide) rfl rfl rfl (Or.inl (jtF_ok rfl)), _, rfl, rfl, by decide +kernel⟩) (aAllc (⟨jokF_of rfl (by decide) rfl rfl rfl (Or.inl (jtF_ok rfl)), _, rfl, rfl, by decide +kernel⟩) (aAllc (⟨jokF_of rfl (by decide) rfl rfl rfl (Or.inl (jtF_ok rfl)), _, rfl, rfl, by decide +kernel⟩) (aAllc (⟨jokF_of rfl (by decide) rfl rfl rfl (Or.inl (jtF_ok rfl)), _, rfl, rfl, by decide +kernel⟩) (aAllc (⟨jokF_of rfl (by decide) rfl rfl rfl (Or.inl (jtF_ok rfl)), _, rfl, rfl, by decide +kernel⟩) (aAllc (⟨jokF_of rfl (by decide) rfl rfl rfl (Or.inr ⟨_, jtF_ok rfl⟩), _, rfl, rfl, by decide +kernel⟩) (aAllc (⟨jokF_of rfl (by decide) rfl rfl rfl (Or.inr ⟨_, jtF_ok rfl⟩), _, rfl, rfl, by decide +kernel⟩) (aAllc (⟨jokF_of rfl (by decide) rfl rfl rfl (Or.inr ⟨_, jtF_ok rfl⟩), _, rfl, rfl, by decide +kernel⟩) (aAllc (⟨jokF_of rfl (by decide) rfl rfl rfl (Or.inr ⟨_, jtF_ok rfl⟩), _, rfl, rfl, by decide +kernel⟩) (aAllc (⟨jokF_of rfl (by decide) rfl rfl rfl (Or.inr ⟨_, jtF_ok rfl⟩), _, rfl, rfl, by decide +kernel⟩) (aAllc (⟨jokF_of rfl (by decide) rfl rfl rfl (Or.inr ⟨_, jtF_ok rfl⟩), _, rfl, rfl, by decide +kernel⟩) (aAllc (⟨jokF_of rfl (by decide) rfl rfl rfl (Or.inr ⟨_, jtF_ok rfl⟩), _, rfl, rfl, by decide +kernel⟩) (aAllc (⟨jokF_of rfl (by decide) rfl rfl rfl (Or.inr ⟨_, jtF_ok rfl⟩), _, rfl, rfl, by decide +kernel⟩) (aAllc (⟨jokF_of rfl (by decide) rfl rfl rfl (Or.inr ⟨_, jtF_ok rfl⟩), _, rfl, rfl, by decide +kernel⟩) (aAllc (⟨jokF_of rfl (by decide) rfl rfl rfl (Or.inr ⟨_, jtF_ok rfl⟩), _, rfl, rfl, by decide +kernel⟩) (aAllc (⟨jokF_of rfl (by decide) rfl rfl rfl (Or.inr ⟨_, jtF_ok rfl⟩), _, rfl, rfl, by decide +kernel⟩) (aAllc (⟨jokF_of rfl (by decide) rfl rfl rfl (Or.inr ⟨_, jtF_ok rfl⟩), _, rfl, rfl, by decide +kernel⟩) (aAllc (⟨jokF_of rfl (by decide) rfl rfl rfl (Or.inr ⟨_, jtF_ok rfl⟩), _, rfl, rfl, by decide +kernel⟩) (aAllc (⟨jokF_of rfl (by decide) rfl rfl rfl (Or.inr ⟨_, jtF_ok rfl⟩), _, rfl, rfl, by decide +kernel⟩) (aAllc (⟨jokF_of rfl (by decide) rfl rfl rfl (Or.inr ⟨_, jtF_ok rfl⟩), _, rfl, rfl, by decide +kernel⟩) (aAllc (⟨jokF_of rfl (by decide) rfl rfl rfl (Or.inl (jtF_ok rfl)), _, rfl, rfl, by decide +kernel⟩) (aAllc (⟨jokF_of rfl (by decide) rfl rfl rfl (Or.inr ⟨_, jtF_ok rfl⟩), _, rfl, rfl, by decide +kernel⟩) (aAllc (⟨jokF_of rfl (by decide) rfl rfl rfl (Or.inr ⟨_, jtF_ok rfl⟩), _, rfl, rfl, by decide +kernel⟩) (fun q h => by cases h))))))))))))))))))))))))))))), (fun q h => by cases h)⟩
noncomputable def lk_MT : jLk := ([(8, 12, 2, 2014), (15, 12, 4, 2017), (18, 12, 7, 2023), (22, 12, 8, 2025), (25, 12, 9, 2027), (28, 12, 10, 2029), (31, 12, 11, 2031), (34, 12, 12, 2033), (37, 12, 13, 2034), (40, 12, 14, 2035), (44, 12, 15, 2037), (47, 12, 16, 2039), (50, 12, 17, 2041), (53, 12, 18, 2043), (56, 12, 19, 2045), (59, 12, 20, 2047), (62, 12, 21, 2049), (65, 12, 22, 2051), (68, 12, 23, 2053), (71, 12, 24, 2055), (74, 12, 30, 2067), (77, 12, 31, 2068), (80, 12, 32, 2069), (83, 12, 34, 2073), (86, 12, 35, 2074), (100, 12, 0, 2011), (122, 12, 25, 2057), (125, 12, 26, 2059), (128, 12, 27, 2061), (131, 12, 28, 2063), (134, 12, 29, 2065), (171, 12, 33, 2071), (192, 12, 36, 2076), (230, 12, 38, 2079), (233, 12, 39, 2080), (268, 12, 37, 2078), (271, 12, 1, 2013), (349, 12, 5, 2020), (355, 12, 6, 2022), (366, 12, 3, 2016)], [(100, 12, 0, 2011, 0), (122, 12, 25, 2057, 0), (125, 12, 26, 2059, 0), (128, 12, 27, 2061, 0), (131, 12, 28, 2063, 0), (134, 12, 29, 2065, 0), (171, 12, 33, 2071, 0), (192, 12, 36, 2076, 0), (230, 12, 38, 2079, 0), (233, 12, 39, 2080, 0), (268, 12, 37, 2078, 0), (271, 12, 1, 2013, 0), (349, 12, 5, 2020, 0), (355, 12, 6, 2022, 0), (366, 12, 3, 2016, 0)], [])
theorem lo_MT : jLkOk "ChessHouseModel$Texts" lw_tbl jcl jtb lk_MT := ⟨(aAllc (jokF_of rfl (by decide) rfl rfl rfl (Or.inl (jtF_ok rfl))) (aAllc (jokF_of rfl (by decide) rfl rfl rfl (Or.inl (jtF_ok rfl))) (aAllc (jokF_of rfl (by decide) rfl rfl rfl (Or.inl (jtF_ok rfl))) (aAllc (jokF_of rfl (by decide) rfl rfl rfl (Or.inl (jtF_ok rfl))) (aAllc (jokF_of rfl (by decide) rfl rfl rfl (Or.inl (jtF_ok rfl))) (aAllc (jokF_of rfl (by decide) rfl rfl rfl (Or.inl (jtF_ok rfl))) (aAllc (jokF_of rfl (by decide) rfl rfl rfl (Or.inl (jtF_ok rfl))) (aAllc (jokF_of rfl (by decide) rfl rfl rfl (Or.inl (jtF_ok rfl))) (aAllc (jokF_of rfl (by decide) rfl rfl rfl (Or.inl (jtF_ok rfl))) (aAllc (jokF_of rfl (by decide) rfl rfl rfl (Or.inl (jtF_ok rfl))) (aAllc (jokF_of rfl (by decide) rfl rfl rfl (Or.inl (jtF_ok rfl))) (aAllc (jokF_of rfl (by decide) rfl rfl rfl (Or.inl (jtF_ok rfl))) (aAllc (jokF_of rfl (by decide) rfl rfl rfl (Or.inl (jtF_ok rfl))) (aAllc (jokF_of rfl (by decide) rfl rfl rfl (Or.inl (jtF_ok rfl))) (aAllc (jokF_of rfl (by decide) rfl rfl rfl (Or.inl (jtF_ok rfl))) (aAllc (jokF_of rfl (by decide) rfl rfl rfl (Or.inl (jtF_ok rfl))) (aAllc (jokF_of rfl (by decide) rfl rfl rfl (Or.inl (jtF_ok rfl))) (aAllc (jokF_of rfl (by decide) rfl rfl rfl (Or.inl (jtF_ok rfl))) (aAllc (jokF_of rfl (by decide) rfl rfl rfl (Or.inl (jtF_ok rfl))) (aAllc (jokF_of rfl (by decide) rfl rfl rfl (Or.inl (jtF_ok rfl))) (aAllc (jokF_of rfl (by decide) rfl rfl rfl (Or.inl (jtF_ok rfl))) (aAllc (jokF_of rfl (by decide) rfl rfl rfl (Or.inl (jtF_ok rfl))) (aAllc (jokF_of rfl (by decide) rfl rfl rfl (Or.inl (jtF_ok rfl))) (aAllc (jokF_of rfl (by decide) rfl rfl rfl (Or.inl (jtF_ok rfl))) (aAllc (jokF_of rfl (by decide) rfl rfl rfl (Or.inl (jtF_ok rfl))) (aAllc (jokF_of rfl (by decide) rfl rfl rfl (Or.inl (jtF_ok rfl))) (aAllc (jokF_of rfl (by decide) rfl rfl rfl (Or.inl (jtF_ok rfl))) (aAllc (jokF_of rfl (by decide) rfl rfl rfl (Or.inl (jtF_ok rfl))) (aAllc (jokF_of rfl (by decide) rfl rfl rfl (Or.inl (jtF_ok rfl))) (aAllc (jokF_of rfl (by decide) rfl rfl rfl (Or.inl (jtF_ok rfl))) (aAllc (jokF_of rfl (by decide) rfl rfl rfl (Or.inl (jtF_ok rfl))) (aAllc (jokF_of rfl (by decide) rfl rfl rfl (Or.inl (jtF_ok rfl))) (aAllc (jokF_of rfl (by decide) rfl rfl rfl (Or.inl (jtF_ok rfl))) (aAllc (jokF_of rfl (by decide) rfl rfl rfl (Or.inl (jtF_ok rfl))) (aAllc (jokF_of rfl (by decide) rfl rfl rfl (Or.inl (jtF_ok rfl))) (aAllc (jokF_of rfl (by decide) rfl rfl rfl (Or.inl (jtF_ok rfl))) (aAllc (jokF_of rfl (by decide) rfl rfl rfl (Or.inl (jtF_ok rfl))) (aAllc (jokF_of rfl (by decide) rfl rfl rfl (Or.inl (jtF_ok rfl))) (aAllc (jokF_of rfl (by decide) rfl rfl rfl (Or.inl (jtF_ok rfl))) (aAllc (jokF_of rfl (by decide) rfl rfl rfl (Or.inl (jtF_ok rfl))) (fun q h => by cases h))))))))))))))))))))))))))))))))))))))))), (aAllc (⟨jokF_of rfl (by decide) rfl rfl rfl (Or.inl (jtF_ok rfl)), _, rfl, rfl, by decide +kernel⟩) (aAllc (⟨jokF_of rfl (by decide) rfl rfl rfl (Or.inl (jtF_ok rfl)), _, rfl, rfl, by decide +kernel⟩) (aAllc (⟨jokF_of rfl (by decide) rfl rfl rfl (Or.inl (jtF_ok rfl)), _, rfl, rfl, by decide +kernel⟩) (aAllc (⟨jokF_of rfl (by decide) rfl rfl rfl (Or.inl (jtF_ok rfl)), _, rfl, rfl, by decide +kernel⟩) (aAllc (⟨jokF_of rfl (by decide) rfl rfl rfl (Or.inl (jtF_ok rfl)), _, rfl, rfl, by decide +kernel⟩) (aAllc (⟨jokF_of rfl (by decide) rfl rfl rfl (Or.inl (jtF_ok rfl)), _, rfl, rfl, by decide +kernel⟩) (aAllc (⟨jokF_of rfl (by decide) rfl rfl rfl (Or.inl (jtF_ok rfl)), _, rfl, rfl, by decide +kernel⟩) (aAllc (⟨jokF_of rfl (by decide) rfl rfl rfl (Or.inl (jtF_ok rfl)), _, rfl, rfl, by decide +kernel⟩) (aAllc (⟨jokF_of rfl (by decide) rfl rfl rfl (Or.inl (jtF_ok rfl)), _, rfl, rfl, by decide +kernel⟩) (aAllc (⟨jokF_of rfl (by decide) rfl rfl rfl (Or.inl (jtF_ok rfl)), _, rfl, rfl, by decide +kernel⟩) (aAllc (⟨jokF_of rfl (by decide) rfl rfl rfl (Or.inl (jtF_ok rfl)), _, rfl, rfl, by decide +kernel⟩) (aAllc (⟨jokF_of rfl (by decide) rfl rfl rfl (Or.inl (jtF_ok rfl)), _, rfl, rfl, by decide +kernel⟩) (aAllc (⟨jokF_of rfl (by decide) rfl rfl rfl (Or.inl (jtF_ok rfl)), _, rfl, rfl, by decide +kernel⟩) (aAllc (⟨jokF_of rfl (by decide) rfl rfl rfl (Or.inl (jtF_ok rfl)), _, rfl, rfl, by decide +kernel⟩) (aAllc (⟨jokF_of rfl (by decide) rfl rfl rfl (Or.inl (jtF_ok rfl)), _, rfl, rfl, by decide +kernel⟩) (fun q h => by cases h)))))))))))))))), (fun q h => by cases h)⟩
noncomputable def lk_MB : jLk := ([(10, 13, 1, 2172), (16, 13, 2, 2174), (20, 13, 5, 2180), (24, 13, 9, 2188), (27, 13, 10, 2189), (30, 13, 11, 2190), (33, 13, 12, 2191), (36, 13, 13, 2192), (39, 13, 14, 2193), (42, 13, 15, 2194), (45, 13, 16, 2195), (48, 13, 17, 2196), (51, 13, 18, 2197), (54, 13, 19, 2198), (57, 13, 20, 2199), (60, 13, 21, 2200), (63, 13, 22, 2201), (66, 13, 28, 2210), (69, 13, 30, 2214), (72, 13, 33, 2220), (75, 13, 34, 2222), (110, 13, 3, 2176), (116, 13, 4, 2178), (133, 13, 6, 2182), (156, 13, 7, 2184), (165, 13, 8, 2186), (205, 13, 23, 2202), (220, 13, 27, 2208), (223, 13, 25, 2205), (226, 13, 24, 2204), (235, 13, 26, 2206), (255, 13, 29, 2212), (258, 13, 31, 2216), (261, 13, 32, 2218), (267, 13, 0, 2171), (305, 13, 35, 2223), (308, 13, 36, 2225)], [(20, 13, 5, 2180, 0), (110, 13, 3, 2176, 0), (116, 13, 4, 2178, 0), (133, 13, 6, 2182, 0), (156, 13, 7, 2184, 0), (205, 13, 23, 2202, 1), (220, 13, 27, 2208, 0), (223, 13, 25, 2205, 0), (226, 13, 24, 2204, 0), (235, 13, 26, 2206, 0), (255, 13, 29, 2212, 0), (258, 13, 31, 2216, 0), (261, 13, 32, 2218, 1), (305, 13, 35, 2223, 3), (308, 13, 36, 2225, 0)], [])
theorem lo_MB : jLkOk "ChessHouseModel$Board" lw_tbl jcl jtb lk_MB := ⟨(aAllc (jokF_of rfl (by decide) rfl rfl rfl (Or.inl (jtF_ok rfl))) (aAllc (jokF_of rfl (by decide) rfl rfl rfl (Or.inl (jtF_ok rfl))) (aAllc (jokF_of rfl (by decide) rfl rfl rfl (Or.inl (jtF_ok rfl))) (aAllc (jokF_of rfl (by decide) rfl rfl rfl (Or.inl (jtF_ok rfl))) (aAllc (jokF_of rfl (by decide) rfl rfl rfl (Or.inl (jtF_ok rfl))) (aAllc (jokF_of rfl (by decide) rfl rfl rfl (Or.inl (jtF_ok rfl))) (aAllc (jokF_of rfl (by decide) rfl rfl rfl (Or.inl (jtF_ok rfl))) (aAllc (jokF_of rfl (by decide) rfl rfl rfl (Or.inl (jtF_ok rfl))) (aAllc (jokF_of rfl (by decide) rfl rfl rfl (Or.inl (jtF_ok rfl))) (aAllc (jokF_of rfl (by decide) rfl rfl rfl (Or.inl (jtF_ok rfl))) (aAllc (jokF_of rfl (by decide) rfl rfl rfl (Or.inl (jtF_ok rfl))) (aAllc (jokF_of rfl (by decide) rfl rfl rfl (Or.inl (jtF_ok rfl))) (aAllc (jokF_of rfl (by decide) rfl rfl rfl (Or.inl (jtF_ok rfl))) (aAllc (jokF_of rfl (by decide) rfl rfl rfl (Or.inl (jtF_ok rfl))) (aAllc (jokF_of rfl (by decide) rfl rfl rfl (Or.inl (jtF_ok rfl))) (aAllc (jokF_of rfl (by decide) rfl rfl rfl (Or.inl (jtF_ok rfl))) (aAllc (jokF_of rfl (by decide) rfl rfl rfl (Or.inl (jtF_ok rfl))) (aAllc (jokF_of rfl (by decide) rfl rfl rfl (Or.inl (jtF_ok rfl))) (aAllc (jokF_of rfl (by decide) rfl rfl rfl (Or.inl (jtF_ok rfl))) (aAllc (jokF_of rfl (by decide) rfl rfl rfl (Or.inl (jtF_ok rfl))) (aAllc (jokF_of rfl (by decide) rfl rfl rfl (Or.inl (jtF_ok rfl))) (aAllc (jokF_of rfl (by decide) rfl rfl rfl (Or.inl (jtF_ok rfl))) (aAllc (jokF_of rfl (by decide) rfl rfl rfl (Or.inl (jtF_ok rfl))) (aAllc (jokF_of rfl (by decide) rfl rfl rfl (Or.inl (jtF_ok rfl))) (aAllc (jokF_of rfl (by decide) rfl rfl rfl (Or.inl (jtF_ok rfl))) (aAllc (jokF_of rfl (by decide) rfl rfl rfl (Or.inl (jtF_ok rfl))) (aAllc (jokF_of rfl (by decide) rfl rfl rfl (Or.inl (jtF_ok rfl))) (aAllc (jokF_of rfl (by decide) rfl rfl rfl (Or.inl (jtF_ok rfl))) (aAllc (jokF_of rfl (by decide) rfl rfl rfl (Or.inl (jtF_ok rfl))) (aAllc (jokF_of rfl (by decide) rfl rfl rfl (Or.inl (jtF_ok rfl))) (aAllc (jokF_of rfl (by decide) rfl rfl rfl (Or.inl (jtF_ok rfl))) (aAllc (jokF_of rfl (by decide) rfl rfl rfl (Or.inl (jtF_ok rfl))) (aAllc (jokF_of rfl (by decide) rfl rfl rfl (Or.inl (jtF_ok rfl))) (aAllc (jokF_of rfl (by decide) rfl rfl rfl (Or.inl (jtF_ok rfl))) (aAllc (jokF_of rfl (by decide) rfl rfl rfl (Or.inl (jtF_ok rfl))) (aAllc (jokF_of rfl (by decide) rfl rfl rfl (Or.inl (jtF_ok rfl))) (aAllc (jokF_of rfl (by decide) rfl rfl rfl (Or.inl (jtF_ok rfl))) (fun q h => by cases h)))))))))))))))))))))))))))))))))))))), (aAllc (⟨jokF_of rfl (by decide) rfl rfl rfl (Or.inl (jtF_ok rfl)), _, rfl, rfl, by decide +kernel⟩) (aAllc (⟨jokF_of rfl (by decide) rfl rfl rfl (Or.inl (jtF_ok rfl)), _, rfl, rfl, by decide +kernel⟩) (aAllc (⟨jokF_of rfl (by decide) rfl rfl rfl (Or.inl (jtF_ok rfl)), _, rfl, rfl, by decide +kernel⟩) (aAllc (⟨jokF_of rfl (by decide) rfl rfl rfl (Or.inl (jtF_ok rfl)), _, rfl, rfl, by decide +kernel⟩) (aAllc (⟨jokF_of rfl (by decide) rfl rfl rfl (Or.inl (jtF_ok rfl)), _, rfl, rfl, by decide +kernel⟩) (aAllc (⟨jokF_of rfl (by decide) rfl rfl rfl (Or.inl (jtF_ok rfl)), _, rfl, rfl, by decide +kernel⟩) (aAllc (⟨jokF_of rfl (by decide) rfl rfl rfl (Or.inl (jtF_ok rfl)), _, rfl, rfl, by decide +kernel⟩) (aAllc (⟨jokF_of rfl (by decide) rfl rfl rfl (Or.inl (jtF_ok rfl)), _, rfl, rfl, by decide +kernel⟩) (aAllc (⟨jokF_of rfl (by decide) rfl rfl rfl (Or.inl (jtF_ok rfl)), _, rfl, rfl, by decide +kernel⟩) (aAllc (⟨jokF_of rfl (by decide) rfl rfl rfl (Or.inl (jtF_ok rfl)), _, rfl, rfl, by decide +kernel⟩) (aAllc (⟨jokF_of rfl (by decide) rfl rfl rfl (Or.inl (jtF_ok rfl)), _, rfl, rfl, by decide +kernel⟩) (aAllc (⟨jokF_of rfl (by decide) rfl rfl rfl (Or.inl (jtF_ok rfl)), _, rfl, rfl, by decide +kernel⟩) (aAllc (⟨jokF_of rfl (by decide) rfl rfl rfl (Or.inl (jtF_ok rfl)), _, rfl, rfl, by decide +kernel⟩) (aAllc (⟨jokF_of rfl (by decide) rfl rfl rfl (Or.inl (jtF_ok rfl)), _, rfl, rfl, by decide +kernel⟩) (aAllc (⟨jokF_of rfl (by decide) rfl rfl rfl (Or.inl (jtF_ok rfl)), _, rfl, rfl, by decide +kernel⟩) (fun q h => by cases h)))))))))))))))), (fun q h => by cases h)⟩
noncomputable def lk_ME : jLk := ([(8, 14, 3, 3056), (14, 14, 4, 3057), (18, 14, 5, 3058), (22, 14, 12, 3065), (25, 14, 1, 3054), (29, 14, 2, 3055), (32, 14, 0, 3053), (116, 14, 6, 3059), (120, 14, 7, 3060), (123, 14, 8, 3061), (126, 14, 9, 3062), (129, 14, 10, 3063), (132, 14, 11, 3064), (135, 14, 13, 3066)], [(32, 14, 0, 3053, 0), (116, 14, 6, 3059, 1), (120, 14, 7, 3060, 0), (123, 14, 8, 3061, 0), (126, 14, 9, 3062, 0), (129, 14, 10, 3063, 0), (132, 14, 11, 3064, 0), (135, 14, 13, 3066, 0)], [])
theorem lo_ME : jLkOk "ChessHouseModel$Ends" lw_tbl jcl jtb lk_ME := ⟨(aAllc (jokF_of rfl (by decide) rfl rfl rfl (Or.inl (jtF_ok rfl))) (aAllc (jokF_of rfl (by decide) rfl rfl rfl (Or.inl (jtF_ok rfl))) (aAllc (jokF_of rfl (by decide) rfl rfl rfl (Or.inl (jtF_ok rfl))) (aAllc (jokF_of rfl (by decide) rfl rfl rfl (Or.inl (jtF_ok rfl))) (aAllc (jokF_of rfl (by decide) rfl rfl rfl (Or.inl (jtF_ok rfl))) (aAllc (jokF_of rfl (by decide) rfl rfl rfl (Or.inl (jtF_ok rfl))) (aAllc (jokF_of rfl (by decide) rfl rfl rfl (Or.inl (jtF_ok rfl))) (aAllc (jokF_of rfl (by decide) rfl rfl rfl (Or.inl (jtF_ok rfl))) (aAllc (jokF_of rfl (by decide) rfl rfl rfl (Or.inl (jtF_ok rfl))) (aAllc (jokF_of rfl (by decide) rfl rfl rfl (Or.inl (jtF_ok rfl))) (aAllc (jokF_of rfl (by decide) rfl rfl rfl (Or.inl (jtF_ok rfl))) (aAllc (jokF_of rfl (by decide) rfl rfl rfl (Or.inl (jtF_ok rfl))) (aAllc (jokF_of rfl (by decide) rfl rfl rfl (Or.inl (jtF_ok rfl))) (aAllc (jokF_of rfl (by decide) rfl rfl rfl (Or.inl (jtF_ok rfl))) (fun q h => by cases h))))))))))))))), (aAllc (⟨jokF_of rfl (by decide) rfl rfl rfl (Or.inl (jtF_ok rfl)), _, rfl, rfl, by decide +kernel⟩) (aAllc (⟨jokF_of rfl (by decide) rfl rfl rfl (Or.inl (jtF_ok rfl)), _, rfl, rfl, by decide +kernel⟩) (aAllc (⟨jokF_of rfl (by decide) rfl rfl rfl (Or.inl (jtF_ok rfl)), _, rfl, rfl, by decide +kernel⟩) (aAllc (⟨jokF_of rfl (by decide) rfl rfl rfl (Or.inl (jtF_ok rfl)), _, rfl, rfl, by decide +kernel⟩) (aAllc (⟨jokF_of rfl (by decide) rfl rfl rfl (Or.inl (jtF_ok rfl)), _, rfl, rfl, by decide +kernel⟩) (aAllc (⟨jokF_of rfl (by decide) rfl rfl rfl (Or.inl (jtF_ok rfl)), _, rfl, rfl, by decide +kernel⟩) (aAllc (⟨jokF_of rfl (by decide) rfl rfl rfl (Or.inl (jtF_ok rfl)), _, rfl, rfl, by decide +kernel⟩) (aAllc (⟨jokF_of rfl (by decide) rfl rfl rfl (Or.inl (jtF_ok rfl)), _, rfl, rfl, by decide +kernel⟩) (fun q h => by cases h))))))))), (fun q h => by cases h)⟩
theorem ql_CH_96 : jlm lw_tbl 934 "ChessHouse" 96 ⟨"ChessHouse", "takeFour", "(I)V"⟩ = true := jlm_of (Or.inl (jtF_ok rfl))
theorem ql_CH_102 : jlm lw_tbl 961 "ChessHouse" 102 ⟨"ChessHouse$Bytes", "clear", "()V"⟩ = true := jlm_of (Or.inl (jtF_ok rfl))
theorem ql_CH_111 : jlm lw_tbl 965 "ChessHouse" 111 ⟨"ChessHouse", "lineStop", "(I)I"⟩ = true := jlm_of (Or.inl (jtF_ok rfl))
theorem ql_CH_115 : jlm lw_tbl 969 "ChessHouse" 115 ⟨"ChessHouse$Words", "take", "([BII)LChessHouse$Command;"⟩ = true := jlm_of (Or.inl (jtF_ok rfl))
theorem ql_CH_143 : jlm lw_tbl 1049 "ChessHouse" 143 ⟨"ChessHouse$Game", "clear", "()V"⟩ = true := jlm_of (Or.inl (jtF_ok rfl))
theorem ql_CH_144 : jlm lw_tbl 1054 "ChessHouse" 144 ⟨"ChessHouse", "answerNothing", "()V"⟩ = true := jlm_of (Or.inl (jtF_ok rfl))
theorem ql_CH_147 : jlm lw_tbl 1062 "ChessHouse" 147 ⟨"ChessHouse", "setUp", "()V"⟩ = true := jlm_of (Or.inl (jtF_ok rfl))
theorem ql_CH_150 : jlm lw_tbl 1204 "ChessHouse" 150 ⟨"ChessHouse", "gameStop", "(I)I"⟩ = true := jlm_of (Or.inl (jtF_ok rfl))
theorem ql_CH_153 : jlm lw_tbl 1208 "ChessHouse" 153 ⟨"ChessHouse$GameReader", "read", "(LChessHouse$Game;[BII)I"⟩ = true := jlm_of (Or.inl (jtF_ok rfl))
theorem ql_CH_157 : jlm lw_tbl 1429 "ChessHouse" 157 ⟨"ChessHouse", "answerGame", "(I)V"⟩ = true := jlm_of (Or.inl (jtF_ok rfl))
theorem ql_CH_160 : jlm lw_tbl 1438 "ChessHouse" 160 ⟨"ChessHouse$GameWriter", "answer", "(LChessHouse$Game;LChessHouse$Bytes;)V"⟩ = true := jlm_of (Or.inl (jtF_ok rfl))
theorem ql_CH_164 : jlm lw_tbl 1510 "ChessHouse" 164 ⟨"ChessHouse", "answerFen", "()V"⟩ = true := jlm_of (Or.inl (jtF_ok rfl))
theorem ql_CH_167 : jlm lw_tbl 1525 "ChessHouse" 167 ⟨"ChessHouse", "answerMoves", "()V"⟩ = true := jlm_of (Or.inl (jtF_ok rfl))
theorem ql_CH_170 : jlm lw_tbl 1539 "ChessHouse" 170 ⟨"ChessHouse", "answerOthers", "()V"⟩ = true := jlm_of (Or.inl (jtF_ok rfl))
theorem ql_CH_173 : jlm lw_tbl 1543 "ChessHouse" 173 ⟨"ChessHouse", "play", "()V"⟩ = true := jlm_of (Or.inl (jtF_ok rfl))
theorem ql_CH_176 : jlm lw_tbl 1560 "ChessHouse" 176 ⟨"ChessHouse", "back", "()V"⟩ = true := jlm_of (Or.inl (jtF_ok rfl))
theorem ql_CH_179 : jlm lw_tbl 1571 "ChessHouse" 179 ⟨"ChessHouse", "go", "()V"⟩ = true := jlm_of (Or.inl (jtF_ok rfl))
theorem ql_CH_182 : jlm lw_tbl 1575 "ChessHouse" 182 ⟨"ChessHouse", "mark", "()V"⟩ = true := jlm_of (Or.inl (jtF_ok rfl))
theorem ql_CH_185 : jlm lw_tbl 1580 "ChessHouse" 185 ⟨"ChessHouse", "say", "()V"⟩ = true := jlm_of (Or.inl (jtF_ok rfl))
theorem ql_CH_188 : jlm lw_tbl 1585 "ChessHouse" 188 ⟨"ChessHouse", "lead", "()V"⟩ = true := jlm_of (Or.inl (jtF_ok rfl))
theorem ql_CH_191 : jlm lw_tbl 1598 "ChessHouse" 191 ⟨"ChessHouse", "endWith", "()V"⟩ = true := jlm_of (Or.inl (jtF_ok rfl))
theorem ql_CH_194 : jlm lw_tbl 1604 "ChessHouse" 194 ⟨"ChessHouse", "tag", "()V"⟩ = true := jlm_of (Or.inl (jtF_ok rfl))
theorem ql_CH_197 : jlm lw_tbl 1614 "ChessHouse" 197 ⟨"ChessHouse", "answerState", "()V"⟩ = true := jlm_of (Or.inl (jtF_ok rfl))
theorem ql_CH_200 : jlm lw_tbl 1627 "ChessHouse" 200 ⟨"ChessHouse", "answerWays", "()V"⟩ = true := jlm_of (Or.inl (jtF_ok rfl))
theorem ql_CH_207 : jlm lw_tbl 1646 "ChessHouse" 207 ⟨"ChessHouse$Board", "sight", "()I"⟩ = true := jlm_of (Or.inl (jtF_ok rfl))
theorem ql_CH_210 : jlm lw_tbl 1433 "ChessHouse" 210 ⟨"ChessHouse", "answerNumber", "(J)V"⟩ = true := jlm_of (Or.inl (jtF_ok rfl))
theorem ql_CH_214 : jlm lw_tbl 1653 "ChessHouse" 214 ⟨"ChessHouse", "think", "()V"⟩ = true := jlm_of (Or.inl (jtF_ok rfl))
theorem ql_CH_217 : jlm lw_tbl 1709 "ChessHouse" 217 ⟨"ChessHouse", "test", "()V"⟩ = true := jlm_of (Or.inl (jtF_ok rfl))
theorem ql_CH_220 : jlm lw_tbl 1723 "ChessHouse" 220 ⟨"ChessHouse", "table", "()V"⟩ = true := jlm_of (Or.inl (jtF_ok rfl))
theorem ql_CH_223 : jlm lw_tbl 1727 "ChessHouse" 223 ⟨"ChessHouse", "answerKeys", "()V"⟩ = true := jlm_of (Or.inl (jtF_ok rfl))
theorem ql_CH_226 : jlm lw_tbl 1765 "ChessHouse" 226 ⟨"ChessHouse", "answerLeast", "()V"⟩ = true := jlm_of (Or.inl (jtF_ok rfl))
theorem ql_CH_229 : jlm lw_tbl 1770 "ChessHouse" 229 ⟨"ChessHouse", "answerRefuter", "()V"⟩ = true := jlm_of (Or.inl (jtF_ok rfl))
theorem ql_CH_232 : jlm lw_tbl 1776 "ChessHouse" 232 ⟨"ChessHouse", "answerHelp", "()V"⟩ = true := jlm_of (Or.inl (jtF_ok rfl))
theorem ql_CH_235 : jlm lw_tbl 1793 "ChessHouse" 235 ⟨"ChessHouse", "answerLine", "()V"⟩ = true := jlm_of (Or.inl (jtF_ok rfl))
theorem ql_CH_241 : jlm lw_tbl 1070 "ChessHouse" 241 ⟨"ChessHouse", "fault", "(I)V"⟩ = true := jlm_of (Or.inl (jtF_ok rfl))
theorem ql_CH_244 : jlm lw_tbl 1058 "ChessHouse" 244 ⟨"ChessHouse$Bytes", "add", "(I)V"⟩ = true := jlm_of (Or.inl (jtF_ok rfl))
theorem ql_CH_247 : jlm lw_tbl 1074 "ChessHouse" 247 ⟨"ChessHouse", "tell", "(J)V"⟩ = true := jlm_of (Or.inl (jtF_ok rfl))
theorem ql_CH_250 : jlm lw_tbl 1078 "ChessHouse" 250 ⟨"ChessHouse$Bytes", "number", "(J)V"⟩ = true := jlm_of (Or.inl (jtF_ok rfl))
theorem ql_CH_253 : jlm lw_tbl 1538 "ChessHouse" 253 ⟨"ChessHouse$Signs", "write", "(LChessHouse$Board;ILChessHouse$Bytes;)V"⟩ = true := jlm_of (Or.inl (jtF_ok rfl))
theorem ql_CH_257 : jlm lw_tbl 1066 "ChessHouse" 257 ⟨"ChessHouse$Words", "behindSpaces", "(I)I"⟩ = true := jlm_of (Or.inl (jtF_ok rfl))
theorem ql_CH_263 : jlm lw_tbl 1085 "ChessHouse" 263 ⟨"ChessHouse$Board", "readText", "([BII)I"⟩ = true := jlm_of (Or.inl (jtF_ok rfl))
theorem ql_CH_267 : jlm lw_tbl 1183 "ChessHouse" 267 ⟨"ChessHouse", "fault", "(II)V"⟩ = true := jlm_of (Or.inl (jtF_ok rfl))
theorem ql_CH_273 : jlm lw_tbl 1189 "ChessHouse" 273 ⟨"ChessHouse$Game", "setTag", "([BII[BII)V"⟩ = true := jlm_of (Or.inl (jtF_ok rfl))
theorem ql_CH_277 : jlm lw_tbl 1200 "ChessHouse" 277 ⟨"ChessHouse", "swapGames", "()V"⟩ = true := jlm_of (Or.inl (jtF_ok rfl))
theorem ql_CH_288 : jlm lw_tbl 1514 "ChessHouse" 288 ⟨"ChessHouse$Board", "writeText", "(LChessHouse$Bytes;)V"⟩ = true := jlm_of (Or.inl (jtF_ok rfl))
theorem ql_CH_292 : jlm lw_tbl 1529 "ChessHouse" 292 ⟨"ChessHouse$Board", "legal", "([III)I"⟩ = true := jlm_of (Or.inl (jtF_ok rfl))
theorem ql_CH_296 : jlm lw_tbl 1530 "ChessHouse" 296 ⟨"ChessHouse$Board", "sort", "([III)V"⟩ = true := jlm_of (Or.inl (jtF_ok rfl))
theorem ql_CH_300 : jlm lw_tbl 1534 "ChessHouse" 300 ⟨"ChessHouse", "answerList", "(I)V"⟩ = true := jlm_of (Or.inl (jtF_ok rfl))
theorem ql_CH_318 : jlm lw_tbl 1547 "ChessHouse" 318 ⟨"ChessHouse$Words", "wordStop", "(I)I"⟩ = true := jlm_of (Or.inl (jtF_ok rfl))
theorem ql_CH_321 : jlm lw_tbl 1548 "ChessHouse" 321 ⟨"ChessHouse$Signs", "read", "(LChessHouse$Board;[BII)I"⟩ = true := jlm_of (Or.inl (jtF_ok rfl))
theorem ql_CH_324 : jlm lw_tbl 1549 "ChessHouse" 324 ⟨"ChessHouse$Game", "play", "(I)Z"⟩ = true := jlm_of (Or.inl (jtF_ok rfl))
theorem ql_CH_327 : jlm lw_tbl 1564 "ChessHouse" 327 ⟨"ChessHouse$Words", "number", "(III)I"⟩ = true := jlm_of (Or.inl (jtF_ok rfl))
theorem ql_CH_334 : jlm lw_tbl 1570 "ChessHouse" 334 ⟨"ChessHouse$Game", "goTo", "(I)V"⟩ = true := jlm_of (Or.inl (jtF_ok rfl))
theorem ql_CH_337 : jlm lw_tbl 1579 "ChessHouse" 337 ⟨"ChessHouse$Game", "addMark", "(I)Z"⟩ = true := jlm_of (Or.inl (jtF_ok rfl))
theorem ql_CH_346 : jlm lw_tbl 1584 "ChessHouse" 346 ⟨"ChessHouse$Game", "addRemark", "([BII)Z"⟩ = true := jlm_of (Or.inl (jtF_ok rfl))
theorem ql_CH_350 : jlm lw_tbl 1589 "ChessHouse" 350 ⟨"ChessHouse$Game", "goesOn", "(I)Z"⟩ = true := jlm_of (Or.inl (jtF_ok rfl))
theorem ql_CH_353 : jlm lw_tbl 1590 "ChessHouse" 353 ⟨"ChessHouse$Game", "tooDeepIfLed", "(I)Z"⟩ = true := jlm_of (Or.inl (jtF_ok rfl))
theorem ql_CH_356 : jlm lw_tbl 1594 "ChessHouse" 356 ⟨"ChessHouse$Game", "lead", "(I)V"⟩ = true := jlm_of (Or.inl (jtF_ok rfl))
theorem ql_CH_358 : jlm lw_tbl 1602 "ChessHouse" 358 ⟨"ChessHouse$Game", "resultSign", "(I)Ljava/lang/String;"⟩ = true := jlm_of (Or.inl (jtF_ok rfl))
theorem ql_CH_362 : jlm lw_tbl 1603 "ChessHouse" 362 ⟨"ChessHouse$Words", "is", "(ILjava/lang/String;)Z"⟩ = true := jlm_of (Or.inl (jtF_ok rfl))
theorem ql_CH_369 : jlm lw_tbl 1608 "ChessHouse" 369 ⟨"ChessHouse$Game", "isName", "([BII)Z"⟩ = true := jlm_of (Or.inl (jtF_ok rfl))
theorem ql_CH_372 : jlm lw_tbl 1612 "ChessHouse" 372 ⟨"ChessHouse$Game", "findTag", "([BII)I"⟩ = true := jlm_of (Or.inl (jtF_ok rfl))
theorem ql_CH_375 : jlm lw_tbl 1613 "ChessHouse" 375 ⟨"ChessHouse$Game", "isFen", "([BII)Z"⟩ = true := jlm_of (Or.inl (jtF_ok rfl))
theorem ql_CH_381 : jlm lw_tbl 1618 "ChessHouse" 381 ⟨"ChessHouse$Board", "stood", "()I"⟩ = true := jlm_of (Or.inl (jtF_ok rfl))
theorem ql_CH_384 : jlm lw_tbl 1622 "ChessHouse" 384 ⟨"ChessHouse$Board", "inCheck", "()Z"⟩ = true := jlm_of (Or.inl (jtF_ok rfl))
theorem ql_CH_388 : jlm lw_tbl 1623 "ChessHouse" 388 ⟨"ChessHouse$Board", "tooLittle", "()Z"⟩ = true := jlm_of (Or.inl (jtF_ok rfl))
theorem ql_CH_395 : jlm lw_tbl 1632 "ChessHouse" 395 ⟨"ChessHouse$Board", "tooMuch", "(II)Z"⟩ = true := jlm_of (Or.inl (jtF_ok rfl))
theorem ql_CH_399 : jlm lw_tbl 1638 "ChessHouse" 399 ⟨"ChessHouse$Search", "ways", "(LChessHouse$Board;II)J"⟩ = true := jlm_of (Or.inr ⟨_, jtF_ok rfl⟩)
theorem ql_CH_409 : jlm lw_tbl 1659 "ChessHouse" 409 ⟨"ChessHouse$Search", "prepare", "(LChessHouse$Board;Z)V"⟩ = true := jlm_of (Or.inl (jtF_ok rfl))
theorem ql_CH_413 : jlm lw_tbl 1663 "ChessHouse" 413 ⟨"ChessHouse$Search", "best", "(II)I"⟩ = true := jlm_of (Or.inl (jtF_ok rfl))
theorem ql_CH_420 : jlm lw_tbl 1693 "ChessHouse" 420 ⟨"ChessHouse", "tellSigns", "(I)V"⟩ = true := jlm_of (Or.inl (jtF_ok rfl))
theorem ql_CH_423 : jlm lw_tbl 1697 "ChessHouse" 423 ⟨"ChessHouse$Search", "makeBest", "()V"⟩ = true := jlm_of (Or.inl (jtF_ok rfl))
theorem ql_CH_426 : jlm lw_tbl 1701 "ChessHouse" 426 ⟨"ChessHouse$Search", "isByRule", "()Z"⟩ = true := jlm_of (Or.inl (jtF_ok rfl))
theorem ql_CH_429 : jlm lw_tbl 1705 "ChessHouse" 429 ⟨"ChessHouse$Search", "takeBack", "()V"⟩ = true := jlm_of (Or.inl (jtF_ok rfl))
theorem ql_CH_434 : jlm lw_tbl 1715 "ChessHouse" 434 ⟨"ChessHouse", "faultOfSigns", "(I)V"⟩ = true := jlm_of (Or.inl (jtF_ok rfl))
theorem ql_CH_437 : jlm lw_tbl 1719 "ChessHouse" 437 ⟨"ChessHouse$Search", "isAtLeast", "(III)Z"⟩ = true := jlm_of (Or.inl (jtF_ok rfl))
theorem ql_CH_449 : jlm lw_tbl 1739 "ChessHouse" 449 ⟨"ChessHouse$Problems", "prepare", "(LChessHouse$Board;ZZI)V"⟩ = true := jlm_of (Or.inl (jtF_ok rfl))
theorem ql_CH_455 : jlm lw_tbl 1731 "ChessHouse" 455 ⟨"ChessHouse", "problemMoves", "()I"⟩ = true := jlm_of (Or.inl (jtF_ok rfl))
theorem ql_CH_458 : jlm lw_tbl 1743 "ChessHouse" 458 ⟨"ChessHouse", "isTooMuchProblem", "(I)Z"⟩ = true := jlm_of (Or.inl (jtF_ok rfl))
theorem ql_CH_461 : jlm lw_tbl 1747 "ChessHouse" 461 ⟨"ChessHouse$Problems", "refuter", "(III)I"⟩ = true := jlm_of (Or.inr ⟨_, jtF_ok rfl⟩)
theorem ql_CH_464 : jlm lw_tbl 1769 "ChessHouse" 464 ⟨"ChessHouse$Problems", "isSolvable", "(II)Z"⟩ = true := jlm_of (Or.inr ⟨_, jtF_ok rfl⟩)
theorem ql_CH_467 : jlm lw_tbl 1774 "ChessHouse" 467 ⟨"ChessHouse$Board", "make", "(I)J"⟩ = true := jlm_of (Or.inl (jtF_ok rfl))
theorem ql_CH_471 : jlm lw_tbl 1775 "ChessHouse" 471 ⟨"ChessHouse$Board", "unmake", "(IJ)V"⟩ = true := jlm_of (Or.inl (jtF_ok rfl))
theorem ql_CH_475 : jlm lw_tbl 1780 "ChessHouse" 475 ⟨"ChessHouse", "helpMoves", "()I"⟩ = true := jlm_of (Or.inl (jtF_ok rfl))
theorem ql_CH_478 : jlm lw_tbl 1784 "ChessHouse" 478 ⟨"ChessHouse", "isTooMuchHelp", "(I)Z"⟩ = true := jlm_of (Or.inl (jtF_ok rfl))
theorem ql_CH_484 : jlm lw_tbl 1788 "ChessHouse" 484 ⟨"ChessHouse$Problems", "help", "(II)V"⟩ = true := jlm_of (Or.inr ⟨_, jtF_ok rfl⟩)
theorem ql_CH_500 : jlm lw_tbl 1801 "ChessHouse" 500 ⟨"ChessHouse$Board", "isEnding", "()Z"⟩ = true := jlm_of (Or.inl (jtF_ok rfl))
theorem ql_CH_506 : jlm lw_tbl 1866 "ChessHouse" 506 ⟨"ChessHouse$Endings", "look", "(LChessHouse$Board;)V"⟩ = true := jlm_of (Or.inl (jtF_ok rfl))
theorem ql_BO_67 : jlm lw_tbl 637 "ChessHouse$Board" 67 ⟨"ChessHouse$Board", "middle", "(I)I"⟩ = true := jlm_of (Or.inl (jtF_ok rfl))
theorem ql_BO_71 : jlm lw_tbl 648 "ChessHouse$Board" 71 ⟨"java/util/Arrays", "fill", "([II)V"⟩ = true := jlm_of (Or.inl (jtF_ok rfl))
theorem ql_BO_74 : jlm lw_tbl 651 "ChessHouse$Board" 74 ⟨"java/util/Arrays", "fill", "([JJ)V"⟩ = true := jlm_of (Or.inl (jtF_ok rfl))
theorem ql_BO_96 : jlm lw_tbl 644 "ChessHouse$Board" 96 ⟨"ChessHouse$Board", "clear", "()V"⟩ = true := jlm_of (Or.inl (jtF_ok rfl))
theorem ql_BO_102 : jlm lw_tbl 656 "ChessHouse$Board" 102 ⟨"ChessHouse$Board", "put", "(II)V"⟩ = true := jlm_of (Or.inl (jtF_ok rfl))
theorem ql_BO_106 : jlm lw_tbl 1167 "ChessHouse$Board" 106 ⟨"ChessHouse$Board", "attacked", "(II)Z"⟩ = true := jlm_of (Or.inl (jtF_ok rfl))
theorem ql_BO_110 : jlm lw_tbl 1356 "ChessHouse$Board" 110 ⟨"ChessHouse$Board", "pawnMoves", "([III)I"⟩ = true := jlm_of (Or.inl (jtF_ok rfl))
theorem ql_BO_114 : jlm lw_tbl 1360 "ChessHouse$Board" 114 ⟨"ChessHouse$Board", "hopMoves", "([III)I"⟩ = true := jlm_of (Or.inl (jtF_ok rfl))
theorem ql_BO_117 : jlm lw_tbl 1364 "ChessHouse$Board" 117 ⟨"ChessHouse$Board", "kingMoves", "([IIIZ)I"⟩ = true := jlm_of (Or.inl (jtF_ok rfl))
theorem ql_BO_121 : jlm lw_tbl 1368 "ChessHouse$Board" 121 ⟨"ChessHouse$Board", "slideMoves", "([IIII)I"⟩ = true := jlm_of (Or.inl (jtF_ok rfl))
theorem ql_BO_125 : jlm lw_tbl 1179 "ChessHouse$Board" 125 ⟨"ChessHouse$Board", "passedPawn", "()I"⟩ = true := jlm_of (Or.inl (jtF_ok rfl))
theorem ql_BO_129 : jlm lw_tbl 1372 "ChessHouse$Board" 129 ⟨"ChessHouse$Board", "isCastling", "(II)Z"⟩ = true := jlm_of (Or.inl (jtF_ok rfl))
theorem ql_BO_147 : jlm lw_tbl 1299 "ChessHouse$Board" 147 ⟨"ChessHouse$Board", "rest", "()I"⟩ = true := jlm_of (Or.inl (jtF_ok rfl))
theorem ql_BO_150 : jlm lw_tbl 1679 "ChessHouse$Board" 150 ⟨"ChessHouse$Board", "tooLittle", "()Z"⟩ = true := jlm_of (Or.inl (jtF_ok rfl))
theorem ql_BO_154 : jlm lw_tbl 1650 "ChessHouse$Board" 154 ⟨"ChessHouse$Board", "kingWorth", "(II)I"⟩ = true := jlm_of (Or.inl (jtF_ok rfl))
theorem ql_BO_160 : jlm lw_tbl 1089 "ChessHouse$Board" 160 ⟨"ChessHouse$Board", "readMen", "([BII)I"⟩ = true := jlm_of (Or.inl (jtF_ok rfl))
theorem ql_BO_164 : jlm lw_tbl 1153 "ChessHouse$Board" 164 ⟨"ChessHouse$Board", "readSideAndRights", "([BII)I"⟩ = true := jlm_of (Or.inl (jtF_ok rfl))
theorem ql_BO_167 : jlm lw_tbl 1159 "ChessHouse$Board" 167 ⟨"ChessHouse$Board", "readPassed", "([BII)I"⟩ = true := jlm_of (Or.inl (jtF_ok rfl))
theorem ql_BO_170 : jlm lw_tbl 1163 "ChessHouse$Board" 170 ⟨"ChessHouse$Board", "readNumbers", "([BII)I"⟩ = true := jlm_of (Or.inl (jtF_ok rfl))
theorem ql_BO_173 : jlm lw_tbl 1171 "ChessHouse$Board" 173 ⟨"ChessHouse$Board", "rightsStand", "()Z"⟩ = true := jlm_of (Or.inl (jtF_ok rfl))
theorem ql_BO_176 : jlm lw_tbl 1175 "ChessHouse$Board" 176 ⟨"ChessHouse$Board", "passedStands", "()Z"⟩ = true := jlm_of (Or.inl (jtF_ok rfl))
theorem ql_BO_181 : jlm lw_tbl 1094 "ChessHouse$Board" 181 ⟨"java/lang/String", "indexOf", "(I)I"⟩ = true := jlm_of (Or.inl (jtF_ok rfl))
theorem ql_BO_188 : jlm lw_tbl 1158 "ChessHouse$Board" 188 ⟨"java/lang/String", "charAt", "(I)C"⟩ = true := jlm_of (Or.inl (jtF_ok rfl))
theorem ql_BO_192 : jlm lw_tbl 1518 "ChessHouse$Board" 192 ⟨"ChessHouse$Bytes", "add", "(I)V"⟩ = true := jlm_of (Or.inl (jtF_ok rfl))
theorem ql_BO_201 : jlm lw_tbl 1521 "ChessHouse$Board" 201 ⟨"ChessHouse$Bytes", "text", "(Ljava/lang/String;)V"⟩ = true := jlm_of (Or.inl (jtF_ok rfl))
theorem ql_BO_205 : jlm lw_tbl 1522 "ChessHouse$Board" 205 ⟨"ChessHouse$Bytes", "square", "(I)V"⟩ = true := jlm_of (Or.inl (jtF_ok rfl))
theorem ql_BO_210 : jlm lw_tbl 1524 "ChessHouse$Board" 210 ⟨"ChessHouse$Bytes", "number", "(J)V"⟩ = true := jlm_of (Or.inl (jtF_ok rfl))
theorem ql_BY_19 : jlm lw_tbl 1458 "ChessHouse$Bytes" 19 ⟨"java/lang/String", "length", "()I"⟩ = true := jlm_of (Or.inl (jtF_ok rfl))
theorem ql_BY_24 : jlm lw_tbl 1459 "ChessHouse$Bytes" 24 ⟨"java/lang/String", "charAt", "(I)C"⟩ = true := jlm_of (Or.inl (jtF_ok rfl))
theorem ql_BY_28 : jlm lw_tbl 1082 "ChessHouse$Bytes" 28 ⟨"ChessHouse$Bytes", "add", "(I)V"⟩ = true := jlm_of (Or.inl (jtF_ok rfl))
theorem ql_EN_21 : jlm lw_tbl 1809 "ChessHouse$Endings" 21 ⟨"ChessHouse$Endings", "manSquare", "(LChessHouse$Board;)I"⟩ = true := jlm_of (Or.inl (jtF_ok rfl))
theorem ql_EN_43 : jlm lw_tbl 1870 "ChessHouse$Endings" 43 ⟨"ChessHouse$Endings", "distanceOf", "(LChessHouse$Board;I)I"⟩ = true := jlm_of (Or.inl (jtF_ok rfl))
theorem ql_EN_53 : jlm lw_tbl 1874 "ChessHouse$Endings" 53 ⟨"ChessHouse$Board", "legal", "([III)I"⟩ = true := jlm_of (Or.inl (jtF_ok rfl))
theorem ql_EN_57 : jlm lw_tbl 1875 "ChessHouse$Endings" 57 ⟨"ChessHouse$Board", "sort", "([III)V"⟩ = true := jlm_of (Or.inl (jtF_ok rfl))
theorem ql_EN_61 : jlm lw_tbl 1876 "ChessHouse$Endings" 61 ⟨"ChessHouse$Board", "make", "(I)J"⟩ = true := jlm_of (Or.inl (jtF_ok rfl))
theorem ql_EN_65 : jlm lw_tbl 1877 "ChessHouse$Endings" 65 ⟨"ChessHouse$Board", "unmake", "(IJ)V"⟩ = true := jlm_of (Or.inl (jtF_ok rfl))
theorem ql_EN_75 : jlm lw_tbl 1845 "ChessHouse$Endings" 75 ⟨"ChessHouse$Endings", "distanceAt", "(IIIII)I"⟩ = true := jlm_of (Or.inl (jtF_ok rfl))
theorem ql_EN_79 : jlm lw_tbl 1838 "ChessHouse$Endings" 79 ⟨"ChessHouse$Endings", "index", "(IIIII)I"⟩ = true := jlm_of (Or.inl (jtF_ok rfl))
theorem ql_EN_94 : jlm lw_tbl 1818 "ChessHouse$Endings" 94 ⟨"ChessHouse$Endings", "seed", "()V"⟩ = true := jlm_of (Or.inl (jtF_ok rfl))
theorem ql_EN_97 : jlm lw_tbl 1849 "ChessHouse$Endings" 97 ⟨"ChessHouse$Endings", "bringIn", "(I)V"⟩ = true := jlm_of (Or.inl (jtF_ok rfl))
theorem ql_EN_101 : jlm lw_tbl 1854 "ChessHouse$Endings" 101 ⟨"ChessHouse$Endings", "blackBefore", "(IIII)V"⟩ = true := jlm_of (Or.inl (jtF_ok rfl))
theorem ql_EN_105 : jlm lw_tbl 1858 "ChessHouse$Endings" 105 ⟨"ChessHouse$Endings", "whiteBefore", "(IIII)V"⟩ = true := jlm_of (Or.inl (jtF_ok rfl))
theorem ql_EN_108 : jlm lw_tbl 1862 "ChessHouse$Endings" 108 ⟨"ChessHouse$Endings", "manBefore", "(IIII)V"⟩ = true := jlm_of (Or.inl (jtF_ok rfl))
theorem ql_EN_111 : jlm lw_tbl 1822 "ChessHouse$Endings" 111 ⟨"ChessHouse$Endings", "isNear", "(II)Z"⟩ = true := jlm_of (Or.inl (jtF_ok rfl))
theorem ql_EN_115 : jlm lw_tbl 1825 "ChessHouse$Endings" 115 ⟨"ChessHouse$Endings", "hits", "(III)Z"⟩ = true := jlm_of (Or.inl (jtF_ok rfl))
theorem ql_EN_119 : jlm lw_tbl 1829 "ChessHouse$Endings" 119 ⟨"ChessHouse$Endings", "isLost", "(III)Z"⟩ = true := jlm_of (Or.inl (jtF_ok rfl))
theorem ql_EN_122 : jlm lw_tbl 1841 "ChessHouse$Endings" 122 ⟨"ChessHouse$Endings", "mark", "(II)V"⟩ = true := jlm_of (Or.inl (jtF_ok rfl))
theorem ql_EN_130 : jlm lw_tbl 1835 "ChessHouse$Endings" 130 ⟨"ChessHouse$Endings", "isStep", "(II)Z"⟩ = true := jlm_of (Or.inl (jtF_ok rfl))
theorem ql_GA_64 : jlm lw_tbl 1053 "ChessHouse$Game" 64 ⟨"ChessHouse$Board", "setFirst", "()V"⟩ = true := jlm_of (Or.inl (jtF_ok rfl))
theorem ql_GA_88 : jlm lw_tbl 1553 "ChessHouse$Game" 88 ⟨"ChessHouse$Game", "child", "(I)I"⟩ = true := jlm_of (Or.inl (jtF_ok rfl))
theorem ql_GA_92 : jlm lw_tbl 1294 "ChessHouse$Game" 92 ⟨"ChessHouse$Board", "remember", "()V"⟩ = true := jlm_of (Or.inl (jtF_ok rfl))
theorem ql_GA_95 : jlm lw_tbl 1303 "ChessHouse$Game" 95 ⟨"ChessHouse$Board", "make", "(I)J"⟩ = true := jlm_of (Or.inl (jtF_ok rfl))
theorem ql_GA_99 : jlm lw_tbl 1554 "ChessHouse$Game" 99 ⟨"ChessHouse$Game", "deep", "(I)I"⟩ = true := jlm_of (Or.inl (jtF_ok rfl))
theorem ql_GA_102 : jlm lw_tbl 1559 "ChessHouse$Game" 102 ⟨"ChessHouse$Game", "add", "(I)V"⟩ = true := jlm_of (Or.inl (jtF_ok rfl))
theorem ql_GA_106 : jlm lw_tbl 1282 "ChessHouse$Game" 106 ⟨"ChessHouse$Board", "unmake", "(IJ)V"⟩ = true := jlm_of (Or.inl (jtF_ok rfl))
theorem ql_GA_110 : jlm lw_tbl 1290 "ChessHouse$Game" 110 ⟨"ChessHouse$Board", "forget", "()V"⟩ = true := jlm_of (Or.inl (jtF_ok rfl))
theorem ql_GA_113 : jlm lw_tbl 1278 "ChessHouse$Game" 113 ⟨"ChessHouse$Game", "up", "()V"⟩ = true := jlm_of (Or.inl (jtF_ok rfl))
theorem ql_GA_116 : jlm lw_tbl 1558 "ChessHouse$Game" 116 ⟨"ChessHouse$Game", "goesOn", "(I)Z"⟩ = true := jlm_of (Or.inl (jtF_ok rfl))
theorem ql_GA_120 : jlm lw_tbl 1611 "ChessHouse$Game" 120 ⟨"ChessHouse$Game", "isLetterOrDigit", "(I)Z"⟩ = true := jlm_of (Or.inl (jtF_ok rfl))
theorem ql_GA_126 : jlm lw_tbl 1193 "ChessHouse$Game" 126 ⟨"ChessHouse$Game", "findTag", "([BII)I"⟩ = true := jlm_of (Or.inl (jtF_ok rfl))
theorem ql_GA_139 : jlm lw_tbl 1337 "ChessHouse$Game" 139 ⟨"ChessHouse$Game", "resultSign", "(I)Ljava/lang/String;"⟩ = true := jlm_of (Or.inl (jtF_ok rfl))
theorem ql_GA_143 : jlm lw_tbl 1338 "ChessHouse$Game" 143 ⟨"java/lang/String", "length", "()I"⟩ = true := jlm_of (Or.inl (jtF_ok rfl))
theorem ql_GA_149 : jlm lw_tbl 1339 "ChessHouse$Game" 149 ⟨"java/lang/String", "charAt", "(I)C"⟩ = true := jlm_of (Or.inl (jtF_ok rfl))
theorem ql_GR_54 : jlm lw_tbl 1212 "ChessHouse$GameReader" 54 ⟨"ChessHouse$Game", "clear", "()V"⟩ = true := jlm_of (Or.inl (jtF_ok rfl))
theorem ql_GR_57 : jlm lw_tbl 1213 "ChessHouse$GameReader" 57 ⟨"ChessHouse$GameReader", "checkBytes", "()V"⟩ = true := jlm_of (Or.inl (jtF_ok rfl))
theorem ql_GR_60 : jlm lw_tbl 1221 "ChessHouse$GameReader" 60 ⟨"ChessHouse$GameReader", "skipBlanks", "()V"⟩ = true := jlm_of (Or.inl (jtF_ok rfl))
theorem ql_GR_63 : jlm lw_tbl 1225 "ChessHouse$GameReader" 63 ⟨"ChessHouse$GameReader", "current", "()I"⟩ = true := jlm_of (Or.inl (jtF_ok rfl))
theorem ql_GR_67 : jlm lw_tbl 1229 "ChessHouse$GameReader" 67 ⟨"ChessHouse$GameReader", "readTag", "()V"⟩ = true := jlm_of (Or.inl (jtF_ok rfl))
theorem ql_GR_70 : jlm lw_tbl 1251 "ChessHouse$GameReader" 70 ⟨"ChessHouse$GameReader", "readRemark", "()V"⟩ = true := jlm_of (Or.inl (jtF_ok rfl))
theorem ql_GR_73 : jlm lw_tbl 1259 "ChessHouse$GameReader" 73 ⟨"ChessHouse$GameReader", "readMark", "()V"⟩ = true := jlm_of (Or.inl (jtF_ok rfl))
theorem ql_GR_76 : jlm lw_tbl 1270 "ChessHouse$GameReader" 76 ⟨"ChessHouse$GameReader", "readBracket", "()V"⟩ = true := jlm_of (Or.inl (jtF_ok rfl))
theorem ql_GR_79 : jlm lw_tbl 1314 "ChessHouse$GameReader" 79 ⟨"ChessHouse$GameReader", "readResult", "()Z"⟩ = true := jlm_of (Or.inl (jtF_ok rfl))
theorem ql_GR_83 : jlm lw_tbl 1340 "ChessHouse$GameReader" 83 ⟨"ChessHouse$GameReader", "readMove", "()V"⟩ = true := jlm_of (Or.inl (jtF_ok rfl))
theorem ql_GR_86 : jlm lw_tbl 1217 "ChessHouse$GameReader" 86 ⟨"ChessHouse$GameReader", "fail", "(II)V"⟩ = true := jlm_of (Or.inl (jtF_ok rfl))
theorem ql_GR_90 : jlm lw_tbl 1274 "ChessHouse$GameReader" 90 ⟨"ChessHouse$Game", "goTo", "(I)V"⟩ = true := jlm_of (Or.inl (jtF_ok rfl))
theorem ql_GR_97 : jlm lw_tbl 1233 "ChessHouse$GameReader" 97 ⟨"ChessHouse$Game", "isLetterOrDigit", "(I)Z"⟩ = true := jlm_of (Or.inl (jtF_ok rfl))
theorem ql_GR_101 : jlm lw_tbl 1236 "ChessHouse$GameReader" 101 ⟨"ChessHouse$GameReader", "pass", "(I)Z"⟩ = true := jlm_of (Or.inl (jtF_ok rfl))
theorem ql_GR_104 : jlm lw_tbl 1240 "ChessHouse$GameReader" 104 ⟨"ChessHouse$GameReader", "readValue", "()I"⟩ = true := jlm_of (Or.inl (jtF_ok rfl))
theorem ql_GR_110 : jlm lw_tbl 1244 "ChessHouse$GameReader" 110 ⟨"ChessHouse$Game", "findTag", "([BII)I"⟩ = true := jlm_of (Or.inl (jtF_ok rfl))
theorem ql_GR_114 : jlm lw_tbl 1245 "ChessHouse$GameReader" 114 ⟨"ChessHouse$Game", "isFen", "([BII)Z"⟩ = true := jlm_of (Or.inl (jtF_ok rfl))
theorem ql_GR_122 : jlm lw_tbl 1249 "ChessHouse$GameReader" 122 ⟨"ChessHouse$Board", "readText", "([BII)I"⟩ = true := jlm_of (Or.inl (jtF_ok rfl))
theorem ql_GR_127 : jlm lw_tbl 1250 "ChessHouse$GameReader" 127 ⟨"ChessHouse$Game", "setTag", "([BII[BII)V"⟩ = true := jlm_of (Or.inl (jtF_ok rfl))
theorem ql_GR_131 : jlm lw_tbl 1255 "ChessHouse$GameReader" 131 ⟨"ChessHouse$Game", "addRemark", "([BII)Z"⟩ = true := jlm_of (Or.inl (jtF_ok rfl))
theorem ql_GR_134 : jlm lw_tbl 1263 "ChessHouse$GameReader" 134 ⟨"ChessHouse$GameReader", "isDigit", "(I)Z"⟩ = true := jlm_of (Or.inl (jtF_ok rfl))
theorem ql_GR_137 : jlm lw_tbl 1266 "ChessHouse$GameReader" 137 ⟨"ChessHouse$Game", "addMark", "(I)Z"⟩ = true := jlm_of (Or.inl (jtF_ok rfl))
theorem ql_GR_143 : jlm lw_tbl 1313 "ChessHouse$GameReader" 143 ⟨"ChessHouse$Game", "up", "()V"⟩ = true := jlm_of (Or.inl (jtF_ok rfl))
theorem ql_GR_146 : jlm lw_tbl 1329 "ChessHouse$GameReader" 146 ⟨"java/lang/String", "length", "()I"⟩ = true := jlm_of (Or.inl (jtF_ok rfl))
theorem ql_GR_151 : jlm lw_tbl 1330 "ChessHouse$GameReader" 151 ⟨"java/lang/String", "charAt", "(I)C"⟩ = true := jlm_of (Or.inl (jtF_ok rfl))
theorem ql_GR_155 : jlm lw_tbl 1318 "ChessHouse$GameReader" 155 ⟨"ChessHouse$Game", "resultSign", "(I)Ljava/lang/String;"⟩ = true := jlm_of (Or.inl (jtF_ok rfl))
theorem ql_GR_159 : jlm lw_tbl 1325 "ChessHouse$GameReader" 159 ⟨"ChessHouse$GameReader", "startsWith", "(Ljava/lang/String;)Z"⟩ = true := jlm_of (Or.inl (jtF_ok rfl))
theorem ql_GR_166 : jlm lw_tbl 1331 "ChessHouse$GameReader" 166 ⟨"ChessHouse$Game", "hasOtherResult", "()Z"⟩ = true := jlm_of (Or.inl (jtF_ok rfl))
theorem ql_GR_169 : jlm lw_tbl 1344 "ChessHouse$GameReader" 169 ⟨"ChessHouse$GameReader", "readNumber", "()V"⟩ = true := jlm_of (Or.inl (jtF_ok rfl))
theorem ql_GR_172 : jlm lw_tbl 1348 "ChessHouse$GameReader" 172 ⟨"ChessHouse$Signs", "read", "(LChessHouse$Board;[BII)I"⟩ = true := jlm_of (Or.inl (jtF_ok rfl))
theorem ql_GR_176 : jlm lw_tbl 1421 "ChessHouse$GameReader" 176 ⟨"ChessHouse$Game", "child", "(I)I"⟩ = true := jlm_of (Or.inl (jtF_ok rfl))
theorem ql_GR_183 : jlm lw_tbl 1425 "ChessHouse$GameReader" 183 ⟨"ChessHouse$Game", "add", "(I)V"⟩ = true := jlm_of (Or.inl (jtF_ok rfl))
theorem ql_GW_38 : jlm lw_tbl 1442 "ChessHouse$GameWriter" 38 ⟨"ChessHouse$Game", "goTo", "(I)V"⟩ = true := jlm_of (Or.inl (jtF_ok rfl))
theorem ql_GW_41 : jlm lw_tbl 1443 "ChessHouse$GameWriter" 41 ⟨"ChessHouse$Bytes", "clear", "()V"⟩ = true := jlm_of (Or.inl (jtF_ok rfl))
theorem ql_GW_44 : jlm lw_tbl 1444 "ChessHouse$GameWriter" 44 ⟨"ChessHouse$GameWriter", "writeTags", "()V"⟩ = true := jlm_of (Or.inl (jtF_ok rfl))
theorem ql_GW_47 : jlm lw_tbl 1461 "ChessHouse$GameWriter" 47 ⟨"ChessHouse$GameWriter", "writeRemark", "(I)Z"⟩ = true := jlm_of (Or.inl (jtF_ok rfl))
theorem ql_GW_55 : jlm lw_tbl 1473 "ChessHouse$GameWriter" 55 ⟨"ChessHouse$GameWriter", "writeLine", "(II)V"⟩ = true := jlm_of (Or.inl (jtF_ok rfl))
theorem ql_GW_59 : jlm lw_tbl 1465 "ChessHouse$GameWriter" 59 ⟨"ChessHouse$GameWriter", "writeGap", "()V"⟩ = true := jlm_of (Or.inl (jtF_ok rfl))
theorem ql_GW_65 : jlm lw_tbl 1508 "ChessHouse$GameWriter" 65 ⟨"ChessHouse$Game", "resultSign", "(I)Ljava/lang/String;"⟩ = true := jlm_of (Or.inl (jtF_ok rfl))
theorem ql_GW_69 : jlm lw_tbl 1454 "ChessHouse$GameWriter" 69 ⟨"ChessHouse$Bytes", "text", "(Ljava/lang/String;)V"⟩ = true := jlm_of (Or.inl (jtF_ok rfl))
theorem ql_GW_77 : jlm lw_tbl 1481 "ChessHouse$GameWriter" 77 ⟨"ChessHouse$Bytes", "number", "(J)V"⟩ = true := jlm_of (Or.inl (jtF_ok rfl))
theorem ql_GW_81 : jlm lw_tbl 1448 "ChessHouse$GameWriter" 81 ⟨"ChessHouse$Bytes", "add", "(I)V"⟩ = true := jlm_of (Or.inl (jtF_ok rfl))
theorem ql_GW_88 : jlm lw_tbl 1449 "ChessHouse$GameWriter" 88 ⟨"ChessHouse$Bytes", "bytes", "([BII)V"⟩ = true := jlm_of (Or.inl (jtF_ok rfl))
theorem ql_GW_111 : jlm lw_tbl 1469 "ChessHouse$GameWriter" 111 ⟨"ChessHouse$Bytes", "needsGap", "()Z"⟩ = true := jlm_of (Or.inl (jtF_ok rfl))
theorem ql_GW_142 : jlm lw_tbl 1477 "ChessHouse$GameWriter" 142 ⟨"ChessHouse$GameWriter", "writeNumber", "(LChessHouse$Board;)V"⟩ = true := jlm_of (Or.inl (jtF_ok rfl))
theorem ql_GW_149 : jlm lw_tbl 1484 "ChessHouse$GameWriter" 149 ⟨"ChessHouse$Signs", "write", "(LChessHouse$Board;ILChessHouse$Bytes;)V"⟩ = true := jlm_of (Or.inl (jtF_ok rfl))
theorem ql_GW_153 : jlm lw_tbl 1498 "ChessHouse$GameWriter" 153 ⟨"ChessHouse$GameWriter", "writeMarks", "(I)V"⟩ = true := jlm_of (Or.inl (jtF_ok rfl))
theorem ql_GW_156 : jlm lw_tbl 1502 "ChessHouse$GameWriter" 156 ⟨"ChessHouse$Game", "goesOn", "(I)Z"⟩ = true := jlm_of (Or.inl (jtF_ok rfl))
theorem ql_GW_166 : jlm lw_tbl 1506 "ChessHouse$GameWriter" 166 ⟨"ChessHouse$Board", "make", "(I)J"⟩ = true := jlm_of (Or.inl (jtF_ok rfl))
theorem ql_GW_170 : jlm lw_tbl 1507 "ChessHouse$GameWriter" 170 ⟨"ChessHouse$Board", "unmake", "(IJ)V"⟩ = true := jlm_of (Or.inl (jtF_ok rfl))
theorem ql_PR_43 : jlm lw_tbl 1751 "ChessHouse$Problems" 43 ⟨"ChessHouse$Board", "make", "(I)J"⟩ = true := jlm_of (Or.inl (jtF_ok rfl))
theorem ql_PR_47 : jlm lw_tbl 1752 "ChessHouse$Problems" 47 ⟨"ChessHouse$Board", "legal", "([III)I"⟩ = true := jlm_of (Or.inl (jtF_ok rfl))
theorem ql_PR_51 : jlm lw_tbl 1753 "ChessHouse$Problems" 51 ⟨"ChessHouse$Board", "inCheck", "()Z"⟩ = true := jlm_of (Or.inl (jtF_ok rfl))
theorem ql_PR_55 : jlm lw_tbl 1754 "ChessHouse$Problems" 55 ⟨"ChessHouse$Problems", "isBeaten", "(I)Z"⟩ = true := jlm_of (Or.inl (jtF_ok rfl))
theorem ql_PR_59 : jlm lw_tbl 1758 "ChessHouse$Problems" 59 ⟨"ChessHouse$Board", "sort", "([III)V"⟩ = true := jlm_of (Or.inl (jtF_ok rfl))
theorem ql_PR_63 : jlm lw_tbl 1759 "ChessHouse$Problems" 63 ⟨"ChessHouse$Problems", "isSolvable", "(II)Z"⟩ = true := jlm_of (Or.inl (jtF_ok rfl))
theorem ql_PR_67 : jlm lw_tbl 1764 "ChessHouse$Problems" 67 ⟨"ChessHouse$Board", "unmake", "(IJ)V"⟩ = true := jlm_of (Or.inl (jtF_ok rfl))
theorem ql_PR_71 : jlm lw_tbl 1763 "ChessHouse$Problems" 71 ⟨"ChessHouse$Problems", "refuter", "(III)I"⟩ = true := jlm_of (Or.inl (jtF_ok rfl))
theorem ql_PR_78 : jlm lw_tbl 1792 "ChessHouse$Problems" 78 ⟨"ChessHouse$Problems", "help", "(II)V"⟩ = true := jlm_of (Or.inl (jtF_ok rfl))
theorem ql_SE_34 : jlm lw_tbl 1642 "ChessHouse$Search" 34 ⟨"ChessHouse$Board", "legal", "([III)I"⟩ = true := jlm_of (Or.inl (jtF_ok rfl))
theorem ql_SE_38 : jlm lw_tbl 1643 "ChessHouse$Search" 38 ⟨"ChessHouse$Board", "make", "(I)J"⟩ = true := jlm_of (Or.inl (jtF_ok rfl))
theorem ql_SE_42 : jlm lw_tbl 1644 "ChessHouse$Search" 42 ⟨"ChessHouse$Search", "ways", "(LChessHouse$Board;II)J"⟩ = true := jlm_of (Or.inl (jtF_ok rfl))
theorem ql_SE_46 : jlm lw_tbl 1645 "ChessHouse$Search" 46 ⟨"ChessHouse$Board", "unmake", "(IJ)V"⟩ = true := jlm_of (Or.inl (jtF_ok rfl))
theorem ql_SE_50 : jlm lw_tbl 1667 "ChessHouse$Search" 50 ⟨"ChessHouse$Board", "sort", "([III)V"⟩ = true := jlm_of (Or.inl (jtF_ok rfl))
theorem ql_SE_55 : jlm lw_tbl 1669 "ChessHouse$Search" 55 ⟨"ChessHouse$Board", "remember", "()V"⟩ = true := jlm_of (Or.inl (jtF_ok rfl))
theorem ql_SE_58 : jlm lw_tbl 1670 "ChessHouse$Search" 58 ⟨"ChessHouse$Search", "value", "(IIIII)I"⟩ = true := jlm_of (Or.inl (jtF_ok rfl))
theorem ql_SE_62 : jlm lw_tbl 1692 "ChessHouse$Search" 62 ⟨"ChessHouse$Board", "forget", "()V"⟩ = true := jlm_of (Or.inl (jtF_ok rfl))
theorem ql_SE_68 : jlm lw_tbl 1675 "ChessHouse$Search" 68 ⟨"ChessHouse$Board", "isQuickDraw", "()Z"⟩ = true := jlm_of (Or.inl (jtF_ok rfl))
theorem ql_SE_72 : jlm lw_tbl 1680 "ChessHouse$Search" 72 ⟨"ChessHouse$Board", "stood", "()I"⟩ = true := jlm_of (Or.inl (jtF_ok rfl))
theorem ql_SE_76 : jlm lw_tbl 1674 "ChessHouse$Search" 76 ⟨"ChessHouse$Board", "inCheck", "()Z"⟩ = true := jlm_of (Or.inl (jtF_ok rfl))
theorem ql_SE_79 : jlm lw_tbl 1681 "ChessHouse$Search" 79 ⟨"ChessHouse$Search", "calmValue", "(IIIII)I"⟩ = true := jlm_of (Or.inl (jtF_ok rfl))
theorem ql_SE_82 : jlm lw_tbl 1686 "ChessHouse$Search" 82 ⟨"ChessHouse$Board", "sight", "()I"⟩ = true := jlm_of (Or.inl (jtF_ok rfl))
theorem ql_SE_85 : jlm lw_tbl 1687 "ChessHouse$Search" 85 ⟨"ChessHouse$Search", "takingFirst", "(II)I"⟩ = true := jlm_of (Or.inl (jtF_ok rfl))
theorem ql_SE_89 : jlm lw_tbl 1685 "ChessHouse$Search" 89 ⟨"ChessHouse$Board", "tooLittle", "()Z"⟩ = true := jlm_of (Or.inl (jtF_ok rfl))
theorem ql_SE_92 : jlm lw_tbl 1691 "ChessHouse$Search" 92 ⟨"ChessHouse$Board", "takes", "(I)Z"⟩ = true := jlm_of (Or.inl (jtF_ok rfl))
theorem ql_SI_18 : jlm lw_tbl 1352 "ChessHouse$Signs" 18 ⟨"ChessHouse$Board", "legal", "([III)I"⟩ = true := jlm_of (Or.inl (jtF_ok rfl))
theorem ql_SI_22 : jlm lw_tbl 1375 "ChessHouse$Signs" 22 ⟨"ChessHouse$Signs", "copy", "([BIIZ)Z"⟩ = true := jlm_of (Or.inl (jtF_ok rfl))
theorem ql_SI_26 : jlm lw_tbl 1379 "ChessHouse$Signs" 26 ⟨"ChessHouse$Signs", "parse", "()Z"⟩ = true := jlm_of (Or.inl (jtF_ok rfl))
theorem ql_SI_30 : jlm lw_tbl 1403 "ChessHouse$Signs" 30 ⟨"ChessHouse$Signs", "fits", "(LChessHouse$Board;I)Z"⟩ = true := jlm_of (Or.inl (jtF_ok rfl))
theorem ql_SI_38 : jlm lw_tbl 1407 "ChessHouse$Signs" 38 ⟨"ChessHouse$Board", "takes", "(I)Z"⟩ = true := jlm_of (Or.inl (jtF_ok rfl))
theorem ql_SI_45 : jlm lw_tbl 1411 "ChessHouse$Signs" 45 ⟨"ChessHouse$Signs", "checkSign", "(LChessHouse$Board;II)I"⟩ = true := jlm_of (Or.inl (jtF_ok rfl))
theorem ql_SI_52 : jlm lw_tbl 1388 "ChessHouse$Signs" 52 ⟨"java/lang/String", "length", "()I"⟩ = true := jlm_of (Or.inl (jtF_ok rfl))
theorem ql_SI_57 : jlm lw_tbl 1389 "ChessHouse$Signs" 57 ⟨"java/lang/String", "charAt", "(I)C"⟩ = true := jlm_of (Or.inl (jtF_ok rfl))
theorem ql_SI_72 : jlm lw_tbl 1384 "ChessHouse$Signs" 72 ⟨"ChessHouse$Signs", "isRow", "(Ljava/lang/String;)Z"⟩ = true := jlm_of (Or.inl (jtF_ok rfl))
theorem ql_SI_86 : jlm lw_tbl 1392 "ChessHouse$Signs" 86 ⟨"java/lang/String", "indexOf", "(I)I"⟩ = true := jlm_of (Or.inl (jtF_ok rfl))
theorem ql_SI_90 : jlm lw_tbl 1393 "ChessHouse$Signs" 90 ⟨"ChessHouse$Signs", "parseSquares", "(I)Z"⟩ = true := jlm_of (Or.inl (jtF_ok rfl))
theorem ql_SI_93 : jlm lw_tbl 1397 "ChessHouse$Signs" 93 ⟨"ChessHouse$Signs", "isFile", "(I)Z"⟩ = true := jlm_of (Or.inl (jtF_ok rfl))
theorem ql_SI_96 : jlm lw_tbl 1400 "ChessHouse$Signs" 96 ⟨"ChessHouse$Signs", "isRank", "(I)Z"⟩ = true := jlm_of (Or.inl (jtF_ok rfl))
theorem ql_SI_105 : jlm lw_tbl 1415 "ChessHouse$Signs" 105 ⟨"ChessHouse$Board", "make", "(I)J"⟩ = true := jlm_of (Or.inl (jtF_ok rfl))
theorem ql_SI_109 : jlm lw_tbl 1416 "ChessHouse$Signs" 109 ⟨"ChessHouse$Board", "inCheck", "()Z"⟩ = true := jlm_of (Or.inl (jtF_ok rfl))
theorem ql_SI_112 : jlm lw_tbl 1420 "ChessHouse$Signs" 112 ⟨"ChessHouse$Board", "unmake", "(IJ)V"⟩ = true := jlm_of (Or.inl (jtF_ok rfl))
theorem ql_SI_116 : jlm lw_tbl 1488 "ChessHouse$Signs" 116 ⟨"ChessHouse$Bytes", "text", "(Ljava/lang/String;)V"⟩ = true := jlm_of (Or.inl (jtF_ok rfl))
theorem ql_SI_122 : jlm lw_tbl 1489 "ChessHouse$Signs" 122 ⟨"ChessHouse$Bytes", "add", "(I)V"⟩ = true := jlm_of (Or.inl (jtF_ok rfl))
theorem ql_SI_126 : jlm lw_tbl 1490 "ChessHouse$Signs" 126 ⟨"ChessHouse$Signs", "tellApart", "(LChessHouse$Board;ILChessHouse$Bytes;)V"⟩ = true := jlm_of (Or.inl (jtF_ok rfl))
theorem ql_SI_130 : jlm lw_tbl 1494 "ChessHouse$Signs" 130 ⟨"ChessHouse$Bytes", "square", "(I)V"⟩ = true := jlm_of (Or.inl (jtF_ok rfl))
theorem ql_WO_30 : jlm lw_tbl 975 "ChessHouse$Words" 30 ⟨"ChessHouse$Words", "split", "()Z"⟩ = true := jlm_of (Or.inl (jtF_ok rfl))
theorem ql_WO_42 : jlm lw_tbl 981 "ChessHouse$Words" 42 ⟨"ChessHouse$Words", "is", "(ILjava/lang/String;)Z"⟩ = true := jlm_of (Or.inl (jtF_ok rfl))
theorem ql_WO_59 : jlm lw_tbl 985 "ChessHouse$Words" 59 ⟨"ChessHouse$Words", "wordStop", "(I)I"⟩ = true := jlm_of (Or.inl (jtF_ok rfl))
theorem ql_WO_63 : jlm lw_tbl 989 "ChessHouse$Words" 63 ⟨"java/lang/String", "length", "()I"⟩ = true := jlm_of (Or.inl (jtF_ok rfl))
theorem ql_WO_69 : jlm lw_tbl 999 "ChessHouse$Words" 69 ⟨"java/lang/String", "charAt", "(I)C"⟩ = true := jlm_of (Or.inl (jtF_ok rfl))
theorem ql_MM_53 : jlm lw_tbl 2368 "ChessHouseModel" 53 ⟨"ChessHouseModel", "lay", "(I)V"⟩ = true := jlm_of (Or.inl (jtF_ok rfl))
theorem ql_MM_69 : jlm lw_tbl 2376 "ChessHouseModel" 69 ⟨"ChessHouseModel", "takeLine", "()V"⟩ = true := jlm_of (Or.inl (jtF_ok rfl))
theorem ql_MM_78 : jlm lw_tbl 2380 "ChessHouseModel" 78 ⟨"ChessHouseModel", "command", "()V"⟩ = true := jlm_of (Or.inl (jtF_ok rfl))
theorem ql_MM_81 : jlm lw_tbl 2399 "ChessHouseModel" 81 ⟨"ChessHouseModel", "put", "(C)V"⟩ = true := jlm_of (Or.inl (jtF_ok rfl))
theorem ql_MM_87 : jlm lw_tbl 2407 "ChessHouseModel" 87 ⟨"ChessHouseModel", "putNumber", "(J)V"⟩ = true := jlm_of (Or.inl (jtF_ok rfl))
theorem ql_MM_91 : jlm lw_tbl 2517 "ChessHouseModel" 91 ⟨"ChessHouseModel", "begin", "()V"⟩ = true := jlm_of (Or.inl (jtF_ok rfl))
theorem ql_MM_94 : jlm lw_tbl 2403 "ChessHouseModel" 94 ⟨"ChessHouseModel", "say", "(J)V"⟩ = true := jlm_of (Or.inl (jtF_ok rfl))
theorem ql_MM_97 : jlm lw_tbl 2412 "ChessHouseModel" 97 ⟨"ChessHouseModel", "done", "()V"⟩ = true := jlm_of (Or.inl (jtF_ok rfl))
theorem ql_MM_100 : jlm lw_tbl 2395 "ChessHouseModel" 100 ⟨"ChessHouseModel", "fault", "(III)V"⟩ = true := jlm_of (Or.inl (jtF_ok rfl))
theorem ql_MM_104 : jlm lw_tbl 2388 "ChessHouseModel" 104 ⟨"ChessHouseModel", "isText", "(I)Z"⟩ = true := jlm_of (Or.inl (jtF_ok rfl))
theorem ql_MM_111 : jlm lw_tbl 2421 "ChessHouseModel" 111 ⟨"java/lang/String", "length", "()I"⟩ = true := jlm_of (Or.inl (jtF_ok rfl))
theorem ql_MM_117 : jlm lw_tbl 2422 "ChessHouseModel" 117 ⟨"java/lang/String", "charAt", "(I)C"⟩ = true := jlm_of (Or.inl (jtF_ok rfl))
theorem ql_MM_121 : jlm lw_tbl 2417 "ChessHouseModel" 121 ⟨"ChessHouseModel", "isRow", "(Ljava/lang/String;II)Z"⟩ = true := jlm_of (Or.inl (jtF_ok rfl))
theorem ql_MM_129 : jlm lw_tbl 2552 "ChessHouseModel" 129 ⟨"ChessHouseModel", "isWord", "(ILjava/lang/String;)Z"⟩ = true := jlm_of (Or.inl (jtF_ok rfl))
theorem ql_MM_133 : jlm lw_tbl 2384 "ChessHouseModel" 133 ⟨"ChessHouseModel", "isOfText", "()Z"⟩ = true := jlm_of (Or.inl (jtF_ok rfl))
theorem ql_MM_137 : jlm lw_tbl 2391 "ChessHouseModel" 137 ⟨"ChessHouseModel", "fault", "(I)V"⟩ = true := jlm_of (Or.inl (jtF_ok rfl))
theorem ql_MM_141 : jlm lw_tbl 2423 "ChessHouseModel" 141 ⟨"ChessHouseModel", "set", "(I)V"⟩ = true := jlm_of (Or.inl (jtF_ok rfl))
theorem ql_MM_144 : jlm lw_tbl 2522 "ChessHouseModel" 144 ⟨"ChessHouseModel", "remark", "(I)V"⟩ = true := jlm_of (Or.inl (jtF_ok rfl))
theorem ql_MM_149 : jlm lw_tbl 2531 "ChessHouseModel" 149 ⟨"ChessHouseModel", "tag", "(I)V"⟩ = true := jlm_of (Or.inl (jtF_ok rfl))
theorem ql_MM_151 : jlm lw_tbl 2543 "ChessHouseModel" 151 ⟨"ChessHouseModel", "split", "()V"⟩ = true := jlm_of (Or.inl (jtF_ok rfl))
theorem ql_MM_154 : jlm lw_tbl 2547 "ChessHouseModel" 154 ⟨"ChessHouseModel", "tree", "()Z"⟩ = true := jlm_of (Or.inl (jtF_ok rfl))
theorem ql_MM_157 : jlm lw_tbl 2847 "ChessHouseModel" 157 ⟨"ChessHouseModel", "asked", "()Z"⟩ = true := jlm_of (Or.inl (jtF_ok rfl))
theorem ql_MM_160 : jlm lw_tbl 3219 "ChessHouseModel" 160 ⟨"ChessHouseModel", "solved", "()Z"⟩ = true := jlm_of (Or.inl (jtF_ok rfl))
theorem ql_MM_168 : jlm lw_tbl 2501 "ChessHouseModel" 168 ⟨"ChessHouseModel$Texts", "clearGame", "(I)V"⟩ = true := jlm_of (Or.inr ⟨_, jtF_ok rfl⟩)
theorem ql_MM_171 : jlm lw_tbl 2556 "ChessHouseModel" 171 ⟨"ChessHouseModel$Texts", "usual", "(I)V"⟩ = true := jlm_of (Or.inr ⟨_, jtF_ok rfl⟩)
theorem ql_MM_174 : jlm lw_tbl 2508 "ChessHouseModel" 174 ⟨"ChessHouseModel", "goTo", "(I)V"⟩ = true := jlm_of (Or.inl (jtF_ok rfl))
theorem ql_MM_177 : jlm lw_tbl 2513 "ChessHouseModel" 177 ⟨"ChessHouseModel", "nothing", "()V"⟩ = true := jlm_of (Or.inl (jtF_ok rfl))
theorem ql_MM_181 : jlm lw_tbl 2558 "ChessHouseModel" 181 ⟨"ChessHouseModel", "readGame", "()V"⟩ = true := jlm_of (Or.inl (jtF_ok rfl))
theorem ql_MM_186 : jlm lw_tbl 2730 "ChessHouseModel" 186 ⟨"ChessHouseModel", "writeGame", "()V"⟩ = true := jlm_of (Or.inl (jtF_ok rfl))
theorem ql_MM_191 : jlm lw_tbl 2767 "ChessHouseModel" 191 ⟨"ChessHouseModel", "others", "()V"⟩ = true := jlm_of (Or.inl (jtF_ok rfl))
theorem ql_MM_195 : jlm lw_tbl 2777 "ChessHouseModel" 195 ⟨"ChessHouseModel", "play", "()V"⟩ = true := jlm_of (Or.inl (jtF_ok rfl))
theorem ql_MM_199 : jlm lw_tbl 2803 "ChessHouseModel" 199 ⟨"ChessHouseModel", "number", "(III)I"⟩ = true := jlm_of (Or.inl (jtF_ok rfl))
theorem ql_MM_203 : jlm lw_tbl 2807 "ChessHouseModel" 203 ⟨"ChessHouseModel", "back", "(I)V"⟩ = true := jlm_of (Or.inl (jtF_ok rfl))
theorem ql_MM_207 : jlm lw_tbl 2812 "ChessHouseModel" 207 ⟨"ChessHouseModel$Texts", "isNode", "(I)Z"⟩ = true := jlm_of (Or.inr ⟨_, jtF_ok rfl⟩)
theorem ql_MM_210 : jlm lw_tbl 2526 "ChessHouseModel" 210 ⟨"ChessHouseModel", "answer", "(J)V"⟩ = true := jlm_of (Or.inl (jtF_ok rfl))
theorem ql_MM_215 : jlm lw_tbl 2817 "ChessHouseModel" 215 ⟨"ChessHouseModel", "mark", "(I)V"⟩ = true := jlm_of (Or.inl (jtF_ok rfl))
theorem ql_MM_219 : jlm lw_tbl 2826 "ChessHouseModel" 219 ⟨"ChessHouseModel", "lead", "()V"⟩ = true := jlm_of (Or.inl (jtF_ok rfl))
theorem ql_MM_223 : jlm lw_tbl 2839 "ChessHouseModel" 223 ⟨"ChessHouseModel", "endGame", "()Z"⟩ = true := jlm_of (Or.inl (jtF_ok rfl))
theorem ql_MM_229 : jlm lw_tbl 2512 "ChessHouseModel" 229 ⟨"ChessHouseModel$Texts", "place", "(II)V"⟩ = true := jlm_of (Or.inr ⟨_, jtF_ok rfl⟩)
theorem ql_MM_239 : jlm lw_tbl 2427 "ChessHouseModel" 239 ⟨"ChessHouseModel$Board", "fault", "()I"⟩ = true := jlm_of (Or.inr ⟨_, jtF_ok rfl⟩)
theorem ql_MM_241 : jlm lw_tbl 2502 "ChessHouseModel" 241 ⟨"ChessHouseModel", "lookAtBoard", "()V"⟩ = true := jlm_of (Or.inl (jtF_ok rfl))
theorem ql_MM_244 : jlm lw_tbl 2507 "ChessHouseModel" 244 ⟨"ChessHouseModel$Texts", "start", "(I)V"⟩ = true := jlm_of (Or.inr ⟨_, jtF_ok rfl⟩)
theorem ql_MM_264 : jlm lw_tbl 2562 "ChessHouseModel" 264 ⟨"ChessHouseModel$Texts", "read", "()I"⟩ = true := jlm_of (Or.inl (jtF_ok rfl))
theorem ql_MM_271 : jlm lw_tbl 2734 "ChessHouseModel" 271 ⟨"ChessHouseModel$Texts", "write", "()I"⟩ = true := jlm_of (Or.inl (jtF_ok rfl))
theorem ql_MM_275 : jlm lw_tbl 2775 "ChessHouseModel" 275 ⟨"ChessHouseModel$Texts", "spellWhole", "(I)V"⟩ = true := jlm_of (Or.inr ⟨_, jtF_ok rfl⟩)
theorem ql_MM_292 : jlm lw_tbl 2771 "ChessHouseModel" 292 ⟨"ChessHouseModel", "saySigns", "(I)V"⟩ = true := jlm_of (Or.inl (jtF_ok rfl))
theorem ql_MM_295 : jlm lw_tbl 2785 "ChessHouseModel" 295 ⟨"ChessHouseModel$Texts", "understood", "(II)I"⟩ = true := jlm_of (Or.inr ⟨_, jtF_ok rfl⟩)
theorem ql_MM_299 : jlm lw_tbl 2781 "ChessHouseModel" 299 ⟨"ChessHouseModel", "meant", "(I)I"⟩ = true := jlm_of (Or.inl (jtF_ok rfl))
theorem ql_MM_303 : jlm lw_tbl 2786 "ChessHouseModel" 303 ⟨"ChessHouseModel$Texts", "add", "(I)I"⟩ = true := jlm_of (Or.inl (jtF_ok rfl))
theorem ql_MM_310 : jlm lw_tbl 2821 "ChessHouseModel" 310 ⟨"ChessHouseModel$Texts", "addMark", "(I)I"⟩ = true := jlm_of (Or.inl (jtF_ok rfl))
theorem ql_MM_319 : jlm lw_tbl 2830 "ChessHouseModel" 319 ⟨"ChessHouseModel$Texts", "lead", "()Z"⟩ = true := jlm_of (Or.inl (jtF_ok rfl))
theorem ql_MM_332 : jlm lw_tbl 2535 "ChessHouseModel" 332 ⟨"ChessHouseModel", "isSign", "(I)Z"⟩ = true := jlm_of (Or.inl (jtF_ok rfl))
theorem ql_MM_335 : jlm lw_tbl 2538 "ChessHouseModel" 335 ⟨"ChessHouseModel", "tagAt", "(II)I"⟩ = true := jlm_of (Or.inl (jtF_ok rfl))
theorem ql_MM_363 : jlm lw_tbl 2506 "ChessHouseModel" 363 ⟨"ChessHouseModel$Texts", "findMoves", "()V"⟩ = true := jlm_of (Or.inr ⟨_, jtF_ok rfl⟩)
theorem ql_MM_372 : jlm lw_tbl 2856 "ChessHouseModel" 372 ⟨"ChessHouseModel$Board", "enter", "(I)V"⟩ = true := jlm_of (Or.inr ⟨_, jtF_ok rfl⟩)
theorem ql_MM_375 : jlm lw_tbl 2860 "ChessHouseModel" 375 ⟨"ChessHouseModel$Board", "make", "(II)V"⟩ = true := jlm_of (Or.inr ⟨_, jtF_ok rfl⟩)
theorem ql_MM_383 : jlm lw_tbl 2852 "ChessHouseModel" 383 ⟨"ChessHouseModel", "tellBoard", "()V"⟩ = true := jlm_of (Or.inl (jtF_ok rfl))
theorem ql_MM_386 : jlm lw_tbl 2871 "ChessHouseModel" 386 ⟨"ChessHouseModel$Board", "write", "([C)V"⟩ = true := jlm_of (Or.inr ⟨_, jtF_ok rfl⟩)
theorem ql_MM_399 : jlm lw_tbl 2885 "ChessHouseModel" 399 ⟨"ChessHouseModel", "state", "()V"⟩ = true := jlm_of (Or.inl (jtF_ok rfl))
theorem ql_MM_405 : jlm lw_tbl 2952 "ChessHouseModel" 405 ⟨"ChessHouseModel", "isTooMuch", "(IJ)Z"⟩ = true := jlm_of (Or.inl (jtF_ok rfl))
theorem ql_MM_409 : jlm lw_tbl 2960 "ChessHouseModel" 409 ⟨"ChessHouseModel$Board", "ways", "(II)J"⟩ = true := jlm_of (Or.inr ⟨_, jtF_ok rfl⟩)
theorem ql_MM_414 : jlm lw_tbl 2966 "ChessHouseModel" 414 ⟨"ChessHouseModel$Board", "sightOf", "()I"⟩ = true := jlm_of (Or.inr ⟨_, jtF_ok rfl⟩)
theorem ql_MM_421 : jlm lw_tbl 2983 "ChessHouseModel" 421 ⟨"ChessHouseModel", "think", "(IZ)V"⟩ = true := jlm_of (Or.inl (jtF_ok rfl))
theorem ql_MM_428 : jlm lw_tbl 3035 "ChessHouseModel" 428 ⟨"ChessHouseModel", "test", "(II)V"⟩ = true := jlm_of (Or.inl (jtF_ok rfl))
theorem ql_MM_434 : jlm lw_tbl 3042 "ChessHouseModel" 434 ⟨"ChessHouseModel", "ends", "()V"⟩ = true := jlm_of (Or.inl (jtF_ok rfl))
theorem ql_MM_436 : jlm lw_tbl 2956 "ChessHouseModel" 436 ⟨"ChessHouseModel", "forceOf", "(I)I"⟩ = true := jlm_of (Or.inl (jtF_ok rfl))
theorem ql_MM_439 : jlm lw_tbl 2889 "ChessHouseModel" 439 ⟨"ChessHouseModel$Board", "state", "()I"⟩ = true := jlm_of (Or.inr ⟨_, jtF_ok rfl⟩)
theorem ql_MM_441 : jlm lw_tbl 2949 "ChessHouseModel" 441 ⟨"ChessHouseModel$Board", "occurrence", "()I"⟩ = true := jlm_of (Or.inr ⟨_, jtF_ok rfl⟩)
theorem ql_MM_444 : jlm lw_tbl 3031 "ChessHouseModel" 444 ⟨"ChessHouseModel$Board", "takeBack", "(II)V"⟩ = true := jlm_of (Or.inr ⟨_, jtF_ok rfl⟩)
theorem ql_MM_449 : jlm lw_tbl 2988 "ChessHouseModel" 449 ⟨"ChessHouseModel$Board", "think", "(IZ)V"⟩ = true := jlm_of (Or.inr ⟨_, jtF_ok rfl⟩)
theorem ql_MM_459 : jlm lw_tbl 3027 "ChessHouseModel" 459 ⟨"ChessHouseModel", "sayLine", "([II)V"⟩ = true := jlm_of (Or.inl (jtF_ok rfl))
theorem ql_MM_465 : jlm lw_tbl 3039 "ChessHouseModel" 465 ⟨"ChessHouseModel$Board", "valueOfMove", "(III)I"⟩ = true := jlm_of (Or.inr ⟨_, jtF_ok rfl⟩)
theorem ql_MM_476 : jlm lw_tbl 3097 "ChessHouseModel" 476 ⟨"ChessHouseModel$Ends", "set", "(IIIII)Z"⟩ = true := jlm_of (Or.inl (jtF_ok rfl))
theorem ql_MM_479 : jlm lw_tbl 3126 "ChessHouseModel" 479 ⟨"ChessHouseModel$Ends", "left", "()I"⟩ = true := jlm_of (Or.inl (jtF_ok rfl))
theorem ql_MM_482 : jlm lw_tbl 3183 "ChessHouseModel" 482 ⟨"ChessHouseModel", "sayChar", "(C)V"⟩ = true := jlm_of (Or.inl (jtF_ok rfl))
theorem ql_MM_485 : jlm lw_tbl 3187 "ChessHouseModel" 485 ⟨"ChessHouseModel$Ends", "moves", "()I"⟩ = true := jlm_of (Or.inl (jtF_ok rfl))
theorem ql_MM_487 : jlm lw_tbl 3207 "ChessHouseModel" 487 ⟨"ChessHouseModel$Ends", "best", "()I"⟩ = true := jlm_of (Or.inl (jtF_ok rfl))
theorem ql_MM_496 : jlm lw_tbl 3226 "ChessHouseModel" 496 ⟨"ChessHouseModel", "choice", "(ILjava/lang/String;Ljava/lang/String;)I"⟩ = true := jlm_of (Or.inl (jtF_ok rfl))
theorem ql_MM_504 : jlm lw_tbl 3232 "ChessHouseModel" 504 ⟨"ChessHouseModel", "keys", "(III)V"⟩ = true := jlm_of (Or.inl (jtF_ok rfl))
theorem ql_MM_508 : jlm lw_tbl 3260 "ChessHouseModel" 508 ⟨"ChessHouseModel", "least", "(III)V"⟩ = true := jlm_of (Or.inl (jtF_ok rfl))
theorem ql_MM_512 : jlm lw_tbl 3266 "ChessHouseModel" 512 ⟨"ChessHouseModel", "refute", "(III)V"⟩ = true := jlm_of (Or.inl (jtF_ok rfl))
theorem ql_MM_516 : jlm lw_tbl 3275 "ChessHouseModel" 516 ⟨"ChessHouseModel", "help", "(III)I"⟩ = true := jlm_of (Or.inl (jtF_ok rfl))
theorem ql_MM_519 : jlm lw_tbl 3285 "ChessHouseModel" 519 ⟨"ChessHouseModel", "helpLine", "(III)V"⟩ = true := jlm_of (Or.inl (jtF_ok rfl))
theorem ql_MM_522 : jlm lw_tbl 3236 "ChessHouseModel" 522 ⟨"ChessHouseModel", "deepOf", "(II)I"⟩ = true := jlm_of (Or.inl (jtF_ok rfl))
theorem ql_MM_525 : jlm lw_tbl 3239 "ChessHouseModel" 525 ⟨"ChessHouseModel$Board", "findKeys", "(III)V"⟩ = true := jlm_of (Or.inr ⟨_, jtF_ok rfl⟩)
theorem ql_MM_534 : jlm lw_tbl 3264 "ChessHouseModel" 534 ⟨"ChessHouseModel$Board", "isSolved", "(IIII)Z"⟩ = true := jlm_of (Or.inr ⟨_, jtF_ok rfl⟩)
theorem ql_MM_538 : jlm lw_tbl 3270 "ChessHouseModel" 538 ⟨"ChessHouseModel$Board", "refutation", "(IIII)I"⟩ = true := jlm_of (Or.inr ⟨_, jtF_ok rfl⟩)
theorem ql_MM_548 : jlm lw_tbl 3279 "ChessHouseModel" 548 ⟨"ChessHouseModel$Board", "countLines", "(III)I"⟩ = true := jlm_of (Or.inr ⟨_, jtF_ok rfl⟩)
theorem ql_MB_78 : jlm lw_tbl 2452 "ChessHouseModel$Board" 78 ⟨"ChessHouseModel$Board", "isOn", "(II)Z"⟩ = true := jlm_of (Or.inl (jtF_ok rfl))
theorem ql_MB_82 : jlm lw_tbl 2482 "ChessHouseModel$Board" 82 ⟨"ChessHouseModel$Board", "step", "(III)I"⟩ = true := jlm_of (Or.inl (jtF_ok rfl))
theorem ql_MB_86 : jlm lw_tbl 2485 "ChessHouseModel$Board" 86 ⟨"ChessHouseModel$Board", "hasMan", "(II)Z"⟩ = true := jlm_of (Or.inl (jtF_ok rfl))
theorem ql_MB_89 : jlm lw_tbl 2489 "ChessHouseModel$Board" 89 ⟨"ChessHouseModel$Board", "firstMan", "(III)I"⟩ = true := jlm_of (Or.inl (jtF_ok rfl))
theorem ql_MB_92 : jlm lw_tbl 2474 "ChessHouseModel$Board" 92 ⟨"ChessHouseModel$Board", "kingOf", "(I)I"⟩ = true := jlm_of (Or.inl (jtF_ok rfl))
theorem ql_MB_96 : jlm lw_tbl 2478 "ChessHouseModel$Board" 96 ⟨"ChessHouseModel$Board", "isAttacked", "(II)Z"⟩ = true := jlm_of (Or.inl (jtF_ok rfl))
theorem ql_MB_99 : jlm lw_tbl 2909 "ChessHouseModel$Board" 99 ⟨"ChessHouseModel$Board", "bit", "(I)J"⟩ = true := jlm_of (Or.inl (jtF_ok rfl))
theorem ql_MB_103 : jlm lw_tbl 2442 "ChessHouseModel$Board" 103 ⟨"ChessHouseModel$Board", "kind", "(I)I"⟩ = true := jlm_of (Or.inl (jtF_ok rfl))
theorem ql_MB_106 : jlm lw_tbl 2916 "ChessHouseModel$Board" 106 ⟨"ChessHouseModel$Board", "walk", "(III)J"⟩ = true := jlm_of (Or.inl (jtF_ok rfl))
theorem ql_MB_113 : jlm lw_tbl 2897 "ChessHouseModel$Board" 113 ⟨"ChessHouseModel$Board", "isOf", "(II)Z"⟩ = true := jlm_of (Or.inl (jtF_ok rfl))
theorem ql_MB_119 : jlm lw_tbl 2470 "ChessHouseModel$Board" 119 ⟨"ChessHouseModel$Board", "inCheck", "(I)Z"⟩ = true := jlm_of (Or.inl (jtF_ok rfl))
theorem ql_MB_123 : jlm lw_tbl 2905 "ChessHouseModel$Board" 123 ⟨"ChessHouseModel$Board", "pawnGoals", "(I)J"⟩ = true := jlm_of (Or.inl (jtF_ok rfl))
theorem ql_MB_126 : jlm lw_tbl 2912 "ChessHouseModel$Board" 126 ⟨"ChessHouseModel$Board", "reach", "(I)J"⟩ = true := jlm_of (Or.inl (jtF_ok rfl))
theorem ql_MB_129 : jlm lw_tbl 2920 "ChessHouseModel$Board" 129 ⟨"ChessHouseModel$Board", "mayCastle", "(Z)Z"⟩ = true := jlm_of (Or.inl (jtF_ok rfl))
theorem ql_MB_136 : jlm lw_tbl 2864 "ChessHouseModel$Board" 136 ⟨"ChessHouseModel$Board", "castleRook", "(IIZ)V"⟩ = true := jlm_of (Or.inl (jtF_ok rfl))
theorem ql_MB_140 : jlm lw_tbl 2868 "ChessHouseModel$Board" 140 ⟨"ChessHouseModel$Board", "lost", "(I)I"⟩ = true := jlm_of (Or.inl (jtF_ok rfl))
theorem ql_MB_143 : jlm lw_tbl 2928 "ChessHouseModel$Board" 143 ⟨"ChessHouseModel$Board", "make", "(II)V"⟩ = true := jlm_of (Or.inl (jtF_ok rfl))
theorem ql_MB_147 : jlm lw_tbl 2929 "ChessHouseModel$Board" 147 ⟨"ChessHouseModel$Board", "takeBack", "(II)V"⟩ = true := jlm_of (Or.inl (jtF_ok rfl))
theorem ql_MB_150 : jlm lw_tbl 2901 "ChessHouseModel$Board" 150 ⟨"ChessHouseModel$Board", "goals", "(I)J"⟩ = true := jlm_of (Or.inl (jtF_ok rfl))
theorem ql_MB_153 : jlm lw_tbl 2924 "ChessHouseModel$Board" 153 ⟨"ChessHouseModel$Board", "isLegal", "(I)Z"⟩ = true := jlm_of (Or.inl (jtF_ok rfl))
theorem ql_MB_159 : jlm lw_tbl 2941 "ChessHouseModel$Board" 159 ⟨"ChessHouseModel$Board", "areMenSame", "(I)Z"⟩ = true := jlm_of (Or.inl (jtF_ok rfl))
theorem ql_MB_162 : jlm lw_tbl 2945 "ChessHouseModel$Board" 162 ⟨"ChessHouseModel$Board", "mayTakeOn", "(I)Z"⟩ = true := jlm_of (Or.inl (jtF_ok rfl))
theorem ql_MB_168 : jlm lw_tbl 2893 "ChessHouseModel$Board" 168 ⟨"ChessHouseModel$Board", "list", "(I)I"⟩ = true := jlm_of (Or.inl (jtF_ok rfl))
theorem ql_MB_171 : jlm lw_tbl 2933 "ChessHouseModel$Board" 171 ⟨"ChessHouseModel$Board", "isTooLittle", "()Z"⟩ = true := jlm_of (Or.inl (jtF_ok rfl))
theorem ql_MB_175 : jlm lw_tbl 2937 "ChessHouseModel$Board" 175 ⟨"ChessHouseModel$Board", "occurrence", "()I"⟩ = true := jlm_of (Or.inl (jtF_ok rfl))
theorem ql_MB_179 : jlm lw_tbl 2964 "ChessHouseModel$Board" 179 ⟨"ChessHouseModel$Board", "ways", "(II)J"⟩ = true := jlm_of (Or.inl (jtF_ok rfl))
theorem ql_MB_183 : jlm lw_tbl 2974 "ChessHouseModel$Board" 183 ⟨"ChessHouseModel$Board", "hasQueen", "(I)Z"⟩ = true := jlm_of (Or.inl (jtF_ok rfl))
theorem ql_MB_186 : jlm lw_tbl 2978 "ChessHouseModel$Board" 186 ⟨"ChessHouseModel$Board", "middle", "(I)I"⟩ = true := jlm_of (Or.inl (jtF_ok rfl))
theorem ql_MB_189 : jlm lw_tbl 2970 "ChessHouseModel$Board" 189 ⟨"ChessHouseModel$Board", "worth", "(I)I"⟩ = true := jlm_of (Or.inl (jtF_ok rfl))
theorem ql_MB_192 : jlm lw_tbl 3013 "ChessHouseModel$Board" 192 ⟨"ChessHouseModel$Board", "sightOf", "()I"⟩ = true := jlm_of (Or.inl (jtF_ok rfl))
theorem ql_MB_195 : jlm lw_tbl 3001 "ChessHouseModel$Board" 195 ⟨"ChessHouseModel$Board", "atEnd", "(I)I"⟩ = true := jlm_of (Or.inl (jtF_ok rfl))
theorem ql_MB_198 : jlm lw_tbl 3009 "ChessHouseModel$Board" 198 ⟨"ChessHouseModel$Board", "calmOf", "(II)I"⟩ = true := jlm_of (Or.inl (jtF_ok rfl))
theorem ql_MB_202 : jlm lw_tbl 3005 "ChessHouseModel$Board" 202 ⟨"ChessHouseModel$Board", "stoodTwice", "(I)Z"⟩ = true := jlm_of (Or.inl (jtF_ok rfl))
theorem ql_MB_209 : jlm lw_tbl 3014 "ChessHouseModel$Board" 209 ⟨"ChessHouseModel$Board", "enter", "(I)V"⟩ = true := jlm_of (Or.inl (jtF_ok rfl))
theorem ql_MB_214 : jlm lw_tbl 2993 "ChessHouseModel$Board" 214 ⟨"ChessHouseModel$Board", "valueOfMove", "(III)I"⟩ = true := jlm_of (Or.inl (jtF_ok rfl))
theorem ql_MB_217 : jlm lw_tbl 2997 "ChessHouseModel$Board" 217 ⟨"ChessHouseModel$Board", "valueOf", "(II)I"⟩ = true := jlm_of (Or.inl (jtF_ok rfl))
theorem ql_MB_229 : jlm lw_tbl 3019 "ChessHouseModel$Board" 229 ⟨"ChessHouseModel$Board", "isSettled", "(II)Z"⟩ = true := jlm_of (Or.inl (jtF_ok rfl))
theorem ql_MB_232 : jlm lw_tbl 3023 "ChessHouseModel$Board" 232 ⟨"ChessHouseModel$Board", "bestOf", "(II)I"⟩ = true := jlm_of (Or.inl (jtF_ok rfl))
theorem ql_MB_238 : jlm lw_tbl 3015 "ChessHouseModel$Board" 238 ⟨"ChessHouseModel$Board", "findLine", "()V"⟩ = true := jlm_of (Or.inl (jtF_ok rfl))
theorem ql_MB_241 : jlm lw_tbl 3243 "ChessHouseModel$Board" 241 ⟨"ChessHouseModel$Board", "solves", "(IIIII)Z"⟩ = true := jlm_of (Or.inl (jtF_ok rfl))
theorem ql_MB_245 : jlm lw_tbl 3247 "ChessHouseModel$Board" 245 ⟨"ChessHouseModel$Board", "isBeaten", "(II)Z"⟩ = true := jlm_of (Or.inl (jtF_ok rfl))
theorem ql_MB_248 : jlm lw_tbl 3251 "ChessHouseModel$Board" 248 ⟨"ChessHouseModel$Board", "isAnswered", "(IIIII)Z"⟩ = true := jlm_of (Or.inl (jtF_ok rfl))
theorem ql_MB_251 : jlm lw_tbl 3255 "ChessHouseModel$Board" 251 ⟨"ChessHouseModel$Board", "isSolved", "(IIII)Z"⟩ = true := jlm_of (Or.inl (jtF_ok rfl))
theorem ql_MB_264 : jlm lw_tbl 3283 "ChessHouseModel$Board" 264 ⟨"ChessHouseModel$Board", "countLines", "(III)I"⟩ = true := jlm_of (Or.inl (jtF_ok rfl))
theorem ql_MB_270 : jlm lw_tbl 2445 "ChessHouseModel$Board" 270 ⟨"ChessHouseModel$Board", "letter", "(I)C"⟩ = true := jlm_of (Or.inl (jtF_ok rfl))
theorem ql_MB_274 : jlm lw_tbl 2435 "ChessHouseModel$Board" 274 ⟨"ChessHouseModel$Board", "sign", "(I)C"⟩ = true := jlm_of (Or.inl (jtF_ok rfl))
theorem ql_MB_277 : jlm lw_tbl 2439 "ChessHouseModel$Board" 277 ⟨"ChessHouseModel$Board", "manOf", "(C)I"⟩ = true := jlm_of (Or.inl (jtF_ok rfl))
theorem ql_MB_281 : jlm lw_tbl 2455 "ChessHouseModel$Board" 281 ⟨"ChessHouseModel$Board", "numberAt", "(I)I"⟩ = true := jlm_of (Or.inl (jtF_ok rfl))
theorem ql_MB_284 : jlm lw_tbl 2459 "ChessHouseModel$Board" 284 ⟨"ChessHouseModel$Board", "lengthOf", "(I)I"⟩ = true := jlm_of (Or.inl (jtF_ok rfl))
theorem ql_MB_287 : jlm lw_tbl 2431 "ChessHouseModel$Board" 287 ⟨"ChessHouseModel$Board", "readMen", "()I"⟩ = true := jlm_of (Or.inl (jtF_ok rfl))
theorem ql_MB_290 : jlm lw_tbl 2448 "ChessHouseModel$Board" 290 ⟨"ChessHouseModel$Board", "readRest", "(I)Z"⟩ = true := jlm_of (Or.inl (jtF_ok rfl))
theorem ql_MB_293 : jlm lw_tbl 2462 "ChessHouseModel$Board" 293 ⟨"ChessHouseModel$Board", "countOf", "(I)I"⟩ = true := jlm_of (Or.inl (jtF_ok rfl))
theorem ql_MB_296 : jlm lw_tbl 2466 "ChessHouseModel$Board" 296 ⟨"ChessHouseModel$Board", "hasPawnAtEnd", "()Z"⟩ = true := jlm_of (Or.inl (jtF_ok rfl))
theorem ql_MB_299 : jlm lw_tbl 2493 "ChessHouseModel$Board" 299 ⟨"ChessHouseModel$Board", "isRightWrong", "()Z"⟩ = true := jlm_of (Or.inl (jtF_ok rfl))
theorem ql_MB_302 : jlm lw_tbl 2497 "ChessHouseModel$Board" 302 ⟨"ChessHouseModel$Board", "isPassedWrong", "()Z"⟩ = true := jlm_of (Or.inl (jtF_ok rfl))
theorem ql_MB_311 : jlm lw_tbl 2875 "ChessHouseModel$Board" 311 ⟨"ChessHouseModel$Board", "say", "(C)V"⟩ = true := jlm_of (Or.inl (jtF_ok rfl))
theorem ql_MB_315 : jlm lw_tbl 2879 "ChessHouseModel$Board" 315 ⟨"ChessHouseModel$Board", "sayNumber", "(I)V"⟩ = true := jlm_of (Or.inl (jtF_ok rfl))
theorem ql_ME_35 : jlm lw_tbl 3112 "ChessHouseModel$Ends" 35 ⟨"ChessHouseModel$Ends", "apart", "(II)I"⟩ = true := jlm_of (Or.inl (jtF_ok rfl))
theorem ql_ME_39 : jlm lw_tbl 3119 "ChessHouseModel$Ends" 39 ⟨"ChessHouseModel$Ends", "goesAlong", "(III)Z"⟩ = true := jlm_of (Or.inl (jtF_ok rfl))
theorem ql_ME_43 : jlm lw_tbl 3122 "ChessHouseModel$Ends" 43 ⟨"ChessHouseModel$Ends", "step", "(III)I"⟩ = true := jlm_of (Or.inl (jtF_ok rfl))
theorem ql_ME_47 : jlm lw_tbl 3105 "ChessHouseModel$Ends" 47 ⟨"ChessHouseModel$Ends", "isSquare", "(I)Z"⟩ = true := jlm_of (Or.inl (jtF_ok rfl))
theorem ql_ME_51 : jlm lw_tbl 3109 "ChessHouseModel$Ends" 51 ⟨"ChessHouseModel$Ends", "isNext", "(II)Z"⟩ = true := jlm_of (Or.inl (jtF_ok rfl))
theorem ql_ME_55 : jlm lw_tbl 3115 "ChessHouseModel$Ends" 55 ⟨"ChessHouseModel$Ends", "attacks", "(IIIII)Z"⟩ = true := jlm_of (Or.inl (jtF_ok rfl))
theorem ql_ME_60 : jlm lw_tbl 3154 "ChessHouseModel$Ends" 60 ⟨"ChessHouseModel$Ends", "cell", "(IIIII)I"⟩ = true := jlm_of (Or.inl (jtF_ok rfl))
theorem ql_ME_66 : jlm lw_tbl 3163 "ChessHouseModel$Ends" 66 ⟨"ChessHouseModel$Ends", "mayGo", "(IIII)Z"⟩ = true := jlm_of (Or.inl (jtF_ok rfl))
theorem ql_ME_70 : jlm lw_tbl 3150 "ChessHouseModel$Ends" 70 ⟨"ChessHouseModel$Ends", "known", "(IIIII)I"⟩ = true := jlm_of (Or.inl (jtF_ok rfl))
theorem ql_ME_73 : jlm lw_tbl 3171 "ChessHouseModel$Ends" 73 ⟨"ChessHouseModel$Ends", "reaches", "(IIIII)Z"⟩ = true := jlm_of (Or.inl (jtF_ok rfl))
theorem ql_ME_76 : jlm lw_tbl 3101 "ChessHouseModel$Ends" 76 ⟨"ChessHouseModel$Ends", "isPosition", "(IIIII)Z"⟩ = true := jlm_of (Or.inl (jtF_ok rfl))
theorem ql_ME_79 : jlm lw_tbl 3159 "ChessHouseModel$Ends" 79 ⟨"ChessHouseModel$Ends", "isLost", "(IIIIZ)Z"⟩ = true := jlm_of (Or.inl (jtF_ok rfl))
theorem ql_ME_83 : jlm lw_tbl 3167 "ChessHouseModel$Ends" 83 ⟨"ChessHouseModel$Ends", "kingReaches", "(IIIII)Z"⟩ = true := jlm_of (Or.inl (jtF_ok rfl))
theorem ql_ME_86 : jlm lw_tbl 3175 "ChessHouseModel$Ends" 86 ⟨"ChessHouseModel$Ends", "manReaches", "(IIIII)Z"⟩ = true := jlm_of (Or.inl (jtF_ok rfl))
theorem ql_ME_89 : jlm lw_tbl 3179 "ChessHouseModel$Ends" 89 ⟨"ChessHouseModel$Ends", "note", "(IIIIII)V"⟩ = true := jlm_of (Or.inl (jtF_ok rfl))
theorem ql_ME_93 : jlm lw_tbl 3138 "ChessHouseModel$Ends" 93 ⟨"ChessHouseModel$Ends", "build2", "(I)V"⟩ = true := jlm_of (Or.inl (jtF_ok rfl))
theorem ql_ME_97 : jlm lw_tbl 3142 "ChessHouseModel$Ends" 97 ⟨"ChessHouseModel$Ends", "passAll", "(II)V"⟩ = true := jlm_of (Or.inl (jtF_ok rfl))
theorem ql_ME_101 : jlm lw_tbl 3146 "ChessHouseModel$Ends" 101 ⟨"ChessHouseModel$Ends", "pass", "(II)Z"⟩ = true := jlm_of (Or.inl (jtF_ok rfl))
theorem ql_ME_104 : jlm lw_tbl 3134 "ChessHouseModel$Ends" 104 ⟨"ChessHouseModel$Ends", "build", "(I)V"⟩ = true := jlm_of (Or.inl (jtF_ok rfl))
theorem ql_ME_110 : jlm lw_tbl 3130 "ChessHouseModel$Ends" 110 ⟨"ChessHouseModel$Ends", "distanceOf", "(IIIII)I"⟩ = true := jlm_of (Or.inl (jtF_ok rfl))
theorem ql_ME_138 : jlm lw_tbl 3195 "ChessHouseModel$Ends" 138 ⟨"ChessHouseModel$Ends", "kingGoes", "(I)Z"⟩ = true := jlm_of (Or.inl (jtF_ok rfl))
theorem ql_ME_141 : jlm lw_tbl 3199 "ChessHouseModel$Ends" 141 ⟨"ChessHouseModel$Ends", "add", "(I)V"⟩ = true := jlm_of (Or.inl (jtF_ok rfl))
theorem ql_ME_144 : jlm lw_tbl 3203 "ChessHouseModel$Ends" 144 ⟨"ChessHouseModel$Ends", "manGoes", "(I)Z"⟩ = true := jlm_of (Or.inl (jtF_ok rfl))
theorem ql_ME_147 : jlm lw_tbl 3191 "ChessHouseModel$Ends" 147 ⟨"ChessHouseModel$Ends", "findMoves", "()V"⟩ = true := jlm_of (Or.inl (jtF_ok rfl))
theorem ql_ME_150 : jlm lw_tbl 3215 "ChessHouseModel$Ends" 150 ⟨"ChessHouseModel$Ends", "behind", "(I)I"⟩ = true := jlm_of (Or.inl (jtF_ok rfl))
theorem ql_ME_154 : jlm lw_tbl 3211 "ChessHouseModel$Ends" 154 ⟨"ChessHouseModel$Ends", "bestOf", "()I"⟩ = true := jlm_of (Or.inl (jtF_ok rfl))
theorem ql_MT_89 : jlm lw_tbl 1917 "ChessHouseModel$Texts" 89 ⟨"ChessHouseModel$Texts", "clearGame", "(I)V"⟩ = true := jlm_of (Or.inl (jtF_ok rfl))
theorem ql_MT_93 : jlm lw_tbl 1925 "ChessHouseModel$Texts" 93 ⟨"ChessHouseModel$Texts", "usual", "(I)V"⟩ = true := jlm_of (Or.inl (jtF_ok rfl))
theorem ql_MT_96 : jlm lw_tbl 1933 "ChessHouseModel$Texts" 96 ⟨"ChessHouseModel$Texts", "place", "(II)V"⟩ = true := jlm_of (Or.inl (jtF_ok rfl))
theorem ql_MT_104 : jlm lw_tbl 1952 "ChessHouseModel$Texts" 104 ⟨"ChessHouseModel$Texts", "step", "(III)I"⟩ = true := jlm_of (Or.inl (jtF_ok rfl))
theorem ql_MT_108 : jlm lw_tbl 1955 "ChessHouseModel$Texts" 108 ⟨"ChessHouseModel$Texts", "stands", "(II)Z"⟩ = true := jlm_of (Or.inl (jtF_ok rfl))
theorem ql_MT_112 : jlm lw_tbl 1986 "ChessHouseModel$Texts" 112 ⟨"ChessHouseModel$Texts", "met", "(III)I"⟩ = true := jlm_of (Or.inl (jtF_ok rfl))
theorem ql_MT_115 : jlm lw_tbl 2002 "ChessHouseModel$Texts" 115 ⟨"ChessHouseModel$Texts", "kingOf", "(I)I"⟩ = true := jlm_of (Or.inl (jtF_ok rfl))
theorem ql_MT_119 : jlm lw_tbl 1982 "ChessHouseModel$Texts" 119 ⟨"ChessHouseModel$Texts", "isAttacked", "(II)Z"⟩ = true := jlm_of (Or.inl (jtF_ok rfl))
theorem ql_MT_137 : jlm lw_tbl 1941 "ChessHouseModel$Texts" 137 ⟨"ChessHouseModel$Texts", "kind", "(I)I"⟩ = true := jlm_of (Or.inl (jtF_ok rfl))
theorem ql_MT_140 : jlm lw_tbl 1944 "ChessHouseModel$Texts" 140 ⟨"ChessHouseModel$Texts", "isTaking", "(I)Z"⟩ = true := jlm_of (Or.inl (jtF_ok rfl))
theorem ql_MT_144 : jlm lw_tbl 1948 "ChessHouseModel$Texts" 144 ⟨"ChessHouseModel$Texts", "lose", "(I)V"⟩ = true := jlm_of (Or.inl (jtF_ok rfl))
theorem ql_MT_147 : jlm lw_tbl 1994 "ChessHouseModel$Texts" 147 ⟨"ChessHouseModel$Texts", "keep", "()V"⟩ = true := jlm_of (Or.inl (jtF_ok rfl))
theorem ql_MT_150 : jlm lw_tbl 1937 "ChessHouseModel$Texts" 150 ⟨"ChessHouseModel$Texts", "make", "(I)V"⟩ = true := jlm_of (Or.inl (jtF_ok rfl))
theorem ql_MT_153 : jlm lw_tbl 1998 "ChessHouseModel$Texts" 153 ⟨"ChessHouseModel$Texts", "isInCheck", "(I)Z"⟩ = true := jlm_of (Or.inl (jtF_ok rfl))
theorem ql_MT_156 : jlm lw_tbl 2006 "ChessHouseModel$Texts" 156 ⟨"ChessHouseModel$Texts", "bringBack", "()V"⟩ = true := jlm_of (Or.inl (jtF_ok rfl))
theorem ql_MT_159 : jlm lw_tbl 1978 "ChessHouseModel$Texts" 159 ⟨"ChessHouseModel$Texts", "isClear", "(II)Z"⟩ = true := jlm_of (Or.inl (jtF_ok rfl))
theorem ql_MT_162 : jlm lw_tbl 1963 "ChessHouseModel$Texts" 162 ⟨"ChessHouseModel$Texts", "sideOf", "(I)I"⟩ = true := jlm_of (Or.inl (jtF_ok rfl))
theorem ql_MT_165 : jlm lw_tbl 1970 "ChessHouseModel$Texts" 165 ⟨"ChessHouseModel$Texts", "pawnGoes", "(II)Z"⟩ = true := jlm_of (Or.inl (jtF_ok rfl))
theorem ql_MT_168 : jlm lw_tbl 1974 "ChessHouseModel$Texts" 168 ⟨"ChessHouseModel$Texts", "mayCastle", "(I)Z"⟩ = true := jlm_of (Or.inl (jtF_ok rfl))
theorem ql_MT_174 : jlm lw_tbl 1966 "ChessHouseModel$Texts" 174 ⟨"ChessHouseModel$Texts", "goes", "(II)Z"⟩ = true := jlm_of (Or.inl (jtF_ok rfl))
theorem ql_MT_177 : jlm lw_tbl 1990 "ChessHouseModel$Texts" 177 ⟨"ChessHouseModel$Texts", "isSafe", "(I)Z"⟩ = true := jlm_of (Or.inl (jtF_ok rfl))
theorem ql_MT_180 : jlm lw_tbl 1921 "ChessHouseModel$Texts" 180 ⟨"ChessHouseModel$Texts", "clearNode", "(I)V"⟩ = true := jlm_of (Or.inl (jtF_ok rfl))
theorem ql_MT_183 : jlm lw_tbl 1929 "ChessHouseModel$Texts" 183 ⟨"ChessHouseModel$Texts", "start", "(I)V"⟩ = true := jlm_of (Or.inl (jtF_ok rfl))
theorem ql_MT_186 : jlm lw_tbl 1959 "ChessHouseModel$Texts" 186 ⟨"ChessHouseModel$Texts", "findMoves", "()V"⟩ = true := jlm_of (Or.inl (jtF_ok rfl))
theorem ql_MT_189 : jlm lw_tbl 2798 "ChessHouseModel$Texts" 189 ⟨"ChessHouseModel$Texts", "isFirst", "(II)Z"⟩ = true := jlm_of (Or.inl (jtF_ok rfl))
theorem ql_MT_195 : jlm lw_tbl 2679 "ChessHouseModel$Texts" 195 ⟨"ChessHouseModel$Texts", "spell", "(C)V"⟩ = true := jlm_of (Or.inl (jtF_ok rfl))
theorem ql_MT_199 : jlm lw_tbl 2671 "ChessHouseModel$Texts" 199 ⟨"ChessHouseModel$Texts", "isCastling", "(I)Z"⟩ = true := jlm_of (Or.inl (jtF_ok rfl))
theorem ql_MT_202 : jlm lw_tbl 2683 "ChessHouseModel$Texts" 202 ⟨"ChessHouseModel$Texts", "letter", "(I)C"⟩ = true := jlm_of (Or.inl (jtF_ok rfl))
theorem ql_MT_206 : jlm lw_tbl 2686 "ChessHouseModel$Texts" 206 ⟨"ChessHouseModel$Texts", "spellSquare", "(I)V"⟩ = true := jlm_of (Or.inl (jtF_ok rfl))
theorem ql_MT_209 : jlm lw_tbl 2698 "ChessHouseModel$Texts" 209 ⟨"ChessHouseModel$Texts", "isSafeOnce", "(I)Z"⟩ = true := jlm_of (Or.inl (jtF_ok rfl))
theorem ql_MT_212 : jlm lw_tbl 2762 "ChessHouseModel$Texts" 212 ⟨"ChessHouseModel$Texts", "apartOf", "(I)I"⟩ = true := jlm_of (Or.inl (jtF_ok rfl))
theorem ql_MT_215 : jlm lw_tbl 2675 "ChessHouseModel$Texts" 215 ⟨"ChessHouseModel$Texts", "spellMove", "(IIZ)V"⟩ = true := jlm_of (Or.inl (jtF_ok rfl))
theorem ql_MT_219 : jlm lw_tbl 2694 "ChessHouseModel$Texts" 219 ⟨"ChessHouseModel$Texts", "behind", "(I)C"⟩ = true := jlm_of (Or.inl (jtF_ok rfl))
theorem ql_MT_222 : jlm lw_tbl 2690 "ChessHouseModel$Texts" 222 ⟨"ChessHouseModel$Texts", "isSpelled", "(IIZ)Z"⟩ = true := jlm_of (Or.inl (jtF_ok rfl))
theorem ql_MT_226 : jlm lw_tbl 2667 "ChessHouseModel$Texts" 226 ⟨"ChessHouseModel$Texts", "fits", "(IIIZ)Z"⟩ = true := jlm_of (Or.inl (jtF_ok rfl))
theorem ql_MT_236 : jlm lw_tbl 2608 "ChessHouseModel$Texts" 236 ⟨"ChessHouseModel$Texts", "sign", "()C"⟩ = true := jlm_of (Or.inl (jtF_ok rfl))
theorem ql_MT_240 : jlm lw_tbl 2612 "ChessHouseModel$Texts" 240 ⟨"ChessHouseModel$Texts", "manOf", "(C)I"⟩ = true := jlm_of (Or.inl (jtF_ok rfl))
theorem ql_MT_244 : jlm lw_tbl 2615 "ChessHouseModel$Texts" 244 ⟨"ChessHouseModel$Texts", "pass", "(C)Z"⟩ = true := jlm_of (Or.inl (jtF_ok rfl))
theorem ql_MT_248 : jlm lw_tbl 2635 "ChessHouseModel$Texts" 248 ⟨"ChessHouseModel$Texts", "countOf", "(I)I"⟩ = true := jlm_of (Or.inl (jtF_ok rfl))
theorem ql_MT_251 : jlm lw_tbl 2604 "ChessHouseModel$Texts" 251 ⟨"ChessHouseModel$Texts", "readRank", "(I)Z"⟩ = true := jlm_of (Or.inl (jtF_ok rfl))
theorem ql_MT_254 : jlm lw_tbl 2619 "ChessHouseModel$Texts" 254 ⟨"ChessHouseModel$Texts", "readRights", "()Z"⟩ = true := jlm_of (Or.inl (jtF_ok rfl))
theorem ql_MT_258 : jlm lw_tbl 2623 "ChessHouseModel$Texts" 258 ⟨"ChessHouseModel$Texts", "readPassed", "()Z"⟩ = true := jlm_of (Or.inl (jtF_ok rfl))
theorem ql_MT_261 : jlm lw_tbl 2627 "ChessHouseModel$Texts" 261 ⟨"ChessHouseModel$Texts", "readNumber", "()I"⟩ = true := jlm_of (Or.inl (jtF_ok rfl))
theorem ql_MT_265 : jlm lw_tbl 2631 "ChessHouseModel$Texts" 265 ⟨"ChessHouseModel$Texts", "mayStand", "()Z"⟩ = true := jlm_of (Or.inl (jtF_ok rfl))
theorem ql_MT_275 : jlm lw_tbl 2570 "ChessHouseModel$Texts" 275 ⟨"ChessHouseModel$Texts", "blanks", "()V"⟩ = true := jlm_of (Or.inl (jtF_ok rfl))
theorem ql_MT_278 : jlm lw_tbl 2574 "ChessHouseModel$Texts" 278 ⟨"ChessHouseModel$Texts", "look", "()C"⟩ = true := jlm_of (Or.inl (jtF_ok rfl))
theorem ql_MT_281 : jlm lw_tbl 2582 "ChessHouseModel$Texts" 281 ⟨"ChessHouseModel$Texts", "isLetter", "(C)Z"⟩ = true := jlm_of (Or.inl (jtF_ok rfl))
theorem ql_MT_284 : jlm lw_tbl 2585 "ChessHouseModel$Texts" 284 ⟨"ChessHouseModel$Texts", "isDigit", "(C)Z"⟩ = true := jlm_of (Or.inl (jtF_ok rfl))
theorem ql_MT_287 : jlm lw_tbl 2588 "ChessHouseModel$Texts" 287 ⟨"ChessHouseModel$Texts", "fault", "(II)I"⟩ = true := jlm_of (Or.inl (jtF_ok rfl))
theorem ql_MT_291 : jlm lw_tbl 2592 "ChessHouseModel$Texts" 291 ⟨"ChessHouseModel$Texts", "isNameThere", "(II)Z"⟩ = true := jlm_of (Or.inl (jtF_ok rfl))
theorem ql_MT_294 : jlm lw_tbl 2596 "ChessHouseModel$Texts" 294 ⟨"ChessHouseModel$Texts", "isTag", "(III)Z"⟩ = true := jlm_of (Or.inl (jtF_ok rfl))
theorem ql_MT_298 : jlm lw_tbl 2600 "ChessHouseModel$Texts" 298 ⟨"ChessHouseModel$Texts", "readPosition", "(II)Z"⟩ = true := jlm_of (Or.inl (jtF_ok rfl))
theorem ql_MT_301 : jlm lw_tbl 2651 "ChessHouseModel$Texts" 301 ⟨"ChessHouseModel$Texts", "goesOnWith", "(CCC)Z"⟩ = true := jlm_of (Or.inl (jtF_ok rfl))
theorem ql_MT_305 : jlm lw_tbl 2714 "ChessHouseModel$Texts" 305 ⟨"ChessHouseModel$Texts", "addMarkTo", "(III)V"⟩ = true := jlm_of (Or.inl (jtF_ok rfl))
theorem ql_MT_309 : jlm lw_tbl 2663 "ChessHouseModel$Texts" 309 ⟨"ChessHouseModel$Texts", "understood", "(II)I"⟩ = true := jlm_of (Or.inl (jtF_ok rfl))
theorem ql_MT_312 : jlm lw_tbl 2702 "ChessHouseModel$Texts" 312 ⟨"ChessHouseModel$Texts", "childWith", "(III)I"⟩ = true := jlm_of (Or.inl (jtF_ok rfl))
theorem ql_MT_315 : jlm lw_tbl 2706 "ChessHouseModel$Texts" 315 ⟨"ChessHouseModel$Texts", "append", "(III)I"⟩ = true := jlm_of (Or.inl (jtF_ok rfl))
theorem ql_MT_318 : jlm lw_tbl 2647 "ChessHouseModel$Texts" 318 ⟨"ChessHouseModel$Texts", "resultHere", "()I"⟩ = true := jlm_of (Or.inl (jtF_ok rfl))
theorem ql_MT_321 : jlm lw_tbl 2655 "ChessHouseModel$Texts" 321 ⟨"ChessHouseModel$Texts", "readMoveNumber", "()I"⟩ = true := jlm_of (Or.inl (jtF_ok rfl))
theorem ql_MT_324 : jlm lw_tbl 2659 "ChessHouseModel$Texts" 324 ⟨"ChessHouseModel$Texts", "readMove", "(II)I"⟩ = true := jlm_of (Or.inl (jtF_ok rfl))
theorem ql_MT_327 : jlm lw_tbl 2710 "ChessHouseModel$Texts" 327 ⟨"ChessHouseModel$Texts", "readMarks", "(II)I"⟩ = true := jlm_of (Or.inl (jtF_ok rfl))
theorem ql_MT_330 : jlm lw_tbl 2639 "ChessHouseModel$Texts" 330 ⟨"ChessHouseModel$Texts", "readRemarks", "(II)I"⟩ = true := jlm_of (Or.inl (jtF_ok rfl))
theorem ql_MT_333 : jlm lw_tbl 2643 "ChessHouseModel$Texts" 333 ⟨"ChessHouseModel$Texts", "readLine", "(III)I"⟩ = true := jlm_of (Or.inl (jtF_ok rfl))
theorem ql_MT_336 : jlm lw_tbl 2578 "ChessHouseModel$Texts" 336 ⟨"ChessHouseModel$Texts", "readTag", "(I)I"⟩ = true := jlm_of (Or.inl (jtF_ok rfl))
theorem ql_MT_339 : jlm lw_tbl 2718 "ChessHouseModel$Texts" 339 ⟨"ChessHouseModel$Texts", "isResultValue", "(III)Z"⟩ = true := jlm_of (Or.inl (jtF_ok rfl))
theorem ql_MT_342 : jlm lw_tbl 2722 "ChessHouseModel$Texts" 342 ⟨"ChessHouseModel$Texts", "resultSize", "(I)I"⟩ = true := jlm_of (Or.inl (jtF_ok rfl))
theorem ql_MT_345 : jlm lw_tbl 2725 "ChessHouseModel$Texts" 345 ⟨"ChessHouseModel$Texts", "resultSign", "(II)C"⟩ = true := jlm_of (Or.inl (jtF_ok rfl))
theorem ql_MT_352 : jlm lw_tbl 2566 "ChessHouseModel$Texts" 352 ⟨"ChessHouseModel$Texts", "readGame", "(I)I"⟩ = true := jlm_of (Or.inl (jtF_ok rfl))
theorem ql_MT_369 : jlm lw_tbl 2738 "ChessHouseModel$Texts" 369 ⟨"ChessHouseModel$Texts", "ink", "(C)V"⟩ = true := jlm_of (Or.inl (jtF_ok rfl))
theorem ql_MT_372 : jlm lw_tbl 2754 "ChessHouseModel$Texts" 372 ⟨"ChessHouseModel$Texts", "sayNumber", "(I)V"⟩ = true := jlm_of (Or.inl (jtF_ok rfl))
theorem ql_MT_375 : jlm lw_tbl 2758 "ChessHouseModel$Texts" 375 ⟨"ChessHouseModel$Texts", "spellWhole", "(I)V"⟩ = true := jlm_of (Or.inl (jtF_ok rfl))
theorem ql_MT_378 : jlm lw_tbl 2742 "ChessHouseModel$Texts" 378 ⟨"ChessHouseModel$Texts", "sayRemark", "(I)V"⟩ = true := jlm_of (Or.inl (jtF_ok rfl))
theorem ql_MT_381 : jlm lw_tbl 2750 "ChessHouseModel$Texts" 381 ⟨"ChessHouseModel$Texts", "sayMove", "(IZ)V"⟩ = true := jlm_of (Or.inl (jtF_ok rfl))
theorem ql_MT_385 : jlm lw_tbl 2746 "ChessHouseModel$Texts" 385 ⟨"ChessHouseModel$Texts", "sayLine", "(IZ)V"⟩ = true := jlm_of (Or.inl (jtF_ok rfl))
theorem ql_MT_388 : jlm lw_tbl 2790 "ChessHouseModel$Texts" 388 ⟨"ChessHouseModel$Texts", "isLegal", "(I)Z"⟩ = true := jlm_of (Or.inl (jtF_ok rfl))
theorem ql_MT_394 : jlm lw_tbl 2794 "ChessHouseModel$Texts" 394 ⟨"ChessHouseModel$Texts", "deepOf", "(II)I"⟩ = true := jlm_of (Or.inl (jtF_ok rfl))
theorem ql_MT_397 : jlm lw_tbl 2834 "ChessHouseModel$Texts" 397 ⟨"ChessHouseModel$Texts", "isBehind", "(II)Z"⟩ = true := jlm_of (Or.inl (jtF_ok rfl))
end
section
noncomputable def y_AR_rangeCheck : jY := (⟨"java/util/Arrays", "rangeCheck", "(III)V"⟩, prog_32_method_30_code, 3, none)
theorem m_AR_rangeCheck : jmth lw_tbl y_AR_rangeCheck 3 := ⟨jTA_in (wi := 633) (jtF_ok rfl) rfl, jTA_in (wi := 313) (jtF_ok rfl) rfl, by decide, by decide, by decide +kernel⟩
theorem s_AR_rangeCheck : Jvm.Cond.static y_AR_rangeCheck.1 ∈ jTA lw_tbl := jTA_in (wi := 632) (jtF_ok rfl) rfl
noncomputable def kk_AR_rangeCheck_0 : List jI := [(.iload_n 1, 1, (1, 0, 0, 0, 0)), (.iload_n 2, 1, (2, 0, 0, 0, 0)), (.if_icmp .le 44, 3, (46, 0, 0, 0, 0)), (.new 43, 3, (0, 0, 0, 0, 0)), (.dup, 1, (0, 0, 0, 0, 0)), (.new 45, 3, (0, 0, 0, 0, 0)), (.dup, 1, (0, 0, 0, 0, 0)), (.invokespecial 47, 3, (0, 0, 0, 0, 0))]
theorem oo_AR_rangeCheck_0 : jokL "java/util/Arrays" lw_tbl jcl jtb 3 false prog_32_method_30_code 0 kk_AR_rangeCheck_0 = true := by decide +kernel
noncomputable def kk_AR_rangeCheck_36 : List jI := [(.invokevirtual 50, 3, (0, 0, 0, 0, 0)), (.invokevirtual 61, 3, (0, 0, 0, 0, 0)), (.invokespecial 65, 3, (0, 0, 0, 0, 0)), (.athrow, 1, (0, 0, 0, 0, 0)), (.iload_n 1, 1, (1, 0, 0, 0, 0)), (.ifCond .ge 12, 3, (59, 0, 0, 0, 0)), (.new 68, 3, (0, 0, 0, 0, 0)), (.dup, 1, (0, 0, 0, 0, 0)), (.iload_n 1, 1, (1, 0, 0, 0, 0)), (.invokespecial 70, 3, (0, 0, 0, 0, 0)), (.athrow, 1, (0, 0, 0, 0, 0)), (.iload_n 2, 1, (2, 0, 0, 0, 0)), (.iload_n 0, 1, (0, 0, 0, 0, 0)), (.if_icmp .le 12, 3, (73, 0, 0, 0, 0)), (.new 68, 3, (0, 0, 0, 0, 0)), (.dup, 1, (0, 0, 0, 0, 0)), (.iload_n 2, 1, (2, 0, 0, 0, 0)), (.invokespecial 70, 3, (0, 0, 0, 0, 0)), (.athrow, 1, (0, 0, 0, 0, 0)), (.return_, 1, (0, 0, 0, 0, 0))]
theorem oo_AR_rangeCheck_36 : jokL "java/util/Arrays" lw_tbl jcl jtb 3 false prog_32_method_30_code 36 kk_AR_rangeCheck_36 = true := by decide +kernel
noncomputable def k_AR_rangeCheck_0 : List jI := [(.iload_n 1, 1, (1, 0, 0, 0, 0)), (.iload_n 2, 1, (2, 0, 0, 0, 0)), (.if_icmp .le 44, 3, (46, 0, 0, 0, 0))]
theorem o_AR_rangeCheck_0 : jokL "java/util/Arrays" lw_tbl jcl jtb 3 false prog_32_method_30_code 0 k_AR_rangeCheck_0 = true := jok_sub oo_AR_rangeCheck_0 0 3 rfl rfl
noncomputable def k_AR_rangeCheck_46 : List jI := [(.iload_n 1, 1, (1, 0, 0, 0, 0)), (.ifCond .ge 12, 3, (59, 0, 0, 0, 0))]
theorem o_AR_rangeCheck_46 : jokL "java/util/Arrays" lw_tbl jcl jtb 3 false prog_32_method_30_code 46 k_AR_rangeCheck_46 = true := jok_sub oo_AR_rangeCheck_36 4 2 rfl rfl
noncomputable def k_AR_rangeCheck_59 : List jI := [(.iload_n 2, 1, (2, 0, 0, 0, 0)), (.iload_n 0, 1, (0, 0, 0, 0, 0)), (.if_icmp .le 12, 3, (73, 0, 0, 0, 0))]
theorem o_AR_rangeCheck_59 : jokL "java/util/Arrays" lw_tbl jcl jtb 3 false prog_32_method_30_code 59 k_AR_rangeCheck_59 = true := jok_sub oo_AR_rangeCheck_36 11 3 rfl rfl
theorem d_AR_rangeCheck_73 : decode prog_32_method_30_code 73 = .ok (.return_, 1) := by decide +kernel
noncomputable def y_AR_fill2 : jY := (⟨"java/util/Arrays", "fill", "([II)V"⟩, prog_32_method_103_code, 4, none)
theorem m_AR_fill2 : jmth lw_tbl y_AR_fill2 2 := ⟨jTA_in (wi := 650) (jtF_ok rfl) rfl, jTA_in (wi := 313) (jtF_ok rfl) rfl, by decide, by decide, by decide +kernel⟩
theorem s_AR_fill2 : Jvm.Cond.static y_AR_fill2.1 ∈ jTA lw_tbl := jTA_in (wi := 649) (jtF_ok rfl) rfl
noncomputable def y_AR_fill3 : jY := (⟨"java/util/Arrays", "fill", "([JJ)V"⟩, prog_32_method_101_code, 5, none)
theorem m_AR_fill3 : jmth lw_tbl y_AR_fill3 2 := ⟨jTA_in (wi := 653) (jtF_ok rfl) rfl, jTA_in (wi := 313) (jtF_ok rfl) rfl, by decide, by decide, by decide +kernel⟩
theorem s_AR_fill3 : Jvm.Cond.static y_AR_fill3.1 ∈ jTA lw_tbl := jTA_in (wi := 652) (jtF_ok rfl) rfl
noncomputable def y_AR_fill : jY := (⟨"java/util/Arrays", "fill", "([IIII)V"⟩, prog_32_method_104_code, 5, none)
theorem m_AR_fill : jmth lw_tbl y_AR_fill 4 := ⟨jTA_in (wi := 630) (jtF_ok rfl) rfl, jTA_in (wi := 313) (jtF_ok rfl) rfl, by decide, by decide, by decide +kernel⟩
theorem s_AR_fill : Jvm.Cond.static y_AR_fill.1 ∈ jTA lw_tbl := jTA_in (wi := 629) (jtF_ok rfl) rfl
noncomputable def kk_AR_fill_0 : List jI := [(.aload_n 0, 1, (0, 0, 0, 0, 0)), (.arraylength, 1, (0, 0, 0, 0, 0)), (.iload_n 1, 1, (1, 0, 0, 0, 0)), (.iload_n 2, 1, (2, 0, 0, 0, 0)), (.invokestatic 13, 3, (0, 0, 0, 0, 0)), (.iload_n 1, 1, (1, 0, 0, 0, 0)), (.istore 4, 2, (4, 0, 0, 0, 0)), (.iload 4, 2, (4, 0, 0, 0, 0)), (.iload_n 2, 1, (2, 0, 0, 0, 0)), (.if_icmp .ge 14, 3, (27, 0, 0, 0, 0)), (.aload_n 0, 1, (0, 0, 0, 0, 0)), (.iload 4, 2, (4, 0, 0, 0, 0)), (.iload_n 3, 1, (3, 0, 0, 0, 0)), (.iastore, 1, (0, 0, 0, 0, 0)), (.iinc 4 1, 3, (0, 0, 0, 1, 0)), (.goto (-14), 3, (10, 0, 0, 0, 0)), (.return_, 1, (0, 0, 0, 0, 0))]
theorem oo_AR_fill_0 : jokL "java/util/Arrays" lw_tbl jcl jtb 5 false prog_32_method_104_code 0 kk_AR_fill_0 = true := by decide +kernel
noncomputable def k_AR_fill_0 : List jI := [(.aload_n 0, 1, (0, 0, 0, 0, 0)), (.arraylength, 1, (0, 0, 0, 0, 0)), (.iload_n 1, 1, (1, 0, 0, 0, 0)), (.iload_n 2, 1, (2, 0, 0, 0, 0))]
theorem o_AR_fill_0 : jokL "java/util/Arrays" lw_tbl jcl jtb 5 false prog_32_method_104_code 0 k_AR_fill_0 = true := jok_sub oo_AR_fill_0 0 4 rfl rfl
noncomputable def k_AR_fill_7 : List jI := [(.iload_n 1, 1, (1, 0, 0, 0, 0)), (.istore 4, 2, (4, 0, 0, 0, 0))]
theorem o_AR_fill_7 : jokL "java/util/Arrays" lw_tbl jcl jtb 5 false prog_32_method_104_code 7 k_AR_fill_7 = true := jok_sub oo_AR_fill_0 5 2 rfl rfl
noncomputable def k_AR_fill_10 : List jI := [(.iload 4, 2, (4, 0, 0, 0, 0)), (.iload_n 2, 1, (2, 0, 0, 0, 0)), (.if_icmp .ge 14, 3, (27, 0, 0, 0, 0)), (.aload_n 0, 1, (0, 0, 0, 0, 0)), (.iload 4, 2, (4, 0, 0, 0, 0)), (.iload_n 3, 1, (3, 0, 0, 0, 0)), (.iastore, 1, (0, 0, 0, 0, 0)), (.iinc 4 1, 3, (0, 0, 0, 1, 0)), (.goto (-14), 3, (10, 0, 0, 0, 0))]
theorem o_AR_fill_10 : jokL "java/util/Arrays" lw_tbl jcl jtb 5 false prog_32_method_104_code 10 k_AR_fill_10 = true := jok_sub oo_AR_fill_0 7 9 rfl rfl
theorem d_AR_fill_4 : decode prog_32_method_104_code 4 = .ok (.invokestatic 13, 3) := by decide +kernel
theorem q_AR_fill_4 : jlm lw_tbl 631 "java/util/Arrays" 13 ⟨"java/util/Arrays", "rangeCheck", "(III)V"⟩ = true := jlm_of (Or.inl (jtF_ok rfl))
theorem d_AR_fill_27 : decode prog_32_method_104_code 27 = .ok (.return_, 1) := by decide +kernel
noncomputable def y_BY_init : jY := (⟨"ChessHouse$Bytes", "<init>", "(I)V"⟩, prog_4_method_1_code, 2, none)
theorem m_BY_init : jmth lw_tbl y_BY_init 1 := ⟨jTA_in (wi := 348) (jtF_ok rfl) rfl, jTA_in (wi := 303) (jtF_ok rfl) rfl, by decide, by decide, by decide +kernel⟩
theorem i_BY_init : Jvm.Cond.instanceMethod y_BY_init.1 ∈ jTA lw_tbl := jTA_in (wi := 347) (jtF_ok rfl) rfl
noncomputable def kk_BY_init_0 : List jI := [(.aload_n 0, 1, (0, 0, 0, 0, 0)), (.invokespecial 3, 3, (0, 0, 0, 0, 0)), (.aload_n 0, 1, (0, 0, 0, 0, 0)), (.iload_n 1, 1, (1, 0, 0, 0, 0)), (.newarray .byte, 2, (0, 0, 0, 0, 0)), (.putfield 9, 3, (1, 0, 350, 3, 0)), (.return_, 1, (0, 0, 0, 0, 0))]
theorem oo_BY_init_0 : jokL "ChessHouse$Bytes" lw_tbl jcl jtb 2 true prog_4_method_1_code 0 kk_BY_init_0 = true := by decide +kernel
noncomputable def k_BY_init_0 : List jI := [(.aload_n 0, 1, (0, 0, 0, 0, 0))]
theorem o_BY_init_0 : jokL "ChessHouse$Bytes" lw_tbl jcl jtb 2 true prog_4_method_1_code 0 k_BY_init_0 = true := jok_sub oo_BY_init_0 0 1 rfl rfl
noncomputable def k_BY_init_4 : List jI := [(.aload_n 0, 1, (0, 0, 0, 0, 0)), (.iload_n 1, 1, (1, 0, 0, 0, 0))]
theorem o_BY_init_4 : jokL "ChessHouse$Bytes" lw_tbl jcl jtb 2 true prog_4_method_1_code 4 k_BY_init_4 = true := jok_sub oo_BY_init_0 2 2 rfl rfl
noncomputable def k_BY_init_8 : List jI := [(.putfield 9, 3, (1, 0, 350, 3, 0))]
theorem o_BY_init_8 : jokL "ChessHouse$Bytes" lw_tbl jcl jtb 2 true prog_4_method_1_code 8 k_BY_init_8 = true := jok_sub oo_BY_init_0 5 1 rfl rfl
theorem d_BY_init_1 : decode prog_4_method_1_code 1 = .ok (.invokespecial 3, 3) := by decide +kernel
theorem d_BY_init_6 : decode prog_4_method_1_code 6 = .ok (.newarray .byte, 2) := by decide +kernel
theorem d_BY_init_11 : decode prog_4_method_1_code 11 = .ok (.return_, 1) := by decide +kernel
noncomputable def y_BY_clear : jY := (⟨"ChessHouse$Bytes", "clear", "()V"⟩, prog_4_method_2_code, 1, none)
theorem m_BY_clear : jmth lw_tbl y_BY_clear 0 := ⟨jTA_in (wi := 964) (jtF_ok rfl) rfl, jTA_in (wi := 303) (jtF_ok rfl) rfl, by decide, by decide, by decide +kernel⟩
theorem i_BY_clear : Jvm.Cond.instanceMethod y_BY_clear.1 ∈ jTA lw_tbl := jTA_in (wi := 962) (jtF_ok rfl) rfl
theorem e_BY_clear : Jvm.Cond.selects y_BY_clear.1.cls y_BY_clear.1 y_BY_clear.1 ∈ jTA lw_tbl := jTA_in (wi := 963) (jtF_ok rfl) rfl
noncomputable def y_WO_init : jY := (⟨"ChessHouse$Words", "<init>", "()V"⟩, prog_13_method_1_code, 1, none)
theorem m_WO_init : jmth lw_tbl y_WO_init 0 := ⟨jTA_in (wi := 366) (jtF_ok rfl) rfl, jTA_in (wi := 304) (jtF_ok rfl) rfl, by decide, by decide, by decide +kernel⟩
theorem i_WO_init : Jvm.Cond.instanceMethod y_WO_init.1 ∈ jTA lw_tbl := jTA_in (wi := 365) (jtF_ok rfl) rfl
noncomputable def kk_WO_init_0 : List jI := [(.aload_n 0, 1, (0, 0, 0, 0, 0)), (.invokespecial 1, 3, (0, 0, 0, 0, 0)), (.aload_n 0, 1, (0, 0, 0, 0, 0)), (.bipush 8, 2, (0, 0, 0, 8, 0)), (.newarray .int, 2, (0, 0, 0, 0, 0)), (.putfield 7, 3, (2, 0, 368, 3, 0)), (.return_, 1, (0, 0, 0, 0, 0))]
theorem oo_WO_init_0 : jokL "ChessHouse$Words" lw_tbl jcl jtb 1 true prog_13_method_1_code 0 kk_WO_init_0 = true := by decide +kernel
noncomputable def k_WO_init_0 : List jI := [(.aload_n 0, 1, (0, 0, 0, 0, 0))]
theorem o_WO_init_0 : jokL "ChessHouse$Words" lw_tbl jcl jtb 1 true prog_13_method_1_code 0 k_WO_init_0 = true := jok_sub oo_WO_init_0 0 1 rfl rfl
noncomputable def k_WO_init_4 : List jI := [(.aload_n 0, 1, (0, 0, 0, 0, 0)), (.bipush 8, 2, (0, 0, 0, 8, 0))]
theorem o_WO_init_4 : jokL "ChessHouse$Words" lw_tbl jcl jtb 1 true prog_13_method_1_code 4 k_WO_init_4 = true := jok_sub oo_WO_init_0 2 2 rfl rfl
noncomputable def k_WO_init_9 : List jI := [(.putfield 7, 3, (2, 0, 368, 3, 0))]
theorem o_WO_init_9 : jokL "ChessHouse$Words" lw_tbl jcl jtb 1 true prog_13_method_1_code 9 k_WO_init_9 = true := jok_sub oo_WO_init_0 5 1 rfl rfl
theorem d_WO_init_1 : decode prog_13_method_1_code 1 = .ok (.invokespecial 1, 3) := by decide +kernel
theorem d_WO_init_7 : decode prog_13_method_1_code 7 = .ok (.newarray .int, 2) := by decide +kernel
theorem d_WO_init_12 : decode prog_13_method_1_code 12 = .ok (.return_, 1) := by decide +kernel
noncomputable def y_SI_init : jY := (⟨"ChessHouse$Signs", "<init>", "()V"⟩, prog_12_method_1_code, 1, none)
theorem m_SI_init : jmth lw_tbl y_SI_init 0 := ⟨jTA_in (wi := 392) (jtF_ok rfl) rfl, jTA_in (wi := 305) (jtF_ok rfl) rfl, by decide, by decide, by decide +kernel⟩
theorem i_SI_init : Jvm.Cond.instanceMethod y_SI_init.1 ∈ jTA lw_tbl := jTA_in (wi := 391) (jtF_ok rfl) rfl
noncomputable def kk_SI_init_0 : List jI := [(.aload_n 0, 1, (0, 0, 0, 0, 0)), (.invokespecial 1, 3, (0, 0, 0, 0, 0)), (.aload_n 0, 1, (0, 0, 0, 0, 0)), (.sipush 3456, 3, (0, 0, 0, 3456, 0)), (.newarray .int, 2, (0, 0, 0, 0, 0)), (.putfield 9, 3, (3, 0, 394, 3, 0)), (.aload_n 0, 1, (0, 0, 0, 0, 0)), (.bipush 7, 2, (0, 0, 0, 7, 0)), (.newarray .int, 2, (0, 0, 0, 0, 0)), (.putfield 15, 3, (3, 1, 395, 3, 0)), (.return_, 1, (0, 0, 0, 0, 0))]
theorem oo_SI_init_0 : jokL "ChessHouse$Signs" lw_tbl jcl jtb 1 true prog_12_method_1_code 0 kk_SI_init_0 = true := by decide +kernel
noncomputable def k_SI_init_0 : List jI := [(.aload_n 0, 1, (0, 0, 0, 0, 0))]
theorem o_SI_init_0 : jokL "ChessHouse$Signs" lw_tbl jcl jtb 1 true prog_12_method_1_code 0 k_SI_init_0 = true := jok_sub oo_SI_init_0 0 1 rfl rfl
noncomputable def k_SI_init_4 : List jI := [(.aload_n 0, 1, (0, 0, 0, 0, 0)), (.sipush 3456, 3, (0, 0, 0, 3456, 0))]
theorem o_SI_init_4 : jokL "ChessHouse$Signs" lw_tbl jcl jtb 1 true prog_12_method_1_code 4 k_SI_init_4 = true := jok_sub oo_SI_init_0 2 2 rfl rfl
noncomputable def k_SI_init_10 : List jI := [(.putfield 9, 3, (3, 0, 394, 3, 0)), (.aload_n 0, 1, (0, 0, 0, 0, 0)), (.bipush 7, 2, (0, 0, 0, 7, 0))]
theorem o_SI_init_10 : jokL "ChessHouse$Signs" lw_tbl jcl jtb 1 true prog_12_method_1_code 10 k_SI_init_10 = true := jok_sub oo_SI_init_0 5 3 rfl rfl
noncomputable def k_SI_init_18 : List jI := [(.putfield 15, 3, (3, 1, 395, 3, 0))]
theorem o_SI_init_18 : jokL "ChessHouse$Signs" lw_tbl jcl jtb 1 true prog_12_method_1_code 18 k_SI_init_18 = true := jok_sub oo_SI_init_0 9 1 rfl rfl
theorem d_SI_init_1 : decode prog_12_method_1_code 1 = .ok (.invokespecial 1, 3) := by decide +kernel
theorem d_SI_init_8 : decode prog_12_method_1_code 8 = .ok (.newarray .int, 2) := by decide +kernel
theorem d_SI_init_16 : decode prog_12_method_1_code 16 = .ok (.newarray .int, 2) := by decide +kernel
theorem d_SI_init_21 : decode prog_12_method_1_code 21 = .ok (.return_, 1) := by decide +kernel
noncomputable def y_GR_init : jY := (⟨"ChessHouse$GameReader", "<init>", "()V"⟩, prog_8_method_1_code, 1, none)
theorem m_GR_init : jmth lw_tbl y_GR_init 0 := ⟨jTA_in (wi := 432) (jtF_ok rfl) rfl, jTA_in (wi := 306) (jtF_ok rfl) rfl, by decide, by decide, by decide +kernel⟩
theorem i_GR_init : Jvm.Cond.instanceMethod y_GR_init.1 ∈ jTA lw_tbl := jTA_in (wi := 431) (jtF_ok rfl) rfl
noncomputable def kk_GR_init_0 : List jI := [(.aload_n 0, 1, (0, 0, 0, 0, 0)), (.invokespecial 3, 3, (0, 0, 0, 0, 0)), (.aload_n 0, 1, (0, 0, 0, 0, 0)), (.new 9, 3, (0, 0, 0, 0, 0)), (.dup, 1, (0, 0, 0, 0, 0)), (.invokespecial 11, 3, (0, 0, 0, 0, 0)), (.putfield 12, 3, (4, 1, 438, 3, 0)), (.aload_n 0, 1, (0, 0, 0, 0, 0)), (.bipush 6, 2, (0, 0, 0, 6, 0)), (.newarray .int, 2, (0, 0, 0, 0, 0)), (.putfield 20, 3, (4, 2, 439, 3, 0)), (.aload_n 0, 1, (0, 0, 0, 0, 0)), (.bipush 96, 2, (0, 0, 0, 96, 0)), (.newarray .byte, 2, (0, 0, 0, 0, 0)), (.putfield 24, 3, (4, 3, 440, 3, 0)), (.return_, 1, (0, 0, 0, 0, 0))]
theorem oo_GR_init_0 : jokL "ChessHouse$GameReader" lw_tbl jcl jtb 1 true prog_8_method_1_code 0 kk_GR_init_0 = true := by decide +kernel
noncomputable def k_GR_init_0 : List jI := [(.aload_n 0, 1, (0, 0, 0, 0, 0))]
theorem o_GR_init_0 : jokL "ChessHouse$GameReader" lw_tbl jcl jtb 1 true prog_8_method_1_code 0 k_GR_init_0 = true := jok_sub oo_GR_init_0 0 1 rfl rfl
noncomputable def k_GR_init_4 : List jI := [(.aload_n 0, 1, (0, 0, 0, 0, 0))]
theorem o_GR_init_4 : jokL "ChessHouse$GameReader" lw_tbl jcl jtb 1 true prog_8_method_1_code 4 k_GR_init_4 = true := jok_sub oo_GR_init_0 2 1 rfl rfl
noncomputable def k_GR_init_8 : List jI := [(.dup, 1, (0, 0, 0, 0, 0))]
theorem o_GR_init_8 : jokL "ChessHouse$GameReader" lw_tbl jcl jtb 1 true prog_8_method_1_code 8 k_GR_init_8 = true := jok_sub oo_GR_init_0 4 1 rfl rfl
noncomputable def k_GR_init_12 : List jI := [(.putfield 12, 3, (4, 1, 438, 3, 0)), (.aload_n 0, 1, (0, 0, 0, 0, 0)), (.bipush 6, 2, (0, 0, 0, 6, 0))]
theorem o_GR_init_12 : jokL "ChessHouse$GameReader" lw_tbl jcl jtb 1 true prog_8_method_1_code 12 k_GR_init_12 = true := jok_sub oo_GR_init_0 6 3 rfl rfl
noncomputable def k_GR_init_20 : List jI := [(.putfield 20, 3, (4, 2, 439, 3, 0)), (.aload_n 0, 1, (0, 0, 0, 0, 0)), (.bipush 96, 2, (0, 0, 0, 96, 0))]
theorem o_GR_init_20 : jokL "ChessHouse$GameReader" lw_tbl jcl jtb 1 true prog_8_method_1_code 20 k_GR_init_20 = true := jok_sub oo_GR_init_0 10 3 rfl rfl
noncomputable def k_GR_init_28 : List jI := [(.putfield 24, 3, (4, 3, 440, 3, 0))]
theorem o_GR_init_28 : jokL "ChessHouse$GameReader" lw_tbl jcl jtb 1 true prog_8_method_1_code 28 k_GR_init_28 = true := jok_sub oo_GR_init_0 14 1 rfl rfl
theorem d_GR_init_1 : decode prog_8_method_1_code 1 = .ok (.invokespecial 3, 3) := by decide +kernel
theorem d_GR_init_5 : decode prog_8_method_1_code 5 = .ok (.new 9, 3) := by decide +kernel
theorem d_GR_init_9 : decode prog_8_method_1_code 9 = .ok (.invokespecial 11, 3) := by decide +kernel
theorem q_GR_init_9 : jlm lw_tbl 435 "ChessHouse$GameReader" 11 ⟨"ChessHouse$Signs", "<init>", "()V"⟩ = true := jlm_of (Or.inr ⟨_, jtF_ok rfl⟩)
theorem d_GR_init_18 : decode prog_8_method_1_code 18 = .ok (.newarray .int, 2) := by decide +kernel
theorem d_GR_init_26 : decode prog_8_method_1_code 26 = .ok (.newarray .byte, 2) := by decide +kernel
theorem d_GR_init_31 : decode prog_8_method_1_code 31 = .ok (.return_, 1) := by decide +kernel
noncomputable def y_GW_init : jY := (⟨"ChessHouse$GameWriter", "<init>", "()V"⟩, prog_9_method_1_code, 1, none)
theorem m_GW_init : jmth lw_tbl y_GW_init 0 := ⟨jTA_in (wi := 478) (jtF_ok rfl) rfl, jTA_in (wi := 307) (jtF_ok rfl) rfl, by decide, by decide, by decide +kernel⟩
theorem i_GW_init : Jvm.Cond.instanceMethod y_GW_init.1 ∈ jTA lw_tbl := jTA_in (wi := 477) (jtF_ok rfl) rfl
noncomputable def kk_GW_init_0 : List jI := [(.aload_n 0, 1, (0, 0, 0, 0, 0)), (.invokespecial 3, 3, (0, 0, 0, 0, 0)), (.aload_n 0, 1, (0, 0, 0, 0, 0)), (.new 9, 3, (0, 0, 0, 0, 0)), (.dup, 1, (0, 0, 0, 0, 0)), (.ldc 11, 2, (0, 0, 481, 131072, 0)), (.invokespecial 12, 3, (0, 0, 0, 0, 0)), (.putfield 15, 3, (5, 0, 485, 3, 0)), (.aload_n 0, 1, (0, 0, 0, 0, 0)), (.new 21, 3, (0, 0, 0, 0, 0)), (.dup, 1, (0, 0, 0, 0, 0)), (.invokespecial 23, 3, (0, 0, 0, 0, 0)), (.putfield 24, 3, (5, 1, 486, 3, 0)), (.return_, 1, (0, 0, 0, 0, 0))]
theorem oo_GW_init_0 : jokL "ChessHouse$GameWriter" lw_tbl jcl jtb 1 true prog_9_method_1_code 0 kk_GW_init_0 = true := by decide +kernel
noncomputable def k_GW_init_0 : List jI := [(.aload_n 0, 1, (0, 0, 0, 0, 0))]
theorem o_GW_init_0 : jokL "ChessHouse$GameWriter" lw_tbl jcl jtb 1 true prog_9_method_1_code 0 k_GW_init_0 = true := jok_sub oo_GW_init_0 0 1 rfl rfl
noncomputable def k_GW_init_4 : List jI := [(.aload_n 0, 1, (0, 0, 0, 0, 0))]
theorem o_GW_init_4 : jokL "ChessHouse$GameWriter" lw_tbl jcl jtb 1 true prog_9_method_1_code 4 k_GW_init_4 = true := jok_sub oo_GW_init_0 2 1 rfl rfl
noncomputable def k_GW_init_8 : List jI := [(.dup, 1, (0, 0, 0, 0, 0)), (.ldc 11, 2, (0, 0, 481, 131072, 0))]
theorem o_GW_init_8 : jokL "ChessHouse$GameWriter" lw_tbl jcl jtb 1 true prog_9_method_1_code 8 k_GW_init_8 = true := jok_sub oo_GW_init_0 4 2 rfl rfl
noncomputable def k_GW_init_14 : List jI := [(.putfield 15, 3, (5, 0, 485, 3, 0)), (.aload_n 0, 1, (0, 0, 0, 0, 0))]
theorem o_GW_init_14 : jokL "ChessHouse$GameWriter" lw_tbl jcl jtb 1 true prog_9_method_1_code 14 k_GW_init_14 = true := jok_sub oo_GW_init_0 7 2 rfl rfl
noncomputable def k_GW_init_21 : List jI := [(.dup, 1, (0, 0, 0, 0, 0))]
theorem o_GW_init_21 : jokL "ChessHouse$GameWriter" lw_tbl jcl jtb 1 true prog_9_method_1_code 21 k_GW_init_21 = true := jok_sub oo_GW_init_0 10 1 rfl rfl
noncomputable def k_GW_init_25 : List jI := [(.putfield 24, 3, (5, 1, 486, 3, 0))]
theorem o_GW_init_25 : jokL "ChessHouse$GameWriter" lw_tbl jcl jtb 1 true prog_9_method_1_code 25 k_GW_init_25 = true := jok_sub oo_GW_init_0 12 1 rfl rfl
theorem d_GW_init_1 : decode prog_9_method_1_code 1 = .ok (.invokespecial 3, 3) := by decide +kernel
theorem d_GW_init_5 : decode prog_9_method_1_code 5 = .ok (.new 9, 3) := by decide +kernel
theorem d_GW_init_11 : decode prog_9_method_1_code 11 = .ok (.invokespecial 12, 3) := by decide +kernel
theorem q_GW_init_11 : jlm lw_tbl 482 "ChessHouse$GameWriter" 12 ⟨"ChessHouse$Bytes", "<init>", "(I)V"⟩ = true := jlm_of (Or.inl (jtF_ok rfl))
theorem d_GW_init_18 : decode prog_9_method_1_code 18 = .ok (.new 21, 3) := by decide +kernel
theorem d_GW_init_22 : decode prog_9_method_1_code 22 = .ok (.invokespecial 23, 3) := by decide +kernel
theorem q_GW_init_22 : jlm lw_tbl 484 "ChessHouse$GameWriter" 23 ⟨"ChessHouse$Signs", "<init>", "()V"⟩ = true := jlm_of (Or.inr ⟨_, jtF_ok rfl⟩)
theorem d_GW_init_28 : decode prog_9_method_1_code 28 = .ok (.return_, 1) := by decide +kernel
noncomputable def y_SE_init : jY := (⟨"ChessHouse$Search", "<init>", "()V"⟩, prog_11_method_1_code, 1, none)
theorem m_SE_init : jmth lw_tbl y_SE_init 0 := ⟨jTA_in (wi := 499) (jtF_ok rfl) rfl, jTA_in (wi := 308) (jtF_ok rfl) rfl, by decide, by decide, by decide +kernel⟩
theorem i_SE_init : Jvm.Cond.instanceMethod y_SE_init.1 ∈ jTA lw_tbl := jTA_in (wi := 498) (jtF_ok rfl) rfl
noncomputable def kk_SE_init_0 : List jI := [(.aload_n 0, 1, (0, 0, 0, 0, 0)), (.invokespecial 1, 3, (0, 0, 0, 0, 0)), (.aload_n 0, 1, (0, 0, 0, 0, 0)), (.sipush 20736, 3, (0, 0, 0, 20736, 0)), (.newarray .int, 2, (0, 0, 0, 0, 0)), (.putfield 9, 3, (6, 1, 503, 3, 0)), (.aload_n 0, 1, (0, 0, 0, 0, 0)), (.bipush 8, 2, (0, 0, 0, 8, 0)), (.newarray .int, 2, (0, 0, 0, 0, 0)), (.putfield 15, 3, (6, 2, 504, 3, 0)), (.aload_n 0, 1, (0, 0, 0, 0, 0)), (.bipush 8, 2, (0, 0, 0, 8, 0)), (.newarray .long, 2, (0, 0, 0, 0, 0)), (.putfield 18, 3, (6, 3, 505, 3, 0)), (.return_, 1, (0, 0, 0, 0, 0))]
theorem oo_SE_init_0 : jokL "ChessHouse$Search" lw_tbl jcl jtb 1 true prog_11_method_1_code 0 kk_SE_init_0 = true := by decide +kernel
noncomputable def k_SE_init_0 : List jI := [(.aload_n 0, 1, (0, 0, 0, 0, 0))]
theorem o_SE_init_0 : jokL "ChessHouse$Search" lw_tbl jcl jtb 1 true prog_11_method_1_code 0 k_SE_init_0 = true := jok_sub oo_SE_init_0 0 1 rfl rfl
noncomputable def k_SE_init_4 : List jI := [(.aload_n 0, 1, (0, 0, 0, 0, 0)), (.sipush 20736, 3, (0, 0, 0, 20736, 0))]
theorem o_SE_init_4 : jokL "ChessHouse$Search" lw_tbl jcl jtb 1 true prog_11_method_1_code 4 k_SE_init_4 = true := jok_sub oo_SE_init_0 2 2 rfl rfl
noncomputable def k_SE_init_10 : List jI := [(.putfield 9, 3, (6, 1, 503, 3, 0)), (.aload_n 0, 1, (0, 0, 0, 0, 0)), (.bipush 8, 2, (0, 0, 0, 8, 0))]
theorem o_SE_init_10 : jokL "ChessHouse$Search" lw_tbl jcl jtb 1 true prog_11_method_1_code 10 k_SE_init_10 = true := jok_sub oo_SE_init_0 5 3 rfl rfl
noncomputable def k_SE_init_18 : List jI := [(.putfield 15, 3, (6, 2, 504, 3, 0)), (.aload_n 0, 1, (0, 0, 0, 0, 0)), (.bipush 8, 2, (0, 0, 0, 8, 0))]
theorem o_SE_init_18 : jokL "ChessHouse$Search" lw_tbl jcl jtb 1 true prog_11_method_1_code 18 k_SE_init_18 = true := jok_sub oo_SE_init_0 9 3 rfl rfl
noncomputable def k_SE_init_26 : List jI := [(.putfield 18, 3, (6, 3, 505, 3, 0))]
theorem o_SE_init_26 : jokL "ChessHouse$Search" lw_tbl jcl jtb 1 true prog_11_method_1_code 26 k_SE_init_26 = true := jok_sub oo_SE_init_0 13 1 rfl rfl
theorem d_SE_init_1 : decode prog_11_method_1_code 1 = .ok (.invokespecial 1, 3) := by decide +kernel
theorem d_SE_init_8 : decode prog_11_method_1_code 8 = .ok (.newarray .int, 2) := by decide +kernel
theorem d_SE_init_16 : decode prog_11_method_1_code 16 = .ok (.newarray .int, 2) := by decide +kernel
theorem d_SE_init_24 : decode prog_11_method_1_code 24 = .ok (.newarray .long, 2) := by decide +kernel
theorem d_SE_init_29 : decode prog_11_method_1_code 29 = .ok (.return_, 1) := by decide +kernel
noncomputable def y_PR_init : jY := (⟨"ChessHouse$Problems", "<init>", "()V"⟩, prog_10_method_1_code, 1, none)
theorem m_PR_init : jmth lw_tbl y_PR_init 0 := ⟨jTA_in (wi := 529) (jtF_ok rfl) rfl, jTA_in (wi := 309) (jtF_ok rfl) rfl, by decide, by decide, by decide +kernel⟩
theorem i_PR_init : Jvm.Cond.instanceMethod y_PR_init.1 ∈ jTA lw_tbl := jTA_in (wi := 528) (jtF_ok rfl) rfl
noncomputable def kk_PR_init_0 : List jI := [(.aload_n 0, 1, (0, 0, 0, 0, 0)), (.invokespecial 1, 3, (0, 0, 0, 0, 0)), (.aload_n 0, 1, (0, 0, 0, 0, 0)), (.iconst 4, 1, (0, 0, 0, 4, 0)), (.newarray .int, 2, (0, 0, 0, 0, 0)), (.putfield 7, 3, (7, 4, 539, 3, 0)), (.aload_n 0, 1, (0, 0, 0, 0, 0)), (.iconst 4, 1, (0, 0, 0, 4, 0)), (.newarray .long, 2, (0, 0, 0, 0, 0)), (.putfield 13, 3, (7, 5, 541, 3, 0)), (.aload_n 0, 1, (0, 0, 0, 0, 0)), (.sipush 13824, 3, (0, 0, 0, 13824, 0)), (.newarray .int, 2, (0, 0, 0, 0, 0)), (.putfield 19, 3, (7, 6, 543, 3, 0)), (.return_, 1, (0, 0, 0, 0, 0))]
theorem oo_PR_init_0 : jokL "ChessHouse$Problems" lw_tbl jcl jtb 1 true prog_10_method_1_code 0 kk_PR_init_0 = true := by decide +kernel
noncomputable def k_PR_init_0 : List jI := [(.aload_n 0, 1, (0, 0, 0, 0, 0))]
theorem o_PR_init_0 : jokL "ChessHouse$Problems" lw_tbl jcl jtb 1 true prog_10_method_1_code 0 k_PR_init_0 = true := jok_sub oo_PR_init_0 0 1 rfl rfl
noncomputable def k_PR_init_4 : List jI := [(.aload_n 0, 1, (0, 0, 0, 0, 0)), (.iconst 4, 1, (0, 0, 0, 4, 0))]
theorem o_PR_init_4 : jokL "ChessHouse$Problems" lw_tbl jcl jtb 1 true prog_10_method_1_code 4 k_PR_init_4 = true := jok_sub oo_PR_init_0 2 2 rfl rfl
noncomputable def k_PR_init_8 : List jI := [(.putfield 7, 3, (7, 4, 539, 3, 0)), (.aload_n 0, 1, (0, 0, 0, 0, 0)), (.iconst 4, 1, (0, 0, 0, 4, 0))]
theorem o_PR_init_8 : jokL "ChessHouse$Problems" lw_tbl jcl jtb 1 true prog_10_method_1_code 8 k_PR_init_8 = true := jok_sub oo_PR_init_0 5 3 rfl rfl
noncomputable def k_PR_init_15 : List jI := [(.putfield 13, 3, (7, 5, 541, 3, 0)), (.aload_n 0, 1, (0, 0, 0, 0, 0)), (.sipush 13824, 3, (0, 0, 0, 13824, 0))]
theorem o_PR_init_15 : jokL "ChessHouse$Problems" lw_tbl jcl jtb 1 true prog_10_method_1_code 15 k_PR_init_15 = true := jok_sub oo_PR_init_0 9 3 rfl rfl
noncomputable def k_PR_init_24 : List jI := [(.putfield 19, 3, (7, 6, 543, 3, 0))]
theorem o_PR_init_24 : jokL "ChessHouse$Problems" lw_tbl jcl jtb 1 true prog_10_method_1_code 24 k_PR_init_24 = true := jok_sub oo_PR_init_0 13 1 rfl rfl
theorem d_PR_init_1 : decode prog_10_method_1_code 1 = .ok (.invokespecial 1, 3) := by decide +kernel
theorem d_PR_init_6 : decode prog_10_method_1_code 6 = .ok (.newarray .int, 2) := by decide +kernel
theorem d_PR_init_13 : decode prog_10_method_1_code 13 = .ok (.newarray .long, 2) := by decide +kernel
theorem d_PR_init_22 : decode prog_10_method_1_code 22 = .ok (.newarray .int, 2) := by decide +kernel
theorem d_PR_init_27 : decode prog_10_method_1_code 27 = .ok (.return_, 1) := by decide +kernel
noncomputable def y_EN_init : jY := (⟨"ChessHouse$Endings", "<init>", "()V"⟩, prog_6_method_1_code, 1, none)
theorem m_EN_init : jmth lw_tbl y_EN_init 0 := ⟨jTA_in (wi := 572) (jtF_ok rfl) rfl, jTA_in (wi := 310) (jtF_ok rfl) rfl, by decide, by decide, by decide +kernel⟩
theorem i_EN_init : Jvm.Cond.instanceMethod y_EN_init.1 ∈ jTA lw_tbl := jTA_in (wi := 571) (jtF_ok rfl) rfl
noncomputable def kk_EN_init_0 : List jI := [(.aload_n 0, 1, (0, 0, 0, 0, 0)), (.invokespecial 1, 3, (0, 0, 0, 0, 0)), (.aload_n 0, 1, (0, 0, 0, 0, 0)), (.sipush 1728, 3, (0, 0, 0, 1728, 0)), (.newarray .int, 2, (0, 0, 0, 0, 0)), (.putfield 9, 3, (8, 2, 578, 3, 0)), (.aload_n 0, 1, (0, 0, 0, 0, 0)), (.iconst 0, 1, (0, 0, 0, 0, 0)), (.newarray .int, 2, (0, 0, 0, 0, 0)), (.putfield 15, 3, (8, 7, 583, 3, 0)), (.return_, 1, (0, 0, 0, 0, 0))]
theorem oo_EN_init_0 : jokL "ChessHouse$Endings" lw_tbl jcl jtb 1 true prog_6_method_1_code 0 kk_EN_init_0 = true := by decide +kernel
noncomputable def k_EN_init_0 : List jI := [(.aload_n 0, 1, (0, 0, 0, 0, 0))]
theorem o_EN_init_0 : jokL "ChessHouse$Endings" lw_tbl jcl jtb 1 true prog_6_method_1_code 0 k_EN_init_0 = true := jok_sub oo_EN_init_0 0 1 rfl rfl
noncomputable def k_EN_init_4 : List jI := [(.aload_n 0, 1, (0, 0, 0, 0, 0)), (.sipush 1728, 3, (0, 0, 0, 1728, 0))]
theorem o_EN_init_4 : jokL "ChessHouse$Endings" lw_tbl jcl jtb 1 true prog_6_method_1_code 4 k_EN_init_4 = true := jok_sub oo_EN_init_0 2 2 rfl rfl
noncomputable def k_EN_init_10 : List jI := [(.putfield 9, 3, (8, 2, 578, 3, 0)), (.aload_n 0, 1, (0, 0, 0, 0, 0)), (.iconst 0, 1, (0, 0, 0, 0, 0))]
theorem o_EN_init_10 : jokL "ChessHouse$Endings" lw_tbl jcl jtb 1 true prog_6_method_1_code 10 k_EN_init_10 = true := jok_sub oo_EN_init_0 5 3 rfl rfl
noncomputable def k_EN_init_17 : List jI := [(.putfield 15, 3, (8, 7, 583, 3, 0))]
theorem o_EN_init_17 : jokL "ChessHouse$Endings" lw_tbl jcl jtb 1 true prog_6_method_1_code 17 k_EN_init_17 = true := jok_sub oo_EN_init_0 9 1 rfl rfl
theorem d_EN_init_1 : decode prog_6_method_1_code 1 = .ok (.invokespecial 1, 3) := by decide +kernel
theorem d_EN_init_8 : decode prog_6_method_1_code 8 = .ok (.newarray .int, 2) := by decide +kernel
theorem d_EN_init_15 : decode prog_6_method_1_code 15 = .ok (.newarray .int, 2) := by decide +kernel
theorem d_EN_init_20 : decode prog_6_method_1_code 20 = .ok (.return_, 1) := by decide +kernel
noncomputable def y_BO_stepsToEdge : jY := (⟨"ChessHouse$Board", "stepsToEdge", "(II)I"⟩, prog_3_method_2_code, 7, (some .int))
theorem m_BO_stepsToEdge : jmth lw_tbl y_BO_stepsToEdge 2 := ⟨jTA_in (wi := 623) (jtF_ok rfl) rfl, jTA_in (wi := 312) (jtF_ok rfl) rfl, by decide, by decide, by decide +kernel⟩
theorem s_BO_stepsToEdge : Jvm.Cond.static y_BO_stepsToEdge.1 ∈ jTA lw_tbl := jTA_in (wi := 622) (jtF_ok rfl) rfl
noncomputable def kk_BO_stepsToEdge_0 : List jI := [(.iconst 0, 1, (0, 0, 0, 0, 0)), (.istore_n 2, 1, (2, 0, 0, 0, 0)), (.iload_n 0, 1, (0, 0, 0, 0, 0)), (.istore_n 3, 1, (3, 0, 0, 0, 0)), (.iconst 0, 1, (0, 0, 0, 0, 0)), (.istore 4, 2, (4, 0, 0, 0, 0)), (.iload 4, 2, (4, 0, 0, 0, 0)), (.bipush 7, 2, (0, 0, 0, 7, 0)), (.if_icmp .ge 59, 3, (70, 0, 0, 0, 0)), (.iload_n 3, 1, (3, 0, 0, 0, 0)), (.iload_n 1, 1, (1, 0, 0, 0, 0)), (.iadd, 1, (0, 0, 0, 0, 0)), (.istore 5, 2, (5, 0, 0, 0, 0)), (.iload 5, 2, (5, 0, 0, 0, 0)), (.bipush 7, 2, (0, 0, 0, 7, 0)), (.iand, 1, (0, 0, 0, 0, 0)), (.iload_n 3, 1, (3, 0, 0, 0, 0)), (.bipush 7, 2, (0, 0, 0, 7, 0)), (.iand, 1, (0, 0, 0, 0, 0)), (.isub, 1, (0, 0, 0, 0, 0)), (.istore 6, 2, (6, 0, 0, 0, 0)), (.iload 5, 2, (5, 0, 0, 0, 0)), (.ifCond .lt 37, 3, (70, 0, 0, 0, 0)), (.iload 5, 2, (5, 0, 0, 0, 0)), (.bipush 63, 2, (0, 0, 0, 63, 0)), (.if_icmp .gt 30, 3, (70, 0, 0, 0, 0)), (.iload 6, 2, (6, 0, 0, 0, 0)), (.iconst 1, 1, (0, 0, 0, 1, 0)), (.if_icmp .gt 24, 3, (70, 0, 0, 0, 0)), (.iload 6, 2, (6, 0, 0, 0, 0)), (.iconst (-1), 1, (0, 0, 0, (-1), 0)), (.if_icmp .ge 6, 3, (58, 0, 0, 0, 0)), (.goto 15, 3, (70, 0, 0, 0, 0)), (.iload 5, 2, (5, 0, 0, 0, 0)), (.istore_n 3, 1, (3, 0, 0, 0, 0)), (.iinc 2 1, 3, (0, 0, 0, 1, 0)), (.iinc 4 1, 3, (0, 0, 0, 1, 0)), (.goto (-60), 3, (7, 0, 0, 0, 0)), (.iload_n 2, 1, (2, 0, 0, 0, 0)), (.ireturn, 1, (0, 0, 0, 0, 0))]
theorem oo_BO_stepsToEdge_0 : jokL "ChessHouse$Board" lw_tbl jcl jtb 7 false prog_3_method_2_code 0 kk_BO_stepsToEdge_0 = true := jokLF_ok (fun _ _ => jtF_ok) lo_BO (by decide +kernel)
noncomputable def k_BO_stepsToEdge_0 : List jI := [(.iconst 0, 1, (0, 0, 0, 0, 0)), (.istore_n 2, 1, (2, 0, 0, 0, 0)), (.iload_n 0, 1, (0, 0, 0, 0, 0)), (.istore_n 3, 1, (3, 0, 0, 0, 0)), (.iconst 0, 1, (0, 0, 0, 0, 0)), (.istore 4, 2, (4, 0, 0, 0, 0))]
theorem o_BO_stepsToEdge_0 : jokL "ChessHouse$Board" lw_tbl jcl jtb 7 false prog_3_method_2_code 0 k_BO_stepsToEdge_0 = true := jok_sub oo_BO_stepsToEdge_0 0 6 rfl rfl
noncomputable def k_BO_stepsToEdge_7 : List jI := [(.iload 4, 2, (4, 0, 0, 0, 0)), (.bipush 7, 2, (0, 0, 0, 7, 0)), (.if_icmp .ge 59, 3, (70, 0, 0, 0, 0)), (.iload_n 3, 1, (3, 0, 0, 0, 0)), (.iload_n 1, 1, (1, 0, 0, 0, 0)), (.iadd, 1, (0, 0, 0, 0, 0)), (.istore 5, 2, (5, 0, 0, 0, 0)), (.iload 5, 2, (5, 0, 0, 0, 0)), (.bipush 7, 2, (0, 0, 0, 7, 0)), (.iand, 1, (0, 0, 0, 0, 0)), (.iload_n 3, 1, (3, 0, 0, 0, 0)), (.bipush 7, 2, (0, 0, 0, 7, 0)), (.iand, 1, (0, 0, 0, 0, 0)), (.isub, 1, (0, 0, 0, 0, 0)), (.istore 6, 2, (6, 0, 0, 0, 0)), (.iload 5, 2, (5, 0, 0, 0, 0)), (.ifCond .lt 37, 3, (70, 0, 0, 0, 0)), (.iload 5, 2, (5, 0, 0, 0, 0)), (.bipush 63, 2, (0, 0, 0, 63, 0)), (.if_icmp .gt 30, 3, (70, 0, 0, 0, 0)), (.iload 6, 2, (6, 0, 0, 0, 0)), (.iconst 1, 1, (0, 0, 0, 1, 0)), (.if_icmp .gt 24, 3, (70, 0, 0, 0, 0)), (.iload 6, 2, (6, 0, 0, 0, 0)), (.iconst (-1), 1, (0, 0, 0, (-1), 0)), (.if_icmp .ge 6, 3, (58, 0, 0, 0, 0)), (.goto 15, 3, (70, 0, 0, 0, 0))]
theorem o_BO_stepsToEdge_7 : jokL "ChessHouse$Board" lw_tbl jcl jtb 7 false prog_3_method_2_code 7 k_BO_stepsToEdge_7 = true := jok_sub oo_BO_stepsToEdge_0 6 27 rfl rfl
noncomputable def k_BO_stepsToEdge_58 : List jI := [(.iload 5, 2, (5, 0, 0, 0, 0)), (.istore_n 3, 1, (3, 0, 0, 0, 0)), (.iinc 2 1, 3, (0, 0, 0, 1, 0)), (.iinc 4 1, 3, (0, 0, 0, 1, 0)), (.goto (-60), 3, (7, 0, 0, 0, 0))]
theorem o_BO_stepsToEdge_58 : jokL "ChessHouse$Board" lw_tbl jcl jtb 7 false prog_3_method_2_code 58 k_BO_stepsToEdge_58 = true := jok_sub oo_BO_stepsToEdge_0 33 5 rfl rfl
noncomputable def k_BO_stepsToEdge_70 : List jI := [(.iload_n 2, 1, (2, 0, 0, 0, 0))]
theorem o_BO_stepsToEdge_70 : jokL "ChessHouse$Board" lw_tbl jcl jtb 7 false prog_3_method_2_code 70 k_BO_stepsToEdge_70 = true := jok_sub oo_BO_stepsToEdge_0 38 1 rfl rfl
theorem d_BO_stepsToEdge_71 : decode prog_3_method_2_code 71 = .ok (.ireturn, 1) := by decide +kernel
end
section
noncomputable def y_BO_fillHops : jY := (⟨"ChessHouse$Board", "fillHops", "(I)V"⟩, prog_3_method_3_code, 6, none)
theorem m_BO_fillHops : jmth lw_tbl y_BO_fillHops 1 := ⟨jTA_in (wi := 627) (jtF_ok rfl) rfl, jTA_in (wi := 312) (jtF_ok rfl) rfl, by decide, by decide, by decide +kernel⟩
theorem i_BO_fillHops : Jvm.Cond.instanceMethod y_BO_fillHops.1 ∈ jTA lw_tbl := jTA_in (wi := 626) (jtF_ok rfl) rfl
theorem e_BO_fillHops : Jvm.Cond.selects y_BO_fillHops.1.cls y_BO_fillHops.1 y_BO_fillHops.1 ∈ jTA lw_tbl := jTA_in (wi := 0) (jtF_ok rfl) rfl
noncomputable def kk_BO_fillHops_0 : List jI := [(.iload_n 1, 1, (1, 0, 0, 0, 0)), (.bipush 8, 2, (0, 0, 0, 8, 0)), (.imul, 1, (0, 0, 0, 0, 0)), (.istore_n 2, 1, (2, 0, 0, 0, 0)), (.aload_n 0, 1, (0, 0, 0, 0, 0)), (.getfield 35, 3, (10, 13, 682, 0, 0)), (.iload_n 2, 1, (2, 0, 0, 0, 0)), (.iload_n 2, 1, (2, 0, 0, 0, 0)), (.bipush 8, 2, (0, 0, 0, 8, 0)), (.iadd, 1, (0, 0, 0, 0, 0)), (.iconst (-1), 1, (0, 0, 0, (-1), 0)), (.invokestatic 61, 3, (0, 0, 0, 0, 0)), (.iconst 0, 1, (0, 0, 0, 0, 0)), (.istore_n 3, 1, (3, 0, 0, 0, 0)), (.iload_n 3, 1, (3, 0, 0, 0, 0)), (.bipush 64, 2, (0, 0, 0, 64, 0)), (.if_icmp .ge 54, 3, (77, 0, 0, 0, 0)), (.iload_n 3, 1, (3, 0, 0, 0, 0)), (.bipush 7, 2, (0, 0, 0, 7, 0)), (.iand, 1, (0, 0, 0, 0, 0)), (.iload_n 1, 1, (1, 0, 0, 0, 0)), (.bipush 7, 2, (0, 0, 0, 7, 0)), (.iand, 1, (0, 0, 0, 0, 0)), (.isub, 1, (0, 0, 0, 0, 0)), (.istore 4, 2, (4, 0, 0, 0, 0)), (.iload_n 3, 1, (3, 0, 0, 0, 0)), (.iconst 3, 1, (0, 0, 0, 3, 0)), (.ishr, 1, (0, 0, 0, 0, 0)), (.iload_n 1, 1, (1, 0, 0, 0, 0)), (.iconst 3, 1, (0, 0, 0, 3, 0)), (.ishr, 1, (0, 0, 0, 0, 0)), (.isub, 1, (0, 0, 0, 0, 0)), (.istore 5, 2, (5, 0, 0, 0, 0)), (.iload 4, 2, (4, 0, 0, 0, 0)), (.iload 4, 2, (4, 0, 0, 0, 0)), (.imul, 1, (0, 0, 0, 0, 0)), (.iload 5, 2, (5, 0, 0, 0, 0)), (.iload 5, 2, (5, 0, 0, 0, 0)), (.imul, 1, (0, 0, 0, 0, 0)), (.iadd, 1, (0, 0, 0, 0, 0)), (.iconst 5, 1, (0, 0, 0, 5, 0)), (.if_icmp .ne 13, 3, (71, 0, 0, 0, 0)), (.aload_n 0, 1, (0, 0, 0, 0, 0)), (.getfield 35, 3, (10, 13, 682, 0, 0)), (.iload_n 2, 1, (2, 0, 0, 0, 0)), (.iload_n 3, 1, (3, 0, 0, 0, 0)), (.iastore, 1, (0, 0, 0, 0, 0)), (.iinc 2 1, 3, (0, 0, 0, 1, 0)), (.iinc 3 1, 3, (0, 0, 0, 1, 0)), (.goto (-54), 3, (20, 0, 0, 0, 0)), (.return_, 1, (0, 0, 0, 0, 0))]
theorem oo_BO_fillHops_0 : jokL "ChessHouse$Board" lw_tbl jcl jtb 6 false prog_3_method_3_code 0 kk_BO_fillHops_0 = true := jokLF_ok (fun _ _ => jtF_ok) lo_BO (by decide +kernel)
noncomputable def k_BO_fillHops_0 : List jI := [(.iload_n 1, 1, (1, 0, 0, 0, 0)), (.bipush 8, 2, (0, 0, 0, 8, 0)), (.imul, 1, (0, 0, 0, 0, 0)), (.istore_n 2, 1, (2, 0, 0, 0, 0)), (.aload_n 0, 1, (0, 0, 0, 0, 0)), (.getfield 35, 3, (10, 13, 682, 0, 0)), (.iload_n 2, 1, (2, 0, 0, 0, 0)), (.iload_n 2, 1, (2, 0, 0, 0, 0)), (.bipush 8, 2, (0, 0, 0, 8, 0)), (.iadd, 1, (0, 0, 0, 0, 0)), (.iconst (-1), 1, (0, 0, 0, (-1), 0))]
theorem o_BO_fillHops_0 : jokL "ChessHouse$Board" lw_tbl jcl jtb 6 false prog_3_method_3_code 0 k_BO_fillHops_0 = true := jok_sub oo_BO_fillHops_0 0 11 rfl rfl
noncomputable def k_BO_fillHops_18 : List jI := [(.iconst 0, 1, (0, 0, 0, 0, 0)), (.istore_n 3, 1, (3, 0, 0, 0, 0))]
theorem o_BO_fillHops_18 : jokL "ChessHouse$Board" lw_tbl jcl jtb 6 false prog_3_method_3_code 18 k_BO_fillHops_18 = true := jok_sub oo_BO_fillHops_0 12 2 rfl rfl
noncomputable def k_BO_fillHops_20 : List jI := [(.iload_n 3, 1, (3, 0, 0, 0, 0)), (.bipush 64, 2, (0, 0, 0, 64, 0)), (.if_icmp .ge 54, 3, (77, 0, 0, 0, 0)), (.iload_n 3, 1, (3, 0, 0, 0, 0)), (.bipush 7, 2, (0, 0, 0, 7, 0)), (.iand, 1, (0, 0, 0, 0, 0)), (.iload_n 1, 1, (1, 0, 0, 0, 0)), (.bipush 7, 2, (0, 0, 0, 7, 0)), (.iand, 1, (0, 0, 0, 0, 0)), (.isub, 1, (0, 0, 0, 0, 0)), (.istore 4, 2, (4, 0, 0, 0, 0)), (.iload_n 3, 1, (3, 0, 0, 0, 0)), (.iconst 3, 1, (0, 0, 0, 3, 0)), (.ishr, 1, (0, 0, 0, 0, 0)), (.iload_n 1, 1, (1, 0, 0, 0, 0)), (.iconst 3, 1, (0, 0, 0, 3, 0)), (.ishr, 1, (0, 0, 0, 0, 0)), (.isub, 1, (0, 0, 0, 0, 0)), (.istore 5, 2, (5, 0, 0, 0, 0)), (.iload 4, 2, (4, 0, 0, 0, 0)), (.iload 4, 2, (4, 0, 0, 0, 0)), (.imul, 1, (0, 0, 0, 0, 0)), (.iload 5, 2, (5, 0, 0, 0, 0)), (.iload 5, 2, (5, 0, 0, 0, 0)), (.imul, 1, (0, 0, 0, 0, 0)), (.iadd, 1, (0, 0, 0, 0, 0)), (.iconst 5, 1, (0, 0, 0, 5, 0)), (.if_icmp .ne 13, 3, (71, 0, 0, 0, 0)), (.aload_n 0, 1, (0, 0, 0, 0, 0)), (.getfield 35, 3, (10, 13, 682, 0, 0)), (.iload_n 2, 1, (2, 0, 0, 0, 0)), (.iload_n 3, 1, (3, 0, 0, 0, 0)), (.iastore, 1, (0, 0, 0, 0, 0)), (.iinc 2 1, 3, (0, 0, 0, 1, 0))]
theorem o_BO_fillHops_20 : jokL "ChessHouse$Board" lw_tbl jcl jtb 6 false prog_3_method_3_code 20 k_BO_fillHops_20 = true := jok_sub oo_BO_fillHops_0 14 34 rfl rfl
noncomputable def k_BO_fillHops_71 : List jI := [(.iinc 3 1, 3, (0, 0, 0, 1, 0)), (.goto (-54), 3, (20, 0, 0, 0, 0))]
theorem o_BO_fillHops_71 : jokL "ChessHouse$Board" lw_tbl jcl jtb 6 false prog_3_method_3_code 71 k_BO_fillHops_71 = true := jok_sub oo_BO_fillHops_0 48 2 rfl rfl
theorem d_BO_fillHops_15 : decode prog_3_method_3_code 15 = .ok (.invokestatic 61, 3) := by decide +kernel
theorem q_BO_fillHops_15 : jlm lw_tbl 628 "ChessHouse$Board" 61 ⟨"java/util/Arrays", "fill", "([IIII)V"⟩ = true := jlm_of (Or.inl (jtF_ok rfl))
theorem d_BO_fillHops_77 : decode prog_3_method_3_code 77 = .ok (.return_, 1) := by decide +kernel
noncomputable def y_BO_middle : jY := (⟨"ChessHouse$Board", "middle", "(I)I"⟩, prog_3_method_4_code, 3, (some .int))
theorem m_BO_middle : jmth lw_tbl y_BO_middle 1 := ⟨jTA_in (wi := 639) (jtF_ok rfl) rfl, jTA_in (wi := 312) (jtF_ok rfl) rfl, by decide, by decide, by decide +kernel⟩
theorem s_BO_middle : Jvm.Cond.static y_BO_middle.1 ∈ jTA lw_tbl := jTA_in (wi := 638) (jtF_ok rfl) rfl
noncomputable def kk_BO_middle_0 : List jI := [(.iload_n 0, 1, (0, 0, 0, 0, 0)), (.bipush 7, 2, (0, 0, 0, 7, 0)), (.iand, 1, (0, 0, 0, 0, 0)), (.istore_n 1, 1, (1, 0, 0, 0, 0)), (.iload_n 0, 1, (0, 0, 0, 0, 0)), (.iconst 3, 1, (0, 0, 0, 3, 0)), (.ishr, 1, (0, 0, 0, 0, 0)), (.istore_n 2, 1, (2, 0, 0, 0, 0)), (.iload_n 1, 1, (1, 0, 0, 0, 0)), (.iconst 4, 1, (0, 0, 0, 4, 0)), (.if_icmp .ge 7, 3, (18, 0, 0, 0, 0)), (.iload_n 1, 1, (1, 0, 0, 0, 0)), (.goto 7, 3, (22, 0, 0, 0, 0)), (.bipush 7, 2, (0, 0, 0, 7, 0)), (.iload_n 1, 1, (1, 0, 0, 0, 0)), (.isub, 1, (0, 0, 0, 0, 0)), (.iload_n 2, 1, (2, 0, 0, 0, 0)), (.iconst 4, 1, (0, 0, 0, 4, 0)), (.if_icmp .ge 7, 3, (31, 0, 0, 0, 0)), (.iload_n 2, 1, (2, 0, 0, 0, 0)), (.goto 7, 3, (35, 0, 0, 0, 0)), (.bipush 7, 2, (0, 0, 0, 7, 0)), (.iload_n 2, 1, (2, 0, 0, 0, 0)), (.isub, 1, (0, 0, 0, 0, 0)), (.iadd, 1, (0, 0, 0, 0, 0)), (.ireturn, 1, (0, 0, 0, 0, 0))]
theorem oo_BO_middle_0 : jokL "ChessHouse$Board" lw_tbl jcl jtb 3 false prog_3_method_4_code 0 kk_BO_middle_0 = true := jokLF_ok (fun _ _ => jtF_ok) lo_BO (by decide +kernel)
noncomputable def k_BO_middle_0 : List jI := [(.iload_n 0, 1, (0, 0, 0, 0, 0)), (.bipush 7, 2, (0, 0, 0, 7, 0)), (.iand, 1, (0, 0, 0, 0, 0)), (.istore_n 1, 1, (1, 0, 0, 0, 0)), (.iload_n 0, 1, (0, 0, 0, 0, 0)), (.iconst 3, 1, (0, 0, 0, 3, 0)), (.ishr, 1, (0, 0, 0, 0, 0)), (.istore_n 2, 1, (2, 0, 0, 0, 0)), (.iload_n 1, 1, (1, 0, 0, 0, 0)), (.iconst 4, 1, (0, 0, 0, 4, 0)), (.if_icmp .ge 7, 3, (18, 0, 0, 0, 0)), (.iload_n 1, 1, (1, 0, 0, 0, 0)), (.goto 7, 3, (22, 0, 0, 0, 0))]
theorem o_BO_middle_0 : jokL "ChessHouse$Board" lw_tbl jcl jtb 3 false prog_3_method_4_code 0 k_BO_middle_0 = true := jok_sub oo_BO_middle_0 0 13 rfl rfl
noncomputable def k_BO_middle_18 : List jI := [(.bipush 7, 2, (0, 0, 0, 7, 0)), (.iload_n 1, 1, (1, 0, 0, 0, 0)), (.isub, 1, (0, 0, 0, 0, 0))]
theorem o_BO_middle_18 : jokL "ChessHouse$Board" lw_tbl jcl jtb 3 false prog_3_method_4_code 18 k_BO_middle_18 = true := jok_sub oo_BO_middle_0 13 3 rfl rfl
noncomputable def k_BO_middle_22 : List jI := [(.iload_n 2, 1, (2, 0, 0, 0, 0)), (.iconst 4, 1, (0, 0, 0, 4, 0)), (.if_icmp .ge 7, 3, (31, 0, 0, 0, 0)), (.iload_n 2, 1, (2, 0, 0, 0, 0)), (.goto 7, 3, (35, 0, 0, 0, 0))]
theorem o_BO_middle_22 : jokL "ChessHouse$Board" lw_tbl jcl jtb 3 false prog_3_method_4_code 22 k_BO_middle_22 = true := jok_sub oo_BO_middle_0 16 5 rfl rfl
noncomputable def k_BO_middle_31 : List jI := [(.bipush 7, 2, (0, 0, 0, 7, 0)), (.iload_n 2, 1, (2, 0, 0, 0, 0)), (.isub, 1, (0, 0, 0, 0, 0))]
theorem o_BO_middle_31 : jokL "ChessHouse$Board" lw_tbl jcl jtb 3 false prog_3_method_4_code 31 k_BO_middle_31 = true := jok_sub oo_BO_middle_0 21 3 rfl rfl
noncomputable def k_BO_middle_35 : List jI := [(.iadd, 1, (0, 0, 0, 0, 0))]
theorem o_BO_middle_35 : jokL "ChessHouse$Board" lw_tbl jcl jtb 3 false prog_3_method_4_code 35 k_BO_middle_35 = true := jok_sub oo_BO_middle_0 24 1 rfl rfl
theorem d_BO_middle_36 : decode prog_3_method_4_code 36 = .ok (.ireturn, 1) := by decide +kernel
noncomputable def y_BO_worthOf : jY := (⟨"ChessHouse$Board", "worthOf", "(II)I"⟩, prog_3_method_5_code, 2, (some .int))
theorem m_BO_worthOf : jmth lw_tbl y_BO_worthOf 2 := ⟨jTA_in (wi := 636) (jtF_ok rfl) rfl, jTA_in (wi := 312) (jtF_ok rfl) rfl, by decide, by decide, by decide +kernel⟩
theorem s_BO_worthOf : Jvm.Cond.static y_BO_worthOf.1 ∈ jTA lw_tbl := jTA_in (wi := 635) (jtF_ok rfl) rfl
noncomputable def kk_BO_worthOf_0 : List jI := [(.iload_n 0, 1, (0, 0, 0, 0, 0)), (.bipush 7, 2, (0, 0, 0, 7, 0)), (.iand, 1, (0, 0, 0, 0, 0)), (.tableswitch 98 1 5 #[36, 63, 74, 85, 89], 36, (0, 0, 0, 0, 0)), (.bipush 100, 2, (0, 0, 0, 100, 0)), (.bipush 6, 2, (0, 0, 0, 6, 0)), (.iload_n 0, 1, (0, 0, 0, 0, 0)), (.bipush 8, 2, (0, 0, 0, 8, 0)), (.if_icmp .ge 11, 3, (58, 0, 0, 0, 0)), (.iload_n 1, 1, (1, 0, 0, 0, 0)), (.iconst 3, 1, (0, 0, 0, 3, 0)), (.ishr, 1, (0, 0, 0, 0, 0)), (.iconst 1, 1, (0, 0, 0, 1, 0)), (.isub, 1, (0, 0, 0, 0, 0)), (.goto 9, 3, (64, 0, 0, 0, 0)), (.bipush 6, 2, (0, 0, 0, 6, 0)), (.iload_n 1, 1, (1, 0, 0, 0, 0)), (.iconst 3, 1, (0, 0, 0, 3, 0)), (.ishr, 1, (0, 0, 0, 0, 0)), (.isub, 1, (0, 0, 0, 0, 0)), (.imul, 1, (0, 0, 0, 0, 0)), (.iadd, 1, (0, 0, 0, 0, 0)), (.ireturn, 1, (0, 0, 0, 0, 0)), (.sipush 320, 3, (0, 0, 0, 320, 0)), (.iconst 4, 1, (0, 0, 0, 4, 0)), (.iload_n 1, 1, (1, 0, 0, 0, 0)), (.invokestatic 67, 3, (0, 0, 0, 0, 0)), (.imul, 1, (0, 0, 0, 0, 0)), (.iadd, 1, (0, 0, 0, 0, 0)), (.ireturn, 1, (0, 0, 0, 0, 0)), (.sipush 330, 3, (0, 0, 0, 330, 0)), (.iconst 3, 1, (0, 0, 0, 3, 0)), (.iload_n 1, 1, (1, 0, 0, 0, 0)), (.invokestatic 67, 3, (0, 0, 0, 0, 0)), (.imul, 1, (0, 0, 0, 0, 0)), (.iadd, 1, (0, 0, 0, 0, 0)), (.ireturn, 1, (0, 0, 0, 0, 0)), (.sipush 500, 3, (0, 0, 0, 500, 0)), (.ireturn, 1, (0, 0, 0, 0, 0)), (.sipush 900, 3, (0, 0, 0, 900, 0)), (.iload_n 1, 1, (1, 0, 0, 0, 0)), (.invokestatic 67, 3, (0, 0, 0, 0, 0)), (.iadd, 1, (0, 0, 0, 0, 0)), (.ireturn, 1, (0, 0, 0, 0, 0)), (.iconst 0, 1, (0, 0, 0, 0, 0)), (.ireturn, 1, (0, 0, 0, 0, 0))]
theorem oo_BO_worthOf_0 : jokL "ChessHouse$Board" lw_tbl jcl jtb 2 false prog_3_method_5_code 0 kk_BO_worthOf_0 = true := jokLF_ok (fun _ _ => jtF_ok) lo_BO (by decide +kernel)
noncomputable def k_BO_worthOf_0 : List jI := [(.iload_n 0, 1, (0, 0, 0, 0, 0)), (.bipush 7, 2, (0, 0, 0, 7, 0)), (.iand, 1, (0, 0, 0, 0, 0))]
theorem o_BO_worthOf_0 : jokL "ChessHouse$Board" lw_tbl jcl jtb 2 false prog_3_method_5_code 0 k_BO_worthOf_0 = true := jok_sub oo_BO_worthOf_0 0 3 rfl rfl
noncomputable def k_BO_worthOf_40 : List jI := [(.bipush 100, 2, (0, 0, 0, 100, 0)), (.bipush 6, 2, (0, 0, 0, 6, 0)), (.iload_n 0, 1, (0, 0, 0, 0, 0)), (.bipush 8, 2, (0, 0, 0, 8, 0)), (.if_icmp .ge 11, 3, (58, 0, 0, 0, 0)), (.iload_n 1, 1, (1, 0, 0, 0, 0)), (.iconst 3, 1, (0, 0, 0, 3, 0)), (.ishr, 1, (0, 0, 0, 0, 0)), (.iconst 1, 1, (0, 0, 0, 1, 0)), (.isub, 1, (0, 0, 0, 0, 0)), (.goto 9, 3, (64, 0, 0, 0, 0))]
theorem o_BO_worthOf_40 : jokL "ChessHouse$Board" lw_tbl jcl jtb 2 false prog_3_method_5_code 40 k_BO_worthOf_40 = true := jok_sub oo_BO_worthOf_0 4 11 rfl rfl
noncomputable def k_BO_worthOf_58 : List jI := [(.bipush 6, 2, (0, 0, 0, 6, 0)), (.iload_n 1, 1, (1, 0, 0, 0, 0)), (.iconst 3, 1, (0, 0, 0, 3, 0)), (.ishr, 1, (0, 0, 0, 0, 0)), (.isub, 1, (0, 0, 0, 0, 0))]
theorem o_BO_worthOf_58 : jokL "ChessHouse$Board" lw_tbl jcl jtb 2 false prog_3_method_5_code 58 k_BO_worthOf_58 = true := jok_sub oo_BO_worthOf_0 15 5 rfl rfl
noncomputable def k_BO_worthOf_64 : List jI := [(.imul, 1, (0, 0, 0, 0, 0)), (.iadd, 1, (0, 0, 0, 0, 0))]
theorem o_BO_worthOf_64 : jokL "ChessHouse$Board" lw_tbl jcl jtb 2 false prog_3_method_5_code 64 k_BO_worthOf_64 = true := jok_sub oo_BO_worthOf_0 20 2 rfl rfl
noncomputable def k_BO_worthOf_67 : List jI := [(.sipush 320, 3, (0, 0, 0, 320, 0)), (.iconst 4, 1, (0, 0, 0, 4, 0)), (.iload_n 1, 1, (1, 0, 0, 0, 0))]
theorem o_BO_worthOf_67 : jokL "ChessHouse$Board" lw_tbl jcl jtb 2 false prog_3_method_5_code 67 k_BO_worthOf_67 = true := jok_sub oo_BO_worthOf_0 23 3 rfl rfl
noncomputable def k_BO_worthOf_75 : List jI := [(.imul, 1, (0, 0, 0, 0, 0)), (.iadd, 1, (0, 0, 0, 0, 0))]
theorem o_BO_worthOf_75 : jokL "ChessHouse$Board" lw_tbl jcl jtb 2 false prog_3_method_5_code 75 k_BO_worthOf_75 = true := jok_sub oo_BO_worthOf_0 27 2 rfl rfl
noncomputable def k_BO_worthOf_78 : List jI := [(.sipush 330, 3, (0, 0, 0, 330, 0)), (.iconst 3, 1, (0, 0, 0, 3, 0)), (.iload_n 1, 1, (1, 0, 0, 0, 0))]
theorem o_BO_worthOf_78 : jokL "ChessHouse$Board" lw_tbl jcl jtb 2 false prog_3_method_5_code 78 k_BO_worthOf_78 = true := jok_sub oo_BO_worthOf_0 30 3 rfl rfl
noncomputable def k_BO_worthOf_86 : List jI := [(.imul, 1, (0, 0, 0, 0, 0)), (.iadd, 1, (0, 0, 0, 0, 0))]
theorem o_BO_worthOf_86 : jokL "ChessHouse$Board" lw_tbl jcl jtb 2 false prog_3_method_5_code 86 k_BO_worthOf_86 = true := jok_sub oo_BO_worthOf_0 34 2 rfl rfl
noncomputable def k_BO_worthOf_89 : List jI := [(.sipush 500, 3, (0, 0, 0, 500, 0))]
theorem o_BO_worthOf_89 : jokL "ChessHouse$Board" lw_tbl jcl jtb 2 false prog_3_method_5_code 89 k_BO_worthOf_89 = true := jok_sub oo_BO_worthOf_0 37 1 rfl rfl
noncomputable def k_BO_worthOf_93 : List jI := [(.sipush 900, 3, (0, 0, 0, 900, 0)), (.iload_n 1, 1, (1, 0, 0, 0, 0))]
theorem o_BO_worthOf_93 : jokL "ChessHouse$Board" lw_tbl jcl jtb 2 false prog_3_method_5_code 93 k_BO_worthOf_93 = true := jok_sub oo_BO_worthOf_0 39 2 rfl rfl
noncomputable def k_BO_worthOf_100 : List jI := [(.iadd, 1, (0, 0, 0, 0, 0))]
theorem o_BO_worthOf_100 : jokL "ChessHouse$Board" lw_tbl jcl jtb 2 false prog_3_method_5_code 100 k_BO_worthOf_100 = true := jok_sub oo_BO_worthOf_0 42 1 rfl rfl
noncomputable def k_BO_worthOf_102 : List jI := [(.iconst 0, 1, (0, 0, 0, 0, 0))]
theorem o_BO_worthOf_102 : jokL "ChessHouse$Board" lw_tbl jcl jtb 2 false prog_3_method_5_code 102 k_BO_worthOf_102 = true := jok_sub oo_BO_worthOf_0 44 1 rfl rfl
theorem d_BO_worthOf_4 : decode prog_3_method_5_code 4 = .ok (.tableswitch 98 1 5 #[36, 63, 74, 85, 89], 36) := by decide +kernel
theorem d_BO_worthOf_66 : decode prog_3_method_5_code 66 = .ok (.ireturn, 1) := by decide +kernel
theorem d_BO_worthOf_72 : decode prog_3_method_5_code 72 = .ok (.invokestatic 67, 3) := by decide +kernel
theorem q_BO_worthOf_72 : jlm lw_tbl 637 "ChessHouse$Board" 67 ⟨"ChessHouse$Board", "middle", "(I)I"⟩ = true := jlm_of (Or.inl (jtF_ok rfl))
theorem d_BO_worthOf_77 : decode prog_3_method_5_code 77 = .ok (.ireturn, 1) := by decide +kernel
theorem d_BO_worthOf_83 : decode prog_3_method_5_code 83 = .ok (.invokestatic 67, 3) := by decide +kernel
theorem q_BO_worthOf_83 : jlm lw_tbl 637 "ChessHouse$Board" 67 ⟨"ChessHouse$Board", "middle", "(I)I"⟩ = true := jlm_of (Or.inl (jtF_ok rfl))
theorem d_BO_worthOf_88 : decode prog_3_method_5_code 88 = .ok (.ireturn, 1) := by decide +kernel
theorem d_BO_worthOf_92 : decode prog_3_method_5_code 92 = .ok (.ireturn, 1) := by decide +kernel
theorem d_BO_worthOf_97 : decode prog_3_method_5_code 97 = .ok (.invokestatic 67, 3) := by decide +kernel
theorem q_BO_worthOf_97 : jlm lw_tbl 637 "ChessHouse$Board" 67 ⟨"ChessHouse$Board", "middle", "(I)I"⟩ = true := jlm_of (Or.inl (jtF_ok rfl))
theorem d_BO_worthOf_101 : decode prog_3_method_5_code 101 = .ok (.ireturn, 1) := by decide +kernel
theorem d_BO_worthOf_103 : decode prog_3_method_5_code 103 = .ok (.ireturn, 1) := by decide +kernel
noncomputable def y_BO_clear : jY := (⟨"ChessHouse$Board", "clear", "()V"⟩, prog_3_method_6_code, 1, none)
theorem m_BO_clear : jmth lw_tbl y_BO_clear 0 := ⟨jTA_in (wi := 647) (jtF_ok rfl) rfl, jTA_in (wi := 312) (jtF_ok rfl) rfl, by decide, by decide, by decide +kernel⟩
theorem i_BO_clear : Jvm.Cond.instanceMethod y_BO_clear.1 ∈ jTA lw_tbl := jTA_in (wi := 645) (jtF_ok rfl) rfl
theorem e_BO_clear : Jvm.Cond.selects y_BO_clear.1.cls y_BO_clear.1 y_BO_clear.1 ∈ jTA lw_tbl := jTA_in (wi := 646) (jtF_ok rfl) rfl
noncomputable def y_BO_put : jY := (⟨"ChessHouse$Board", "put", "(II)V"⟩, prog_3_method_8_code, 3, none)
theorem m_BO_put : jmth lw_tbl y_BO_put 2 := ⟨jTA_in (wi := 659) (jtF_ok rfl) rfl, jTA_in (wi := 312) (jtF_ok rfl) rfl, by decide, by decide, by decide +kernel⟩
theorem i_BO_put : Jvm.Cond.instanceMethod y_BO_put.1 ∈ jTA lw_tbl := jTA_in (wi := 658) (jtF_ok rfl) rfl
theorem e_BO_put : Jvm.Cond.selects y_BO_put.1.cls y_BO_put.1 y_BO_put.1 ∈ jTA lw_tbl := jTA_in (wi := 1) (jtF_ok rfl) rfl
noncomputable def y_BO_setFirst : jY := (⟨"ChessHouse$Board", "setFirst", "()V"⟩, prog_3_method_7_code, 2, none)
theorem m_BO_setFirst : jmth lw_tbl y_BO_setFirst 0 := ⟨jTA_in (wi := 643) (jtF_ok rfl) rfl, jTA_in (wi := 312) (jtF_ok rfl) rfl, by decide, by decide, by decide +kernel⟩
theorem i_BO_setFirst : Jvm.Cond.instanceMethod y_BO_setFirst.1 ∈ jTA lw_tbl := jTA_in (wi := 641) (jtF_ok rfl) rfl
theorem e_BO_setFirst : Jvm.Cond.selects y_BO_setFirst.1.cls y_BO_setFirst.1 y_BO_setFirst.1 ∈ jTA lw_tbl := jTA_in (wi := 642) (jtF_ok rfl) rfl
noncomputable def y_BO_init : jY := (⟨"ChessHouse$Board", "<init>", "()V"⟩, prog_3_method_1_code, 3, none)
theorem m_BO_init : jmth lw_tbl y_BO_init 0 := ⟨jTA_in (wi := 617) (jtF_ok rfl) rfl, jTA_in (wi := 312) (jtF_ok rfl) rfl, by decide, by decide, by decide +kernel⟩
theorem i_BO_init : Jvm.Cond.instanceMethod y_BO_init.1 ∈ jTA lw_tbl := jTA_in (wi := 616) (jtF_ok rfl) rfl
noncomputable def kk_BO_init_0 : List jI := [(.aload_n 0, 1, (0, 0, 0, 0, 0)), (.invokespecial 1, 3, (0, 0, 0, 0, 0)), (.aload_n 0, 1, (0, 0, 0, 0, 0)), (.bipush 64, 2, (0, 0, 0, 64, 0)), (.newarray .int, 2, (0, 0, 0, 0, 0)), (.putfield 7, 3, (10, 0, 660, 3, 0)), (.aload_n 0, 1, (0, 0, 0, 0, 0)), (.iconst 2, 1, (0, 0, 0, 2, 0)), (.newarray .int, 2, (0, 0, 0, 0, 0)), (.putfield 13, 3, (10, 1, 663, 3, 0)), (.aload_n 0, 1, (0, 0, 0, 0, 0)), (.iconst 4, 1, (0, 0, 0, 4, 0)), (.newarray .long, 2, (0, 0, 0, 0, 0)), (.putfield 16, 3, (10, 7, 676, 3, 0)), (.aload_n 0, 1, (0, 0, 0, 0, 0)), (.iconst 2, 1, (0, 0, 0, 2, 0)), (.newarray .int, 2, (0, 0, 0, 0, 0)), (.putfield 20, 3, (10, 8, 677, 3, 0)), (.aload_n 0, 1, (0, 0, 0, 0, 0)), (.bipush 16, 2, (0, 0, 0, 16, 0)), (.newarray .int, 2, (0, 0, 0, 0, 0)), (.putfield 23, 3, (10, 9, 678, 3, 0)), (.aload_n 0, 1, (0, 0, 0, 0, 0)), (.iconst 2, 1, (0, 0, 0, 2, 0)), (.newarray .int, 2, (0, 0, 0, 0, 0)), (.putfield 26, 3, (10, 10, 679, 3, 0)), (.aload_n 0, 1, (0, 0, 0, 0, 0)), (.sipush 1024, 3, (0, 0, 0, 1024, 0)), (.newarray .int, 2, (0, 0, 0, 0, 0)), (.putfield 29, 3, (10, 11, 680, 3, 0)), (.aload_n 0, 1, (0, 0, 0, 0, 0)), (.sipush 512, 3, (0, 0, 0, 512, 0)), (.newarray .int, 2, (0, 0, 0, 0, 0)), (.putfield 32, 3, (10, 12, 681, 3, 0)), (.aload_n 0, 1, (0, 0, 0, 0, 0)), (.sipush 512, 3, (0, 0, 0, 512, 0)), (.newarray .int, 2, (0, 0, 0, 0, 0)), (.putfield 35, 3, (10, 13, 682, 3, 0)), (.aload_n 0, 1, (0, 0, 0, 0, 0)), (.sipush 1280, 3, (0, 0, 0, 1280, 0)), (.newarray .long, 2, (0, 0, 0, 0, 0)), (.putfield 38, 3, (10, 14, 683, 3, 0)), (.aload_n 0, 1, (0, 0, 0, 0, 0)), (.sipush 320, 3, (0, 0, 0, 320, 0)), (.newarray .int, 2, (0, 0, 0, 0, 0)), (.putfield 41, 3, (10, 15, 684, 3, 0)), (.iconst 0, 1, (0, 0, 0, 0, 0)), (.istore_n 1, 1, (1, 0, 0, 0, 0)), (.iload_n 1, 1, (1, 0, 0, 0, 0)), (.bipush 64, 2, (0, 0, 0, 64, 0)), (.if_icmp .ge 78, 3, (176, 0, 0, 0, 0)), (.iconst 0, 1, (0, 0, 0, 0, 0)), (.istore_n 2, 1, (2, 0, 0, 0, 0)), (.iload_n 2, 1, (2, 0, 0, 0, 0)), (.bipush 8, 2, (0, 0, 0, 8, 0)), (.if_icmp .ge 29, 3, (135, 0, 0, 0, 0)), (.aload_n 0, 1, (0, 0, 0, 0, 0)), (.getfield 32, 3, (10, 12, 681, 0, 0)), (.iload_n 1, 1, (1, 0, 0, 0, 0)), (.bipush 8, 2, (0, 0, 0, 8, 0)), (.imul, 1, (0, 0, 0, 0, 0)), (.iload_n 2, 1, (2, 0, 0, 0, 0)), (.iadd, 1, (0, 0, 0, 0, 0)), (.iload_n 1, 1, (1, 0, 0, 0, 0)), (.getstatic 44, 3, (0, 0, 619, 0, 0)), (.iload_n 2, 1, (2, 0, 0, 0, 0)), (.iaload, 1, (0, 0, 0, 0, 0)), (.invokestatic 47, 3, (0, 0, 0, 0, 0)), (.iastore, 1, (0, 0, 0, 0, 0)), (.iinc 2 1, 3, (0, 0, 0, 1, 0)), (.goto (-29), 3, (103, 0, 0, 0, 0)), (.aload_n 0, 1, (0, 0, 0, 0, 0)), (.iload_n 1, 1, (1, 0, 0, 0, 0)), (.invokevirtual 51, 3, (0, 0, 0, 0, 0)), (.iconst 1, 1, (0, 0, 0, 1, 0)), (.istore_n 2, 1, (2, 0, 0, 0, 0)), (.iload_n 2, 1, (2, 0, 0, 0, 0)), (.bipush 15, 2, (0, 0, 0, 15, 0)), (.if_icmp .ge 25, 3, (170, 0, 0, 0, 0)), (.aload_n 0, 1, (0, 0, 0, 0, 0)), (.getfield 29, 3, (10, 11, 680, 0, 0)), (.iload_n 2, 1, (2, 0, 0, 0, 0)), (.bipush 64, 2, (0, 0, 0, 64, 0)), (.imul, 1, (0, 0, 0, 0, 0)), (.iload_n 1, 1, (1, 0, 0, 0, 0)), (.iadd, 1, (0, 0, 0, 0, 0)), (.iload_n 2, 1, (2, 0, 0, 0, 0)), (.iload_n 1, 1, (1, 0, 0, 0, 0)), (.invokestatic 55, 3, (0, 0, 0, 0, 0)), (.iastore, 1, (0, 0, 0, 0, 0)), (.iinc 2 1, 3, (0, 0, 0, 1, 0)), (.goto (-25), 3, (142, 0, 0, 0, 0)), (.iinc 1 1, 3, (0, 0, 0, 1, 0)), (.goto (-78), 3, (95, 0, 0, 0, 0)), (.aload_n 0, 1, (0, 0, 0, 0, 0)), (.invokevirtual 58, 3, (0, 0, 0, 0, 0)), (.return_, 1, (0, 0, 0, 0, 0))]
theorem oo_BO_init_0 : jokL "ChessHouse$Board" lw_tbl jcl jtb 3 true prog_3_method_1_code 0 kk_BO_init_0 = true := by decide +kernel
noncomputable def k_BO_init_0 : List jI := [(.aload_n 0, 1, (0, 0, 0, 0, 0))]
theorem o_BO_init_0 : jokL "ChessHouse$Board" lw_tbl jcl jtb 3 true prog_3_method_1_code 0 k_BO_init_0 = true := jok_sub oo_BO_init_0 0 1 rfl rfl
noncomputable def k_BO_init_4 : List jI := [(.aload_n 0, 1, (0, 0, 0, 0, 0)), (.bipush 64, 2, (0, 0, 0, 64, 0))]
theorem o_BO_init_4 : jokL "ChessHouse$Board" lw_tbl jcl jtb 3 true prog_3_method_1_code 4 k_BO_init_4 = true := jok_sub oo_BO_init_0 2 2 rfl rfl
noncomputable def k_BO_init_9 : List jI := [(.putfield 7, 3, (10, 0, 660, 3, 0)), (.aload_n 0, 1, (0, 0, 0, 0, 0)), (.iconst 2, 1, (0, 0, 0, 2, 0))]
theorem o_BO_init_9 : jokL "ChessHouse$Board" lw_tbl jcl jtb 3 true prog_3_method_1_code 9 k_BO_init_9 = true := jok_sub oo_BO_init_0 5 3 rfl rfl
noncomputable def k_BO_init_16 : List jI := [(.putfield 13, 3, (10, 1, 663, 3, 0)), (.aload_n 0, 1, (0, 0, 0, 0, 0)), (.iconst 4, 1, (0, 0, 0, 4, 0))]
theorem o_BO_init_16 : jokL "ChessHouse$Board" lw_tbl jcl jtb 3 true prog_3_method_1_code 16 k_BO_init_16 = true := jok_sub oo_BO_init_0 9 3 rfl rfl
noncomputable def k_BO_init_23 : List jI := [(.putfield 16, 3, (10, 7, 676, 3, 0)), (.aload_n 0, 1, (0, 0, 0, 0, 0)), (.iconst 2, 1, (0, 0, 0, 2, 0))]
theorem o_BO_init_23 : jokL "ChessHouse$Board" lw_tbl jcl jtb 3 true prog_3_method_1_code 23 k_BO_init_23 = true := jok_sub oo_BO_init_0 13 3 rfl rfl
noncomputable def k_BO_init_30 : List jI := [(.putfield 20, 3, (10, 8, 677, 3, 0)), (.aload_n 0, 1, (0, 0, 0, 0, 0)), (.bipush 16, 2, (0, 0, 0, 16, 0))]
theorem o_BO_init_30 : jokL "ChessHouse$Board" lw_tbl jcl jtb 3 true prog_3_method_1_code 30 k_BO_init_30 = true := jok_sub oo_BO_init_0 17 3 rfl rfl
noncomputable def k_BO_init_38 : List jI := [(.putfield 23, 3, (10, 9, 678, 3, 0)), (.aload_n 0, 1, (0, 0, 0, 0, 0)), (.iconst 2, 1, (0, 0, 0, 2, 0))]
theorem o_BO_init_38 : jokL "ChessHouse$Board" lw_tbl jcl jtb 3 true prog_3_method_1_code 38 k_BO_init_38 = true := jok_sub oo_BO_init_0 21 3 rfl rfl
noncomputable def k_BO_init_45 : List jI := [(.putfield 26, 3, (10, 10, 679, 3, 0)), (.aload_n 0, 1, (0, 0, 0, 0, 0)), (.sipush 1024, 3, (0, 0, 0, 1024, 0))]
theorem o_BO_init_45 : jokL "ChessHouse$Board" lw_tbl jcl jtb 3 true prog_3_method_1_code 45 k_BO_init_45 = true := jok_sub oo_BO_init_0 25 3 rfl rfl
noncomputable def k_BO_init_54 : List jI := [(.putfield 29, 3, (10, 11, 680, 3, 0)), (.aload_n 0, 1, (0, 0, 0, 0, 0)), (.sipush 512, 3, (0, 0, 0, 512, 0))]
theorem o_BO_init_54 : jokL "ChessHouse$Board" lw_tbl jcl jtb 3 true prog_3_method_1_code 54 k_BO_init_54 = true := jok_sub oo_BO_init_0 29 3 rfl rfl
noncomputable def k_BO_init_63 : List jI := [(.putfield 32, 3, (10, 12, 681, 3, 0)), (.aload_n 0, 1, (0, 0, 0, 0, 0)), (.sipush 512, 3, (0, 0, 0, 512, 0))]
theorem o_BO_init_63 : jokL "ChessHouse$Board" lw_tbl jcl jtb 3 true prog_3_method_1_code 63 k_BO_init_63 = true := jok_sub oo_BO_init_0 33 3 rfl rfl
noncomputable def k_BO_init_72 : List jI := [(.putfield 35, 3, (10, 13, 682, 3, 0)), (.aload_n 0, 1, (0, 0, 0, 0, 0)), (.sipush 1280, 3, (0, 0, 0, 1280, 0))]
theorem o_BO_init_72 : jokL "ChessHouse$Board" lw_tbl jcl jtb 3 true prog_3_method_1_code 72 k_BO_init_72 = true := jok_sub oo_BO_init_0 37 3 rfl rfl
noncomputable def k_BO_init_81 : List jI := [(.putfield 38, 3, (10, 14, 683, 3, 0)), (.aload_n 0, 1, (0, 0, 0, 0, 0)), (.sipush 320, 3, (0, 0, 0, 320, 0))]
theorem o_BO_init_81 : jokL "ChessHouse$Board" lw_tbl jcl jtb 3 true prog_3_method_1_code 81 k_BO_init_81 = true := jok_sub oo_BO_init_0 41 3 rfl rfl
noncomputable def k_BO_init_90 : List jI := [(.putfield 41, 3, (10, 15, 684, 3, 0)), (.iconst 0, 1, (0, 0, 0, 0, 0)), (.istore_n 1, 1, (1, 0, 0, 0, 0))]
theorem o_BO_init_90 : jokL "ChessHouse$Board" lw_tbl jcl jtb 3 true prog_3_method_1_code 90 k_BO_init_90 = true := jok_sub oo_BO_init_0 45 3 rfl rfl
noncomputable def k_BO_init_95 : List jI := [(.iload_n 1, 1, (1, 0, 0, 0, 0)), (.bipush 64, 2, (0, 0, 0, 64, 0)), (.if_icmp .ge 78, 3, (176, 0, 0, 0, 0)), (.iconst 0, 1, (0, 0, 0, 0, 0)), (.istore_n 2, 1, (2, 0, 0, 0, 0))]
theorem o_BO_init_95 : jokL "ChessHouse$Board" lw_tbl jcl jtb 3 true prog_3_method_1_code 95 k_BO_init_95 = true := jok_sub oo_BO_init_0 48 5 rfl rfl
noncomputable def k_BO_init_103 : List jI := [(.iload_n 2, 1, (2, 0, 0, 0, 0)), (.bipush 8, 2, (0, 0, 0, 8, 0)), (.if_icmp .ge 29, 3, (135, 0, 0, 0, 0)), (.aload_n 0, 1, (0, 0, 0, 0, 0)), (.getfield 32, 3, (10, 12, 681, 0, 0)), (.iload_n 1, 1, (1, 0, 0, 0, 0)), (.bipush 8, 2, (0, 0, 0, 8, 0)), (.imul, 1, (0, 0, 0, 0, 0)), (.iload_n 2, 1, (2, 0, 0, 0, 0)), (.iadd, 1, (0, 0, 0, 0, 0)), (.iload_n 1, 1, (1, 0, 0, 0, 0)), (.getstatic 44, 3, (0, 0, 619, 0, 0)), (.iload_n 2, 1, (2, 0, 0, 0, 0)), (.iaload, 1, (0, 0, 0, 0, 0))]
theorem o_BO_init_103 : jokL "ChessHouse$Board" lw_tbl jcl jtb 3 true prog_3_method_1_code 103 k_BO_init_103 = true := jok_sub oo_BO_init_0 53 14 rfl rfl
noncomputable def k_BO_init_128 : List jI := [(.iastore, 1, (0, 0, 0, 0, 0)), (.iinc 2 1, 3, (0, 0, 0, 1, 0)), (.goto (-29), 3, (103, 0, 0, 0, 0))]
theorem o_BO_init_128 : jokL "ChessHouse$Board" lw_tbl jcl jtb 3 true prog_3_method_1_code 128 k_BO_init_128 = true := jok_sub oo_BO_init_0 68 3 rfl rfl
noncomputable def k_BO_init_135 : List jI := [(.aload_n 0, 1, (0, 0, 0, 0, 0)), (.iload_n 1, 1, (1, 0, 0, 0, 0))]
theorem o_BO_init_135 : jokL "ChessHouse$Board" lw_tbl jcl jtb 3 true prog_3_method_1_code 135 k_BO_init_135 = true := jok_sub oo_BO_init_0 71 2 rfl rfl
noncomputable def k_BO_init_140 : List jI := [(.iconst 1, 1, (0, 0, 0, 1, 0)), (.istore_n 2, 1, (2, 0, 0, 0, 0))]
theorem o_BO_init_140 : jokL "ChessHouse$Board" lw_tbl jcl jtb 3 true prog_3_method_1_code 140 k_BO_init_140 = true := jok_sub oo_BO_init_0 74 2 rfl rfl
noncomputable def k_BO_init_142 : List jI := [(.iload_n 2, 1, (2, 0, 0, 0, 0)), (.bipush 15, 2, (0, 0, 0, 15, 0)), (.if_icmp .ge 25, 3, (170, 0, 0, 0, 0)), (.aload_n 0, 1, (0, 0, 0, 0, 0)), (.getfield 29, 3, (10, 11, 680, 0, 0)), (.iload_n 2, 1, (2, 0, 0, 0, 0)), (.bipush 64, 2, (0, 0, 0, 64, 0)), (.imul, 1, (0, 0, 0, 0, 0)), (.iload_n 1, 1, (1, 0, 0, 0, 0)), (.iadd, 1, (0, 0, 0, 0, 0)), (.iload_n 2, 1, (2, 0, 0, 0, 0)), (.iload_n 1, 1, (1, 0, 0, 0, 0))]
theorem o_BO_init_142 : jokL "ChessHouse$Board" lw_tbl jcl jtb 3 true prog_3_method_1_code 142 k_BO_init_142 = true := jok_sub oo_BO_init_0 76 12 rfl rfl
noncomputable def k_BO_init_163 : List jI := [(.iastore, 1, (0, 0, 0, 0, 0)), (.iinc 2 1, 3, (0, 0, 0, 1, 0)), (.goto (-25), 3, (142, 0, 0, 0, 0))]
theorem o_BO_init_163 : jokL "ChessHouse$Board" lw_tbl jcl jtb 3 true prog_3_method_1_code 163 k_BO_init_163 = true := jok_sub oo_BO_init_0 89 3 rfl rfl
noncomputable def k_BO_init_170 : List jI := [(.iinc 1 1, 3, (0, 0, 0, 1, 0)), (.goto (-78), 3, (95, 0, 0, 0, 0))]
theorem o_BO_init_170 : jokL "ChessHouse$Board" lw_tbl jcl jtb 3 true prog_3_method_1_code 170 k_BO_init_170 = true := jok_sub oo_BO_init_0 92 2 rfl rfl
noncomputable def k_BO_init_176 : List jI := [(.aload_n 0, 1, (0, 0, 0, 0, 0))]
theorem o_BO_init_176 : jokL "ChessHouse$Board" lw_tbl jcl jtb 3 true prog_3_method_1_code 176 k_BO_init_176 = true := jok_sub oo_BO_init_0 94 1 rfl rfl
theorem d_BO_init_1 : decode prog_3_method_1_code 1 = .ok (.invokespecial 1, 3) := by decide +kernel
theorem d_BO_init_7 : decode prog_3_method_1_code 7 = .ok (.newarray .int, 2) := by decide +kernel
theorem d_BO_init_14 : decode prog_3_method_1_code 14 = .ok (.newarray .int, 2) := by decide +kernel
theorem d_BO_init_21 : decode prog_3_method_1_code 21 = .ok (.newarray .long, 2) := by decide +kernel
theorem d_BO_init_28 : decode prog_3_method_1_code 28 = .ok (.newarray .int, 2) := by decide +kernel
theorem d_BO_init_36 : decode prog_3_method_1_code 36 = .ok (.newarray .int, 2) := by decide +kernel
theorem d_BO_init_43 : decode prog_3_method_1_code 43 = .ok (.newarray .int, 2) := by decide +kernel
theorem d_BO_init_52 : decode prog_3_method_1_code 52 = .ok (.newarray .int, 2) := by decide +kernel
theorem d_BO_init_61 : decode prog_3_method_1_code 61 = .ok (.newarray .int, 2) := by decide +kernel
theorem d_BO_init_70 : decode prog_3_method_1_code 70 = .ok (.newarray .int, 2) := by decide +kernel
theorem d_BO_init_79 : decode prog_3_method_1_code 79 = .ok (.newarray .long, 2) := by decide +kernel
theorem d_BO_init_88 : decode prog_3_method_1_code 88 = .ok (.newarray .int, 2) := by decide +kernel
theorem d_BO_init_125 : decode prog_3_method_1_code 125 = .ok (.invokestatic 47, 3) := by decide +kernel
theorem q_BO_init_125 : jlm lw_tbl 621 "ChessHouse$Board" 47 ⟨"ChessHouse$Board", "stepsToEdge", "(II)I"⟩ = true := jlm_of (Or.inl (jtF_ok rfl))
theorem d_BO_init_137 : decode prog_3_method_1_code 137 = .ok (.invokevirtual 51, 3) := by decide +kernel
theorem q_BO_init_137 : jlm lw_tbl 624 "ChessHouse$Board" 51 ⟨"ChessHouse$Board", "fillHops", "(I)V"⟩ = true := jlm_of (Or.inl (jtF_ok rfl))
theorem d_BO_init_160 : decode prog_3_method_1_code 160 = .ok (.invokestatic 55, 3) := by decide +kernel
theorem q_BO_init_160 : jlm lw_tbl 634 "ChessHouse$Board" 55 ⟨"ChessHouse$Board", "worthOf", "(II)I"⟩ = true := jlm_of (Or.inl (jtF_ok rfl))
theorem d_BO_init_177 : decode prog_3_method_1_code 177 = .ok (.invokevirtual 58, 3) := by decide +kernel
theorem q_BO_init_177 : jlm lw_tbl 640 "ChessHouse$Board" 58 ⟨"ChessHouse$Board", "setFirst", "()V"⟩ = true := jlm_of (Or.inl (jtF_ok rfl))
theorem d_BO_init_180 : decode prog_3_method_1_code 180 = .ok (.return_, 1) := by decide +kernel
noncomputable def y_GA_init : jY := (⟨"ChessHouse$Game", "<init>", "()V"⟩, prog_7_method_1_code, 1, none)
theorem m_GA_init : jmth lw_tbl y_GA_init 0 := ⟨jTA_in (wi := 611) (jtF_ok rfl) rfl, jTA_in (wi := 311) (jtF_ok rfl) rfl, by decide, by decide, by decide +kernel⟩
theorem i_GA_init : Jvm.Cond.instanceMethod y_GA_init.1 ∈ jTA lw_tbl := jTA_in (wi := 610) (jtF_ok rfl) rfl
noncomputable def kk_GA_init_0 : List jI := [(.aload_n 0, 1, (0, 0, 0, 0, 0)), (.invokespecial 3, 3, (0, 0, 0, 0, 0)), (.aload_n 0, 1, (0, 0, 0, 0, 0)), (.new 9, 3, (0, 0, 0, 0, 0)), (.dup, 1, (0, 0, 0, 0, 0)), (.invokespecial 11, 3, (0, 0, 0, 0, 0)), (.putfield 12, 3, (9, 0, 722, 3, 0)), (.aload_n 0, 1, (0, 0, 0, 0, 0)), (.sipush 301, 3, (0, 0, 0, 301, 0)), (.newarray .int, 2, (0, 0, 0, 0, 0)), (.putfield 18, 3, (9, 3, 733, 3, 0)), (.aload_n 0, 1, (0, 0, 0, 0, 0)), (.sipush 301, 3, (0, 0, 0, 301, 0)), (.newarray .int, 2, (0, 0, 0, 0, 0)), (.putfield 22, 3, (9, 4, 736, 3, 0)), (.aload_n 0, 1, (0, 0, 0, 0, 0)), (.sipush 301, 3, (0, 0, 0, 301, 0)), (.newarray .int, 2, (0, 0, 0, 0, 0)), (.putfield 25, 3, (9, 5, 739, 3, 0)), (.aload_n 0, 1, (0, 0, 0, 0, 0)), (.sipush 301, 3, (0, 0, 0, 301, 0)), (.newarray .int, 2, (0, 0, 0, 0, 0)), (.putfield 28, 3, (9, 6, 742, 3, 0)), (.aload_n 0, 1, (0, 0, 0, 0, 0)), (.sipush 301, 3, (0, 0, 0, 301, 0)), (.newarray .long, 2, (0, 0, 0, 0, 0)), (.putfield 31, 3, (9, 7, 745, 3, 0)), (.aload_n 0, 1, (0, 0, 0, 0, 0)), (.sipush 1204, 3, (0, 0, 0, 1204, 0)), (.newarray .int, 2, (0, 0, 0, 0, 0)), (.putfield 35, 3, (9, 8, 747, 3, 0)), (.aload_n 0, 1, (0, 0, 0, 0, 0)), (.sipush 301, 3, (0, 0, 0, 301, 0)), (.newarray .int, 2, (0, 0, 0, 0, 0)), (.putfield 38, 3, (9, 9, 749, 3, 0)), (.aload_n 0, 1, (0, 0, 0, 0, 0)), (.ldc 41, 2, (0, 0, 721, 60200, 0)), (.newarray .byte, 2, (0, 0, 0, 0, 0)), (.putfield 42, 3, (9, 10, 752, 3, 0)), (.aload_n 0, 1, (0, 0, 0, 0, 0)), (.sipush 301, 3, (0, 0, 0, 301, 0)), (.newarray .int, 2, (0, 0, 0, 0, 0)), (.putfield 46, 3, (9, 11, 754, 3, 0)), (.aload_n 0, 1, (0, 0, 0, 0, 0)), (.sipush 301, 3, (0, 0, 0, 301, 0)), (.newarray .int, 2, (0, 0, 0, 0, 0)), (.putfield 49, 3, (9, 12, 757, 3, 0)), (.aload_n 0, 1, (0, 0, 0, 0, 0)), (.bipush 96, 2, (0, 0, 0, 96, 0)), (.newarray .byte, 2, (0, 0, 0, 0, 0)), (.putfield 52, 3, (9, 14, 762, 3, 0)), (.aload_n 0, 1, (0, 0, 0, 0, 0)), (.bipush 8, 2, (0, 0, 0, 8, 0)), (.newarray .int, 2, (0, 0, 0, 0, 0)), (.putfield 55, 3, (9, 15, 764, 3, 0)), (.aload_n 0, 1, (0, 0, 0, 0, 0)), (.sipush 768, 3, (0, 0, 0, 768, 0)), (.newarray .byte, 2, (0, 0, 0, 0, 0)), (.putfield 58, 3, (9, 16, 766, 3, 0)), (.aload_n 0, 1, (0, 0, 0, 0, 0)), (.bipush 8, 2, (0, 0, 0, 8, 0)), (.newarray .int, 2, (0, 0, 0, 0, 0)), (.putfield 61, 3, (9, 17, 768, 3, 0)), (.return_, 1, (0, 0, 0, 0, 0))]
theorem oo_GA_init_0 : jokL "ChessHouse$Game" lw_tbl jcl jtb 1 true prog_7_method_1_code 0 kk_GA_init_0 = true := by decide +kernel
noncomputable def k_GA_init_0 : List jI := [(.aload_n 0, 1, (0, 0, 0, 0, 0))]
theorem o_GA_init_0 : jokL "ChessHouse$Game" lw_tbl jcl jtb 1 true prog_7_method_1_code 0 k_GA_init_0 = true := jok_sub oo_GA_init_0 0 1 rfl rfl
noncomputable def k_GA_init_4 : List jI := [(.aload_n 0, 1, (0, 0, 0, 0, 0))]
theorem o_GA_init_4 : jokL "ChessHouse$Game" lw_tbl jcl jtb 1 true prog_7_method_1_code 4 k_GA_init_4 = true := jok_sub oo_GA_init_0 2 1 rfl rfl
noncomputable def k_GA_init_8 : List jI := [(.dup, 1, (0, 0, 0, 0, 0))]
theorem o_GA_init_8 : jokL "ChessHouse$Game" lw_tbl jcl jtb 1 true prog_7_method_1_code 8 k_GA_init_8 = true := jok_sub oo_GA_init_0 4 1 rfl rfl
noncomputable def k_GA_init_12 : List jI := [(.putfield 12, 3, (9, 0, 722, 3, 0)), (.aload_n 0, 1, (0, 0, 0, 0, 0)), (.sipush 301, 3, (0, 0, 0, 301, 0))]
theorem o_GA_init_12 : jokL "ChessHouse$Game" lw_tbl jcl jtb 1 true prog_7_method_1_code 12 k_GA_init_12 = true := jok_sub oo_GA_init_0 6 3 rfl rfl
noncomputable def k_GA_init_21 : List jI := [(.putfield 18, 3, (9, 3, 733, 3, 0)), (.aload_n 0, 1, (0, 0, 0, 0, 0)), (.sipush 301, 3, (0, 0, 0, 301, 0))]
theorem o_GA_init_21 : jokL "ChessHouse$Game" lw_tbl jcl jtb 1 true prog_7_method_1_code 21 k_GA_init_21 = true := jok_sub oo_GA_init_0 10 3 rfl rfl
noncomputable def k_GA_init_30 : List jI := [(.putfield 22, 3, (9, 4, 736, 3, 0)), (.aload_n 0, 1, (0, 0, 0, 0, 0)), (.sipush 301, 3, (0, 0, 0, 301, 0))]
theorem o_GA_init_30 : jokL "ChessHouse$Game" lw_tbl jcl jtb 1 true prog_7_method_1_code 30 k_GA_init_30 = true := jok_sub oo_GA_init_0 14 3 rfl rfl
noncomputable def k_GA_init_39 : List jI := [(.putfield 25, 3, (9, 5, 739, 3, 0)), (.aload_n 0, 1, (0, 0, 0, 0, 0)), (.sipush 301, 3, (0, 0, 0, 301, 0))]
theorem o_GA_init_39 : jokL "ChessHouse$Game" lw_tbl jcl jtb 1 true prog_7_method_1_code 39 k_GA_init_39 = true := jok_sub oo_GA_init_0 18 3 rfl rfl
noncomputable def k_GA_init_48 : List jI := [(.putfield 28, 3, (9, 6, 742, 3, 0)), (.aload_n 0, 1, (0, 0, 0, 0, 0)), (.sipush 301, 3, (0, 0, 0, 301, 0))]
theorem o_GA_init_48 : jokL "ChessHouse$Game" lw_tbl jcl jtb 1 true prog_7_method_1_code 48 k_GA_init_48 = true := jok_sub oo_GA_init_0 22 3 rfl rfl
noncomputable def k_GA_init_57 : List jI := [(.putfield 31, 3, (9, 7, 745, 3, 0)), (.aload_n 0, 1, (0, 0, 0, 0, 0)), (.sipush 1204, 3, (0, 0, 0, 1204, 0))]
theorem o_GA_init_57 : jokL "ChessHouse$Game" lw_tbl jcl jtb 1 true prog_7_method_1_code 57 k_GA_init_57 = true := jok_sub oo_GA_init_0 26 3 rfl rfl
noncomputable def k_GA_init_66 : List jI := [(.putfield 35, 3, (9, 8, 747, 3, 0)), (.aload_n 0, 1, (0, 0, 0, 0, 0)), (.sipush 301, 3, (0, 0, 0, 301, 0))]
theorem o_GA_init_66 : jokL "ChessHouse$Game" lw_tbl jcl jtb 1 true prog_7_method_1_code 66 k_GA_init_66 = true := jok_sub oo_GA_init_0 30 3 rfl rfl
noncomputable def k_GA_init_75 : List jI := [(.putfield 38, 3, (9, 9, 749, 3, 0)), (.aload_n 0, 1, (0, 0, 0, 0, 0)), (.ldc 41, 2, (0, 0, 721, 60200, 0))]
theorem o_GA_init_75 : jokL "ChessHouse$Game" lw_tbl jcl jtb 1 true prog_7_method_1_code 75 k_GA_init_75 = true := jok_sub oo_GA_init_0 34 3 rfl rfl
noncomputable def k_GA_init_83 : List jI := [(.putfield 42, 3, (9, 10, 752, 3, 0)), (.aload_n 0, 1, (0, 0, 0, 0, 0)), (.sipush 301, 3, (0, 0, 0, 301, 0))]
theorem o_GA_init_83 : jokL "ChessHouse$Game" lw_tbl jcl jtb 1 true prog_7_method_1_code 83 k_GA_init_83 = true := jok_sub oo_GA_init_0 38 3 rfl rfl
noncomputable def k_GA_init_92 : List jI := [(.putfield 46, 3, (9, 11, 754, 3, 0)), (.aload_n 0, 1, (0, 0, 0, 0, 0)), (.sipush 301, 3, (0, 0, 0, 301, 0))]
theorem o_GA_init_92 : jokL "ChessHouse$Game" lw_tbl jcl jtb 1 true prog_7_method_1_code 92 k_GA_init_92 = true := jok_sub oo_GA_init_0 42 3 rfl rfl
noncomputable def k_GA_init_101 : List jI := [(.putfield 49, 3, (9, 12, 757, 3, 0)), (.aload_n 0, 1, (0, 0, 0, 0, 0)), (.bipush 96, 2, (0, 0, 0, 96, 0))]
theorem o_GA_init_101 : jokL "ChessHouse$Game" lw_tbl jcl jtb 1 true prog_7_method_1_code 101 k_GA_init_101 = true := jok_sub oo_GA_init_0 46 3 rfl rfl
noncomputable def k_GA_init_109 : List jI := [(.putfield 52, 3, (9, 14, 762, 3, 0)), (.aload_n 0, 1, (0, 0, 0, 0, 0)), (.bipush 8, 2, (0, 0, 0, 8, 0))]
theorem o_GA_init_109 : jokL "ChessHouse$Game" lw_tbl jcl jtb 1 true prog_7_method_1_code 109 k_GA_init_109 = true := jok_sub oo_GA_init_0 50 3 rfl rfl
noncomputable def k_GA_init_117 : List jI := [(.putfield 55, 3, (9, 15, 764, 3, 0)), (.aload_n 0, 1, (0, 0, 0, 0, 0)), (.sipush 768, 3, (0, 0, 0, 768, 0))]
theorem o_GA_init_117 : jokL "ChessHouse$Game" lw_tbl jcl jtb 1 true prog_7_method_1_code 117 k_GA_init_117 = true := jok_sub oo_GA_init_0 54 3 rfl rfl
noncomputable def k_GA_init_126 : List jI := [(.putfield 58, 3, (9, 16, 766, 3, 0)), (.aload_n 0, 1, (0, 0, 0, 0, 0)), (.bipush 8, 2, (0, 0, 0, 8, 0))]
theorem o_GA_init_126 : jokL "ChessHouse$Game" lw_tbl jcl jtb 1 true prog_7_method_1_code 126 k_GA_init_126 = true := jok_sub oo_GA_init_0 58 3 rfl rfl
noncomputable def k_GA_init_134 : List jI := [(.putfield 61, 3, (9, 17, 768, 3, 0))]
theorem o_GA_init_134 : jokL "ChessHouse$Game" lw_tbl jcl jtb 1 true prog_7_method_1_code 134 k_GA_init_134 = true := jok_sub oo_GA_init_0 62 1 rfl rfl
theorem d_GA_init_1 : decode prog_7_method_1_code 1 = .ok (.invokespecial 3, 3) := by decide +kernel
theorem d_GA_init_5 : decode prog_7_method_1_code 5 = .ok (.new 9, 3) := by decide +kernel
theorem d_GA_init_9 : decode prog_7_method_1_code 9 = .ok (.invokespecial 11, 3) := by decide +kernel
theorem q_GA_init_9 : jlm lw_tbl 615 "ChessHouse$Game" 11 ⟨"ChessHouse$Board", "<init>", "()V"⟩ = true := jlm_of (Or.inl (jtF_ok rfl))
theorem d_GA_init_19 : decode prog_7_method_1_code 19 = .ok (.newarray .int, 2) := by decide +kernel
theorem d_GA_init_28 : decode prog_7_method_1_code 28 = .ok (.newarray .int, 2) := by decide +kernel
theorem d_GA_init_37 : decode prog_7_method_1_code 37 = .ok (.newarray .int, 2) := by decide +kernel
theorem d_GA_init_46 : decode prog_7_method_1_code 46 = .ok (.newarray .int, 2) := by decide +kernel
theorem d_GA_init_55 : decode prog_7_method_1_code 55 = .ok (.newarray .long, 2) := by decide +kernel
theorem d_GA_init_64 : decode prog_7_method_1_code 64 = .ok (.newarray .int, 2) := by decide +kernel
theorem d_GA_init_73 : decode prog_7_method_1_code 73 = .ok (.newarray .int, 2) := by decide +kernel
theorem d_GA_init_81 : decode prog_7_method_1_code 81 = .ok (.newarray .byte, 2) := by decide +kernel
theorem d_GA_init_90 : decode prog_7_method_1_code 90 = .ok (.newarray .int, 2) := by decide +kernel
theorem d_GA_init_99 : decode prog_7_method_1_code 99 = .ok (.newarray .int, 2) := by decide +kernel
theorem d_GA_init_107 : decode prog_7_method_1_code 107 = .ok (.newarray .byte, 2) := by decide +kernel
theorem d_GA_init_115 : decode prog_7_method_1_code 115 = .ok (.newarray .int, 2) := by decide +kernel
theorem d_GA_init_124 : decode prog_7_method_1_code 124 = .ok (.newarray .byte, 2) := by decide +kernel
theorem d_GA_init_132 : decode prog_7_method_1_code 132 = .ok (.newarray .int, 2) := by decide +kernel
theorem d_GA_init_137 : decode prog_7_method_1_code 137 = .ok (.return_, 1) := by decide +kernel
noncomputable def y_CH_init : jY := (⟨"ChessHouse", "<init>", "()V"⟩, prog_1_method_1_code, 1, none)
theorem m_CH_init : jmth lw_tbl y_CH_init 0 := ⟨jTA_in (wi := 338) (jtF_ok rfl) rfl, jTA_in (wi := 302) (jtF_ok rfl) rfl, by decide, by decide, by decide +kernel⟩
theorem i_CH_init : Jvm.Cond.instanceMethod y_CH_init.1 ∈ jTA lw_tbl := jTA_in (wi := 337) (jtF_ok rfl) rfl
noncomputable def kk_CH_init_0 : List jI := [(.aload_n 0, 1, (0, 0, 0, 0, 0)), (.invokespecial 1, 3, (0, 0, 0, 0, 0)), (.aload_n 0, 1, (0, 0, 0, 0, 0)), (.ldc 9, 2, (0, 0, 342, 65537, 0)), (.newarray .byte, 2, (0, 0, 0, 0, 0)), (.putfield 10, 3, (0, 0, 813, 3, 0)), (.aload_n 0, 1, (0, 0, 0, 0, 0)), (.new 14, 3, (0, 0, 0, 0, 0)), (.dup, 1, (0, 0, 0, 0, 0)), (.ldc 16, 2, (0, 0, 345, 65536, 0)), (.invokespecial 17, 3, (0, 0, 0, 0, 0)), (.putfield 20, 3, (0, 1, 814, 3, 0)), (.aload_n 0, 1, (0, 0, 0, 0, 0)), (.new 24, 3, (0, 0, 0, 0, 0)), (.dup, 1, (0, 0, 0, 0, 0)), (.invokespecial 26, 3, (0, 0, 0, 0, 0)), (.putfield 27, 3, (0, 2, 815, 3, 0)), (.aload_n 0, 1, (0, 0, 0, 0, 0)), (.new 31, 3, (0, 0, 0, 0, 0)), (.dup, 1, (0, 0, 0, 0, 0)), (.invokespecial 33, 3, (0, 0, 0, 0, 0)), (.putfield 34, 3, (0, 3, 816, 3, 0)), (.aload_n 0, 1, (0, 0, 0, 0, 0)), (.new 38, 3, (0, 0, 0, 0, 0)), (.dup, 1, (0, 0, 0, 0, 0)), (.invokespecial 40, 3, (0, 0, 0, 0, 0)), (.putfield 41, 3, (0, 4, 817, 3, 0)), (.aload_n 0, 1, (0, 0, 0, 0, 0)), (.new 45, 3, (0, 0, 0, 0, 0)), (.dup, 1, (0, 0, 0, 0, 0)), (.invokespecial 47, 3, (0, 0, 0, 0, 0)), (.putfield 48, 3, (0, 5, 818, 3, 0)), (.aload_n 0, 1, (0, 0, 0, 0, 0)), (.new 52, 3, (0, 0, 0, 0, 0)), (.dup, 1, (0, 0, 0, 0, 0)), (.invokespecial 54, 3, (0, 0, 0, 0, 0)), (.putfield 55, 3, (0, 6, 819, 3, 0)), (.aload_n 0, 1, (0, 0, 0, 0, 0)), (.new 59, 3, (0, 0, 0, 0, 0)), (.dup, 1, (0, 0, 0, 0, 0)), (.invokespecial 61, 3, (0, 0, 0, 0, 0)), (.putfield 62, 3, (0, 7, 820, 3, 0)), (.aload_n 0, 1, (0, 0, 0, 0, 0)), (.new 66, 3, (0, 0, 0, 0, 0)), (.dup, 1, (0, 0, 0, 0, 0)), (.invokespecial 68, 3, (0, 0, 0, 0, 0)), (.putfield 69, 3, (0, 8, 821, 3, 0)), (.aload_n 0, 1, (0, 0, 0, 0, 0)), (.sipush 1728, 3, (0, 0, 0, 1728, 0)), (.newarray .int, 2, (0, 0, 0, 0, 0)), (.putfield 75, 3, (0, 9, 822, 3, 0)), (.aload_n 0, 1, (0, 0, 0, 0, 0)), (.new 79, 3, (0, 0, 0, 0, 0)), (.dup, 1, (0, 0, 0, 0, 0)), (.invokespecial 81, 3, (0, 0, 0, 0, 0)), (.putfield 82, 3, (0, 10, 823, 3, 0)), (.aload_n 0, 1, (0, 0, 0, 0, 0)), (.new 79, 3, (0, 0, 0, 0, 0)), (.dup, 1, (0, 0, 0, 0, 0)), (.invokespecial 81, 3, (0, 0, 0, 0, 0)), (.putfield 86, 3, (0, 11, 824, 3, 0)), (.aload_n 0, 1, (0, 0, 0, 0, 0)), (.iconst 0, 1, (0, 0, 0, 0, 0)), (.putfield 89, 3, (0, 12, 825, 0, 0)), (.return_, 1, (0, 0, 0, 0, 0))]
theorem oo_CH_init_0 : jokL "ChessHouse" lw_tbl jcl jtb 1 true prog_1_method_1_code 0 kk_CH_init_0 = true := by decide +kernel
noncomputable def k_CH_init_0 : List jI := [(.aload_n 0, 1, (0, 0, 0, 0, 0))]
theorem o_CH_init_0 : jokL "ChessHouse" lw_tbl jcl jtb 1 true prog_1_method_1_code 0 k_CH_init_0 = true := jok_sub oo_CH_init_0 0 1 rfl rfl
noncomputable def k_CH_init_4 : List jI := [(.aload_n 0, 1, (0, 0, 0, 0, 0)), (.ldc 9, 2, (0, 0, 342, 65537, 0))]
theorem o_CH_init_4 : jokL "ChessHouse" lw_tbl jcl jtb 1 true prog_1_method_1_code 4 k_CH_init_4 = true := jok_sub oo_CH_init_0 2 2 rfl rfl
noncomputable def k_CH_init_9 : List jI := [(.putfield 10, 3, (0, 0, 813, 3, 0)), (.aload_n 0, 1, (0, 0, 0, 0, 0))]
theorem o_CH_init_9 : jokL "ChessHouse" lw_tbl jcl jtb 1 true prog_1_method_1_code 9 k_CH_init_9 = true := jok_sub oo_CH_init_0 5 2 rfl rfl
noncomputable def k_CH_init_16 : List jI := [(.dup, 1, (0, 0, 0, 0, 0)), (.ldc 16, 2, (0, 0, 345, 65536, 0))]
theorem o_CH_init_16 : jokL "ChessHouse" lw_tbl jcl jtb 1 true prog_1_method_1_code 16 k_CH_init_16 = true := jok_sub oo_CH_init_0 8 2 rfl rfl
noncomputable def k_CH_init_22 : List jI := [(.putfield 20, 3, (0, 1, 814, 3, 0)), (.aload_n 0, 1, (0, 0, 0, 0, 0))]
theorem o_CH_init_22 : jokL "ChessHouse" lw_tbl jcl jtb 1 true prog_1_method_1_code 22 k_CH_init_22 = true := jok_sub oo_CH_init_0 11 2 rfl rfl
noncomputable def k_CH_init_29 : List jI := [(.dup, 1, (0, 0, 0, 0, 0))]
theorem o_CH_init_29 : jokL "ChessHouse" lw_tbl jcl jtb 1 true prog_1_method_1_code 29 k_CH_init_29 = true := jok_sub oo_CH_init_0 14 1 rfl rfl
noncomputable def k_CH_init_33 : List jI := [(.putfield 27, 3, (0, 2, 815, 3, 0)), (.aload_n 0, 1, (0, 0, 0, 0, 0))]
theorem o_CH_init_33 : jokL "ChessHouse" lw_tbl jcl jtb 1 true prog_1_method_1_code 33 k_CH_init_33 = true := jok_sub oo_CH_init_0 16 2 rfl rfl
noncomputable def k_CH_init_40 : List jI := [(.dup, 1, (0, 0, 0, 0, 0))]
theorem o_CH_init_40 : jokL "ChessHouse" lw_tbl jcl jtb 1 true prog_1_method_1_code 40 k_CH_init_40 = true := jok_sub oo_CH_init_0 19 1 rfl rfl
noncomputable def k_CH_init_44 : List jI := [(.putfield 34, 3, (0, 3, 816, 3, 0)), (.aload_n 0, 1, (0, 0, 0, 0, 0))]
theorem o_CH_init_44 : jokL "ChessHouse" lw_tbl jcl jtb 1 true prog_1_method_1_code 44 k_CH_init_44 = true := jok_sub oo_CH_init_0 21 2 rfl rfl
noncomputable def k_CH_init_51 : List jI := [(.dup, 1, (0, 0, 0, 0, 0))]
theorem o_CH_init_51 : jokL "ChessHouse" lw_tbl jcl jtb 1 true prog_1_method_1_code 51 k_CH_init_51 = true := jok_sub oo_CH_init_0 24 1 rfl rfl
noncomputable def k_CH_init_55 : List jI := [(.putfield 41, 3, (0, 4, 817, 3, 0)), (.aload_n 0, 1, (0, 0, 0, 0, 0))]
theorem o_CH_init_55 : jokL "ChessHouse" lw_tbl jcl jtb 1 true prog_1_method_1_code 55 k_CH_init_55 = true := jok_sub oo_CH_init_0 26 2 rfl rfl
noncomputable def k_CH_init_62 : List jI := [(.dup, 1, (0, 0, 0, 0, 0))]
theorem o_CH_init_62 : jokL "ChessHouse" lw_tbl jcl jtb 1 true prog_1_method_1_code 62 k_CH_init_62 = true := jok_sub oo_CH_init_0 29 1 rfl rfl
noncomputable def k_CH_init_66 : List jI := [(.putfield 48, 3, (0, 5, 818, 3, 0)), (.aload_n 0, 1, (0, 0, 0, 0, 0))]
theorem o_CH_init_66 : jokL "ChessHouse" lw_tbl jcl jtb 1 true prog_1_method_1_code 66 k_CH_init_66 = true := jok_sub oo_CH_init_0 31 2 rfl rfl
noncomputable def k_CH_init_73 : List jI := [(.dup, 1, (0, 0, 0, 0, 0))]
theorem o_CH_init_73 : jokL "ChessHouse" lw_tbl jcl jtb 1 true prog_1_method_1_code 73 k_CH_init_73 = true := jok_sub oo_CH_init_0 34 1 rfl rfl
noncomputable def k_CH_init_77 : List jI := [(.putfield 55, 3, (0, 6, 819, 3, 0)), (.aload_n 0, 1, (0, 0, 0, 0, 0))]
theorem o_CH_init_77 : jokL "ChessHouse" lw_tbl jcl jtb 1 true prog_1_method_1_code 77 k_CH_init_77 = true := jok_sub oo_CH_init_0 36 2 rfl rfl
noncomputable def k_CH_init_84 : List jI := [(.dup, 1, (0, 0, 0, 0, 0))]
theorem o_CH_init_84 : jokL "ChessHouse" lw_tbl jcl jtb 1 true prog_1_method_1_code 84 k_CH_init_84 = true := jok_sub oo_CH_init_0 39 1 rfl rfl
noncomputable def k_CH_init_88 : List jI := [(.putfield 62, 3, (0, 7, 820, 3, 0)), (.aload_n 0, 1, (0, 0, 0, 0, 0))]
theorem o_CH_init_88 : jokL "ChessHouse" lw_tbl jcl jtb 1 true prog_1_method_1_code 88 k_CH_init_88 = true := jok_sub oo_CH_init_0 41 2 rfl rfl
noncomputable def k_CH_init_95 : List jI := [(.dup, 1, (0, 0, 0, 0, 0))]
theorem o_CH_init_95 : jokL "ChessHouse" lw_tbl jcl jtb 1 true prog_1_method_1_code 95 k_CH_init_95 = true := jok_sub oo_CH_init_0 44 1 rfl rfl
noncomputable def k_CH_init_99 : List jI := [(.putfield 69, 3, (0, 8, 821, 3, 0)), (.aload_n 0, 1, (0, 0, 0, 0, 0)), (.sipush 1728, 3, (0, 0, 0, 1728, 0))]
theorem o_CH_init_99 : jokL "ChessHouse" lw_tbl jcl jtb 1 true prog_1_method_1_code 99 k_CH_init_99 = true := jok_sub oo_CH_init_0 46 3 rfl rfl
noncomputable def k_CH_init_108 : List jI := [(.putfield 75, 3, (0, 9, 822, 3, 0)), (.aload_n 0, 1, (0, 0, 0, 0, 0))]
theorem o_CH_init_108 : jokL "ChessHouse" lw_tbl jcl jtb 1 true prog_1_method_1_code 108 k_CH_init_108 = true := jok_sub oo_CH_init_0 50 2 rfl rfl
noncomputable def k_CH_init_115 : List jI := [(.dup, 1, (0, 0, 0, 0, 0))]
theorem o_CH_init_115 : jokL "ChessHouse" lw_tbl jcl jtb 1 true prog_1_method_1_code 115 k_CH_init_115 = true := jok_sub oo_CH_init_0 53 1 rfl rfl
noncomputable def k_CH_init_119 : List jI := [(.putfield 82, 3, (0, 10, 823, 3, 0)), (.aload_n 0, 1, (0, 0, 0, 0, 0))]
theorem o_CH_init_119 : jokL "ChessHouse" lw_tbl jcl jtb 1 true prog_1_method_1_code 119 k_CH_init_119 = true := jok_sub oo_CH_init_0 55 2 rfl rfl
noncomputable def k_CH_init_126 : List jI := [(.dup, 1, (0, 0, 0, 0, 0))]
theorem o_CH_init_126 : jokL "ChessHouse" lw_tbl jcl jtb 1 true prog_1_method_1_code 126 k_CH_init_126 = true := jok_sub oo_CH_init_0 58 1 rfl rfl
noncomputable def k_CH_init_130 : List jI := [(.putfield 86, 3, (0, 11, 824, 3, 0)), (.aload_n 0, 1, (0, 0, 0, 0, 0)), (.iconst 0, 1, (0, 0, 0, 0, 0)), (.putfield 89, 3, (0, 12, 825, 0, 0))]
theorem o_CH_init_130 : jokL "ChessHouse" lw_tbl jcl jtb 1 true prog_1_method_1_code 130 k_CH_init_130 = true := jok_sub oo_CH_init_0 60 4 rfl rfl
theorem d_CH_init_1 : decode prog_1_method_1_code 1 = .ok (.invokespecial 1, 3) := by decide +kernel
theorem d_CH_init_7 : decode prog_1_method_1_code 7 = .ok (.newarray .byte, 2) := by decide +kernel
theorem d_CH_init_13 : decode prog_1_method_1_code 13 = .ok (.new 14, 3) := by decide +kernel
theorem d_CH_init_19 : decode prog_1_method_1_code 19 = .ok (.invokespecial 17, 3) := by decide +kernel
theorem q_CH_init_19 : jlm lw_tbl 346 "ChessHouse" 17 ⟨"ChessHouse$Bytes", "<init>", "(I)V"⟩ = true := jlm_of (Or.inl (jtF_ok rfl))
theorem d_CH_init_26 : decode prog_1_method_1_code 26 = .ok (.new 24, 3) := by decide +kernel
theorem d_CH_init_30 : decode prog_1_method_1_code 30 = .ok (.invokespecial 26, 3) := by decide +kernel
theorem q_CH_init_30 : jlm lw_tbl 364 "ChessHouse" 26 ⟨"ChessHouse$Words", "<init>", "()V"⟩ = true := jlm_of (Or.inr ⟨_, jtF_ok rfl⟩)
theorem d_CH_init_37 : decode prog_1_method_1_code 37 = .ok (.new 31, 3) := by decide +kernel
theorem d_CH_init_41 : decode prog_1_method_1_code 41 = .ok (.invokespecial 33, 3) := by decide +kernel
theorem q_CH_init_41 : jlm lw_tbl 390 "ChessHouse" 33 ⟨"ChessHouse$Signs", "<init>", "()V"⟩ = true := jlm_of (Or.inr ⟨_, jtF_ok rfl⟩)
theorem d_CH_init_48 : decode prog_1_method_1_code 48 = .ok (.new 38, 3) := by decide +kernel
theorem d_CH_init_52 : decode prog_1_method_1_code 52 = .ok (.invokespecial 40, 3) := by decide +kernel
theorem q_CH_init_52 : jlm lw_tbl 430 "ChessHouse" 40 ⟨"ChessHouse$GameReader", "<init>", "()V"⟩ = true := jlm_of (Or.inr ⟨_, jtF_ok rfl⟩)
theorem d_CH_init_59 : decode prog_1_method_1_code 59 = .ok (.new 45, 3) := by decide +kernel
theorem d_CH_init_63 : decode prog_1_method_1_code 63 = .ok (.invokespecial 47, 3) := by decide +kernel
theorem q_CH_init_63 : jlm lw_tbl 476 "ChessHouse" 47 ⟨"ChessHouse$GameWriter", "<init>", "()V"⟩ = true := jlm_of (Or.inr ⟨_, jtF_ok rfl⟩)
theorem d_CH_init_70 : decode prog_1_method_1_code 70 = .ok (.new 52, 3) := by decide +kernel
theorem d_CH_init_74 : decode prog_1_method_1_code 74 = .ok (.invokespecial 54, 3) := by decide +kernel
theorem q_CH_init_74 : jlm lw_tbl 497 "ChessHouse" 54 ⟨"ChessHouse$Search", "<init>", "()V"⟩ = true := jlm_of (Or.inr ⟨_, jtF_ok rfl⟩)
theorem d_CH_init_81 : decode prog_1_method_1_code 81 = .ok (.new 59, 3) := by decide +kernel
theorem d_CH_init_85 : decode prog_1_method_1_code 85 = .ok (.invokespecial 61, 3) := by decide +kernel
theorem q_CH_init_85 : jlm lw_tbl 527 "ChessHouse" 61 ⟨"ChessHouse$Problems", "<init>", "()V"⟩ = true := jlm_of (Or.inr ⟨_, jtF_ok rfl⟩)
theorem d_CH_init_92 : decode prog_1_method_1_code 92 = .ok (.new 66, 3) := by decide +kernel
theorem d_CH_init_96 : decode prog_1_method_1_code 96 = .ok (.invokespecial 68, 3) := by decide +kernel
theorem q_CH_init_96 : jlm lw_tbl 570 "ChessHouse" 68 ⟨"ChessHouse$Endings", "<init>", "()V"⟩ = true := jlm_of (Or.inr ⟨_, jtF_ok rfl⟩)
theorem d_CH_init_106 : decode prog_1_method_1_code 106 = .ok (.newarray .int, 2) := by decide +kernel
theorem d_CH_init_112 : decode prog_1_method_1_code 112 = .ok (.new 79, 3) := by decide +kernel
theorem d_CH_init_116 : decode prog_1_method_1_code 116 = .ok (.invokespecial 81, 3) := by decide +kernel
theorem q_CH_init_116 : jlm lw_tbl 609 "ChessHouse" 81 ⟨"ChessHouse$Game", "<init>", "()V"⟩ = true := jlm_of (Or.inr ⟨_, jtF_ok rfl⟩)
theorem d_CH_init_123 : decode prog_1_method_1_code 123 = .ok (.new 79, 3) := by decide +kernel
theorem d_CH_init_127 : decode prog_1_method_1_code 127 = .ok (.invokespecial 81, 3) := by decide +kernel
theorem q_CH_init_127 : jlm lw_tbl 609 "ChessHouse" 81 ⟨"ChessHouse$Game", "<init>", "()V"⟩ = true := jlm_of (Or.inr ⟨_, jtF_ok rfl⟩)
theorem d_CH_init_138 : decode prog_1_method_1_code 138 = .ok (.return_, 1) := by decide +kernel
noncomputable def y_CH_takeFour : jY := (⟨"ChessHouse", "takeFour", "(I)V"⟩, prog_1_method_6_code, 3, none)
theorem m_CH_takeFour : jmth lw_tbl y_CH_takeFour 1 := ⟨jTA_in (wi := 937) (jtF_ok rfl) rfl, jTA_in (wi := 302) (jtF_ok rfl) rfl, by decide, by decide, by decide +kernel⟩
theorem i_CH_takeFour : Jvm.Cond.instanceMethod y_CH_takeFour.1 ∈ jTA lw_tbl := jTA_in (wi := 936) (jtF_ok rfl) rfl
theorem e_CH_takeFour : Jvm.Cond.selects y_CH_takeFour.1.cls y_CH_takeFour.1 y_CH_takeFour.1 ∈ jTA lw_tbl := jTA_in (wi := 3) (jtF_ok rfl) rfl
noncomputable def y_CH_feed : jY := (⟨"ChessHouse", "feed", "(IIIII)V"⟩, prog_1_method_2_code, 6, none)
theorem m_CH_feed : jmth lw_tbl y_CH_feed 5 := ⟨jTA_in (wi := 870) (jtF_ok rfl) rfl, jTA_in (wi := 302) (jtF_ok rfl) rfl, by decide, by decide, by decide +kernel⟩
theorem i_CH_feed : Jvm.Cond.instanceMethod y_CH_feed.1 ∈ jTA lw_tbl := jTA_in (wi := 868) (jtF_ok rfl) rfl
theorem e_CH_feed : Jvm.Cond.selects y_CH_feed.1.cls y_CH_feed.1 y_CH_feed.1 ∈ jTA lw_tbl := jTA_in (wi := 869) (jtF_ok rfl) rfl
theorem d_CH_feed_12 : decode prog_1_method_2_code 12 = .ok (.new 93, 3) := by decide +kernel
theorem d_CH_feed_16 : decode prog_1_method_2_code 16 = .ok (.invokespecial 95, 3) := by decide +kernel
theorem d_CH_feed_19 : decode prog_1_method_2_code 19 = .ok (.athrow, 1) := by decide +kernel
noncomputable def y_CH_size : jY := (⟨"ChessHouse", "size", "()I"⟩, prog_1_method_4_code, 1, (some .int))
theorem m_CH_size : jmth lw_tbl y_CH_size 0 := ⟨jTA_in (wi := 862) (jtF_ok rfl) rfl, jTA_in (wi := 302) (jtF_ok rfl) rfl, by decide, by decide, by decide +kernel⟩
theorem i_CH_size : Jvm.Cond.instanceMethod y_CH_size.1 ∈ jTA lw_tbl := jTA_in (wi := 860) (jtF_ok rfl) rfl
theorem e_CH_size : Jvm.Cond.selects y_CH_size.1.cls y_CH_size.1 y_CH_size.1 ∈ jTA lw_tbl := jTA_in (wi := 861) (jtF_ok rfl) rfl
noncomputable def y_CH_out : jY := (⟨"ChessHouse", "out", "(I)I"⟩, prog_1_method_5_code, 2, (some .int))
theorem m_CH_out : jmth lw_tbl y_CH_out 1 := ⟨jTA_in (wi := 1885) (jtF_ok rfl) rfl, jTA_in (wi := 302) (jtF_ok rfl) rfl, by decide, by decide, by decide +kernel⟩
theorem i_CH_out : Jvm.Cond.instanceMethod y_CH_out.1 ∈ jTA lw_tbl := jTA_in (wi := 1883) (jtF_ok rfl) rfl
theorem e_CH_out : Jvm.Cond.selects y_CH_out.1.cls y_CH_out.1 y_CH_out.1 ∈ jTA lw_tbl := jTA_in (wi := 1884) (jtF_ok rfl) rfl
theorem d_CH_out_15 : decode prog_1_method_5_code 15 = .ok (.new 126, 3) := by decide +kernel
theorem d_CH_out_19 : decode prog_1_method_5_code 19 = .ok (.invokespecial 128, 3) := by decide +kernel
theorem d_CH_out_22 : decode prog_1_method_5_code 22 = .ok (.athrow, 1) := by decide +kernel
noncomputable def y_CH_end : jY := (⟨"ChessHouse", "end", "(I)I"⟩, prog_1_method_3_code, 5, (some .int))
theorem m_CH_end : jmth lw_tbl y_CH_end 1 := ⟨jTA_in (wi := 945) (jtF_ok rfl) rfl, jTA_in (wi := 302) (jtF_ok rfl) rfl, by decide, by decide, by decide +kernel⟩
theorem i_CH_end : Jvm.Cond.instanceMethod y_CH_end.1 ∈ jTA lw_tbl := jTA_in (wi := 943) (jtF_ok rfl) rfl
theorem e_CH_end : Jvm.Cond.selects y_CH_end.1.cls y_CH_end.1 y_CH_end.1 ∈ jTA lw_tbl := jTA_in (wi := 944) (jtF_ok rfl) rfl
theorem d_CH_end_12 : decode prog_1_method_3_code 12 = .ok (.new 99, 3) := by decide +kernel
theorem d_CH_end_16 : decode prog_1_method_3_code 16 = .ok (.invokespecial 101, 3) := by decide +kernel
theorem d_CH_end_19 : decode prog_1_method_3_code 19 = .ok (.athrow, 1) := by decide +kernel
noncomputable def y_MB_init : jY := (⟨"ChessHouseModel$Board", "<init>", "()V"⟩, prog_16_method_1_code, 1, none)
theorem m_MB_init : jmth lw_tbl y_MB_init 0 := ⟨jTA_in (wi := 2167) (jtF_ok rfl) rfl, jTA_in (wi := 316) (jtF_ok rfl) rfl, by decide, by decide, by decide +kernel⟩
theorem i_MB_init : Jvm.Cond.instanceMethod y_MB_init.1 ∈ jTA lw_tbl := jTA_in (wi := 2166) (jtF_ok rfl) rfl
noncomputable def kk_MB_init_0 : List jI := [(.aload_n 0, 1, (0, 0, 0, 0, 0)), (.invokespecial 3, 3, (0, 0, 0, 0, 0)), (.aload_n 0, 1, (0, 0, 0, 0, 0)), (.ldc 9, 2, (0, 0, 2169, 65536, 0)), (.newarray .char, 2, (0, 0, 0, 0, 0)), (.putfield 10, 3, (13, 1, 2172, 3, 0)), (.aload_n 0, 1, (0, 0, 0, 0, 0)), (.bipush 64, 2, (0, 0, 0, 64, 0)), (.newarray .int, 2, (0, 0, 0, 0, 0)), (.putfield 16, 3, (13, 2, 2174, 3, 0)), (.aload_n 0, 1, (0, 0, 0, 0, 0)), (.iconst (-1), 1, (0, 0, 0, (-1), 0)), (.putfield 20, 3, (13, 5, 2180, 0, 0)), (.aload_n 0, 1, (0, 0, 0, 0, 0)), (.sipush 19520, 3, (0, 0, 0, 19520, 0)), (.newarray .int, 2, (0, 0, 0, 0, 0)), (.putfield 24, 3, (13, 9, 2188, 3, 0)), (.aload_n 0, 1, (0, 0, 0, 0, 0)), (.sipush 305, 3, (0, 0, 0, 305, 0)), (.newarray .int, 2, (0, 0, 0, 0, 0)), (.putfield 27, 3, (13, 10, 2189, 3, 0)), (.aload_n 0, 1, (0, 0, 0, 0, 0)), (.sipush 305, 3, (0, 0, 0, 305, 0)), (.newarray .int, 2, (0, 0, 0, 0, 0)), (.putfield 30, 3, (13, 11, 2190, 3, 0)), (.aload_n 0, 1, (0, 0, 0, 0, 0)), (.sipush 305, 3, (0, 0, 0, 305, 0)), (.newarray .int, 2, (0, 0, 0, 0, 0)), (.putfield 33, 3, (13, 12, 2191, 3, 0)), (.aload_n 0, 1, (0, 0, 0, 0, 0)), (.sipush 305, 3, (0, 0, 0, 305, 0)), (.newarray .int, 2, (0, 0, 0, 0, 0)), (.putfield 36, 3, (13, 13, 2192, 3, 0)), (.aload_n 0, 1, (0, 0, 0, 0, 0)), (.sipush 305, 3, (0, 0, 0, 305, 0)), (.newarray .int, 2, (0, 0, 0, 0, 0)), (.putfield 39, 3, (13, 14, 2193, 3, 0)), (.aload_n 0, 1, (0, 0, 0, 0, 0)), (.bipush 11, 2, (0, 0, 0, 11, 0)), (.newarray .int, 2, (0, 0, 0, 0, 0)), (.putfield 42, 3, (13, 15, 2194, 3, 0)), (.aload_n 0, 1, (0, 0, 0, 0, 0)), (.bipush 11, 2, (0, 0, 0, 11, 0)), (.newarray .int, 2, (0, 0, 0, 0, 0)), (.putfield 45, 3, (13, 16, 2195, 3, 0)), (.aload_n 0, 1, (0, 0, 0, 0, 0)), (.bipush 11, 2, (0, 0, 0, 11, 0)), (.newarray .int, 2, (0, 0, 0, 0, 0)), (.putfield 48, 3, (13, 17, 2196, 3, 0)), (.aload_n 0, 1, (0, 0, 0, 0, 0)), (.bipush 11, 2, (0, 0, 0, 11, 0)), (.newarray .int, 2, (0, 0, 0, 0, 0)), (.putfield 51, 3, (13, 18, 2197, 3, 0)), (.aload_n 0, 1, (0, 0, 0, 0, 0)), (.bipush 11, 2, (0, 0, 0, 11, 0)), (.newarray .int, 2, (0, 0, 0, 0, 0)), (.putfield 54, 3, (13, 19, 2198, 3, 0)), (.aload_n 0, 1, (0, 0, 0, 0, 0)), (.bipush 11, 2, (0, 0, 0, 11, 0)), (.newarray .int, 2, (0, 0, 0, 0, 0)), (.putfield 57, 3, (13, 20, 2199, 3, 0)), (.aload_n 0, 1, (0, 0, 0, 0, 0)), (.sipush 20480, 3, (0, 0, 0, 20480, 0)), (.newarray .int, 2, (0, 0, 0, 0, 0)), (.putfield 60, 3, (13, 21, 2200, 3, 0)), (.aload_n 0, 1, (0, 0, 0, 0, 0)), (.bipush 10, 2, (0, 0, 0, 10, 0)), (.newarray .int, 2, (0, 0, 0, 0, 0)), (.putfield 63, 3, (13, 22, 2201, 3, 0)), (.aload_n 0, 1, (0, 0, 0, 0, 0)), (.iconst 4, 1, (0, 0, 0, 4, 0)), (.newarray .int, 2, (0, 0, 0, 0, 0)), (.putfield 66, 3, (13, 28, 2210, 3, 0)), (.aload_n 0, 1, (0, 0, 0, 0, 0)), (.sipush 2048, 3, (0, 0, 0, 2048, 0)), (.newarray .int, 2, (0, 0, 0, 0, 0)), (.putfield 69, 3, (13, 30, 2214, 3, 0)), (.aload_n 0, 1, (0, 0, 0, 0, 0)), (.iconst 4, 1, (0, 0, 0, 4, 0)), (.newarray .int, 2, (0, 0, 0, 0, 0)), (.putfield 72, 3, (13, 33, 2220, 3, 0)), (.aload_n 0, 1, (0, 0, 0, 0, 0)), (.iconst 4, 1, (0, 0, 0, 4, 0)), (.newarray .int, 2, (0, 0, 0, 0, 0)), (.putfield 75, 3, (13, 34, 2222, 3, 0)), (.return_, 1, (0, 0, 0, 0, 0))]
theorem oo_MB_init_0 : jokL "ChessHouseModel$Board" lw_tbl jcl jtb 1 true prog_16_method_1_code 0 kk_MB_init_0 = true := by decide +kernel
noncomputable def k_MB_init_0 : List jI := [(.aload_n 0, 1, (0, 0, 0, 0, 0))]
theorem o_MB_init_0 : jokL "ChessHouseModel$Board" lw_tbl jcl jtb 1 true prog_16_method_1_code 0 k_MB_init_0 = true := jok_sub oo_MB_init_0 0 1 rfl rfl
noncomputable def k_MB_init_4 : List jI := [(.aload_n 0, 1, (0, 0, 0, 0, 0)), (.ldc 9, 2, (0, 0, 2169, 65536, 0))]
theorem o_MB_init_4 : jokL "ChessHouseModel$Board" lw_tbl jcl jtb 1 true prog_16_method_1_code 4 k_MB_init_4 = true := jok_sub oo_MB_init_0 2 2 rfl rfl
noncomputable def k_MB_init_9 : List jI := [(.putfield 10, 3, (13, 1, 2172, 3, 0)), (.aload_n 0, 1, (0, 0, 0, 0, 0)), (.bipush 64, 2, (0, 0, 0, 64, 0))]
theorem o_MB_init_9 : jokL "ChessHouseModel$Board" lw_tbl jcl jtb 1 true prog_16_method_1_code 9 k_MB_init_9 = true := jok_sub oo_MB_init_0 5 3 rfl rfl
noncomputable def k_MB_init_17 : List jI := [(.putfield 16, 3, (13, 2, 2174, 3, 0)), (.aload_n 0, 1, (0, 0, 0, 0, 0)), (.iconst (-1), 1, (0, 0, 0, (-1), 0)), (.putfield 20, 3, (13, 5, 2180, 0, 0)), (.aload_n 0, 1, (0, 0, 0, 0, 0)), (.sipush 19520, 3, (0, 0, 0, 19520, 0))]
theorem o_MB_init_17 : jokL "ChessHouseModel$Board" lw_tbl jcl jtb 1 true prog_16_method_1_code 17 k_MB_init_17 = true := jok_sub oo_MB_init_0 9 6 rfl rfl
noncomputable def k_MB_init_31 : List jI := [(.putfield 24, 3, (13, 9, 2188, 3, 0)), (.aload_n 0, 1, (0, 0, 0, 0, 0)), (.sipush 305, 3, (0, 0, 0, 305, 0))]
theorem o_MB_init_31 : jokL "ChessHouseModel$Board" lw_tbl jcl jtb 1 true prog_16_method_1_code 31 k_MB_init_31 = true := jok_sub oo_MB_init_0 16 3 rfl rfl
noncomputable def k_MB_init_40 : List jI := [(.putfield 27, 3, (13, 10, 2189, 3, 0)), (.aload_n 0, 1, (0, 0, 0, 0, 0)), (.sipush 305, 3, (0, 0, 0, 305, 0))]
theorem o_MB_init_40 : jokL "ChessHouseModel$Board" lw_tbl jcl jtb 1 true prog_16_method_1_code 40 k_MB_init_40 = true := jok_sub oo_MB_init_0 20 3 rfl rfl
noncomputable def k_MB_init_49 : List jI := [(.putfield 30, 3, (13, 11, 2190, 3, 0)), (.aload_n 0, 1, (0, 0, 0, 0, 0)), (.sipush 305, 3, (0, 0, 0, 305, 0))]
theorem o_MB_init_49 : jokL "ChessHouseModel$Board" lw_tbl jcl jtb 1 true prog_16_method_1_code 49 k_MB_init_49 = true := jok_sub oo_MB_init_0 24 3 rfl rfl
noncomputable def k_MB_init_58 : List jI := [(.putfield 33, 3, (13, 12, 2191, 3, 0)), (.aload_n 0, 1, (0, 0, 0, 0, 0)), (.sipush 305, 3, (0, 0, 0, 305, 0))]
theorem o_MB_init_58 : jokL "ChessHouseModel$Board" lw_tbl jcl jtb 1 true prog_16_method_1_code 58 k_MB_init_58 = true := jok_sub oo_MB_init_0 28 3 rfl rfl
noncomputable def k_MB_init_67 : List jI := [(.putfield 36, 3, (13, 13, 2192, 3, 0)), (.aload_n 0, 1, (0, 0, 0, 0, 0)), (.sipush 305, 3, (0, 0, 0, 305, 0))]
theorem o_MB_init_67 : jokL "ChessHouseModel$Board" lw_tbl jcl jtb 1 true prog_16_method_1_code 67 k_MB_init_67 = true := jok_sub oo_MB_init_0 32 3 rfl rfl
noncomputable def k_MB_init_76 : List jI := [(.putfield 39, 3, (13, 14, 2193, 3, 0)), (.aload_n 0, 1, (0, 0, 0, 0, 0)), (.bipush 11, 2, (0, 0, 0, 11, 0))]
theorem o_MB_init_76 : jokL "ChessHouseModel$Board" lw_tbl jcl jtb 1 true prog_16_method_1_code 76 k_MB_init_76 = true := jok_sub oo_MB_init_0 36 3 rfl rfl
noncomputable def k_MB_init_84 : List jI := [(.putfield 42, 3, (13, 15, 2194, 3, 0)), (.aload_n 0, 1, (0, 0, 0, 0, 0)), (.bipush 11, 2, (0, 0, 0, 11, 0))]
theorem o_MB_init_84 : jokL "ChessHouseModel$Board" lw_tbl jcl jtb 1 true prog_16_method_1_code 84 k_MB_init_84 = true := jok_sub oo_MB_init_0 40 3 rfl rfl
noncomputable def k_MB_init_92 : List jI := [(.putfield 45, 3, (13, 16, 2195, 3, 0)), (.aload_n 0, 1, (0, 0, 0, 0, 0)), (.bipush 11, 2, (0, 0, 0, 11, 0))]
theorem o_MB_init_92 : jokL "ChessHouseModel$Board" lw_tbl jcl jtb 1 true prog_16_method_1_code 92 k_MB_init_92 = true := jok_sub oo_MB_init_0 44 3 rfl rfl
noncomputable def k_MB_init_100 : List jI := [(.putfield 48, 3, (13, 17, 2196, 3, 0)), (.aload_n 0, 1, (0, 0, 0, 0, 0)), (.bipush 11, 2, (0, 0, 0, 11, 0))]
theorem o_MB_init_100 : jokL "ChessHouseModel$Board" lw_tbl jcl jtb 1 true prog_16_method_1_code 100 k_MB_init_100 = true := jok_sub oo_MB_init_0 48 3 rfl rfl
noncomputable def k_MB_init_108 : List jI := [(.putfield 51, 3, (13, 18, 2197, 3, 0)), (.aload_n 0, 1, (0, 0, 0, 0, 0)), (.bipush 11, 2, (0, 0, 0, 11, 0))]
theorem o_MB_init_108 : jokL "ChessHouseModel$Board" lw_tbl jcl jtb 1 true prog_16_method_1_code 108 k_MB_init_108 = true := jok_sub oo_MB_init_0 52 3 rfl rfl
noncomputable def k_MB_init_116 : List jI := [(.putfield 54, 3, (13, 19, 2198, 3, 0)), (.aload_n 0, 1, (0, 0, 0, 0, 0)), (.bipush 11, 2, (0, 0, 0, 11, 0))]
theorem o_MB_init_116 : jokL "ChessHouseModel$Board" lw_tbl jcl jtb 1 true prog_16_method_1_code 116 k_MB_init_116 = true := jok_sub oo_MB_init_0 56 3 rfl rfl
noncomputable def k_MB_init_124 : List jI := [(.putfield 57, 3, (13, 20, 2199, 3, 0)), (.aload_n 0, 1, (0, 0, 0, 0, 0)), (.sipush 20480, 3, (0, 0, 0, 20480, 0))]
theorem o_MB_init_124 : jokL "ChessHouseModel$Board" lw_tbl jcl jtb 1 true prog_16_method_1_code 124 k_MB_init_124 = true := jok_sub oo_MB_init_0 60 3 rfl rfl
noncomputable def k_MB_init_133 : List jI := [(.putfield 60, 3, (13, 21, 2200, 3, 0)), (.aload_n 0, 1, (0, 0, 0, 0, 0)), (.bipush 10, 2, (0, 0, 0, 10, 0))]
theorem o_MB_init_133 : jokL "ChessHouseModel$Board" lw_tbl jcl jtb 1 true prog_16_method_1_code 133 k_MB_init_133 = true := jok_sub oo_MB_init_0 64 3 rfl rfl
noncomputable def k_MB_init_141 : List jI := [(.putfield 63, 3, (13, 22, 2201, 3, 0)), (.aload_n 0, 1, (0, 0, 0, 0, 0)), (.iconst 4, 1, (0, 0, 0, 4, 0))]
theorem o_MB_init_141 : jokL "ChessHouseModel$Board" lw_tbl jcl jtb 1 true prog_16_method_1_code 141 k_MB_init_141 = true := jok_sub oo_MB_init_0 68 3 rfl rfl
noncomputable def k_MB_init_148 : List jI := [(.putfield 66, 3, (13, 28, 2210, 3, 0)), (.aload_n 0, 1, (0, 0, 0, 0, 0)), (.sipush 2048, 3, (0, 0, 0, 2048, 0))]
theorem o_MB_init_148 : jokL "ChessHouseModel$Board" lw_tbl jcl jtb 1 true prog_16_method_1_code 148 k_MB_init_148 = true := jok_sub oo_MB_init_0 72 3 rfl rfl
noncomputable def k_MB_init_157 : List jI := [(.putfield 69, 3, (13, 30, 2214, 3, 0)), (.aload_n 0, 1, (0, 0, 0, 0, 0)), (.iconst 4, 1, (0, 0, 0, 4, 0))]
theorem o_MB_init_157 : jokL "ChessHouseModel$Board" lw_tbl jcl jtb 1 true prog_16_method_1_code 157 k_MB_init_157 = true := jok_sub oo_MB_init_0 76 3 rfl rfl
noncomputable def k_MB_init_164 : List jI := [(.putfield 72, 3, (13, 33, 2220, 3, 0)), (.aload_n 0, 1, (0, 0, 0, 0, 0)), (.iconst 4, 1, (0, 0, 0, 4, 0))]
theorem o_MB_init_164 : jokL "ChessHouseModel$Board" lw_tbl jcl jtb 1 true prog_16_method_1_code 164 k_MB_init_164 = true := jok_sub oo_MB_init_0 80 3 rfl rfl
noncomputable def k_MB_init_171 : List jI := [(.putfield 75, 3, (13, 34, 2222, 3, 0))]
theorem o_MB_init_171 : jokL "ChessHouseModel$Board" lw_tbl jcl jtb 1 true prog_16_method_1_code 171 k_MB_init_171 = true := jok_sub oo_MB_init_0 84 1 rfl rfl
theorem d_MB_init_1 : decode prog_16_method_1_code 1 = .ok (.invokespecial 3, 3) := by decide +kernel
theorem d_MB_init_7 : decode prog_16_method_1_code 7 = .ok (.newarray .char, 2) := by decide +kernel
theorem d_MB_init_15 : decode prog_16_method_1_code 15 = .ok (.newarray .int, 2) := by decide +kernel
theorem d_MB_init_29 : decode prog_16_method_1_code 29 = .ok (.newarray .int, 2) := by decide +kernel
theorem d_MB_init_38 : decode prog_16_method_1_code 38 = .ok (.newarray .int, 2) := by decide +kernel
theorem d_MB_init_47 : decode prog_16_method_1_code 47 = .ok (.newarray .int, 2) := by decide +kernel
theorem d_MB_init_56 : decode prog_16_method_1_code 56 = .ok (.newarray .int, 2) := by decide +kernel
theorem d_MB_init_65 : decode prog_16_method_1_code 65 = .ok (.newarray .int, 2) := by decide +kernel
theorem d_MB_init_74 : decode prog_16_method_1_code 74 = .ok (.newarray .int, 2) := by decide +kernel
theorem d_MB_init_82 : decode prog_16_method_1_code 82 = .ok (.newarray .int, 2) := by decide +kernel
theorem d_MB_init_90 : decode prog_16_method_1_code 90 = .ok (.newarray .int, 2) := by decide +kernel
theorem d_MB_init_98 : decode prog_16_method_1_code 98 = .ok (.newarray .int, 2) := by decide +kernel
theorem d_MB_init_106 : decode prog_16_method_1_code 106 = .ok (.newarray .int, 2) := by decide +kernel
theorem d_MB_init_114 : decode prog_16_method_1_code 114 = .ok (.newarray .int, 2) := by decide +kernel
theorem d_MB_init_122 : decode prog_16_method_1_code 122 = .ok (.newarray .int, 2) := by decide +kernel
theorem d_MB_init_131 : decode prog_16_method_1_code 131 = .ok (.newarray .int, 2) := by decide +kernel
theorem d_MB_init_139 : decode prog_16_method_1_code 139 = .ok (.newarray .int, 2) := by decide +kernel
theorem d_MB_init_146 : decode prog_16_method_1_code 146 = .ok (.newarray .int, 2) := by decide +kernel
theorem d_MB_init_155 : decode prog_16_method_1_code 155 = .ok (.newarray .int, 2) := by decide +kernel
theorem d_MB_init_162 : decode prog_16_method_1_code 162 = .ok (.newarray .int, 2) := by decide +kernel
theorem d_MB_init_169 : decode prog_16_method_1_code 169 = .ok (.newarray .int, 2) := by decide +kernel
theorem d_MB_init_174 : decode prog_16_method_1_code 174 = .ok (.return_, 1) := by decide +kernel
noncomputable def y_MT_kind : jY := (⟨"ChessHouseModel$Texts", "kind", "(I)I"⟩, prog_18_method_3_code, 1, (some .int))
theorem m_MT_kind : jmth lw_tbl y_MT_kind 1 := ⟨jTA_in (wi := 1943) (jtF_ok rfl) rfl, jTA_in (wi := 315) (jtF_ok rfl) rfl, by decide, by decide, by decide +kernel⟩
theorem s_MT_kind : Jvm.Cond.static y_MT_kind.1 ∈ jTA lw_tbl := jTA_in (wi := 1942) (jtF_ok rfl) rfl
end
section
noncomputable def y_MT_sideOf : jY := (⟨"ChessHouseModel$Texts", "sideOf", "(I)I"⟩, prog_18_method_4_code, 1, (some .int))
theorem m_MT_sideOf : jmth lw_tbl y_MT_sideOf 1 := ⟨jTA_in (wi := 1965) (jtF_ok rfl) rfl, jTA_in (wi := 315) (jtF_ok rfl) rfl, by decide, by decide, by decide +kernel⟩
theorem s_MT_sideOf : Jvm.Cond.static y_MT_sideOf.1 ∈ jTA lw_tbl := jTA_in (wi := 1964) (jtF_ok rfl) rfl
noncomputable def y_MT_step : jY := (⟨"ChessHouseModel$Texts", "step", "(III)I"⟩, prog_18_method_5_code, 5, (some .int))
theorem m_MT_step : jmth lw_tbl y_MT_step 3 := ⟨jTA_in (wi := 1954) (jtF_ok rfl) rfl, jTA_in (wi := 315) (jtF_ok rfl) rfl, by decide, by decide, by decide +kernel⟩
theorem s_MT_step : Jvm.Cond.static y_MT_step.1 ∈ jTA lw_tbl := jTA_in (wi := 1953) (jtF_ok rfl) rfl
noncomputable def y_MT_stands : jY := (⟨"ChessHouseModel$Texts", "stands", "(II)Z"⟩, prog_18_method_6_code, 3, (some .boolean))
theorem m_MT_stands : jmth lw_tbl y_MT_stands 2 := ⟨jTA_in (wi := 1958) (jtF_ok rfl) rfl, jTA_in (wi := 315) (jtF_ok rfl) rfl, by decide, by decide, by decide +kernel⟩
theorem i_MT_stands : Jvm.Cond.instanceMethod y_MT_stands.1 ∈ jTA lw_tbl := jTA_in (wi := 1957) (jtF_ok rfl) rfl
theorem e_MT_stands : Jvm.Cond.selects y_MT_stands.1.cls y_MT_stands.1 y_MT_stands.1 ∈ jTA lw_tbl := jTA_in (wi := 114) (jtF_ok rfl) rfl
noncomputable def y_MT_met : jY := (⟨"ChessHouseModel$Texts", "met", "(III)I"⟩, prog_18_method_7_code, 5, (some .int))
theorem m_MT_met : jmth lw_tbl y_MT_met 3 := ⟨jTA_in (wi := 1989) (jtF_ok rfl) rfl, jTA_in (wi := 315) (jtF_ok rfl) rfl, by decide, by decide, by decide +kernel⟩
theorem i_MT_met : Jvm.Cond.instanceMethod y_MT_met.1 ∈ jTA lw_tbl := jTA_in (wi := 1988) (jtF_ok rfl) rfl
theorem e_MT_met : Jvm.Cond.selects y_MT_met.1.cls y_MT_met.1 y_MT_met.1 ∈ jTA lw_tbl := jTA_in (wi := 121) (jtF_ok rfl) rfl
noncomputable def y_MT_isAttacked : jY := (⟨"ChessHouseModel$Texts", "isAttacked", "(II)Z"⟩, prog_18_method_8_code, 10, (some .boolean))
theorem m_MT_isAttacked : jmth lw_tbl y_MT_isAttacked 2 := ⟨jTA_in (wi := 1985) (jtF_ok rfl) rfl, jTA_in (wi := 315) (jtF_ok rfl) rfl, by decide, by decide, by decide +kernel⟩
theorem i_MT_isAttacked : Jvm.Cond.instanceMethod y_MT_isAttacked.1 ∈ jTA lw_tbl := jTA_in (wi := 1984) (jtF_ok rfl) rfl
theorem e_MT_isAttacked : Jvm.Cond.selects y_MT_isAttacked.1.cls y_MT_isAttacked.1 y_MT_isAttacked.1 ∈ jTA lw_tbl := jTA_in (wi := 120) (jtF_ok rfl) rfl
noncomputable def y_MT_kingOf : jY := (⟨"ChessHouseModel$Texts", "kingOf", "(I)I"⟩, prog_18_method_9_code, 4, (some .int))
theorem m_MT_kingOf : jmth lw_tbl y_MT_kingOf 1 := ⟨jTA_in (wi := 2005) (jtF_ok rfl) rfl, jTA_in (wi := 315) (jtF_ok rfl) rfl, by decide, by decide, by decide +kernel⟩
theorem i_MT_kingOf : Jvm.Cond.instanceMethod y_MT_kingOf.1 ∈ jTA lw_tbl := jTA_in (wi := 2004) (jtF_ok rfl) rfl
theorem e_MT_kingOf : Jvm.Cond.selects y_MT_kingOf.1.cls y_MT_kingOf.1 y_MT_kingOf.1 ∈ jTA lw_tbl := jTA_in (wi := 125) (jtF_ok rfl) rfl
noncomputable def y_MT_isInCheck : jY := (⟨"ChessHouseModel$Texts", "isInCheck", "(I)Z"⟩, prog_18_method_10_code, 2, (some .boolean))
theorem m_MT_isInCheck : jmth lw_tbl y_MT_isInCheck 1 := ⟨jTA_in (wi := 2001) (jtF_ok rfl) rfl, jTA_in (wi := 315) (jtF_ok rfl) rfl, by decide, by decide, by decide +kernel⟩
theorem i_MT_isInCheck : Jvm.Cond.instanceMethod y_MT_isInCheck.1 ∈ jTA lw_tbl := jTA_in (wi := 2000) (jtF_ok rfl) rfl
theorem e_MT_isInCheck : Jvm.Cond.selects y_MT_isInCheck.1.cls y_MT_isInCheck.1 y_MT_isInCheck.1 ∈ jTA lw_tbl := jTA_in (wi := 124) (jtF_ok rfl) rfl
noncomputable def y_MT_keep : jY := (⟨"ChessHouseModel$Texts", "keep", "()V"⟩, prog_18_method_11_code, 2, none)
theorem m_MT_keep : jmth lw_tbl y_MT_keep 0 := ⟨jTA_in (wi := 1997) (jtF_ok rfl) rfl, jTA_in (wi := 315) (jtF_ok rfl) rfl, by decide, by decide, by decide +kernel⟩
theorem i_MT_keep : Jvm.Cond.instanceMethod y_MT_keep.1 ∈ jTA lw_tbl := jTA_in (wi := 1996) (jtF_ok rfl) rfl
theorem e_MT_keep : Jvm.Cond.selects y_MT_keep.1.cls y_MT_keep.1 y_MT_keep.1 ∈ jTA lw_tbl := jTA_in (wi := 123) (jtF_ok rfl) rfl
noncomputable def y_MT_bringBack : jY := (⟨"ChessHouseModel$Texts", "bringBack", "()V"⟩, prog_18_method_12_code, 2, none)
theorem m_MT_bringBack : jmth lw_tbl y_MT_bringBack 0 := ⟨jTA_in (wi := 2009) (jtF_ok rfl) rfl, jTA_in (wi := 315) (jtF_ok rfl) rfl, by decide, by decide, by decide +kernel⟩
theorem i_MT_bringBack : Jvm.Cond.instanceMethod y_MT_bringBack.1 ∈ jTA lw_tbl := jTA_in (wi := 2008) (jtF_ok rfl) rfl
theorem e_MT_bringBack : Jvm.Cond.selects y_MT_bringBack.1.cls y_MT_bringBack.1 y_MT_bringBack.1 ∈ jTA lw_tbl := jTA_in (wi := 126) (jtF_ok rfl) rfl
noncomputable def y_MT_lose : jY := (⟨"ChessHouseModel$Texts", "lose", "(I)V"⟩, prog_18_method_13_code, 3, none)
theorem m_MT_lose : jmth lw_tbl y_MT_lose 1 := ⟨jTA_in (wi := 1951) (jtF_ok rfl) rfl, jTA_in (wi := 315) (jtF_ok rfl) rfl, by decide, by decide, by decide +kernel⟩
theorem i_MT_lose : Jvm.Cond.instanceMethod y_MT_lose.1 ∈ jTA lw_tbl := jTA_in (wi := 1950) (jtF_ok rfl) rfl
theorem e_MT_lose : Jvm.Cond.selects y_MT_lose.1.cls y_MT_lose.1 y_MT_lose.1 ∈ jTA lw_tbl := jTA_in (wi := 113) (jtF_ok rfl) rfl
noncomputable def y_MT_isTaking : jY := (⟨"ChessHouseModel$Texts", "isTaking", "(I)Z"⟩, prog_18_method_14_code, 4, (some .boolean))
theorem m_MT_isTaking : jmth lw_tbl y_MT_isTaking 1 := ⟨jTA_in (wi := 1947) (jtF_ok rfl) rfl, jTA_in (wi := 315) (jtF_ok rfl) rfl, by decide, by decide, by decide +kernel⟩
theorem i_MT_isTaking : Jvm.Cond.instanceMethod y_MT_isTaking.1 ∈ jTA lw_tbl := jTA_in (wi := 1946) (jtF_ok rfl) rfl
theorem e_MT_isTaking : Jvm.Cond.selects y_MT_isTaking.1.cls y_MT_isTaking.1 y_MT_isTaking.1 ∈ jTA lw_tbl := jTA_in (wi := 112) (jtF_ok rfl) rfl
noncomputable def y_MT_make : jY := (⟨"ChessHouseModel$Texts", "make", "(I)V"⟩, prog_18_method_15_code, 8, none)
theorem m_MT_make : jmth lw_tbl y_MT_make 1 := ⟨jTA_in (wi := 1940) (jtF_ok rfl) rfl, jTA_in (wi := 315) (jtF_ok rfl) rfl, by decide, by decide, by decide +kernel⟩
theorem i_MT_make : Jvm.Cond.instanceMethod y_MT_make.1 ∈ jTA lw_tbl := jTA_in (wi := 1939) (jtF_ok rfl) rfl
theorem e_MT_make : Jvm.Cond.selects y_MT_make.1.cls y_MT_make.1 y_MT_make.1 ∈ jTA lw_tbl := jTA_in (wi := 111) (jtF_ok rfl) rfl
noncomputable def y_MT_isSafe : jY := (⟨"ChessHouseModel$Texts", "isSafe", "(I)Z"⟩, prog_18_method_16_code, 3, (some .boolean))
theorem m_MT_isSafe : jmth lw_tbl y_MT_isSafe 1 := ⟨jTA_in (wi := 1993) (jtF_ok rfl) rfl, jTA_in (wi := 315) (jtF_ok rfl) rfl, by decide, by decide, by decide +kernel⟩
theorem i_MT_isSafe : Jvm.Cond.instanceMethod y_MT_isSafe.1 ∈ jTA lw_tbl := jTA_in (wi := 1992) (jtF_ok rfl) rfl
theorem e_MT_isSafe : Jvm.Cond.selects y_MT_isSafe.1.cls y_MT_isSafe.1 y_MT_isSafe.1 ∈ jTA lw_tbl := jTA_in (wi := 122) (jtF_ok rfl) rfl
noncomputable def y_MT_isClear : jY := (⟨"ChessHouseModel$Texts", "isClear", "(II)Z"⟩, prog_18_method_17_code, 5, (some .boolean))
theorem m_MT_isClear : jmth lw_tbl y_MT_isClear 2 := ⟨jTA_in (wi := 1981) (jtF_ok rfl) rfl, jTA_in (wi := 315) (jtF_ok rfl) rfl, by decide, by decide, by decide +kernel⟩
theorem i_MT_isClear : Jvm.Cond.instanceMethod y_MT_isClear.1 ∈ jTA lw_tbl := jTA_in (wi := 1980) (jtF_ok rfl) rfl
theorem e_MT_isClear : Jvm.Cond.selects y_MT_isClear.1.cls y_MT_isClear.1 y_MT_isClear.1 ∈ jTA lw_tbl := jTA_in (wi := 119) (jtF_ok rfl) rfl
noncomputable def y_MT_mayCastle : jY := (⟨"ChessHouseModel$Texts", "mayCastle", "(I)Z"⟩, prog_18_method_18_code, 6, (some .boolean))
theorem m_MT_mayCastle : jmth lw_tbl y_MT_mayCastle 1 := ⟨jTA_in (wi := 1977) (jtF_ok rfl) rfl, jTA_in (wi := 315) (jtF_ok rfl) rfl, by decide, by decide, by decide +kernel⟩
theorem i_MT_mayCastle : Jvm.Cond.instanceMethod y_MT_mayCastle.1 ∈ jTA lw_tbl := jTA_in (wi := 1976) (jtF_ok rfl) rfl
theorem e_MT_mayCastle : Jvm.Cond.selects y_MT_mayCastle.1.cls y_MT_mayCastle.1 y_MT_mayCastle.1 ∈ jTA lw_tbl := jTA_in (wi := 118) (jtF_ok rfl) rfl
end
section
noncomputable def y_MT_pawnGoes : jY := (⟨"ChessHouseModel$Texts", "pawnGoes", "(II)Z"⟩, prog_18_method_19_code, 5, (some .boolean))
theorem m_MT_pawnGoes : jmth lw_tbl y_MT_pawnGoes 2 := ⟨jTA_in (wi := 1973) (jtF_ok rfl) rfl, jTA_in (wi := 315) (jtF_ok rfl) rfl, by decide, by decide, by decide +kernel⟩
theorem i_MT_pawnGoes : Jvm.Cond.instanceMethod y_MT_pawnGoes.1 ∈ jTA lw_tbl := jTA_in (wi := 1972) (jtF_ok rfl) rfl
theorem e_MT_pawnGoes : Jvm.Cond.selects y_MT_pawnGoes.1.cls y_MT_pawnGoes.1 y_MT_pawnGoes.1 ∈ jTA lw_tbl := jTA_in (wi := 117) (jtF_ok rfl) rfl
noncomputable def y_MT_goes : jY := (⟨"ChessHouseModel$Texts", "goes", "(II)Z"⟩, prog_18_method_20_code, 11, (some .boolean))
theorem m_MT_goes : jmth lw_tbl y_MT_goes 2 := ⟨jTA_in (wi := 1969) (jtF_ok rfl) rfl, jTA_in (wi := 315) (jtF_ok rfl) rfl, by decide, by decide, by decide +kernel⟩
theorem i_MT_goes : Jvm.Cond.instanceMethod y_MT_goes.1 ∈ jTA lw_tbl := jTA_in (wi := 1968) (jtF_ok rfl) rfl
theorem e_MT_goes : Jvm.Cond.selects y_MT_goes.1.cls y_MT_goes.1 y_MT_goes.1 ∈ jTA lw_tbl := jTA_in (wi := 116) (jtF_ok rfl) rfl
noncomputable def y_MT_findMoves : jY := (⟨"ChessHouseModel$Texts", "findMoves", "()V"⟩, prog_18_method_21_code, 6, none)
theorem m_MT_findMoves : jmth lw_tbl y_MT_findMoves 0 := ⟨jTA_in (wi := 1962) (jtF_ok rfl) rfl, jTA_in (wi := 315) (jtF_ok rfl) rfl, by decide, by decide, by decide +kernel⟩
theorem i_MT_findMoves : Jvm.Cond.instanceMethod y_MT_findMoves.1 ∈ jTA lw_tbl := jTA_in (wi := 1961) (jtF_ok rfl) rfl
theorem e_MT_findMoves : Jvm.Cond.selects y_MT_findMoves.1.cls y_MT_findMoves.1 y_MT_findMoves.1 ∈ jTA lw_tbl := jTA_in (wi := 115) (jtF_ok rfl) rfl
noncomputable def y_MT_clearNode : jY := (⟨"ChessHouseModel$Texts", "clearNode", "(I)V"⟩, prog_18_method_23_code, 2, none)
theorem m_MT_clearNode : jmth lw_tbl y_MT_clearNode 1 := ⟨jTA_in (wi := 1924) (jtF_ok rfl) rfl, jTA_in (wi := 315) (jtF_ok rfl) rfl, by decide, by decide, by decide +kernel⟩
theorem i_MT_clearNode : Jvm.Cond.instanceMethod y_MT_clearNode.1 ∈ jTA lw_tbl := jTA_in (wi := 1923) (jtF_ok rfl) rfl
theorem e_MT_clearNode : Jvm.Cond.selects y_MT_clearNode.1.cls y_MT_clearNode.1 y_MT_clearNode.1 ∈ jTA lw_tbl := jTA_in (wi := 107) (jtF_ok rfl) rfl
noncomputable def y_MT_clearGame : jY := (⟨"ChessHouseModel$Texts", "clearGame", "(I)V"⟩, prog_18_method_22_code, 2, none)
theorem m_MT_clearGame : jmth lw_tbl y_MT_clearGame 1 := ⟨jTA_in (wi := 1920) (jtF_ok rfl) rfl, jTA_in (wi := 315) (jtF_ok rfl) rfl, by decide, by decide, by decide +kernel⟩
theorem i_MT_clearGame : Jvm.Cond.instanceMethod y_MT_clearGame.1 ∈ jTA lw_tbl := jTA_in (wi := 1919) (jtF_ok rfl) rfl
theorem e_MT_clearGame : Jvm.Cond.selects y_MT_clearGame.1.cls y_MT_clearGame.1 y_MT_clearGame.1 ∈ jTA lw_tbl := jTA_in (wi := 106) (jtF_ok rfl) rfl
noncomputable def y_MT_start : jY := (⟨"ChessHouseModel$Texts", "start", "(I)V"⟩, prog_18_method_25_code, 3, none)
theorem m_MT_start : jmth lw_tbl y_MT_start 1 := ⟨jTA_in (wi := 1932) (jtF_ok rfl) rfl, jTA_in (wi := 315) (jtF_ok rfl) rfl, by decide, by decide, by decide +kernel⟩
theorem i_MT_start : Jvm.Cond.instanceMethod y_MT_start.1 ∈ jTA lw_tbl := jTA_in (wi := 1931) (jtF_ok rfl) rfl
theorem e_MT_start : Jvm.Cond.selects y_MT_start.1.cls y_MT_start.1 y_MT_start.1 ∈ jTA lw_tbl := jTA_in (wi := 109) (jtF_ok rfl) rfl
noncomputable def y_MT_usual : jY := (⟨"ChessHouseModel$Texts", "usual", "(I)V"⟩, prog_18_method_24_code, 4, none)
theorem m_MT_usual : jmth lw_tbl y_MT_usual 1 := ⟨jTA_in (wi := 1928) (jtF_ok rfl) rfl, jTA_in (wi := 315) (jtF_ok rfl) rfl, by decide, by decide, by decide +kernel⟩
theorem i_MT_usual : Jvm.Cond.instanceMethod y_MT_usual.1 ∈ jTA lw_tbl := jTA_in (wi := 1927) (jtF_ok rfl) rfl
theorem e_MT_usual : Jvm.Cond.selects y_MT_usual.1.cls y_MT_usual.1 y_MT_usual.1 ∈ jTA lw_tbl := jTA_in (wi := 108) (jtF_ok rfl) rfl
noncomputable def y_MT_place : jY := (⟨"ChessHouseModel$Texts", "place", "(II)V"⟩, prog_18_method_26_code, 5, none)
theorem m_MT_place : jmth lw_tbl y_MT_place 2 := ⟨jTA_in (wi := 1936) (jtF_ok rfl) rfl, jTA_in (wi := 315) (jtF_ok rfl) rfl, by decide, by decide, by decide +kernel⟩
theorem i_MT_place : Jvm.Cond.instanceMethod y_MT_place.1 ∈ jTA lw_tbl := jTA_in (wi := 1935) (jtF_ok rfl) rfl
theorem e_MT_place : Jvm.Cond.selects y_MT_place.1.cls y_MT_place.1 y_MT_place.1 ∈ jTA lw_tbl := jTA_in (wi := 110) (jtF_ok rfl) rfl
noncomputable def y_MT_init : jY := (⟨"ChessHouseModel$Texts", "<init>", "()V"⟩, prog_18_method_1_code, 1, none)
theorem m_MT_init : jmth lw_tbl y_MT_init 0 := ⟨jTA_in (wi := 1912) (jtF_ok rfl) rfl, jTA_in (wi := 315) (jtF_ok rfl) rfl, by decide, by decide, by decide +kernel⟩
theorem i_MT_init : Jvm.Cond.instanceMethod y_MT_init.1 ∈ jTA lw_tbl := jTA_in (wi := 1911) (jtF_ok rfl) rfl
noncomputable def kk_MT_init_0 : List jI := [(.aload_n 0, 1, (0, 0, 0, 0, 0)), (.invokespecial 1, 3, (0, 0, 0, 0, 0)), (.aload_n 0, 1, (0, 0, 0, 0, 0)), (.ldc 7, 2, (0, 0, 1914, 65536, 0)), (.newarray .char, 2, (0, 0, 0, 0, 0)), (.putfield 8, 3, (12, 2, 2014, 3, 0)), (.aload_n 0, 1, (0, 0, 0, 0, 0)), (.ldc 14, 2, (0, 0, 1915, 80000, 0)), (.newarray .char, 2, (0, 0, 0, 0, 0)), (.putfield 15, 3, (12, 4, 2017, 3, 0)), (.aload_n 0, 1, (0, 0, 0, 0, 0)), (.iconst 2, 1, (0, 0, 0, 2, 0)), (.newarray .int, 2, (0, 0, 0, 0, 0)), (.putfield 18, 3, (12, 7, 2023, 3, 0)), (.aload_n 0, 1, (0, 0, 0, 0, 0)), (.sipush 602, 3, (0, 0, 0, 602, 0)), (.newarray .int, 2, (0, 0, 0, 0, 0)), (.putfield 22, 3, (12, 8, 2025, 3, 0)), (.aload_n 0, 1, (0, 0, 0, 0, 0)), (.sipush 602, 3, (0, 0, 0, 602, 0)), (.newarray .int, 2, (0, 0, 0, 0, 0)), (.putfield 25, 3, (12, 9, 2027, 3, 0)), (.aload_n 0, 1, (0, 0, 0, 0, 0)), (.sipush 602, 3, (0, 0, 0, 602, 0)), (.newarray .int, 2, (0, 0, 0, 0, 0)), (.putfield 28, 3, (12, 10, 2029, 3, 0)), (.aload_n 0, 1, (0, 0, 0, 0, 0)), (.sipush 602, 3, (0, 0, 0, 602, 0)), (.newarray .int, 2, (0, 0, 0, 0, 0)), (.putfield 31, 3, (12, 11, 2031, 3, 0)), (.aload_n 0, 1, (0, 0, 0, 0, 0)), (.sipush 602, 3, (0, 0, 0, 602, 0)), (.newarray .int, 2, (0, 0, 0, 0, 0)), (.putfield 34, 3, (12, 12, 2033, 3, 0)), (.aload_n 0, 1, (0, 0, 0, 0, 0)), (.sipush 2408, 3, (0, 0, 0, 2408, 0)), (.newarray .int, 2, (0, 0, 0, 0, 0)), (.putfield 37, 3, (12, 13, 2034, 3, 0)), (.aload_n 0, 1, (0, 0, 0, 0, 0)), (.sipush 602, 3, (0, 0, 0, 602, 0)), (.newarray .int, 2, (0, 0, 0, 0, 0)), (.putfield 40, 3, (12, 14, 2035, 3, 0)), (.aload_n 0, 1, (0, 0, 0, 0, 0)), (.ldc 43, 2, (0, 0, 1916, 120400, 0)), (.newarray .char, 2, (0, 0, 0, 0, 0)), (.putfield 44, 3, (12, 15, 2037, 3, 0)), (.aload_n 0, 1, (0, 0, 0, 0, 0)), (.sipush 128, 3, (0, 0, 0, 128, 0)), (.newarray .int, 2, (0, 0, 0, 0, 0)), (.putfield 47, 3, (12, 16, 2039, 3, 0)), (.aload_n 0, 1, (0, 0, 0, 0, 0)), (.bipush 10, 2, (0, 0, 0, 10, 0)), (.newarray .int, 2, (0, 0, 0, 0, 0)), (.putfield 50, 3, (12, 17, 2041, 3, 0)), (.aload_n 0, 1, (0, 0, 0, 0, 0)), (.iconst 2, 1, (0, 0, 0, 2, 0)), (.newarray .int, 2, (0, 0, 0, 0, 0)), (.putfield 53, 3, (12, 18, 2043, 3, 0)), (.aload_n 0, 1, (0, 0, 0, 0, 0)), (.bipush 16, 2, (0, 0, 0, 16, 0)), (.newarray .int, 2, (0, 0, 0, 0, 0)), (.putfield 56, 3, (12, 19, 2045, 3, 0)), (.aload_n 0, 1, (0, 0, 0, 0, 0)), (.sipush 192, 3, (0, 0, 0, 192, 0)), (.newarray .char, 2, (0, 0, 0, 0, 0)), (.putfield 59, 3, (12, 20, 2047, 3, 0)), (.aload_n 0, 1, (0, 0, 0, 0, 0)), (.bipush 16, 2, (0, 0, 0, 16, 0)), (.newarray .int, 2, (0, 0, 0, 0, 0)), (.putfield 62, 3, (12, 21, 2049, 3, 0)), (.aload_n 0, 1, (0, 0, 0, 0, 0)), (.sipush 1536, 3, (0, 0, 0, 1536, 0)), (.newarray .char, 2, (0, 0, 0, 0, 0)), (.putfield 65, 3, (12, 22, 2051, 3, 0)), (.aload_n 0, 1, (0, 0, 0, 0, 0)), (.iconst 2, 1, (0, 0, 0, 2, 0)), (.newarray .int, 2, (0, 0, 0, 0, 0)), (.putfield 68, 3, (12, 23, 2053, 3, 0)), (.aload_n 0, 1, (0, 0, 0, 0, 0)), (.bipush 64, 2, (0, 0, 0, 64, 0)), (.newarray .int, 2, (0, 0, 0, 0, 0)), (.putfield 71, 3, (12, 24, 2055, 3, 0)), (.aload_n 0, 1, (0, 0, 0, 0, 0)), (.bipush 64, 2, (0, 0, 0, 64, 0)), (.newarray .int, 2, (0, 0, 0, 0, 0)), (.putfield 74, 3, (12, 30, 2067, 3, 0)), (.aload_n 0, 1, (0, 0, 0, 0, 0)), (.iconst 5, 1, (0, 0, 0, 5, 0)), (.newarray .int, 2, (0, 0, 0, 0, 0)), (.putfield 77, 3, (12, 31, 2068, 3, 0)), (.aload_n 0, 1, (0, 0, 0, 0, 0)), (.sipush 2048, 3, (0, 0, 0, 2048, 0)), (.newarray .int, 2, (0, 0, 0, 0, 0)), (.putfield 80, 3, (12, 32, 2069, 3, 0)), (.aload_n 0, 1, (0, 0, 0, 0, 0)), (.sipush 301, 3, (0, 0, 0, 301, 0)), (.newarray .int, 2, (0, 0, 0, 0, 0)), (.putfield 83, 3, (12, 34, 2073, 3, 0)), (.aload_n 0, 1, (0, 0, 0, 0, 0)), (.bipush 16, 2, (0, 0, 0, 16, 0)), (.newarray .char, 2, (0, 0, 0, 0, 0))]
theorem oo_MT_init_0 : jokL "ChessHouseModel$Texts" lw_tbl jcl jtb 1 true prog_18_method_1_code 0 kk_MT_init_0 = true := by decide +kernel
noncomputable def kk_MT_init_209 : List jI := [(.putfield 86, 3, (12, 35, 2074, 3, 0)), (.aload_n 0, 1, (0, 0, 0, 0, 0)), (.iconst 0, 1, (0, 0, 0, 0, 0)), (.invokevirtual 89, 3, (0, 0, 0, 0, 0)), (.aload_n 0, 1, (0, 0, 0, 0, 0)), (.iconst 0, 1, (0, 0, 0, 0, 0)), (.invokevirtual 93, 3, (0, 0, 0, 0, 0)), (.aload_n 0, 1, (0, 0, 0, 0, 0)), (.iconst 0, 1, (0, 0, 0, 0, 0)), (.iconst 0, 1, (0, 0, 0, 0, 0)), (.invokevirtual 96, 3, (0, 0, 0, 0, 0)), (.return_, 1, (0, 0, 0, 0, 0))]
theorem oo_MT_init_209 : jokL "ChessHouseModel$Texts" lw_tbl jcl jtb 1 true prog_18_method_1_code 209 kk_MT_init_209 = true := by decide +kernel
noncomputable def k_MT_init_0 : List jI := [(.aload_n 0, 1, (0, 0, 0, 0, 0))]
theorem o_MT_init_0 : jokL "ChessHouseModel$Texts" lw_tbl jcl jtb 1 true prog_18_method_1_code 0 k_MT_init_0 = true := jok_sub oo_MT_init_0 0 1 rfl rfl
noncomputable def k_MT_init_4 : List jI := [(.aload_n 0, 1, (0, 0, 0, 0, 0)), (.ldc 7, 2, (0, 0, 1914, 65536, 0))]
theorem o_MT_init_4 : jokL "ChessHouseModel$Texts" lw_tbl jcl jtb 1 true prog_18_method_1_code 4 k_MT_init_4 = true := jok_sub oo_MT_init_0 2 2 rfl rfl
noncomputable def k_MT_init_9 : List jI := [(.putfield 8, 3, (12, 2, 2014, 3, 0)), (.aload_n 0, 1, (0, 0, 0, 0, 0)), (.ldc 14, 2, (0, 0, 1915, 80000, 0))]
theorem o_MT_init_9 : jokL "ChessHouseModel$Texts" lw_tbl jcl jtb 1 true prog_18_method_1_code 9 k_MT_init_9 = true := jok_sub oo_MT_init_0 5 3 rfl rfl
noncomputable def k_MT_init_17 : List jI := [(.putfield 15, 3, (12, 4, 2017, 3, 0)), (.aload_n 0, 1, (0, 0, 0, 0, 0)), (.iconst 2, 1, (0, 0, 0, 2, 0))]
theorem o_MT_init_17 : jokL "ChessHouseModel$Texts" lw_tbl jcl jtb 1 true prog_18_method_1_code 17 k_MT_init_17 = true := jok_sub oo_MT_init_0 9 3 rfl rfl
noncomputable def k_MT_init_24 : List jI := [(.putfield 18, 3, (12, 7, 2023, 3, 0)), (.aload_n 0, 1, (0, 0, 0, 0, 0)), (.sipush 602, 3, (0, 0, 0, 602, 0))]
theorem o_MT_init_24 : jokL "ChessHouseModel$Texts" lw_tbl jcl jtb 1 true prog_18_method_1_code 24 k_MT_init_24 = true := jok_sub oo_MT_init_0 13 3 rfl rfl
noncomputable def k_MT_init_33 : List jI := [(.putfield 22, 3, (12, 8, 2025, 3, 0)), (.aload_n 0, 1, (0, 0, 0, 0, 0)), (.sipush 602, 3, (0, 0, 0, 602, 0))]
theorem o_MT_init_33 : jokL "ChessHouseModel$Texts" lw_tbl jcl jtb 1 true prog_18_method_1_code 33 k_MT_init_33 = true := jok_sub oo_MT_init_0 17 3 rfl rfl
noncomputable def k_MT_init_42 : List jI := [(.putfield 25, 3, (12, 9, 2027, 3, 0)), (.aload_n 0, 1, (0, 0, 0, 0, 0)), (.sipush 602, 3, (0, 0, 0, 602, 0))]
theorem o_MT_init_42 : jokL "ChessHouseModel$Texts" lw_tbl jcl jtb 1 true prog_18_method_1_code 42 k_MT_init_42 = true := jok_sub oo_MT_init_0 21 3 rfl rfl
noncomputable def k_MT_init_51 : List jI := [(.putfield 28, 3, (12, 10, 2029, 3, 0)), (.aload_n 0, 1, (0, 0, 0, 0, 0)), (.sipush 602, 3, (0, 0, 0, 602, 0))]
theorem o_MT_init_51 : jokL "ChessHouseModel$Texts" lw_tbl jcl jtb 1 true prog_18_method_1_code 51 k_MT_init_51 = true := jok_sub oo_MT_init_0 25 3 rfl rfl
noncomputable def k_MT_init_60 : List jI := [(.putfield 31, 3, (12, 11, 2031, 3, 0)), (.aload_n 0, 1, (0, 0, 0, 0, 0)), (.sipush 602, 3, (0, 0, 0, 602, 0))]
theorem o_MT_init_60 : jokL "ChessHouseModel$Texts" lw_tbl jcl jtb 1 true prog_18_method_1_code 60 k_MT_init_60 = true := jok_sub oo_MT_init_0 29 3 rfl rfl
noncomputable def k_MT_init_69 : List jI := [(.putfield 34, 3, (12, 12, 2033, 3, 0)), (.aload_n 0, 1, (0, 0, 0, 0, 0)), (.sipush 2408, 3, (0, 0, 0, 2408, 0))]
theorem o_MT_init_69 : jokL "ChessHouseModel$Texts" lw_tbl jcl jtb 1 true prog_18_method_1_code 69 k_MT_init_69 = true := jok_sub oo_MT_init_0 33 3 rfl rfl
noncomputable def k_MT_init_78 : List jI := [(.putfield 37, 3, (12, 13, 2034, 3, 0)), (.aload_n 0, 1, (0, 0, 0, 0, 0)), (.sipush 602, 3, (0, 0, 0, 602, 0))]
theorem o_MT_init_78 : jokL "ChessHouseModel$Texts" lw_tbl jcl jtb 1 true prog_18_method_1_code 78 k_MT_init_78 = true := jok_sub oo_MT_init_0 37 3 rfl rfl
noncomputable def k_MT_init_87 : List jI := [(.putfield 40, 3, (12, 14, 2035, 3, 0)), (.aload_n 0, 1, (0, 0, 0, 0, 0)), (.ldc 43, 2, (0, 0, 1916, 120400, 0))]
theorem o_MT_init_87 : jokL "ChessHouseModel$Texts" lw_tbl jcl jtb 1 true prog_18_method_1_code 87 k_MT_init_87 = true := jok_sub oo_MT_init_0 41 3 rfl rfl
noncomputable def k_MT_init_95 : List jI := [(.putfield 44, 3, (12, 15, 2037, 3, 0)), (.aload_n 0, 1, (0, 0, 0, 0, 0)), (.sipush 128, 3, (0, 0, 0, 128, 0))]
theorem o_MT_init_95 : jokL "ChessHouseModel$Texts" lw_tbl jcl jtb 1 true prog_18_method_1_code 95 k_MT_init_95 = true := jok_sub oo_MT_init_0 45 3 rfl rfl
noncomputable def k_MT_init_104 : List jI := [(.putfield 47, 3, (12, 16, 2039, 3, 0)), (.aload_n 0, 1, (0, 0, 0, 0, 0)), (.bipush 10, 2, (0, 0, 0, 10, 0))]
theorem o_MT_init_104 : jokL "ChessHouseModel$Texts" lw_tbl jcl jtb 1 true prog_18_method_1_code 104 k_MT_init_104 = true := jok_sub oo_MT_init_0 49 3 rfl rfl
noncomputable def k_MT_init_112 : List jI := [(.putfield 50, 3, (12, 17, 2041, 3, 0)), (.aload_n 0, 1, (0, 0, 0, 0, 0)), (.iconst 2, 1, (0, 0, 0, 2, 0))]
theorem o_MT_init_112 : jokL "ChessHouseModel$Texts" lw_tbl jcl jtb 1 true prog_18_method_1_code 112 k_MT_init_112 = true := jok_sub oo_MT_init_0 53 3 rfl rfl
noncomputable def k_MT_init_119 : List jI := [(.putfield 53, 3, (12, 18, 2043, 3, 0)), (.aload_n 0, 1, (0, 0, 0, 0, 0)), (.bipush 16, 2, (0, 0, 0, 16, 0))]
theorem o_MT_init_119 : jokL "ChessHouseModel$Texts" lw_tbl jcl jtb 1 true prog_18_method_1_code 119 k_MT_init_119 = true := jok_sub oo_MT_init_0 57 3 rfl rfl
noncomputable def k_MT_init_127 : List jI := [(.putfield 56, 3, (12, 19, 2045, 3, 0)), (.aload_n 0, 1, (0, 0, 0, 0, 0)), (.sipush 192, 3, (0, 0, 0, 192, 0))]
theorem o_MT_init_127 : jokL "ChessHouseModel$Texts" lw_tbl jcl jtb 1 true prog_18_method_1_code 127 k_MT_init_127 = true := jok_sub oo_MT_init_0 61 3 rfl rfl
noncomputable def k_MT_init_136 : List jI := [(.putfield 59, 3, (12, 20, 2047, 3, 0)), (.aload_n 0, 1, (0, 0, 0, 0, 0)), (.bipush 16, 2, (0, 0, 0, 16, 0))]
theorem o_MT_init_136 : jokL "ChessHouseModel$Texts" lw_tbl jcl jtb 1 true prog_18_method_1_code 136 k_MT_init_136 = true := jok_sub oo_MT_init_0 65 3 rfl rfl
noncomputable def k_MT_init_144 : List jI := [(.putfield 62, 3, (12, 21, 2049, 3, 0)), (.aload_n 0, 1, (0, 0, 0, 0, 0)), (.sipush 1536, 3, (0, 0, 0, 1536, 0))]
theorem o_MT_init_144 : jokL "ChessHouseModel$Texts" lw_tbl jcl jtb 1 true prog_18_method_1_code 144 k_MT_init_144 = true := jok_sub oo_MT_init_0 69 3 rfl rfl
noncomputable def k_MT_init_153 : List jI := [(.putfield 65, 3, (12, 22, 2051, 3, 0)), (.aload_n 0, 1, (0, 0, 0, 0, 0)), (.iconst 2, 1, (0, 0, 0, 2, 0))]
theorem o_MT_init_153 : jokL "ChessHouseModel$Texts" lw_tbl jcl jtb 1 true prog_18_method_1_code 153 k_MT_init_153 = true := jok_sub oo_MT_init_0 73 3 rfl rfl
noncomputable def k_MT_init_160 : List jI := [(.putfield 68, 3, (12, 23, 2053, 3, 0)), (.aload_n 0, 1, (0, 0, 0, 0, 0)), (.bipush 64, 2, (0, 0, 0, 64, 0))]
theorem o_MT_init_160 : jokL "ChessHouseModel$Texts" lw_tbl jcl jtb 1 true prog_18_method_1_code 160 k_MT_init_160 = true := jok_sub oo_MT_init_0 77 3 rfl rfl
noncomputable def k_MT_init_168 : List jI := [(.putfield 71, 3, (12, 24, 2055, 3, 0)), (.aload_n 0, 1, (0, 0, 0, 0, 0)), (.bipush 64, 2, (0, 0, 0, 64, 0))]
theorem o_MT_init_168 : jokL "ChessHouseModel$Texts" lw_tbl jcl jtb 1 true prog_18_method_1_code 168 k_MT_init_168 = true := jok_sub oo_MT_init_0 81 3 rfl rfl
noncomputable def k_MT_init_176 : List jI := [(.putfield 74, 3, (12, 30, 2067, 3, 0)), (.aload_n 0, 1, (0, 0, 0, 0, 0)), (.iconst 5, 1, (0, 0, 0, 5, 0))]
theorem o_MT_init_176 : jokL "ChessHouseModel$Texts" lw_tbl jcl jtb 1 true prog_18_method_1_code 176 k_MT_init_176 = true := jok_sub oo_MT_init_0 85 3 rfl rfl
noncomputable def k_MT_init_183 : List jI := [(.putfield 77, 3, (12, 31, 2068, 3, 0)), (.aload_n 0, 1, (0, 0, 0, 0, 0)), (.sipush 2048, 3, (0, 0, 0, 2048, 0))]
theorem o_MT_init_183 : jokL "ChessHouseModel$Texts" lw_tbl jcl jtb 1 true prog_18_method_1_code 183 k_MT_init_183 = true := jok_sub oo_MT_init_0 89 3 rfl rfl
noncomputable def k_MT_init_192 : List jI := [(.putfield 80, 3, (12, 32, 2069, 3, 0)), (.aload_n 0, 1, (0, 0, 0, 0, 0)), (.sipush 301, 3, (0, 0, 0, 301, 0))]
theorem o_MT_init_192 : jokL "ChessHouseModel$Texts" lw_tbl jcl jtb 1 true prog_18_method_1_code 192 k_MT_init_192 = true := jok_sub oo_MT_init_0 93 3 rfl rfl
noncomputable def k_MT_init_201 : List jI := [(.putfield 83, 3, (12, 34, 2073, 3, 0)), (.aload_n 0, 1, (0, 0, 0, 0, 0)), (.bipush 16, 2, (0, 0, 0, 16, 0))]
theorem o_MT_init_201 : jokL "ChessHouseModel$Texts" lw_tbl jcl jtb 1 true prog_18_method_1_code 201 k_MT_init_201 = true := jok_sub oo_MT_init_0 97 3 rfl rfl
noncomputable def k_MT_init_209 : List jI := [(.putfield 86, 3, (12, 35, 2074, 3, 0)), (.aload_n 0, 1, (0, 0, 0, 0, 0)), (.iconst 0, 1, (0, 0, 0, 0, 0))]
theorem o_MT_init_209 : jokL "ChessHouseModel$Texts" lw_tbl jcl jtb 1 true prog_18_method_1_code 209 k_MT_init_209 = true := jok_sub oo_MT_init_209 0 3 rfl rfl
theorem d_MT_init_1 : decode prog_18_method_1_code 1 = .ok (.invokespecial 1, 3) := by decide +kernel
theorem d_MT_init_7 : decode prog_18_method_1_code 7 = .ok (.newarray .char, 2) := by decide +kernel
theorem d_MT_init_15 : decode prog_18_method_1_code 15 = .ok (.newarray .char, 2) := by decide +kernel
theorem d_MT_init_22 : decode prog_18_method_1_code 22 = .ok (.newarray .int, 2) := by decide +kernel
theorem d_MT_init_31 : decode prog_18_method_1_code 31 = .ok (.newarray .int, 2) := by decide +kernel
theorem d_MT_init_40 : decode prog_18_method_1_code 40 = .ok (.newarray .int, 2) := by decide +kernel
theorem d_MT_init_49 : decode prog_18_method_1_code 49 = .ok (.newarray .int, 2) := by decide +kernel
theorem d_MT_init_58 : decode prog_18_method_1_code 58 = .ok (.newarray .int, 2) := by decide +kernel
theorem d_MT_init_67 : decode prog_18_method_1_code 67 = .ok (.newarray .int, 2) := by decide +kernel
theorem d_MT_init_76 : decode prog_18_method_1_code 76 = .ok (.newarray .int, 2) := by decide +kernel
theorem d_MT_init_85 : decode prog_18_method_1_code 85 = .ok (.newarray .int, 2) := by decide +kernel
theorem d_MT_init_93 : decode prog_18_method_1_code 93 = .ok (.newarray .char, 2) := by decide +kernel
theorem d_MT_init_102 : decode prog_18_method_1_code 102 = .ok (.newarray .int, 2) := by decide +kernel
theorem d_MT_init_110 : decode prog_18_method_1_code 110 = .ok (.newarray .int, 2) := by decide +kernel
theorem d_MT_init_117 : decode prog_18_method_1_code 117 = .ok (.newarray .int, 2) := by decide +kernel
theorem d_MT_init_125 : decode prog_18_method_1_code 125 = .ok (.newarray .int, 2) := by decide +kernel
theorem d_MT_init_134 : decode prog_18_method_1_code 134 = .ok (.newarray .char, 2) := by decide +kernel
theorem d_MT_init_142 : decode prog_18_method_1_code 142 = .ok (.newarray .int, 2) := by decide +kernel
theorem d_MT_init_151 : decode prog_18_method_1_code 151 = .ok (.newarray .char, 2) := by decide +kernel
theorem d_MT_init_158 : decode prog_18_method_1_code 158 = .ok (.newarray .int, 2) := by decide +kernel
theorem d_MT_init_166 : decode prog_18_method_1_code 166 = .ok (.newarray .int, 2) := by decide +kernel
theorem d_MT_init_174 : decode prog_18_method_1_code 174 = .ok (.newarray .int, 2) := by decide +kernel
theorem d_MT_init_181 : decode prog_18_method_1_code 181 = .ok (.newarray .int, 2) := by decide +kernel
theorem d_MT_init_190 : decode prog_18_method_1_code 190 = .ok (.newarray .int, 2) := by decide +kernel
theorem d_MT_init_199 : decode prog_18_method_1_code 199 = .ok (.newarray .int, 2) := by decide +kernel
theorem d_MT_init_207 : decode prog_18_method_1_code 207 = .ok (.newarray .char, 2) := by decide +kernel
noncomputable def y_MM_init : jY := (⟨"ChessHouseModel", "<init>", "()V"⟩, prog_15_method_1_code, 1, none)
theorem m_MM_init : jmth lw_tbl y_MM_init 0 := ⟨jTA_in (wi := 1905) (jtF_ok rfl) rfl, jTA_in (wi := 314) (jtF_ok rfl) rfl, by decide, by decide, by decide +kernel⟩
theorem i_MM_init : Jvm.Cond.instanceMethod y_MM_init.1 ∈ jTA lw_tbl := jTA_in (wi := 1904) (jtF_ok rfl) rfl
noncomputable def kk_MM_init_0 : List jI := [(.aload_n 0, 1, (0, 0, 0, 0, 0)), (.invokespecial 1, 3, (0, 0, 0, 0, 0)), (.aload_n 0, 1, (0, 0, 0, 0, 0)), (.ldc 9, 2, (0, 0, 1907, 65536, 0)), (.newarray .byte, 2, (0, 0, 0, 0, 0)), (.putfield 10, 3, (11, 2, 2304, 3, 0)), (.aload_n 0, 1, (0, 0, 0, 0, 0)), (.ldc 9, 2, (0, 0, 1907, 65536, 0)), (.newarray .byte, 2, (0, 0, 0, 0, 0)), (.putfield 14, 3, (11, 4, 2306, 3, 0)), (.aload_n 0, 1, (0, 0, 0, 0, 0)), (.new 17, 3, (0, 0, 0, 0, 0)), (.dup, 1, (0, 0, 0, 0, 0)), (.invokespecial 19, 3, (0, 0, 0, 0, 0)), (.putfield 20, 3, (11, 5, 2307, 3, 0)), (.aload_n 0, 1, (0, 0, 0, 0, 0)), (.new 24, 3, (0, 0, 0, 0, 0)), (.dup, 1, (0, 0, 0, 0, 0)), (.invokespecial 26, 3, (0, 0, 0, 0, 0)), (.putfield 27, 3, (11, 6, 2308, 3, 0)), (.aload_n 0, 1, (0, 0, 0, 0, 0)), (.ldc 31, 2, (0, 0, 2301, 32768, 0)), (.newarray .int, 2, (0, 0, 0, 0, 0)), (.putfield 32, 3, (11, 14, 2316, 3, 0)), (.aload_n 0, 1, (0, 0, 0, 0, 0)), (.ldc 31, 2, (0, 0, 2301, 32768, 0)), (.newarray .int, 2, (0, 0, 0, 0, 0)), (.putfield 36, 3, (11, 15, 2317, 3, 0)), (.aload_n 0, 1, (0, 0, 0, 0, 0)), (.sipush 301, 3, (0, 0, 0, 301, 0)), (.newarray .int, 2, (0, 0, 0, 0, 0)), (.putfield 39, 3, (11, 17, 2319, 3, 0)), (.aload_n 0, 1, (0, 0, 0, 0, 0)), (.bipush 100, 2, (0, 0, 0, 100, 0)), (.newarray .char, 2, (0, 0, 0, 0, 0)), (.putfield 42, 3, (11, 18, 2320, 3, 0)), (.return_, 1, (0, 0, 0, 0, 0))]
theorem oo_MM_init_0 : jokL "ChessHouseModel" lw_tbl jcl jtb 1 true prog_15_method_1_code 0 kk_MM_init_0 = true := by decide +kernel
noncomputable def k_MM_init_0 : List jI := [(.aload_n 0, 1, (0, 0, 0, 0, 0))]
theorem o_MM_init_0 : jokL "ChessHouseModel" lw_tbl jcl jtb 1 true prog_15_method_1_code 0 k_MM_init_0 = true := jok_sub oo_MM_init_0 0 1 rfl rfl
noncomputable def k_MM_init_4 : List jI := [(.aload_n 0, 1, (0, 0, 0, 0, 0)), (.ldc 9, 2, (0, 0, 1907, 65536, 0))]
theorem o_MM_init_4 : jokL "ChessHouseModel" lw_tbl jcl jtb 1 true prog_15_method_1_code 4 k_MM_init_4 = true := jok_sub oo_MM_init_0 2 2 rfl rfl
noncomputable def k_MM_init_9 : List jI := [(.putfield 10, 3, (11, 2, 2304, 3, 0)), (.aload_n 0, 1, (0, 0, 0, 0, 0)), (.ldc 9, 2, (0, 0, 1907, 65536, 0))]
theorem o_MM_init_9 : jokL "ChessHouseModel" lw_tbl jcl jtb 1 true prog_15_method_1_code 9 k_MM_init_9 = true := jok_sub oo_MM_init_0 5 3 rfl rfl
noncomputable def k_MM_init_17 : List jI := [(.putfield 14, 3, (11, 4, 2306, 3, 0)), (.aload_n 0, 1, (0, 0, 0, 0, 0))]
theorem o_MM_init_17 : jokL "ChessHouseModel" lw_tbl jcl jtb 1 true prog_15_method_1_code 17 k_MM_init_17 = true := jok_sub oo_MM_init_0 9 2 rfl rfl
noncomputable def k_MM_init_24 : List jI := [(.dup, 1, (0, 0, 0, 0, 0))]
theorem o_MM_init_24 : jokL "ChessHouseModel" lw_tbl jcl jtb 1 true prog_15_method_1_code 24 k_MM_init_24 = true := jok_sub oo_MM_init_0 12 1 rfl rfl
noncomputable def k_MM_init_28 : List jI := [(.putfield 20, 3, (11, 5, 2307, 3, 0)), (.aload_n 0, 1, (0, 0, 0, 0, 0))]
theorem o_MM_init_28 : jokL "ChessHouseModel" lw_tbl jcl jtb 1 true prog_15_method_1_code 28 k_MM_init_28 = true := jok_sub oo_MM_init_0 14 2 rfl rfl
noncomputable def k_MM_init_35 : List jI := [(.dup, 1, (0, 0, 0, 0, 0))]
theorem o_MM_init_35 : jokL "ChessHouseModel" lw_tbl jcl jtb 1 true prog_15_method_1_code 35 k_MM_init_35 = true := jok_sub oo_MM_init_0 17 1 rfl rfl
noncomputable def k_MM_init_39 : List jI := [(.putfield 27, 3, (11, 6, 2308, 3, 0)), (.aload_n 0, 1, (0, 0, 0, 0, 0)), (.ldc 31, 2, (0, 0, 2301, 32768, 0))]
theorem o_MM_init_39 : jokL "ChessHouseModel" lw_tbl jcl jtb 1 true prog_15_method_1_code 39 k_MM_init_39 = true := jok_sub oo_MM_init_0 19 3 rfl rfl
noncomputable def k_MM_init_47 : List jI := [(.putfield 32, 3, (11, 14, 2316, 3, 0)), (.aload_n 0, 1, (0, 0, 0, 0, 0)), (.ldc 31, 2, (0, 0, 2301, 32768, 0))]
theorem o_MM_init_47 : jokL "ChessHouseModel" lw_tbl jcl jtb 1 true prog_15_method_1_code 47 k_MM_init_47 = true := jok_sub oo_MM_init_0 23 3 rfl rfl
noncomputable def k_MM_init_55 : List jI := [(.putfield 36, 3, (11, 15, 2317, 3, 0)), (.aload_n 0, 1, (0, 0, 0, 0, 0)), (.sipush 301, 3, (0, 0, 0, 301, 0))]
theorem o_MM_init_55 : jokL "ChessHouseModel" lw_tbl jcl jtb 1 true prog_15_method_1_code 55 k_MM_init_55 = true := jok_sub oo_MM_init_0 27 3 rfl rfl
noncomputable def k_MM_init_64 : List jI := [(.putfield 39, 3, (11, 17, 2319, 3, 0)), (.aload_n 0, 1, (0, 0, 0, 0, 0)), (.bipush 100, 2, (0, 0, 0, 100, 0))]
theorem o_MM_init_64 : jokL "ChessHouseModel" lw_tbl jcl jtb 1 true prog_15_method_1_code 64 k_MM_init_64 = true := jok_sub oo_MM_init_0 31 3 rfl rfl
noncomputable def k_MM_init_72 : List jI := [(.putfield 42, 3, (11, 18, 2320, 3, 0))]
theorem o_MM_init_72 : jokL "ChessHouseModel" lw_tbl jcl jtb 1 true prog_15_method_1_code 72 k_MM_init_72 = true := jok_sub oo_MM_init_0 35 1 rfl rfl
theorem d_MM_init_1 : decode prog_15_method_1_code 1 = .ok (.invokespecial 1, 3) := by decide +kernel
theorem d_MM_init_7 : decode prog_15_method_1_code 7 = .ok (.newarray .byte, 2) := by decide +kernel
theorem d_MM_init_15 : decode prog_15_method_1_code 15 = .ok (.newarray .byte, 2) := by decide +kernel
theorem d_MM_init_21 : decode prog_15_method_1_code 21 = .ok (.new 17, 3) := by decide +kernel
theorem d_MM_init_25 : decode prog_15_method_1_code 25 = .ok (.invokespecial 19, 3) := by decide +kernel
theorem q_MM_init_25 : jlm lw_tbl 1910 "ChessHouseModel" 19 ⟨"ChessHouseModel$Texts", "<init>", "()V"⟩ = true := jlm_of (Or.inl (jtF_ok rfl))
theorem d_MM_init_32 : decode prog_15_method_1_code 32 = .ok (.new 24, 3) := by decide +kernel
theorem d_MM_init_36 : decode prog_15_method_1_code 36 = .ok (.invokespecial 26, 3) := by decide +kernel
theorem q_MM_init_36 : jlm lw_tbl 2165 "ChessHouseModel" 26 ⟨"ChessHouseModel$Board", "<init>", "()V"⟩ = true := jlm_of (Or.inr ⟨_, jtF_ok rfl⟩)
theorem d_MM_init_45 : decode prog_15_method_1_code 45 = .ok (.newarray .int, 2) := by decide +kernel
theorem d_MM_init_53 : decode prog_15_method_1_code 53 = .ok (.newarray .int, 2) := by decide +kernel
theorem d_MM_init_62 : decode prog_15_method_1_code 62 = .ok (.newarray .int, 2) := by decide +kernel
theorem d_MM_init_70 : decode prog_15_method_1_code 70 = .ok (.newarray .char, 2) := by decide +kernel
theorem d_MM_init_75 : decode prog_15_method_1_code 75 = .ok (.return_, 1) := by decide +kernel
noncomputable def y_MM_lay : jY := (⟨"ChessHouseModel", "lay", "(I)V"⟩, prog_15_method_3_code, 3, none)
theorem m_MM_lay : jmth lw_tbl y_MM_lay 1 := ⟨jTA_in (wi := 2371) (jtF_ok rfl) rfl, jTA_in (wi := 314) (jtF_ok rfl) rfl, by decide, by decide, by decide +kernel⟩
theorem i_MM_lay : Jvm.Cond.instanceMethod y_MM_lay.1 ∈ jTA lw_tbl := jTA_in (wi := 2370) (jtF_ok rfl) rfl
theorem e_MM_lay : Jvm.Cond.selects y_MM_lay.1.cls y_MM_lay.1 y_MM_lay.1 ∈ jTA lw_tbl := jTA_in (wi := 127) (jtF_ok rfl) rfl
noncomputable def y_MM_feed : jY := (⟨"ChessHouseModel", "feed", "(IIIII)V"⟩, prog_15_method_4_code, 6, none)
theorem m_MM_feed : jmth lw_tbl y_MM_feed 5 := ⟨jTA_in (wi := 2367) (jtF_ok rfl) rfl, jTA_in (wi := 314) (jtF_ok rfl) rfl, by decide, by decide, by decide +kernel⟩
theorem i_MM_feed : Jvm.Cond.instanceMethod y_MM_feed.1 ∈ jTA lw_tbl := jTA_in (wi := 2365) (jtF_ok rfl) rfl
theorem e_MM_feed : Jvm.Cond.selects y_MM_feed.1.cls y_MM_feed.1 y_MM_feed.1 ∈ jTA lw_tbl := jTA_in (wi := 2366) (jtF_ok rfl) rfl
noncomputable def y_MM_size : jY := (⟨"ChessHouseModel", "size", "()I"⟩, prog_15_method_7_code, 1, (some .int))
theorem m_MM_size : jmth lw_tbl y_MM_size 0 := ⟨jTA_in (wi := 3292) (jtF_ok rfl) rfl, jTA_in (wi := 314) (jtF_ok rfl) rfl, by decide, by decide, by decide +kernel⟩
theorem i_MM_size : Jvm.Cond.instanceMethod y_MM_size.1 ∈ jTA lw_tbl := jTA_in (wi := 3290) (jtF_ok rfl) rfl
theorem e_MM_size : Jvm.Cond.selects y_MM_size.1.cls y_MM_size.1 y_MM_size.1 ∈ jTA lw_tbl := jTA_in (wi := 3291) (jtF_ok rfl) rfl
noncomputable def y_MM_out : jY := (⟨"ChessHouseModel", "out", "(I)I"⟩, prog_15_method_8_code, 2, (some .int))
theorem m_MM_out : jmth lw_tbl y_MM_out 1 := ⟨jTA_in (wi := 3296) (jtF_ok rfl) rfl, jTA_in (wi := 314) (jtF_ok rfl) rfl, by decide, by decide, by decide +kernel⟩
theorem i_MM_out : Jvm.Cond.instanceMethod y_MM_out.1 ∈ jTA lw_tbl := jTA_in (wi := 3294) (jtF_ok rfl) rfl
theorem e_MM_out : Jvm.Cond.selects y_MM_out.1.cls y_MM_out.1 y_MM_out.1 ∈ jTA lw_tbl := jTA_in (wi := 3295) (jtF_ok rfl) rfl
noncomputable def y_MM_thrown : jY := (⟨"ChessHouseModel", "thrown", "()I"⟩, prog_15_method_2_code, 1, (some .int))
theorem m_MM_thrown : jmth lw_tbl y_MM_thrown 0 := ⟨jTA_in (wi := 2363) (jtF_ok rfl) rfl, jTA_in (wi := 314) (jtF_ok rfl) rfl, by decide, by decide, by decide +kernel⟩
theorem i_MM_thrown : Jvm.Cond.instanceMethod y_MM_thrown.1 ∈ jTA lw_tbl := jTA_in (wi := 2361) (jtF_ok rfl) rfl
theorem e_MM_thrown : Jvm.Cond.selects y_MM_thrown.1.cls y_MM_thrown.1 y_MM_thrown.1 ∈ jTA lw_tbl := jTA_in (wi := 2362) (jtF_ok rfl) rfl
noncomputable def y_MM_end : jY := (⟨"ChessHouseModel", "end", "(I)I"⟩, prog_15_method_5_code, 2, (some .int))
theorem m_MM_end : jmth lw_tbl y_MM_end 1 := ⟨jTA_in (wi := 2375) (jtF_ok rfl) rfl, jTA_in (wi := 314) (jtF_ok rfl) rfl, by decide, by decide, by decide +kernel⟩
theorem i_MM_end : Jvm.Cond.instanceMethod y_MM_end.1 ∈ jTA lw_tbl := jTA_in (wi := 2373) (jtF_ok rfl) rfl
theorem e_MM_end : Jvm.Cond.selects y_MM_end.1.cls y_MM_end.1 y_MM_end.1 ∈ jTA lw_tbl := jTA_in (wi := 2374) (jtF_ok rfl) rfl
end
section
/-! pictures of what a constructor has made: its object at a, and the cells that came behind n -/
noncomputable def jz : jcell := .inl (.int, 0, .inl fun _ => 0)
noncomputable def jmk (σ : Nat → jcell) (a n : Nat) (o : jcell) (cs : List jcell) : Nat → jcell := fun p => if p = a then o else if p < n then σ p else cs.getD (p - n) jz
theorem jmk_a {σ : Nat → jcell} {a n : Nat} {o : jcell} {cs : List jcell} : jmk σ a n o cs a = o := if_pos rfl
theorem jmk_put {σ : Nat → jcell} {a n : Nat} {o x : jcell} {cs : List jcell} : jup (jmk σ a n o cs) a x = jmk σ a n x cs := by
  funext p
  by_cases h : p = a
  · subst h
    rw [jup_s, jmk_a]
  · rw [jup_n h]
    unfold jmk
    rw [if_neg h, if_neg h]
theorem jmk_lo {σ : Nat → jcell} {a n p : Nat} {o : jcell} {cs : List jcell} (h : p < n) (hp : p ≠ a) : jmk σ a n o cs p = σ p := by
  unfold jmk
  rw [if_neg hp, if_pos h]
theorem jmk_at {σ : Nat → jcell} {a n k : Nat} {o c : jcell} {cs : List jcell} (ha : a < n) (h : cs[k]? = some c) : jmk σ a n o cs (n + k) = c := by
  unfold jmk
  rw [if_neg (by omega), if_neg (by omega), Nat.add_sub_cancel_left]
  simp [List.getD, h]
theorem jmk_add {σ : Nat → jcell} {a n k : Nat} {o c : jcell} {cs : List jcell} (ha : a < n) (hk : n + cs.length = k) : jup (jmk σ a n o cs) k c = jmk σ a n o (cs ++ [c]) := by
  subst hk
  funext p
  by_cases h : p = n + cs.length
  · subst h
    rw [jup_s, jmk_at (c := c) ha (by simp)]
  · rw [jup_n h]
    unfold jmk
    by_cases h1 : p = a
    · rw [if_pos h1, if_pos h1]
    · rw [if_neg h1, if_neg h1]
      by_cases h2 : p < n
      · rw [if_pos h2, if_pos h2]
      · rw [if_neg h2, if_neg h2]
        simp only [List.getD]
        by_cases h3 : p - n < cs.length
        · rw [List.getElem?_append_left h3]
        · rw [List.getElem?_eq_none (by omega), List.getElem?_eq_none (by simp; omega)]
theorem jmk_nest {σ : Nat → jcell} {a n b m : Nat} {o x y : jcell} {cs ds : List jcell} (ha : a < n) (hb : n + cs.length = b) (hm : b + 1 = m) : jmk (jmk σ a n o (cs ++ [x])) b m y ds = jmk σ a n o (cs ++ y :: ds) := by
  subst hb; subst hm
  funext p
  by_cases h : p = n + cs.length
  · subst h
    rw [jmk_a, jmk_at (c := y) ha (by simp)]
  · by_cases h1 : p < n + cs.length
    · rw [jmk_lo (by omega) h]
      unfold jmk
      by_cases h2 : p = a
      · rw [if_pos h2, if_pos h2]
      · rw [if_neg h2, if_neg h2]
        by_cases h3 : p < n
        · rw [if_pos h3, if_pos h3]
        · rw [if_neg h3, if_neg h3]
          simp only [List.getD]
          rw [List.getElem?_append_left (by omega), List.getElem?_append_left (by omega)]
    · have e1 : jmk (jmk σ a n o (cs ++ [x])) (n + cs.length) (n + cs.length + 1) y ds p = ds.getD (p - (n + cs.length + 1)) jz := by
        conv => lhs; unfold jmk
        rw [if_neg h, if_neg (by omega)]
      rw [e1]
      unfold jmk
      rw [if_neg (by omega), if_neg (by omega)]
      simp only [List.getD]
      rw [List.getElem?_append_right (by omega)]
      rw [show p - n - cs.length = (p - (n + cs.length + 1)) + 1 by omega, List.getElem?_cons_succ]
section JMK
variable {E : jE} {own : String} {Ts : List Jvm.Cond} {cl : List vw_C} {tb : jTb} {nL : Nat} {ini : Bool} {cc : ByteArray} {M : jM} {Q : State → Prop} {n cells slots : Nat}
theorem jJ_congr {pc : Nat} {lv : List (Option jv)} {st : List jv} {σ σ2 : Nat → jcell} (h : ∀ k, k < n → σ k = σ2 k) (hj : jJ E cl nL M Q n cells slots pc lv st σ2) : jJ E cl nL M Q n cells slots pc lv st σ := fun H locs ls hW hS hL => hj H locs ls ⟨hW.1, fun k hk hq => by rw [← h k hk]; exact hW.2 k hk (by rw [h k hk]; exact hq)⟩ hS hL
theorem jmk_in {pc a : Nat} {lv : List (Option jv)} {st : List jv} {σ : Nat → jcell} {o : jcell} (h : σ a = o) (hj : jJ E cl nL M Q n cells slots pc lv st (jmk σ a n o [])) : jJ E cl nL M Q n cells slots pc lv st σ := jJ_congr (fun k hk => by
  by_cases hka : k = a
  · subst hka; rw [jmk_a]; exact h
  · rw [jmk_lo hk hka]) hj
theorem jc_na (X : jX E own Ts cl tb nL ini cc M) {rm : Room} (hR : M.2.2.2.1 = rm) {pc w1 : Nat} {at1 : ArrayType} (hd : decode cc pc = .ok (.newarray at1, 2)) {ty : FieldType} (hty : newarray.typeOf at1 = ty) (h1 : Ts[w1]? = some (Jvm.Cond.arrayClass ty)) (hin : ty ∈ jtys) {lv : List (Option jv)} {r : List jv} {σ : Nat → jcell} {k : Int32} (hk : ¬ k < 0) (N : Nat) (hN : k.toNatClampNeg = N) (hby : N * 8 ≤ 536870912) {z : vp_A} (hz : jzero at1 N = z) {a n0 : Nat} {o : jcell} {cs : List jcell} (cs' : List jcell) (ha : a < n0) (hcs : cs ++ [.inl (ty, z)] = cs') (hn : n0 + cs.length = n) {n' c' s' : Nat} (hn' : n + 1 = n') (hc' : cells + 1 = c') (hs' : slots + N = s') (hc : c' ≤ rm.cells ∧ s' ≤ rm.slots) {pc' : Nat} (hp : pc + 2 = pc')
    (kk : jJ E cl nL M Q n' c' s' pc' lv (.inr (.inr (some (.inl n))) :: r) (jmk σ a n0 o cs')) : jJ E cl nL M Q n cells slots pc lv (.inl k :: r) (jmk σ a n0 o cs) := by
  refine jk_na X hR hd hty h1 hin hk N hN hby hz hn' hc' hs' hc hp ?_
  rw [jmk_add ha hn, hcs]
  exact kk
theorem jc_nw (hC : jCl Ts cl) (X : jX E own Ts cl tb nL ini cc M) {rm : Room} (hR : M.2.2.2.1 = rm) {pc i w1 w2 w3 ci : Nat} (hd : decode cc pc = .ok (.new i, 3)) {q : vw_C} (hq : cl[ci]? = some q) (h1 : Ts[w1]? = some (Jvm.Cond.classLink own i q.1)) (h2 : Ts[w2]? = some (Jvm.Cond.instantiable q.1 q.2.2)) (h3 : Ts[w3]? = some (Jvm.Cond.initialized q.1)) (h9 : ((List.range q.2.2).all fun j => decide (jkd (parseFieldDescriptor (q.2.1 j).2.2.1) ≠ 9)) = true) {fs : List jv} (hfs : jnew q = fs) {lv : List (Option jv)} {r : List jv} {σ : Nat → jcell} {a n0 : Nat} {o : jcell} {cs : List jcell} (ha : a < n0) (hn : n0 + cs.length = n) {n' c' s' : Nat} (hn' : n + 1 = n') (hc' : cells + 1 = c') (hs' : slots + q.2.2 = s') (hc : c' ≤ rm.cells ∧ s' ≤ rm.slots) {pc' : Nat} (hp : pc + 3 = pc')
    (kk : jJ E cl nL M Q n' c' s' pc' lv (.inr (.inr (some (.inl n))) :: r) (jmk σ a n0 o (cs ++ [.inr (ci, fs)]))) : jJ E cl nL M Q n cells slots pc lv r (jmk σ a n0 o cs) := by
  refine jk_nw hC X hR hd hq h1 h2 h3 h9 hfs hn' hc' hs' hc hp ?_
  rw [jmk_add ha hn]
  exact kk
end JMK
end
