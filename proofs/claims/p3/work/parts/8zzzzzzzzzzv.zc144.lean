section
/-! the reference: the line of ends, from its command on -/
noncomputable def ak_ZMMasZ : List jI := [(.aload_n 0, 1, (0, 0, 0, 0, 0)), (.getfield 108, 3, (11, 13, 2315, 0, 0)), (.iconst 1, 1, (0, 0, 0, 1, 0)), (.if_icmp .ne 75, 3, (80, 0, 0, 0, 0)), (.aload_n 0, 1, (0, 0, 0, 0, 0)), (.iconst 0, 1, (0, 0, 0, 0, 0)), (.ldc_w 381, 3, (999, 0, 0, 0, 0)), (.invokevirtual 129, 3, (0, 0, 2552, 0, 0)), (.ifCond .eq 64, 3, (80, 0, 0, 0, 0)), (.aload_n 0, 1, (0, 0, 0, 0, 0)), (.invokevirtual 383, 3, (0, 0, 0, 0, 0)), (.aload_n 0, 1, (0, 0, 0, 0, 0)), (.getfield 27, 3, (11, 6, 2308, 0, 0)), (.aload_n 0, 1, (0, 0, 0, 0, 0)), (.getfield 42, 3, (11, 18, 2320, 0, 0)), (.invokevirtual 386, 3, (0, 0, 0, 0, 0)), (.aload_n 0, 1, (0, 0, 0, 0, 0)), (.invokevirtual 91, 3, (0, 0, 0, 0, 0)), (.aload_n 0, 1, (0, 0, 0, 0, 0)), (.bipush 32, 2, (0, 0, 0, 32, 0)), (.invokevirtual 81, 3, (0, 0, 0, 0, 0)), (.iconst 0, 1, (0, 0, 0, 0, 0)), (.istore_n 1, 1, (1, 0, 0, 0, 0)), (.iload_n 1, 1, (1, 0, 0, 0, 0)), (.aload_n 0, 1, (0, 0, 0, 0, 0)), (.getfield 27, 3, (11, 6, 2308, 0, 0)), (.getfield 389, 3, (13, 36, 2224, 0, 0)), (.if_icmp .ge 19, 3, (73, 0, 0, 0, 0)), (.aload_n 0, 1, (0, 0, 0, 0, 0)), (.aload_n 0, 1, (0, 0, 0, 0, 0)), (.getfield 42, 3, (11, 18, 2320, 0, 0)), (.iload_n 1, 1, (1, 0, 0, 0, 0)), (.caload, 1, (0, 0, 0, 0, 0)), (.invokevirtual 81, 3, (0, 0, 0, 0, 0)), (.iinc 1 1, 3, (0, 0, 0, 1, 0)), (.goto (-24), 3, (46, 0, 0, 0, 0)), (.aload_n 0, 1, (0, 0, 0, 0, 0)), (.invokevirtual 97, 3, (0, 0, 0, 0, 0)), (.goto 421, 3, (498, 0, 0, 0, 0)), (.aload_n 0, 1, (0, 0, 0, 0, 0)), (.getfield 108, 3, (11, 13, 2315, 0, 0)), (.iconst 1, 1, (0, 0, 0, 1, 0)), (.if_icmp .ne 69, 3, (154, 0, 0, 0, 0)), (.aload_n 0, 1, (0, 0, 0, 0, 0)), (.iconst 0, 1, (0, 0, 0, 0, 0)), (.ldc_w 390, 3, (999, 0, 0, 0, 0)), (.invokevirtual 129, 3, (1, 0, 2552, 0, 0)), (.ifCond .eq 58, 3, (154, 0, 0, 0, 0)), (.aload_n 0, 1, (0, 0, 0, 0, 0)), (.invokevirtual 91, 3, (0, 0, 0, 0, 0)), (.aload_n 0, 1, (0, 0, 0, 0, 0)), (.aload_n 0, 1, (0, 0, 0, 0, 0)), (.getfield 20, 3, (11, 5, 2307, 0, 0)), (.getfield 392, 3, (12, 33, 2072, 0, 0)), (.i2l, 1, (0, 0, 0, 0, 0)), (.invokevirtual 94, 3, (0, 0, 0, 0, 0)), (.iconst 0, 1, (0, 0, 0, 0, 0)), (.istore_n 1, 1, (1, 0, 0, 0, 0)), (.iload_n 1, 1, (1, 0, 0, 0, 0)), (.aload_n 0, 1, (0, 0, 0, 0, 0)), (.getfield 20, 3, (11, 5, 2307, 0, 0)), (.getfield 392, 3, (12, 33, 2072, 0, 0)), (.if_icmp .ge 22, 3, (147, 0, 0, 0, 0)), (.aload_n 0, 1, (0, 0, 0, 0, 0)), (.aload_n 0, 1, (0, 0, 0, 0, 0)), (.getfield 20, 3, (11, 5, 2307, 0, 0)), (.getfield 394, 3, (12, 32, 2070, 0, 0)), (.iload_n 1, 1, (1, 0, 0, 0, 0)), (.iaload, 1, (0, 0, 0, 0, 0)), (.invokevirtual 292, 3, (0, 0, 0, 0, 0)), (.iinc 1 1, 3, (0, 0, 0, 1, 0)), (.goto (-27), 3, (117, 0, 0, 0, 0)), (.aload_n 0, 1, (0, 0, 0, 0, 0)), (.invokevirtual 97, 3, (0, 0, 0, 0, 0)), (.goto 347, 3, (498, 0, 0, 0, 0)), (.aload_n 0, 1, (0, 0, 0, 0, 0)), (.getfield 108, 3, (11, 13, 2315, 0, 0)), (.iconst 1, 1, (0, 0, 0, 1, 0)), (.if_icmp .ne 21, 3, (180, 0, 0, 0, 0)), (.aload_n 0, 1, (0, 0, 0, 0, 0)), (.iconst 0, 1, (0, 0, 0, 0, 0)), (.ldc_w 397, 3, (999, 0, 0, 0, 0)), (.invokevirtual 129, 3, (2, 0, 2552, 0, 0)), (.ifCond .eq 10, 3, (180, 0, 0, 0, 0)), (.aload_n 0, 1, (0, 0, 0, 0, 0)), (.invokevirtual 399, 3, (0, 0, 0, 0, 0)), (.goto 321, 3, (498, 0, 0, 0, 0)), (.aload_n 0, 1, (0, 0, 0, 0, 0)), (.getfield 108, 3, (11, 13, 2315, 0, 0)), (.iconst 2, 1, (0, 0, 0, 2, 0)), (.if_icmp .ne 75, 3, (260, 0, 0, 0, 0)), (.aload_n 0, 1, (0, 0, 0, 0, 0)), (.iconst 0, 1, (0, 0, 0, 0, 0)), (.ldc_w 401, 3, (999, 0, 0, 0, 0)), (.invokevirtual 129, 3, (3, 0, 2552, 0, 0)), (.ifCond .eq 64, 3, (260, 0, 0, 0, 0)), (.aload_n 0, 1, (0, 0, 0, 0, 0)), (.iconst 1, 1, (0, 0, 0, 1, 0)), (.iconst 0, 1, (0, 0, 0, 0, 0)), (.iconst 3, 1, (0, 0, 0, 3, 0)), (.invokevirtual 199, 3, (0, 0, 0, 0, 0)), (.istore_n 1, 1, (1, 0, 0, 0, 0)), (.aload_n 0, 1, (0, 0, 0, 0, 0)), (.getfield 125, 3, (11, 16, 2318, 0, 0)), (.ifCond .eq 22, 3, (233, 0, 0, 0, 0)), (.aload_n 0, 1, (0, 0, 0, 0, 0)), (.iload_n 1, 1, (1, 0, 0, 0, 0)), (.ldc2_w 403, 3, (0, 0, 2951, 0, 30000000)), (.invokevirtual 405, 3, (0, 0, 0, 0, 0)), (.ifCond .eq 11, 3, (233, 0, 0, 0, 0)), (.aload_n 0, 1, (0, 0, 0, 0, 0)), (.iconst 4, 1, (0, 0, 0, 4, 0)), (.invokevirtual 137, 3, (0, 0, 0, 0, 0)), (.goto 27, 3, (257, 0, 0, 0, 0)), (.aload_n 0, 1, (0, 0, 0, 0, 0)), (.getfield 125, 3, (11, 16, 2318, 0, 0)), (.ifCond .eq 20, 3, (257, 0, 0, 0, 0)), (.aload_n 0, 1, (0, 0, 0, 0, 0)), (.invokevirtual 383, 3, (0, 0, 0, 0, 0)), (.aload_n 0, 1, (0, 0, 0, 0, 0)), (.aload_n 0, 1, (0, 0, 0, 0, 0)), (.getfield 27, 3, (11, 6, 2308, 0, 0)), (.iload_n 1, 1, (1, 0, 0, 0, 0)), (.iconst 0, 1, (0, 0, 0, 0, 0)), (.invokevirtual 409, 3, (0, 0, 0, 0, 0)), (.invokevirtual 210, 3, (0, 0, 0, 0, 0)), (.goto 241, 3, (498, 0, 0, 0, 0)), (.aload_n 0, 1, (0, 0, 0, 0, 0)), (.getfield 108, 3, (11, 13, 2315, 0, 0)), (.iconst 1, 1, (0, 0, 0, 1, 0)), (.if_icmp .ne 33, 3, (298, 0, 0, 0, 0)), (.aload_n 0, 1, (0, 0, 0, 0, 0)), (.iconst 0, 1, (0, 0, 0, 0, 0)), (.ldc_w 412, 3, (999, 0, 0, 0, 0)), (.invokevirtual 129, 3, (4, 0, 2552, 0, 0)), (.ifCond .eq 22, 3, (298, 0, 0, 0, 0)), (.aload_n 0, 1, (0, 0, 0, 0, 0)), (.invokevirtual 383, 3, (0, 0, 0, 0, 0)), (.aload_n 0, 1, (0, 0, 0, 0, 0)), (.aload_n 0, 1, (0, 0, 0, 0, 0)), (.getfield 27, 3, (11, 6, 2308, 0, 0)), (.invokevirtual 414, 3, (0, 0, 0, 0, 0)), (.i2l, 1, (0, 0, 0, 0, 0)), (.invokevirtual 210, 3, (0, 0, 0, 0, 0)), (.goto 203, 3, (498, 0, 0, 0, 0)), (.aload_n 0, 1, (0, 0, 0, 0, 0)), (.getfield 108, 3, (11, 13, 2315, 0, 0)), (.iconst 2, 1, (0, 0, 0, 2, 0)), (.if_icmp .eq 22, 3, (325, 0, 0, 0, 0)), (.aload_n 0, 1, (0, 0, 0, 0, 0)), (.getfield 108, 3, (11, 13, 2315, 0, 0)), (.iconst 3, 1, (0, 0, 0, 3, 0)), (.if_icmp .ne 61, 3, (372, 0, 0, 0, 0)), (.aload_n 0, 1, (0, 0, 0, 0, 0)), (.iconst 2, 1, (0, 0, 0, 2, 0)), (.ldc_w 417, 3, (999, 0, 0, 0, 0)), (.invokevirtual 129, 3, (5, 0, 2552, 0, 0)), (.ifCond .eq 50, 3, (372, 0, 0, 0, 0)), (.aload_n 0, 1, (0, 0, 0, 0, 0)), (.iconst 0, 1, (0, 0, 0, 0, 0)), (.ldc_w 419, 3, (999, 0, 0, 0, 0)), (.invokevirtual 129, 3, (6, 0, 2552, 0, 0)), (.ifCond .eq 39, 3, (372, 0, 0, 0, 0)), (.aload_n 0, 1, (0, 0, 0, 0, 0)), (.iconst 1, 1, (0, 0, 0, 1, 0)), (.iconst 1, 1, (0, 0, 0, 1, 0)), (.iconst 4, 1, (0, 0, 0, 4, 0)), (.invokevirtual 199, 3, (0, 0, 0, 0, 0)), (.istore_n 1, 1, (1, 0, 0, 0, 0)), (.aload_n 0, 1, (0, 0, 0, 0, 0)), (.getfield 125, 3, (11, 16, 2318, 0, 0)), (.ifCond .eq 21, 3, (369, 0, 0, 0, 0)), (.aload_n 0, 1, (0, 0, 0, 0, 0)), (.iload_n 1, 1, (1, 0, 0, 0, 0)), (.aload_n 0, 1, (0, 0, 0, 0, 0)), (.getfield 108, 3, (11, 13, 2315, 0, 0)), (.iconst 3, 1, (0, 0, 0, 3, 0)), (.if_icmp .ne 7, 3, (365, 0, 0, 0, 0)), (.iconst 1, 1, (0, 0, 0, 1, 0)), (.goto 4, 3, (366, 0, 0, 0, 0)), (.iconst 0, 1, (0, 0, 0, 0, 0)), (.invokevirtual 421, 3, (0, 0, 0, 0, 0)), (.goto 129, 3, (498, 0, 0, 0, 0)), (.aload_n 0, 1, (0, 0, 0, 0, 0)), (.getfield 108, 3, (11, 13, 2315, 0, 0)), (.iconst 4, 1, (0, 0, 0, 4, 0)), (.if_icmp .ne 50, 3, (427, 0, 0, 0, 0)), (.aload_n 0, 1, (0, 0, 0, 0, 0)), (.iconst 0, 1, (0, 0, 0, 0, 0)), (.ldc_w 424, 3, (999, 0, 0, 0, 0)), (.invokevirtual 129, 3, (7, 0, 2552, 0, 0)), (.ifCond .eq 39, 3, (427, 0, 0, 0, 0)), (.aload_n 0, 1, (0, 0, 0, 0, 0)), (.iconst 2, 1, (0, 0, 0, 2, 0)), (.iconst 1, 1, (0, 0, 0, 1, 0)), (.iconst 4, 1, (0, 0, 0, 4, 0)), (.invokevirtual 199, 3, (0, 0, 0, 0, 0)), (.istore_n 1, 1, (1, 0, 0, 0, 0)), (.aload_n 0, 1, (0, 0, 0, 0, 0)), (.iconst 3, 1, (0, 0, 0, 3, 0)), (.ldc_w 426, 3, (999, 0, 0, 0, 0)), (.ldc_w 427, 3, (999, 0, 0, 0, 0)), (.invokevirtual 199, 3, (0, 0, 0, 0, 0)), (.istore_n 2, 1, (2, 0, 0, 0, 0)), (.aload_n 0, 1, (0, 0, 0, 0, 0)), (.getfield 125, 3, (11, 16, 2318, 0, 0)), (.ifCond .eq 9, 3, (424, 0, 0, 0, 0)), (.aload_n 0, 1, (0, 0, 0, 0, 0)), (.iload_n 1, 1, (1, 0, 0, 0, 0)), (.iload_n 2, 1, (2, 0, 0, 0, 0)), (.invokevirtual 428, 3, (0, 0, 0, 0, 0)), (.goto 74, 3, (498, 0, 0, 0, 0)), (.aload_n 0, 1, (0, 0, 0, 0, 0)), (.getfield 108, 3, (11, 13, 2315, 0, 0)), (.iconst 2, 1, (0, 0, 0, 2, 0)), (.if_icmp .ne 38, 3, (470, 0, 0, 0, 0)), (.aload_n 0, 1, (0, 0, 0, 0, 0)), (.iconst 0, 1, (0, 0, 0, 0, 0)), (.ldc_w 430, 3, (999, 0, 0, 0, 0)), (.invokevirtual 129, 3, (8, 0, 2552, 0, 0)), (.ifCond .eq 27, 3, (470, 0, 0, 0, 0)), (.aload_n 0, 1, (0, 0, 0, 0, 0)), (.iconst 1, 1, (0, 0, 0, 1, 0)), (.iconst 0, 1, (0, 0, 0, 0, 0)), (.sipush 128, 3, (0, 0, 0, 128, 0)), (.invokevirtual 199, 3, (0, 0, 0, 0, 0)), (.istore_n 1, 1, (1, 0, 0, 0, 0)), (.aload_n 0, 1, (0, 0, 0, 0, 0)), (.getfield 125, 3, (11, 16, 2318, 0, 0)), (.ifCond .eq 7, 3, (467, 0, 0, 0, 0)), (.aload_n 0, 1, (0, 0, 0, 0, 0)), (.invokevirtual 177, 3, (0, 0, 0, 0, 0)), (.goto 31, 3, (498, 0, 0, 0, 0)), (.aload_n 0, 1, (0, 0, 0, 0, 0)), (.getfield 108, 3, (11, 13, 2315, 0, 0)), (.iconst 1, 1, (0, 0, 0, 1, 0)), (.if_icmp .ne 21, 3, (496, 0, 0, 0, 0)), (.aload_n 0, 1, (0, 0, 0, 0, 0)), (.iconst 0, 1, (0, 0, 0, 0, 0)), (.ldc_w 432, 3, (999, 0, 0, 0, 0)), (.invokevirtual 129, 3, (9, 0, 2552, 0, 0)), (.ifCond .eq 10, 3, (496, 0, 0, 0, 0)), (.aload_n 0, 1, (0, 0, 0, 0, 0)), (.invokevirtual 434, 3, (0, 0, 0, 0, 0)), (.goto 5, 3, (498, 0, 0, 0, 0)), (.iconst 0, 1, (0, 0, 0, 0, 0)), (.ireturn, 1, (0, 0, 0, 0, 0)), (.aload_n 0, 1, (0, 0, 0, 0, 0)), (.getfield 125, 3, (11, 16, 2318, 0, 0)), (.ireturn, 1, (0, 0, 0, 0, 0))]
theorem ao_ZMMasZ : jokLG jtF lk_MM "ChessHouseModel" jcl jtb 3 prog_15_method_46_code 0 ak_ZMMasZ = true := by decide +kernel
noncomputable def zm_MMasZ (cc ss : Nat) : zM := (some .boolean, { frames := 41, cells := cc, slots := ss, locals := 2750 }, ([(129, 2552, 0), (129, 2552, 1), (129, 2552, 2), (129, 2552, 3), (129, 2552, 4), (129, 2552, 5), (129, 2552, 6), (129, 2552, 7), (129, 2552, 8), (129, 2552, 9)], [(3, 426, 0, .inl (-999999999)), (3, 427, 0, .inl (999999999)), (2, 381, 0, .inr 1035), (2, 390, 0, .inr 1036), (2, 397, 0, .inr 1037), (2, 401, 0, .inr 1038), (2, 412, 0, .inr 1039), (2, 417, 0, .inr 1016), (2, 419, 0, .inr 1040), (2, 424, 0, .inr 1041), (2, 430, 0, .inr 1042), (2, 432, 0, .inr 1043)]), [(y_MM_isWord, false, 3, 11, { frames := 5, cells := 0, slots := 0, locals := 110 }, zc_wrd1035), (y_MM_isWord, false, 3, 11, { frames := 5, cells := 0, slots := 0, locals := 110 }, zc_wrd1036), (y_MM_isWord, false, 3, 11, { frames := 5, cells := 0, slots := 0, locals := 110 }, zc_wrd1037), (y_MM_isWord, false, 3, 11, { frames := 5, cells := 0, slots := 0, locals := 110 }, zc_wrd1038), (y_MM_isWord, false, 3, 11, { frames := 5, cells := 0, slots := 0, locals := 110 }, zc_wrd1039), (y_MM_isWord, false, 3, 11, { frames := 5, cells := 0, slots := 0, locals := 110 }, zc_wrd1016), (y_MM_isWord, false, 3, 11, { frames := 5, cells := 0, slots := 0, locals := 110 }, zc_wrd1040), (y_MM_isWord, false, 3, 11, { frames := 5, cells := 0, slots := 0, locals := 110 }, zc_wrd1041), (y_MM_isWord, false, 3, 11, { frames := 5, cells := 0, slots := 0, locals := 110 }, zc_wrd1042), (y_MM_isWord, false, 3, 11, { frames := 5, cells := 0, slots := 0, locals := 110 }, zc_wrd1043)], ak_ZMMasZ)
set_option maxRecDepth 8000 in
theorem zp_MMasZ_0 {n K : Nat} {W : zW} {post : zPo} {cc ss : Nat} {u1 u2 : Option zv} {Xz : Nat → List (Option zv) → List zv → zW → Prop} (hK : 9 ≤ K) (hn : 142 ≤ n) (h : (¬ (W.1 87 13) = 1 → zwpE jtb zsh n (zm_MMasZ cc ss) (fun p => Nat.beq p 490) Xz post (K - 4) (lGo ak_ZMMasZ 80) 80 [some (.inr (.inr (some (.inl 87)))), u1, u2] [] W) ∧ ((W.1 87 13) = 1 → ((0 ≤ (0 : Int) ∧ (0 : Int) < 32768) ∧ 0 ≤ W.2.1 137 (0 : Int) ∧ W.2.1 137 (0 : Int) ≤ W.2.1 138 (0 : Int) ∧ W.2.1 138 (0 : Int) ≤ 65536) ∧ ∀ r13 : Int, (xBl r13 (xEq (W.2.1 88) (W.2.1 137 (0 : Int)) (W.2.1 138 (0 : Int)) js_b2035)) → (r13 = 0 → zwpE jtb zsh n (zm_MMasZ cc ss) (fun p => Nat.beq p 490) Xz post (K - 9) (lGo ak_ZMMasZ 80) 80 [some (.inr (.inr (some (.inl 87)))), u1, u2] [] W) ∧ (¬ r13 = 0 → zwpE jtb zsh n (zm_MMasZ cc ss) (fun p => Nat.beq p 490) Xz post (K - 9) (lGo ak_ZMMasZ 19) 19 [some (.inr (.inr (some (.inl 87)))), u1, u2] [] W))) : zwpE jtb zsh n (zm_MMasZ cc ss) (fun p => Nat.beq p 490) Xz post K (lGo ak_ZMMasZ 0) 0 [some (.inr (.inr (some (.inl 87)))), u1, u2] [] W := by
  obtain ⟨kk__, rfl⟩ : ∃ kk__, K = kk__ + 9 := ⟨K - 9, by omega⟩
  exact (show 87 < n ∧ 11 = 11 ∧ (¬ (W.1 87 13) = 1 → zwpE jtb zsh n (zm_MMasZ cc ss) (fun p => Nat.beq p 490) Xz post (kk__ + 5) (lGo ak_ZMMasZ 80) 80 [some (.inr (.inr (some (.inl 87)))), u1, u2] [] W) ∧ ((W.1 87 13) = 1 → 3 = 3 ∧ 3 = 3 ∧ false = false ∧ jin3 129 2552 0 (zm_MMasZ cc ss).2.2.1.1 = true ∧ lRm (zm_MMasZ cc ss).2.1 { frames := 5, cells := 0, slots := 0, locals := 110 } 3 = true ∧ Nat.ble 3 3 = true ∧ Nat.ble 0 8 = true ∧ 87 < n ∧ 11 = 11 ∧ Nat.ble 1000 11 = false ∧ zc_wrd1035 [.inr (.inr (some (.inl 87))), .inl (0), .inr (.inr (some (.inr 1035)))] W (fun vv__ WW__ => zwpE jtb zsh n (zm_MMasZ cc ss) (fun p => Nat.beq p 490) Xz post (kk__ + 1) (lGo ak_ZMMasZ 16) 16 [some (.inr (.inr (some (.inl 87)))), u1, u2] (vv__.toList ++ []) WW__)) from ⟨(Nat.lt_of_lt_of_le (by decide) hn), rfl, ⟨fun c5_3 => ((h).1 c5_3), fun c5_3 => ⟨rfl, ⟨rfl, rfl, rfl, rfl, rfl, rfl, (Nat.lt_of_lt_of_le (by decide) hn), rfl, rfl, 0, rfl, (((h).2 c5_3)).1, fun r13 hr13 => (show (r13 = 0 → zwpE jtb zsh n (zm_MMasZ cc ss) (fun p => Nat.beq p 490) Xz post (kk__ + 0) (lGo ak_ZMMasZ 80) 80 [some (.inr (.inr (some (.inl 87)))), u1, u2] [] W) ∧ (¬ r13 = 0 → zwpE jtb zsh n (zm_MMasZ cc ss) (fun p => Nat.beq p 490) Xz post (kk__ + 0) (lGo ak_ZMMasZ 19) 19 [some (.inr (.inr (some (.inl 87)))), u1, u2] [] W) from (have h := ((((h).2 c5_3)).2 r13 hr13); ⟨fun c16_8 => ((h).1 c16_8), fun c16_8 => ((h).2 c16_8)⟩))⟩⟩⟩⟩)
set_option maxRecDepth 8000 in
theorem zp_MMasZ_80 {n K : Nat} {W : zW} {post : zPo} {cc ss : Nat} {u1 u2 : Option zv} {Xz : Nat → List (Option zv) → List zv → zW → Prop} (hK : 9 ≤ K) (hn : 142 ≤ n) (h : (¬ (W.1 87 13) = 1 → zwpE jtb zsh n (zm_MMasZ cc ss) (fun p => Nat.beq p 490) Xz post (K - 4) (lGo ak_ZMMasZ 154) 154 [some (.inr (.inr (some (.inl 87)))), u1, u2] [] W) ∧ ((W.1 87 13) = 1 → ((0 ≤ (0 : Int) ∧ (0 : Int) < 32768) ∧ 0 ≤ W.2.1 137 (0 : Int) ∧ W.2.1 137 (0 : Int) ≤ W.2.1 138 (0 : Int) ∧ W.2.1 138 (0 : Int) ≤ 65536) ∧ ∀ r93 : Int, (xBl r93 (xEq (W.2.1 88) (W.2.1 137 (0 : Int)) (W.2.1 138 (0 : Int)) js_b2036)) → (r93 = 0 → zwpE jtb zsh n (zm_MMasZ cc ss) (fun p => Nat.beq p 490) Xz post (K - 9) (lGo ak_ZMMasZ 154) 154 [some (.inr (.inr (some (.inl 87)))), u1, u2] [] W) ∧ (¬ r93 = 0 → zwpE jtb zsh n (zm_MMasZ cc ss) (fun p => Nat.beq p 490) Xz post (K - 9) (lGo ak_ZMMasZ 99) 99 [some (.inr (.inr (some (.inl 87)))), u1, u2] [] W))) : zwpE jtb zsh n (zm_MMasZ cc ss) (fun p => Nat.beq p 490) Xz post K (lGo ak_ZMMasZ 80) 80 [some (.inr (.inr (some (.inl 87)))), u1, u2] [] W := by
  obtain ⟨kk__, rfl⟩ : ∃ kk__, K = kk__ + 9 := ⟨K - 9, by omega⟩
  exact (show 87 < n ∧ 11 = 11 ∧ (¬ (W.1 87 13) = 1 → zwpE jtb zsh n (zm_MMasZ cc ss) (fun p => Nat.beq p 490) Xz post (kk__ + 5) (lGo ak_ZMMasZ 154) 154 [some (.inr (.inr (some (.inl 87)))), u1, u2] [] W) ∧ ((W.1 87 13) = 1 → 3 = 3 ∧ 3 = 3 ∧ false = false ∧ jin3 129 2552 1 (zm_MMasZ cc ss).2.2.1.1 = true ∧ lRm (zm_MMasZ cc ss).2.1 { frames := 5, cells := 0, slots := 0, locals := 110 } 3 = true ∧ Nat.ble 3 3 = true ∧ Nat.ble 0 8 = true ∧ 87 < n ∧ 11 = 11 ∧ Nat.ble 1000 11 = false ∧ zc_wrd1036 [.inr (.inr (some (.inl 87))), .inl (0), .inr (.inr (some (.inr 1036)))] W (fun vv__ WW__ => zwpE jtb zsh n (zm_MMasZ cc ss) (fun p => Nat.beq p 490) Xz post (kk__ + 1) (lGo ak_ZMMasZ 96) 96 [some (.inr (.inr (some (.inl 87)))), u1, u2] (vv__.toList ++ []) WW__)) from ⟨(Nat.lt_of_lt_of_le (by decide) hn), rfl, ⟨fun c85_3 => ((h).1 c85_3), fun c85_3 => ⟨rfl, ⟨rfl, rfl, rfl, rfl, rfl, rfl, (Nat.lt_of_lt_of_le (by decide) hn), rfl, rfl, 0, rfl, (((h).2 c85_3)).1, fun r93 hr93 => (show (r93 = 0 → zwpE jtb zsh n (zm_MMasZ cc ss) (fun p => Nat.beq p 490) Xz post (kk__ + 0) (lGo ak_ZMMasZ 154) 154 [some (.inr (.inr (some (.inl 87)))), u1, u2] [] W) ∧ (¬ r93 = 0 → zwpE jtb zsh n (zm_MMasZ cc ss) (fun p => Nat.beq p 490) Xz post (kk__ + 0) (lGo ak_ZMMasZ 99) 99 [some (.inr (.inr (some (.inl 87)))), u1, u2] [] W) from (have h := ((((h).2 c85_3)).2 r93 hr93); ⟨fun c96_8 => ((h).1 c96_8), fun c96_8 => ((h).2 c96_8)⟩))⟩⟩⟩⟩)
set_option maxRecDepth 8000 in
theorem zp_MMasZ_154 {n K : Nat} {W : zW} {post : zPo} {cc ss : Nat} {u1 u2 : Option zv} {Xz : Nat → List (Option zv) → List zv → zW → Prop} (hK : 9 ≤ K) (hn : 142 ≤ n) (h : (¬ (W.1 87 13) = 1 → zwpE jtb zsh n (zm_MMasZ cc ss) (fun p => Nat.beq p 490) Xz post (K - 4) (lGo ak_ZMMasZ 180) 180 [some (.inr (.inr (some (.inl 87)))), u1, u2] [] W) ∧ ((W.1 87 13) = 1 → ((0 ≤ (0 : Int) ∧ (0 : Int) < 32768) ∧ 0 ≤ W.2.1 137 (0 : Int) ∧ W.2.1 137 (0 : Int) ≤ W.2.1 138 (0 : Int) ∧ W.2.1 138 (0 : Int) ≤ 65536) ∧ ∀ r167 : Int, (xBl r167 (xEq (W.2.1 88) (W.2.1 137 (0 : Int)) (W.2.1 138 (0 : Int)) js_b2037)) → (r167 = 0 → zwpE jtb zsh n (zm_MMasZ cc ss) (fun p => Nat.beq p 490) Xz post (K - 9) (lGo ak_ZMMasZ 180) 180 [some (.inr (.inr (some (.inl 87)))), u1, u2] [] W) ∧ (¬ r167 = 0 → zwpE jtb zsh n (zm_MMasZ cc ss) (fun p => Nat.beq p 490) Xz post (K - 9) (lGo ak_ZMMasZ 173) 173 [some (.inr (.inr (some (.inl 87)))), u1, u2] [] W))) : zwpE jtb zsh n (zm_MMasZ cc ss) (fun p => Nat.beq p 490) Xz post K (lGo ak_ZMMasZ 154) 154 [some (.inr (.inr (some (.inl 87)))), u1, u2] [] W := by
  obtain ⟨kk__, rfl⟩ : ∃ kk__, K = kk__ + 9 := ⟨K - 9, by omega⟩
  exact (show 87 < n ∧ 11 = 11 ∧ (¬ (W.1 87 13) = 1 → zwpE jtb zsh n (zm_MMasZ cc ss) (fun p => Nat.beq p 490) Xz post (kk__ + 5) (lGo ak_ZMMasZ 180) 180 [some (.inr (.inr (some (.inl 87)))), u1, u2] [] W) ∧ ((W.1 87 13) = 1 → 3 = 3 ∧ 3 = 3 ∧ false = false ∧ jin3 129 2552 2 (zm_MMasZ cc ss).2.2.1.1 = true ∧ lRm (zm_MMasZ cc ss).2.1 { frames := 5, cells := 0, slots := 0, locals := 110 } 3 = true ∧ Nat.ble 3 3 = true ∧ Nat.ble 0 8 = true ∧ 87 < n ∧ 11 = 11 ∧ Nat.ble 1000 11 = false ∧ zc_wrd1037 [.inr (.inr (some (.inl 87))), .inl (0), .inr (.inr (some (.inr 1037)))] W (fun vv__ WW__ => zwpE jtb zsh n (zm_MMasZ cc ss) (fun p => Nat.beq p 490) Xz post (kk__ + 1) (lGo ak_ZMMasZ 170) 170 [some (.inr (.inr (some (.inl 87)))), u1, u2] (vv__.toList ++ []) WW__)) from ⟨(Nat.lt_of_lt_of_le (by decide) hn), rfl, ⟨fun c159_3 => ((h).1 c159_3), fun c159_3 => ⟨rfl, ⟨rfl, rfl, rfl, rfl, rfl, rfl, (Nat.lt_of_lt_of_le (by decide) hn), rfl, rfl, 0, rfl, (((h).2 c159_3)).1, fun r167 hr167 => (show (r167 = 0 → zwpE jtb zsh n (zm_MMasZ cc ss) (fun p => Nat.beq p 490) Xz post (kk__ + 0) (lGo ak_ZMMasZ 180) 180 [some (.inr (.inr (some (.inl 87)))), u1, u2] [] W) ∧ (¬ r167 = 0 → zwpE jtb zsh n (zm_MMasZ cc ss) (fun p => Nat.beq p 490) Xz post (kk__ + 0) (lGo ak_ZMMasZ 173) 173 [some (.inr (.inr (some (.inl 87)))), u1, u2] [] W) from (have h := ((((h).2 c159_3)).2 r167 hr167); ⟨fun c170_8 => ((h).1 c170_8), fun c170_8 => ((h).2 c170_8)⟩))⟩⟩⟩⟩)
set_option maxRecDepth 8000 in
theorem zp_MMasZ_180 {n K : Nat} {W : zW} {post : zPo} {cc ss : Nat} {u1 u2 : Option zv} {Xz : Nat → List (Option zv) → List zv → zW → Prop} (hK : 9 ≤ K) (hn : 142 ≤ n) (h : (¬ (W.1 87 13) = 2 → zwpE jtb zsh n (zm_MMasZ cc ss) (fun p => Nat.beq p 490) Xz post (K - 4) (lGo ak_ZMMasZ 260) 260 [some (.inr (.inr (some (.inl 87)))), u1, u2] [] W) ∧ ((W.1 87 13) = 2 → ((0 ≤ (0 : Int) ∧ (0 : Int) < 32768) ∧ 0 ≤ W.2.1 137 (0 : Int) ∧ W.2.1 137 (0 : Int) ≤ W.2.1 138 (0 : Int) ∧ W.2.1 138 (0 : Int) ≤ 65536) ∧ ∀ r193 : Int, (xBl r193 (xEq (W.2.1 88) (W.2.1 137 (0 : Int)) (W.2.1 138 (0 : Int)) js_b2038)) → (r193 = 0 → zwpE jtb zsh n (zm_MMasZ cc ss) (fun p => Nat.beq p 490) Xz post (K - 9) (lGo ak_ZMMasZ 260) 260 [some (.inr (.inr (some (.inl 87)))), u1, u2] [] W) ∧ (¬ r193 = 0 → zwpE jtb zsh n (zm_MMasZ cc ss) (fun p => Nat.beq p 490) Xz post (K - 9) (lGo ak_ZMMasZ 199) 199 [some (.inr (.inr (some (.inl 87)))), u1, u2] [] W))) : zwpE jtb zsh n (zm_MMasZ cc ss) (fun p => Nat.beq p 490) Xz post K (lGo ak_ZMMasZ 180) 180 [some (.inr (.inr (some (.inl 87)))), u1, u2] [] W := by
  obtain ⟨kk__, rfl⟩ : ∃ kk__, K = kk__ + 9 := ⟨K - 9, by omega⟩
  exact (show 87 < n ∧ 11 = 11 ∧ (¬ (W.1 87 13) = 2 → zwpE jtb zsh n (zm_MMasZ cc ss) (fun p => Nat.beq p 490) Xz post (kk__ + 5) (lGo ak_ZMMasZ 260) 260 [some (.inr (.inr (some (.inl 87)))), u1, u2] [] W) ∧ ((W.1 87 13) = 2 → 3 = 3 ∧ 3 = 3 ∧ false = false ∧ jin3 129 2552 3 (zm_MMasZ cc ss).2.2.1.1 = true ∧ lRm (zm_MMasZ cc ss).2.1 { frames := 5, cells := 0, slots := 0, locals := 110 } 3 = true ∧ Nat.ble 3 3 = true ∧ Nat.ble 0 8 = true ∧ 87 < n ∧ 11 = 11 ∧ Nat.ble 1000 11 = false ∧ zc_wrd1038 [.inr (.inr (some (.inl 87))), .inl (0), .inr (.inr (some (.inr 1038)))] W (fun vv__ WW__ => zwpE jtb zsh n (zm_MMasZ cc ss) (fun p => Nat.beq p 490) Xz post (kk__ + 1) (lGo ak_ZMMasZ 196) 196 [some (.inr (.inr (some (.inl 87)))), u1, u2] (vv__.toList ++ []) WW__)) from ⟨(Nat.lt_of_lt_of_le (by decide) hn), rfl, ⟨fun c185_3 => ((h).1 c185_3), fun c185_3 => ⟨rfl, ⟨rfl, rfl, rfl, rfl, rfl, rfl, (Nat.lt_of_lt_of_le (by decide) hn), rfl, rfl, 0, rfl, (((h).2 c185_3)).1, fun r193 hr193 => (show (r193 = 0 → zwpE jtb zsh n (zm_MMasZ cc ss) (fun p => Nat.beq p 490) Xz post (kk__ + 0) (lGo ak_ZMMasZ 260) 260 [some (.inr (.inr (some (.inl 87)))), u1, u2] [] W) ∧ (¬ r193 = 0 → zwpE jtb zsh n (zm_MMasZ cc ss) (fun p => Nat.beq p 490) Xz post (kk__ + 0) (lGo ak_ZMMasZ 199) 199 [some (.inr (.inr (some (.inl 87)))), u1, u2] [] W) from (have h := ((((h).2 c185_3)).2 r193 hr193); ⟨fun c196_8 => ((h).1 c196_8), fun c196_8 => ((h).2 c196_8)⟩))⟩⟩⟩⟩)
set_option maxRecDepth 8000 in
theorem zp_MMasZ_260 {n K : Nat} {W : zW} {post : zPo} {cc ss : Nat} {u1 u2 : Option zv} {Xz : Nat → List (Option zv) → List zv → zW → Prop} (hK : 9 ≤ K) (hn : 142 ≤ n) (h : (¬ (W.1 87 13) = 1 → zwpE jtb zsh n (zm_MMasZ cc ss) (fun p => Nat.beq p 490) Xz post (K - 4) (lGo ak_ZMMasZ 298) 298 [some (.inr (.inr (some (.inl 87)))), u1, u2] [] W) ∧ ((W.1 87 13) = 1 → ((0 ≤ (0 : Int) ∧ (0 : Int) < 32768) ∧ 0 ≤ W.2.1 137 (0 : Int) ∧ W.2.1 137 (0 : Int) ≤ W.2.1 138 (0 : Int) ∧ W.2.1 138 (0 : Int) ≤ 65536) ∧ ∀ r273 : Int, (xBl r273 (xEq (W.2.1 88) (W.2.1 137 (0 : Int)) (W.2.1 138 (0 : Int)) js_b2039)) → (r273 = 0 → zwpE jtb zsh n (zm_MMasZ cc ss) (fun p => Nat.beq p 490) Xz post (K - 9) (lGo ak_ZMMasZ 298) 298 [some (.inr (.inr (some (.inl 87)))), u1, u2] [] W) ∧ (¬ r273 = 0 → zwpE jtb zsh n (zm_MMasZ cc ss) (fun p => Nat.beq p 490) Xz post (K - 9) (lGo ak_ZMMasZ 279) 279 [some (.inr (.inr (some (.inl 87)))), u1, u2] [] W))) : zwpE jtb zsh n (zm_MMasZ cc ss) (fun p => Nat.beq p 490) Xz post K (lGo ak_ZMMasZ 260) 260 [some (.inr (.inr (some (.inl 87)))), u1, u2] [] W := by
  obtain ⟨kk__, rfl⟩ : ∃ kk__, K = kk__ + 9 := ⟨K - 9, by omega⟩
  exact (show 87 < n ∧ 11 = 11 ∧ (¬ (W.1 87 13) = 1 → zwpE jtb zsh n (zm_MMasZ cc ss) (fun p => Nat.beq p 490) Xz post (kk__ + 5) (lGo ak_ZMMasZ 298) 298 [some (.inr (.inr (some (.inl 87)))), u1, u2] [] W) ∧ ((W.1 87 13) = 1 → 3 = 3 ∧ 3 = 3 ∧ false = false ∧ jin3 129 2552 4 (zm_MMasZ cc ss).2.2.1.1 = true ∧ lRm (zm_MMasZ cc ss).2.1 { frames := 5, cells := 0, slots := 0, locals := 110 } 3 = true ∧ Nat.ble 3 3 = true ∧ Nat.ble 0 8 = true ∧ 87 < n ∧ 11 = 11 ∧ Nat.ble 1000 11 = false ∧ zc_wrd1039 [.inr (.inr (some (.inl 87))), .inl (0), .inr (.inr (some (.inr 1039)))] W (fun vv__ WW__ => zwpE jtb zsh n (zm_MMasZ cc ss) (fun p => Nat.beq p 490) Xz post (kk__ + 1) (lGo ak_ZMMasZ 276) 276 [some (.inr (.inr (some (.inl 87)))), u1, u2] (vv__.toList ++ []) WW__)) from ⟨(Nat.lt_of_lt_of_le (by decide) hn), rfl, ⟨fun c265_3 => ((h).1 c265_3), fun c265_3 => ⟨rfl, ⟨rfl, rfl, rfl, rfl, rfl, rfl, (Nat.lt_of_lt_of_le (by decide) hn), rfl, rfl, 0, rfl, (((h).2 c265_3)).1, fun r273 hr273 => (show (r273 = 0 → zwpE jtb zsh n (zm_MMasZ cc ss) (fun p => Nat.beq p 490) Xz post (kk__ + 0) (lGo ak_ZMMasZ 298) 298 [some (.inr (.inr (some (.inl 87)))), u1, u2] [] W) ∧ (¬ r273 = 0 → zwpE jtb zsh n (zm_MMasZ cc ss) (fun p => Nat.beq p 490) Xz post (kk__ + 0) (lGo ak_ZMMasZ 279) 279 [some (.inr (.inr (some (.inl 87)))), u1, u2] [] W) from (have h := ((((h).2 c265_3)).2 r273 hr273); ⟨fun c276_8 => ((h).1 c276_8), fun c276_8 => ((h).2 c276_8)⟩))⟩⟩⟩⟩)
set_option maxRecDepth 8000 in
theorem zp_MMasZ_298 {n K : Nat} {W : zW} {post : zPo} {cc ss : Nat} {u1 u2 : Option zv} {Xz : Nat → List (Option zv) → List zv → zW → Prop} (hK : 18 ≤ K) (hn : 142 ≤ n) (h : ((W.1 87 13) = 2 → ((0 ≤ (0 : Int) ∧ (0 : Int) < 32768) ∧ 0 ≤ W.2.1 137 (0 : Int) ∧ W.2.1 137 (0 : Int) ≤ W.2.1 138 (0 : Int) ∧ W.2.1 138 (0 : Int) ≤ 65536) ∧ ∀ r330 : Int, (xBl r330 (xEq (W.2.1 88) (W.2.1 137 (0 : Int)) (W.2.1 138 (0 : Int)) js_b2040)) → (r330 = 0 → zwpE jtb zsh n (zm_MMasZ cc ss) (fun p => Nat.beq p 490) Xz post (K - 9) (lGo ak_ZMMasZ 372) 372 [some (.inr (.inr (some (.inl 87)))), u1, u2] [] W) ∧ (¬ r330 = 0 → zwpE jtb zsh n (zm_MMasZ cc ss) (fun p => Nat.beq p 490) Xz post (K - 9) (lGo ak_ZMMasZ 336) 336 [some (.inr (.inr (some (.inl 87)))), u1, u2] [] W)) ∧ (¬ (W.1 87 13) = 2 → (¬ (W.1 87 13) = 3 → zwpE jtb zsh n (zm_MMasZ cc ss) (fun p => Nat.beq p 490) Xz post (K - 8) (lGo ak_ZMMasZ 372) 372 [some (.inr (.inr (some (.inl 87)))), u1, u2] [] W) ∧ ((W.1 87 13) = 3 → ((0 ≤ (2 : Int) ∧ (2 : Int) < 32768) ∧ 0 ≤ W.2.1 137 (2 : Int) ∧ W.2.1 137 (2 : Int) ≤ W.2.1 138 (2 : Int) ∧ W.2.1 138 (2 : Int) ≤ 65536) ∧ ∀ r319 : Int, (xBl r319 (xEq (W.2.1 88) (W.2.1 137 (2 : Int)) (W.2.1 138 (2 : Int)) js_b2016)) → (r319 = 0 → zwpE jtb zsh n (zm_MMasZ cc ss) (fun p => Nat.beq p 490) Xz post (K - 13) (lGo ak_ZMMasZ 372) 372 [some (.inr (.inr (some (.inl 87)))), u1, u2] [] W) ∧ (¬ r319 = 0 → ((0 ≤ (0 : Int) ∧ (0 : Int) < 32768) ∧ 0 ≤ W.2.1 137 (0 : Int) ∧ W.2.1 137 (0 : Int) ≤ W.2.1 138 (0 : Int) ∧ W.2.1 138 (0 : Int) ≤ 65536) ∧ ∀ r330 : Int, (xBl r330 (xEq (W.2.1 88) (W.2.1 137 (0 : Int)) (W.2.1 138 (0 : Int)) js_b2040)) → (r330 = 0 → zwpE jtb zsh n (zm_MMasZ cc ss) (fun p => Nat.beq p 490) Xz post (K - 18) (lGo ak_ZMMasZ 372) 372 [some (.inr (.inr (some (.inl 87)))), u1, u2] [] W) ∧ (¬ r330 = 0 → zwpE jtb zsh n (zm_MMasZ cc ss) (fun p => Nat.beq p 490) Xz post (K - 18) (lGo ak_ZMMasZ 336) 336 [some (.inr (.inr (some (.inl 87)))), u1, u2] [] W))))) : zwpE jtb zsh n (zm_MMasZ cc ss) (fun p => Nat.beq p 490) Xz post K (lGo ak_ZMMasZ 298) 298 [some (.inr (.inr (some (.inl 87)))), u1, u2] [] W := by
  obtain ⟨kk__, rfl⟩ : ∃ kk__, K = kk__ + 18 := ⟨K - 18, by omega⟩
  exact (show 87 < n ∧ 11 = 11 ∧ ((W.1 87 13) = 2 → 3 = 3 ∧ 3 = 3 ∧ false = false ∧ jin3 129 2552 6 (zm_MMasZ cc ss).2.2.1.1 = true ∧ lRm (zm_MMasZ cc ss).2.1 { frames := 5, cells := 0, slots := 0, locals := 110 } 3 = true ∧ Nat.ble 3 3 = true ∧ Nat.ble 0 8 = true ∧ 87 < n ∧ 11 = 11 ∧ Nat.ble 1000 11 = false ∧ zc_wrd1040 [.inr (.inr (some (.inl 87))), .inl (0), .inr (.inr (some (.inr 1040)))] W (fun vv__ WW__ => zwpE jtb zsh n (zm_MMasZ cc ss) (fun p => Nat.beq p 490) Xz post (kk__ + 10) (lGo ak_ZMMasZ 333) 333 [some (.inr (.inr (some (.inl 87)))), u1, u2] (vv__.toList ++ []) WW__)) ∧ (¬ (W.1 87 13) = 2 → 87 < n ∧ 11 = 11 ∧ (¬ (W.1 87 13) = 3 → zwpE jtb zsh n (zm_MMasZ cc ss) (fun p => Nat.beq p 490) Xz post (kk__ + 10) (lGo ak_ZMMasZ 372) 372 [some (.inr (.inr (some (.inl 87)))), u1, u2] [] W) ∧ ((W.1 87 13) = 3 → 3 = 3 ∧ 3 = 3 ∧ false = false ∧ jin3 129 2552 5 (zm_MMasZ cc ss).2.2.1.1 = true ∧ lRm (zm_MMasZ cc ss).2.1 { frames := 5, cells := 0, slots := 0, locals := 110 } 3 = true ∧ Nat.ble 3 3 = true ∧ Nat.ble 0 8 = true ∧ 87 < n ∧ 11 = 11 ∧ Nat.ble 1000 11 = false ∧ zc_wrd1016 [.inr (.inr (some (.inl 87))), .inl (2), .inr (.inr (some (.inr 1016)))] W (fun vv__ WW__ => zwpE jtb zsh n (zm_MMasZ cc ss) (fun p => Nat.beq p 490) Xz post (kk__ + 6) (lGo ak_ZMMasZ 322) 322 [some (.inr (.inr (some (.inl 87)))), u1, u2] (vv__.toList ++ []) WW__))) from ⟨(Nat.lt_of_lt_of_le (by decide) hn), rfl, ⟨fun c303_3 => ⟨rfl, ⟨rfl, rfl, rfl, rfl, rfl, rfl, (Nat.lt_of_lt_of_le (by decide) hn), rfl, rfl, 0, rfl, (((h).1 c303_3)).1, fun r330 hr330 => (show (r330 = 0 → zwpE jtb zsh n (zm_MMasZ cc ss) (fun p => Nat.beq p 490) Xz post (kk__ + 9) (lGo ak_ZMMasZ 372) 372 [some (.inr (.inr (some (.inl 87)))), u1, u2] [] W) ∧ (¬ r330 = 0 → zwpE jtb zsh n (zm_MMasZ cc ss) (fun p => Nat.beq p 490) Xz post (kk__ + 9) (lGo ak_ZMMasZ 336) 336 [some (.inr (.inr (some (.inl 87)))), u1, u2] [] W) from (have h := ((((h).1 c303_3)).2 r330 hr330); ⟨fun c333_8 => ((h).1 c333_8), fun c333_8 => ((h).2 c333_8)⟩))⟩⟩, fun c303_3 => ⟨(Nat.lt_of_lt_of_le (by decide) hn), rfl, ⟨fun c311_7 => ((((h).2 c303_3)).1 c311_7), fun c311_7 => (have h := ((((h).2 c303_3)).2 c311_7); ⟨rfl, ⟨rfl, rfl, rfl, rfl, rfl, rfl, (Nat.lt_of_lt_of_le (by decide) hn), rfl, rfl, 2, rfl, (h).1, fun r319 hr319 => (show (r319 = 0 → zwpE jtb zsh n (zm_MMasZ cc ss) (fun p => Nat.beq p 490) Xz post (kk__ + 5) (lGo ak_ZMMasZ 372) 372 [some (.inr (.inr (some (.inl 87)))), u1, u2] [] W) ∧ (¬ r319 = 0 → 3 = 3 ∧ 3 = 3 ∧ false = false ∧ jin3 129 2552 6 (zm_MMasZ cc ss).2.2.1.1 = true ∧ lRm (zm_MMasZ cc ss).2.1 { frames := 5, cells := 0, slots := 0, locals := 110 } 3 = true ∧ Nat.ble 3 3 = true ∧ Nat.ble 0 8 = true ∧ 87 < n ∧ 11 = 11 ∧ Nat.ble 1000 11 = false ∧ zc_wrd1040 [.inr (.inr (some (.inl 87))), .inl (0), .inr (.inr (some (.inr 1040)))] W (fun vv__ WW__ => zwpE jtb zsh n (zm_MMasZ cc ss) (fun p => Nat.beq p 490) Xz post (kk__ + 1) (lGo ak_ZMMasZ 333) 333 [some (.inr (.inr (some (.inl 87)))), u1, u2] (vv__.toList ++ []) WW__)) from ⟨fun c322_12 => ((((h).2 r319 hr319)).1 c322_12), fun c322_12 => (have h := ((((h).2 r319 hr319)).2 c322_12); ⟨rfl, ⟨rfl, rfl, rfl, rfl, rfl, rfl, (Nat.lt_of_lt_of_le (by decide) hn), rfl, rfl, 0, rfl, (h).1, fun r330 hr330 => (show (r330 = 0 → zwpE jtb zsh n (zm_MMasZ cc ss) (fun p => Nat.beq p 490) Xz post (kk__ + 0) (lGo ak_ZMMasZ 372) 372 [some (.inr (.inr (some (.inl 87)))), u1, u2] [] W) ∧ (¬ r330 = 0 → zwpE jtb zsh n (zm_MMasZ cc ss) (fun p => Nat.beq p 490) Xz post (kk__ + 0) (lGo ak_ZMMasZ 336) 336 [some (.inr (.inr (some (.inl 87)))), u1, u2] [] W) from ⟨fun c333_17 => ((((h).2 r330 hr330)).1 c333_17), fun c333_17 => ((((h).2 r330 hr330)).2 c333_17)⟩)⟩⟩)⟩)⟩⟩)⟩⟩⟩⟩)
set_option maxRecDepth 8000 in
theorem zp_MMasZ_372 {n K : Nat} {W : zW} {post : zPo} {cc ss : Nat} {u1 u2 : Option zv} {Xz : Nat → List (Option zv) → List zv → zW → Prop} (hK : 9 ≤ K) (hn : 142 ≤ n) (h : (¬ (W.1 87 13) = 4 → zwpE jtb zsh n (zm_MMasZ cc ss) (fun p => Nat.beq p 490) Xz post (K - 4) (lGo ak_ZMMasZ 427) 427 [some (.inr (.inr (some (.inl 87)))), u1, u2] [] W) ∧ ((W.1 87 13) = 4 → ((0 ≤ (0 : Int) ∧ (0 : Int) < 32768) ∧ 0 ≤ W.2.1 137 (0 : Int) ∧ W.2.1 137 (0 : Int) ≤ W.2.1 138 (0 : Int) ∧ W.2.1 138 (0 : Int) ≤ 65536) ∧ ∀ r385 : Int, (xBl r385 (xEq (W.2.1 88) (W.2.1 137 (0 : Int)) (W.2.1 138 (0 : Int)) js_b2041)) → (r385 = 0 → zwpE jtb zsh n (zm_MMasZ cc ss) (fun p => Nat.beq p 490) Xz post (K - 9) (lGo ak_ZMMasZ 427) 427 [some (.inr (.inr (some (.inl 87)))), u1, u2] [] W) ∧ (¬ r385 = 0 → zwpE jtb zsh n (zm_MMasZ cc ss) (fun p => Nat.beq p 490) Xz post (K - 9) (lGo ak_ZMMasZ 391) 391 [some (.inr (.inr (some (.inl 87)))), u1, u2] [] W))) : zwpE jtb zsh n (zm_MMasZ cc ss) (fun p => Nat.beq p 490) Xz post K (lGo ak_ZMMasZ 372) 372 [some (.inr (.inr (some (.inl 87)))), u1, u2] [] W := by
  obtain ⟨kk__, rfl⟩ : ∃ kk__, K = kk__ + 9 := ⟨K - 9, by omega⟩
  exact (show 87 < n ∧ 11 = 11 ∧ (¬ (W.1 87 13) = 4 → zwpE jtb zsh n (zm_MMasZ cc ss) (fun p => Nat.beq p 490) Xz post (kk__ + 5) (lGo ak_ZMMasZ 427) 427 [some (.inr (.inr (some (.inl 87)))), u1, u2] [] W) ∧ ((W.1 87 13) = 4 → 3 = 3 ∧ 3 = 3 ∧ false = false ∧ jin3 129 2552 7 (zm_MMasZ cc ss).2.2.1.1 = true ∧ lRm (zm_MMasZ cc ss).2.1 { frames := 5, cells := 0, slots := 0, locals := 110 } 3 = true ∧ Nat.ble 3 3 = true ∧ Nat.ble 0 8 = true ∧ 87 < n ∧ 11 = 11 ∧ Nat.ble 1000 11 = false ∧ zc_wrd1041 [.inr (.inr (some (.inl 87))), .inl (0), .inr (.inr (some (.inr 1041)))] W (fun vv__ WW__ => zwpE jtb zsh n (zm_MMasZ cc ss) (fun p => Nat.beq p 490) Xz post (kk__ + 1) (lGo ak_ZMMasZ 388) 388 [some (.inr (.inr (some (.inl 87)))), u1, u2] (vv__.toList ++ []) WW__)) from ⟨(Nat.lt_of_lt_of_le (by decide) hn), rfl, ⟨fun c377_3 => ((h).1 c377_3), fun c377_3 => ⟨rfl, ⟨rfl, rfl, rfl, rfl, rfl, rfl, (Nat.lt_of_lt_of_le (by decide) hn), rfl, rfl, 0, rfl, (((h).2 c377_3)).1, fun r385 hr385 => (show (r385 = 0 → zwpE jtb zsh n (zm_MMasZ cc ss) (fun p => Nat.beq p 490) Xz post (kk__ + 0) (lGo ak_ZMMasZ 427) 427 [some (.inr (.inr (some (.inl 87)))), u1, u2] [] W) ∧ (¬ r385 = 0 → zwpE jtb zsh n (zm_MMasZ cc ss) (fun p => Nat.beq p 490) Xz post (kk__ + 0) (lGo ak_ZMMasZ 391) 391 [some (.inr (.inr (some (.inl 87)))), u1, u2] [] W) from (have h := ((((h).2 c377_3)).2 r385 hr385); ⟨fun c388_8 => ((h).1 c388_8), fun c388_8 => ((h).2 c388_8)⟩))⟩⟩⟩⟩)
set_option maxRecDepth 8000 in
theorem zp_MMasZ_427 {n K : Nat} {W : zW} {post : zPo} {cc ss : Nat} {u1 u2 : Option zv} {Xz : Nat → List (Option zv) → List zv → zW → Prop} (hK : 9 ≤ K) (hn : 142 ≤ n) (h : (¬ (W.1 87 13) = 2 → zwpE jtb zsh n (zm_MMasZ cc ss) (fun p => Nat.beq p 490) Xz post (K - 4) (lGo ak_ZMMasZ 470) 470 [some (.inr (.inr (some (.inl 87)))), u1, u2] [] W) ∧ ((W.1 87 13) = 2 → ((0 ≤ (0 : Int) ∧ (0 : Int) < 32768) ∧ 0 ≤ W.2.1 137 (0 : Int) ∧ W.2.1 137 (0 : Int) ≤ W.2.1 138 (0 : Int) ∧ W.2.1 138 (0 : Int) ≤ 65536) ∧ ∀ r440 : Int, (xBl r440 (xEq (W.2.1 88) (W.2.1 137 (0 : Int)) (W.2.1 138 (0 : Int)) js_b2042)) → (r440 = 0 → zwpE jtb zsh n (zm_MMasZ cc ss) (fun p => Nat.beq p 490) Xz post (K - 9) (lGo ak_ZMMasZ 470) 470 [some (.inr (.inr (some (.inl 87)))), u1, u2] [] W) ∧ (¬ r440 = 0 → zwpE jtb zsh n (zm_MMasZ cc ss) (fun p => Nat.beq p 490) Xz post (K - 9) (lGo ak_ZMMasZ 446) 446 [some (.inr (.inr (some (.inl 87)))), u1, u2] [] W))) : zwpE jtb zsh n (zm_MMasZ cc ss) (fun p => Nat.beq p 490) Xz post K (lGo ak_ZMMasZ 427) 427 [some (.inr (.inr (some (.inl 87)))), u1, u2] [] W := by
  obtain ⟨kk__, rfl⟩ : ∃ kk__, K = kk__ + 9 := ⟨K - 9, by omega⟩
  exact (show 87 < n ∧ 11 = 11 ∧ (¬ (W.1 87 13) = 2 → zwpE jtb zsh n (zm_MMasZ cc ss) (fun p => Nat.beq p 490) Xz post (kk__ + 5) (lGo ak_ZMMasZ 470) 470 [some (.inr (.inr (some (.inl 87)))), u1, u2] [] W) ∧ ((W.1 87 13) = 2 → 3 = 3 ∧ 3 = 3 ∧ false = false ∧ jin3 129 2552 8 (zm_MMasZ cc ss).2.2.1.1 = true ∧ lRm (zm_MMasZ cc ss).2.1 { frames := 5, cells := 0, slots := 0, locals := 110 } 3 = true ∧ Nat.ble 3 3 = true ∧ Nat.ble 0 8 = true ∧ 87 < n ∧ 11 = 11 ∧ Nat.ble 1000 11 = false ∧ zc_wrd1042 [.inr (.inr (some (.inl 87))), .inl (0), .inr (.inr (some (.inr 1042)))] W (fun vv__ WW__ => zwpE jtb zsh n (zm_MMasZ cc ss) (fun p => Nat.beq p 490) Xz post (kk__ + 1) (lGo ak_ZMMasZ 443) 443 [some (.inr (.inr (some (.inl 87)))), u1, u2] (vv__.toList ++ []) WW__)) from ⟨(Nat.lt_of_lt_of_le (by decide) hn), rfl, ⟨fun c432_3 => ((h).1 c432_3), fun c432_3 => ⟨rfl, ⟨rfl, rfl, rfl, rfl, rfl, rfl, (Nat.lt_of_lt_of_le (by decide) hn), rfl, rfl, 0, rfl, (((h).2 c432_3)).1, fun r440 hr440 => (show (r440 = 0 → zwpE jtb zsh n (zm_MMasZ cc ss) (fun p => Nat.beq p 490) Xz post (kk__ + 0) (lGo ak_ZMMasZ 470) 470 [some (.inr (.inr (some (.inl 87)))), u1, u2] [] W) ∧ (¬ r440 = 0 → zwpE jtb zsh n (zm_MMasZ cc ss) (fun p => Nat.beq p 490) Xz post (kk__ + 0) (lGo ak_ZMMasZ 446) 446 [some (.inr (.inr (some (.inl 87)))), u1, u2] [] W) from (have h := ((((h).2 c432_3)).2 r440 hr440); ⟨fun c443_8 => ((h).1 c443_8), fun c443_8 => ((h).2 c443_8)⟩))⟩⟩⟩⟩)
set_option maxRecDepth 8000 in
theorem zp_MMasZ_470 {n K : Nat} {W : zW} {post : zPo} {cc ss : Nat} {u1 u2 : Option zv} {Xz : Nat → List (Option zv) → List zv → zW → Prop} (hK : 11 ≤ K) (hn : 142 ≤ n) (h : (¬ (W.1 87 13) = 1 → post (some (.inl (0))) W) ∧ ((W.1 87 13) = 1 → ((0 ≤ (0 : Int) ∧ (0 : Int) < 32768) ∧ 0 ≤ W.2.1 137 (0 : Int) ∧ W.2.1 137 (0 : Int) ≤ W.2.1 138 (0 : Int) ∧ W.2.1 138 (0 : Int) ≤ 65536) ∧ ∀ r483 : Int, (xBl r483 (xEq (W.2.1 88) (W.2.1 137 (0 : Int)) (W.2.1 138 (0 : Int)) js_b2043)) → (r483 = 0 → post (some (.inl (0))) W) ∧ (¬ r483 = 0 → zwpE jtb zsh n (zm_MMasZ cc ss) (fun p => Nat.beq p 490) Xz post (K - 10) (lGo ak_ZMMasZ 490) 490 [some (.inr (.inr (some (.inl 87)))), u1, u2] [.inr (.inr (some (.inl 87)))] W))) : zwpE jtb zsh n (zm_MMasZ cc ss) (fun p => Nat.beq p 490) Xz post K (lGo ak_ZMMasZ 470) 470 [some (.inr (.inr (some (.inl 87)))), u1, u2] [] W := by
  obtain ⟨kk__, rfl⟩ : ∃ kk__, K = kk__ + 11 := ⟨K - 11, by omega⟩
  exact (show 87 < n ∧ 11 = 11 ∧ (¬ (W.1 87 13) = 1 → 1 = 1 ∧ ((0 : Int) = 0 ∨ (0 : Int) = 1) ∧ post (some (.inl (0))) W) ∧ ((W.1 87 13) = 1 → 3 = 3 ∧ 3 = 3 ∧ false = false ∧ jin3 129 2552 9 (zm_MMasZ cc ss).2.2.1.1 = true ∧ lRm (zm_MMasZ cc ss).2.1 { frames := 5, cells := 0, slots := 0, locals := 110 } 3 = true ∧ Nat.ble 3 3 = true ∧ Nat.ble 0 8 = true ∧ 87 < n ∧ 11 = 11 ∧ Nat.ble 1000 11 = false ∧ zc_wrd1043 [.inr (.inr (some (.inl 87))), .inl (0), .inr (.inr (some (.inr 1043)))] W (fun vv__ WW__ => zwpE jtb zsh n (zm_MMasZ cc ss) (fun p => Nat.beq p 490) Xz post (kk__ + 3) (lGo ak_ZMMasZ 486) 486 [some (.inr (.inr (some (.inl 87)))), u1, u2] (vv__.toList ++ []) WW__)) from ⟨(Nat.lt_of_lt_of_le (by decide) hn), rfl, ⟨fun c475_3 => ⟨rfl, Or.inl rfl, ((h).1 c475_3)⟩, fun c475_3 => ⟨rfl, ⟨rfl, rfl, rfl, rfl, rfl, rfl, (Nat.lt_of_lt_of_le (by decide) hn), rfl, rfl, 0, rfl, (((h).2 c475_3)).1, fun r483 hr483 => (show (r483 = 0 → 1 = 1 ∧ ((0 : Int) = 0 ∨ (0 : Int) = 1) ∧ post (some (.inl (0))) W) ∧ (¬ r483 = 0 → zwpE jtb zsh n (zm_MMasZ cc ss) (fun p => Nat.beq p 490) Xz post (kk__ + 1) (lGo ak_ZMMasZ 490) 490 [some (.inr (.inr (some (.inl 87)))), u1, u2] [.inr (.inr (some (.inl 87)))] W) from (have h := ((((h).2 c475_3)).2 r483 hr483); ⟨fun c486_8 => ⟨rfl, Or.inl rfl, ((h).1 c486_8)⟩, fun c486_8 => ((h).2 c486_8)⟩))⟩⟩⟩⟩)
set_option maxRecDepth 8000 in
theorem zp_MMasZ_493 {n K : Nat} {V : zW} {post : zPo} {cc ss : Nat} {u1 u2 : Option zv} {Xz : Nat → List (Option zv) → List zv → zW → Prop} (hK : 4 ≤ K) (hn : 142 ≤ n) (h : ((V.1 87 16) = 0 ∨ (V.1 87 16) = 1) ∧ post (some (.inl (V.1 87 16))) V) : zwpE jtb zsh n (zm_MMasZ cc ss) (fun _ => false) Xz post K (lGo ak_ZMMasZ 493) 493 [some (.inr (.inr (some (.inl 87)))), u1, u2] [] V := by
  obtain ⟨kk__, rfl⟩ : ∃ kk__, K = kk__ + 4 := ⟨K - 4, by omega⟩
  exact (show 87 < n ∧ 11 = 11 ∧ 1 = 1 ∧ ((V.1 87 16) = 0 ∨ (V.1 87 16) = 1) ∧ post (some (.inl (V.1 87 16))) V from ⟨(Nat.lt_of_lt_of_le (by decide) hn), rfl, ⟨rfl, h⟩⟩)
theorem dN_490 : decode prog_15_method_46_code 490 = .ok (.invokevirtual 434, 3) := by decide +kernel
noncomputable def wAz (n : Nat) (W : zW) (T : xT) (h : Int) (G : xG) (n' : Nat) : zPo := fun v V => v = some (.inl 1) ∧ wEz n W T h G n' none V
noncomputable def wAj (n : Nat) (W : zW) (T : xT) (h : Int) (G : xG) : jPo := fun v σ' n' => ∃ v' V, v = Option.map zj v' ∧ zWok V ∧ σ' = zlW zsh V ∧ wAz n W T h G n' v' V
set_option maxRecDepth 20000 in
set_option maxHeartbeats 1000000 in
theorem zj_MMasked {l : Launch} {E : jE} {n : Nat} (hn : 142 ≤ n) {W : zW} {T : xT} {h : Int} {G : xG} (hW : zWok W) (hi : wJn W T h G) (hw : wWn W) (hR1 : W.1 87 16 = 1) (t : wTk W 27) (hE : eWo n W) : jMet l E jcl jtb lw_tbl y_MM_asked { frames := 41, cells := (eCc W), slots := (eSs W), locals := 2750 } (zs [.inr (.inr (some (.inl 87)))]) (zlW zsh W) n (wAj n W T h G) := by
  have tb : 1 ≤ W.1 87 13 ∧ W.1 87 13 ≤ 1 := t.2
  have we : zWq W 0 js_b2043 := t.1
  have w0 := (hw.2 0 (by omega) (by have := hw.1; omega)).1
  have nw : ∀ k : Nat, k < 27 → zWq W 0 (yKw k) → False := fun k hk z => wTk_27 t hk z
  refine jMet_of (Y := y_MM_asked) rfl false (fun h => by cases h) (by decide) (Nat.le_of_ble_eq_true rfl) _ rfl (fun M hl hR X hr => ?_)
  have hok2 := jokLG_ok (fun _ _ => jtF_ok) lo_MM ao_ZMMasZ
  have run : ∀ (ex : Nat → Bool) (Xz : Nat → List (Option zv) → List zv → zW → Prop) (n1 ca sl K pc : Nat) (lv : List (Option zv)) (st : List zv) (V : zW), 142 ≤ n1 → (ca ≤ (eCc W) ∧ sl ≤ (eSs W)) → zOl lv → zOs st → zWok V → (∀ pc lv st U, zOl lv → zOs st → zWok U → ex pc = true → Xz pc lv st U → jJ E jcl 3 M (jQ E jcl M (wAj n W T h G) (eCc W) (eSs W)) n1 ca sl pc (zl lv) (zs st) (zlW zsh U)) → zwpE jtb zsh n1 (zm_MMasZ (eCc W) (eSs W)) ex Xz (wAz n W T h G n1) K (lGo ak_ZMMasZ pc) pc lv st V → jJ E jcl 3 M (jQ E jcl M (wAj n W T h G) (eCc W) (eSs W)) n1 ca sl pc (zl lv) (zs st) (zlW zsh V) := by
    intro ex Xz n1 ca sl K pc lv st V hn1 hcs hL hO hV hX hz
    unfold lGo at hz
    split at hz
    next js' hj => exact zwpE_run (m := zm_MMasZ (eCc W) (eSs W)) jC X hl hR hr (aAllc ⟨(aSp_3 (jTA_in (wi := 3033) (jtF_ok rfl) rfl)), fun e => absurd e (by decide), fun e => absurd e (by decide), fun e => absurd e (by decide)⟩ (aAllc ⟨(aSp_3 (jTA_in (wi := 3034) (jtF_ok rfl) rfl)), fun e => absurd e (by decide), fun e => absurd e (by decide), fun e => absurd e (by decide)⟩ (aAllc ⟨(aSp_2 (List.mem_of_getElem? (i := 39) rfl)), fun e => absurd e (by decide), fun e => absurd e (by decide), fun e => absurd e (by decide)⟩ (aAllc ⟨(aSp_2 (List.mem_of_getElem? (i := 40) rfl)), fun e => absurd e (by decide), fun e => absurd e (by decide), fun e => absurd e (by decide)⟩ (aAllc ⟨(aSp_2 (List.mem_of_getElem? (i := 41) rfl)), fun e => absurd e (by decide), fun e => absurd e (by decide), fun e => absurd e (by decide)⟩ (aAllc ⟨(aSp_2 (List.mem_of_getElem? (i := 42) rfl)), fun e => absurd e (by decide), fun e => absurd e (by decide), fun e => absurd e (by decide)⟩ (aAllc ⟨(aSp_2 (List.mem_of_getElem? (i := 43) rfl)), fun e => absurd e (by decide), fun e => absurd e (by decide), fun e => absurd e (by decide)⟩ (aAllc ⟨(aSp_2 (List.mem_of_getElem? (i := 44) rfl)), fun e => absurd e (by decide), fun e => absurd e (by decide), fun e => absurd e (by decide)⟩ (aAllc ⟨(aSp_2 (List.mem_of_getElem? (i := 45) rfl)), fun e => absurd e (by decide), fun e => absurd e (by decide), fun e => absurd e (by decide)⟩ (aAllc ⟨(aSp_2 (List.mem_of_getElem? (i := 46) rfl)), fun e => absurd e (by decide), fun e => absurd e (by decide), fun e => absurd e (by decide)⟩ (aAllc ⟨(aSp_2 (List.mem_of_getElem? (i := 47) rfl)), fun e => absurd e (by decide), fun e => absurd e (by decide), fun e => absurd e (by decide)⟩ (aAllc ⟨(aSp_2 (List.mem_of_getElem? (i := 48) rfl)), fun e => absurd e (by decide), fun e => absurd e (by decide), fun e => absurd e (by decide)⟩ (fun q h => by cases h))))))))))))) (aAllc (fun G h => by obtain rfl := Option.some.inj h; exact ql_MM_129) (aAllc (fun G h => by obtain rfl := Option.some.inj h; exact ql_MM_129) (aAllc (fun G h => by obtain rfl := Option.some.inj h; exact ql_MM_129) (aAllc (fun G h => by obtain rfl := Option.some.inj h; exact ql_MM_129) (aAllc (fun G h => by obtain rfl := Option.some.inj h; exact ql_MM_129) (aAllc (fun G h => by obtain rfl := Option.some.inj h; exact ql_MM_129) (aAllc (fun G h => by obtain rfl := Option.some.inj h; exact ql_MM_129) (aAllc (fun G h => by obtain rfl := Option.some.inj h; exact ql_MM_129) (aAllc (fun G h => by obtain rfl := Option.some.inj h; exact ql_MM_129) (aAllc (fun G h => by obtain rfl := Option.some.inj h; exact ql_MM_129) (fun q h => by cases h))))))))))) (aAllc (zk_wrd1035c hn1) (aAllc (zk_wrd1036c hn1) (aAllc (zk_wrd1037c hn1) (aAllc (zk_wrd1038c hn1) (aAllc (zk_wrd1039c hn1) (aAllc (zk_wrd1016c hn1) (aAllc (zk_wrd1040c hn1) (aAllc (zk_wrd1041c hn1) (aAllc (zk_wrd1042c hn1) (aAllc (zk_wrd1043c hn1) (fun q h => by cases h))))))))))) hok2 (fun v U hv hU hp => ⟨v, U, rfl, hU, rfl, hp⟩) hX hcs.1 hcs.2 K js' pc lv st V (aSuf_ok hok2 hj) hL hO hV hz
    next =>
      cases K with
      | zero => unfold zwpE at hz; exact hz.elim
      | succ k => unfold zwpE at hz; exact hz.elim
  refine run (fun p => Nat.beq p 490) (fun pc lv st U => pc = 490 ∧ (∃ u1 u2, lv = [some (.inr (.inr (some (.inl 87)))), u1, u2]) ∧ st = [.inr (.inr (some (.inl 87)))] ∧ U = W) n 0 0 2000 0 (zent [.inr (.inr (some (.inl 87)))] 3) [] W hn ⟨Nat.zero_le _, Nat.zero_le _⟩ (zOl_ent (fun v hv => by rcases List.mem_cons.mp hv with rfl | hv; trivial; cases hv)) (fun v hv => by cases hv) hW ?_ ?_
  · rintro pc lv st U hL - hU he ⟨rfl, ⟨u1, u2, rfl⟩, rfl, rfl⟩
    have hM := zj_MMends (l := l) (E := E) hn hU hi hE
    rw [← hl] at hM
    refine jk_callVD (Y := y_MM_ends) (wi := 3042) X hR dN_490 ql_MM_434 m_MM_ends i_MM_ends e_MM_ends (ci := 11) (q := ("ChessHouseModel", F_MM, 19)) rfl rfl (a := 87) (vals := []) (r := []) (by omega) rfl hM rfl rfl ⟨Nat.le_of_ble_eq_true rfl, Nat.le_of_ble_eq_true rfl⟩ ⟨by show 0 + eCc U ≤ eCc U; omega, by show 0 + eSs U ≤ eSs U; omega⟩ (by decide) (fun v σ' n' hp => ?_)
    obtain ⟨v', V, rfl, hV, rfl, z⟩ := hp
    obtain rfl : v' = none := z.1
    have n3 : 142 ≤ n' := by have := eGn_l z.2.2.2.2.2.2.2.2.2.1; omega
    have v16 : V.1 87 16 = 1 := z.2.2.2.2.2.2.1.trans hR1
    have key : ∀ c s, c ≤ eCc U → s ≤ eSs U → jJ E jcl 3 M (jQ E jcl M (wAj n U T h G) (eCc U) (eSs U)) n' c s 493 (zl [some (.inr (.inr (some (.inl 87)))), u1, u2]) (zs []) (zlW zsh V) := by
      intro c s hc hs
      refine run (fun _ => false) (fun _ _ _ _ => False) n' c s 20 493 _ _ V n3 ⟨hc, hs⟩ hL (fun v hv => by cases hv) hV (fun pc lv st U _ _ _ h => by cases h) ?_
      have fin : ∀ {x : Int}, x = 1 → wAz n U T h G n' (some (.inl x)) V := fun e => ⟨by rw [e], z⟩
      exact zp_MMasZ_493 (by omega) n3 ⟨(Or.inr v16), (fin (by rw [v16]))⟩
    exact ⟨fun _ => key 0 0 (Nat.zero_le _) (Nat.zero_le _), fun _ => key _ _ (Nat.le_of_eq (Nat.zero_add _)) (Nat.le_of_eq (Nat.zero_add _))⟩
  · have h470 : ∀ (K : Nat) (u1 u2 : Option zv), 200 ≤ K → zwpE jtb zsh n (zm_MMasZ (eCc W) (eSs W)) (fun p => Nat.beq p 490) (fun pc lv st U => pc = 490 ∧ (∃ u1 u2, lv = [some (.inr (.inr (some (.inl 87)))), u1, u2]) ∧ st = [.inr (.inr (some (.inl 87)))] ∧ U = W) (wAz n W T h G n) K (lGo ak_ZMMasZ 470) 470 [some (.inr (.inr (some (.inl 87)))), u1, u2] [] W := by
      intro K u1 u2 hK
      have x490 : 490 = 490 ∧ (∃ u1' u2' : Option zv, ([some (.inr (.inr (some (.inl 87)))), u1, u2] : List (Option zv)) = [some (.inr (.inr (some (.inl 87)))), u1', u2']) ∧ ([.inr (.inr (some (.inl 87)))] : List zv) = [.inr (.inr (some (.inl 87)))] ∧ W = W := ⟨rfl, ⟨_, _, rfl⟩, rfl, rfl⟩
      exact zp_MMasZ_470 (by omega) hn ⟨fun c475 => (False.elim (by first | omega | exact xBl_0 hr483 (by omega) we)), fun c475 => ⟨⟨⟨by omega, by omega⟩, w0.2.1, w0.2.2.1, w0.2.2.2.1⟩, fun r483 hr483 => ⟨fun c486 => (False.elim (by first | omega | exact xBl_0 hr483 (by omega) we)), fun c486 => (zwpE_y rfl (by omega) ⟨_, _, rfl⟩ (x490))⟩⟩⟩
    have h427 : ∀ (K : Nat) (u1 u2 : Option zv), 300 ≤ K → zwpE jtb zsh n (zm_MMasZ (eCc W) (eSs W)) (fun p => Nat.beq p 490) (fun pc lv st U => pc = 490 ∧ (∃ u1 u2, lv = [some (.inr (.inr (some (.inl 87)))), u1, u2]) ∧ st = [.inr (.inr (some (.inl 87)))] ∧ U = W) (wAz n W T h G n) K (lGo ak_ZMMasZ 427) 427 [some (.inr (.inr (some (.inl 87)))), u1, u2] [] W := by
      intro K u1 u2 hK
      have x490 : 490 = 490 ∧ (∃ u1' u2' : Option zv, ([some (.inr (.inr (some (.inl 87)))), u1, u2] : List (Option zv)) = [some (.inr (.inr (some (.inl 87)))), u1', u2']) ∧ ([.inr (.inr (some (.inl 87)))] : List zv) = [.inr (.inr (some (.inl 87)))] ∧ W = W := ⟨rfl, ⟨_, _, rfl⟩, rfl, rfl⟩
      exact zp_MMasZ_427 (by omega) hn ⟨fun c432 => (h470 _ _ _ (by omega)), fun c432 => ⟨⟨⟨by omega, by omega⟩, w0.2.1, w0.2.2.1, w0.2.2.2.1⟩, fun r440 hr440 => ⟨fun c443 => (h470 _ _ _ (by omega)), fun c443 => (False.elim (by first | omega | exact nw 21 (by decide) (xBl_1 hr440 (by omega))))⟩⟩⟩
    have h372 : ∀ (K : Nat) (u1 u2 : Option zv), 400 ≤ K → zwpE jtb zsh n (zm_MMasZ (eCc W) (eSs W)) (fun p => Nat.beq p 490) (fun pc lv st U => pc = 490 ∧ (∃ u1 u2, lv = [some (.inr (.inr (some (.inl 87)))), u1, u2]) ∧ st = [.inr (.inr (some (.inl 87)))] ∧ U = W) (wAz n W T h G n) K (lGo ak_ZMMasZ 372) 372 [some (.inr (.inr (some (.inl 87)))), u1, u2] [] W := by
      intro K u1 u2 hK
      have x490 : 490 = 490 ∧ (∃ u1' u2' : Option zv, ([some (.inr (.inr (some (.inl 87)))), u1, u2] : List (Option zv)) = [some (.inr (.inr (some (.inl 87)))), u1', u2']) ∧ ([.inr (.inr (some (.inl 87)))] : List zv) = [.inr (.inr (some (.inl 87)))] ∧ W = W := ⟨rfl, ⟨_, _, rfl⟩, rfl, rfl⟩
      exact zp_MMasZ_372 (by omega) hn ⟨fun c377 => (h427 _ _ _ (by omega)), fun c377 => ⟨⟨⟨by omega, by omega⟩, w0.2.1, w0.2.2.1, w0.2.2.2.1⟩, fun r385 hr385 => ⟨fun c388 => (h427 _ _ _ (by omega)), fun c388 => (False.elim (by first | omega | exact nw 20 (by decide) (xBl_1 hr385 (by omega))))⟩⟩⟩
    have h298 : ∀ (K : Nat) (u1 u2 : Option zv), 500 ≤ K → zwpE jtb zsh n (zm_MMasZ (eCc W) (eSs W)) (fun p => Nat.beq p 490) (fun pc lv st U => pc = 490 ∧ (∃ u1 u2, lv = [some (.inr (.inr (some (.inl 87)))), u1, u2]) ∧ st = [.inr (.inr (some (.inl 87)))] ∧ U = W) (wAz n W T h G n) K (lGo ak_ZMMasZ 298) 298 [some (.inr (.inr (some (.inl 87)))), u1, u2] [] W := by
      intro K u1 u2 hK
      have x490 : 490 = 490 ∧ (∃ u1' u2' : Option zv, ([some (.inr (.inr (some (.inl 87)))), u1, u2] : List (Option zv)) = [some (.inr (.inr (some (.inl 87)))), u1', u2']) ∧ ([.inr (.inr (some (.inl 87)))] : List zv) = [.inr (.inr (some (.inl 87)))] ∧ W = W := ⟨rfl, ⟨_, _, rfl⟩, rfl, rfl⟩
      exact zp_MMasZ_298 (by omega) hn ⟨fun c303 => ⟨⟨⟨by omega, by omega⟩, w0.2.1, w0.2.2.1, w0.2.2.2.1⟩, fun r330 hr330 => ⟨fun c333 => (h372 _ _ _ (by omega)), fun c333 => (False.elim (by first | omega | exact nw 19 (by decide) (xBl_1 hr330 (by omega))))⟩⟩, fun c303 => ⟨fun c311 => (h372 _ _ _ (by omega)), fun c311 => ⟨(False.elim (by omega)), fun r319 hr319 => ⟨fun c322 => (h372 _ _ _ (by omega)), fun c322 => ⟨⟨⟨by omega, by omega⟩, w0.2.1, w0.2.2.1, w0.2.2.2.1⟩, fun r330 hr330 => ⟨fun c333 => (h372 _ _ _ (by omega)), fun c333 => (False.elim (by first | omega | exact nw 19 (by decide) (xBl_1 hr330 (by omega))))⟩⟩⟩⟩⟩⟩
    have h260 : ∀ (K : Nat) (u1 u2 : Option zv), 600 ≤ K → zwpE jtb zsh n (zm_MMasZ (eCc W) (eSs W)) (fun p => Nat.beq p 490) (fun pc lv st U => pc = 490 ∧ (∃ u1 u2, lv = [some (.inr (.inr (some (.inl 87)))), u1, u2]) ∧ st = [.inr (.inr (some (.inl 87)))] ∧ U = W) (wAz n W T h G n) K (lGo ak_ZMMasZ 260) 260 [some (.inr (.inr (some (.inl 87)))), u1, u2] [] W := by
      intro K u1 u2 hK
      have x490 : 490 = 490 ∧ (∃ u1' u2' : Option zv, ([some (.inr (.inr (some (.inl 87)))), u1, u2] : List (Option zv)) = [some (.inr (.inr (some (.inl 87)))), u1', u2']) ∧ ([.inr (.inr (some (.inl 87)))] : List zv) = [.inr (.inr (some (.inl 87)))] ∧ W = W := ⟨rfl, ⟨_, _, rfl⟩, rfl, rfl⟩
      exact zp_MMasZ_260 (by omega) hn ⟨fun c265 => (h298 _ _ _ (by omega)), fun c265 => ⟨⟨⟨by omega, by omega⟩, w0.2.1, w0.2.2.1, w0.2.2.2.1⟩, fun r273 hr273 => ⟨fun c276 => (h298 _ _ _ (by omega)), fun c276 => (False.elim (by first | omega | exact nw 18 (by decide) (xBl_1 hr273 (by omega))))⟩⟩⟩
    have h180 : ∀ (K : Nat) (u1 u2 : Option zv), 700 ≤ K → zwpE jtb zsh n (zm_MMasZ (eCc W) (eSs W)) (fun p => Nat.beq p 490) (fun pc lv st U => pc = 490 ∧ (∃ u1 u2, lv = [some (.inr (.inr (some (.inl 87)))), u1, u2]) ∧ st = [.inr (.inr (some (.inl 87)))] ∧ U = W) (wAz n W T h G n) K (lGo ak_ZMMasZ 180) 180 [some (.inr (.inr (some (.inl 87)))), u1, u2] [] W := by
      intro K u1 u2 hK
      have x490 : 490 = 490 ∧ (∃ u1' u2' : Option zv, ([some (.inr (.inr (some (.inl 87)))), u1, u2] : List (Option zv)) = [some (.inr (.inr (some (.inl 87)))), u1', u2']) ∧ ([.inr (.inr (some (.inl 87)))] : List zv) = [.inr (.inr (some (.inl 87)))] ∧ W = W := ⟨rfl, ⟨_, _, rfl⟩, rfl, rfl⟩
      exact zp_MMasZ_180 (by omega) hn ⟨fun c185 => (h260 _ _ _ (by omega)), fun c185 => ⟨⟨⟨by omega, by omega⟩, w0.2.1, w0.2.2.1, w0.2.2.2.1⟩, fun r193 hr193 => ⟨fun c196 => (h260 _ _ _ (by omega)), fun c196 => (False.elim (by first | omega | exact nw 17 (by decide) (xBl_1 hr193 (by omega))))⟩⟩⟩
    have h154 : ∀ (K : Nat) (u1 u2 : Option zv), 800 ≤ K → zwpE jtb zsh n (zm_MMasZ (eCc W) (eSs W)) (fun p => Nat.beq p 490) (fun pc lv st U => pc = 490 ∧ (∃ u1 u2, lv = [some (.inr (.inr (some (.inl 87)))), u1, u2]) ∧ st = [.inr (.inr (some (.inl 87)))] ∧ U = W) (wAz n W T h G n) K (lGo ak_ZMMasZ 154) 154 [some (.inr (.inr (some (.inl 87)))), u1, u2] [] W := by
      intro K u1 u2 hK
      have x490 : 490 = 490 ∧ (∃ u1' u2' : Option zv, ([some (.inr (.inr (some (.inl 87)))), u1, u2] : List (Option zv)) = [some (.inr (.inr (some (.inl 87)))), u1', u2']) ∧ ([.inr (.inr (some (.inl 87)))] : List zv) = [.inr (.inr (some (.inl 87)))] ∧ W = W := ⟨rfl, ⟨_, _, rfl⟩, rfl, rfl⟩
      exact zp_MMasZ_154 (by omega) hn ⟨fun c159 => (h180 _ _ _ (by omega)), fun c159 => ⟨⟨⟨by omega, by omega⟩, w0.2.1, w0.2.2.1, w0.2.2.2.1⟩, fun r167 hr167 => ⟨fun c170 => (h180 _ _ _ (by omega)), fun c170 => (False.elim (by first | omega | exact nw 16 (by decide) (xBl_1 hr167 (by omega))))⟩⟩⟩
    have h80 : ∀ (K : Nat) (u1 u2 : Option zv), 900 ≤ K → zwpE jtb zsh n (zm_MMasZ (eCc W) (eSs W)) (fun p => Nat.beq p 490) (fun pc lv st U => pc = 490 ∧ (∃ u1 u2, lv = [some (.inr (.inr (some (.inl 87)))), u1, u2]) ∧ st = [.inr (.inr (some (.inl 87)))] ∧ U = W) (wAz n W T h G n) K (lGo ak_ZMMasZ 80) 80 [some (.inr (.inr (some (.inl 87)))), u1, u2] [] W := by
      intro K u1 u2 hK
      have x490 : 490 = 490 ∧ (∃ u1' u2' : Option zv, ([some (.inr (.inr (some (.inl 87)))), u1, u2] : List (Option zv)) = [some (.inr (.inr (some (.inl 87)))), u1', u2']) ∧ ([.inr (.inr (some (.inl 87)))] : List zv) = [.inr (.inr (some (.inl 87)))] ∧ W = W := ⟨rfl, ⟨_, _, rfl⟩, rfl, rfl⟩
      exact zp_MMasZ_80 (by omega) hn ⟨fun c85 => (h154 _ _ _ (by omega)), fun c85 => ⟨⟨⟨by omega, by omega⟩, w0.2.1, w0.2.2.1, w0.2.2.2.1⟩, fun r93 hr93 => ⟨fun c96 => (h154 _ _ _ (by omega)), fun c96 => (False.elim (by first | omega | exact nw 6 (by decide) (xBl_1 hr93 (by omega))))⟩⟩⟩
    exact zp_MMasZ_0 (by omega) hn ⟨fun c5 => (h80 _ _ _ (by omega)), fun c5 => ⟨⟨⟨by omega, by omega⟩, w0.2.1, w0.2.2.1, w0.2.2.2.1⟩, fun r13 hr13 => ⟨fun c16 => (h80 _ _ _ (by omega)), fun c16 => (False.elim (by first | omega | exact nw 5 (by decide) (xBl_1 hr13 (by omega))))⟩⟩⟩
noncomputable def ak_ZMMcmZ : List jI := [(.aload_n 0, 1, (0, 0, 0, 0, 0)), (.invokevirtual 133, 3, (0, 0, 2384, 0, 0)), (.ifCond .ne 9, 3, (13, 0, 0, 0, 0)), (.aload_n 0, 1, (0, 0, 0, 0, 0)), (.iconst 1, 1, (0, 0, 0, 1, 0)), (.invokevirtual 137, 3, (0, 0, 0, 0, 0)), (.return_, 1, (0, 0, 0, 0, 0)), (.aload_n 0, 1, (0, 0, 0, 0, 0)), (.getfield 75, 3, (11, 8, 2310, 0, 0)), (.istore_n 1, 1, (1, 0, 0, 0, 0)), (.iload_n 1, 1, (1, 0, 0, 0, 0)), (.aload_n 0, 1, (0, 0, 0, 0, 0)), (.getfield 72, 3, (11, 9, 2311, 0, 0)), (.if_icmp .ge 20, 3, (43, 0, 0, 0, 0)), (.aload_n 0, 1, (0, 0, 0, 0, 0)), (.getfield 10, 3, (11, 2, 2304, 0, 0)), (.iload_n 1, 1, (1, 0, 0, 0, 0)), (.baload, 1, (0, 0, 0, 0, 0)), (.bipush 32, 2, (0, 0, 0, 32, 0)), (.if_icmp .eq 9, 3, (43, 0, 0, 0, 0)), (.iinc 1 1, 3, (0, 0, 0, 1, 0)), (.goto (-22), 3, (18, 0, 0, 0, 0)), (.aload_n 0, 1, (0, 0, 0, 0, 0)), (.ldc 139, 2, (999, 0, 0, 0, 0)), (.aload_n 0, 1, (0, 0, 0, 0, 0)), (.getfield 75, 3, (11, 8, 2310, 0, 0)), (.iload_n 1, 1, (1, 0, 0, 0, 0)), (.invokevirtual 121, 3, (1, 0, 2417, 0, 0)), (.ifCond .eq 11, 3, (65, 0, 0, 0, 0)), (.aload_n 0, 1, (0, 0, 0, 0, 0)), (.iload_n 1, 1, (1, 0, 0, 0, 0)), (.invokevirtual 141, 3, (0, 0, 0, 0, 0)), (.goto 100, 3, (162, 0, 0, 0, 0)), (.aload_n 0, 1, (0, 0, 0, 0, 0)), (.ldc 143, 2, (999, 0, 0, 0, 0)), (.aload_n 0, 1, (0, 0, 0, 0, 0)), (.getfield 75, 3, (11, 8, 2310, 0, 0)), (.iload_n 1, 1, (1, 0, 0, 0, 0)), (.invokevirtual 121, 3, (2, 0, 2417, 0, 0)), (.ifCond .eq 11, 3, (87, 0, 0, 0, 0)), (.aload_n 0, 1, (0, 0, 0, 0, 0)), (.iload_n 1, 1, (1, 0, 0, 0, 0)), (.invokevirtual 144, 3, (0, 0, 0, 0, 0)), (.goto 78, 3, (162, 0, 0, 0, 0)), (.aload_n 0, 1, (0, 0, 0, 0, 0)), (.ldc 147, 2, (999, 0, 0, 0, 0)), (.aload_n 0, 1, (0, 0, 0, 0, 0)), (.getfield 75, 3, (11, 8, 2310, 0, 0)), (.iload_n 1, 1, (1, 0, 0, 0, 0)), (.invokevirtual 121, 3, (3, 0, 2417, 0, 0)), (.ifCond .eq 11, 3, (109, 0, 0, 0, 0)), (.aload_n 0, 1, (0, 0, 0, 0, 0)), (.iload_n 1, 1, (1, 0, 0, 0, 0)), (.invokevirtual 149, 3, (0, 0, 0, 0, 0)), (.goto 56, 3, (162, 0, 0, 0, 0)), (.aload_n 0, 1, (0, 0, 0, 0, 0)), (.invokevirtual 151, 3, (4, 0, 2543, 0, 0)), (.aload_n 0, 1, (0, 0, 0, 0, 0)), (.aload_n 0, 1, (0, 0, 0, 0, 0)), (.getfield 108, 3, (11, 13, 2315, 0, 0)), (.ifCond .le 7, 3, (125, 0, 0, 0, 0)), (.iconst 1, 1, (0, 0, 0, 1, 0)), (.goto 4, 3, (126, 0, 0, 0, 0)), (.iconst 0, 1, (0, 0, 0, 0, 0)), (.putfield 125, 3, (11, 16, 2318, 1, 0)), (.aload_n 0, 1, (0, 0, 0, 0, 0)), (.getfield 125, 3, (11, 16, 2318, 0, 0)), (.ifCond .eq 24, 3, (157, 0, 0, 0, 0)), (.aload_n 0, 1, (0, 0, 0, 0, 0)), (.invokevirtual 154, 3, (5, 0, 2547, 0, 0)), (.ifCond .ne 22, 3, (162, 0, 0, 0, 0)), (.aload_n 0, 1, (0, 0, 0, 0, 0)), (.invokevirtual 157, 3, (0, 0, 0, 0, 0)), (.ifCond .ne 15, 3, (162, 0, 0, 0, 0)), (.aload_n 0, 1, (0, 0, 0, 0, 0)), (.invokevirtual 160, 3, (0, 0, 0, 0, 0)), (.ifCond .ne 8, 3, (162, 0, 0, 0, 0)), (.aload_n 0, 1, (0, 0, 0, 0, 0)), (.iconst 1, 1, (0, 0, 0, 1, 0)), (.invokevirtual 137, 3, (0, 0, 0, 0, 0)), (.return_, 1, (0, 0, 0, 0, 0))]
theorem ao_ZMMcmZ : jokLG jtF lk_MM "ChessHouseModel" jcl jtb 2 prog_15_method_26_code 0 ak_ZMMcmZ = true := by decide +kernel
noncomputable def zm_MMcmZ (cc ss : Nat) : zM := (none, { frames := 42, cells := cc, slots := ss, locals := 2900 }, ([(133, 2384, 0), (121, 2417, 1), (121, 2417, 2), (121, 2417, 3), (151, 2543, 4), (154, 2547, 5)], [(1, 139, 0, .inr 1021), (1, 143, 0, .inr 1022), (1, 147, 0, .inr 1023)]), [(y_MM_isOfText, false, 1, 11, { frames := 1, cells := 0, slots := 0, locals := 20 }, zc_MMiot), (y_MM_isRow, false, 4, 11, { frames := 4, cells := 0, slots := 0, locals := 85 }, zc_rw1021), (y_MM_isRow, false, 4, 11, { frames := 4, cells := 0, slots := 0, locals := 85 }, zc_rw1022), (y_MM_isRow, false, 4, 11, { frames := 4, cells := 0, slots := 0, locals := 85 }, zc_rw1023), (y_MM_split, false, 1, 11, { frames := 0, cells := 0, slots := 0, locals := 0 }, zc_MMspl), (y_MM_tree, false, 1, 11, { frames := 28, cells := 0, slots := 0, locals := 1622 }, zc_MMtre)], ak_ZMMcmZ)
set_option maxRecDepth 8000 in
theorem zp_MMcmZ_0 {n K : Nat} {W : zW} {post : zPo} {cc ss : Nat} {u1 : Option zv} {Xz : Nat → List (Option zv) → List zv → zW → Prop} (hK : 6 ≤ K) (hn : 142 ≤ n) (h : (0 ≤ W.1 87 8 ∧ W.1 87 8 ≤ W.1 87 9 ∧ W.1 87 9 ≤ 65536) ∧ ∀ r1 : Int, (xBl r1 (xTx (W.2.1 88) (W.1 87 8) (W.1 87 9))) → (¬ r1 = 0 → zwpE jtb zsh n (zm_MMcmZ cc ss) (fun p => Nat.beq p 144) Xz post (K - 6) (lGo ak_ZMMcmZ 18) 18 [some (.inr (.inr (some (.inl 87)))), some (.inl (W.1 87 8))] [] W) ∧ (r1 = 0 → zwpE jtb zsh n (zm_MMcmZ cc ss) (fun p => Nat.beq p 144) Xz post (K - 3) (lGo ak_ZMMcmZ 7) 7 [some (.inr (.inr (some (.inl 87)))), u1] [] W)) : zwpE jtb zsh n (zm_MMcmZ cc ss) (fun p => Nat.beq p 144) Xz post K (lGo ak_ZMMcmZ 0) 0 [some (.inr (.inr (some (.inl 87)))), u1] [] W := by
  obtain ⟨kk__, rfl⟩ : ∃ kk__, K = kk__ + 6 := ⟨K - 6, by omega⟩
  exact (show 3 = 3 ∧ false = false ∧ jin3 133 2384 0 (zm_MMcmZ cc ss).2.2.1.1 = true ∧ lRm (zm_MMcmZ cc ss).2.1 { frames := 1, cells := 0, slots := 0, locals := 20 } 3 = true ∧ Nat.ble 1 1 = true ∧ Nat.ble 0 8 = true ∧ 87 < n ∧ 11 = 11 ∧ Nat.ble 1000 11 = false ∧ zc_MMiot [.inr (.inr (some (.inl 87)))] W (fun vv__ WW__ => zwpE jtb zsh n (zm_MMcmZ cc ss) (fun p => Nat.beq p 144) Xz post (kk__ + 4) (lGo ak_ZMMcmZ 4) 4 [some (.inr (.inr (some (.inl 87)))), u1] (vv__.toList ++ []) WW__) from ⟨rfl, rfl, rfl, rfl, rfl, rfl, (Nat.lt_of_lt_of_le (by decide) hn), rfl, rfl, rfl, (h).1, fun r1 hr1 => (show (¬ r1 = 0 → 87 < n ∧ 11 = 11 ∧ zwpE jtb zsh n (zm_MMcmZ cc ss) (fun p => Nat.beq p 144) Xz post (kk__ + 0) (lGo ak_ZMMcmZ 18) 18 [some (.inr (.inr (some (.inl 87)))), some (.inl (W.1 87 8))] [] W) ∧ (r1 = 0 → zwpE jtb zsh n (zm_MMcmZ cc ss) (fun p => Nat.beq p 144) Xz post (kk__ + 3) (lGo ak_ZMMcmZ 7) 7 [some (.inr (.inr (some (.inl 87)))), u1] [] W) from ⟨fun c4_2 => (have h := ((((h).2 r1 hr1)).1 c4_2); ⟨(Nat.lt_of_lt_of_le (by decide) hn), rfl, h⟩), fun c4_2 => ((((h).2 r1 hr1)).2 c4_2)⟩)⟩)
set_option maxRecDepth 8000 in
theorem zp_MMcmZ_18 {n K : Nat} {W : zW} {post : zPo} {cc ss : Nat} {x : Int} {Xz : Nat → List (Option zv) → List zv → zW → Prop} (hK : 12 ≤ K) (hn : 142 ≤ n) (h : ((W.1 87 9) ≤ x → zwpE jtb zsh n (zm_MMcmZ cc ss) (fun p => Nat.beq p 144) Xz post (K - 4) (lGo ak_ZMMcmZ 43) 43 [some (.inr (.inr (some (.inl 87)))), some (.inl (x))] [] W) ∧ (¬ (W.1 87 9) ≤ x → (0 ≤ x ∧ x < 65536) ∧ ((W.2.1 88 x) = 32 → zwpE jtb zsh n (zm_MMcmZ cc ss) (fun p => Nat.beq p 144) Xz post (K - 10) (lGo ak_ZMMcmZ 43) 43 [some (.inr (.inr (some (.inl 87)))), some (.inl (x))] [] W) ∧ (¬ (W.2.1 88 x) = 32 → (-2147483648 ≤ x + 1 ∧ x + 1 ≤ 2147483647) ∧ zwpE jtb zsh n (zm_MMcmZ cc ss) (fun p => Nat.beq p 144) Xz post (K - 12) (lGo ak_ZMMcmZ 18) 18 [some (.inr (.inr (some (.inl 87)))), some (.inl (x + 1))] [] W))) : zwpE jtb zsh n (zm_MMcmZ cc ss) (fun p => Nat.beq p 144) Xz post K (lGo ak_ZMMcmZ 18) 18 [some (.inr (.inr (some (.inl 87)))), some (.inl (x))] [] W := by
  obtain ⟨kk__, rfl⟩ : ∃ kk__, K = kk__ + 12 := ⟨K - 12, by omega⟩
  exact (show 87 < n ∧ 11 = 11 ∧ ((W.1 87 9) ≤ x → zwpE jtb zsh n (zm_MMcmZ cc ss) (fun p => Nat.beq p 144) Xz post (kk__ + 8) (lGo ak_ZMMcmZ 43) 43 [some (.inr (.inr (some (.inl 87)))), some (.inl (x))] [] W) ∧ (¬ (W.1 87 9) ≤ x → 87 < n ∧ 11 = 11 ∧ 88 < n ∧ FieldType.byte = FieldType.byte ∧ (0 ≤ x ∧ x < 65536) ∧ ((W.2.1 88 x) = 32 → zwpE jtb zsh n (zm_MMcmZ cc ss) (fun p => Nat.beq p 144) Xz post (kk__ + 2) (lGo ak_ZMMcmZ 43) 43 [some (.inr (.inr (some (.inl 87)))), some (.inl (x))] [] W) ∧ (¬ (W.2.1 88 x) = 32 → (-2147483648 ≤ x + 1 ∧ x + 1 ≤ 2147483647) ∧ zwpE jtb zsh n (zm_MMcmZ cc ss) (fun p => Nat.beq p 144) Xz post (kk__ + 0) (lGo ak_ZMMcmZ 18) 18 [some (.inr (.inr (some (.inl 87)))), some (.inl (x + 1))] [] W)) from ⟨(Nat.lt_of_lt_of_le (by decide) hn), rfl, ⟨fun c23_3 => ((h).1 c23_3), fun c23_3 => ⟨(Nat.lt_of_lt_of_le (by decide) hn), rfl, ⟨(Nat.lt_of_lt_of_le (by decide) hn), rfl, (((h).2 c23_3)).1, ⟨fun c34_9 => (((((h).2 c23_3)).2).1 c34_9), fun c34_9 => (have h := (((((h).2 c23_3)).2).2 c34_9); ⟨(h).1, (h).2⟩)⟩⟩⟩⟩⟩)
set_option maxRecDepth 8000 in
theorem zp_MMcmZ_43 {n K : Nat} {W : zW} {post : zPo} {cc ss : Nat} {x : Int} {Xz : Nat → List (Option zv) → List zv → zW → Prop} (hK : 7 ≤ K) (hn : 142 ≤ n) (h : (0 ≤ (W.1 87 8) ∧ (W.1 87 8) ≤ x ∧ x ≤ 65536) ∧ ∀ r51 : Int, (xBl r51 (xEq (W.2.1 88) (W.1 87 8) x js_b2021)) → (r51 = 0 → zwpE jtb zsh n (zm_MMcmZ cc ss) (fun p => Nat.beq p 144) Xz post (K - 7) (lGo ak_ZMMcmZ 65) 65 [some (.inr (.inr (some (.inl 87)))), some (.inl (x))] [] W) ∧ (¬ r51 = 0 → zwpE jtb zsh n (zm_MMcmZ cc ss) (fun p => Nat.beq p 144) Xz post (K - 7) (lGo ak_ZMMcmZ 57) 57 [some (.inr (.inr (some (.inl 87)))), some (.inl (x))] [] W)) : zwpE jtb zsh n (zm_MMcmZ cc ss) (fun p => Nat.beq p 144) Xz post K (lGo ak_ZMMcmZ 43) 43 [some (.inr (.inr (some (.inl 87)))), some (.inl (x))] [] W := by
  obtain ⟨kk__, rfl⟩ : ∃ kk__, K = kk__ + 7 := ⟨K - 7, by omega⟩
  exact (show 2 = 2 ∧ 87 < n ∧ 11 = 11 ∧ 3 = 3 ∧ false = false ∧ jin3 121 2417 1 (zm_MMcmZ cc ss).2.2.1.1 = true ∧ lRm (zm_MMcmZ cc ss).2.1 { frames := 4, cells := 0, slots := 0, locals := 85 } 6 = true ∧ Nat.ble 4 4 = true ∧ Nat.ble 0 8 = true ∧ 87 < n ∧ 11 = 11 ∧ Nat.ble 1000 11 = false ∧ zc_rw1021 [.inr (.inr (some (.inl 87))), .inr (.inr (some (.inr 1021))), .inl (W.1 87 8), .inl (x)] W (fun vv__ WW__ => zwpE jtb zsh n (zm_MMcmZ cc ss) (fun p => Nat.beq p 144) Xz post (kk__ + 1) (lGo ak_ZMMcmZ 54) 54 [some (.inr (.inr (some (.inl 87)))), some (.inl (x))] (vv__.toList ++ []) WW__) from ⟨rfl, ⟨(Nat.lt_of_lt_of_le (by decide) hn), rfl, ⟨rfl, rfl, rfl, rfl, rfl, rfl, (Nat.lt_of_lt_of_le (by decide) hn), rfl, rfl, W.1 87 8, x, rfl, (h).1, fun r51 hr51 => (show (r51 = 0 → zwpE jtb zsh n (zm_MMcmZ cc ss) (fun p => Nat.beq p 144) Xz post (kk__ + 0) (lGo ak_ZMMcmZ 65) 65 [some (.inr (.inr (some (.inl 87)))), some (.inl (x))] [] W) ∧ (¬ r51 = 0 → zwpE jtb zsh n (zm_MMcmZ cc ss) (fun p => Nat.beq p 144) Xz post (kk__ + 0) (lGo ak_ZMMcmZ 57) 57 [some (.inr (.inr (some (.inl 87)))), some (.inl (x))] [] W) from ⟨fun c54_6 => ((((h).2 r51 hr51)).1 c54_6), fun c54_6 => ((((h).2 r51 hr51)).2 c54_6)⟩)⟩⟩⟩)
set_option maxRecDepth 8000 in
theorem zp_MMcmZ_65 {n K : Nat} {W : zW} {post : zPo} {cc ss : Nat} {x : Int} {Xz : Nat → List (Option zv) → List zv → zW → Prop} (hK : 7 ≤ K) (hn : 142 ≤ n) (h : (0 ≤ (W.1 87 8) ∧ (W.1 87 8) ≤ x ∧ x ≤ 65536) ∧ ∀ r73 : Int, (xBl r73 (xEq (W.2.1 88) (W.1 87 8) x js_b2022)) → (r73 = 0 → zwpE jtb zsh n (zm_MMcmZ cc ss) (fun p => Nat.beq p 144) Xz post (K - 7) (lGo ak_ZMMcmZ 87) 87 [some (.inr (.inr (some (.inl 87)))), some (.inl (x))] [] W) ∧ (¬ r73 = 0 → zwpE jtb zsh n (zm_MMcmZ cc ss) (fun p => Nat.beq p 144) Xz post (K - 7) (lGo ak_ZMMcmZ 79) 79 [some (.inr (.inr (some (.inl 87)))), some (.inl (x))] [] W)) : zwpE jtb zsh n (zm_MMcmZ cc ss) (fun p => Nat.beq p 144) Xz post K (lGo ak_ZMMcmZ 65) 65 [some (.inr (.inr (some (.inl 87)))), some (.inl (x))] [] W := by
  obtain ⟨kk__, rfl⟩ : ∃ kk__, K = kk__ + 7 := ⟨K - 7, by omega⟩
  exact (show 2 = 2 ∧ 87 < n ∧ 11 = 11 ∧ 3 = 3 ∧ false = false ∧ jin3 121 2417 2 (zm_MMcmZ cc ss).2.2.1.1 = true ∧ lRm (zm_MMcmZ cc ss).2.1 { frames := 4, cells := 0, slots := 0, locals := 85 } 6 = true ∧ Nat.ble 4 4 = true ∧ Nat.ble 0 8 = true ∧ 87 < n ∧ 11 = 11 ∧ Nat.ble 1000 11 = false ∧ zc_rw1022 [.inr (.inr (some (.inl 87))), .inr (.inr (some (.inr 1022))), .inl (W.1 87 8), .inl (x)] W (fun vv__ WW__ => zwpE jtb zsh n (zm_MMcmZ cc ss) (fun p => Nat.beq p 144) Xz post (kk__ + 1) (lGo ak_ZMMcmZ 76) 76 [some (.inr (.inr (some (.inl 87)))), some (.inl (x))] (vv__.toList ++ []) WW__) from ⟨rfl, ⟨(Nat.lt_of_lt_of_le (by decide) hn), rfl, ⟨rfl, rfl, rfl, rfl, rfl, rfl, (Nat.lt_of_lt_of_le (by decide) hn), rfl, rfl, W.1 87 8, x, rfl, (h).1, fun r73 hr73 => (show (r73 = 0 → zwpE jtb zsh n (zm_MMcmZ cc ss) (fun p => Nat.beq p 144) Xz post (kk__ + 0) (lGo ak_ZMMcmZ 87) 87 [some (.inr (.inr (some (.inl 87)))), some (.inl (x))] [] W) ∧ (¬ r73 = 0 → zwpE jtb zsh n (zm_MMcmZ cc ss) (fun p => Nat.beq p 144) Xz post (kk__ + 0) (lGo ak_ZMMcmZ 79) 79 [some (.inr (.inr (some (.inl 87)))), some (.inl (x))] [] W) from ⟨fun c76_6 => ((((h).2 r73 hr73)).1 c76_6), fun c76_6 => ((((h).2 r73 hr73)).2 c76_6)⟩)⟩⟩⟩)
set_option maxRecDepth 8000 in
theorem zp_MMcmZ_87 {n K : Nat} {W : zW} {post : zPo} {cc ss : Nat} {x : Int} {Xz : Nat → List (Option zv) → List zv → zW → Prop} (hK : 7 ≤ K) (hn : 142 ≤ n) (h : (0 ≤ (W.1 87 8) ∧ (W.1 87 8) ≤ x ∧ x ≤ 65536) ∧ ∀ r95 : Int, (xBl r95 (xEq (W.2.1 88) (W.1 87 8) x js_b2023)) → (r95 = 0 → zwpE jtb zsh n (zm_MMcmZ cc ss) (fun p => Nat.beq p 144) Xz post (K - 7) (lGo ak_ZMMcmZ 109) 109 [some (.inr (.inr (some (.inl 87)))), some (.inl (x))] [] W) ∧ (¬ r95 = 0 → zwpE jtb zsh n (zm_MMcmZ cc ss) (fun p => Nat.beq p 144) Xz post (K - 7) (lGo ak_ZMMcmZ 101) 101 [some (.inr (.inr (some (.inl 87)))), some (.inl (x))] [] W)) : zwpE jtb zsh n (zm_MMcmZ cc ss) (fun p => Nat.beq p 144) Xz post K (lGo ak_ZMMcmZ 87) 87 [some (.inr (.inr (some (.inl 87)))), some (.inl (x))] [] W := by
  obtain ⟨kk__, rfl⟩ : ∃ kk__, K = kk__ + 7 := ⟨K - 7, by omega⟩
  exact (show 2 = 2 ∧ 87 < n ∧ 11 = 11 ∧ 3 = 3 ∧ false = false ∧ jin3 121 2417 3 (zm_MMcmZ cc ss).2.2.1.1 = true ∧ lRm (zm_MMcmZ cc ss).2.1 { frames := 4, cells := 0, slots := 0, locals := 85 } 6 = true ∧ Nat.ble 4 4 = true ∧ Nat.ble 0 8 = true ∧ 87 < n ∧ 11 = 11 ∧ Nat.ble 1000 11 = false ∧ zc_rw1023 [.inr (.inr (some (.inl 87))), .inr (.inr (some (.inr 1023))), .inl (W.1 87 8), .inl (x)] W (fun vv__ WW__ => zwpE jtb zsh n (zm_MMcmZ cc ss) (fun p => Nat.beq p 144) Xz post (kk__ + 1) (lGo ak_ZMMcmZ 98) 98 [some (.inr (.inr (some (.inl 87)))), some (.inl (x))] (vv__.toList ++ []) WW__) from ⟨rfl, ⟨(Nat.lt_of_lt_of_le (by decide) hn), rfl, ⟨rfl, rfl, rfl, rfl, rfl, rfl, (Nat.lt_of_lt_of_le (by decide) hn), rfl, rfl, W.1 87 8, x, rfl, (h).1, fun r95 hr95 => (show (r95 = 0 → zwpE jtb zsh n (zm_MMcmZ cc ss) (fun p => Nat.beq p 144) Xz post (kk__ + 0) (lGo ak_ZMMcmZ 109) 109 [some (.inr (.inr (some (.inl 87)))), some (.inl (x))] [] W) ∧ (¬ r95 = 0 → zwpE jtb zsh n (zm_MMcmZ cc ss) (fun p => Nat.beq p 144) Xz post (kk__ + 0) (lGo ak_ZMMcmZ 101) 101 [some (.inr (.inr (some (.inl 87)))), some (.inl (x))] [] W) from ⟨fun c98_6 => ((((h).2 r95 hr95)).1 c98_6), fun c98_6 => ((((h).2 r95 hr95)).2 c98_6)⟩)⟩⟩⟩)
set_option maxRecDepth 8000 in
theorem zp_MMcmZ_109 {n K : Nat} {W : zW} {post : zPo} {cc ss : Nat} {x : Int} {Xz : Nat → List (Option zv) → List zv → zW → Prop} (hK : 16 ≤ K) (hn : 142 ≤ n) (h : (0 ≤ W.1 87 8 ∧ W.1 87 8 ≤ W.1 87 9 ∧ W.1 87 9 ≤ 65536) ∧ ∀ W110 : zW, (zFr [(87, 13)] [137, 138] W W110 ∧ zRe (W.2.1 88) (W.1 87 9) (W.1 87 8) W110) → ((W110.1 87 13) ≤ 0 → zwpE jtb zsh n (zm_MMcmZ cc ss) (fun p => Nat.beq p 144) Xz post (K - 11) (lGo ak_ZMMcmZ 157) 157 [some (.inr (.inr (some (.inl 87)))), some (.inl (x))] [] (zuF W110 87 16 0)) ∧ (¬ (W110.1 87 13) ≤ 0 → ∃ T137 : xT, ∃ h137 : Int, ∃ G137 : xG, (wJn (zuF W110 87 16 1) T137 h137 G137 ∧ wWn (zuF W110 87 16 1) ∧ (zuF W110 87 16 1).1 87 16 = 1) ∧ ∀ r137 : Int, ∀ W137 : zW, (wRes [1, 3, 4, 7, 8, 9, 10, 11, 13, 14] (zuF W110 87 16 1) W137 T137 h137 G137 r137) → (¬ r137 = 0 → zwpE jtb zsh n (zm_MMcmZ cc ss) (fun p => Nat.beq p 144) Xz post (K - 15) (lGo ak_ZMMcmZ 162) 162 [some (.inr (.inr (some (.inl 87)))), some (.inl (x))] [] W137) ∧ (r137 = 0 → zwpE jtb zsh n (zm_MMcmZ cc ss) (fun p => Nat.beq p 144) Xz post (K - 16) (lGo ak_ZMMcmZ 144) 144 [some (.inr (.inr (some (.inl 87)))), some (.inl (x))] [.inr (.inr (some (.inl 87)))] W137))) : zwpE jtb zsh n (zm_MMcmZ cc ss) (fun p => Nat.beq p 144) Xz post K (lGo ak_ZMMcmZ 109) 109 [some (.inr (.inr (some (.inl 87)))), some (.inl (x))] [] W := by
  obtain ⟨kk__, rfl⟩ : ∃ kk__, K = kk__ + 16 := ⟨K - 16, by omega⟩
  exact (show 3 = 3 ∧ false = false ∧ jin3 151 2543 4 (zm_MMcmZ cc ss).2.2.1.1 = true ∧ lRm (zm_MMcmZ cc ss).2.1 { frames := 0, cells := 0, slots := 0, locals := 0 } 3 = true ∧ Nat.ble 1 1 = true ∧ Nat.ble 0 8 = true ∧ 87 < n ∧ 11 = 11 ∧ Nat.ble 1000 11 = false ∧ zc_MMspl [.inr (.inr (some (.inl 87)))] W (fun vv__ WW__ => zwpE jtb zsh n (zm_MMcmZ cc ss) (fun p => Nat.beq p 144) Xz post (kk__ + 14) (lGo ak_ZMMcmZ 113) 113 [some (.inr (.inr (some (.inl 87)))), some (.inl (x))] (vv__.toList ++ []) WW__) from ⟨rfl, rfl, rfl, rfl, rfl, rfl, (Nat.lt_of_lt_of_le (by decide) hn), rfl, rfl, rfl, (h).1, fun W110 hr110 => (show 87 < n ∧ 11 = 11 ∧ ((W110.1 87 13) ≤ 0 → 87 < n ∧ 11 = 11 ∧ (some 0 : Option Nat) = some 0 ∧ ((1 : Nat) = 0 ∨ ((1 : Nat) = 1 ∧ ((0 : Int) = 0 ∨ (0 : Int) = 1))) ∧ 87 < n ∧ 11 = 11 ∧ ((0 : Int) = 0 → zwpE jtb zsh n (zm_MMcmZ cc ss) (fun p => Nat.beq p 144) Xz post (kk__ + 5) (lGo ak_ZMMcmZ 157) 157 [some (.inr (.inr (some (.inl 87)))), some (.inl (x))] [] (zuF W110 87 16 0)) ∧ (¬ (0 : Int) = 0 → zwpE jtb zsh n (zm_MMcmZ cc ss) (fun p => Nat.beq p 144) Xz post (kk__ + 5) (lGo ak_ZMMcmZ 136) 136 [some (.inr (.inr (some (.inl 87)))), some (.inl (x))] [] (zuF W110 87 16 0))) ∧ (¬ (W110.1 87 13) ≤ 0 → 87 < n ∧ 11 = 11 ∧ (some 0 : Option Nat) = some 0 ∧ ((1 : Nat) = 0 ∨ ((1 : Nat) = 1 ∧ ((1 : Int) = 0 ∨ (1 : Int) = 1))) ∧ 87 < n ∧ 11 = 11 ∧ ((1 : Int) = 0 → zwpE jtb zsh n (zm_MMcmZ cc ss) (fun p => Nat.beq p 144) Xz post (kk__ + 4) (lGo ak_ZMMcmZ 157) 157 [some (.inr (.inr (some (.inl 87)))), some (.inl (x))] [] (zuF W110 87 16 1)) ∧ (¬ (1 : Int) = 0 → 3 = 3 ∧ false = false ∧ jin3 154 2547 5 (zm_MMcmZ cc ss).2.2.1.1 = true ∧ lRm (zm_MMcmZ cc ss).2.1 { frames := 28, cells := 0, slots := 0, locals := 1622 } 2 = true ∧ Nat.ble 1 1 = true ∧ Nat.ble 0 8 = true ∧ 87 < n ∧ 11 = 11 ∧ Nat.ble 1000 11 = false ∧ zc_MMtre [.inr (.inr (some (.inl 87)))] (zuF W110 87 16 1) (fun vv__ WW__ => zwpE jtb zsh n (zm_MMcmZ cc ss) (fun p => Nat.beq p 144) Xz post (kk__ + 2) (lGo ak_ZMMcmZ 140) 140 [some (.inr (.inr (some (.inl 87)))), some (.inl (x))] (vv__.toList ++ []) WW__))) from ⟨(Nat.lt_of_lt_of_le (by decide) hn), rfl, ⟨fun c118_5 => (have h := ((((h).2 W110 hr110)).1 c118_5); ⟨(Nat.lt_of_lt_of_le (by decide) hn), rfl, rfl, (Or.inr ⟨rfl, Or.inl rfl⟩), ⟨(Nat.lt_of_lt_of_le (by decide) hn), rfl, ⟨fun _ => h, fun hc10 => absurd hc10 (by decide)⟩⟩⟩), fun c118_5 => (have h := ((((h).2 W110 hr110)).2 c118_5); ⟨(Nat.lt_of_lt_of_le (by decide) hn), rfl, rfl, (Or.inr ⟨rfl, Or.inr rfl⟩), ⟨(Nat.lt_of_lt_of_le (by decide) hn), rfl, ⟨fun hc11 => absurd hc11 (by decide), fun _ => (Exists.elim (h) (fun T137 gx137_0 => Exists.elim gx137_0  (fun h137 gx137_1 => Exists.elim gx137_1  (fun G137 gh137 => ⟨rfl, rfl, rfl, rfl, rfl, rfl, (Nat.lt_of_lt_of_le (by decide) hn), rfl, rfl, T137, h137, G137, rfl, (gh137).1, fun r137 W137 hr137 => (show (¬ r137 = 0 → zwpE jtb zsh n (zm_MMcmZ cc ss) (fun p => Nat.beq p 144) Xz post (kk__ + 1) (lGo ak_ZMMcmZ 162) 162 [some (.inr (.inr (some (.inl 87)))), some (.inl (x))] [] W137) ∧ (r137 = 0 → zwpE jtb zsh n (zm_MMcmZ cc ss) (fun p => Nat.beq p 144) Xz post (kk__ + 0) (lGo ak_ZMMcmZ 144) 144 [some (.inr (.inr (some (.inl 87)))), some (.inl (x))] [.inr (.inr (some (.inl 87)))] W137) from (have h := ((gh137).2 r137 W137 hr137); ⟨fun c140_14 => ((h).1 c140_14), fun c140_14 => ((h).2 c140_14)⟩))⟩))))⟩⟩⟩)⟩⟩)⟩)
set_option maxRecDepth 8000 in
theorem zp_MMcmZ_147 {n K : Nat} {V : zW} {post : zPo} {cc ss : Nat} {x z : Int} {Xz : Nat → List (Option zv) → List zv → zW → Prop} (hK : 2 ≤ K) (hn : 142 ≤ n) (h : (¬ z = 0 → post none V) ∧ (z = 0 → zwpE jtb zsh n (zm_MMcmZ cc ss) (fun _ => false) Xz post (K - 1) (lGo ak_ZMMcmZ 150) 150 [some (.inr (.inr (some (.inl 87)))), some (.inl (x))] [] V)) : zwpE jtb zsh n (zm_MMcmZ cc ss) (fun _ => false) Xz post K (lGo ak_ZMMcmZ 147) 147 [some (.inr (.inr (some (.inl 87)))), some (.inl (x))] [.inl (z)] V := by
  obtain ⟨kk__, rfl⟩ : ∃ kk__, K = kk__ + 2 := ⟨K - 2, by omega⟩
  exact (show (¬ z = 0 → 1 = 1 ∧ (none : Option FieldType) = none ∧ post none V) ∧ (z = 0 → zwpE jtb zsh n (zm_MMcmZ cc ss) (fun _ => false) Xz post (kk__ + 1) (lGo ak_ZMMcmZ 150) 150 [some (.inr (.inr (some (.inl 87)))), some (.inl (x))] [] V) from ⟨fun c147_0 => ⟨rfl, rfl, ((h).1 c147_0)⟩, fun c147_0 => ((h).2 c147_0)⟩)
theorem dN_144 : decode prog_15_method_26_code 144 = .ok (.invokevirtual 157, 3) := by decide +kernel
noncomputable def wCz (n : Nat) (W : zW) (T : xT) (h : Int) (G : xG) (n' : Nat) : zPo := fun v V => v = none ∧ wLj n W T h G n' V
noncomputable def wCj (n : Nat) (W : zW) (T : xT) (h : Int) (G : xG) : jPo := fun v σ' n' => ∃ v' V, v = Option.map zj v' ∧ zWok V ∧ σ' = zlW zsh V ∧ wCz n W T h G n' v' V
set_option maxRecDepth 20000 in
set_option maxHeartbeats 1000000 in
theorem zj_MMcmd27 {l : Launch} {E : jE} {n : Nat} (hn : 142 ≤ n) {W : zW} {T : xT} {h : Int} {G : xG} (hW : zWok W) (hj0 : wJm W T h G) (h27 : wE27 W) (hE : eWo n W) : jMet l E jcl jtb lw_tbl y_MM_command { frames := 42, cells := (eCc W), slots := (eSs W), locals := 2900 } (zs [.inr (.inr (some (.inl 87)))]) (zlW zsh W) n (wCj n W T h G) := by
  obtain ⟨ht, n3, tk⟩ := wE27_x h27
  have hj := wJm_j hW hj0
  have hz := hj.1
  have hb := hj0.2.2.2.2.2.2
  have px : ∀ {B : zW}, (zFr [(87, 13)] [137, 138] W B ∧ zRe (W.2.1 88) (W.1 87 9) (W.1 87 8) B) → wPx W (zuF B 87 16 1) := fun {B} s => ⟨zFr_F (zFr_w s.1 (by decide) (by decide)) (by decide), zRe_e s.2 rfl rfl rfl, by
    show 0 < B.1 87 13
    exact (tk B (zFr_r s.1 88) s.2).1, by rw [zuF_1, if_pos ⟨rfl, rfl⟩]⟩
  have pk : ∀ {X : zW}, wPx W X → wTk X 27 := fun {X} p => (tk X (zFr_r p.1 88) p.2.1).2
  have pw : ∀ {X : zW}, wPx W X → wWn X := by
    intro X p
    refine wWn_s (W := zuF X 87 13 0) (by rw [zuF_1, if_neg (by decide), zuF_1, if_neg (by decide), zFr_f p.1 87 8, zFr_f p.1 87 9]; omega) ?_ ?_ ?_ (by have := p.2.2.1; omega)
    · show xTx (X.2.1 88) (X.1 87 8) (X.1 87 9)
      rw [zFr_r p.1 88, zFr_f p.1 87 8, zFr_f p.1 87 9]
      exact ht
    · refine ⟨fun a i hz' => ?_, fun a hz' => rfl, rfl⟩
      rw [zuF_1, if_neg (fun z => hz' (by rw [z.1, z.2]; decide))]
    · show zRe (X.2.1 88) (X.1 87 9) (X.1 87 8) X
      rw [zFr_r p.1 88, zFr_f p.1 87 8, zFr_f p.1 87 9]
      exact p.2.1
  have pj : ∀ {X : zW}, wPx W X → wJn X T h (wGv W (W.1 90 5) G) := by
    intro X p
    have f := p.1
    refine ⟨⟨zHe_fr f (by decide) (by decide) hz.1, zOg_e hz.2.1 (zFr_f f 87 3), by rw [zFr_f f 87 12]; exact hz.2.2⟩, by rw [zFr_f f 90 5]; exact zTg_f f hj.2.1, zVr_f f hj.2.2.1, by rw [zFr_r f 88]; exact hj.2.2.2.1, by rw [zFr_f f 87 10]; exact hj.2.2.2.2.1, by rw [zFr_f f 87 11]; exact hj.2.2.2.2.2⟩
  have p137 : ∀ {X : zW}, wPx W X → wJn X T h (wGv W (W.1 90 5) G) ∧ wWn X ∧ X.1 87 16 = 1 := fun p => ⟨pj p, pw p, p.2.2.2⟩
  have tre : ∀ {X V : zW} {r : Int}, wPx W X → wRes [1, 3, 4, 7, 8, 9, 10, 11, 13, 14] X V T h (wGv W (W.1 90 5) G) r → (¬ r = 0 → False) ∧ V = X := by
    intro X V r p q
    rcases q with ⟨k, hk, tk2, -⟩ | ⟨r0, rfl, -⟩
    · have hk2 : k < 27 := (by decide : ∀ k, k ∈ [1, 3, 4, 7, 8, 9, 10, 11, 13, 14] → k < 27) k hk
      exact absurd tk2.1 (wTk_27 (pk p) hk2)
    · exact ⟨fun z => z r0, rfl⟩
  refine jMet_of (Y := y_MM_command) rfl false (fun h => by cases h) (by decide) (Nat.le_of_ble_eq_true rfl) _ rfl (fun M hl hR X hr => ?_)
  have hok2 := jokLG_ok (fun _ _ => jtF_ok) lo_MM ao_ZMMcmZ
  have run : ∀ (ex : Nat → Bool) (Xz : Nat → List (Option zv) → List zv → zW → Prop) (n1 ca sl K pc : Nat) (lv : List (Option zv)) (st : List zv) (V : zW), 142 ≤ n1 → (ca ≤ (eCc W) ∧ sl ≤ (eSs W)) → zOl lv → zOs st → zWok V → (∀ pc lv st U, zOl lv → zOs st → zWok U → ex pc = true → Xz pc lv st U → jJ E jcl 2 M (jQ E jcl M (wCj n W T h G) (eCc W) (eSs W)) n1 ca sl pc (zl lv) (zs st) (zlW zsh U)) → zwpE jtb zsh n1 (zm_MMcmZ (eCc W) (eSs W)) ex Xz (wCz n W T h G n1) K (lGo ak_ZMMcmZ pc) pc lv st V → jJ E jcl 2 M (jQ E jcl M (wCj n W T h G) (eCc W) (eSs W)) n1 ca sl pc (zl lv) (zs st) (zlW zsh V) := by
    intro ex Xz n1 ca sl K pc lv st V hn1 hcs hL hO hV hX hz
    unfold lGo at hz
    split at hz
    next js' hj => exact zwpE_run (m := zm_MMcmZ (eCc W) (eSs W)) jC X hl hR hr (aAllc ⟨(aSp_1 (List.mem_of_getElem? (i := 21) rfl)), fun e => absurd e (by decide), fun e => absurd e (by decide), fun e => absurd e (by decide)⟩ (aAllc ⟨(aSp_1 (List.mem_of_getElem? (i := 22) rfl)), fun e => absurd e (by decide), fun e => absurd e (by decide), fun e => absurd e (by decide)⟩ (aAllc ⟨(aSp_1 (List.mem_of_getElem? (i := 23) rfl)), fun e => absurd e (by decide), fun e => absurd e (by decide), fun e => absurd e (by decide)⟩ (fun q h => by cases h)))) (aAllc (fun G h => by obtain rfl := Option.some.inj h; exact ql_MM_133) (aAllc (fun G h => by obtain rfl := Option.some.inj h; exact ql_MM_121) (aAllc (fun G h => by obtain rfl := Option.some.inj h; exact ql_MM_121) (aAllc (fun G h => by obtain rfl := Option.some.inj h; exact ql_MM_121) (aAllc (fun G h => by obtain rfl := Option.some.inj h; exact ql_MM_151) (aAllc (fun G h => by obtain rfl := Option.some.inj h; exact ql_MM_154) (fun q h => by cases h))))))) (aAllc (zk_MMiot hn1) (aAllc (zk_rw1021c hn1) (aAllc (zk_rw1022c hn1) (aAllc (zk_rw1023c hn1) (aAllc (zk_MMspl hn1) (aAllc (zk_MMtre hn1) (fun q h => by cases h))))))) hok2 (fun v U hv hU hp => ⟨v, U, rfl, hU, rfl, hp⟩) hX hcs.1 hcs.2 K js' pc lv st V (aSuf_ok hok2 hj) hL hO hV hz
    next =>
      cases K with
      | zero => unfold zwpE at hz; exact hz.elim
      | succ k => unfold zwpE at hz; exact hz.elim
  refine run (fun p => Nat.beq p 144) (fun pc lv st U => pc = 144 ∧ (∃ x : Int, lv = [some (.inr (.inr (some (.inl 87)))), some (.inl x)]) ∧ st = [.inr (.inr (some (.inl 87)))] ∧ wPx W U) n 0 0 3000000 0 (zent [.inr (.inr (some (.inl 87)))] 2) [] W hn ⟨Nat.zero_le _, Nat.zero_le _⟩ (zOl_ent (fun v hv => by rcases List.mem_cons.mp hv with rfl | hv; trivial; cases hv)) (fun v hv => by cases hv) hW ?_ ?_
  · rintro pc lv st U hL - hU he ⟨rfl, ⟨x, rfl⟩, rfl, p⟩
    have f := p.1
    have e7 : U.2.2.2.1 87 7 = W.2.2.2.1 87 7 := by rw [f.2.2]
    have ec : eCc U = eCc W := by unfold eCc; rw [e7]
    have es : eSs U = eSs W := by unfold eSs; rw [e7]
    have hM := zj_MMasked (l := l) (E := E) hn hU (pj p) (pw p) p.2.2.2 (pk p) (eWo_2 hE e7 (by rw [f.2.2]))
    rw [← hl] at hM
    refine jk_callVD (Y := y_MM_asked) (wi := 2847) X hR dN_144 ql_MM_157 m_MM_asked i_MM_asked e_MM_asked (ci := 11) (q := ("ChessHouseModel", F_MM, 19)) rfl rfl (a := 87) (vals := []) (r := []) (by omega) rfl hM rfl rfl ⟨Nat.le_of_ble_eq_true rfl, Nat.le_of_ble_eq_true rfl⟩ ⟨by show 0 + eCc U ≤ eCc W; omega, by show 0 + eSs U ≤ eSs W; omega⟩ (by decide) (fun v σ' n' hp => ?_)
    obtain ⟨v', V, rfl, hV, rfl, rfl, z⟩ := hp
    obtain ⟨-, o1, o2, o3, o4, o5, o6, o7, o8, o9, b1⟩ := z
    have n3' : 142 ≤ n' := by have := eGn_l o9; omega
    have fin : wCz n W T h G n' none V := by
      have f12 := zFr_f f 87 12
      have g9 : eGn n n' W V := by unfold eGn at o9 ⊢; rw [← e7]; exact o9
      have w9 : wFe n W V := wFe_t (eGn_0 e7) (wFe_q (yFq_w (yFq_y (Qs := []) (zFr_x (Ls := []) f)) (by decide) (by decide) (by decide) (by decide))) o7
      rcases b1 with ⟨c1, c2⟩ | ⟨c1, c2⟩
      · exact ⟨rfl, U, 27, T, h, (wGv W (W.1 90 5) G), (wGv W (W.1 90 5) G), 1, U.1 87 10, Nat.le_refl _, wGv_n, f, Or.inr ⟨ht, Or.inr (Or.inr (Or.inr ⟨n3, p.2.1, Or.inr ⟨by decide, p.2.2.1, pk p⟩⟩))⟩, wSx_s (by decide) ⟨fun _ => rfl, wEq_r, Or.inl ⟨c1, rfl⟩⟩, o1, o2, wTn_g o3, o4, by omega, o5, w9, o8, g9⟩
      · exact ⟨rfl, U, 27, T, h, (wGv W (W.1 90 5) G), (wGv W (W.1 90 5) G), 0, U.1 87 10, Nat.le_refl _, wGv_n, f, Or.inr ⟨ht, Or.inr (Or.inr (Or.inr ⟨n3, p.2.1, Or.inr ⟨by decide, p.2.2.1, pk p⟩⟩))⟩, wSx_s (by decide) ⟨fun _ => rfl, wEq_r, Or.inr ⟨c1, rfl⟩⟩, o1, o2, wTn_g o3, o4, by omega, o5, w9, o8, g9⟩
    have key : ∀ c s, c ≤ eCc W → s ≤ eSs W → jJ E jcl 2 M (jQ E jcl M (wCj n W T h G) (eCc W) (eSs W)) n' c s 147 (zl [some (.inr (.inr (some (.inl 87)))), some (.inl x)]) (zs [.inl 1]) (zlW zsh V) := by
      intro c s hc hs
      refine run (fun _ => false) (fun _ _ _ _ => False) n' c s 20 147 _ _ V n3' ⟨hc, hs⟩ hL (fun v hv => by rcases List.mem_cons.mp hv with rfl | hv; exact ⟨by decide, by decide⟩; cases hv) hV (fun pc lv st U _ _ _ h => by cases h) ?_
      exact zp_MMcmZ_147 (by omega) n3' ⟨fun c147 => fin, fun c147 => (False.elim (by omega))⟩
    exact ⟨fun _ => key 0 0 (Nat.zero_le _) (Nat.zero_le _), fun _ => key _ _ (by show 0 + eCc U ≤ eCc W; omega) (by show 0 + eSs U ≤ eSs W; omega)⟩
  · have x144 : ∀ {x : Int} {X : zW} (V : zW), wPx W X → V = X → 144 = 144 ∧ (∃ x' : Int, ([some (.inr (.inr (some (.inl 87)))), some (.inl x)] : List (Option zv)) = [some (.inr (.inr (some (.inl 87)))), some (.inl x')]) ∧ ([.inr (.inr (some (.inl 87)))] : List zv) = [.inr (.inr (some (.inl 87)))] ∧ wPx W V := fun {x X} V p e => ⟨rfl, ⟨x, rfl⟩, rfl, by rw [e]; exact p⟩
    have h109 : ∀ (x : Int) (K : Nat), 200 ≤ K → zwpE jtb zsh n (zm_MMcmZ (eCc W) (eSs W)) (fun p => Nat.beq p 144) (fun pc lv st U => pc = 144 ∧ (∃ x : Int, lv = [some (.inr (.inr (some (.inl 87)))), some (.inl x)]) ∧ st = [.inr (.inr (some (.inl 87)))] ∧ wPx W U) (wCz n W T h G n) K (lGo ak_ZMMcmZ 109) 109 [some (.inr (.inr (some (.inl 87)))), some (.inl (x))] [] W := by
      intro x K hK
      exact zp_MMcmZ_109 (by omega) hn ⟨(by omega), fun W110 hr110 => ⟨fun c118 => (False.elim (by have z := (tk _ (zFr_r hr110.1 88) hr110.2).1; omega)), fun c118 => ⟨T, h, (wGv W (W.1 90 5) G), (p137 (px hr110)), fun r137 W137 hr137 => ⟨fun c140 => (False.elim ((tre (px hr110) hr137).1 (by assumption))), fun c140 => (zwpE_y rfl (by omega) ⟨_, _, rfl⟩ (x144 _ (px hr110) (tre (px hr110) hr137).2))⟩⟩⟩⟩
    have h87 : ∀ (x : Int) (K : Nat), 300 ≤ K → wAf W = x → (W.1 87 8 ≤ x ∧ x ≤ W.1 87 9) → zwpE jtb zsh n (zm_MMcmZ (eCc W) (eSs W)) (fun p => Nat.beq p 144) (fun pc lv st U => pc = 144 ∧ (∃ x : Int, lv = [some (.inr (.inr (some (.inl 87)))), some (.inl x)]) ∧ st = [.inr (.inr (some (.inl 87)))] ∧ wPx W U) (wCz n W T h G n) K (lGo ak_ZMMcmZ 87) 87 [some (.inr (.inr (some (.inl 87)))), some (.inl (x))] [] W := by
      intro x K hK ex hx
      exact zp_MMcmZ_87 (by omega) hn ⟨(by omega), fun r95 hr95 => ⟨fun c98 => (h109 x _ (by omega)), fun c98 => (False.elim (n3.2.2 (by have z := xBl_1 hr95 (by omega); unfold wIf; rw [ex]; exact z)))⟩⟩
    have h65 : ∀ (x : Int) (K : Nat), 400 ≤ K → wAf W = x → (W.1 87 8 ≤ x ∧ x ≤ W.1 87 9) → zwpE jtb zsh n (zm_MMcmZ (eCc W) (eSs W)) (fun p => Nat.beq p 144) (fun pc lv st U => pc = 144 ∧ (∃ x : Int, lv = [some (.inr (.inr (some (.inl 87)))), some (.inl x)]) ∧ st = [.inr (.inr (some (.inl 87)))] ∧ wPx W U) (wCz n W T h G n) K (lGo ak_ZMMcmZ 65) 65 [some (.inr (.inr (some (.inl 87)))), some (.inl (x))] [] W := by
      intro x K hK ex hx
      exact zp_MMcmZ_65 (by omega) hn ⟨(by omega), fun r73 hr73 => ⟨fun c76 => (h87 x _ (by omega) ex (by omega)), fun c76 => (False.elim (n3.2.1 (by have z := xBl_1 hr73 (by omega); unfold wIf; rw [ex]; exact z)))⟩⟩
    have h43 : ∀ (x : Int) (K : Nat), 500 ≤ K → wAf W = x → (W.1 87 8 ≤ x ∧ x ≤ W.1 87 9) → zwpE jtb zsh n (zm_MMcmZ (eCc W) (eSs W)) (fun p => Nat.beq p 144) (fun pc lv st U => pc = 144 ∧ (∃ x : Int, lv = [some (.inr (.inr (some (.inl 87)))), some (.inl x)]) ∧ st = [.inr (.inr (some (.inl 87)))] ∧ wPx W U) (wCz n W T h G n) K (lGo ak_ZMMcmZ 43) 43 [some (.inr (.inr (some (.inl 87)))), some (.inl (x))] [] W := by
      intro x K hK ex hx
      exact zp_MMcmZ_43 (by omega) hn ⟨(by omega), fun r51 hr51 => ⟨fun c54 => (h65 x _ (by omega) ex (by omega)), fun c54 => (False.elim (n3.1 (by have z := xBl_1 hr51 (by omega); unfold wIf; rw [ex]; exact z)))⟩⟩
    have h18 : ∀ (mm K : Nat) (x : Int), 40 * mm + 600 ≤ K → W.1 87 9 - x < mm → W.1 87 8 ≤ x → x ≤ W.1 87 9 → (∀ t, W.1 87 8 ≤ t → t < x → ¬ W.2.1 88 t = 32) → zwpE jtb zsh n (zm_MMcmZ (eCc W) (eSs W)) (fun p => Nat.beq p 144) (fun pc lv st U => pc = 144 ∧ (∃ x : Int, lv = [some (.inr (.inr (some (.inl 87)))), some (.inl x)]) ∧ st = [.inr (.inr (some (.inl 87)))] ∧ wPx W U) (wCz n W T h G n) K (lGo ak_ZMMcmZ 18) 18 [some (.inr (.inr (some (.inl 87)))), some (.inl (x))] [] W := by
      intro mm
      induction mm with
      | zero => intro K x hK h0 h1 h2 hI; omega
      | succ mm ih =>
        intro K x hK h0 h1 h2 hI
        exact zp_MMcmZ_18 (by omega) hn ⟨fun c23 => (h43 x _ (by omega) (xwS_h h1 h2 hI (by first | exact Or.inl c23 | exact Or.inr c34)) (by omega)), fun c23 => ⟨(by omega), ⟨fun c34 => (h43 x _ (by omega) (xwS_h h1 h2 hI (by first | exact Or.inl c23 | exact Or.inr c34)) (by omega)), fun c34 => ⟨(by omega), (ih _ (x + 1) (by omega) (by omega) (by omega) (by omega) (fun t t0 t1 => if ex : t = x then (by rw [ex]; exact c34) else hI t t0 (by omega)))⟩⟩⟩⟩
    exact zp_MMcmZ_0 (by omega) hn ⟨(by omega), fun r1 hr1 => ⟨fun c4 => (h18 65537 _ _ (by omega) (by omega) (by omega) (by omega) (fun t t0 t1 => by omega)), fun c4 => (False.elim (xBl_0 hr1 (by omega) ht))⟩⟩
end
section
/-! the reference's end: lines one behind the other -/
theorem wSt_01 {W : zW} {k : Nat} {T : xT} {h : Int} {G : xG} {T' : xT} {h' : Int} {G' : xG} {e nx : Int} (s : wSt W k T h G T' h' G' e nx) : e = 0 ∨ e = 1 := by
  have s := s.2
  split at s
  · obtain ⟨_, _, _, z⟩ := s
    exact Or.inl z
  · obtain ⟨_, _, ⟨_, _, _, _, _, z⟩ | ⟨_, _, z⟩⟩ := s
    all_goals first
      | exact Or.inl z
      | exact Or.inr z
  · exact xPy_e _ s.1
  · obtain ⟨_, _, ⟨_, _, z⟩ | ⟨_, _, _, _, z⟩⟩ := s
    all_goals first
      | exact Or.inl z
      | exact Or.inr z
  · obtain ⟨_, _, ⟨_, _, z⟩ | ⟨_, _, _, _, z⟩⟩ := s
    all_goals first
      | exact Or.inl z
      | exact Or.inr z
  · obtain ⟨_, _, ⟨_, _, z⟩ | ⟨_, _, _, _, z⟩⟩ := s
    all_goals first
      | exact Or.inl z
      | exact Or.inr z
  · obtain ⟨_, _, z⟩ | ⟨_, _, _, _, z⟩ := s
    all_goals first
      | exact Or.inl z
      | exact Or.inr z
  · obtain ⟨_, ⟨_, z⟩ | ⟨_, z⟩⟩ := s
    all_goals first
      | exact Or.inl z
      | exact Or.inr z
  · obtain ⟨_, _, _, ⟨_, z⟩ | ⟨_, z⟩⟩ := s
    all_goals first
      | exact Or.inl z
      | exact Or.inr z
  · obtain ⟨_, _, _, ⟨_, z⟩ | ⟨_, z⟩⟩ := s
    all_goals first
      | exact Or.inl z
      | exact Or.inr z
  · obtain ⟨_, _, _, _, _, ⟨_, z⟩ | ⟨_, z⟩⟩ := s
    all_goals first
      | exact Or.inl z
      | exact Or.inr z
  · obtain ⟨_, _, _, ⟨_, z⟩ | ⟨_, z⟩⟩ := s
    all_goals first
      | exact Or.inl z
      | exact Or.inr z
  · obtain ⟨_, _, _, ⟨_, z⟩ | ⟨_, z⟩⟩ := s
    all_goals first
      | exact Or.inl z
      | exact Or.inr z
  · obtain ⟨_, _, _, ⟨_, z⟩ | ⟨_, z⟩⟩ := s
    all_goals first
      | exact Or.inl z
      | exact Or.inr z
  · obtain ⟨_, _, _, ⟨_, z⟩ | ⟨_, z⟩⟩ := s
    all_goals first
      | exact Or.inl z
      | exact Or.inr z
  · obtain ⟨_, _, _, ⟨_, z⟩ | ⟨_, z⟩⟩ := s
    all_goals first
      | exact Or.inl z
      | exact Or.inr z
  · obtain ⟨_, _, _, ⟨_, z⟩ | ⟨_, _, _, _, _, ⟨_, z⟩ | ⟨_, z⟩⟩⟩ := s
    all_goals first
      | exact Or.inl z
      | exact Or.inr z
  · obtain ⟨_, ⟨_, z⟩ | ⟨_, z⟩⟩ := s
    all_goals first
      | exact Or.inl z
      | exact Or.inr z
  · obtain ⟨_, z⟩ := s
    all_goals first
      | exact Or.inl z
      | exact Or.inr z
theorem wSx_01 {W : zW} {k : Nat} {T : xT} {h : Int} {G : xG} {T' : xT} {h' : Int} {G' : xG} {e nx : Int} (s : wSx W k T h G T' h' G' e nx) : e = 0 ∨ e = 1 := by
  unfold wSx at s
  split at s
  · exact Or.inr s.2.2
  · split at s
    · obtain ⟨_, ⟨_, _, z⟩ | ⟨_, _, _, _, _, _, _, _, z⟩⟩ := s
      · exact Or.inr z
      · exact Or.inl z
    · split at s
      · obtain ⟨_, _, ⟨_, z⟩ | ⟨_, z⟩⟩ := s
        · exact Or.inr z
        · exact Or.inl z
      · split at s
        · obtain ⟨_, _, _, _, _, ⟨_, _, z⟩ | ⟨_, _, z⟩⟩ := s
          · exact Or.inr z
          · exact Or.inl z
        · exact wSt_01 s
theorem wSx_n {W : zW} {k : Nat} {T : xT} {h : Int} {G : xG} {T' : xT} {h' : Int} {G' : xG} {e nx : Int} (s : wSx W k T h G T' h' G' e nx) : W.1 87 10 ≤ nx ∧ (nx ≤ W.1 87 11 + 1 ∨ nx = W.1 87 10) := by
  unfold wSx at s
  split at s
  · exact ⟨by omega, Or.inr s.1⟩
  · split at s
    · exact ⟨by omega, Or.inr s.1⟩
    · split at s
      · exact ⟨by omega, Or.inr s.1⟩
      · split at s
        · exact ⟨by omega, Or.inr s.1⟩
        · by_cases c : k = 3
          · subst c
            obtain ⟨-, b, s, -⟩ := s
            have z := gTe_b s
            exact ⟨by omega, z.2.2⟩
          · have z := s.1 c
            exact ⟨by omega, Or.inr z⟩
/-- one line -/
noncomputable def wLq (c : Int → Int) (nn a : Int) (T : xT) (h : Int) (G : xG) (a' : Int) (T' : xT) (h' : Int) (G' : xG) (e : Int) : Prop := ∃ b : Int, gLn c nn a b ∧ ((b = a ∧ a' = a + 1 ∧ yEq T h G T' h' G' ∧ e = 0) ∨ (a < b ∧ ∃ (W A : zW) (k : Nat) (G2 : xG), W.2.1 88 = c ∧ W.1 87 8 = a ∧ W.1 87 9 = b ∧ W.1 87 10 = b + 1 ∧ W.1 87 11 = nn ∧ k ≤ 27 ∧ gGn G G2 ∧ zFr [(87, 13), (87, 16)] [137, 138] W A ∧ wCx W A k ∧ wSx A k T h G2 T' h' G' e a'))
noncomputable def wRl (c : Int → Int) (nn : Int) (T0 : xT) (h0 : Int) (G0 : xG) : Nat → Int → xT → Int → xG → Int → Prop
  | 0, x, T, h, G, f => x = 0 ∧ yEq T0 h0 G0 T h G ∧ f = 0
  | m + 1, x, T, h, G, f => ∃ (x1 : Int) (T1 : xT) (h1 : Int) (G1 : xG) (f1 e : Int), wRl c nn T0 h0 G0 m x1 T1 h1 G1 f1 ∧ x1 < nn ∧ wLq c nn x1 T1 h1 G1 x T h G e ∧ f = f1 + e
/-- what end leaves alone -/
noncomputable def wFd (n : Nat) (W V : zW) : Prop := (∀ a, (a < 87 ∨ 141 ≤ a) → V.1 a = W.1 a ∧ V.2.1 a = W.2.1 a) ∧ V.2.1 88 = W.2.1 88 ∧ V.2.2.1 = W.2.2.1 ∧ (∀ a i, ¬ (a, i) ∈ [(116, 35), (87, 7)] → V.2.2.2.1 a i = W.2.2.2.1 a i) ∧ ∀ a, a < n → (∀ e, W.2.2.2.1 87 7 = some (.inl e) → ¬ (e ≤ a ∧ a < e + 5)) → V.2.2.2.2 a = W.2.2.2.2 a
theorem wFd_e {n : Nat} {W V : zW} (h : wFe n W V) : wFd n W V := by
  refine ⟨fun a ha => ⟨funext fun i => h.1 a i (fun z => ?_), h.2.1 a (fun z => ?_)⟩, h.2.1 88 (by decide), h.2.2.1, h.2.2.2.1, h.2.2.2.2⟩
  · have k := (by decide : ∀ p, p ∈ wHF → 87 ≤ p.1 ∧ p.1 ≤ 140) _ z
    omega
  · have k := (by decide : ∀ p, p ∈ wHR → 87 ≤ p ∧ p ≤ 140) _ z
    omega
theorem wFd_f {n : Nat} {W V : zW} {Fs : List (Nat × Nat)} (f : zFr Fs [] W V) (q : (Fs.all (fun p => decide (p.1 = 87))) = true := by decide) : wFd n W V := by
  refine ⟨fun a ha => ⟨funext fun i => f.1 a i (fun z => ?_), f.2.1 a List.not_mem_nil⟩, f.2.1 88 List.not_mem_nil, by rw [f.2.2], fun a i _ => by rw [f.2.2], fun a _ _ => by rw [f.2.2]⟩
  have k := of_decide_eq_true (List.all_eq_true.mp q _ z)
  dsimp only at k
  omega
theorem wFd_t {n n' : Nat} {W V U : zW} (g : eGn n n' W V) (h : wFd n W V) (h2 : wFd n' V U) : wFd n W U := by
  refine ⟨fun a z => ⟨((h2.1 a z).1).trans (h.1 a z).1, ((h2.1 a z).2).trans (h.1 a z).2⟩, h2.2.1.trans h.2.1, h2.2.2.1.trans h.2.2.1, fun a i z => (h2.2.2.2.1 a i z).trans (h.2.2.2.1 a i z), fun a a1 a2 => (h2.2.2.2.2 a (Nat.lt_of_lt_of_le a1 (eGn_l g)) (fun e he => ?_)).trans (h.2.2.2.2 a a1 a2)⟩
  rcases g with ⟨-, g⟩ | ⟨-, -, g⟩
  · exact a2 e (by rw [← g]; exact he)
  · rw [g] at he
    obtain rfl : n = e := Sum.inl.inj (Option.some.inj he)
    omega
/-- between two lines -/
noncomputable def wKn (n : Nat) (W : zW) (nn : Int) (T0 : xT) (h0 : Int) (G0 : xG) (n1 : Nat) (V : zW) (m : Nat) (T : xT) (h : Int) (G : xG) : Prop := wRl (W.2.1 88) nn T0 h0 G0 m (V.1 87 10) T h G (V.1 87 12) ∧ zHe V T h ∧ zOg V ∧ wTn V (V.1 90 5) G ∧ zVr V ∧ (0 ≤ V.1 87 12 ∧ V.1 87 12 ≤ V.1 87 10) ∧ (0 ≤ V.1 87 10 ∧ V.1 87 10 ≤ nn + 1) ∧ V.1 87 11 = nn ∧ V.1 87 0 = 0 ∧ wFd n W V ∧ eWo n1 V ∧ eGn n n1 W V
/-- before a line's command -/
noncomputable def wKc (n : Nat) (W : zW) (nn : Int) (T0 : xT) (h0 : Int) (G0 : xG) (n1 : Nat) (U : zW) (m : Nat) (T : xT) (h : Int) (G : xG) (a b f : Int) : Prop := wRl (W.2.1 88) nn T0 h0 G0 m a T h G f ∧ (a < nn ∧ 0 ≤ a) ∧ gLn (W.2.1 88) nn a b ∧ a < b ∧ (U.1 87 8 = a ∧ U.1 87 9 = b ∧ U.1 87 10 = b + 1 ∧ U.1 87 12 = f) ∧ wJm U T h G ∧ U.1 87 11 = nn ∧ U.1 87 0 = 0 ∧ wFd n W U ∧ eWo n1 U ∧ eGn n n1 W U ∧ (0 ≤ f ∧ f ≤ a)
theorem wKc_k {n : Nat} {W : zW} {nn : Int} {T0 : xT} {h0 : Int} {G0 : xG} {n1 : Nat} {U : zW} {m : Nat} {T : xT} {h : Int} {G : xG} {a b f : Int} (c : wKc n W nn T0 h0 G0 n1 U m T h G a b f) {n2 : Nat} {V : zW} (l : wLj n1 U T h G n2 V) : ∃ T' h' G', wKn n W nn T0 h0 G0 n2 V (m + 1) T' h' G' ∧ a < V.1 87 10 := by
  obtain ⟨c1, c2, c3, c4, ⟨c5, c6, c7, c8⟩, c9, d1, d2, d3, d4, d5, d6⟩ := c
  obtain ⟨A, k, T', h', G2, G', e, nx, a1, a2, a3, a4, a5, a6, a7, a8, a9, b1, b2, b3, b4, b5⟩ := l
  have hb := c3.1
  have e01 := wSx_01 a5
  have en := wSx_n a5
  rw [zFr_f a3 87 10, zFr_f a3 87 11, c7, d1] at en
  have e0 : V.1 87 0 = U.1 87 0 := b3.1 87 0 (by decide)
  have e11 : V.1 87 11 = U.1 87 11 := b3.1 87 11 (by decide)
  refine ⟨T', h', G', ⟨⟨a, T, h, G, f, e, c1, c2.1, ⟨b, c3, Or.inr ⟨c4, U, A, k, G2, d3.2.1, c5, c6, c7, d1, a1, a2, a3, a4, ?_⟩⟩, by omega⟩, a6, a7, a8, a9, by omega, by omega, by omega, by omega, wFd_t d5 d3 (wFd_e b3), b4, eGn_t d5 b5⟩, by omega⟩
  rw [b2]
  exact a5
theorem wKn_l {n : Nat} {W : zW} {nn : Int} {T0 : xT} {h0 : Int} {G0 : xG} {n1 : Nat} {V U : zW} {m : Nat} {T : xT} {h : Int} {G : xG} (hT : ∀ i, -128 ≤ W.2.1 88 i ∧ W.2.1 88 i ≤ 127) (hn : nn ≤ 65536) (k : wKn n W nn T0 h0 G0 n1 V m T h G) (c : V.1 87 10 < nn) (l : zFr [(87, 8), (87, 9), (87, 10)] [] V U ∧ U.1 87 8 = V.1 87 10 ∧ gLn (V.2.1 88) (V.1 87 11) (V.1 87 10) (U.1 87 9) ∧ U.1 87 10 = U.1 87 9 + 1) : (U.1 87 9 ≤ U.1 87 8 → wKn n W nn T0 h0 G0 n1 U (m + 1) T h G ∧ V.1 87 10 < U.1 87 10) ∧ (¬ U.1 87 9 ≤ U.1 87 8 → wKc n W nn T0 h0 G0 n1 U m T h G (V.1 87 10) (U.1 87 9) (V.1 87 12)) := by
  obtain ⟨k1, k2, k3, k4, k5, k6, k7, k8, k9, j1, j2, j3⟩ := k
  obtain ⟨f, l1, l2, l3⟩ := l
  have hb := l2.1
  have h88 : V.2.1 88 = W.2.1 88 := j1.2.1
  rw [h88, k8] at l2
  have e12 := zFr_f f 87 12
  have e11 := zFr_f f 87 11
  have e0 := zFr_f f 87 0
  have e7 : U.2.2.2.1 87 7 = V.2.2.2.1 87 7 := by rw [f.2.2]
  have q1 := zHe_fr f (by decide) (by decide) k2
  have q2 := zOg_e k3 (zFr_f f 87 3)
  have q3 : wTn U (U.1 90 5) G := by rw [zFr_f f 90 5]; exact wTn_e k4 (zFr_r f 104) (zFr_r f 105) (zFr_r f 106)
  have q4 := zVr_f f k5
  have q5 : wFd n W U := wFd_t j3 j1 (wFd_f f)
  have q6 : eWo n1 U := eWo_2 j2 e7 (by rw [f.2.2])
  have q7 : eGn n n1 W U := eGn_t j3 (eGn_0 e7)
  constructor
  · intro z
    refine ⟨⟨⟨V.1 87 10, T, h, G, V.1 87 12, 0, k1, c, ⟨U.1 87 9, l2, Or.inl ⟨by omega, by omega, wEq_r, rfl⟩⟩, by omega⟩, q1, q2, q3, q4, by omega, by omega, by omega, by omega, q5, q6, q7⟩, by omega⟩
  · intro z
    refine ⟨k1, ⟨c, k7.1⟩, l2, by omega, ⟨l1, rfl, l3, e12⟩, ⟨⟨q1, q2, by omega⟩, q3, q4, by rw [q5.2.1]; exact hT, by omega, by omega, by omega⟩, by omega, by omega, q5, q6, q7, by omega⟩
/-- behind end -/
noncomputable def wFz (n : Nat) (W : zW) (nn : Int) (T0 : xT) (h0 : Int) (G0 : xG) (n' : Nat) : zPo := fun v V => ∃ (f x : Int) (m : Nat) (T : xT) (h : Int) (G : xG), v = some (.inl f) ∧ wRl (W.2.1 88) nn T0 h0 G0 m x T h G f ∧ nn ≤ x ∧ zHe V T h ∧ zOg V ∧ wTn V (V.1 90 5) G ∧ zVr V ∧ V.1 87 0 = 0 ∧ V.1 87 1 = 0 ∧ wFd n W V ∧ eWo n' V ∧ eGn n n' W V
noncomputable def wFj (n : Nat) (W : zW) (nn : Int) (T0 : xT) (h0 : Int) (G0 : xG) : jPo := fun v σ' n' => ∃ v' V, v = Option.map zj v' ∧ zWok V ∧ σ' = zlW zsh V ∧ wFz n W nn T0 h0 G0 n' v' V
theorem wKn_z {n : Nat} {W : zW} {nn : Int} {T0 : xT} {h0 : Int} {G0 : xG} {n1 : Nat} {V : zW} {m : Nat} {T : xT} {h : Int} {G : xG} (k : wKn n W nn T0 h0 G0 n1 V m T h G) (c : nn ≤ V.1 87 10) : wFz n W nn T0 h0 G0 n1 (some (.inl (V.1 87 12))) (zuF V 87 1 0) := by
  obtain ⟨k1, k2, k3, k4, k5, k6, k7, k8, k9, j1, j2, j3⟩ := k
  have f : zFr [(87, 1)] [] V (zuF V 87 1 0) := zFr_F zFr_0 (by decide)
  refine ⟨V.1 87 12, V.1 87 10, m, T, h, G, rfl, k1, c, zHe_fr f (by decide) (by decide) k2, zOg_e k3 (zFr_f f 87 3), ?_, zVr_f f k5, by rw [zFr_f f 87 0]; exact k9, by rw [zuF_1, if_pos ⟨rfl, rfl⟩], wFd_t j3 j1 (wFd_f f), eWo_2 j2 rfl rfl, eGn_t j3 (eGn_0 rfl)⟩
  rw [zFr_f f 90 5]
  exact wTn_e k4 (zFr_r f 104) (zFr_r f 105) (zFr_r f 106)
end
section
/-! the reference: end -/
noncomputable def ak_ZMMefZ : List jI := [(.aload_n 0, 1, (0, 0, 0, 0, 0)), (.iload_n 1, 1, (1, 0, 0, 0, 0)), (.ifCond .lt 11, 3, (13, 0, 0, 0, 0)), (.iload_n 1, 1, (1, 0, 0, 0, 0)), (.aload_n 0, 1, (0, 0, 0, 0, 0)), (.getfield 50, 3, (11, 1, 2303, 0, 0)), (.if_icmp .le 7, 3, (17, 0, 0, 0, 0)), (.iconst 1, 1, (0, 0, 0, 1, 0)), (.goto 4, 3, (18, 0, 0, 0, 0)), (.iconst 0, 1, (0, 0, 0, 0, 0)), (.putfield 46, 3, (11, 0, 2302, 0, 0)), (.aload_n 0, 1, (0, 0, 0, 0, 0)), (.getfield 46, 3, (11, 0, 2302, 0, 0)), (.ifCond .le 5, 3, (30, 0, 0, 0, 0)), (.iconst 0, 1, (0, 0, 0, 0, 0)), (.ireturn, 1, (0, 0, 0, 0, 0)), (.aload_n 0, 1, (0, 0, 0, 0, 0)), (.iconst 0, 1, (0, 0, 0, 0, 0)), (.putfield 57, 3, (11, 3, 2305, 0, 0)), (.aload_n 0, 1, (0, 0, 0, 0, 0)), (.iconst 0, 1, (0, 0, 0, 0, 0)), (.putfield 60, 3, (11, 12, 2314, 0, 0)), (.aload_n 0, 1, (0, 0, 0, 0, 0)), (.iconst 0, 1, (0, 0, 0, 0, 0)), (.putfield 63, 3, (11, 10, 2312, 0, 0)), (.aload_n 0, 1, (0, 0, 0, 0, 0)), (.iload_n 1, 1, (1, 0, 0, 0, 0)), (.putfield 66, 3, (11, 11, 2313, 0, 0)), (.aload_n 0, 1, (0, 0, 0, 0, 0)), (.getfield 63, 3, (11, 10, 2312, 0, 0)), (.aload_n 0, 1, (0, 0, 0, 0, 0)), (.getfield 66, 3, (11, 11, 2313, 0, 0)), (.if_icmp .ge 25, 3, (83, 0, 0, 0, 0)), (.aload_n 0, 1, (0, 0, 0, 0, 0)), (.invokevirtual 69, 3, (0, 0, 2376, 0, 0)), (.aload_n 0, 1, (0, 0, 0, 0, 0)), (.getfield 72, 3, (11, 9, 2311, 0, 0)), (.aload_n 0, 1, (0, 0, 0, 0, 0)), (.getfield 75, 3, (11, 8, 2310, 0, 0)), (.if_icmp .le (-23), 3, (50, 0, 0, 0, 0)), (.aload_n 0, 1, (0, 0, 0, 0, 0)), (.invokevirtual 78, 3, (0, 0, 0, 0, 0)), (.goto (-30), 3, (50, 0, 0, 0, 0)), (.aload_n 0, 1, (0, 0, 0, 0, 0)), (.iconst 0, 1, (0, 0, 0, 0, 0)), (.putfield 50, 3, (11, 1, 2303, 0, 0)), (.aload_n 0, 1, (0, 0, 0, 0, 0)), (.getfield 60, 3, (11, 12, 2314, 0, 0)), (.ireturn, 1, (0, 0, 0, 0, 0))]
theorem ao_ZMMefZ : jokLG jtF lk_MM "ChessHouseModel" jcl jtb 2 prog_15_method_5_code 0 ak_ZMMefZ = true := by decide +kernel
noncomputable def zm_MMefZ (cc ss : Nat) : zM := (some .int, { frames := 43, cells := cc, slots := ss, locals := 3100 }, ([(69, 2376, 0)], []), [(y_MM_takeLine, false, 1, 11, { frames := 0, cells := 0, slots := 0, locals := 0 }, zc_MMtkl)], ak_ZMMefZ)
set_option maxRecDepth 8000 in
theorem zp_MMefZ_0 {n K : Nat} {W : zW} {post : zPo} {cc ss : Nat} {nn : Int} {Xz : Nat → List (Option zv) → List zv → zW → Prop} (hK : 24 ≤ K) (hn : 142 ≤ n) (h : (nn < 0 → post (some (.inl (0))) (zuF W 87 0 1)) ∧ (¬ nn < 0 → (nn ≤ (W.1 87 1) → zwpE jtb zsh n (zm_MMefZ cc ss) (fun p => Nat.beq p 50) Xz post (K - 24) (lGo ak_ZMMefZ 50) 50 [some (.inr (.inr (some (.inl 87)))), some (.inl (nn))] [] (zuF (zuF (zuF (zuF (zuF W 87 0 0) 87 3 0) 87 12 0) 87 10 0) 87 11 nn)) ∧ (¬ nn ≤ (W.1 87 1) → post (some (.inl (0))) (zuF W 87 0 1)))) : zwpE jtb zsh n (zm_MMefZ cc ss) (fun p => Nat.beq p 50) Xz post K (lGo ak_ZMMefZ 0) 0 [some (.inr (.inr (some (.inl 87)))), some (.inl (nn))] [] W := by
  obtain ⟨kk__, rfl⟩ : ∃ kk__, K = kk__ + 24 := ⟨K - 24, by omega⟩
  exact (show (nn < 0 → 87 < n ∧ 11 = 11 ∧ (some 0 : Option Nat) = some 0 ∧ ((0 : Nat) = 0 ∨ ((0 : Nat) = 1 ∧ ((1 : Int) = 0 ∨ (1 : Int) = 1))) ∧ 87 < n ∧ 11 = 11 ∧ ((1 : Int) ≤ 0 → zwpE jtb zsh n (zm_MMefZ cc ss) (fun p => Nat.beq p 50) Xz post (kk__ + 15) (lGo ak_ZMMefZ 30) 30 [some (.inr (.inr (some (.inl 87)))), some (.inl (nn))] [] (zuF W 87 0 1)) ∧ (¬ (1 : Int) ≤ 0 → 1 = 1 ∧ True ∧ post (some (.inl (0))) (zuF W 87 0 1))) ∧ (¬ nn < 0 → 87 < n ∧ 11 = 11 ∧ (nn ≤ (W.1 87 1) → 87 < n ∧ 11 = 11 ∧ (some 0 : Option Nat) = some 0 ∧ ((0 : Nat) = 0 ∨ ((0 : Nat) = 1 ∧ ((0 : Int) = 0 ∨ (0 : Int) = 1))) ∧ 87 < n ∧ 11 = 11 ∧ ((0 : Int) ≤ 0 → 87 < n ∧ 11 = 11 ∧ (some 0 : Option Nat) = some 0 ∧ ((0 : Nat) = 0 ∨ ((0 : Nat) = 1 ∧ ((0 : Int) = 0 ∨ (0 : Int) = 1))) ∧ 87 < n ∧ 11 = 11 ∧ (some 0 : Option Nat) = some 0 ∧ ((0 : Nat) = 0 ∨ ((0 : Nat) = 1 ∧ ((0 : Int) = 0 ∨ (0 : Int) = 1))) ∧ 87 < n ∧ 11 = 11 ∧ (some 0 : Option Nat) = some 0 ∧ ((0 : Nat) = 0 ∨ ((0 : Nat) = 1 ∧ ((0 : Int) = 0 ∨ (0 : Int) = 1))) ∧ 87 < n ∧ 11 = 11 ∧ (some 0 : Option Nat) = some 0 ∧ ((0 : Nat) = 0 ∨ ((0 : Nat) = 1 ∧ (nn = 0 ∨ nn = 1))) ∧ zwpE jtb zsh n (zm_MMefZ cc ss) (fun p => Nat.beq p 50) Xz post (kk__ + 0) (lGo ak_ZMMefZ 50) 50 [some (.inr (.inr (some (.inl 87)))), some (.inl (nn))] [] (zuF (zuF (zuF (zuF (zuF W 87 0 0) 87 3 0) 87 12 0) 87 10 0) 87 11 nn)) ∧ (¬ (0 : Int) ≤ 0 → zwpE jtb zsh n (zm_MMefZ cc ss) (fun p => Nat.beq p 50) Xz post (kk__ + 12) (lGo ak_ZMMefZ 28) 28 [some (.inr (.inr (some (.inl 87)))), some (.inl (nn))] [] (zuF W 87 0 0))) ∧ (¬ nn ≤ (W.1 87 1) → 87 < n ∧ 11 = 11 ∧ (some 0 : Option Nat) = some 0 ∧ ((0 : Nat) = 0 ∨ ((0 : Nat) = 1 ∧ ((1 : Int) = 0 ∨ (1 : Int) = 1))) ∧ 87 < n ∧ 11 = 11 ∧ ((1 : Int) ≤ 0 → zwpE jtb zsh n (zm_MMefZ cc ss) (fun p => Nat.beq p 50) Xz post (kk__ + 11) (lGo ak_ZMMefZ 30) 30 [some (.inr (.inr (some (.inl 87)))), some (.inl (nn))] [] (zuF W 87 0 1)) ∧ (¬ (1 : Int) ≤ 0 → 1 = 1 ∧ True ∧ post (some (.inl (0))) (zuF W 87 0 1)))) from ⟨fun c2_2 => ⟨(Nat.lt_of_lt_of_le (by decide) hn), rfl, rfl, (Or.inl rfl), ⟨(Nat.lt_of_lt_of_le (by decide) hn), rfl, ⟨fun hc8 => absurd hc8 (by decide), fun _ => ⟨rfl, trivial, ((h).1 c2_2)⟩⟩⟩⟩, fun c2_2 => ⟨(Nat.lt_of_lt_of_le (by decide) hn), rfl, ⟨fun c10_6 => ⟨(Nat.lt_of_lt_of_le (by decide) hn), rfl, rfl, (Or.inl rfl), ⟨(Nat.lt_of_lt_of_le (by decide) hn), rfl, ⟨fun _ => ⟨(Nat.lt_of_lt_of_le (by decide) hn), rfl, rfl, (Or.inl rfl), ⟨(Nat.lt_of_lt_of_le (by decide) hn), rfl, rfl, (Or.inl rfl), ⟨(Nat.lt_of_lt_of_le (by decide) hn), rfl, rfl, (Or.inl rfl), ⟨(Nat.lt_of_lt_of_le (by decide) hn), rfl, rfl, (Or.inl rfl), ((((h).2 c2_2)).1 c10_6)⟩⟩⟩⟩, fun hc11 => absurd hc11 (by decide)⟩⟩⟩, fun c10_6 => ⟨(Nat.lt_of_lt_of_le (by decide) hn), rfl, rfl, (Or.inl rfl), ⟨(Nat.lt_of_lt_of_le (by decide) hn), rfl, ⟨fun hc12 => absurd hc12 (by decide), fun _ => ⟨rfl, trivial, ((((h).2 c2_2)).2 c10_6)⟩⟩⟩⟩⟩⟩⟩)
set_option maxRecDepth 8000 in
theorem zp_MMefZ_80 {n K : Nat} {V : zW} {post : zPo} {cc ss : Nat} {nn : Int} {Xz : Nat → List (Option zv) → List zv → zW → Prop} (hK : 1 ≤ K) (hn : 142 ≤ n) (h : zwpE jtb zsh n (zm_MMefZ cc ss) (fun p => Nat.beq p 50) Xz post (K - 1) (lGo ak_ZMMefZ 50) 50 [some (.inr (.inr (some (.inl 87)))), some (.inl (nn))] [] V) : zwpE jtb zsh n (zm_MMefZ cc ss) (fun p => Nat.beq p 50) Xz post K (lGo ak_ZMMefZ 80) 80 [some (.inr (.inr (some (.inl 87)))), some (.inl (nn))] [] V := by
  obtain ⟨kk__, rfl⟩ : ∃ kk__, K = kk__ + 1 := ⟨K - 1, by omega⟩
  exact (show zwpE jtb zsh n (zm_MMefZ cc ss) (fun p => Nat.beq p 50) Xz post (kk__ + 0) (lGo ak_ZMMefZ 50) 50 [some (.inr (.inr (some (.inl 87)))), some (.inl (nn))] [] V from h)
set_option maxRecDepth 8000 in
theorem zp_MMefZ_50 {n K : Nat} {V : zW} {post : zPo} {cc ss : Nat} {nn : Int} {Xz : Nat → List (Option zv) → List zv → zW → Prop} (hK : 13 ≤ K) (hn : 142 ≤ n) (h : ((V.1 87 11) ≤ (V.1 87 10) → post (some (.inl (V.1 87 12))) (zuF V 87 1 0)) ∧ (¬ (V.1 87 11) ≤ (V.1 87 10) → (0 ≤ V.1 87 10 ∧ V.1 87 10 ≤ V.1 87 11 ∧ V.1 87 11 ≤ 65536) ∧ ∀ W62 : zW, (zFr [(87, 8), (87, 9), (87, 10)] [] V W62 ∧ W62.1 87 8 = V.1 87 10 ∧ gLn (V.2.1 88) (V.1 87 11) (V.1 87 10) (W62.1 87 9) ∧ W62.1 87 10 = W62.1 87 9 + 1) → ((W62.1 87 9) ≤ (W62.1 87 8) → zwpE jtb zsh n (zm_MMefZ cc ss) (fun p => Nat.beq p 77) Xz post (K - 12) (lGo ak_ZMMefZ 50) 50 [some (.inr (.inr (some (.inl 87)))), some (.inl (nn))] [] W62) ∧ (¬ (W62.1 87 9) ≤ (W62.1 87 8) → zwpE jtb zsh n (zm_MMefZ cc ss) (fun p => Nat.beq p 77) Xz post (K - 13) (lGo ak_ZMMefZ 77) 77 [some (.inr (.inr (some (.inl 87)))), some (.inl (nn))] [.inr (.inr (some (.inl 87)))] W62))) : zwpE jtb zsh n (zm_MMefZ cc ss) (fun p => Nat.beq p 77) Xz post K (lGo ak_ZMMefZ 50) 50 [some (.inr (.inr (some (.inl 87)))), some (.inl (nn))] [] V := by
  obtain ⟨kk__, rfl⟩ : ∃ kk__, K = kk__ + 13 := ⟨K - 13, by omega⟩
  exact (show 87 < n ∧ 11 = 11 ∧ 87 < n ∧ 11 = 11 ∧ ((V.1 87 11) ≤ (V.1 87 10) → 87 < n ∧ 11 = 11 ∧ (some 0 : Option Nat) = some 0 ∧ ((0 : Nat) = 0 ∨ ((0 : Nat) = 1 ∧ ((0 : Int) = 0 ∨ (0 : Int) = 1))) ∧ 87 < n ∧ 11 = 11 ∧ 1 = 1 ∧ True ∧ post (some (.inl (V.1 87 12))) (zuF V 87 1 0)) ∧ (¬ (V.1 87 11) ≤ (V.1 87 10) → 3 = 3 ∧ false = false ∧ jin3 69 2376 0 (zm_MMefZ cc ss).2.2.1.1 = true ∧ lRm (zm_MMefZ cc ss).2.1 { frames := 0, cells := 0, slots := 0, locals := 0 } 1 = true ∧ Nat.ble 1 1 = true ∧ Nat.ble 0 8 = true ∧ 87 < n ∧ 11 = 11 ∧ Nat.ble 1000 11 = false ∧ zc_MMtkl [.inr (.inr (some (.inl 87)))] V (fun vv__ WW__ => zwpE jtb zsh n (zm_MMefZ cc ss) (fun p => Nat.beq p 77) Xz post (kk__ + 6) (lGo ak_ZMMefZ 65) 65 [some (.inr (.inr (some (.inl 87)))), some (.inl (nn))] (vv__.toList ++ []) WW__)) from ⟨(Nat.lt_of_lt_of_le (by decide) hn), rfl, ⟨(Nat.lt_of_lt_of_le (by decide) hn), rfl, ⟨fun c58_4 => ⟨(Nat.lt_of_lt_of_le (by decide) hn), rfl, rfl, (Or.inl rfl), ⟨(Nat.lt_of_lt_of_le (by decide) hn), rfl, ⟨rfl, trivial, ((h).1 c58_4)⟩⟩⟩, fun c58_4 => ⟨rfl, rfl, rfl, rfl, rfl, rfl, (Nat.lt_of_lt_of_le (by decide) hn), rfl, rfl, rfl, (((h).2 c58_4)).1, fun W62 hr62 => (show 87 < n ∧ 11 = 11 ∧ 87 < n ∧ 11 = 11 ∧ ((W62.1 87 9) ≤ (W62.1 87 8) → zwpE jtb zsh n (zm_MMefZ cc ss) (fun p => Nat.beq p 77) Xz post (kk__ + 1) (lGo ak_ZMMefZ 50) 50 [some (.inr (.inr (some (.inl 87)))), some (.inl (nn))] [] W62) ∧ (¬ (W62.1 87 9) ≤ (W62.1 87 8) → zwpE jtb zsh n (zm_MMefZ cc ss) (fun p => Nat.beq p 77) Xz post (kk__ + 0) (lGo ak_ZMMefZ 77) 77 [some (.inr (.inr (some (.inl 87)))), some (.inl (nn))] [.inr (.inr (some (.inl 87)))] W62) from (have h := ((((h).2 c58_4)).2 W62 hr62); ⟨(Nat.lt_of_lt_of_le (by decide) hn), rfl, ⟨(Nat.lt_of_lt_of_le (by decide) hn), rfl, ⟨fun c73_11 => ((h).1 c73_11), fun c73_11 => ((h).2 c73_11)⟩⟩⟩))⟩⟩⟩⟩)
theorem dN_77 : decode prog_15_method_5_code 77 = .ok (.invokevirtual 78, 3) := by decide +kernel
theorem zj_MMcmdA {l : Launch} {E : jE} {n : Nat} (hn : 142 ≤ n) {W : zW} {T : xT} {h : Int} {G : xG} (hW : zWok W) (hj : wJm W T h G) (hE : eWo n W) : ∃ rc : Room, rc.frames ≤ 42 ∧ rc.locals ≤ 2900 ∧ rc.cells ≤ eCc W ∧ rc.slots ≤ eSs W ∧ jMet l E jcl jtb lw_tbl y_MM_command rc (zs [.inr (.inr (some (.inl 87)))]) (zlW zsh W) n (wCj n W T h G) := by
  by_cases c : wE27 W
  · exact ⟨_, Nat.le_refl _, Nat.le_refl _, Nat.le_refl _, Nat.le_refl _, zj_MMcmd27 hn hW hj c hE⟩
  · refine ⟨{ frames := 34, cells := 0, slots := 0, locals := 1869 }, Nat.le_of_ble_eq_true rfl, Nat.le_of_ble_eq_true rfl, Nat.zero_le _, Nat.zero_le _, ?_⟩
    have z := (zk_MMcmd (l := l) (E := E) hn).2 [.inr (.inr (some (.inl 87)))] W (fun v V => v = none ∧ wLn W V T h G) (fun v hv => by rcases List.mem_cons.mp hv with rfl | hv; trivial; cases hv) hW ⟨T, h, G, rfl, ⟨hj, c⟩, fun V hl => ⟨rfl, hl⟩⟩
    refine jMet_post z ?_
    rintro r σ' n' ⟨rfl, v', V, rfl, _, hV, rfl, rfl, hp⟩
    exact ⟨none, V, rfl, hV, rfl, rfl, wLj_n hE hp⟩
set_option maxRecDepth 20000 in
set_option maxHeartbeats 1000000 in
theorem zj_MMend {l : Launch} {E : jE} {n : Nat} (hn : 142 ≤ n) {W : zW} {T : xT} {h : Int} {G : xG} {nn : Int} (hW : zWok W) (hh : zHe W T h) (ht : wTn W (W.1 90 5) G) (hv : zVr W) (hT : ∀ i, -128 ≤ W.2.1 88 i ∧ W.2.1 88 i ≤ 127) (hb : 0 ≤ nn ∧ nn ≤ W.1 87 1) (hfd : W.1 87 1 ≤ 65536) (hE : eWo n W) : jMet l E jcl jtb lw_tbl y_MM_end { frames := 43, cells := (eCc W), slots := (eSs W), locals := 3100 } (zs [.inr (.inr (some (.inl 87))), .inl nn]) (zlW zsh W) n (wFj n W nn T h G) := by
  have hnn : lRg nn := ⟨by omega, by omega⟩
  refine jMet_of (Y := y_MM_end) rfl false (fun h => by cases h) (by decide) (Nat.le_of_ble_eq_true rfl) _ rfl (fun M hl hR X hr => ?_)
  have hok2 := jokLG_ok (fun _ _ => jtF_ok) lo_MM ao_ZMMefZ
  have run : ∀ (ex : Nat → Bool) (Xz : Nat → List (Option zv) → List zv → zW → Prop) (n1 ca sl K pc : Nat) (lv : List (Option zv)) (st : List zv) (V : zW), 142 ≤ n1 → (ca ≤ (eCc W) ∧ sl ≤ (eSs W)) → zOl lv → zOs st → zWok V → (∀ pc lv st U, zOl lv → zOs st → zWok U → ex pc = true → Xz pc lv st U → jJ E jcl 2 M (jQ E jcl M (wFj n W nn T h G) (eCc W) (eSs W)) n1 ca sl pc (zl lv) (zs st) (zlW zsh U)) → zwpE jtb zsh n1 (zm_MMefZ (eCc W) (eSs W)) ex Xz (wFz n W nn T h G n1) K (lGo ak_ZMMefZ pc) pc lv st V → jJ E jcl 2 M (jQ E jcl M (wFj n W nn T h G) (eCc W) (eSs W)) n1 ca sl pc (zl lv) (zs st) (zlW zsh V) := by
    intro ex Xz n1 ca sl K pc lv st V hn1 hcs hL hO hV hX hz
    unfold lGo at hz
    split at hz
    next js' hj => exact zwpE_run (m := zm_MMefZ (eCc W) (eSs W)) jC X hl hR hr (fun q h => by cases h) (aAllc (fun G h => by obtain rfl := Option.some.inj h; exact ql_MM_69) (fun q h => by cases h)) (aAllc (zk_MMtkl hn1) (fun q h => by cases h)) hok2 (fun v U hv hU hp => ⟨v, U, rfl, hU, rfl, hp⟩) hX hcs.1 hcs.2 K js' pc lv st V (aSuf_ok hok2 hj) hL hO hV hz
    next =>
      cases K with
      | zero => unfold zwpE at hz; exact hz.elim
      | succ k => unfold zwpE at hz; exact hz.elim
  have lvo : zOl [some (.inr (.inr (some (.inl 87)))), some (.inl nn)] := by
    intro j v hj
    match j, hj with
    | 0, hj => cases hj; trivial
    | 1, hj => cases hj; exact hnn
    | j + 2, hj => cases hj
  have claim : ∀ (N n1 ca sl : Nat) (V : zW) (m : Nat) (T1 : xT) (h1 : Int) (G1 : xG), nn + 2 - V.1 87 10 < N → 142 ≤ n1 → zWok V → wKn n W nn T h G n1 V m T1 h1 G1 → (ca + eCc V ≤ eCc W ∧ sl + eSs V ≤ eSs W) → jJ E jcl 2 M (jQ E jcl M (wFj n W nn T h G) (eCc W) (eSs W)) n1 ca sl 50 (zl [some (.inr (.inr (some (.inl 87)))), some (.inl nn)]) (zs []) (zlW zsh V) := by
    intro N
    induction N with
    | zero =>
      intro n1 ca sl V m T1 h1 G1 hm _ _ s _
      have := s.2.2.2.2.2.2.1
      omega
    | succ N IH =>
      intro n1 ca sl V m T1 h1 G1 hm hn1 hV s hcs
      refine run (fun p => Nat.beq p 77) (fun pc lv st U => pc = 77 ∧ lv = [some (.inr (.inr (some (.inl 87)))), some (.inl nn)] ∧ st = [.inr (.inr (some (.inl 87)))] ∧ ∃ (m2 : Nat) (a b f : Int), V.1 87 10 ≤ a ∧ U.2.2.2.1 87 7 = V.2.2.2.1 87 7 ∧ wKc n W nn T h G n1 U m2 T1 h1 G1 a b f) n1 ca sl (60 * (N + 3) + 100) 50 _ _ V hn1 ⟨by omega, by omega⟩ lvo (fun v hv => by cases hv) hV ?_ ?_
      · rintro pc lv st U - - hU he ⟨rfl, rfl, rfl, m2, a, b, f, ha, e7, kc⟩
        obtain ⟨rc, r1, r2, r3, r4, hM⟩ := zj_MMcmdA (l := l) (E := E) hn1 hU kc.2.2.2.2.2.1 kc.2.2.2.2.2.2.2.2.2.1
        have ec : eCc U = eCc V := by unfold eCc; rw [e7]
        have es : eSs U = eSs V := by unfold eSs; rw [e7]
        rw [← hl] at hM
        refine jk_callVD (Y := y_MM_command) (rc := rc) (wi := 2380) X hR dN_77 ql_MM_78 m_MM_command i_MM_command e_MM_command (ci := 11) (q := ("ChessHouseModel", F_MM, 19)) rfl rfl (a := 87) (vals := []) (r := []) (by omega) rfl hM rfl rfl ⟨by show rc.frames + 1 ≤ 43; omega, by show 8 + (2 + 11) + rc.locals ≤ 3100; omega⟩ ⟨by show ca + rc.cells ≤ eCc W; omega, by show sl + rc.slots ≤ eSs W; omega⟩ (by decide) (fun v σ' n' hp => ?_)
        obtain ⟨v', V2, rfl, hV2, rfl, rfl, lj⟩ := hp
        obtain ⟨T2, h2, G2, k2, k3⟩ := wKc_k kc lj
        have gn : eGn n1 n' U V2 := by
          obtain ⟨_, _, _, _, _, _, _, _, _, _, _, _, _, _, _, _, _, _, _, _, _, z⟩ := lj
          exact z
        have n3 : 142 ≤ n' := by have := eGn_l gn; omega
        have key : ∀ c s, (c + eCc V2 ≤ eCc W ∧ s + eSs V2 ≤ eSs W) → jJ E jcl 2 M (jQ E jcl M (wFj n W nn T h G) (eCc W) (eSs W)) n' c s 80 (zl [some (.inr (.inr (some (.inl 87)))), some (.inl nn)]) (zs []) (zlW zsh V2) := by
          intro c s hcs2
          refine run (fun p => Nat.beq p 50) (fun pc lv st U => pc = 50 ∧ lv = [some (.inr (.inr (some (.inl 87)))), some (.inl nn)] ∧ st = [] ∧ U = V2) n' c s 20 80 _ _ V2 n3 ⟨by omega, by omega⟩ lvo (fun v hv => by cases hv) hV2 ?_ ?_
          · rintro pc lv st Q - - hQ he ⟨rfl, rfl, rfl, rfl⟩
            exact IH n' c s Q (m2 + 1) T2 h2 G2 (by omega) n3 hQ k2 hcs2
          · have x50 : 50 = 50 ∧ ([some (.inr (.inr (some (.inl 87)))), some (.inl nn)] : List (Option zv)) = [some (.inr (.inr (some (.inl 87)))), some (.inl nn)] ∧ ([] : List zv) = [] ∧ V2 = V2 := ⟨rfl, rfl, rfl, rfl⟩
            exact zp_MMefZ_80 (by omega) n3 (zwpE_y rfl (by omega) ⟨_, _, rfl⟩ (x50))
        rcases gn with ⟨g1, g2⟩ | ⟨g1, g2, g3⟩
        · have ec2 : eCc V2 = eCc U := by unfold eCc; rw [g2]
          have es2 : eSs V2 = eSs U := by unfold eSs; rw [g2]
          exact ⟨fun _ => key ca sl ⟨by omega, by omega⟩, fun z => absurd g1 z⟩
        · have ec2 : eCc V2 = 0 := by unfold eCc; rw [g3]; rfl
          have es2 : eSs V2 = 0 := by unfold eSs; rw [g3]; rfl
          exact ⟨fun z => absurd z (by omega), fun _ => key _ _ ⟨by omega, by omega⟩⟩
      · have inner : ∀ (N2 K : Nat) (m2 : Nat) (U : zW), 60 * N2 + 60 ≤ K → (nn + 2 - U.1 87 10 < N2 ∧ V.1 87 10 ≤ U.1 87 10 ∧ U.2.2.2.1 87 7 = V.2.2.2.1 87 7 ∧ wKn n W nn T h G n1 U m2 T1 h1 G1) → zwpE jtb zsh n1 (zm_MMefZ (eCc W) (eSs W)) (fun p => Nat.beq p 77) (fun pc lv st U => pc = 77 ∧ lv = [some (.inr (.inr (some (.inl 87)))), some (.inl nn)] ∧ st = [.inr (.inr (some (.inl 87)))] ∧ ∃ (m2 : Nat) (a b f : Int), V.1 87 10 ≤ a ∧ U.2.2.2.1 87 7 = V.2.2.2.1 87 7 ∧ wKc n W nn T h G n1 U m2 T1 h1 G1 a b f) (wFz n W nn T h G n1) K (lGo ak_ZMMefZ 50) 50 [some (.inr (.inr (some (.inl 87)))), some (.inl nn)] [] U := by
          intro N2
          induction N2 with
          | zero =>
            intro K m2 U hK hs
            have := hs.2.2.2.2.2.2.2.2.2.1
            omega
          | succ N2 ih =>
            rintro K m2 U hK ⟨hs1, hs2, hs3, hs⟩
            have q11 := hs.2.2.2.2.2.2.2.1
            have q10 := hs.2.2.2.2.2.2.1
            have fin : nn ≤ U.1 87 10 → wFz n W nn T h G n1 (some (.inl (U.1 87 12))) (zuF U 87 1 0) := fun c => wKn_z hs c
            have emp : U.1 87 10 < nn → ∀ {Q : zW}, (zFr [(87, 8), (87, 9), (87, 10)] [] U Q ∧ Q.1 87 8 = U.1 87 10 ∧ gLn (U.2.1 88) (U.1 87 11) (U.1 87 10) (Q.1 87 9) ∧ Q.1 87 10 = Q.1 87 9 + 1) → Q.1 87 9 ≤ Q.1 87 8 → nn + 2 - Q.1 87 10 < N2 ∧ V.1 87 10 ≤ Q.1 87 10 ∧ Q.2.2.2.1 87 7 = V.2.2.2.1 87 7 ∧ wKn n W nn T h G n1 Q (m2 + 1) T1 h1 G1 := fun c Q l z => by
              have k := (wKn_l hT (by omega) hs c l).1 z
              exact ⟨by omega, by omega, by rw [l.1.2.2]; exact hs3, k.1⟩
            have x77 : U.1 87 10 < nn → ∀ {Q : zW}, (zFr [(87, 8), (87, 9), (87, 10)] [] U Q ∧ Q.1 87 8 = U.1 87 10 ∧ gLn (U.2.1 88) (U.1 87 11) (U.1 87 10) (Q.1 87 9) ∧ Q.1 87 10 = Q.1 87 9 + 1) → ¬ Q.1 87 9 ≤ Q.1 87 8 → (77 = 77 ∧ ([some (.inr (.inr (some (.inl 87)))), some (.inl nn)] : List (Option zv)) = [some (.inr (.inr (some (.inl 87)))), some (.inl nn)] ∧ ([.inr (.inr (some (.inl 87)))] : List zv) = [.inr (.inr (some (.inl 87)))] ∧ ∃ (m2 : Nat) (a b f : Int), V.1 87 10 ≤ a ∧ Q.2.2.2.1 87 7 = V.2.2.2.1 87 7 ∧ wKc n W nn T h G n1 Q m2 T1 h1 G1 a b f) := fun c Q l z => ⟨rfl, rfl, rfl, m2, _, _, _, hs2, by rw [l.1.2.2]; exact hs3, (wKn_l hT (by omega) hs c l).2 z⟩
            exact zp_MMefZ_50 (by omega) hn1 ⟨fun c58 => (fin (by omega)), fun c58 => ⟨⟨by omega, by omega, by omega⟩, fun W62 hr62 => ⟨fun c73 => (ih _ _ _ (by omega) (emp (by omega) hr62 (by omega))), fun c73 => (zwpE_y rfl (by omega) ⟨_, _, rfl⟩ (x77 (by omega) hr62 (by omega)))⟩⟩⟩
        exact inner (N + 2) _ m V (by omega) ⟨by omega, Int.le_refl _, rfl, s⟩
  refine run (fun p => Nat.beq p 50) (fun pc lv st U => pc = 50 ∧ lv = [some (.inr (.inr (some (.inl 87)))), some (.inl nn)] ∧ st = [] ∧ U = (zuF (zuF (zuF (zuF (zuF W 87 0 0) 87 3 0) 87 12 0) 87 10 0) 87 11 nn)) n 0 0 100 0 (zent [.inr (.inr (some (.inl 87))), .inl nn] 2) [] W hn ⟨Nat.zero_le _, Nat.zero_le _⟩ (zOl_ent (fun v hv => by rcases List.mem_cons.mp hv with rfl | hv; trivial; rcases List.mem_cons.mp hv with rfl | hv; exact hnn; cases hv)) (fun v hv => by cases hv) hW ?_ ?_
  · rintro pc lv st U - - hU he ⟨rfl, rfl, rfl, rfl⟩
    have f : zFr [(87, 0), (87, 3), (87, 10), (87, 11), (87, 12)] [] W (zuF (zuF (zuF (zuF (zuF W 87 0 0) 87 3 0) 87 12 0) 87 10 0) 87 11 nn) := zFr_F (zFr_F (zFr_F (zFr_F (zFr_F zFr_0 (by decide)) (by decide)) (by decide)) (by decide)) (by decide)
    refine claim (nn + 3).toNat n 0 0 _ 0 T h G (by show nn + 2 - 0 < _; omega) hn hU ⟨⟨rfl, wEq_r, rfl⟩, zHe_fr f (by decide) (by decide) hh, ⟨by show (0 : Int) ≤ 0; decide, by show (0 : Int) ≤ 65536; decide⟩, ?_, zVr_f f hv, ⟨by show (0 : Int) ≤ 0; decide, by show (0 : Int) ≤ 0; decide⟩, ⟨by show (0 : Int) ≤ 0; decide, by show 0 ≤ nn + 1; omega⟩, rfl, rfl, wFd_f f, eWo_2 hE rfl rfl, eGn_0 rfl⟩ ⟨by show 0 + eCc W ≤ eCc W; omega, by show 0 + eSs W ≤ eSs W; omega⟩
    rw [zFr_f f 90 5]
    exact wTn_e ht (zFr_r f 104) (zFr_r f 105) (zFr_r f 106)
  · have x50 : 50 = 50 ∧ ([some (.inr (.inr (some (.inl 87)))), some (.inl nn)] : List (Option zv)) = [some (.inr (.inr (some (.inl 87)))), some (.inl nn)] ∧ ([] : List zv) = [] ∧ (zuF (zuF (zuF (zuF (zuF W 87 0 0) 87 3 0) 87 12 0) 87 10 0) 87 11 nn) = (zuF (zuF (zuF (zuF (zuF W 87 0 0) 87 3 0) 87 12 0) 87 10 0) 87 11 nn) := ⟨rfl, rfl, rfl, rfl⟩
    exact zp_MMefZ_0 (by omega) hn ⟨fun c2 => (False.elim (by omega)), fun c2 => ⟨fun c10 => (zwpE_y rfl (by omega) ⟨_, _, rfl⟩ (x50)), fun c10 => (False.elim (by omega))⟩⟩
end
section
/-! class and reference: tapes that agree on a line -/
theorem xwS_k {g g' : Int → Int} {p : Int} : ∀ (n : Nat) {a : Int}, p - a ≤ n → (∀ i, a ≤ i → i < p → g' i = g i) → xwS g' p a = xwS g p a
  | 0, a, hn, _ => by rw [xwS_0 (Or.inl (by omega)), xwS_0 (Or.inl (by omega))]
  | n + 1, a, hn, h => by
    by_cases c : p ≤ a
    · rw [xwS_0 (Or.inl c), xwS_0 (Or.inl c)]
    · have e := h a (Int.le_refl a) (by omega)
      by_cases d : g a = 32
      · rw [xwS_0 (Or.inr (by omega)), xwS_0 (Or.inr d)]
      · rw [← xwS_1 (g := g') (by omega) (by omega), ← xwS_1 (g := g) (by omega) d]
        exact xwS_k n (by omega) (fun i i0 i1 => h i (by omega) i1)
theorem xwS_j {g g' : Int → Int} {p a : Int} (h : ∀ i, a ≤ i → i < p → g' i = g i) : xwS g' p a = xwS g p a := xwS_k (p - a).toNat (by omega) h
theorem xb_k {g g' : Int → Int} {p s : Int} (hs : s ≤ p) (h : ∀ i, s ≤ i → i < p → g' i = g i) : ∀ k : Nat, (∀ j, j < k → xwS g p (xb g p s j) < p) → xb g' p s k = xb g p s k
  | 0, _ => rfl
  | k + 1, hk => by
    have ih := xb_k hs h k (fun j hj => hk j (by omega))
    have z := xb_ge (g := g) hs k (fun j hj => hk j (by omega))
    show xwS g' p (xb g' p s k) + 1 = xwS g p (xb g p s k) + 1
    rw [ih, xwS_j (g := g) (fun i i0 i1 => h i (by omega) i1)]
theorem xWs_k {g g' : Int → Int} {p s : Int} {c : Nat} (hs : s ≤ p) (h : ∀ i, s ≤ i → i < p → g' i = g i) (w : xWs g p s c) : xWs g' p s c ∧ ∀ k, k ≤ c → xb g' p s k = xb g p s k ∧ xwS g' p (xb g' p s k) = xwS g p (xb g p s k) := by
  have e : ∀ k, k ≤ c → xb g' p s k = xb g p s k ∧ xwS g' p (xb g' p s k) = xwS g p (xb g p s k) := fun k hk => by
    have e1 := xb_k hs h k (fun j hj => w.1 j (by omega))
    have z := xb_ge (g := g) hs k (fun j hj => w.1 j (by omega))
    refine ⟨e1, ?_⟩
    rw [e1]
    exact xwS_j (fun i i0 i1 => h i (by omega) i1)
  exact ⟨⟨fun k hk => by rw [(e k (by omega)).2]; exact w.1 k hk, by rw [(e c (Nat.le_refl _)).2]; exact w.2⟩, e⟩
theorem xEq_k {g g' : Int → Int} {a e : Int} {b : List Int32} (h : ∀ i, a ≤ i → i < e → g' i = g i) : xEq g' a e b ↔ xEq g a e b := by
  unfold xEq
  constructor
  · rintro ⟨h1, h2⟩
    exact ⟨h1, fun k hk => by rw [← h (a + k) (by omega) (by omega)]; exact h2 k hk⟩
  · rintro ⟨h1, h2⟩
    exact ⟨h1, fun k hk => by rw [h (a + k) (by omega) (by omega)]; exact h2 k hk⟩
theorem xdec_k {g g' : Int → Int} {a e : Int} (h : ∀ i, a ≤ i → i < e → g' i = g i) : ∀ n : Nat, a + n ≤ e → xdec g' a n = xdec g a n
  | 0, _ => rfl
  | n + 1, hn => by
    show 10 * xdec g' a n + g' (a + n) - 48 = 10 * xdec g a n + g (a + n) - 48
    rw [xdec_k h n (by omega), h (a + n) (by omega) (by omega)]
theorem xNv_k1 {g g' : Int → Int} {a e v : Int} (h : ∀ i, a ≤ i → i < e → g' i = g i) (x : xNv g a e v) : xNv g' a e v := by
  obtain ⟨ls, l1, l2, l3, l4, l5, l6⟩ := x
  have hl : ls = 0 ∨ ls = 1 := by omega
  refine ⟨ls, ?_, l2, l3, ?_, fun j j0 j1 => by rw [h j (by omega) j1]; exact l5 j j0 j1, ?_⟩
  · by_cases c : a < e
    · rw [h a (Int.le_refl a) c]
      exact l1
    · rcases l1 with ⟨-, z, -⟩ | ⟨z, -⟩
      · exact absurd z c
      · exact Or.inr ⟨z, fun y => c y.1⟩
  · rw [h (a + ls) (by omega) (by omega)]
    exact l4
  · rw [xdec_k (fun i i0 i1 => h i (by omega) i1) (e - (a + ls)).toNat (by omega)]
    exact l6
theorem xNv_k {g g' : Int → Int} {a e v : Int} (h : ∀ i, a ≤ i → i < e → g' i = g i) : xNv g' a e v ↔ xNv g a e v := ⟨xNv_k1 (fun i i0 i1 => (h i i0 i1).symm), xNv_k1 h⟩
theorem xR_k {g g' : Int → Int} {a e lo hi r : Int} (h : ∀ i, a ≤ i → i < e → g' i = g i) : xR g' a e lo hi r ↔ xR g a e lo hi r := by
  unfold xR
  rw [xNv_k h]
  constructor
  · rintro (z | ⟨z, y⟩)
    · exact Or.inl z
    · exact Or.inr ⟨z, fun v hv => y v ((xNv_k h).mpr hv)⟩
  · rintro (z | ⟨z, y⟩)
    · exact Or.inl z
    · exact Or.inr ⟨z, fun v hv => y v ((xNv_k h).mp hv)⟩
theorem xR_u {g : Int → Int} {a e lo hi r r' : Int} (h : xR g a e lo hi r) (h' : xR g a e lo hi r') : r = r' := by
  rcases h with ⟨h1, h2⟩ | ⟨h1, h2⟩
  · rcases h' with ⟨k1, k2⟩ | ⟨k1, k2⟩
    · exact xNv_u h1 k1
    · exact absurd h2.2 (k2 r h1 h2.1)
  · rcases h' with ⟨k1, k2⟩ | ⟨k1, k2⟩
    · exact absurd k2.2 (h2 r' k1 k2.1)
    · rw [h1, k1]
/-- the words of a line, in class and reference -/
noncomputable def wLw (c c' : Int → Int) (a b : Int) (W A : zW) : Prop := A.1 87 13 = W.1 4 1 ∧ A.2.1 88 = c' ∧ W.2.1 1 = c ∧ W.1 4 2 = b ∧ W.1 4 4 = a ∧ ∀ k : Nat, (k : Int) < W.1 4 1 → (a ≤ xb c b a k ∧ xwS c b (xb c b a k) ≤ b) ∧ A.2.1 137 k = xb c b a k ∧ A.2.1 138 k = xwS c b (xb c b a k) ∧ (k < 8 → W.2.1 5 k = xb c b a k)
theorem wLw_i {c c' : Int → Int} {a b : Int} {W A : zW} (hab : a ≤ b) (he : ∀ i, a ≤ i → i < b → c' i = c i) (w1 : W.2.1 1 = c) (w4 : W.1 4 4 = a) (w2 : W.1 4 2 = b) (a8 : A.2.1 88 = c') (lw : yLw W) (re : zRe c' b a A) : (0 < A.1 87 13 → yWo W ∧ wLw c c' a b W A) ∧ (yWo W → 0 < A.1 87 13) := by
  obtain ⟨c0, l1, l2, l3⟩ := lw
  rw [w1, w4, w2] at l2 l3
  obtain ⟨x1, x2⟩ := xWs_k (g := c) (g' := c') hab he l2
  constructor
  · intro h
    rcases re with re | ⟨d, hd, d1, d2, d3⟩
    · omega
    · have e := xWs_u x1 hd
      subst e
      have hs : ∀ k : Nat, k ≤ c0 → xb c b a k < xwS c b (xb c b a k) := fun k hk => by
        have z := d2 k (by omega)
        rw [(x2 k hk).1] at z
        have y := (x2 k hk).2
        rw [(x2 k hk).1] at y
        omega
      refine ⟨⟨c0, l1, by rw [w1, w4, w2]; exact l2, by rw [w1, w4, w2]; exact hs, by rw [w1, w4, w2]; exact l3⟩, by omega, a8, w1, w2, w4, fun k hk => ?_⟩
      have z := d3 k (by omega)
      have g1 := xb_ge (g := c) hab k (fun j hj => l2.1 j (by omega))
      have g2 := xb_le (g := c) hab k (fun j hj => l2.1 j (by omega))
      have g3 := xwS_b (g := c) g2
      exact ⟨⟨g1, g3.2⟩, z.1.trans (x2 k (by omega)).1, z.2.trans (x2 k (by omega)).2, fun k8 => l3 k k8 (by omega)⟩
  · rintro ⟨c1, o1, o2, o3, o4⟩
    rw [w1, w4, w2] at o2 o3
    rcases re with ⟨r1, j, j1, j2⟩ | ⟨d, hd, d1, d2, d3⟩
    · exfalso
      have e := xWs_u l2 o2
      subst e
      have hj : j ≤ c0 := by
        by_cases z : c0 < j
        · have := j1 c0 z
          have := x1.2
          omega
        · omega
      have z := o3 j hj
      have y := (x2 j hj).1
      have y2 := (x2 j hj).2
      omega
    · omega
theorem wLw_q {c c' : Int → Int} {a b : Int} {W A : zW} (he : ∀ i, a ≤ i → i < b → c' i = c i) (l : wLw c c' a b W A) {w : Int} (h0 : 0 ≤ w) (h8 : w < 8) (h1 : w < W.1 4 1) {s : List Int32} : yIs W w s ↔ zWq A w s := by
  obtain ⟨l1, l2, l3, l4, l5, l6⟩ := l
  obtain ⟨k, rfl⟩ : ∃ k : Nat, w = k := ⟨w.toNat, by omega⟩
  obtain ⟨⟨k0, k1⟩, k2, k3, k4⟩ := l6 k h1
  unfold yIs zWq
  rw [k2, k3, k4 (by omega), l2, l3, l4]
  rw [xEq_k (g := c) (g' := c') (fun i i0 i1 => he i (by omega) (by omega))]
  exact ⟨fun z => z.2.2, fun z => ⟨h1, h8, z⟩⟩
theorem wLw_n {c c' : Int → Int} {a b : Int} {W A : zW} (he : ∀ i, a ≤ i → i < b → c' i = c i) (l : wLw c c' a b W A) {w : Int} (h0 : 0 ≤ w) (h8 : w < 8) (h1 : w < W.1 4 1) {lo hi r : Int} : yNu W w lo hi r ↔ wNu A w lo hi r := by
  obtain ⟨l1, l2, l3, l4, l5, l6⟩ := l
  obtain ⟨k, rfl⟩ : ∃ k : Nat, w = k := ⟨w.toNat, by omega⟩
  obtain ⟨⟨k0, k1⟩, k2, k3, k4⟩ := l6 k h1
  unfold yNu wNu
  rw [k2, k3, k4 (by omega), l2, l3, l4]
  rw [xR_k (g := c) (g' := c') (fun i i0 i1 => he i (by omega) (by omega))]
/-- words to be understood -/
theorem wLw_w {c c' : Int → Int} {a b : Int} {W A : zW} (he : ∀ i, a ≤ i → i < b → c' i = c i) (l : wLw c c' a b W A) {w : Int} (h0 : 0 ≤ w) (h1 : w < W.1 4 1) : (zWw A w).2 = (yWw W w).2 ∧ ∀ j, 0 ≤ j → j < (yWw W w).2 → (zWw A w).1 j = (yWw W w).1 j := by
  obtain ⟨l1, l2, l3, l4, l5, l6⟩ := l
  obtain ⟨k, rfl⟩ : ∃ k : Nat, w = k := ⟨w.toNat, by omega⟩
  obtain ⟨⟨k0, k1⟩, k2, k3, k4⟩ := l6 k h1
  unfold zWw yWw
  rw [k2, k3, l2, l3, l4, l5, Int.toNat_natCast]
  refine ⟨rfl, fun j j0 j1 => ?_⟩
  dsimp only at j1 ⊢
  exact he _ (by omega) (by omega)
theorem xMe_k {q : rQ} {w w' : (Int → Int) × Int} {r : Int} (e : w'.2 = w.2) (h : ∀ j, 0 ≤ j → j < w.2 → w'.1 j = w.1 j) (x : xMe q w r) : xMe q w' r := by
  obtain ⟨X, x1, x2⟩ := x
  exact ⟨X, fun j j0 j1 => (x1 j j0 (by omega)).trans (h j j0 (by omega)).symm, by rw [e]; exact x2⟩
/-- what is meant is one, or none -/
theorem xMe_u {q : rQ} {w : (Int → Int) × Int} {r r' : Int} (x : xMe q w r) (y : xMe q w r') : (0 ≤ r ∧ r = r') ∨ (r < 0 ∧ r' < 0) := by
  obtain ⟨X, x1, x2⟩ := x
  obtain ⟨Y, y1, y2⟩ := y
  have y3 := zUn_c (r' := X) (fun i i0 i1 => (x1 i i0 i1).trans (y1 i i0 i1).symm) y2
  rcases x2 with ⟨a1, a2, a3, a4⟩ | ⟨a1, a2⟩
  · rcases y3 with ⟨b1, b2, b3, b4⟩ | ⟨b1, b2⟩
    · exact Or.inl ⟨a1, (a4 r' b2 b3).symm⟩
    · exact absurd ⟨r, a2, a3, a4⟩ b2
  · rcases y3 with ⟨b1, b2, b3, b4⟩ | ⟨b1, b2⟩
    · exact absurd ⟨r', b2, b3, b4⟩ a2
    · exact Or.inr ⟨a1, b1⟩
theorem xPy_k {w w' : Int → (Int → Int) × Int} : ∀ (n : Nat) {i : Int} {T T1 T2 : xT} {h h1 h2 e1 e2 : Int}, (∀ j, i ≤ j → j < i + n → (w' j).2 = (w j).2 ∧ ∀ x, 0 ≤ x → x < (w j).2 → (w' j).1 x = (w j).1 x) → xPy w n i T h T1 h1 e1 → xPy w' n i T h T2 h2 e2 → T1 = T2 ∧ h1 = h2 ∧ e1 = e2
  | 0, _, _, _, _, _, _, _, _, _, _, a, b => ⟨a.1.trans b.1.symm, a.2.1.trans b.2.1.symm, a.2.2.trans b.2.2.symm⟩
  | n + 1, i, T, T1, T2, h, h1, h2, e1, e2, hw, a, b => by
    obtain ⟨r, x, ra⟩ := a
    obtain ⟨r', y, rb⟩ := b
    obtain ⟨w1, w2⟩ := hw i (Int.le_refl i) (by omega)
    have u := xMe_u (xMe_k w1 w2 x) y
    rcases u with ⟨u1, u2⟩ | ⟨u1, u2⟩
    · subst u2
      rcases ra with ra | ⟨a1, a2, a3, a4, a5⟩ | ⟨a1, a2, a3⟩
      · omega
      · rcases rb with rb | ⟨b1, b2, b3, b4, b5⟩ | ⟨b1, b2, b3⟩
        · omega
        · exact ⟨a3.trans b3.symm, a4.trans b4.symm, a5.trans b5.symm⟩
        · exact absurd a2 b2
      · rcases rb with rb | ⟨b1, b2, b3, b4, b5⟩ | ⟨b1, b2, b3⟩
        · omega
        · exact absurd b2 a2
        · exact xPy_k n (fun j j0 j1 => hw j (by omega) (by omega)) a3 b3
    · rcases ra with ⟨a1, a2, a3, a4⟩ | ra | ra
      · rcases rb with ⟨b1, b2, b3, b4⟩ | rb | rb
        · exact ⟨a2.trans b2.symm, a3.trans b3.symm, a4.trans b4.symm⟩
        · omega
        · omega
      · omega
      · omega
end
section
/-! class and reference: the same command -/
theorem wIf_k {c c' : Int → Int} {a b : Int} {W R : zW} (hab : a ≤ b) (he : ∀ i, a ≤ i → i < b → c' i = c i) (w1 : W.2.1 1 = c) (w4 : W.1 4 4 = a) (w2 : W.1 4 2 = b) (r1 : R.2.1 88 = c') (r8 : R.1 87 8 = a) (r9 : R.1 87 9 = b) (lw : yLw W) (s : List Int32) : wIf R s ↔ yIs W 0 s := by
  obtain ⟨c0, l1, l2, l3⟩ := lw
  have z := l3 0 (by omega) (by omega)
  have e0 : W.2.1 5 0 = a := by
    have z2 : W.2.1 5 0 = xb (W.2.1 1) (W.1 4 2) (W.1 4 4) 0 := z
    rw [z2]
    exact w4
  unfold wIf wAf yIs
  rw [e0, r1, r8, r9, w1, w2, xwS_j (g := c) (g' := c') he, xEq_k (g := c) (g' := c') (fun i i0 i1 => he i i0 (by have := (xwS_b (g := c) (p := b) hab).2; omega))]
  exact ⟨fun z => ⟨by omega, by omega, z⟩, fun z => z.2.2⟩
theorem yIs_u {W : zW} {w : Int} {s s' : List Int32} (h : yIs W w s) (h' : yIs W w s') : s = s' := xEq_u h.2.2 h'.2.2
theorem yIs_k {W : zW} {w : Int} {j k : Nat} (hj : j < 28) (hk : k < 28) (h : yIs W w (yKw j)) (h' : yIs W w (yKw k)) : j = k := by
  have z := wKw_u ⟨j, hj⟩ ⟨k, hk⟩ (yIs_u h h')
  exact congrArg Fin.val z
theorem yKn_28 : ∀ k : Fin 28, k.val = 0 ∨ k.val = 2 ∨ k.val = 12 ∨ k.val = 15 ∨ (k.val ∈ [1, 3, 4, 7, 8, 9, 10, 11, 13, 14, 5, 6, 16, 17, 18, 19, 20, 21, 27, 22, 23, 24, 25, 26] ∧ yKt k.val = 0) := by decide +kernel
theorem yKt_3 : yKt 0 = 0 ∧ yKt 2 = 1 ∧ yKt 12 = 1 ∧ yKt 15 = 1 ∧ yKm 0 = 0 := by decide +kernel
theorem yKw_3 : yKw 2 = js_b2021 ∧ yKw 12 = js_b2022 ∧ yKw 15 = js_b2023 := by decide +kernel
/-- the line's command is one -/
theorem yTa_u {W : zW} {k j : Nat} (t : yTa W (3000 + k)) (hj : j < 28) (h : yIs W 0 (yKw j)) : (yKf W j ∧ k = j) ∨ (¬ yKf W j ∧ k = 0) := by
  rcases t with ⟨-, ⟨i, i1, i2, _, ⟨i3, i4⟩ | ⟨i3, i4⟩⟩ | ⟨i1, i2⟩⟩
  · obtain rfl := yIs_k i1 hj i2 h
    exact Or.inl ⟨i3, by omega⟩
  · obtain rfl := yIs_k i1 hj i2 h
    exact Or.inr ⟨i3, by omega⟩
  · exact absurd h (i1 j hj)
/-- class and reference take the same command -/
theorem wCx_k {c c' : Int → Int} {a b : Int} {W R A : zW} {k k' : Nat} (hab : a < b) (he : ∀ i, a ≤ i → i < b → c' i = c i) (w1 : W.2.1 1 = c) (w4 : W.1 4 4 = a) (w2 : W.1 4 2 = b) (r1 : R.2.1 88 = c') (r8 : R.1 87 8 = a) (r9 : R.1 87 9 = b) (a8 : A.2.1 88 = c') (t : (¬ yGb c a b ∧ k = 0) ∨ (yGb c a b ∧ yLn W ∧ yTa W (3000 + k))) (x : wCx R A k') : k' = k ∧ (k = 0 ∨ (yGb c a b ∧ ((k = 2 ∨ k = 12 ∨ k = 15) ∨ (¬ k = 2 ∧ ¬ k = 12 ∧ ¬ k = 15 ∧ wLw c c' a b W A ∧ yWo W ∧ yKl k ≤ W.1 4 1 ∧ W.1 4 1 ≤ yKm k)))) := by
  have hx : xTx (R.2.1 88) (R.1 87 8) (R.1 87 9) ↔ yGb c a b := by
    rw [r1, r8, r9]
    constructor
    · intro h i i0 i1
      rw [← he i i0 i1]
      exact h i i0 i1
    · intro h i i0 i1
      rw [he i i0 i1]
      exact h i i0 i1
  unfold wCx at x
  rw [hx] at x
  rcases t with ⟨t1, rfl⟩ | ⟨t1, t2, t3⟩
  · rcases x with ⟨-, x⟩ | ⟨x, -⟩
    · exact ⟨x, Or.inl rfl⟩
    · exact absurd x t1
  · have lw := t3.1
    have hI := wIf_k (by omega) he w1 w4 w2 r1 r8 r9 lw
    obtain ⟨k1, k2, k3⟩ := yKw_3
    obtain ⟨q0, q2, q12, q15, q00⟩ := yKt_3
    rcases x with ⟨x, -⟩ | ⟨-, x⟩
    · exact absurd t1 x
    · rw [hI, hI, hI, ← k1, ← k2, ← k3] at x
      rcases x with ⟨rfl, x⟩ | ⟨rfl, x⟩ | ⟨rfl, x⟩ | ⟨⟨n1, n2, n3⟩, re, x⟩
      · rcases yTa_u t3 (by omega) x with ⟨-, z⟩ | ⟨z, -⟩
        · exact ⟨z.symm, Or.inr ⟨t1, Or.inl (Or.inl z)⟩⟩
        · exact absurd (Or.inr q2) z
      · rcases yTa_u t3 (by omega) x with ⟨-, z⟩ | ⟨z, -⟩
        · exact ⟨z.symm, Or.inr ⟨t1, Or.inl (Or.inr (Or.inl z))⟩⟩
        · exact absurd (Or.inr q12) z
      · rcases yTa_u t3 (by omega) x with ⟨-, z⟩ | ⟨z, -⟩
        · exact ⟨z.symm, Or.inr ⟨t1, Or.inl (Or.inr (Or.inr z))⟩⟩
        · exact absurd (Or.inr q15) z
      · rw [r1, r8, r9] at re
        have wi := wLw_i (by omega) he w1 w4 w2 a8 lw re
        have hc1 : 1 ≤ W.1 4 1 := by
          obtain ⟨c0, l1, -⟩ := lw
          omega
        rcases x with ⟨rfl, x⟩ | ⟨x1, x2, x3, x4, x5⟩
        · refine ⟨?_, Or.inl ?_⟩ <;>
          · rcases t3 with ⟨-, ⟨i, i1, i2, _, ⟨i3, i4⟩ | ⟨i3, i4⟩⟩ | ⟨i1, i2⟩⟩
            · exfalso
              rcases yKn_28 ⟨i, i1⟩ with z | z | z | z | ⟨z, zt⟩
              · dsimp only at z
                subst z
                rcases i3 with ⟨-, -, i3⟩ | i3 <;> omega
              · dsimp only at z
                subst z
                exact n1 i2
              · dsimp only at z
                subst z
                exact n2 i2
              · dsimp only at z
                subst z
                exact n3 i2
              · dsimp only at z zt
                rcases i3 with ⟨i3, i5, i6⟩ | i3
                · have z2 := wi.2 i3
                  obtain ⟨-, l⟩ := wi.1 z2
                  rcases x with x | ⟨-, x⟩
                  · omega
                  · have e13 := l.1
                    exact x i z ⟨(wLw_q he l (by omega) (by omega) (by omega)).mp i2, by omega, by omega⟩
                · omega
            · omega
            · omega
        · obtain ⟨y1, l⟩ := wi.1 x2
          have e13 := l.1
          have hk := wKb k' x1
          have y2 := (wLw_q he l (by omega) (by omega) (by omega)).mpr x3
          have kf : yKf W k' := Or.inl ⟨y1, by omega, by omega⟩
          rcases yTa_u t3 (by omega) y2 with ⟨-, z⟩ | ⟨z, -⟩
          · subst z
            have q : ¬ k = 2 ∧ ¬ k = 12 ∧ ¬ k = 15 := by
              refine ⟨?_, ?_, ?_⟩ <;> (rintro rfl; revert x1; decide)
            exact ⟨rfl, Or.inr ⟨t1, Or.inr ⟨q.1, q.2.1, q.2.2, l, y1, by omega, by omega⟩⟩⟩
          · exact absurd kf z
end
section
/-! class and reference: what a command does, alike -/
theorem gLn_k {c c' : Int → Int} {n l t : Int} (h : ∀ i, l ≤ i → i < n → c' i = c i) (g : gLn c n l t) : gLn c' n l t := by
  obtain ⟨⟨g1, g2⟩, g3, g4⟩ := g
  refine ⟨⟨g1, g2⟩, fun i i0 i1 => by rw [h i i0 (by omega)]; exact g3 i i0 i1, ?_⟩
  by_cases z : t = n
  · exact Or.inl z
  · refine Or.inr ?_
    rw [h t g1 (by omega)]
    exact g4.resolve_left z
theorem gTk_k {c c' : Int → Int} {n : Int} : ∀ (k : Nat) {l b x : Int}, (∀ i, l ≤ i → i < n → c' i = c i) → gTk c n k l b x → gTk c' n k l b x
  | 0, _, _, _, _, g => g
  | k + 1, l, b, x, h, g => by
    rcases g with g | ⟨g0, t, g1, g2⟩
    · exact Or.inl g
    · have hb := g1.1.1
      refine Or.inr ⟨g0, t, gLn_k h g1, ?_⟩
      rw [h l (Int.le_refl l) g0]
      rcases g2 with g2 | ⟨g2, g3⟩
      · exact Or.inl g2
      · exact Or.inr ⟨g2, gTk_k k (fun i i0 i1 => h i (by omega) i1) g3⟩
theorem gTe_k {c c' : Int → Int} {n l b x b' x' : Int} (h : ∀ i, l ≤ i → i < n → c' i = c i) (g : gTe c n l b x) (g' : gTe c' n l b' x') : b' = b ∧ x' = x := by
  obtain ⟨k, g⟩ := g
  obtain ⟨k', g'⟩ := g'
  have z := gTk_u k k' l b x b' x' (gTk_k k h g) g'
  exact ⟨z.1.symm, z.2.symm⟩
/-- a game's text -/
theorem wSt_3 {c c' : Int → Int} {nn a b b' nx nx' : Int} {T T1 T2 : xT} {h h1 h2 : Int} {G G' G1 G2 : xG} {e e' : Int} (he : ∀ i, a ≤ i → i < nn → c' i = c i) (h10 : c nn = 10) (hg : gGn G G') (s1 : gTe c nn a b nx) (s2 : gTe c' nn a b' nx')
    (s : (((∀ i, a ≤ i → i < b → c i = 10 ∨ (32 ≤ c i ∧ c i ≤ 126)) ∧ gRd (fun i => c (a + i)) (b - a) (some (T1, G1)) ∧ h1 = 0 ∧ e = 0) ∨ ((¬ (∀ i, a ≤ i → i < b → c i = 10 ∨ (32 ≤ c i ∧ c i ≤ 126)) ∨ gRd (fun i => c (a + i)) (b - a) none) ∧ yEq T h G T1 h1 G1 ∧ e = 1)))
    (s' : ((∃ Y, gTo c' nn a b' ∧ (∀ i, 0 ≤ i → i < b' - a → Y i = gTc c' nn (a + i)) ∧ gRd Y (b' - a) (some (T2, G2)) ∧ h2 = 0 ∧ e' = 0) ∨ ((¬ gTo c' nn a b' ∨ ∃ Y, (∀ i, 0 ≤ i → i < b' - a → Y i = gTc c' nn (a + i)) ∧ gRd Y (b' - a) none) ∧ yEq T h G' T2 h2 G2 ∧ e' = 1))) : nx' = nx ∧ T2 = T1 ∧ h2 = h1 ∧ gGn G1 G2 ∧ e' = e := by
  obtain ⟨rfl, rfl⟩ := gTe_k he s1 s2
  have hb := gTe_b s1
  have ho : gTo c' nn a b' ↔ (∀ i, a ≤ i → i < b' → c i = 10 ∨ (32 ≤ c i ∧ c i ≤ 126)) := by
    constructor
    · intro z i i0 i1
      by_cases q : i < nn
      · rw [← he i i0 q]
        exact z i i0 i1 q
      · have : i = nn := by omega
        rw [this]
        exact Or.inl h10
    · intro z i i0 i1 q
      rw [he i i0 q]
      exact z i i0 i1
  have hy : ∀ Y : Int → Int, gTo c' nn a b' → (∀ i, 0 ≤ i → i < b' - a → Y i = gTc c' nn (a + i)) → ∀ i, 0 ≤ i → i < b' - a → Y i = c (a + i) := by
    intro Y o y i i0 i1
    rw [y i i0 i1]
    have z := ho.mp o (a + i) (by omega) (by omega)
    unfold gTc
    split
    · rename_i q
      rw [he (a + i) (by omega) q]
      exact (x8_b (by omega)).2 (by omega)
    · have : a + i = nn := by omega
      rw [this, h10]
  rcases s with ⟨p1, p2, p3, p4⟩ | ⟨p1, ⟨p2, p3, p4⟩, p5⟩
  · rcases s' with ⟨Y, q1, q2, q3, q4, q5⟩ | ⟨q1, -, -⟩
    · obtain ⟨G3, g1, g2⟩ := (gRd_x (X' := Y) (hy Y q1 q2) p2).2 _ _ rfl
      have u := Option.some.inj (gRd_u g1 q3)
      have u1 := congrArg Prod.fst u
      have u2 := congrArg Prod.snd u
      dsimp only at u1 u2
      subst u1
      subst u2
      exact ⟨rfl, rfl, q4.trans p3.symm, ⟨g2.1, fun k k0 k1 => (g2.2 k k0 k1).1⟩, q5.trans p4.symm⟩
    · exfalso
      rcases q1 with q1 | ⟨Y, q1, q2⟩
      · exact q1 (ho.mpr p1)
      · obtain ⟨G3, g1, g2⟩ := (gRd_x (X' := Y) (hy Y (ho.mpr p1) q1) p2).2 _ _ rfl
        have u := gRd_u g1 q2
        cases u
  · rcases s' with ⟨Y, q1, q2, q3, q4, q5⟩ | ⟨-, ⟨q2, q3, q4⟩, q5⟩
    · exfalso
      rcases p1 with p1 | p1
      · exact p1 (ho.mp q1)
      · have g1 := (gRd_x (X' := Y) (hy Y q1 q2) p1).1 rfl
        have u := gRd_u g1 q3
        cases u
    · exact ⟨rfl, q2.trans p2.symm, q3.trans p3.symm, by rw [q4, p4]; exact hg, q5.trans p5.symm⟩
/-- yes or no, by the same number -/
theorem wSt_b {N N' P P' : Int → Prop} {e e' : Int} (hx : ∀ x y, N x → N' y → x = y) (hp : ∀ x, P' x ↔ P x) (s : ∃ x, N x ∧ ((P x ∧ e = 1) ∨ (¬ P x ∧ e = 0))) (s' : ∃ x, N' x ∧ ((P' x ∧ e' = 1) ∨ (¬ P' x ∧ e' = 0))) : e' = e := by
  obtain ⟨x, x1, x2⟩ := s
  obtain ⟨y, y1, y2⟩ := s'
  obtain rfl := hx x y x1 y1
  rw [hp] at y2
  rcases x2 with ⟨x2, x3⟩ | ⟨x2, x3⟩
  · rcases y2 with ⟨-, y3⟩ | ⟨y2, -⟩
    · exact y3.trans x3.symm
    · exact absurd x2 y2
  · rcases y2 with ⟨y2, -⟩ | ⟨-, y3⟩
    · exact absurd y2 x2
    · exact y3.trans x3.symm
theorem wNu_u {c c' : Int → Int} {a b : Int} {W A : zW} (he : ∀ i, a ≤ i → i < b → c' i = c i) (l : wLw c c' a b W A) {w : Int} (h0 : 0 ≤ w) (h8 : w < 8) (h1 : w < W.1 4 1) {lo hi : Int} : ∀ x y, yNu W w lo hi x → wNu A w lo hi y → x = y := fun x y z1 z2 => xR_u z1 ((wLw_n he l h0 h8 h1).mpr z2)
/-- help lines that fit -/
noncomputable def wHk (q : rQ) : Prop := ∀ mt x : Int, (mt = 0 ∨ mt = 1) → 1 ≤ x → x ≤ 2 → ¬ yTm q 30000000 (2 * x) → (lI (yHl mt (2 * x).toNat q)).toInt = yHl mt (2 * x).toNat q
theorem wPb_k {c c' : Int → Int} {a b : Int} {W A : zW} (he : ∀ i, a ≤ i → i < b → c' i = c i) (l : wLw c c' a b W A) (h3 : 3 ≤ W.1 4 1) {q : rQ} (x : Int) : wPg A q x ↔ yPg W q x := by
  unfold wPg yPg wPb yPb
  rw [wLw_q he l (w := 1) (by omega) (by omega) (by omega), wLw_q he l (w := 1) (by omega) (by omega) (by omega), wLw_q he l (w := 2) (by omega) (by omega) (by omega), wLw_q he l (w := 2) (by omega) (by omega) (by omega)]
theorem wHb_k {c c' : Int → Int} {a b : Int} {W A : zW} (he : ∀ i, a ≤ i → i < b → c' i = c i) (l : wLw c c' a b W A) (h3 : 3 ≤ W.1 4 1) (x : Int) : wHb A x ↔ yHb W x := by
  unfold wHb yHb
  rw [wLw_q he l (w := 1) (by omega) (by omega) (by omega), wLw_q he l (w := 1) (by omega) (by omega) (by omega)]
theorem wTb_k {c c' : Int → Int} {a b : Int} {W A : zW} (he : ∀ i, a ≤ i → i < b → c' i = c i) (l : wLw c c' a b W A) {q : rQ} (x : Int) : wTb A q x ↔ yTkb W q x := by
  have e13 := l.1
  unfold wTb yTkb
  rw [e13, cL_z]
  have z : (W.1 4 1 = 3 ∧ ¬ zWq A 2 js_b2016) ↔ (W.1 4 1 = 3 ∧ ¬ yIs W 2 js_b2016) := by
    constructor
    · rintro ⟨z1, z2⟩
      exact ⟨z1, fun y => z2 ((wLw_q he l (by omega) (by omega) (by omega)).mp y)⟩
    · rintro ⟨z1, z2⟩
      exact ⟨z1, fun y => z2 ((wLw_q he l (by omega) (by omega) (by omega)).mpr y)⟩
  rw [z]
end
section
/-! class and reference: a command of words and numbers does the same -/
theorem wEq_k {T T1 T2 : xT} {h h1 h2 : Int} {G G' G1 G2 : xG} {e e' nx nx' : Int} (hg : gGn G G') (hn : nx' = nx) (y : yEq T h G T1 h1 G1) (y' : yEq T h G' T2 h2 G2) (he : e' = e) : nx' = nx ∧ T2 = T1 ∧ h2 = h1 ∧ gGn G1 G2 ∧ e' = e := by
  obtain ⟨rfl, rfl, rfl⟩ := y
  obtain ⟨rfl, rfl, rfl⟩ := y'
  exact ⟨hn, rfl, rfl, hg, he⟩
theorem yKl_s : yKl 9 = 2 ∧ yKl 10 = 2 ∧ yKl 11 = 2 ∧ yKl 14 = 2 ∧ yKl 17 = 2 ∧ yKl 19 = 2 ∧ yKl 20 = 4 ∧ yKl 21 = 2 ∧ yKl 22 = 4 ∧ yKl 23 = 4 ∧ yKl 24 = 5 ∧ yKl 25 = 3 ∧ yKl 26 = 4 := by decide +kernel
theorem wXm_k {c c' : Int → Int} {a b : Int} {W A : zW} (he : ∀ i, a ≤ i → i < b → c' i = c i) (l : wLw c c' a b W A) {w : Int} (h0 : 0 ≤ w) (h1 : w < W.1 4 1) {q : rQ} {r : Int} (x : xMe q (yWw W w) r) : xMe q (zWw A w) r := by
  obtain ⟨w1, w2⟩ := wLw_w he l h0 h1
  exact xMe_k w1 w2 x
theorem wSt_k {c c' : Int → Int} {nn a b : Int} {W A : zW} {k : Nat} {T T1 T2 : xT} {h h1 h2 : Int} {G G' G1 G2 : xG} {e e' nx nx' : Int} (he : ∀ i, a ≤ i → i < b → c' i = c i) (hf : ∀ i, b + 1 ≤ i → i < nn → c' i = c i) (h10 : c nn = 10) (l : wLw c c' a b W A) (e13 : W.1 0 13 = b + 1) (a10 : A.1 87 10 = b + 1) (a11 : A.1 87 11 = nn) (hl : yKl k ≤ W.1 4 1) (hg : gGn G G') (hh : wHk (xQ T h)) (hk : k ∈ [1, 3, 4, 7, 8, 9, 10, 11, 13, 14, 5, 6, 16, 17, 18, 19, 20, 21, 27, 22, 23, 24, 25, 26]) (s : yStp W nn k T h G T1 h1 G1 e nx) (s' : wSt A k T h G' T2 h2 G2 e' nx') : nx' = nx ∧ T2 = T1 ∧ h2 = h1 ∧ gGn G1 G2 ∧ e' = e := by
  obtain ⟨l9, l10, l11, l14, l17, l19, l20, l21, l22, l23, l24, l25, l26⟩ := yKl_s
  have w1 : W.2.1 1 = c := l.2.2.1
  have w88 : A.2.1 88 = c' := l.2.1
  have hn : ¬ k = 3 → nx' = nx := fun z => by rw [s'.1 z, s.1 z, a10, e13]
  replace s := s.2
  replace s' := s'.2
  simp only [List.mem_cons, List.not_mem_nil, or_false] at hk
  rcases hk with rfl | rfl | rfl | rfl | rfl | rfl | rfl | rfl | rfl | rfl | rfl | rfl | rfl | rfl | rfl | rfl | rfl | rfl | rfl | rfl | rfl | rfl | rfl | rfl
  · obtain ⟨s1, s2, s3, s4⟩ := s
    obtain ⟨t1, t2, t3, t4⟩ := s'
    exact ⟨hn (by decide), t1.trans s1.symm, t2.trans s2.symm, by rw [t3, s3]; exact gGn_r, t4.trans s4.symm⟩
  · obtain ⟨b1, s1, s2⟩ := s
    obtain ⟨b2, t1, t2⟩ := s'
    unfold yGx at s2
    rw [w1, e13] at s1 s2
    rw [w88, a10, a11] at t1 t2
    exact wSt_3 hf h10 hg s1 t1 s2 t2
  · exact wEq_k hg (hn (by decide)) s.1 s'.1 (s'.2.trans s.2.symm)
  · exact wEq_k hg (hn (by decide)) s.1 s'.1 (s'.2.trans s.2.symm)
  · obtain ⟨s1, s2⟩ := s
    obtain ⟨t1, t2⟩ := s'
    rw [l.1] at t1
    have z := xPy_k (w' := zWw A) _ (fun j j0 j1 => wLw_w he l (by omega) (by omega)) s1 t1
    exact ⟨hn (by decide), z.1.symm, z.2.1.symm, by rw [t2, s2]; exact hg, z.2.2.symm⟩
  · obtain ⟨x, s1, s2⟩ := s
    obtain ⟨y, t1, t2⟩ := s'
    obtain rfl := wNu_u he l (by omega) (by omega) (by omega) _ _ s1 t1
    rcases s2 with ⟨p1, p2, p3⟩ | ⟨p1, p2, p3, p4, p5⟩
    · rcases t2 with ⟨q1, q2, q3⟩ | ⟨q1, q2, q3, q4, q5⟩
      · exact wEq_k hg (hn (by decide)) p2 q2 (q3.trans p3.symm)
      · rcases p1 with p1 | p1
        · omega
        · rw [p1] at q2
          cases q2
    · rcases t2 with ⟨q1, q2, q3⟩ | ⟨q1, q2, q3, q4, q5⟩
      · rcases q1 with q1 | q1
        · omega
        · rw [q1] at p2
          cases p2
      · rw [p2] at q2
        exact ⟨hn (by decide), q3.trans p3.symm, (Option.some.inj q2).symm, by rw [q4, p4]; exact hg, q5.trans p5.symm⟩
  · obtain ⟨x, s1, s2⟩ := s
    obtain ⟨y, t1, t2⟩ := s'
    obtain rfl := wNu_u he l (by omega) (by omega) (by omega) _ _ s1 t1
    rcases s2 with ⟨p1, p2, p3⟩ | ⟨p1, p2, p3, p4, p5⟩
    · rcases t2 with ⟨q1, q2, q3⟩ | ⟨q1, q2, q3, q4, q5⟩
      · exact wEq_k hg (hn (by decide)) p2 q2 (q3.trans p3.symm)
      · exact absurd q1 p1
    · rcases t2 with ⟨q1, q2, q3⟩ | ⟨q1, q2, q3, q4, q5⟩
      · exact absurd p1 q1
      · exact ⟨hn (by decide), q2.trans p2.symm, q3.trans p3.symm, by rw [q4, p4]; exact hg, q5.trans p5.symm⟩
  · obtain ⟨x, s1, s2⟩ := s
    obtain ⟨y, t1, t2⟩ := s'
    obtain rfl := wNu_u he l (by omega) (by omega) (by omega) _ _ s1 t1
    rcases s2 with ⟨p1, p2, p3⟩ | ⟨p1, p2, p3, p4, p5⟩
    · rcases t2 with ⟨q1, q2, q3⟩ | ⟨q1, q2, q3, q4, q5⟩
      · exact wEq_k hg (hn (by decide)) p2 q2 (q3.trans p3.symm)
      · exact absurd p1 q1
    · rcases t2 with ⟨q1, q2, q3⟩ | ⟨q1, q2, q3, q4, q5⟩
      · exact absurd q1 p1
      · exact ⟨hn (by decide), q2.trans p2.symm, q3.trans p3.symm, by rw [q4, p4]; exact hg, q5.trans p5.symm⟩
  · rcases s with ⟨p1, p2, p3⟩ | ⟨p1, p2, p3, p4, p5⟩
    · rcases s' with ⟨q1, q2, q3⟩ | ⟨q1, q2, q3, q4, q5⟩
      · exact wEq_k hg (hn (by decide)) p2 q2 (q3.trans p3.symm)
      · exact absurd p1 q1
    · rcases s' with ⟨q1, q2, q3⟩ | ⟨q1, q2, q3, q4, q5⟩
      · exact absurd q1 p1
      · exact ⟨hn (by decide), q2.trans p2.symm, q3.trans p3.symm, by rw [q4, p4]; exact hg, q5.trans p5.symm⟩
  · refine wEq_k hg (hn (by decide)) s.1 s'.1 ?_
    have z : zRs A 1 ↔ yIr W 1 := by
      unfold zRs yIr
      rw [wLw_q he l (w := 1) (by omega) (by omega) (by omega), wLw_q he l (w := 1) (by omega) (by omega) (by omega), wLw_q he l (w := 1) (by omega) (by omega) (by omega), wLw_q he l (w := 1) (by omega) (by omega) (by omega)]
    have s2 := s.2
    have t2 := s'.2
    rw [z] at t2
    rcases s2 with ⟨p1, p2⟩ | ⟨p1, p2⟩
    · rcases t2 with ⟨q1, q2⟩ | ⟨q1, q2⟩
      · exact q2.trans p2.symm
      · exact absurd p1 q1
    · rcases t2 with ⟨q1, q2⟩ | ⟨q1, q2⟩
      · exact absurd q1 p1
      · exact q2.trans p2.symm
  · exact wEq_k hg (hn (by decide)) s.1 s'.1 (s'.2.trans s.2.symm)
  · exact wEq_k hg (hn (by decide)) s.1 s'.1 (s'.2.trans s.2.symm)
  · exact wEq_k hg (hn (by decide)) s.1 s'.1 (s'.2.trans s.2.symm)
  · refine wEq_k hg (hn (by decide)) s.1 s'.1 (wSt_b (wNu_u he l (by omega) (by omega) (by omega)) (fun x => ?_) s.2 s'.2)
    exact Iff.rfl
  · exact wEq_k hg (hn (by decide)) s.1 s'.1 (s'.2.trans s.2.symm)
  · exact wEq_k hg (hn (by decide)) s.1 s'.1 (wSt_b (wNu_u he l (by omega) (by omega) (by omega)) (fun x => wTb_k he l x) s.2 s'.2)
  · refine wEq_k hg (hn (by decide)) s.1 s'.1 ?_
    obtain ⟨-, x, y, s1, s2, s3⟩ := s
    obtain ⟨-, x', y', t1, t2, t3⟩ := s'
    obtain rfl := wNu_u he l (by omega) (by omega) (by omega) _ _ s1 t1
    obtain rfl := wNu_u he l (by omega) (by omega) (by omega) _ _ s2 t2
    rcases s3 with ⟨p1, p2⟩ | ⟨⟨p0, p1, ⟨mv, m0, m1⟩, p3⟩, p2⟩
    · rcases t3 with ⟨q1, q2⟩ | ⟨⟨q0, q1, ⟨mv, m0, m1⟩, q3⟩, q2⟩
      · exact q2.trans p2.symm
      · exfalso
        rcases p1 with p1 | p1 | p1 | p1
        · exact q0 p1
        · exact q1 p1
        · have := xMe_u m1 (wXm_k he l (w := 1) (by omega) (by omega) p1)
          omega
        · exact q3 p1
    · rcases t3 with ⟨q1, q2⟩ | ⟨-, q2⟩
      · exfalso
        rcases q1 with q1 | q1 | q1 | q1
        · exact p0 q1
        · exact p1 q1
        · have := xMe_u q1 (wXm_k he l (w := 1) (by omega) (by omega) m1)
          omega
        · exact p3 q1
      · exact q2.trans p2.symm
  · refine wEq_k hg (hn (by decide)) s.1 s'.1 ?_
    obtain ⟨-, x, s1, s2⟩ := s
    obtain ⟨-, y, t1, t2⟩ := s'
    obtain rfl := wNu_u he l (by omega) (by omega) (by omega) _ _ s1 t1
    omega
  · refine wEq_k hg (hn (by decide)) s.1 s'.1 ?_
    have z : cAll (xQ T h).1 64 = cAll (yP T h).1.1 64 := rfl
    have s2 := s.2
    have t2 := s'.2
    rw [z] at t2
    omega
  · exact wEq_k hg (hn (by decide)) s.1 s'.1 (wSt_b (wNu_u he l (by omega) (by omega) (by omega)) (fun x => wPb_k he l (by omega) x) s.2 s'.2)
  · exact wEq_k hg (hn (by decide)) s.1 s'.1 (wSt_b (wNu_u he l (by omega) (by omega) (by omega)) (fun x => wPb_k he l (by omega) x) s.2 s'.2)
  · refine wEq_k hg (hn (by decide)) s.1 s'.1 ?_
    obtain ⟨-, x, s1, s2⟩ := s
    obtain ⟨-, y, t1, t2⟩ := s'
    obtain rfl := wNu_u he l (by omega) (by omega) (by omega) _ _ s1 t1
    rw [wPb_k he l (by omega)] at t2
    rcases s2 with ⟨p1, p2⟩ | ⟨⟨p1, mv, m0, m1⟩, p2⟩
    · rcases t2 with ⟨q1, q2⟩ | ⟨⟨q1, mv, m0, m1⟩, q2⟩
      · exact q2.trans p2.symm
      · exfalso
        rcases p1 with p1 | p1
        · exact q1 p1
        · have := xMe_u m1 (wXm_k he l (w := 4) (by omega) (by omega) p1)
          omega
    · rcases t2 with ⟨q1, q2⟩ | ⟨-, q2⟩
      · exfalso
        rcases q1 with q1 | q1
        · exact p1 q1
        · have := xMe_u q1 (wXm_k he l (w := 4) (by omega) (by omega) m1)
          omega
      · exact q2.trans p2.symm
  · exact wEq_k hg (hn (by decide)) s.1 s'.1 (wSt_b (wNu_u he l (by omega) (by omega) (by omega)) (fun x => by rw [wHb_k he l (by omega) x]; exact Iff.rfl) s.2 s'.2)
  · refine wEq_k hg (hn (by decide)) s.1 s'.1 ?_
    obtain ⟨-, w, s1, s2⟩ := s
    obtain ⟨-, w', t1, t2⟩ := s'
    obtain rfl := wNu_u he l (by omega) (by omega) (by omega) _ _ s1 t1
    rcases s2 with ⟨p1, p2⟩ | ⟨p1, x, mt, p2, p3, p4⟩
    · rcases t2 with ⟨q1, q2⟩ | ⟨q1, -⟩
      · exact q2.trans p2.symm
      · exact absurd p1 q1
    · rcases t2 with ⟨q1, q2⟩ | ⟨q1, y, mt', q2, q3, q4⟩
      · exact absurd q1 p1
      · obtain rfl := wNu_u he l (by omega) (by omega) (by omega) _ _ p2 q2
        rw [← wLw_q he l (by omega) (by omega) (by omega)] at q3
        have em : mt' = mt := by
          rcases p3 with ⟨p3, p5⟩ | ⟨p3, p5⟩
          · rcases q3 with ⟨q3, q5⟩ | ⟨q3, q5⟩
            · exact q3.trans p3.symm
            · exact absurd p5 q5
          · rcases q3 with ⟨q3, q5⟩ | ⟨q3, q5⟩
            · exact absurd q5 p5
            · exact q3.trans p3.symm
        subst em
        have hm : mt' = 0 ∨ mt' = 1 := by
          rcases p3 with ⟨p3, -⟩ | ⟨p3, -⟩
          · exact Or.inr p3
          · exact Or.inl p3
        rw [wHb_k he l (by omega) x] at q4
        have eP : (yP T h).1 = xQ T h := rfl
        rw [eP] at p4
        by_cases c1 : yHb W x
        · rcases p4 with ⟨-, p4⟩ | ⟨p4, -⟩
          · rcases q4 with ⟨-, q4⟩ | ⟨q4, -⟩
            · exact q4.trans p4.symm
            · exact absurd (Or.inl c1) q4
          · exact absurd (Or.inl c1) p4
        · by_cases c2 : yTm (xQ T h) 30000000 (2 * x)
          · rcases p4 with ⟨-, p4⟩ | ⟨p4, -⟩
            · rcases q4 with ⟨-, q4⟩ | ⟨q4, -⟩
              · exact q4.trans p4.symm
              · exact absurd (Or.inr (Or.inl c2)) q4
            · exact absurd (Or.inr (Or.inl c2)) p4
          · have hx : 1 ≤ x ∧ x ≤ 2 := by
              have c3 : ¬ x = -1000000000 := fun z => c1 (Or.inl z)
              rcases p2 with ⟨-, z⟩ | ⟨z, -⟩
              · exact z
              · exact absurd z c3
            rw [hh mt' x hm hx.1 hx.2 c2] at q4
            rcases p4 with ⟨p3, p4⟩ | ⟨p3, p4⟩
            · rcases q4 with ⟨-, q4⟩ | ⟨q3, -⟩
              · exact q4.trans p4.symm
              · exact absurd p3 q3
            · rcases q4 with ⟨q3, -⟩ | ⟨-, q4⟩
              · exact absurd q3 p3
              · exact q4.trans p4.symm
end
section
/-! class and reference: commands with a text -/
theorem xwS_g {g : Int → Int} {p : Int} : ∀ (n : Nat) {a : Int}, p - a ≤ n → a ≤ p → (∀ t, a ≤ t → t < xwS g p a → ¬ g t = 32) ∧ (xwS g p a < p → g (xwS g p a) = 32)
  | 0, a, hn, h => by
    rw [xwS_0 (Or.inl (by omega))]
    exact ⟨fun t t0 t1 => by omega, fun z => by omega⟩
  | n + 1, a, hn, h => by
    by_cases c : p ≤ a
    · rw [xwS_0 (Or.inl c)]
      exact ⟨fun t t0 t1 => by omega, fun z => by omega⟩
    · by_cases d : g a = 32
      · rw [xwS_0 (Or.inr d)]
        exact ⟨fun t t0 t1 => by omega, fun _ => d⟩
      · rw [← xwS_1 (g := g) (by omega) d]
        have z := xwS_g (g := g) (p := p) n (a := a + 1) (by omega) (by omega)
        refine ⟨fun t t0 t1 => ?_, z.2⟩
        by_cases q : t = a
        · rw [q]; exact d
        · exact z.1 t (by omega) t1
theorem xwS_f {g : Int → Int} {p a : Int} (h : a ≤ p) : (∀ t, a ≤ t → t < xwS g p a → ¬ g t = 32) ∧ (xwS g p a < p → g (xwS g p a) = 32) := xwS_g (p - a).toNat (by omega) h
theorem wBh_1 {c : Int → Int} {a b x : Int} (h : xBh c b a 1 x) : (xwS c b a < b ∧ x = xwS c b a + 1) ∨ (xwS c b a = b ∧ x = -1) := by
  obtain ⟨c0, ⟨h1, h2, h3⟩ | ⟨h1, h2, h3⟩⟩ := h
  · have e : c0 = 0 := by omega
    subst e
    exact Or.inl ⟨h2 0 (by omega), h3⟩
  · have e : c0 = 0 := by omega
    subst e
    exact Or.inr ⟨h2.2, h3⟩
theorem wBh_2 {c : Int → Int} {a b x : Int} (q : xwS c b a < b) (h : xBh c b a 2 x) : (xwS c b (xwS c b a + 1) < b ∧ x = xwS c b (xwS c b a + 1) + 1) ∨ (xwS c b (xwS c b a + 1) = b ∧ x = -1) := by
  obtain ⟨c0, ⟨h1, h2, h3⟩ | ⟨h1, h2, h3⟩⟩ := h
  · have e : c0 = 1 := by omega
    subst e
    exact Or.inl ⟨h2 1 (by omega), h3⟩
  · have e : c0 = 0 ∨ c0 = 1 := by omega
    rcases e with rfl | rfl
    · have z : xwS c b a = b := h2.2
      omega
    · exact Or.inr ⟨h2.2, h3⟩
theorem wBh_n {c : Int → Int} {a b x : Int} (q : xwS c b a = b) (h : xBh c b a 2 x) : x = -1 := by
  obtain ⟨c0, ⟨h1, h2, h3⟩ | ⟨h1, h2, h3⟩⟩ := h
  · have e : c0 = 1 := by omega
    subst e
    have z : xwS c b a < b := h2 0 (by omega)
    omega
  · exact h3
/-- what is common: the line -/
noncomputable def wLc (c c' : Int → Int) (a b : Int) (W R A : zW) : Prop := (0 ≤ a ∧ a < b) ∧ (∀ i, a ≤ i → i < b → c' i = c i) ∧ (W.2.1 1 = c ∧ W.1 4 4 = a ∧ W.1 4 2 = b) ∧ (R.2.1 88 = c' ∧ R.1 87 8 = a ∧ R.1 87 9 = b) ∧ (A.2.1 88 = c' ∧ A.1 87 8 = a ∧ A.1 87 9 = b)
theorem wAf_k {c c' : Int → Int} {a b : Int} {W R A : zW} (l : wLc c c' a b W R A) : wAf A = xwS c b a ∧ a ≤ xwS c b a ∧ xwS c b a ≤ b := by
  obtain ⟨l1, l2, l3, l4, l5, l6, l7⟩ := l
  unfold wAf
  rw [l5, l6, l7, xwS_j (g := c) (g' := c') l2]
  have z := xwS_b (g := c) (p := b) (a := a) (by omega)
  exact ⟨rfl, z.1, z.2⟩
/-- a remark -/
theorem wSx_12 {c c' : Int → Int} {a b : Int} {W R A : zW} (l : wLc c c' a b W R A) {t : Int} (h : yTb W t) : zRb A (wAf A) ↔ yRq W t := by
  obtain ⟨ea, e1, e2⟩ := wAf_k l
  obtain ⟨l1, l2, ⟨w1, w4, w2⟩, l4, l5, l6, l7⟩ := l
  obtain ⟨x, x1, x2⟩ := h
  rw [w1, w2, w4] at x1
  rw [w2] at x2
  rw [ea]
  unfold zRb yRq zRl
  rw [l5, l7, w1, w2]
  rcases wBh_1 x1 with ⟨q1, q2⟩ | ⟨q1, q2⟩
  · rw [if_pos q1]
    have et : t = xwS c b a + 1 := by omega
    subst et
    constructor
    · rintro (⟨j, j0, j1, j2⟩ | z)
      · exact Or.inl ⟨xwS c b a + 1 + j, by omega, by omega, by rw [← l2 _ (by omega) (by omega)]; exact j2⟩
      · exact Or.inr (by omega)
    · rintro (⟨j, j0, j1, j2⟩ | z)
      · refine Or.inl ⟨j - (xwS c b a + 1), by omega, by omega, ?_⟩
        rw [show xwS c b a + 1 + (j - (xwS c b a + 1)) = j by omega, l2 _ (by omega) (by omega)]
        exact j2
      · exact Or.inr (by omega)
  · rw [if_neg (by omega)]
    have et : t = b := by omega
    subst et
    constructor
    · rintro (⟨j, j0, j1, -⟩ | z) <;> omega
    · rintro (⟨j, j0, j1, -⟩ | z) <;> omega
/-- a position set -/
theorem wSx_2 {c c' : Int → Int} {a b : Int} {W R A : zW} (l : wLc c c' a b W R A) {x : Int} (h : xBh (W.2.1 1) (W.1 4 2) (W.1 4 4) 1 x) : (x < 0 ↔ wAf A = A.1 87 9) ∧ (0 ≤ x → x = wAf A + 1 ∧ ∀ q k m, pTx (xLk (fun i => A.2.1 88 (wAf A + 1 + i)) (A.1 87 9 - wAf A - 1)) 0 (A.1 87 9 - wAf A - 1) q k m ↔ pTx (xLk (W.2.1 1) (W.1 4 2)) x (W.1 4 2) q k m) := by
  obtain ⟨ea, e1, e2⟩ := wAf_k l
  obtain ⟨l1, l2, ⟨w1, w4, w2⟩, l4, l5, l6, l7⟩ := l
  rw [w1, w2, w4] at h
  rw [ea, l5, l7, w1, w2]
  rcases wBh_1 h with ⟨q1, q2⟩ | ⟨q1, q2⟩
  · refine ⟨by omega, fun _ => ⟨q2, fun q k m => ?_⟩⟩
    have z := pTx_s (c := xLk c b) (c' := xLk (fun i => c' (xwS c b a + 1 + i)) (b - xwS c b a - 1)) (a := xwS c b a + 1) (z := b - xwS c b a - 1) (q := q) (k := k) (m := m) (fun t t0 => by
      unfold xLk
      by_cases y : t < b - xwS c b a - 1
      · rw [if_pos y, if_pos (by omega)]
        exact l2 _ (by omega) (by omega)
      · rw [if_neg y, if_neg (by omega)])
    rw [show xwS c b a + 1 + (b - xwS c b a - 1) = b by omega] at z
    rw [q2]
    exact z.symm
  · exact ⟨by omega, fun z => by omega⟩
theorem xNe_k {f f' m m' : Int → Int} {n n' : Int} (hf : ∀ j, 0 ≤ j → j < n → f' j = f j) (hm : ∀ j, 0 ≤ j → j < n' → m' j = m j) : xNe f' n m' n' ↔ xNe f n m n' := by
  unfold xNe
  constructor
  · rintro ⟨h1, h2⟩
    exact ⟨h1, fun j j0 j1 => by rw [← hf j j0 (by omega), ← hm j j0 j1]; exact h2 j j0 j1⟩
  · rintro ⟨h1, h2⟩
    exact ⟨h1, fun j j0 j1 => by rw [hf j j0 (by omega), hm j j0 j1]; exact h2 j j0 j1⟩
theorem yWt_k {G G' : xG} {m m' : Int → Int} {n r : Int} (g : gGn G G') (hm : ∀ j, 0 ≤ j → j < n → m' j = m j) : yWt G' m' n r ↔ yWt G m n r := by
  have z : ∀ i, 0 ≤ i → i < G.1 → (xNe (G'.2.2.1 i) (G'.2.1 i) m' n ↔ xNe (G.2.2.1 i) (G.2.1 i) m n) := fun i i0 i1 => by
    rw [(g.2 i i0 i1).1]
    exact xNe_k (g.2 i i0 i1).2 hm
  unfold yWt
  rw [g.1]
  constructor
  · rintro (⟨h1, h2⟩ | ⟨h1, h2, h3⟩)
    · exact Or.inl ⟨h1, fun i i0 i1 y => h2 i i0 i1 ((z i i0 i1).mpr y)⟩
    · exact Or.inr ⟨h1, (z r h1.1 h1.2).mp h2, fun i i0 i1 y => h3 i i0 i1 ((z i i0 (by omega)).mpr y)⟩
  · rintro (⟨h1, h2⟩ | ⟨h1, h2, h3⟩)
    · exact Or.inl ⟨h1, fun i i0 i1 y => h2 i i0 i1 ((z i i0 i1).mp y)⟩
    · exact Or.inr ⟨h1, (z r h1.1 h1.2).mpr h2, fun i i0 i1 y => h3 i i0 i1 ((z i i0 (by omega)).mp y)⟩
theorem yWt_u {G : xG} {m : Int → Int} {n r : Int} (h : yWt G m n r) (h' : yWt G m n (-1)) : r = -1 := by
  rcases h with ⟨h, -⟩ | ⟨h1, h2, -⟩
  · exact h
  · rcases h' with ⟨-, h'⟩ | ⟨h', -⟩
    · exact absurd h2 (h' r h1.1 h1.2)
    · omega
theorem xGa_n {G G' : xG} {m m' f f' : Int → Int} {n v v' : Int} (g : gGn G G') (hm : ∀ j, 0 ≤ j → j < n → m' j = m j) : gGn (xGa G m n f v) (xGa G' m' n f' v') := by
  have e1 := g.1
  refine ⟨by show G'.1 + 1 = G.1 + 1; omega, fun k k0 k1 => ?_⟩
  have k2 : k < G.1 + 1 := k1
  show zuI G'.2.1 G'.1 n k = zuI G.2.1 G.1 n k ∧ ∀ j, 0 ≤ j → j < zuI G.2.1 G.1 n k → (if k = G'.1 then m' else G'.2.2.1 k) j = (if k = G.1 then m else G.2.2.1 k) j
  rw [e1]
  by_cases q : k = G.1
  · subst q
    rw [if_pos rfl, if_pos rfl, zuI_s, zuI_s]
    exact ⟨rfl, hm⟩
  · rw [if_neg q, if_neg q, zuI_n q, zuI_n q]
    exact g.2 k k0 (by omega)
theorem yTw_k {G G' G1 G2 : xG} {m m' f : Int → Int} {n v : Int} (g : gGn G G') (hm : ∀ j, 0 ≤ j → j < n → m' j = m j) (s : yTw G G1 m n f v) (s' : wTw G' G2 m' n) : gGn G1 G2 := by
  rcases s with ⟨r, r0, r1, rfl⟩ | ⟨r1, rfl⟩
  · rcases s' with ⟨r', r'0, r'1, r'2⟩ | ⟨r'1, r'2⟩
    · have z : gGn G G2 := gGn_t g r'2
      exact z
    · have := yWt_u r1 ((yWt_k g hm).mp r'1)
      omega
  · rcases s' with ⟨r', r'0, r'1, r'2⟩ | ⟨r'1, r'2⟩
    · have := yWt_u ((yWt_k g hm).mp r'1) r1
      omega
    · exact gGn_t (xGa_n g hm) r'2
end
section
/-! class and reference: a tag told; a line; lines -/
theorem wFen_k {c c' : Int → Int} {n e : Int} (he : ∀ i, n ≤ i → i < e → c' i = c i) : xEq c' n e js_b2024 ↔ (e - n = 3 ∧ c n = 70 ∧ c (n + 1) = 69 ∧ c (n + 2) = 78) := by
  rw [xEq_k (g := c) (g' := c') he]
  unfold xEq
  constructor
  · rintro ⟨h1, h2⟩
    have a0 := h2 0 (by decide)
    have a1 := h2 1 (by decide)
    have a2 := h2 2 (by decide)
    have z0 : c (n + ((0 : Nat) : Int)) = c n := by rw [show n + ((0 : Nat) : Int) = n by omega]
    exact ⟨h1, z0.symm.trans a0, a1, a2⟩
  · rintro ⟨h1, h2, h3, h4⟩
    refine ⟨h1, fun k hk => ?_⟩
    have hk3 : k < 3 := hk
    have z : k = 0 ∨ k = 1 ∨ k = 2 := by omega
    rcases z with rfl | rfl | rfl
    · rw [show n + ((0 : Nat) : Int) = n by omega]
      exact h2
    · exact h3
    · exact h4
theorem xLD_32 {x : Int} (h : xLD x) : ¬ x = 32 := by unfold xLD at h; omega
theorem wSx_15 {c c' : Int → Int} {a b : Int} {W R A : zW} (l : wLc c c' a b W R A) {G G' : xG} (g : gGn G G') {n t ee : Int} (h1 : xBh (W.2.1 1) (W.1 4 2) (W.1 4 4) 1 n) (h2 : xBh (W.2.1 1) (W.1 4 2) (W.1 4 4) 2 t) (h3 : zNe2 A (wAf A) ee) : (wTq A G' (wAf A) ee ↔ yTq W G n t) ∧ (¬ yTq W G n t → n = wAf A + 1 ∧ t - 1 = ee ∧ ee ≤ b ∧ a ≤ wAf A) := by
  obtain ⟨ea, e1, e2⟩ := wAf_k l
  obtain ⟨l1, l2, ⟨w1, w4, w2⟩, l4, l5, l6, l7⟩ := l
  rw [w1, w2, w4] at h1 h2
  rw [ea] at h3 ⊢
  obtain ⟨n1, n2, n3⟩ := h3
  rw [l5, l7] at n2
  rw [l5, l7] at n3
  rcases wBh_1 h1 with ⟨q1, q2⟩ | ⟨q1, q2⟩
  · have f := xwS_f (g := c) (p := b) (a := xwS c b a + 1) (by omega)
    have fb := xwS_b (g := c) (p := b) (a := xwS c b a + 1) (by omega)
    have r := wBh_2 q1 h2
    clear h1 h2
    revert f fb r
    generalize hp2 : xwS c b (xwS c b a + 1) = p2
    revert hp2
    generalize xwS c b a = p at *
    intro hp2 f fb r
    have eb : ee ≤ b := by
      by_cases z : p + 1 < ee
      · have := (n2 (ee - 1) (by omega) (by omega)).1
        omega
      · omega
    have E : (¬ wTq A G' p ee ∨ ¬ yTq W G n t) → ee = p2 ∧ p2 < b ∧ t = p2 + 1 := by
      rintro (z | z)
      · unfold wTq at z
        rw [l5, l7] at z
        have z1 : c' ee = 32 := by
          by_cases y : c' ee = 32
          · exact y
          · exact absurd (Or.inr (Or.inr (Or.inr (Or.inr (Or.inl y))))) z
        have z2 : ee < b := by
          by_cases y : ee = b
          · exact absurd (Or.inr (Or.inr (Or.inr (Or.inl y)))) z
          · omega
        have z3 := xwS_h (g := c) (p := b) (a := p + 1) (i := ee) n1 eb (fun i i0 i1 => by
          rw [← l2 i (by omega) (by omega)]
          exact xLD_32 (n2 i i0 i1).2) (Or.inr (by rw [← l2 ee (by omega) z2]; exact z1))
        rw [hp2] at z3
        omega
      · unfold yTq at z
        rw [w1, w2] at z
        have z0 : ¬ t < 0 := fun y => z (Or.inl y)
        have z1 : p2 < b ∧ t = p2 + 1 := by omega
        have z2 : (n < t - 1 ∧ t - 1 - n ≤ 12) ∧ ∀ i, n ≤ i → i < t - 1 → xLD (c i) := by
          by_cases y : (n < t - 1 ∧ t - 1 - n ≤ 12) ∧ ∀ i, n ≤ i → i < t - 1 → xLD (c i)
          · exact y
          · exact absurd (Or.inr (Or.inl y)) z
        refine ⟨?_, z1.1, z1.2⟩
        rcases Int.lt_trichotomy ee p2 with y | y | y
        · exfalso
          rcases n3 with n3 | n3
          · omega
          · rw [l2 ee (by omega) (by omega)] at n3
            exact n3 (z2.2 ee (by omega) (by omega))
        · exact y
        · exfalso
          have k := (n2 p2 (by omega) y).2
          rw [l2 p2 (by omega) (by omega)] at k
          exact xLD_32 k (f.2 z1.1)
    have M : (¬ wTq A G' p ee ∨ ¬ yTq W G n t) → (wTq A G' p ee ↔ yTq W G n t) := by
      intro z
      obtain ⟨z1, z2, z3⟩ := E z
      have c32 : c' ee = 32 := by
        rw [l2 ee (by omega) (by omega), z1]
        exact f.2 z2
      have hF := wFen_k (c := c) (c' := c') (n := p + 1) (e := ee) (fun i i0 i1 => l2 i (by omega) (by omega))
      have hY := yWt_k (m := fun j => c (n + j)) (m' := wNm A (p + 1)) (n := ee - (p + 1)) (r := -1) g (fun j j0 j1 => by
        unfold wNm
        rw [l5, q2]
        exact l2 _ (by omega) (by omega))
      have hL : ∀ i, n ≤ i → i < t - 1 → xLD (c i) := fun i i0 i1 => by
        rw [← l2 i (by omega) (by omega)]
        exact (n2 i (by omega) (by omega)).2
      unfold wTq yTq
      rw [l5, l7, hF, hY, g.1, w1, w2]
      have ex : ee - (p + 1) = t - 1 - n := by omega
      rw [ex, q2]
      constructor
      · rintro (y | y | y | y | y | y | y | y)
        · omega
        · exact Or.inr (Or.inl (fun x => by omega))
        · exact Or.inr (Or.inl (fun x => by omega))
        · omega
        · exact absurd c32 y
        · exact Or.inr (Or.inr (Or.inl y))
        · exact Or.inr (Or.inr (Or.inr (Or.inl (by omega))))
        · exact Or.inr (Or.inr (Or.inr (Or.inr y)))
      · rw [q2] at hL
        rintro (y | y | y | y | y)
        · omega
        · by_cases x : 12 < t - 1 - (p + 1)
          · exact Or.inr (Or.inr (Or.inl x))
          · by_cases x2 : t - 1 - (p + 1) < 1
            · exact Or.inr (Or.inl x2)
            · exact absurd ⟨⟨by omega, by omega⟩, hL⟩ y
        · exact Or.inr (Or.inr (Or.inr (Or.inr (Or.inr (Or.inl y)))))
        · exact Or.inr (Or.inr (Or.inr (Or.inr (Or.inr (Or.inr (Or.inl (by omega)))))))
        · exact Or.inr (Or.inr (Or.inr (Or.inr (Or.inr (Or.inr (Or.inr y))))))
    constructor
    · by_cases c1 : wTq A G' p ee
      · by_cases c2 : yTq W G n t
        · exact ⟨fun _ => c2, fun _ => c1⟩
        · exact M (Or.inr c2)
      · exact M (Or.inl c1)
    · intro z
      have := E (Or.inr z)
      omega
  · have t0 := wBh_n q1 h2
    constructor
    · refine ⟨fun _ => Or.inl (by omega), fun _ => Or.inl ?_⟩
      rw [l7]
      exact q1
    · intro z
      exact absurd (Or.inl (by omega)) z
end
section
/-! how many legal moves there are at most -/
def hS (v s t : Int) : Bool := if v % 8 = 1 then (decide (t / 8 - s / 8 = 1 - 2 * (v / 8)) && decide (-1 ≤ t % 8 - s % 8) && decide (t % 8 - s % 8 ≤ 1)) || (decide (t % 8 = s % 8) && decide (s / 8 = 1 + 5 * (v / 8)) && decide (t / 8 = 3 + v / 8)) else if v % 8 = 6 then (decide (1 ≤ (t % 8 - s % 8) * (t % 8 - s % 8) + (t / 8 - s / 8) * (t / 8 - s / 8)) && decide ((t % 8 - s % 8) * (t % 8 - s % 8) + (t / 8 - s / 8) * (t / 8 - s / 8) ≤ 2)) || (decide (s % 8 = 4) && (decide (t = s + 2) || decide (t = s - 2))) else rSup (v % 8) s t
def hB (v s : Int) : Int := if v % 8 = 1 then (if s / 8 = 6 - 5 * (v / 8) then 12 else 4) else if v % 8 = 2 then 8 else if v % 8 = 3 then 13 else if v % 8 = 4 then 14 else if v % 8 = 5 then 27 else if v % 8 = 6 then 10 else 0
theorem hB_p {v s : Int} : 0 ≤ hB v s := by
  unfold hB
  (repeat' split) <;> omega
theorem hS_g {q : rQ} {s u : Int} (hg : rGO q s u) (hb : q.1 s / 8 = q.2.1) (h0 : 0 ≤ s) (h1 : s ≤ 63) (hd : 0 ≤ q.2.1 ∧ q.2.1 ≤ 1) : hS (q.1 s) s u = true := by
  by_cases hk : q.1 s % 8 = 1
  · rcases hg with ⟨-, hg⟩ | ⟨hk', -⟩
    · unfold hS
      rw [if_pos hk, hb]
      simp only [Bool.or_eq_true, Bool.and_eq_true, decide_eq_true_iff]
      rcases hg with ⟨g1, g2, g3⟩ | ⟨f, g1, g2, g3, -⟩
      · have e : rSp s 0 (rUpw q) = s + 8 * rUpw q := by
          unfold rSp at g1 ⊢
          split at g1
          next c => rw [if_pos c]; omega
          next => omega
        rw [e] at g1 g3
        unfold rUpw at g1 g3
        rcases g3 with g3 | ⟨g3, g4, -⟩
        · unfold rSp at e
          unfold rUpw at e
          split at e <;> omega
        · unfold rSp at g4
          split at g4
          · omega
          · omega
      · unfold rSp rUpw at g3
        split at g3 <;> omega
    · exact absurd hk hk'
  · by_cases hk6 : q.1 s % 8 = 6
    · rcases hg with ⟨hk', -⟩ | ⟨-, hg⟩
      · exact absurd hk' hk
      · unfold hS
        rw [if_neg hk, if_pos hk6]
        simp only [Bool.or_eq_true, Bool.and_eq_true, decide_eq_true_iff]
        rcases hg with ⟨f, r, f1, f2, r1, r2, hg⟩ | ⟨-, hs, hc⟩
        · rcases hg with ⟨hg, hu, e⟩ | ⟨hg, k, hw⟩
          · have e1 : u % 8 - s % 8 = f ∧ u / 8 - s / 8 = r := by
              unfold rSp at e
              split at e <;> omega
            rw [e1.1, e1.2]
            rcases hg with ⟨g1, g2⟩ | ⟨g1, g2, g3⟩
            · omega
            · exact Or.inl ⟨g2, g3⟩
          · omega
        · rcases hc with ⟨-, hc⟩ | ⟨-, hc⟩
          · exact Or.inr ⟨by omega, Or.inl hc⟩
          · exact Or.inr ⟨by omega, Or.inr hc⟩
    · unfold hS
      rw [if_neg hk, if_neg hk6]
      exact rGO_sup hg h0 h1 hd
/-- a man's moves at most -/
def hT1 (v s t : Int) : List Int := if hS v s t then (if v % 8 = 1 ∧ (t < 8 ∨ 55 < t) then [s + 64 * t + 8192, s + 64 * t + 12288, s + 64 * t + 16384, s + 64 * t + 20480] else [s + 64 * t]) else []
def hTt (v s : Int) : Nat → List Int
  | 0 => []
  | n + 1 => hT1 v s (n : Int) ++ hTt v s n
theorem hT_m {v s m : Int} {t : Nat} : ∀ (n : Nat), t < n → m ∈ hT1 v s t → m ∈ hTt v s n
  | 0, h, _ => absurd h (Nat.not_lt_zero _)
  | n + 1, h, hm => by
    show m ∈ hT1 v s n ++ hTt v s n
    by_cases c : t = n
    · rw [← c]
      exact List.mem_append_left _ hm
    · exact List.mem_append_right _ (hT_m n (by omega) hm)
def hTn (v s t : Int) : Int := if hS v s t then (if v % 8 = 1 ∧ (t < 8 ∨ 55 < t) then 4 else 1) else 0
def hTs (v s : Int) : Nat → Int
  | 0 => 0
  | n + 1 => hTn v s (n : Int) + hTs v s n
theorem hT_l {v s : Int} : ∀ n : Nat, ((hTt v s n).length : Int) = hTs v s n
  | 0 => rfl
  | n + 1 => by
    show ((hT1 v s n ++ hTt v s n).length : Int) = hTn v s n + hTs v s n
    rw [List.length_append, ← hT_l n]
    have e : ((hT1 v s n).length : Int) = hTn v s n := by
      unfold hT1 hTn
      split
      · split <;> rfl
      · rfl
    omega
theorem hT_b : ∀ v : Fin 15, ∀ s : Fin 64, hTs (v.val : Int) (s.val : Int) 64 ≤ hB (v.val : Int) (s.val : Int) ∨ v.val = 0 ∨ v.val = 7 ∨ v.val = 8 := by decide +kernel
end
section
/-! the legal moves are no more than the men allow; what a move changes -/
noncomputable def hG (b v s : Int) : Int := if 0 < v ∧ v / 8 = b then hB v s else 0
theorem hG_p {b v s : Int} : 0 ≤ hG b v s := by
  unfold hG
  split
  · exact hB_p
  · omega
noncomputable def hSm (M : Int → Int) (b : Int) : Nat → Int
  | 0 => 0
  | n + 1 => hSm M b n + hG b (M n) n
theorem hSm_p {M : Int → Int} {b : Int} : ∀ n : Nat, 0 ≤ hSm M b n
  | 0 => Int.le_refl _
  | n + 1 => by
    have := hSm_p (M := M) (b := b) n
    have := hG_p (b := b) (v := M n) (s := n)
    show 0 ≤ hSm M b n + hG b (M n) n
    omega
theorem hSm_m {M N : Int → Int} {b : Int} (h : ∀ i, N i = 0 ∨ N i = M i) : ∀ n : Nat, hSm N b n ≤ hSm M b n
  | 0 => Int.le_refl _
  | n + 1 => by
    have z := hSm_m (b := b) h n
    have e : hG b (N n) n ≤ hG b (M n) n := by
      rcases h n with y | y
      · rw [y]
        have : hG b 0 n = 0 := by
          unfold hG
          rw [if_neg (by omega)]
        have := hG_p (b := b) (v := M n) (s := n)
        omega
      · rw [y]
        exact Int.le_refl _
    show hSm N b n + hG b (N n) n ≤ hSm M b n + hG b (M n) n
    omega
theorem hSm_k {M N : Int → Int} {b : Int} : ∀ n : Nat, (∀ i : Nat, i < n → N i = M i) → hSm N b n = hSm M b n
  | 0, _ => rfl
  | n + 1, h => by
    show hSm N b n + hG b (N n) n = hSm M b n + hG b (M n) n
    rw [hSm_k n (fun i hi => h i (by omega)), h n (by omega)]
theorem hSm_u {M : Int → Int} {b v : Int} {i : Nat} : ∀ n : Nat, i < n → hSm (rUp M i v) b n = hSm M b n - hG b (M i) i + hG b v i
  | 0, h => absurd h (Nat.not_lt_zero _)
  | n + 1, h => by
    show hSm (rUp M i v) b n + hG b (rUp M i v n) n = hSm M b n + hG b (M n) n - hG b (M i) i + hG b v i
    by_cases c : i = n
    · subst c
      rw [hSm_k i (M := M) (N := rUp M i v) (fun j hj => rUp_n (by omega)), rUp_s]
      omega
    · rw [hSm_u n (by omega), rUp_n (by omega)]
      omega
theorem hSm_v {M : Int → Int} {b v i : Int} (h : 0 ≤ i ∧ i ≤ 63) : hSm (rUp M i v) b 64 = hSm M b 64 - hG b (M i) i + hG b v i := by
  have z := hSm_u (M := M) (b := b) (v := v) (i := i.toNat) 64 (by omega)
  rw [show ((i.toNat : Nat) : Int) = i by omega] at z
  exact z
/-- nodup and contained: no longer -/
theorem hNd : ∀ (l r : List Int), l.Nodup → (∀ m, m ∈ l → m ∈ r) → l.length ≤ r.length
  | [], _, _, _ => Nat.zero_le _
  | m :: l, r, nd, h => by
    have hm := h m (List.mem_cons_self ..)
    have nd2 := List.nodup_cons.mp nd
    have z := hNd l (r.erase m) nd2.2 (fun x hx => (List.mem_erase_of_ne (fun e => nd2.1 (by rw [← e]; exact hx))).mpr (h x (List.mem_cons_of_mem _ hx)))
    have e := List.length_erase_of_mem hm
    have p := List.length_pos_of_mem hm
    show l.length + 1 ≤ r.length
    omega
noncomputable def hLr (q : rQ) : Nat → List Int
  | 0 => []
  | n + 1 => (@ite _ (0 < q.1 n ∧ q.1 n / 8 = q.2.1) (Classical.propDecidable _) (hTt (q.1 n) n 64) []) ++ hLr q n
theorem hLr_m {q : rQ} {m : Int} {s : Nat} (ho : 0 < q.1 s ∧ q.1 s / 8 = q.2.1) (hm : m ∈ hTt (q.1 s) s 64) : ∀ n : Nat, s < n → m ∈ hLr q n
  | 0, h => absurd h (Nat.not_lt_zero _)
  | n + 1, h => by
    show m ∈ _ ++ hLr q n
    by_cases c : s = n
    · subst c
      rw [if_pos ho]
      exact List.mem_append_left _ hm
    · exact List.mem_append_right _ (hLr_m ho hm n (by omega))
theorem hLr_l {q : rQ} (hv : rVal q.1) : ∀ n : Nat, n ≤ 64 → ((hLr q n).length : Int) ≤ hSm q.1 q.2.1 n
  | 0, _ => Int.le_refl _
  | n + 1, hn => by
    have z := hLr_l hv n (by omega)
    show (((@ite _ (0 < q.1 n ∧ q.1 n / 8 = q.2.1) (Classical.propDecidable _) (hTt (q.1 n) n 64) []) ++ hLr q n).length : Int) ≤ hSm q.1 q.2.1 n + hG q.2.1 (q.1 n) n
    rw [List.length_append]
    by_cases c : 0 < q.1 n ∧ q.1 n / 8 = q.2.1
    · rw [if_pos c]
      have e := hT_l (v := q.1 n) (s := n) 64
      have eG : hG q.2.1 (q.1 n) n = hB (q.1 n) n := by
        unfold hG
        rw [if_pos c]
      have hv1 : (1 ≤ q.1 n ∧ q.1 n ≤ 6) ∨ (9 ≤ q.1 n ∧ q.1 n ≤ 14) := by
        rcases hv n with y | y
        · omega
        · exact y.2.2
      have t := hT_b ⟨(q.1 n).toNat, by omega⟩ ⟨n, by omega⟩
      simp only [show (((q.1 n).toNat : Nat) : Int) = q.1 n by omega] at t
      omega
    · rw [if_neg c]
      have := hG_p (b := q.2.1) (v := q.1 n) (s := n)
      show (((0 + (hLr q n).length : Nat)) : Int) ≤ _
      omega
theorem yLm_b {q : rQ} (hd : rGd q) : ((yLm q).length : Int) ≤ hSm q.1 q.2.1 64 := by
  have hv := hd.2.2.1
  refine Int.le_trans ?_ (hLr_l hv 64 (Nat.le_refl _))
  refine Int.ofNat_le.mpr (hNd _ _ yLm_n (fun m hm => ?_))
  have hl := (yLm_m.mp hm).1
  obtain ⟨m0, m1, ho, -, hg, hp⟩ := hl
  have hf : 0 ≤ rFr m ∧ rFr m ≤ 63 := by unfold rFr; omega
  have ht : 0 ≤ rTo m ∧ rTo m ≤ 63 := by unfold rTo; omega
  have hS1 := hS_g hg ho.2 hf.1 hf.2 ⟨hd.1, hd.2.1⟩
  have em : m = rFr m + 64 * rTo m + 4096 * rBc m := by unfold rFr rTo rBc; omega
  have hpos : 0 < q.1 (rFr m) := by
    rcases hv (rFr m) with y | y
    · exact absurd y ho.1
    · omega
  have ef : (((rFr m).toNat : Nat) : Int) = rFr m := by omega
  have et : (((rTo m).toNat : Nat) : Int) = rTo m := by omega
  refine hLr_m (s := (rFr m).toNat) (by rw [ef]; exact ⟨hpos, ho.2⟩) (hT_m (t := (rTo m).toNat) 64 (by omega) ?_) 64 (by omega)
  rw [ef, et]
  unfold hT1
  rw [if_pos hS1]
  rcases hp with ⟨p1, p2, p3, p4⟩ | ⟨p1, p2⟩
  · rw [if_pos ⟨p1, p2⟩]
    have z : rBc m = 2 ∨ rBc m = 3 ∨ rBc m = 4 ∨ rBc m = 5 := by omega
    simp only [List.mem_cons, List.not_mem_nil, or_false]
    omega
  · rw [if_neg p1]
    simp only [List.mem_cons, List.not_mem_nil, or_false]
    omega
end
section
/-! what a move changes of what the men allow -/
theorem hB_r {v s s' : Int} (h : s / 8 = s' / 8) : hB v s = hB v s' := by
  unfold hB
  rw [h]
theorem hG_r {b v s s' : Int} (h : s / 8 = s' / 8) : hG b v s = hG b v s' := by
  unfold hG
  rw [hB_r h]
theorem hG_0 {b s : Int} : hG b 0 s = 0 := by
  unfold hG
  rw [if_neg (by omega)]
theorem hKt : ∀ s : Fin 64, ∀ t : Fin 64, (t.val = s.val + 2 ∨ s.val = t.val + 2) → hS 6 (s.val : Int) (t.val : Int) = true → s.val % 8 = 4 := by decide +kernel
theorem hKs {v s t : Int} (hv : v % 8 = 6) (h : hS v s t = true) (hs : 0 ≤ s ∧ s ≤ 63) (ht : 0 ≤ t ∧ t ≤ 63) (hc : t - s = 2 ∨ s - t = 2) : s % 8 = 4 := by
  have e : hS v s t = hS 6 s t := by
    unfold hS
    rw [if_neg (by omega), if_pos hv, if_neg (by decide), if_pos (by decide)]
  rw [e] at h
  have z := hKt ⟨s.toNat, by omega⟩ ⟨t.toNat, by omega⟩
  simp only [show ((s.toNat : Nat) : Int) = s by omega, show ((t.toNat : Nat) : Int) = t by omega] at z
  have := z (by omega) h
  omega
theorem hMv {v s t b : Int} (hv : v / 8 = b) (hb : b = 0 ∨ b = 1) (h : hS v s t = true) (hp : v % 8 = 1) (ht : t < 8 ∨ 55 < t) (h0 : 0 ≤ s ∧ s ≤ 63) (h1 : 0 ≤ t ∧ t ≤ 63) : hB v s = 12 := by
  unfold hS at h
  rw [if_pos hp, hv] at h
  simp only [Bool.or_eq_true, Bool.and_eq_true, decide_eq_true_iff] at h
  unfold hB
  rw [if_pos hp, if_pos (by omega)]
theorem hB_8 {v s t : Int} : hB v t ≤ hB v s + 8 := by
  unfold hB
  (repeat' split) <;> omega
theorem hB_27 {v t : Int} : hB v t ≤ 27 := by
  unfold hB
  (repeat' split) <;> omega
theorem hM2 {q : rQ} {m c : Int} (hf : 0 ≤ rFr m ∧ rFr m ≤ 63) : hSm (rM2 q m) c 64 ≤ hSm q.1 c 64 - hG c (q.1 (rFr m)) (rFr m) := by
  have z : hSm (rM2 q m) c 64 ≤ hSm (rUp q.1 (rFr m) 0) c 64 := hSm_m (fun i => by
    unfold rM2 rM1
    by_cases c1 : i = rFr m
    · left
      rw [c1, rUp_s]
    · rw [rUp_n c1, rUp_n c1]
      by_cases c2 : i = rWh q m
      · left
        rw [c2, rUp_s]
      · right
        rw [rUp_n c2]) 64
  rw [hSm_v hf, hG_0] at z
  omega
theorem hM4 {q : rQ} {m c : Int} (hf : 0 ≤ rFr m ∧ rFr m ≤ 63) (ht : 0 ≤ rTo m ∧ rTo m ≤ 63) (hs : hS (q.1 (rFr m)) (rFr m) (rTo m) = true) : hSm (rM4 q m) c 64 ≤ hSm (rM3 q m) c 64 := by
  by_cases hC : rIsC q m
  · have e : rM4 q m = rM4c q m := funext fun i => by
      unfold rM4
      rw [if_pos hC]
    rw [e]
    have k4 := hKs hC.1 hs hf ht hC.2
    have hov : 0 ≤ rOv (rFr m) (rTo m) ∧ rOv (rFr m) (rTo m) ≤ 63 ∧ rOv (rFr m) (rTo m) / 8 = rFr m / 8 ∧ 3 ≤ rOv (rFr m) (rTo m) % 8 ∧ rOv (rFr m) (rTo m) % 8 ≤ 5 := by
      have := hC.2
      unfold rOv
      omega
    have hco : 0 ≤ rCo (rFr m) (rTo m) ∧ rCo (rFr m) (rTo m) ≤ 63 ∧ rCo (rFr m) (rTo m) / 8 = rFr m / 8 ∧ (rCo (rFr m) (rTo m) % 8 = 0 ∨ rCo (rFr m) (rTo m) % 8 = 7) := by
      have := hC.2
      unfold rCo
      split <;> omega
    unfold rM4c
    rw [hSm_v ⟨hco.1, hco.2.1⟩, hSm_v ⟨hov.1, hov.2.1⟩, rUp_n (by omega), hG_0, hG_r (b := c) (v := rM3 q m (rCo (rFr m) (rTo m))) (s := rOv (rFr m) (rTo m)) (s' := rCo (rFr m) (rTo m)) (by omega)]
    have := hG_p (b := c) (v := rM3 q m (rOv (rFr m) (rTo m))) (s := rOv (rFr m) (rTo m))
    omega
  · have e : rM4 q m = rM3 q m := funext fun i => by
      unfold rM4
      rw [if_neg hC]
    rw [e]
    exact Int.le_refl _
theorem hMk {q : rQ} {m : Int} (hd : rGd q) (hl : rLm q m) : hSm (rMk q m).1 q.2.1 64 ≤ hSm q.1 q.2.1 64 + 15 ∧ hSm (rMk q m).1 (1 - q.2.1) 64 ≤ hSm q.1 (1 - q.2.1) 64 := by
  obtain ⟨m0, m1, ho, -, hg, hp⟩ := hl
  have hf : 0 ≤ rFr m ∧ rFr m ≤ 63 := by unfold rFr; omega
  have ht : 0 ≤ rTo m ∧ rTo m ≤ 63 := by unfold rTo; omega
  have hs := hS_g hg ho.2 hf.1 hf.2 ⟨hd.1, hd.2.1⟩
  have hb : q.2.1 = 0 ∨ q.2.1 = 1 := by
    have := hd.1
    have := hd.2.1
    omega
  have hpos : 0 < q.1 (rFr m) := by
    rcases hd.2.2.1 (rFr m) with y | y
    · exact absurd y ho.1
    · omega
  have k : ∀ c, hSm (rMk q m).1 c 64 ≤ hSm q.1 c 64 - hG c (q.1 (rFr m)) (rFr m) + hG c (if 0 < rBc m then rBc m + 8 * q.2.1 else q.1 (rFr m)) (rTo m) := fun c => by
    have z2 := hM2 (q := q) (c := c) hf
    have z4 := hM4 (q := q) (c := c) hf ht hs
    have z3 : hSm (rM3 q m) c 64 = hSm (rM2 q m) c 64 - hG c (rM2 q m (rTo m)) (rTo m) + hG c (if 0 < rBc m then rBc m + 8 * q.2.1 else q.1 (rFr m)) (rTo m) := hSm_v ht
    have := hG_p (b := c) (v := rM2 q m (rTo m)) (s := rTo m)
    have e : hSm (rMk q m).1 c 64 = hSm (rM4 q m) c 64 := rfl
    omega
  have eF : hG q.2.1 (q.1 (rFr m)) (rFr m) = hB (q.1 (rFr m)) (rFr m) := by
    unfold hG
    rw [if_pos ⟨hpos, ho.2⟩]
  have k1 := k q.2.1
  have k2 := k (1 - q.2.1)
  rw [eF] at k1
  have p2 := hG_p (b := 1 - q.2.1) (v := q.1 (rFr m)) (s := rFr m)
  rcases hp with ⟨p1, q1, q3, q4⟩ | ⟨p1, q1⟩
  · rw [if_pos (by omega)] at k1 k2
    have e12 := hMv ho.2 hb hs p1 q1 hf ht
    have eT : hG q.2.1 (rBc m + 8 * q.2.1) (rTo m) = hB (rBc m + 8 * q.2.1) (rTo m) := by
      unfold hG
      rw [if_pos ⟨by omega, by omega⟩]
    have eN : hG (1 - q.2.1) (rBc m + 8 * q.2.1) (rTo m) = 0 := by
      unfold hG
      rw [if_neg (by omega)]
    have := hB_27 (v := rBc m + 8 * q.2.1) (t := rTo m)
    omega
  · rw [if_neg (by omega)] at k1 k2
    have eT : hG q.2.1 (q.1 (rFr m)) (rTo m) = hB (q.1 (rFr m)) (rTo m) := by
      unfold hG
      rw [if_pos ⟨hpos, ho.2⟩]
    have eN : hG (1 - q.2.1) (q.1 (rFr m)) (rTo m) = 0 := by
      unfold hG
      rw [if_neg (by have := ho.2; omega)]
    have := hB_8 (v := q.1 (rFr m)) (s := rFr m) (t := rTo m)
    omega
end
section
/-! help lines fit an int -/
def hF : Nat → Int → Int → Int
  | 0, _, _ => 1
  | n + 1, a, b => a * hF n b (a + 15)
theorem hF_p : ∀ (n : Nat) {a b : Int}, 0 ≤ a → 0 ≤ b → 0 ≤ hF n a b
  | 0, _, _, _, _ => by
    show (0 : Int) ≤ 1
    decide
  | n + 1, a, b, ha, hb => Int.mul_nonneg ha (hF_p n hb (by omega))
theorem hqS_l {w : Int → Int} {c : Int} : ∀ l : List Int, (∀ m, m ∈ l → w m ≤ c) → hqS w l ≤ l.length * c
  | [], _ => by
    show (0 : Int) ≤ ((0 : Nat) : Int) * c
    omega
  | m :: l, h => by
    have z := hqS_l (w := w) (c := c) l (fun x hx => h x (List.mem_cons_of_mem _ hx))
    have e := h m (List.mem_cons_self ..)
    show w m + hqS w l ≤ ((l.length + 1 : Nat) : Int) * c
    have e2 : ((l.length + 1 : Nat) : Int) * c = l.length * c + c := by
      rw [Int.natCast_add, Int.add_mul]
      simp
    omega
theorem yHl_b {mt : Int} : ∀ (n : Nat) {q : rQ} {a b : Int}, rGd q → hSm q.1 q.2.1 64 ≤ a → hSm q.1 (1 - q.2.1) 64 ≤ b → yHl mt n q ≤ hF n a b
  | 0, q, a, b, _, _, _ => by
    unfold yHl
    show (@ite _ (cBt q mt) (Classical.propDecidable _) 1 0 : Int) ≤ 1
    by_cases c : cBt q mt
    · rw [if_pos c]
      decide
    · rw [if_neg c]
      decide
  | n + 1, q, a, b, hd, h1, h2 => by
    have p1 := hSm_p (M := q.1) (b := q.2.1) 64
    have p2 := hSm_p (M := q.1) (b := 1 - q.2.1) 64
    rw [yHl_s]
    have z := hqS_l (w := fun m => yHl mt n (rMk q m)) (c := hF n b (a + 15)) (yLm q) (fun m hm => by
      obtain ⟨hl, hg⟩ := yLm_m.mp hm
      have k := hMk hd hl
      have e1 : (rMk q m).2.1 = 1 - q.2.1 := rfl
      refine yHl_b n hg ?_ ?_
      · rw [e1]
        omega
      · rw [e1, show 1 - (1 - q.2.1) = q.2.1 by omega]
        omega)
    refine Int.le_trans z ?_
    have hl := yLm_b hd
    exact Int.mul_le_mul_of_nonneg_right (by omega) (hF_p n (by omega) (by omega))
/-- kings, and pawns that may be crowned -/
noncomputable def hKn (M : Int → Int) (b : Int) : Nat → Int
  | 0 => 0
  | n + 1 => hKn M b n + (if M n = 8 * b + 6 then 1 else 0)
def hPn (b : Int) : Nat → Int
  | 0 => 0
  | n + 1 => hPn b n + (if (n : Int) / 8 = 6 - 5 * b then 1 else 0)
theorem hPn_8 : hPn 0 64 = 8 ∧ hPn 1 64 = 8 := by decide +kernel
theorem hKn_1 {M : Int → Int} {b : Int} (hk : ∃ s, 0 ≤ s ∧ s ≤ 63 ∧ M s = 8 * b + 6 ∧ ∀ t, M t = 8 * b + 6 → t = s) : hKn M b 64 = 1 := by
  obtain ⟨s, s0, s1, s2, s3⟩ := hk
  have z : ∀ n : Nat, hKn M b n = if s < n then 1 else 0 := fun n => by
    induction n with
    | zero =>
      rw [if_neg (by omega)]
      rfl
    | succ n ih =>
      show hKn M b n + (if M n = 8 * b + 6 then 1 else 0) = _
      rw [ih]
      by_cases c : M n = 8 * b + 6
      · have := s3 n c
        rw [if_pos c, if_neg (by omega), if_pos (by omega)]
        rfl
      · rw [if_neg c]
        by_cases d : s < n
        · rw [if_pos d, if_pos (by omega)]
          rfl
        · have : ¬ s = n := fun e => c (by rw [← e]; exact s2)
          rw [if_neg d, if_neg (by omega)]
          rfl
  rw [z 64, if_pos (by omega)]
theorem hB_w {v s : Int} {b : Int} (hb : v / 8 = b) : hB v s + (if v = 8 * b + 6 then 14 else 0) ≤ 3 * xWt (v % 8) ∧ hB v s ≤ xWt (v % 8) + (if v = 8 * b + 6 then 2 else 0) + (if s / 8 = 6 - 5 * b then 8 else 0) := by
  unfold hB xWt
  rw [hb]
  (repeat' split) <;> omega
theorem hSm_w {M : Int → Int} {b : Int} (hb : b = 0 ∨ b = 1) : ∀ n : Nat, hSm M b n + 14 * hKn M b n ≤ 3 * xFc M b n ∧ hSm M b n ≤ xFc M b n + 2 * hKn M b n + 8 * hPn b n
  | 0 => by
    show (0 : Int) + 14 * 0 ≤ 3 * 0 ∧ (0 : Int) ≤ 0 + 2 * 0 + 8 * 0
    decide
  | n + 1 => by
    have z := hSm_w (M := M) hb n
    show hSm M b n + hG b (M n) n + 14 * (hKn M b n + (if M n = 8 * b + 6 then 1 else 0)) ≤ 3 * (xFc M b n + (if 0 < M n ∧ M n / 8 = b then xWt (M n % 8) else 0)) ∧ hSm M b n + hG b (M n) n ≤ xFc M b n + (if 0 < M n ∧ M n / 8 = b then xWt (M n % 8) else 0) + 2 * (hKn M b n + (if M n = 8 * b + 6 then 1 else 0)) + 8 * (hPn b n + (if (n : Int) / 8 = 6 - 5 * b then 1 else 0))
    unfold hG
    by_cases c : 0 < M n ∧ M n / 8 = b
    · rw [if_pos c, if_pos c]
      have w := hB_w (v := M n) (s := n) c.2
      by_cases d : M n = 8 * b + 6
      · rw [if_pos d] at w
        rw [if_pos d]
        split <;> rename_i e
        · rw [if_pos e] at w
          omega
        · rw [if_neg e] at w
          omega
      · rw [if_neg d] at w
        rw [if_neg d]
        split <;> rename_i e
        · rw [if_pos e] at w
          omega
        · rw [if_neg e] at w
          omega
    · rw [if_neg c, if_neg c]
      have d : ¬ M n = 8 * b + 6 := fun d => c ⟨by omega, by omega⟩
      rw [if_neg d]
      split <;> omega
/-- a side's men, by their force -/
theorem hSm_f {q : rQ} (hd : rGd q) {b : Int} (hb : b = 0 ∨ b = 1) : hSm q.1 b 64 + 14 ≤ 3 * xFc q.1 b 64 ∧ hSm q.1 b 64 ≤ xFc q.1 b 64 + 66 ∧ 8 ≤ xFc q.1 b 64 := by
  have k := hKn_1 (hd.2.2.2.1 b (by omega) (by omega))
  have p : hPn b 64 = 8 := by rcases hb with rfl | rfl; exact hPn_8.1; exact hPn_8.2
  have w := hSm_w (M := q.1) hb 64
  rw [k, p] at w
  refine ⟨by omega, by omega, ?_⟩
  obtain ⟨s, s0, s1, s2, s3⟩ := hd.2.2.2.1 b (by omega) (by omega)
  have g : ∀ n : Nat, (if s < n then 8 else 0) ≤ xFc q.1 b n := fun n => by
    induction n with
    | zero =>
      rw [if_neg (by omega)]
      exact Int.le_refl _
    | succ n ih =>
      show _ ≤ xFc q.1 b n + (if 0 < q.1 n ∧ q.1 n / 8 = b then xWt (q.1 n % 8) else 0)
      by_cases c : s = n
      · subst c
        rw [if_neg (by omega)] at ih
        rw [if_pos (by omega), s2, if_pos ⟨by omega, by omega⟩, show (8 * b + 6) % 8 = 6 by omega]
        have : xWt 6 = 8 := by unfold xWt; decide
        omega
      · have p0 : 0 ≤ (if 0 < q.1 n ∧ q.1 n / 8 = b then xWt (q.1 n % 8) else 0) := by
          split
          · exact xWt_r.1
          · exact Int.le_refl _
        by_cases d : s < n
        · rw [if_pos d] at ih
          rw [if_pos (by omega)]
          omega
        · rw [if_neg d] at ih
          rw [if_neg (by omega)]
          omega
  have z := g 64
  rw [if_pos (by omega)] at z
  exact z
end
section
/-! help lines fit an int, whenever the work allows them to be counted -/
def hmf (f : Nat) : Nat := if 3 * f ≤ f + 80 then 3 * f - 14 else f + 66
def hmq (f : Nat) : Nat := hmf f * (hmf f + 15)
theorem hmq_t : ∀ f : Fin 685, f.val < 8 ∨ hmq f.val * hmq (5477 / f.val) < 2147483648 := by decide +kernel
theorem hmf_m {f g : Nat} (h : f ≤ g) : hmf f ≤ hmf g := by
  unfold hmf
  split <;> split <;> omega
theorem hmq_m {f g : Nat} (h : f ≤ g) : hmq f ≤ hmq g := Nat.mul_le_mul (hmf_m h) (Nat.add_le_add_right (hmf_m h) 15)
theorem hmq_4 {a b f g : Nat} (h8 : 8 ≤ f) (hg8 : 8 ≤ g) (ha : a + 14 ≤ 3 * f ∧ a ≤ f + 66) (hb : b + 14 ≤ 3 * g ∧ b ≤ g + 66) (hp : f * g ≤ 5477) : a * (b * ((a + 15) * ((b + 15) * 1))) < 2147483648 := by
  have a1 : a ≤ hmf f := by unfold hmf; split <;> omega
  have b1 : b ≤ hmf g := by unfold hmf; split <;> omega
  have e : a * (b * ((a + 15) * ((b + 15) * 1))) = (a * (a + 15)) * (b * (b + 15)) := by
    rw [Nat.mul_one]
    ac_rfl
  have f1 : f * 8 ≤ f * g := Nat.mul_le_mul_left f hg8
  have g1 : g ≤ 5477 / f := (Nat.le_div_iff_mul_le (by omega)).mpr (by rw [Nat.mul_comm]; exact hp)
  have t := (hmq_t ⟨f, by omega⟩).resolve_left (by show ¬ f < 8; omega)
  have t2 : hmq f * hmq (5477 / f) < 2147483648 := t
  rw [e]
  refine Nat.lt_of_le_of_lt (Nat.mul_le_mul (Nat.mul_le_mul a1 (Nat.add_le_add_right a1 15)) (Nat.mul_le_mul b1 (Nat.add_le_add_right b1 15))) ?_
  exact Nat.lt_of_le_of_lt (Nat.mul_le_mul_left (hmq f) (hmq_m g1)) t2
theorem hmq_2 {a b f g : Nat} (ha : a + 14 ≤ 3 * f) (hb : b + 14 ≤ 3 * g) (hp : f * g ≤ 30000000) : a * (b * 1) < 2147483648 := by
  rw [Nat.mul_one]
  have z : a * b ≤ (3 * f) * (3 * g) := Nat.mul_le_mul (by omega) (by omega)
  have e : (3 * f) * (3 * g) = 9 * (f * g) := by
    rw [Nat.mul_assoc, Nat.mul_left_comm f 3 g]
    omega
  omega
theorem hsq {p : Int} (h : p * p ≤ 30000000) : p ≤ 5477 := by
  by_cases c : p ≤ 5477
  · exact c
  · have z : (5478 : Int) * 5478 ≤ p * p := Int.mul_le_mul (by omega) (by omega) (by decide) (by omega)
    omega
theorem wHk_g {q : rQ} (hd : rGd q) : wHk q := by
  intro mt x hm x1 x2 nt
  have h0 := hd.1
  have h1 := hd.2.1
  have z := hSm_f hd (b := q.2.1) (by omega)
  have y := hSm_f hd (b := 1 - q.2.1) (by omega)
  have pa := hSm_p (M := q.1) (b := q.2.1) 64
  have pb := hSm_p (M := q.1) (b := 1 - q.2.1) 64
  have hp := yHl_p (mt := mt) (2 * x).toNat q
  have k2 : ∀ k : Nat, (k : Int) ≤ 2 * x → xPr q.1 q.2.1 k ≤ 30000000 := fun k hk => by
    by_cases c : 30000000 < xPr q.1 q.2.1 k
    · exact absurd ⟨k, hk, c⟩ nt
    · omega
  refine lI_t ?_
  have key : yHl mt (2 * x).toNat q < 2147483648 := by
    have hb := fun n => yHl_b (mt := mt) n hd (Int.le_refl _) (Int.le_refl _)
    obtain ⟨a, ea⟩ : ∃ a : Nat, hSm q.1 q.2.1 64 = a := ⟨(hSm q.1 q.2.1 64).toNat, by omega⟩
    obtain ⟨b, eb⟩ : ∃ b : Nat, hSm q.1 (1 - q.2.1) 64 = b := ⟨(hSm q.1 (1 - q.2.1) 64).toNat, by omega⟩
    obtain ⟨f, ef⟩ : ∃ f : Nat, xFc q.1 q.2.1 64 = f := ⟨(xFc q.1 q.2.1 64).toNat, by omega⟩
    obtain ⟨g, eg⟩ : ∃ g : Nat, xFc q.1 (1 - q.2.1) 64 = g := ⟨(xFc q.1 (1 - q.2.1) 64).toNat, by omega⟩
    rw [ea, eb] at hb
    rw [ea, ef] at z
    rw [eb, eg] at y
    have hx : x = 1 ∨ x = 2 := by omega
    rcases hx with rfl | rfl
    · have w := k2 2 (by decide)
      have ew : xPr q.1 q.2.1 2 = 1 * xFc q.1 q.2.1 64 * xFc q.1 (1 - q.2.1) 64 := rfl
      rw [ew, ef, eg, Int.one_mul] at w
      have w2 : f * g ≤ 30000000 := by
        have : ((f * g : Nat) : Int) ≤ 30000000 := by rw [Int.natCast_mul]; exact w
        omega
      have t := hmq_2 (a := a) (b := b) (by omega) (by omega) w2
      have h := hb 2
      have e : hF 2 (a : Int) (b : Int) = ((a * (b * 1) : Nat) : Int) := by
        show (a : Int) * ((b : Int) * 1) = _
        rw [Int.natCast_mul, Int.natCast_mul]
        rfl
      rw [e] at h
      show yHl mt 2 q < _
      omega
    · have w := k2 4 (by decide)
      have ew : xPr q.1 q.2.1 4 = 1 * xFc q.1 q.2.1 64 * xFc q.1 (1 - q.2.1) 64 * xFc q.1 q.2.1 64 * xFc q.1 (1 - q.2.1) 64 := rfl
      rw [ew, ef, eg, Int.one_mul, Int.mul_assoc ((f : Int) * g)] at w
      have w1 := hsq w
      have w2 : f * g ≤ 5477 := by
        have : ((f * g : Nat) : Int) ≤ 5477 := by rw [Int.natCast_mul]; exact w1
        omega
      have t := hmq_4 (a := a) (b := b) (f := f) (g := g) (by omega) (by omega) (by omega) (by omega) w2
      have h := hb 4
      have e : hF 4 (a : Int) (b : Int) = ((a * (b * ((a + 15) * ((b + 15) * 1))) : Nat) : Int) := by
        show (a : Int) * ((b : Int) * (((a : Int) + 15) * (((b : Int) + 15) * 1))) = _
        rw [Int.natCast_mul, Int.natCast_mul, Int.natCast_mul, Int.natCast_mul, Int.natCast_add, Int.natCast_add]
        rfl
      rw [e] at h
      show yHl mt 4 q < _
      omega
  unfold lRg
  omega
end
section
/-! class and reference: a line, and lines -/
theorem wLq_k {c c' : Int → Int} {nn a : Int} {T T1 T2 : xT} {h h1 h2 : Int} {G G' G1 G2 : xG} {a1 a2 e1 e2 : Int} (ha : 0 ≤ a) (h10 : c nn = 10) (he : ∀ i, a ≤ i → i < nn → c' i = c i) (hg : gGn G G') (s : yLq c nn a T h G a1 T1 h1 G1 e1) (s' : wLq c' nn a T h G' a2 T2 h2 G2 e2) : a2 = a1 ∧ T2 = T1 ∧ h2 = h1 ∧ gGn G1 G2 ∧ e2 = e1 := by
  obtain ⟨b, sb, s⟩ := s
  obtain ⟨b', tb, t⟩ := s'
  obtain rfl := gLn_u (gLn_k he sb) tb
  have bb := sb.1
  rcases s with ⟨s1, s2, s3, s4⟩ | ⟨s1, rg, W, k, k27, w1, w13, w4, w2, tk, st⟩
  · rcases t with ⟨t1, t2, t3, t4⟩ | ⟨t1, -⟩
    · exact wEq_k hg (by omega) s3 t3 (by omega)
    · omega
  · rcases t with ⟨t1, -⟩ | ⟨t1, R, A, k', G3, r1, r8, r9, r10, r11, k'27, g3, f, cx, sx⟩
    · omega
    · have a88 : A.2.1 88 = c' := (zFr_r f 88).trans r1
      have a8 : A.1 87 8 = a := (zFr_f f 87 8).trans r8
      have a9 : A.1 87 9 = b := (zFr_f f 87 9).trans r9
      have a10 : A.1 87 10 = b + 1 := (zFr_f f 87 10).trans r10
      have a11 : A.1 87 11 = nn := (zFr_f f 87 11).trans r11
      have hb : ∀ i, a ≤ i → i < b → c' i = c i := fun i i0 i1 => he i i0 (by omega)
      have hG := gGn_t hg g3
      obtain ⟨rfl, ck⟩ := wCx_k s1 hb w1 w4 w2 r1 r8 r9 a88 tk cx
      have lc : wLc c c' a b W R A := ⟨⟨ha, s1⟩, hb, ⟨w1, w4, w2⟩, ⟨r1, r8, r9⟩, a88, a8, a9⟩
      unfold wSx at sx
      rcases ck with rfl | ⟨ct, (rfl | rfl | rfl) | ⟨n2, n12, n15, l, wo, k1, k2⟩⟩
      · rw [if_pos rfl] at sx
        exact wEq_k hG (by rw [sx.1, st.1 (by decide), a10, w13]) st.2.1 sx.2.1 (sx.2.2.trans st.2.2.symm)
      · rw [if_neg (by decide), if_pos rfl] at sx
        have hn : a2 = a1 := by rw [sx.1, st.1 (by decide), a10, w13]
        obtain ⟨x, x1, x2⟩ := st.2
        obtain ⟨y1, y2⟩ := wSx_2 lc x1
        rcases x2 with ⟨x2, x3, x4⟩ | ⟨x2, x3, q, kk, m, x4, x5, x6, x7, x8⟩
        · rcases sx.2 with ⟨-, z2, z3⟩ | ⟨z1, q, kk, m, z2, -⟩
          · exact wEq_k hG hn x3 z2 (z3.trans x4.symm)
          · exfalso
            rcases x2 with x2 | x2
            · exact z1 (y1.mp x2)
            · have x0 : 0 ≤ x := by
                by_cases q0 : 0 ≤ x
                · exact q0
                · exact absurd (y1.mp (by omega)) z1
              obtain ⟨y3, y4⟩ := y2 x0
              exact x2 q kk m ((y4 q kk m).mp z2.1) z2.2
        · obtain ⟨y3, y4⟩ := y2 x2
          have nz : ¬ wAf A = A.1 87 9 := fun z => by
            have := y1.mpr z
            omega
          rcases sx.2 with ⟨z1, -⟩ | ⟨-, q', kk', m', z2, z3, z4, z5, z6⟩
          · exfalso
            rcases z1 with z1 | z1
            · exact nz z1
            · exact z1 ⟨q, kk, m, (y4 q kk m).mpr x4, x5⟩
          · obtain ⟨u1, u2, u3⟩ := pTx_u x4 ((y4 q' kk' m').mp z2.1)
            subst u1
            subst u3
            refine ⟨hn, z3.trans x6.symm, z4.trans x7.symm, ?_, z6.trans x3.symm⟩
            rw [z5, x8]
            exact ⟨rfl, fun _ _ _ => ⟨rfl, fun _ _ _ => rfl⟩⟩
      · rw [if_neg (by decide), if_neg (by decide), if_pos rfl] at sx
        have hn : a2 = a1 := by rw [sx.1, st.1 (by decide), a10, w13]
        obtain ⟨x1, t, x2, x3⟩ := st.2
        have z := wSx_12 lc x2
        refine wEq_k hG hn x1 sx.2.1 ?_
        have sx2 := sx.2.2
        rw [z] at sx2
        rcases x3 with ⟨p1, p2⟩ | ⟨p1, p2⟩
        · rcases sx2 with ⟨q1, q2⟩ | ⟨q1, q2⟩
          · exact q2.trans p2.symm
          · exact absurd p1 q1
        · rcases sx2 with ⟨q1, q2⟩ | ⟨q1, q2⟩
          · exact absurd q1 p1
          · exact q2.trans p2.symm
      · rw [if_neg (by decide), if_neg (by decide), if_neg (by decide), if_pos rfl] at sx
        have hn : a2 = a1 := by rw [sx.1, st.1 (by decide), a10, w13]
        obtain ⟨n, t, x1, x2, x3⟩ := st.2
        obtain ⟨-, z1, z2, ee, z3, z4⟩ := sx
        obtain ⟨i1, i2⟩ := wSx_15 lc hG x1 x2 z3
        rw [i1] at z4
        rcases x3 with ⟨p1, p2, p3⟩ | ⟨p1, p2, p3, p4, p5⟩
        · rcases z4 with ⟨q1, q2, q3⟩ | ⟨q1, -⟩
          · exact wEq_k hG hn p2 ⟨z1, z2, q2⟩ (q3.trans p3.symm)
          · exact absurd p1 q1
        · rcases z4 with ⟨q1, q2, q3⟩ | ⟨q1, q2, q3⟩
          · exact absurd q1 p1
          · obtain ⟨jn, j2, j3, j4⟩ := i2 p1
            refine ⟨hn, z1.trans p2.symm, z2.trans p3.symm, ?_, q3.trans p4.symm⟩
            have en : ee - (wAf A + 1) = t - 1 - n := by omega
            rw [en] at q2
            refine yTw_k hG (fun j j0 j1 => ?_) p5 q2
            unfold wNm
            rw [a88, w1, jn]
            exact hb _ (by omega) (by omega)
      · have q : ¬ k' = 2 ∧ ¬ k' = 12 ∧ ¬ k' = 15 := ⟨n2, n12, n15⟩
        have km : k' ∈ [1, 3, 4, 7, 8, 9, 10, 11, 13, 14, 5, 6, 16, 17, 18, 19, 20, 21, 27, 22, 23, 24, 25, 26] := by
          rcases yKn_28 ⟨k', by omega⟩ with z | z | z | z | ⟨z, -⟩
          · exfalso
            dsimp only at z
            subst z
            have m0 := yKt_3.2.2.2.2
            have := wo
            obtain ⟨c0, o1, -⟩ := wo
            omega
          · exact absurd z n2
          · exact absurd z n12
          · exact absurd z n15
          · exact z
        have k0 : ¬ k' = 0 := fun z => by subst z; revert km; decide
        rw [if_neg k0, if_neg n2, if_neg n12, if_neg n15] at sx
        exact wSt_k hb (fun i i0 i1 => he i (by omega) i1) h10 l w13 a10 a11 k1 hG (wHk_g rg) km st sx
/-- where the next line begins -/
theorem yLq_x {c : Int → Int} {nn a : Int} {T T1 : xT} {h h1 : Int} {G G1 : xG} {a1 e1 : Int} (s : yLq c nn a T h G a1 T1 h1 G1 e1) : a < a1 := by
  obtain ⟨b, sb, ⟨s1, s2, -⟩ | ⟨s1, -, W, k, k27, w1, w13, w4, w2, tk, st⟩⟩ := s
  · omega
  · have z := yStp_x st (by have := sb.1; omega)
    omega
theorem yRl_x {c : Int → Int} {nn : Int} {T0 : xT} {h0 : Int} {G0 : xG} : ∀ (m : Nat) {x : Int} {T : xT} {h : Int} {G : xG} {f : Int}, yRl c nn T0 h0 G0 m x T h G f → 0 ≤ x
  | 0, _, _, _, _, _, s => by have := s.1; omega
  | m + 1, _, _, _, _, _, s => by
    obtain ⟨x1, T1, h1, G1, f1, e, s1, s2, s3, s4⟩ := s
    have := yRl_x m s1
    have := yLq_x s3
    omega
/-- m lines come to the same -/
theorem wRl_k {c c' : Int → Int} {nn : Int} {T0 : xT} {h0 : Int} {G0 G0' : xG} (h10 : c nn = 10) (he : ∀ i, 0 ≤ i → i < nn → c' i = c i) (hg : gGn G0 G0') : ∀ (m : Nat) {x x' : Int} {T T' : xT} {h h' : Int} {G G' : xG} {f f' : Int}, yRl c nn T0 h0 G0 m x T h G f → wRl c' nn T0 h0 G0' m x' T' h' G' f' → x' = x ∧ T' = T ∧ h' = h ∧ gGn G G' ∧ f' = f
  | 0, _, _, _, _, _, _, _, _, _, _, s, t => wEq_k hg (by have := s.1; have := t.1; omega) s.2.1 t.2.1 (t.2.2.trans s.2.2.symm)
  | m + 1, _, _, _, _, _, _, _, _, _, _, s, t => by
    obtain ⟨x1, T1, h1, G1, f1, e, s1, s2, s3, s4⟩ := s
    obtain ⟨y1, U1, k1, H1, g1, d, t1, t2, t3, t4⟩ := t
    obtain ⟨rfl, rfl, rfl, u4, rfl⟩ := wRl_k h10 he hg m s1 t1
    have x0 := yRl_x m s1
    obtain ⟨v1, v2, v3, v4, v5⟩ := wLq_k x0 h10 (fun i i0 i1 => he i (by omega) i1) u4 s3 t3
    exact ⟨v1, v2, v3, v4, by omega⟩
theorem wRl_p {c : Int → Int} {nn : Int} {T0 : xT} {h0 : Int} {G0 : xG} : ∀ (d : Nat) {m : Nat} {x : Int} {T : xT} {h : Int} {G : xG} {f : Int}, wRl c nn T0 h0 G0 (m + d + 1) x T h G f → ∃ x1 T1 h1 G1 f1, wRl c nn T0 h0 G0 m x1 T1 h1 G1 f1 ∧ x1 < nn
  | 0, _, _, _, _, _, _, s => by
    obtain ⟨x1, T1, h1, G1, f1, e, s1, s2, s3, s4⟩ := s
    exact ⟨x1, T1, h1, G1, f1, s1, s2⟩
  | d + 1, _, _, _, _, _, _, s => by
    obtain ⟨x1, T1, h1, G1, f1, e, s1, s2, s3, s4⟩ := s
    exact wRl_p d s1
theorem yRl_p {c : Int → Int} {nn : Int} {T0 : xT} {h0 : Int} {G0 : xG} : ∀ (d : Nat) {m : Nat} {x : Int} {T : xT} {h : Int} {G : xG} {f : Int}, yRl c nn T0 h0 G0 (m + d + 1) x T h G f → ∃ x1 T1 h1 G1 f1, yRl c nn T0 h0 G0 m x1 T1 h1 G1 f1 ∧ x1 < nn
  | 0, _, _, _, _, _, _, s => by
    obtain ⟨x1, T1, h1, G1, f1, e, s1, s2, s3, s4⟩ := s
    exact ⟨x1, T1, h1, G1, f1, s1, s2⟩
  | d + 1, _, _, _, _, _, _, s => by
    obtain ⟨x1, T1, h1, G1, f1, e, s1, s2, s3, s4⟩ := s
    exact yRl_p d s1
/-- a text's lines, all -/
theorem wRl_a {c c' : Int → Int} {nn : Int} {T0 : xT} {h0 : Int} {G0 G0' : xG} (h10 : c nn = 10) (he : ∀ i, 0 ≤ i → i < nn → c' i = c i) (hg : gGn G0 G0') {m m' : Nat} {x x' : Int} {T T' : xT} {h h' : Int} {G G' : xG} {f f' : Int} (s : yRl c nn T0 h0 G0 m x T h G f) (t : wRl c' nn T0 h0 G0' m' x' T' h' G' f') (hx : nn ≤ x) (hx' : nn ≤ x') : T' = T ∧ h' = h ∧ gGn G G' ∧ f' = f := by
  rcases Nat.lt_trichotomy m m' with z | z | z
  · obtain ⟨x1, T1, h1, G1, f1, w1, w2⟩ := wRl_p (m' - m - 1) (m := m) (by rw [show m + (m' - m - 1) + 1 = m' by omega]; exact t)
    have := (wRl_k h10 he hg m s w1).1
    omega
  · subst z
    exact (wRl_k h10 he hg m s t).2
  · obtain ⟨x1, T1, h1, G1, f1, w1, w2⟩ := yRl_p (m - m' - 1) (m := m') (by rw [show m' + (m - m' - 1) + 1 = m by omega]; exact s)
    have := (wRl_k h10 he hg m' w1 t).1
    omega
end
section
/-! the reference: size, an end that throws -/
noncomputable def ak_ZMMsiz : List jI := [(.aload_n 0, 1, (0, 0, 0, 0, 0)), (.iconst 0, 1, (0, 0, 0, 0, 0)), (.putfield 46, 3, (11, 0, 2302, 0, 0)), (.aload_n 0, 1, (0, 0, 0, 0, 0)), (.getfield 57, 3, (11, 3, 2305, 0, 0)), (.ireturn, 1, (0, 0, 0, 0, 0))]
theorem ao_ZMMsiz : jokLG jtF lk_MM "ChessHouseModel" jcl jtb 1 prog_15_method_7_code 0 ak_ZMMsiz = true := by decide +kernel
noncomputable def zm_MMsiz : zM := (some .int, { frames := 0, cells := 0, slots := 0, locals := 0 }, ([], []), [], ak_ZMMsiz)
noncomputable def zc_MMsiz (vals : List zv) (W : zW) (post : zPo) : Prop := vals = [.inr (.inr (some (.inl 87)))] ∧ (True) ∧ ∀ r : Int, ∀ V : zW, (r = W.1 87 3 ∧ V = zuF W 87 0 0) → post (some (.inl r)) V
set_option maxRecDepth 8000 in
theorem zp_MMsiz_0 {n K : Nat} {W : zW} {post : zPo}  (hK : 6 ≤ K) (hn : 142 ≤ n) (h : post (some (.inl (W.1 87 3))) (zuF W 87 0 0)) : zwp jtb zsh n zm_MMsiz post K (lGo ak_ZMMsiz 0) 0 [some (.inr (.inr (some (.inl 87))))] [] W := by
  obtain ⟨kk__, rfl⟩ : ∃ kk__, K = kk__ + 6 := ⟨K - 6, by omega⟩
  exact (show 87 < n ∧ 11 = 11 ∧ (some 0 : Option Nat) = some 0 ∧ ((0 : Nat) = 0 ∨ ((0 : Nat) = 1 ∧ ((0 : Int) = 0 ∨ (0 : Int) = 1))) ∧ 87 < n ∧ 11 = 11 ∧ 1 = 1 ∧ True ∧ post (some (.inl (W.1 87 3))) (zuF W 87 0 0) from ⟨(Nat.lt_of_lt_of_le (by decide) hn), rfl, rfl, (Or.inl rfl), ⟨(Nat.lt_of_lt_of_le (by decide) hn), rfl, ⟨rfl, trivial, h⟩⟩⟩)
theorem zk_MMsiz {l : Launch} {E : jE} {n : Nat} (hn : 142 ≤ n) : zHas l E jcl jtb lw_tbl zsh n (y_MM_size, false, 1, 11, { frames := 0, cells := 0, slots := 0, locals := 0 }, zc_MMsiz) := by
  refine ⟨⟨rfl, rfl, ⟨show 1 ≤ 1 by decide, m_MM_size, i_MM_size, e_MM_size, fun _ => ⟨_, rfl, rfl⟩⟩⟩, ?_⟩
  rintro vz W po hO hW ⟨rfl, hq, hp⟩
  refine zmet (m := zm_MMsiz) rfl (by decide) (fun _ _ => jtF_ok) lo_MM ao_ZMMsiz jC (fun q h => by cases h) (fun q h => by cases h) (fun q h => by cases h) (Nat.le_of_ble_eq_true rfl) hO hW (60) ?_
  exact zp_MMsiz_0 (by omega) hn (hp _ _ ⟨rfl, rfl⟩)
noncomputable def ak_ZMMenT : List jI := [(.aload_n 0, 1, (0, 0, 0, 0, 0)), (.iload_n 1, 1, (1, 0, 0, 0, 0)), (.ifCond .lt 11, 3, (13, 0, 0, 0, 0)), (.iload_n 1, 1, (1, 0, 0, 0, 0)), (.aload_n 0, 1, (0, 0, 0, 0, 0)), (.getfield 50, 3, (11, 1, 2303, 0, 0)), (.if_icmp .le 7, 3, (17, 0, 0, 0, 0)), (.iconst 1, 1, (0, 0, 0, 1, 0)), (.goto 4, 3, (18, 0, 0, 0, 0)), (.iconst 0, 1, (0, 0, 0, 0, 0)), (.putfield 46, 3, (11, 0, 2302, 0, 0)), (.aload_n 0, 1, (0, 0, 0, 0, 0)), (.getfield 46, 3, (11, 0, 2302, 0, 0)), (.ifCond .le 5, 3, (30, 0, 0, 0, 0)), (.iconst 0, 1, (0, 0, 0, 0, 0)), (.ireturn, 1, (0, 0, 0, 0, 0)), (.aload_n 0, 1, (0, 0, 0, 0, 0)), (.iconst 0, 1, (0, 0, 0, 0, 0)), (.putfield 57, 3, (11, 3, 2305, 0, 0)), (.aload_n 0, 1, (0, 0, 0, 0, 0)), (.iconst 0, 1, (0, 0, 0, 0, 0)), (.putfield 60, 3, (11, 12, 2314, 0, 0)), (.aload_n 0, 1, (0, 0, 0, 0, 0)), (.iconst 0, 1, (0, 0, 0, 0, 0)), (.putfield 63, 3, (11, 10, 2312, 0, 0)), (.aload_n 0, 1, (0, 0, 0, 0, 0)), (.iload_n 1, 1, (1, 0, 0, 0, 0)), (.putfield 66, 3, (11, 11, 2313, 0, 0)), (.aload_n 0, 1, (0, 0, 0, 0, 0)), (.getfield 63, 3, (11, 10, 2312, 0, 0)), (.aload_n 0, 1, (0, 0, 0, 0, 0)), (.getfield 66, 3, (11, 11, 2313, 0, 0)), (.if_icmp .ge 25, 3, (83, 0, 0, 0, 0)), (.aload_n 0, 1, (0, 0, 0, 0, 0)), (.invokevirtual 69, 3, (0, 0, 2376, 0, 0)), (.aload_n 0, 1, (0, 0, 0, 0, 0)), (.getfield 72, 3, (11, 9, 2311, 0, 0)), (.aload_n 0, 1, (0, 0, 0, 0, 0)), (.getfield 75, 3, (11, 8, 2310, 0, 0)), (.if_icmp .le (-23), 3, (50, 0, 0, 0, 0)), (.aload_n 0, 1, (0, 0, 0, 0, 0)), (.invokevirtual 78, 3, (1, 0, 2380, 0, 0)), (.goto (-30), 3, (50, 0, 0, 0, 0)), (.aload_n 0, 1, (0, 0, 0, 0, 0)), (.iconst 0, 1, (0, 0, 0, 0, 0)), (.putfield 50, 3, (11, 1, 2303, 0, 0)), (.aload_n 0, 1, (0, 0, 0, 0, 0)), (.getfield 60, 3, (11, 12, 2314, 0, 0)), (.ireturn, 1, (0, 0, 0, 0, 0))]
theorem ao_ZMMenT : jokLG jtF lk_MM "ChessHouseModel" jcl jtb 2 prog_15_method_5_code 0 ak_ZMMenT = true := by decide +kernel
noncomputable def zm_MMenT : zM := (some .int, { frames := 35, cells := 0, slots := 0, locals := 1890 }, ([(69, 2376, 0), (78, 2380, 1)], []), [(y_MM_takeLine, false, 1, 11, { frames := 0, cells := 0, slots := 0, locals := 0 }, zc_MMtkl), (y_MM_command, false, 1, 11, { frames := 34, cells := 0, slots := 0, locals := 1869 }, zc_MMcmd)], ak_ZMMenT)
noncomputable def zc_MMenT (vals : List zv) (W : zW) (post : zPo) : Prop := ∃ nn : Int, vals = [.inr (.inr (some (.inl 87))), .inl (nn)] ∧ (nn < 0 ∨ W.1 87 1 < nn) ∧ ∀ r : Int, ∀ V : zW, (r = 0 ∧ V = zuF W 87 0 1) → post (some (.inl r)) V
set_option maxRecDepth 8000 in
theorem zp_MMenT_0 {n K : Nat} {W : zW} {post : zPo} {nn : Int}  (hK : 24 ≤ K) (hn : 142 ≤ n) (h : (nn < 0 → post (some (.inl (0))) (zuF W 87 0 1)) ∧ (¬ nn < 0 → (nn ≤ (W.1 87 1) → zwp jtb zsh n zm_MMenT post (K - 24) (lGo ak_ZMMenT 50) 50 [some (.inr (.inr (some (.inl 87)))), some (.inl (nn))] [] (zuF (zuF (zuF (zuF (zuF W 87 0 0) 87 3 0) 87 12 0) 87 10 0) 87 11 nn)) ∧ (¬ nn ≤ (W.1 87 1) → post (some (.inl (0))) (zuF W 87 0 1)))) : zwp jtb zsh n zm_MMenT post K (lGo ak_ZMMenT 0) 0 [some (.inr (.inr (some (.inl 87)))), some (.inl (nn))] [] W := by
  obtain ⟨kk__, rfl⟩ : ∃ kk__, K = kk__ + 24 := ⟨K - 24, by omega⟩
  exact (show (nn < 0 → 87 < n ∧ 11 = 11 ∧ (some 0 : Option Nat) = some 0 ∧ ((0 : Nat) = 0 ∨ ((0 : Nat) = 1 ∧ ((1 : Int) = 0 ∨ (1 : Int) = 1))) ∧ 87 < n ∧ 11 = 11 ∧ ((1 : Int) ≤ 0 → zwp jtb zsh n zm_MMenT post (kk__ + 15) (lGo ak_ZMMenT 30) 30 [some (.inr (.inr (some (.inl 87)))), some (.inl (nn))] [] (zuF W 87 0 1)) ∧ (¬ (1 : Int) ≤ 0 → 1 = 1 ∧ True ∧ post (some (.inl (0))) (zuF W 87 0 1))) ∧ (¬ nn < 0 → 87 < n ∧ 11 = 11 ∧ (nn ≤ (W.1 87 1) → 87 < n ∧ 11 = 11 ∧ (some 0 : Option Nat) = some 0 ∧ ((0 : Nat) = 0 ∨ ((0 : Nat) = 1 ∧ ((0 : Int) = 0 ∨ (0 : Int) = 1))) ∧ 87 < n ∧ 11 = 11 ∧ ((0 : Int) ≤ 0 → 87 < n ∧ 11 = 11 ∧ (some 0 : Option Nat) = some 0 ∧ ((0 : Nat) = 0 ∨ ((0 : Nat) = 1 ∧ ((0 : Int) = 0 ∨ (0 : Int) = 1))) ∧ 87 < n ∧ 11 = 11 ∧ (some 0 : Option Nat) = some 0 ∧ ((0 : Nat) = 0 ∨ ((0 : Nat) = 1 ∧ ((0 : Int) = 0 ∨ (0 : Int) = 1))) ∧ 87 < n ∧ 11 = 11 ∧ (some 0 : Option Nat) = some 0 ∧ ((0 : Nat) = 0 ∨ ((0 : Nat) = 1 ∧ ((0 : Int) = 0 ∨ (0 : Int) = 1))) ∧ 87 < n ∧ 11 = 11 ∧ (some 0 : Option Nat) = some 0 ∧ ((0 : Nat) = 0 ∨ ((0 : Nat) = 1 ∧ (nn = 0 ∨ nn = 1))) ∧ zwp jtb zsh n zm_MMenT post (kk__ + 0) (lGo ak_ZMMenT 50) 50 [some (.inr (.inr (some (.inl 87)))), some (.inl (nn))] [] (zuF (zuF (zuF (zuF (zuF W 87 0 0) 87 3 0) 87 12 0) 87 10 0) 87 11 nn)) ∧ (¬ (0 : Int) ≤ 0 → zwp jtb zsh n zm_MMenT post (kk__ + 12) (lGo ak_ZMMenT 28) 28 [some (.inr (.inr (some (.inl 87)))), some (.inl (nn))] [] (zuF W 87 0 0))) ∧ (¬ nn ≤ (W.1 87 1) → 87 < n ∧ 11 = 11 ∧ (some 0 : Option Nat) = some 0 ∧ ((0 : Nat) = 0 ∨ ((0 : Nat) = 1 ∧ ((1 : Int) = 0 ∨ (1 : Int) = 1))) ∧ 87 < n ∧ 11 = 11 ∧ ((1 : Int) ≤ 0 → zwp jtb zsh n zm_MMenT post (kk__ + 11) (lGo ak_ZMMenT 30) 30 [some (.inr (.inr (some (.inl 87)))), some (.inl (nn))] [] (zuF W 87 0 1)) ∧ (¬ (1 : Int) ≤ 0 → 1 = 1 ∧ True ∧ post (some (.inl (0))) (zuF W 87 0 1)))) from ⟨fun c2_2 => ⟨(Nat.lt_of_lt_of_le (by decide) hn), rfl, rfl, (Or.inl rfl), ⟨(Nat.lt_of_lt_of_le (by decide) hn), rfl, ⟨fun hc8 => absurd hc8 (by decide), fun _ => ⟨rfl, trivial, ((h).1 c2_2)⟩⟩⟩⟩, fun c2_2 => ⟨(Nat.lt_of_lt_of_le (by decide) hn), rfl, ⟨fun c10_6 => ⟨(Nat.lt_of_lt_of_le (by decide) hn), rfl, rfl, (Or.inl rfl), ⟨(Nat.lt_of_lt_of_le (by decide) hn), rfl, ⟨fun _ => ⟨(Nat.lt_of_lt_of_le (by decide) hn), rfl, rfl, (Or.inl rfl), ⟨(Nat.lt_of_lt_of_le (by decide) hn), rfl, rfl, (Or.inl rfl), ⟨(Nat.lt_of_lt_of_le (by decide) hn), rfl, rfl, (Or.inl rfl), ⟨(Nat.lt_of_lt_of_le (by decide) hn), rfl, rfl, (Or.inl rfl), ((((h).2 c2_2)).1 c10_6)⟩⟩⟩⟩, fun hc11 => absurd hc11 (by decide)⟩⟩⟩, fun c10_6 => ⟨(Nat.lt_of_lt_of_le (by decide) hn), rfl, rfl, (Or.inl rfl), ⟨(Nat.lt_of_lt_of_le (by decide) hn), rfl, ⟨fun hc12 => absurd hc12 (by decide), fun _ => ⟨rfl, trivial, ((((h).2 c2_2)).2 c10_6)⟩⟩⟩⟩⟩⟩⟩)
theorem zk_MMenT {l : Launch} {E : jE} {n : Nat} (hn : 142 ≤ n) : zHas l E jcl jtb lw_tbl zsh n (y_MM_end, false, 2, 11, { frames := 35, cells := 0, slots := 0, locals := 1890 }, zc_MMenT) := by
  refine ⟨⟨rfl, rfl, ⟨show 1 ≤ 2 by decide, m_MM_end, i_MM_end, e_MM_end, fun _ => ⟨_, rfl, rfl⟩⟩⟩, ?_⟩
  rintro vz W po hO hW ⟨nn, rfl, hq, hp⟩
  refine zmet (m := zm_MMenT) rfl (by decide) (fun _ _ => jtF_ok) lo_MM ao_ZMMenT jC (fun q h => by cases h) (aAllc (fun G h => by obtain rfl := Option.some.inj h; exact ql_MM_69) (aAllc (fun G h => by obtain rfl := Option.some.inj h; exact ql_MM_78) (fun q h => by cases h))) (aAllc (zk_MMtkl hn) (aAllc (zk_MMcmd hn) (fun q h => by cases h))) (Nat.le_of_ble_eq_true rfl) hO hW (60) ?_
  exact zp_MMenT_0 (by omega) hn ⟨fun c2 => (hp _ _ ⟨rfl, rfl⟩), fun c2 => ⟨fun c10 => (False.elim (by omega)), fun c10 => (hp _ _ ⟨rfl, rfl⟩)⟩⟩
end
section
/-! the reference: feed -/
noncomputable def yByt (x q : Int) : Int := (lI (x / 2 ^ q.toNat)).toInt8.toInt32.toInt
theorem yByt_r {x q : Int} : -128 ≤ yByt x q ∧ yByt x q ≤ 127 := by
  unfold yByt
  rw [Int8.toInt_toInt32]
  have a := Int8.le_toInt (lI (x / 2 ^ q.toNat)).toInt8
  have b := Int8.toInt_lt (lI (x / 2 ^ q.toNat)).toInt8
  omega
/-- j bytes of x laid at t -/
noncomputable def yLy (g : Int → Int) (t x j : Int) : Int → Int := fun i => if t ≤ i ∧ i < t + j then yByt x (24 - 8 * (i - t)) else g i
theorem yLy_0 {g : Int → Int} {t x : Int} : yLy g t x 0 = g := by
  funext i
  unfold yLy
  rw [if_neg (by omega)]
theorem yLy_s {g : Int → Int} {t x j : Int} (h : 0 ≤ j) : zuI (yLy g t x j) (t + j) (yByt x (24 - 8 * j)) = yLy g t x (j + 1) := by
  funext i
  unfold zuI yLy
  by_cases c : i = t + j
  · rw [if_pos c, if_pos (by omega), show i - t = j by omega]
  · rw [if_neg c]
    by_cases d : t ≤ i ∧ i < t + j
    · rw [if_pos d, if_pos (by omega)]
    · rw [if_neg d, if_neg (by omega)]
noncomputable def wLy (W : zW) (x j : Int) (V : zW) : Prop := zFr [(87, 1)] [88] W V ∧ V.1 87 1 = W.1 87 1 + j ∧ V.2.1 88 = yLy (W.2.1 88) (W.1 87 1) x j
theorem wLy_0 {W : zW} {x : Int} : wLy W x 0 W := ⟨zFr_0, by omega, yLy_0.symm⟩
theorem wLy_s {W V : zW} {x j q t0 : Int} (h : wLy W x j V) (h0 : 0 ≤ j) (hq : q = 24 - 8 * j) (e : t0 = x / 2 ^ q.toNat) : wLy W x (j + 1) (zuF (zuR V 88 (V.1 87 1) ((lI t0).toInt8.toInt32.toInt)) 87 1 ((V.1 87 1) + 1)) := by
  refine ⟨zFr_F (zFr_R h.1 (by decide)) (by decide), ?_, ?_⟩
  · rw [zuF_1, if_pos ⟨rfl, rfl⟩, h.2.1]
    omega
  · rw [e, hq, ← yLy_s h0, ← h.2.2, ← h.2.1]
    exact zuR_f
noncomputable def ak_ZMMlay : List jI := [(.bipush 24, 2, (0, 0, 0, 24, 0)), (.istore_n 2, 1, (2, 0, 0, 0, 0)), (.iload_n 2, 1, (2, 0, 0, 0, 0)), (.ifCond .lt 32, 3, (36, 0, 0, 0, 0)), (.aload_n 0, 1, (0, 0, 0, 0, 0)), (.getfield 10, 3, (11, 2, 2304, 0, 0)), (.aload_n 0, 1, (0, 0, 0, 0, 0)), (.getfield 50, 3, (11, 1, 2303, 0, 0)), (.iload_n 1, 1, (1, 0, 0, 0, 0)), (.iload_n 2, 1, (2, 0, 0, 0, 0)), (.ishr, 1, (0, 0, 0, 0, 0)), (.i2b, 1, (0, 0, 0, 0, 0)), (.bastore, 1, (0, 0, 0, 0, 0)), (.aload_n 0, 1, (0, 0, 0, 0, 0)), (.dup, 1, (0, 0, 0, 0, 0)), (.getfield 50, 3, (11, 1, 2303, 0, 0)), (.iconst 1, 1, (0, 0, 0, 1, 0)), (.iadd, 1, (0, 0, 0, 0, 0)), (.putfield 50, 3, (11, 1, 2303, 0, 0)), (.iinc 2 (-8), 3, (0, 0, 0, (-8), 0)), (.goto (-30), 3, (3, 0, 0, 0, 0)), (.return_, 1, (0, 0, 0, 0, 0))]
theorem ao_ZMMlay : jokLG jtF lk_MM "ChessHouseModel" jcl jtb 3 prog_15_method_3_code 0 ak_ZMMlay = true := by decide +kernel
noncomputable def zm_MMlay : zM := (none, { frames := 0, cells := 0, slots := 0, locals := 0 }, ([], []), [], ak_ZMMlay)
noncomputable def zc_MMlay (vals : List zv) (W : zW) (post : zPo) : Prop := ∃ x : Int, vals = [.inr (.inr (some (.inl 87))), .inl (x)] ∧ (lRg x ∧ 0 ≤ W.1 87 1 ∧ W.1 87 1 ≤ 65532) ∧ ∀ V : zW, (wLy W x 4 V) → post none V
set_option maxRecDepth 8000 in
theorem zp_MMlay_0 {n K : Nat} {W : zW} {post : zPo} {x : Int} {u2 : Option zv} (hK : 2 ≤ K) (hn : 142 ≤ n) (h : zwp jtb zsh n zm_MMlay post (K - 2) (lGo ak_ZMMlay 3) 3 [some (.inr (.inr (some (.inl 87)))), some (.inl (x)), some (.inl (24))] [] W) : zwp jtb zsh n zm_MMlay post K (lGo ak_ZMMlay 0) 0 [some (.inr (.inr (some (.inl 87)))), some (.inl (x)), u2] [] W := by
  obtain ⟨kk__, rfl⟩ : ∃ kk__, K = kk__ + 2 := ⟨K - 2, by omega⟩
  exact (show zwp jtb zsh n zm_MMlay post (kk__ + 0) (lGo ak_ZMMlay 3) 3 [some (.inr (.inr (some (.inl 87)))), some (.inl (x)), some (.inl (24))] [] W from h)
set_option maxRecDepth 8000 in
theorem zp_MMlay_3 {n K : Nat} {V : zW} {post : zPo} {x q : Int} (hK : 19 ≤ K) (hn : 142 ≤ n) (h : (q < 0 → post none V) ∧ (¬ q < 0 → ((-2147483648 ≤ x ∧ x ≤ 2147483647) ∧ 0 ≤ q ∧ q ≤ 31) ∧ ∀ t0 : Int, t0 = x / 2 ^ q.toNat → (0 ≤ (V.1 87 1) ∧ (V.1 87 1) < 65536) ∧ (-128 ≤ ((lI t0).toInt8.toInt32.toInt) ∧ ((lI t0).toInt8.toInt32.toInt) ≤ 127) ∧ (-2147483648 ≤ (V.1 87 1) + 1 ∧ (V.1 87 1) + 1 ≤ 2147483647) ∧ (-2147483648 ≤ q + (-8) ∧ q + (-8) ≤ 2147483647) ∧ zwp jtb zsh n zm_MMlay post (K - 19) (lGo ak_ZMMlay 3) 3 [some (.inr (.inr (some (.inl 87)))), some (.inl (x)), some (.inl (q + (-8)))] [] (zuF (zuR V 88 (V.1 87 1) ((lI t0).toInt8.toInt32.toInt)) 87 1 ((V.1 87 1) + 1)))) : zwp jtb zsh n zm_MMlay post K (lGo ak_ZMMlay 3) 3 [some (.inr (.inr (some (.inl 87)))), some (.inl (x)), some (.inl (q))] [] V := by
  obtain ⟨kk__, rfl⟩ : ∃ kk__, K = kk__ + 19 := ⟨K - 19, by omega⟩
  exact (show (q < 0 → 1 = 1 ∧ (none : Option FieldType) = none ∧ post none V) ∧ (¬ q < 0 → 87 < n ∧ 11 = 11 ∧ 87 < n ∧ 11 = 11 ∧ 88 < n ∧ FieldType.byte = FieldType.byte ∧ (0 ≤ (V.1 87 1) ∧ (V.1 87 1) < 65536) ∧ (-128 ≤ ((lI ((lI x >>> (lI q &&& 31)).toInt)).toInt8.toInt32.toInt) ∧ ((lI ((lI x >>> (lI q &&& 31)).toInt)).toInt8.toInt32.toInt) ≤ 127) ∧ 87 < n ∧ 11 = 11 ∧ (-2147483648 ≤ (V.1 87 1) + 1 ∧ (V.1 87 1) + 1 ≤ 2147483647) ∧ 87 < n ∧ 11 = 11 ∧ (some 0 : Option Nat) = some 0 ∧ ((0 : Nat) = 0 ∨ ((0 : Nat) = 1 ∧ (((V.1 87 1) + 1) = 0 ∨ ((V.1 87 1) + 1) = 1))) ∧ (-2147483648 ≤ q + (-8) ∧ q + (-8) ≤ 2147483647) ∧ zwp jtb zsh n zm_MMlay post (kk__ + 0) (lGo ak_ZMMlay 3) 3 [some (.inr (.inr (some (.inl 87)))), some (.inl (x)), some (.inl (q + (-8)))] [] (zuF (zuR V 88 (V.1 87 1) ((lI ((lI x >>> (lI q &&& 31)).toInt)).toInt8.toInt32.toInt)) 87 1 ((V.1 87 1) + 1))) from ⟨fun c4_1 => ⟨rfl, rfl, ((h).1 c4_1)⟩, fun c4_1 => ⟨(Nat.lt_of_lt_of_le (by decide) hn), rfl, ⟨(Nat.lt_of_lt_of_le (by decide) hn), rfl, (have h := ((((h).2 c4_1)).2 _ (z_sr (((h).2 c4_1)).1)); ⟨(Nat.lt_of_lt_of_le (by decide) hn), rfl, (h).1, ((h).2).1, ⟨(Nat.lt_of_lt_of_le (by decide) hn), rfl, ⟨(((h).2).2).1, ⟨(Nat.lt_of_lt_of_le (by decide) hn), rfl, rfl, (Or.inl rfl), ⟨((((h).2).2).2).1, ((((h).2).2).2).2⟩⟩⟩⟩⟩)⟩⟩⟩)
theorem zk_MMlay {l : Launch} {E : jE} {n : Nat} (hn : 142 ≤ n) : zHas l E jcl jtb lw_tbl zsh n (y_MM_lay, false, 2, 11, { frames := 0, cells := 0, slots := 0, locals := 0 }, zc_MMlay) := by
  refine ⟨⟨rfl, rfl, ⟨show 1 ≤ 2 by decide, m_MM_lay, i_MM_lay, e_MM_lay, fun _ => ⟨_, rfl, rfl⟩⟩⟩, ?_⟩
  rintro vz W po hO hW ⟨x, rfl, hq, hp⟩
  refine zmet (m := zm_MMlay) rfl (by decide) (fun _ _ => jtF_ok) lo_MM ao_ZMMlay jC (fun q h => by cases h) (fun q h => by cases h) (fun q h => by cases h) (Nat.le_of_ble_eq_true rfl) hO hW (600) ?_
  obtain ⟨hx, ht⟩ := hq
  unfold lRg at hx
  have h3 : ∀ (m K : Nat) (V : zW) (q j : Int), 60 * m + 20 ≤ K → (0 ≤ j ∧ j ≤ 4 ∧ q = 24 - 8 * j ∧ 4 - j < m) → wLy W x j V → zwp jtb zsh n zm_MMlay po K (lGo ak_ZMMlay 3) 3 [some (.inr (.inr (some (.inl 87)))), some (.inl (x)), some (.inl (q))] [] V := by
    intro m
    induction m with
    | zero => intro K V q j hK h1; omega
    | succ m ih =>
      intro K V q j hK h1 hT
      have e1 := hT.2.1
      have fin : q < 0 → wLy W x 4 V := fun z => by
        have e : j = 4 := by omega
        rw [← e]
        exact hT
      exact zp_MMlay_3 (by omega) hn ⟨fun c4 => (hp _ (fin (by omega))), fun c4 => ⟨(by omega), fun t0 e0 => ⟨(by omega), (by rw [e0]; exact yByt_r), ⟨(by omega), ⟨(by omega), (ih _ _ _ (j + 1) (by omega) (by omega) (wLy_s hT (by omega) (by omega) e0))⟩⟩⟩⟩⟩
  exact zp_MMlay_0 (by omega) hn (h3 6 _ W 24 0 (by omega) (by omega) wLy_0)
noncomputable def yL5 (g : Int → Int) (t a b c d e : Int) : Int → Int := yLy (yLy (yLy (yLy (yLy g t a 4) (t + 4) b 4) (t + 8) c 4) (t + 12) d 4) (t + 16) e 4
theorem wLy_5 {W A B C D E F : zW} {a b c d e : Int} (hA : A = zuF W 87 0 0) (h1 : wLy A a 4 B) (h2 : wLy B b 4 C) (h3 : wLy C c 4 D) (h4 : wLy D d 4 E) (h5 : wLy E e 4 F) : zFr [(87, 0), (87, 1)] [88] W F ∧ F.1 87 0 = 0 ∧ F.1 87 1 = W.1 87 1 + 20 ∧ F.2.1 88 = yL5 (W.2.1 88) (W.1 87 1) a b c d e := by
  have e0 : A.1 87 1 = W.1 87 1 := by rw [hA, zuF_1, if_neg (by omega)]
  have e00 : A.1 87 0 = 0 := by rw [hA, zuF_1, if_pos ⟨rfl, rfl⟩]
  have e88 : A.2.1 88 = W.2.1 88 := by rw [hA]; rfl
  have f := zFr_t h1.1 (zFr_t h2.1 (zFr_t h3.1 (zFr_t h4.1 h5.1)))
  have fA : zFr [(87, 0)] [] W A := by rw [hA]; exact zFr_F zFr_0 (by decide)
  refine ⟨zFr_t (zFr_w fA (by decide) (by decide)) (zFr_w f (by decide) (by decide)), by rw [zFr_f f 87 0]; exact e00, ?_, ?_⟩
  · have := h1.2.1
    have := h2.2.1
    have := h3.2.1
    have := h4.2.1
    have := h5.2.1
    omega
  · have k1 := h1.2.1
    have k2 := h2.2.1
    have k3 := h3.2.1
    have k4 := h4.2.1
    unfold yL5
    rw [h5.2.2, h4.2.2, h3.2.2, h2.2.2, h1.2.2, e88, show E.1 87 1 = W.1 87 1 + 16 by omega, show D.1 87 1 = W.1 87 1 + 12 by omega, show C.1 87 1 = W.1 87 1 + 8 by omega, show B.1 87 1 = W.1 87 1 + 4 by omega, e0]
noncomputable def ak_ZMMfed : List jI := [(.aload_n 0, 1, (0, 0, 0, 0, 0)), (.aload_n 0, 1, (0, 0, 0, 0, 0)), (.getfield 50, 3, (11, 1, 2303, 0, 0)), (.bipush 20, 2, (0, 0, 0, 20, 0)), (.iadd, 1, (0, 0, 0, 0, 0)), (.ldc 9, 2, (0, 0, 1907, 65536, 0)), (.if_icmp .le 7, 3, (17, 0, 0, 0, 0)), (.iconst 1, 1, (0, 0, 0, 1, 0)), (.goto 4, 3, (18, 0, 0, 0, 0)), (.iconst 0, 1, (0, 0, 0, 0, 0)), (.putfield 46, 3, (11, 0, 2302, 0, 0)), (.aload_n 0, 1, (0, 0, 0, 0, 0)), (.getfield 46, 3, (11, 0, 2302, 0, 0)), (.ifCond .ne 30, 3, (55, 0, 0, 0, 0)), (.aload_n 0, 1, (0, 0, 0, 0, 0)), (.iload_n 1, 1, (1, 0, 0, 0, 0)), (.invokevirtual 53, 3, (0, 0, 2368, 0, 0)), (.aload_n 0, 1, (0, 0, 0, 0, 0)), (.iload_n 2, 1, (2, 0, 0, 0, 0)), (.invokevirtual 53, 3, (0, 0, 2368, 0, 0)), (.aload_n 0, 1, (0, 0, 0, 0, 0)), (.iload_n 3, 1, (3, 0, 0, 0, 0)), (.invokevirtual 53, 3, (0, 0, 2368, 0, 0)), (.aload_n 0, 1, (0, 0, 0, 0, 0)), (.iload 4, 2, (4, 0, 0, 0, 0)), (.invokevirtual 53, 3, (0, 0, 2368, 0, 0)), (.aload_n 0, 1, (0, 0, 0, 0, 0)), (.iload 5, 2, (5, 0, 0, 0, 0)), (.invokevirtual 53, 3, (0, 0, 2368, 0, 0)), (.return_, 1, (0, 0, 0, 0, 0))]
theorem ao_ZMMfed : jokLG jtF lk_MM "ChessHouseModel" jcl jtb 6 prog_15_method_4_code 0 ak_ZMMfed = true := by decide +kernel
noncomputable def zm_MMfed : zM := (none, { frames := 1, cells := 0, slots := 0, locals := 22 }, ([(53, 2368, 0)], []), [(y_MM_lay, false, 2, 11, { frames := 0, cells := 0, slots := 0, locals := 0 }, zc_MMlay)], ak_ZMMfed)
noncomputable def zc_MMfed (vals : List zv) (W : zW) (post : zPo) : Prop := ∃ a b c d e : Int, vals = [.inr (.inr (some (.inl 87))), .inl (a), .inl (b), .inl (c), .inl (d), .inl (e)] ∧ ((lRg a ∧ lRg b ∧ lRg c ∧ lRg d ∧ lRg e) ∧ 0 ≤ W.1 87 1 ∧ W.1 87 1 ≤ 65536) ∧ ∀ V : zW, ((65516 < W.1 87 1 ∧ V = zuF W 87 0 1) ∨ (W.1 87 1 ≤ 65516 ∧ zFr [(87, 0), (87, 1)] [88] W V ∧ V.1 87 0 = 0 ∧ V.1 87 1 = W.1 87 1 + 20 ∧ V.2.1 88 = yL5 (W.2.1 88) (W.1 87 1) a b c d e)) → post none V
set_option maxRecDepth 8000 in
theorem zp_MMfed_0 {n K : Nat} {W : zW} {post : zPo} {a b c d e : Int}  (hK : 28 ≤ K) (hn : 142 ≤ n) (h : (-2147483648 ≤ (W.1 87 1) + 20 ∧ (W.1 87 1) + 20 ≤ 2147483647) ∧ (((W.1 87 1) + 20) ≤ 65536 → (lRg a ∧ 0 ≤ (zuF W 87 0 0).1 87 1 ∧ (zuF W 87 0 0).1 87 1 ≤ 65532) ∧ ∀ W30 : zW, (wLy (zuF W 87 0 0) a 4 W30) → (lRg b ∧ 0 ≤ W30.1 87 1 ∧ W30.1 87 1 ≤ 65532) ∧ ∀ W35 : zW, (wLy W30 b 4 W35) → (lRg c ∧ 0 ≤ W35.1 87 1 ∧ W35.1 87 1 ≤ 65532) ∧ ∀ W40 : zW, (wLy W35 c 4 W40) → (lRg d ∧ 0 ≤ W40.1 87 1 ∧ W40.1 87 1 ≤ 65532) ∧ ∀ W46 : zW, (wLy W40 d 4 W46) → (lRg e ∧ 0 ≤ W46.1 87 1 ∧ W46.1 87 1 ≤ 65532) ∧ ∀ W52 : zW, (wLy W46 e 4 W52) → post none W52) ∧ (¬ ((W.1 87 1) + 20) ≤ 65536 → post none (zuF W 87 0 1))) : zwp jtb zsh n zm_MMfed post K (lGo ak_ZMMfed 0) 0 [some (.inr (.inr (some (.inl 87)))), some (.inl (a)), some (.inl (b)), some (.inl (c)), some (.inl (d)), some (.inl (e))] [] W := by
  obtain ⟨kk__, rfl⟩ : ∃ kk__, K = kk__ + 28 := ⟨K - 28, by omega⟩
  exact (show 87 < n ∧ 11 = 11 ∧ (-2147483648 ≤ (W.1 87 1) + 20 ∧ (W.1 87 1) + 20 ≤ 2147483647) ∧ (((W.1 87 1) + 20) ≤ 65536 → 87 < n ∧ 11 = 11 ∧ (some 0 : Option Nat) = some 0 ∧ ((0 : Nat) = 0 ∨ ((0 : Nat) = 1 ∧ ((0 : Int) = 0 ∨ (0 : Int) = 1))) ∧ 87 < n ∧ 11 = 11 ∧ (¬ (0 : Int) = 0 → zwp jtb zsh n zm_MMfed post (kk__ + 16) (lGo ak_ZMMfed 55) 55 [some (.inr (.inr (some (.inl 87)))), some (.inl (a)), some (.inl (b)), some (.inl (c)), some (.inl (d)), some (.inl (e))] [] (zuF W 87 0 0)) ∧ ((0 : Int) = 0 → 3 = 3 ∧ false = false ∧ jin3 53 2368 0 zm_MMfed.2.2.1.1 = true ∧ lRm zm_MMfed.2.1 { frames := 0, cells := 0, slots := 0, locals := 0 } 3 = true ∧ Nat.ble 2 2 = true ∧ Nat.ble 0 8 = true ∧ 87 < n ∧ 11 = 11 ∧ Nat.ble 1000 11 = false ∧ zc_MMlay [.inr (.inr (some (.inl 87))), .inl (a)] (zuF W 87 0 0) (fun vv__ WW__ => zwp jtb zsh n zm_MMfed post (kk__ + 13) (lGo ak_ZMMfed 33) 33 [some (.inr (.inr (some (.inl 87)))), some (.inl (a)), some (.inl (b)), some (.inl (c)), some (.inl (d)), some (.inl (e))] (vv__.toList ++ []) WW__))) ∧ (¬ ((W.1 87 1) + 20) ≤ 65536 → 87 < n ∧ 11 = 11 ∧ (some 0 : Option Nat) = some 0 ∧ ((0 : Nat) = 0 ∨ ((0 : Nat) = 1 ∧ ((1 : Int) = 0 ∨ (1 : Int) = 1))) ∧ 87 < n ∧ 11 = 11 ∧ (¬ (1 : Int) = 0 → 1 = 1 ∧ (none : Option FieldType) = none ∧ post none (zuF W 87 0 1)) ∧ ((1 : Int) = 0 → zwp jtb zsh n zm_MMfed post (kk__ + 15) (lGo ak_ZMMfed 28) 28 [some (.inr (.inr (some (.inl 87)))), some (.inl (a)), some (.inl (b)), some (.inl (c)), some (.inl (d)), some (.inl (e))] [] (zuF W 87 0 1))) from ⟨(Nat.lt_of_lt_of_le (by decide) hn), rfl, ⟨(h).1, ⟨fun c10_6 => ⟨(Nat.lt_of_lt_of_le (by decide) hn), rfl, rfl, (Or.inl rfl), ⟨(Nat.lt_of_lt_of_le (by decide) hn), rfl, ⟨fun hc11 => absurd hc11 (by decide), fun _ => ⟨rfl, rfl, rfl, rfl, rfl, rfl, (Nat.lt_of_lt_of_le (by decide) hn), rfl, rfl, a, rfl, ((((h).2).1 c10_6)).1, fun W30 hr30 => (show 3 = 3 ∧ false = false ∧ jin3 53 2368 0 zm_MMfed.2.2.1.1 = true ∧ lRm zm_MMfed.2.1 { frames := 0, cells := 0, slots := 0, locals := 0 } 3 = true ∧ Nat.ble 2 2 = true ∧ Nat.ble 0 8 = true ∧ 87 < n ∧ 11 = 11 ∧ Nat.ble 1000 11 = false ∧ zc_MMlay [.inr (.inr (some (.inl 87))), .inl (b)] W30 (fun vv__ WW__ => zwp jtb zsh n zm_MMfed post (kk__ + 10) (lGo ak_ZMMfed 38) 38 [some (.inr (.inr (some (.inl 87)))), some (.inl (a)), some (.inl (b)), some (.inl (c)), some (.inl (d)), some (.inl (e))] (vv__.toList ++ []) WW__) from (have h := (((((h).2).1 c10_6)).2 W30 hr30); ⟨rfl, rfl, rfl, rfl, rfl, rfl, (Nat.lt_of_lt_of_le (by decide) hn), rfl, rfl, b, rfl, (h).1, fun W35 hr35 => (show 3 = 3 ∧ false = false ∧ jin3 53 2368 0 zm_MMfed.2.2.1.1 = true ∧ lRm zm_MMfed.2.1 { frames := 0, cells := 0, slots := 0, locals := 0 } 3 = true ∧ Nat.ble 2 2 = true ∧ Nat.ble 0 8 = true ∧ 87 < n ∧ 11 = 11 ∧ Nat.ble 1000 11 = false ∧ zc_MMlay [.inr (.inr (some (.inl 87))), .inl (c)] W35 (fun vv__ WW__ => zwp jtb zsh n zm_MMfed post (kk__ + 7) (lGo ak_ZMMfed 43) 43 [some (.inr (.inr (some (.inl 87)))), some (.inl (a)), some (.inl (b)), some (.inl (c)), some (.inl (d)), some (.inl (e))] (vv__.toList ++ []) WW__) from ⟨rfl, rfl, rfl, rfl, rfl, rfl, (Nat.lt_of_lt_of_le (by decide) hn), rfl, rfl, c, rfl, (((h).2 W35 hr35)).1, fun W40 hr40 => (show 3 = 3 ∧ false = false ∧ jin3 53 2368 0 zm_MMfed.2.2.1.1 = true ∧ lRm zm_MMfed.2.1 { frames := 0, cells := 0, slots := 0, locals := 0 } 3 = true ∧ Nat.ble 2 2 = true ∧ Nat.ble 0 8 = true ∧ 87 < n ∧ 11 = 11 ∧ Nat.ble 1000 11 = false ∧ zc_MMlay [.inr (.inr (some (.inl 87))), .inl (d)] W40 (fun vv__ WW__ => zwp jtb zsh n zm_MMfed post (kk__ + 4) (lGo ak_ZMMfed 49) 49 [some (.inr (.inr (some (.inl 87)))), some (.inl (a)), some (.inl (b)), some (.inl (c)), some (.inl (d)), some (.inl (e))] (vv__.toList ++ []) WW__) from (have h := ((((h).2 W35 hr35)).2 W40 hr40); ⟨rfl, rfl, rfl, rfl, rfl, rfl, (Nat.lt_of_lt_of_le (by decide) hn), rfl, rfl, d, rfl, (h).1, fun W46 hr46 => (show 3 = 3 ∧ false = false ∧ jin3 53 2368 0 zm_MMfed.2.2.1.1 = true ∧ lRm zm_MMfed.2.1 { frames := 0, cells := 0, slots := 0, locals := 0 } 3 = true ∧ Nat.ble 2 2 = true ∧ Nat.ble 0 8 = true ∧ 87 < n ∧ 11 = 11 ∧ Nat.ble 1000 11 = false ∧ zc_MMlay [.inr (.inr (some (.inl 87))), .inl (e)] W46 (fun vv__ WW__ => zwp jtb zsh n zm_MMfed post (kk__ + 1) (lGo ak_ZMMfed 55) 55 [some (.inr (.inr (some (.inl 87)))), some (.inl (a)), some (.inl (b)), some (.inl (c)), some (.inl (d)), some (.inl (e))] (vv__.toList ++ []) WW__) from ⟨rfl, rfl, rfl, rfl, rfl, rfl, (Nat.lt_of_lt_of_le (by decide) hn), rfl, rfl, e, rfl, (((h).2 W46 hr46)).1, fun W52 hr52 => (show 1 = 1 ∧ (none : Option FieldType) = none ∧ post none W52 from (have h := ((((h).2 W46 hr46)).2 W52 hr52); ⟨rfl, rfl, h⟩))⟩)⟩))⟩)⟩))⟩⟩⟩⟩, fun c10_6 => ⟨(Nat.lt_of_lt_of_le (by decide) hn), rfl, rfl, (Or.inl rfl), ⟨(Nat.lt_of_lt_of_le (by decide) hn), rfl, ⟨fun _ => ⟨rfl, rfl, (((h).2).2 c10_6)⟩, fun hc12 => absurd hc12 (by decide)⟩⟩⟩⟩⟩⟩)
theorem zk_MMfed {l : Launch} {E : jE} {n : Nat} (hn : 142 ≤ n) : zHas l E jcl jtb lw_tbl zsh n (y_MM_feed, false, 6, 11, { frames := 1, cells := 0, slots := 0, locals := 22 }, zc_MMfed) := by
  refine ⟨⟨rfl, rfl, ⟨show 1 ≤ 6 by decide, m_MM_feed, i_MM_feed, e_MM_feed, fun _ => ⟨_, rfl, rfl⟩⟩⟩, ?_⟩
  rintro vz W po hO hW ⟨a, b, c, d, e, rfl, hq, hp⟩
  refine zmet (m := zm_MMfed) rfl (by decide) (fun _ _ => jtF_ok) lo_MM ao_ZMMfed jC (fun q h => by cases h) (aAllc (fun G h => by obtain rfl := Option.some.inj h; exact ql_MM_53) (fun q h => by cases h)) (aAllc (zk_MMlay hn) (fun q h => by cases h)) (Nat.le_of_ble_eq_true rfl) hO hW (600) ?_
  obtain ⟨hl, ht⟩ := hq
  have e01 : (zuF W 87 0 0).1 87 1 = W.1 87 1 := by rw [zuF_1, if_neg (by omega)]
  exact zp_MMfed_0 (by omega) hn ⟨(by omega), ⟨fun c10 => ⟨⟨hl.1, by  have := e01; omega, by  have := e01; omega⟩, fun W30 hr30 => ⟨⟨hl.2.1, by have := hr30.2.1; have := e01; omega, by have := hr30.2.1; have := e01; omega⟩, fun W35 hr35 => ⟨⟨hl.2.2.1, by have := hr30.2.1; have := hr35.2.1; have := e01; omega, by have := hr30.2.1; have := hr35.2.1; have := e01; omega⟩, fun W40 hr40 => ⟨⟨hl.2.2.2.1, by have := hr30.2.1; have := hr35.2.1; have := hr40.2.1; have := e01; omega, by have := hr30.2.1; have := hr35.2.1; have := hr40.2.1; have := e01; omega⟩, fun W46 hr46 => ⟨⟨hl.2.2.2.2, by have := hr30.2.1; have := hr35.2.1; have := hr40.2.1; have := hr46.2.1; have := e01; omega, by have := hr30.2.1; have := hr35.2.1; have := hr40.2.1; have := hr46.2.1; have := e01; omega⟩, fun W52 hr52 => (hp _ (by first | exact Or.inl ⟨by omega, rfl⟩ | exact Or.inr ⟨by omega, wLy_5 rfl hr30 hr35 hr40 hr46 hr52⟩))⟩⟩⟩⟩⟩, fun c10 => (hp _ (by first | exact Or.inl ⟨by omega, rfl⟩ | exact Or.inr ⟨by omega, wLy_5 rfl hr30 hr35 hr40 hr46 hr52⟩))⟩⟩
end
section
/-! the class: feed -/
noncomputable def yLc (W : zW) (x j : Int) (V : zW) : Prop := zFr [(0, 12)] [1] W V ∧ V.1 0 12 = W.1 0 12 + j ∧ V.2.1 1 = yLy (W.2.1 1) (W.1 0 12) x j
theorem yLc_0 {W : zW} {x : Int} : yLc W x 0 W := ⟨zFr_0, by omega, yLy_0.symm⟩
theorem yLc_s {W V : zW} {x j q t0 : Int} (h : yLc W x j V) (h0 : 0 ≤ j) (hq : q = 24 - 8 * j) (e : t0 = x / 2 ^ q.toNat) : yLc W x (j + 1) (zuF (zuR V 1 (V.1 0 12) ((lI t0).toInt8.toInt32.toInt)) 0 12 ((V.1 0 12) + 1)) := by
  refine ⟨zFr_F (zFr_R h.1 (by decide)) (by decide), ?_, ?_⟩
  · rw [zuF_1, if_pos ⟨rfl, rfl⟩, h.2.1]
    omega
  · rw [e, hq, ← yLy_s h0, ← h.2.2, ← h.2.1]
    exact zuR_f
noncomputable def ak_ZCHtk4 : List jI := [(.bipush 24, 2, (0, 0, 0, 24, 0)), (.istore_n 2, 1, (2, 0, 0, 0, 0)), (.iload_n 2, 1, (2, 0, 0, 0, 0)), (.ifCond .lt 32, 3, (36, 0, 0, 0, 0)), (.aload_n 0, 1, (0, 0, 0, 0, 0)), (.getfield 10, 3, (0, 0, 813, 0, 0)), (.aload_n 0, 1, (0, 0, 0, 0, 0)), (.getfield 89, 3, (0, 12, 825, 0, 0)), (.iload_n 1, 1, (1, 0, 0, 0, 0)), (.iload_n 2, 1, (2, 0, 0, 0, 0)), (.ishr, 1, (0, 0, 0, 0, 0)), (.i2b, 1, (0, 0, 0, 0, 0)), (.bastore, 1, (0, 0, 0, 0, 0)), (.aload_n 0, 1, (0, 0, 0, 0, 0)), (.dup, 1, (0, 0, 0, 0, 0)), (.getfield 89, 3, (0, 12, 825, 0, 0)), (.iconst 1, 1, (0, 0, 0, 1, 0)), (.iadd, 1, (0, 0, 0, 0, 0)), (.putfield 89, 3, (0, 12, 825, 0, 0)), (.iinc 2 (-8), 3, (0, 0, 0, (-8), 0)), (.goto (-30), 3, (3, 0, 0, 0, 0)), (.return_, 1, (0, 0, 0, 0, 0))]
theorem ao_ZCHtk4 : jokLG jtF lk_CH "ChessHouse" jcl jtb 3 prog_1_method_6_code 0 ak_ZCHtk4 = true := by decide +kernel
noncomputable def zm_CHtk4 : zM := (none, { frames := 0, cells := 0, slots := 0, locals := 0 }, ([], []), [], ak_ZCHtk4)
noncomputable def zc_CHtk4 (vals : List zv) (W : zW) (post : zPo) : Prop := ∃ x : Int, vals = [.inr (.inr (some (.inl 0))), .inl (x)] ∧ (lRg x ∧ 0 ≤ W.1 0 12 ∧ W.1 0 12 ≤ 65532) ∧ ∀ V : zW, (yLc W x 4 V) → post none V
set_option maxRecDepth 8000 in
theorem zp_CHtk4_0 {n K : Nat} {W : zW} {post : zPo} {x : Int} {u2 : Option zv} (hK : 2 ≤ K) (hn : 142 ≤ n) (h : zwp jtb zsh n zm_CHtk4 post (K - 2) (lGo ak_ZCHtk4 3) 3 [some (.inr (.inr (some (.inl 0)))), some (.inl (x)), some (.inl (24))] [] W) : zwp jtb zsh n zm_CHtk4 post K (lGo ak_ZCHtk4 0) 0 [some (.inr (.inr (some (.inl 0)))), some (.inl (x)), u2] [] W := by
  obtain ⟨kk__, rfl⟩ : ∃ kk__, K = kk__ + 2 := ⟨K - 2, by omega⟩
  exact (show zwp jtb zsh n zm_CHtk4 post (kk__ + 0) (lGo ak_ZCHtk4 3) 3 [some (.inr (.inr (some (.inl 0)))), some (.inl (x)), some (.inl (24))] [] W from h)
set_option maxRecDepth 8000 in
theorem zp_CHtk4_3 {n K : Nat} {V : zW} {post : zPo} {x q : Int} (hK : 19 ≤ K) (hn : 142 ≤ n) (h : (q < 0 → post none V) ∧ (¬ q < 0 → ((-2147483648 ≤ x ∧ x ≤ 2147483647) ∧ 0 ≤ q ∧ q ≤ 31) ∧ ∀ t0 : Int, t0 = x / 2 ^ q.toNat → (0 ≤ (V.1 0 12) ∧ (V.1 0 12) < 65537) ∧ (-128 ≤ ((lI t0).toInt8.toInt32.toInt) ∧ ((lI t0).toInt8.toInt32.toInt) ≤ 127) ∧ (-2147483648 ≤ (V.1 0 12) + 1 ∧ (V.1 0 12) + 1 ≤ 2147483647) ∧ (-2147483648 ≤ q + (-8) ∧ q + (-8) ≤ 2147483647) ∧ zwp jtb zsh n zm_CHtk4 post (K - 19) (lGo ak_ZCHtk4 3) 3 [some (.inr (.inr (some (.inl 0)))), some (.inl (x)), some (.inl (q + (-8)))] [] (zuF (zuR V 1 (V.1 0 12) ((lI t0).toInt8.toInt32.toInt)) 0 12 ((V.1 0 12) + 1)))) : zwp jtb zsh n zm_CHtk4 post K (lGo ak_ZCHtk4 3) 3 [some (.inr (.inr (some (.inl 0)))), some (.inl (x)), some (.inl (q))] [] V := by
  obtain ⟨kk__, rfl⟩ : ∃ kk__, K = kk__ + 19 := ⟨K - 19, by omega⟩
  exact (show (q < 0 → 1 = 1 ∧ (none : Option FieldType) = none ∧ post none V) ∧ (¬ q < 0 → 0 < n ∧ 0 = 0 ∧ 0 < n ∧ 0 = 0 ∧ 1 < n ∧ FieldType.byte = FieldType.byte ∧ (0 ≤ (V.1 0 12) ∧ (V.1 0 12) < 65537) ∧ (-128 ≤ ((lI ((lI x >>> (lI q &&& 31)).toInt)).toInt8.toInt32.toInt) ∧ ((lI ((lI x >>> (lI q &&& 31)).toInt)).toInt8.toInt32.toInt) ≤ 127) ∧ 0 < n ∧ 0 = 0 ∧ (-2147483648 ≤ (V.1 0 12) + 1 ∧ (V.1 0 12) + 1 ≤ 2147483647) ∧ 0 < n ∧ 0 = 0 ∧ (some 0 : Option Nat) = some 0 ∧ ((0 : Nat) = 0 ∨ ((0 : Nat) = 1 ∧ (((V.1 0 12) + 1) = 0 ∨ ((V.1 0 12) + 1) = 1))) ∧ (-2147483648 ≤ q + (-8) ∧ q + (-8) ≤ 2147483647) ∧ zwp jtb zsh n zm_CHtk4 post (kk__ + 0) (lGo ak_ZCHtk4 3) 3 [some (.inr (.inr (some (.inl 0)))), some (.inl (x)), some (.inl (q + (-8)))] [] (zuF (zuR V 1 (V.1 0 12) ((lI ((lI x >>> (lI q &&& 31)).toInt)).toInt8.toInt32.toInt)) 0 12 ((V.1 0 12) + 1))) from ⟨fun c4_1 => ⟨rfl, rfl, ((h).1 c4_1)⟩, fun c4_1 => ⟨(Nat.lt_of_lt_of_le (by decide) hn), rfl, ⟨(Nat.lt_of_lt_of_le (by decide) hn), rfl, (have h := ((((h).2 c4_1)).2 _ (z_sr (((h).2 c4_1)).1)); ⟨(Nat.lt_of_lt_of_le (by decide) hn), rfl, (h).1, ((h).2).1, ⟨(Nat.lt_of_lt_of_le (by decide) hn), rfl, ⟨(((h).2).2).1, ⟨(Nat.lt_of_lt_of_le (by decide) hn), rfl, rfl, (Or.inl rfl), ⟨((((h).2).2).2).1, ((((h).2).2).2).2⟩⟩⟩⟩⟩)⟩⟩⟩)
theorem zk_CHtk4 {l : Launch} {E : jE} {n : Nat} (hn : 142 ≤ n) : zHas l E jcl jtb lw_tbl zsh n (y_CH_takeFour, false, 2, 0, { frames := 0, cells := 0, slots := 0, locals := 0 }, zc_CHtk4) := by
  refine ⟨⟨rfl, rfl, ⟨show 1 ≤ 2 by decide, m_CH_takeFour, i_CH_takeFour, e_CH_takeFour, fun _ => ⟨_, rfl, rfl⟩⟩⟩, ?_⟩
  rintro vz W po hO hW ⟨x, rfl, hq, hp⟩
  refine zmet (m := zm_CHtk4) rfl (by decide) (fun _ _ => jtF_ok) lo_CH ao_ZCHtk4 jC (fun q h => by cases h) (fun q h => by cases h) (fun q h => by cases h) (Nat.le_of_ble_eq_true rfl) hO hW (600) ?_
  obtain ⟨hx, ht⟩ := hq
  unfold lRg at hx
  have h3 : ∀ (m K : Nat) (V : zW) (q j : Int), 60 * m + 20 ≤ K → (0 ≤ j ∧ j ≤ 4 ∧ q = 24 - 8 * j ∧ 4 - j < m) → yLc W x j V → zwp jtb zsh n zm_CHtk4 po K (lGo ak_ZCHtk4 3) 3 [some (.inr (.inr (some (.inl 0)))), some (.inl (x)), some (.inl (q))] [] V := by
    intro m
    induction m with
    | zero => intro K V q j hK h1; omega
    | succ m ih =>
      intro K V q j hK h1 hT
      have e1 := hT.2.1
      have fin : q < 0 → yLc W x 4 V := fun z => by
        have e : j = 4 := by omega
        rw [← e]
        exact hT
      exact zp_CHtk4_3 (by omega) hn ⟨fun c4 => (hp _ (fin (by omega))), fun c4 => ⟨(by omega), fun t0 e0 => ⟨(by omega), (by rw [e0]; exact yByt_r), ⟨(by omega), ⟨(by omega), (ih _ _ _ (j + 1) (by omega) (by omega) (yLc_s hT (by omega) (by omega) e0))⟩⟩⟩⟩⟩
  exact zp_CHtk4_0 (by omega) hn (h3 6 _ W 24 0 (by omega) (by omega) yLc_0)
theorem yLc_5 {A B C D E F : zW} {a b c d e : Int} (h1 : yLc A a 4 B) (h2 : yLc B b 4 C) (h3 : yLc C c 4 D) (h4 : yLc D d 4 E) (h5 : yLc E e 4 F) : zFr [(0, 12)] [1] A F ∧ F.1 0 12 = A.1 0 12 + 20 ∧ F.2.1 1 = yL5 (A.2.1 1) (A.1 0 12) a b c d e := by
  have k1 := h1.2.1
  have k2 := h2.2.1
  have k3 := h3.2.1
  have k4 := h4.2.1
  have k5 := h5.2.1
  refine ⟨zFr_w (zFr_t h1.1 (zFr_t h2.1 (zFr_t h3.1 (zFr_t h4.1 h5.1)))) (by decide) (by decide), by omega, ?_⟩
  unfold yL5
  rw [h5.2.2, h4.2.2, h3.2.2, h2.2.2, h1.2.2, show E.1 0 12 = A.1 0 12 + 16 by omega, show D.1 0 12 = A.1 0 12 + 12 by omega, show C.1 0 12 = A.1 0 12 + 8 by omega, show B.1 0 12 = A.1 0 12 + 4 by omega]
noncomputable def ak_ZCHfed : List jI := [(.aload_n 0, 1, (0, 0, 0, 0, 0)), (.getfield 89, 3, (0, 12, 825, 0, 0)), (.bipush 20, 2, (0, 0, 0, 20, 0)), (.iadd, 1, (0, 0, 0, 0, 0)), (.ldc 16, 2, (0, 0, 345, 65536, 0)), (.if_icmp .le 11, 3, (20, 0, 0, 0, 0)), (.new 93, 3, (0, 0, 0, 0, 0)), (.dup, 1, (0, 0, 0, 0, 0)), (.invokespecial 95, 3, (0, 0, 0, 0, 0)), (.athrow, 1, (0, 0, 0, 0, 0)), (.aload_n 0, 1, (0, 0, 0, 0, 0)), (.iload_n 1, 1, (1, 0, 0, 0, 0)), (.invokevirtual 96, 3, (0, 0, 934, 0, 0)), (.aload_n 0, 1, (0, 0, 0, 0, 0)), (.iload_n 2, 1, (2, 0, 0, 0, 0)), (.invokevirtual 96, 3, (0, 0, 934, 0, 0)), (.aload_n 0, 1, (0, 0, 0, 0, 0)), (.iload_n 3, 1, (3, 0, 0, 0, 0)), (.invokevirtual 96, 3, (0, 0, 934, 0, 0)), (.aload_n 0, 1, (0, 0, 0, 0, 0)), (.iload 4, 2, (4, 0, 0, 0, 0)), (.invokevirtual 96, 3, (0, 0, 934, 0, 0)), (.aload_n 0, 1, (0, 0, 0, 0, 0)), (.iload 5, 2, (5, 0, 0, 0, 0)), (.invokevirtual 96, 3, (0, 0, 934, 0, 0)), (.return_, 1, (0, 0, 0, 0, 0))]
theorem ao_ZCHfed : jokLG jtF lk_CH "ChessHouse" jcl jtb 6 prog_1_method_2_code 0 ak_ZCHfed = true := by decide +kernel
noncomputable def zm_CHfed : zM := (none, { frames := 1, cells := 0, slots := 0, locals := 22 }, ([(96, 934, 0)], []), [(y_CH_takeFour, false, 2, 0, { frames := 0, cells := 0, slots := 0, locals := 0 }, zc_CHtk4)], ak_ZCHfed)
noncomputable def zc_CHfed (vals : List zv) (W : zW) (post : zPo) : Prop := ∃ a b c d e : Int, vals = [.inr (.inr (some (.inl 0))), .inl (a), .inl (b), .inl (c), .inl (d), .inl (e)] ∧ ((lRg a ∧ lRg b ∧ lRg c ∧ lRg d ∧ lRg e) ∧ 0 ≤ W.1 0 12 ∧ W.1 0 12 ≤ 65516) ∧ ∀ V : zW, (zFr [(0, 12)] [1] W V ∧ V.1 0 12 = W.1 0 12 + 20 ∧ V.2.1 1 = yL5 (W.2.1 1) (W.1 0 12) a b c d e) → post none V
set_option maxRecDepth 8000 in
theorem zp_CHfed_0 {n K : Nat} {W : zW} {post : zPo} {a b c d e : Int}  (hK : 22 ≤ K) (hn : 142 ≤ n) (h : (-2147483648 ≤ (W.1 0 12) + 20 ∧ (W.1 0 12) + 20 ≤ 2147483647) ∧ (((W.1 0 12) + 20) ≤ 65536 → (lRg a ∧ 0 ≤ W.1 0 12 ∧ W.1 0 12 ≤ 65532) ∧ ∀ W22 : zW, (yLc W a 4 W22) → (lRg b ∧ 0 ≤ W22.1 0 12 ∧ W22.1 0 12 ≤ 65532) ∧ ∀ W27 : zW, (yLc W22 b 4 W27) → (lRg c ∧ 0 ≤ W27.1 0 12 ∧ W27.1 0 12 ≤ 65532) ∧ ∀ W32 : zW, (yLc W27 c 4 W32) → (lRg d ∧ 0 ≤ W32.1 0 12 ∧ W32.1 0 12 ≤ 65532) ∧ ∀ W38 : zW, (yLc W32 d 4 W38) → (lRg e ∧ 0 ≤ W38.1 0 12 ∧ W38.1 0 12 ≤ 65532) ∧ ∀ W44 : zW, (yLc W38 e 4 W44) → post none W44) ∧ (¬ ((W.1 0 12) + 20) ≤ 65536 → zwp jtb zsh n zm_CHfed post (K - 6) (lGo ak_ZCHfed 12) 12 [some (.inr (.inr (some (.inl 0)))), some (.inl (a)), some (.inl (b)), some (.inl (c)), some (.inl (d)), some (.inl (e))] [] W)) : zwp jtb zsh n zm_CHfed post K (lGo ak_ZCHfed 0) 0 [some (.inr (.inr (some (.inl 0)))), some (.inl (a)), some (.inl (b)), some (.inl (c)), some (.inl (d)), some (.inl (e))] [] W := by
  obtain ⟨kk__, rfl⟩ : ∃ kk__, K = kk__ + 22 := ⟨K - 22, by omega⟩
  exact (show 0 < n ∧ 0 = 0 ∧ (-2147483648 ≤ (W.1 0 12) + 20 ∧ (W.1 0 12) + 20 ≤ 2147483647) ∧ (((W.1 0 12) + 20) ≤ 65536 → 3 = 3 ∧ false = false ∧ jin3 96 934 0 zm_CHfed.2.2.1.1 = true ∧ lRm zm_CHfed.2.1 { frames := 0, cells := 0, slots := 0, locals := 0 } 3 = true ∧ Nat.ble 2 2 = true ∧ Nat.ble 0 8 = true ∧ 0 < n ∧ 0 = 0 ∧ Nat.ble 1000 0 = false ∧ zc_CHtk4 [.inr (.inr (some (.inl 0))), .inl (a)] W (fun vv__ WW__ => zwp jtb zsh n zm_CHfed post (kk__ + 13) (lGo ak_ZCHfed 25) 25 [some (.inr (.inr (some (.inl 0)))), some (.inl (a)), some (.inl (b)), some (.inl (c)), some (.inl (d)), some (.inl (e))] (vv__.toList ++ []) WW__)) ∧ (¬ ((W.1 0 12) + 20) ≤ 65536 → zwp jtb zsh n zm_CHfed post (kk__ + 16) (lGo ak_ZCHfed 12) 12 [some (.inr (.inr (some (.inl 0)))), some (.inl (a)), some (.inl (b)), some (.inl (c)), some (.inl (d)), some (.inl (e))] [] W) from ⟨(Nat.lt_of_lt_of_le (by decide) hn), rfl, ⟨(h).1, ⟨fun c9_5 => ⟨rfl, rfl, rfl, rfl, rfl, rfl, (Nat.lt_of_lt_of_le (by decide) hn), rfl, rfl, a, rfl, ((((h).2).1 c9_5)).1, fun W22 hr22 => (show 3 = 3 ∧ false = false ∧ jin3 96 934 0 zm_CHfed.2.2.1.1 = true ∧ lRm zm_CHfed.2.1 { frames := 0, cells := 0, slots := 0, locals := 0 } 3 = true ∧ Nat.ble 2 2 = true ∧ Nat.ble 0 8 = true ∧ 0 < n ∧ 0 = 0 ∧ Nat.ble 1000 0 = false ∧ zc_CHtk4 [.inr (.inr (some (.inl 0))), .inl (b)] W22 (fun vv__ WW__ => zwp jtb zsh n zm_CHfed post (kk__ + 10) (lGo ak_ZCHfed 30) 30 [some (.inr (.inr (some (.inl 0)))), some (.inl (a)), some (.inl (b)), some (.inl (c)), some (.inl (d)), some (.inl (e))] (vv__.toList ++ []) WW__) from (have h := (((((h).2).1 c9_5)).2 W22 hr22); ⟨rfl, rfl, rfl, rfl, rfl, rfl, (Nat.lt_of_lt_of_le (by decide) hn), rfl, rfl, b, rfl, (h).1, fun W27 hr27 => (show 3 = 3 ∧ false = false ∧ jin3 96 934 0 zm_CHfed.2.2.1.1 = true ∧ lRm zm_CHfed.2.1 { frames := 0, cells := 0, slots := 0, locals := 0 } 3 = true ∧ Nat.ble 2 2 = true ∧ Nat.ble 0 8 = true ∧ 0 < n ∧ 0 = 0 ∧ Nat.ble 1000 0 = false ∧ zc_CHtk4 [.inr (.inr (some (.inl 0))), .inl (c)] W27 (fun vv__ WW__ => zwp jtb zsh n zm_CHfed post (kk__ + 7) (lGo ak_ZCHfed 35) 35 [some (.inr (.inr (some (.inl 0)))), some (.inl (a)), some (.inl (b)), some (.inl (c)), some (.inl (d)), some (.inl (e))] (vv__.toList ++ []) WW__) from ⟨rfl, rfl, rfl, rfl, rfl, rfl, (Nat.lt_of_lt_of_le (by decide) hn), rfl, rfl, c, rfl, (((h).2 W27 hr27)).1, fun W32 hr32 => (show 3 = 3 ∧ false = false ∧ jin3 96 934 0 zm_CHfed.2.2.1.1 = true ∧ lRm zm_CHfed.2.1 { frames := 0, cells := 0, slots := 0, locals := 0 } 3 = true ∧ Nat.ble 2 2 = true ∧ Nat.ble 0 8 = true ∧ 0 < n ∧ 0 = 0 ∧ Nat.ble 1000 0 = false ∧ zc_CHtk4 [.inr (.inr (some (.inl 0))), .inl (d)] W32 (fun vv__ WW__ => zwp jtb zsh n zm_CHfed post (kk__ + 4) (lGo ak_ZCHfed 41) 41 [some (.inr (.inr (some (.inl 0)))), some (.inl (a)), some (.inl (b)), some (.inl (c)), some (.inl (d)), some (.inl (e))] (vv__.toList ++ []) WW__) from (have h := ((((h).2 W27 hr27)).2 W32 hr32); ⟨rfl, rfl, rfl, rfl, rfl, rfl, (Nat.lt_of_lt_of_le (by decide) hn), rfl, rfl, d, rfl, (h).1, fun W38 hr38 => (show 3 = 3 ∧ false = false ∧ jin3 96 934 0 zm_CHfed.2.2.1.1 = true ∧ lRm zm_CHfed.2.1 { frames := 0, cells := 0, slots := 0, locals := 0 } 3 = true ∧ Nat.ble 2 2 = true ∧ Nat.ble 0 8 = true ∧ 0 < n ∧ 0 = 0 ∧ Nat.ble 1000 0 = false ∧ zc_CHtk4 [.inr (.inr (some (.inl 0))), .inl (e)] W38 (fun vv__ WW__ => zwp jtb zsh n zm_CHfed post (kk__ + 1) (lGo ak_ZCHfed 47) 47 [some (.inr (.inr (some (.inl 0)))), some (.inl (a)), some (.inl (b)), some (.inl (c)), some (.inl (d)), some (.inl (e))] (vv__.toList ++ []) WW__) from ⟨rfl, rfl, rfl, rfl, rfl, rfl, (Nat.lt_of_lt_of_le (by decide) hn), rfl, rfl, e, rfl, (((h).2 W38 hr38)).1, fun W44 hr44 => (show 1 = 1 ∧ (none : Option FieldType) = none ∧ post none W44 from (have h := ((((h).2 W38 hr38)).2 W44 hr44); ⟨rfl, rfl, h⟩))⟩)⟩))⟩)⟩))⟩, fun c9_5 => (((h).2).2 c9_5)⟩⟩⟩)
theorem zk_CHfed {l : Launch} {E : jE} {n : Nat} (hn : 142 ≤ n) : zHas l E jcl jtb lw_tbl zsh n (y_CH_feed, false, 6, 0, { frames := 1, cells := 0, slots := 0, locals := 22 }, zc_CHfed) := by
  refine ⟨⟨rfl, rfl, ⟨show 1 ≤ 6 by decide, m_CH_feed, i_CH_feed, e_CH_feed, fun _ => ⟨_, rfl, rfl⟩⟩⟩, ?_⟩
  rintro vz W po hO hW ⟨a, b, c, d, e, rfl, hq, hp⟩
  refine zmet (m := zm_CHfed) rfl (by decide) (fun _ _ => jtF_ok) lo_CH ao_ZCHfed jC (fun q h => by cases h) (aAllc (fun G h => by obtain rfl := Option.some.inj h; exact ql_CH_96) (fun q h => by cases h)) (aAllc (zk_CHtk4 hn) (fun q h => by cases h)) (Nat.le_of_ble_eq_true rfl) hO hW (600) ?_
  obtain ⟨hl, ht⟩ := hq
  exact zp_CHfed_0 (by omega) hn ⟨(by omega), ⟨fun c9 => ⟨⟨hl.1, by  omega, by  omega⟩, fun W22 hr22 => ⟨⟨hl.2.1, by have := hr22.2.1; omega, by have := hr22.2.1; omega⟩, fun W27 hr27 => ⟨⟨hl.2.2.1, by have := hr22.2.1; have := hr27.2.1; omega, by have := hr22.2.1; have := hr27.2.1; omega⟩, fun W32 hr32 => ⟨⟨hl.2.2.2.1, by have := hr22.2.1; have := hr27.2.1; have := hr32.2.1; omega, by have := hr22.2.1; have := hr27.2.1; have := hr32.2.1; omega⟩, fun W38 hr38 => ⟨⟨hl.2.2.2.2, by have := hr22.2.1; have := hr27.2.1; have := hr32.2.1; have := hr38.2.1; omega, by have := hr22.2.1; have := hr27.2.1; have := hr32.2.1; have := hr38.2.1; omega⟩, fun W44 hr44 => (hp _ (yLc_5 hr22 hr27 hr32 hr38 hr44))⟩⟩⟩⟩⟩, fun c9 => (False.elim (by omega))⟩⟩
noncomputable def ak_ZCHsiz : List jI := [(.aload_n 0, 1, (0, 0, 0, 0, 0)), (.getfield 20, 3, (0, 1, 814, 0, 0)), (.getfield 123, 3, (1, 1, 355, 0, 0)), (.ireturn, 1, (0, 0, 0, 0, 0))]
theorem ao_ZCHsiz : jokLG jtF lk_CH "ChessHouse" jcl jtb 1 prog_1_method_4_code 0 ak_ZCHsiz = true := by decide +kernel
noncomputable def zm_CHsiz : zM := (some .int, { frames := 0, cells := 0, slots := 0, locals := 0 }, ([], []), [], ak_ZCHsiz)
noncomputable def zc_CHsiz (vals : List zv) (W : zW) (post : zPo) : Prop := vals = [.inr (.inr (some (.inl 0)))] ∧ (True) ∧ ∀ r : Int, (r = W.1 2 1) → post (some (.inl r)) W
set_option maxRecDepth 8000 in
theorem zp_CHsiz_0 {n K : Nat} {W : zW} {post : zPo}  (hK : 4 ≤ K) (hn : 142 ≤ n) (h : post (some (.inl (W.1 2 1))) W) : zwp jtb zsh n zm_CHsiz post K (lGo ak_ZCHsiz 0) 0 [some (.inr (.inr (some (.inl 0))))] [] W := by
  obtain ⟨kk__, rfl⟩ : ∃ kk__, K = kk__ + 4 := ⟨K - 4, by omega⟩
  exact (show 0 < n ∧ 0 = 0 ∧ 2 < n ∧ 1 = 1 ∧ 1 = 1 ∧ True ∧ post (some (.inl (W.1 2 1))) W from ⟨(Nat.lt_of_lt_of_le (by decide) hn), rfl, ⟨(Nat.lt_of_lt_of_le (by decide) hn), rfl, ⟨rfl, trivial, h⟩⟩⟩)
theorem zk_CHsiz {l : Launch} {E : jE} {n : Nat} (hn : 142 ≤ n) : zHas l E jcl jtb lw_tbl zsh n (y_CH_size, false, 1, 0, { frames := 0, cells := 0, slots := 0, locals := 0 }, zc_CHsiz) := by
  refine ⟨⟨rfl, rfl, ⟨show 1 ≤ 1 by decide, m_CH_size, i_CH_size, e_CH_size, fun _ => ⟨_, rfl, rfl⟩⟩⟩, ?_⟩
  rintro vz W po hO hW ⟨rfl, hq, hp⟩
  refine zmet (m := zm_CHsiz) rfl (by decide) (fun _ _ => jtF_ok) lo_CH ao_ZCHsiz jC (fun q h => by cases h) (fun q h => by cases h) (fun q h => by cases h) (Nat.le_of_ble_eq_true rfl) hO hW (60) ?_
  exact zp_CHsiz_0 (by omega) hn (hp _ rfl)
end
section
/-! what is fed lies alike on both tapes -/
theorem yLy_k {g g' : Int → Int} {t x j : Int} (h : ∀ i, 0 ≤ i → i < t → g' i = g i) : ∀ i, 0 ≤ i → i < t + j → yLy g' t x j i = yLy g t x j i := fun i i0 i1 => by
  unfold yLy
  by_cases c : t ≤ i ∧ i < t + j
  · rw [if_pos c, if_pos c]
  · rw [if_neg c, if_neg c]
    exact h i i0 (by omega)
theorem yL5_k {g g' : Int → Int} {t a b c d e : Int} (h : ∀ i, 0 ≤ i → i < t → g' i = g i) : ∀ i, 0 ≤ i → i < t + 20 → yL5 g' t a b c d e i = yL5 g t a b c d e i := fun i i0 i1 => by
  unfold yL5
  refine yLy_k (fun i i0 i1 => yLy_k (fun i i0 i1 => yLy_k (fun i i0 i1 => yLy_k (fun i i0 i1 => yLy_k h i i0 i1) i i0 (by omega)) i i0 (by omega)) i i0 (by omega)) i i0 (by omega)
/-- bytes stay bytes -/
theorem yLy_b {g : Int → Int} {t x j : Int} (h : ∀ i, -128 ≤ g i ∧ g i ≤ 127) : ∀ i, -128 ≤ yLy g t x j i ∧ yLy g t x j i ≤ 127 := fun i => by
  unfold yLy
  split
  · exact yByt_r
  · exact h i
theorem yL5_b {g : Int → Int} {t a b c d e : Int} (h : ∀ i, -128 ≤ g i ∧ g i ≤ 127) : ∀ i, -128 ≤ yL5 g t a b c d e i ∧ yL5 g t a b c d e i ≤ 127 := yLy_b (yLy_b (yLy_b (yLy_b (yLy_b h))))
end
section
/-! out, in class and reference -/
noncomputable def ak_ZMMout : List jI := [(.aload_n 0, 1, (0, 0, 0, 0, 0)), (.iload_n 1, 1, (1, 0, 0, 0, 0)), (.ifCond .lt 11, 3, (13, 0, 0, 0, 0)), (.iload_n 1, 1, (1, 0, 0, 0, 0)), (.aload_n 0, 1, (0, 0, 0, 0, 0)), (.getfield 57, 3, (11, 3, 2305, 0, 0)), (.if_icmp .lt 7, 3, (17, 0, 0, 0, 0)), (.iconst 1, 1, (0, 0, 0, 1, 0)), (.goto 4, 3, (18, 0, 0, 0, 0)), (.iconst 0, 1, (0, 0, 0, 0, 0)), (.putfield 46, 3, (11, 0, 2302, 0, 0)), (.aload_n 0, 1, (0, 0, 0, 0, 0)), (.getfield 46, 3, (11, 0, 2302, 0, 0)), (.ifCond .le 7, 3, (32, 0, 0, 0, 0)), (.iconst 0, 1, (0, 0, 0, 0, 0)), (.goto 13, 3, (42, 0, 0, 0, 0)), (.aload_n 0, 1, (0, 0, 0, 0, 0)), (.getfield 14, 3, (11, 4, 2306, 0, 0)), (.iload_n 1, 1, (1, 0, 0, 0, 0)), (.baload, 1, (0, 0, 0, 0, 0)), (.sipush 255, 3, (0, 0, 0, 255, 0)), (.iand, 1, (0, 0, 0, 0, 0)), (.ireturn, 1, (0, 0, 0, 0, 0))]
theorem ao_ZMMout : jokLG jtF lk_MM "ChessHouseModel" jcl jtb 2 prog_15_method_8_code 0 ak_ZMMout = true := by decide +kernel
noncomputable def zm_MMout : zM := (some .int, { frames := 0, cells := 0, slots := 0, locals := 0 }, ([], []), [], ak_ZMMout)
noncomputable def zc_MMout (vals : List zv) (W : zW) (post : zPo) : Prop := ∃ i : Int, vals = [.inr (.inr (some (.inl 87))), .inl (i)] ∧ (0 ≤ W.1 87 3 ∧ W.1 87 3 ≤ 65536) ∧ ∀ r : Int, ∀ V : zW, ((((i < 0 ∨ W.1 87 3 ≤ i) ∧ r = 0 ∧ V = zuF W 87 0 1) ∨ ((0 ≤ i ∧ i < W.1 87 3) ∧ V = zuF W 87 0 0))) → post (some (.inl r)) V
set_option maxRecDepth 8000 in
theorem zp_MMout_0 {n K : Nat} {W : zW} {post : zPo} {i : Int}  (hK : 19 ≤ K) (hn : 142 ≤ n) (h : (i < 0 → post (some (.inl (0))) (zuF W 87 0 1)) ∧ (¬ i < 0 → (i < (W.1 87 3) → (0 ≤ i ∧ i < 65536) ∧ post (some (.inl ((lI (W.2.1 89 i) &&& lI 255).toInt))) (zuF W 87 0 0)) ∧ (¬ i < (W.1 87 3) → post (some (.inl (0))) (zuF W 87 0 1)))) : zwp jtb zsh n zm_MMout post K (lGo ak_ZMMout 0) 0 [some (.inr (.inr (some (.inl 87)))), some (.inl (i))] [] W := by
  obtain ⟨kk__, rfl⟩ : ∃ kk__, K = kk__ + 19 := ⟨K - 19, by omega⟩
  exact (show (i < 0 → 87 < n ∧ 11 = 11 ∧ (some 0 : Option Nat) = some 0 ∧ ((0 : Nat) = 0 ∨ ((0 : Nat) = 1 ∧ ((1 : Int) = 0 ∨ (1 : Int) = 1))) ∧ 87 < n ∧ 11 = 11 ∧ ((1 : Int) ≤ 0 → zwp jtb zsh n zm_MMout post (kk__ + 10) (lGo ak_ZMMout 32) 32 [some (.inr (.inr (some (.inl 87)))), some (.inl (i))] [] (zuF W 87 0 1)) ∧ (¬ (1 : Int) ≤ 0 → 1 = 1 ∧ True ∧ post (some (.inl (0))) (zuF W 87 0 1))) ∧ (¬ i < 0 → 87 < n ∧ 11 = 11 ∧ (i < (W.1 87 3) → 87 < n ∧ 11 = 11 ∧ (some 0 : Option Nat) = some 0 ∧ ((0 : Nat) = 0 ∨ ((0 : Nat) = 1 ∧ ((0 : Int) = 0 ∨ (0 : Int) = 1))) ∧ 87 < n ∧ 11 = 11 ∧ ((0 : Int) ≤ 0 → 87 < n ∧ 11 = 11 ∧ 89 < n ∧ FieldType.byte = FieldType.byte ∧ (0 ≤ i ∧ i < 65536) ∧ 1 = 1 ∧ True ∧ post (some (.inl ((lI (W.2.1 89 i) &&& lI 255).toInt))) (zuF W 87 0 0)) ∧ (¬ (0 : Int) ≤ 0 → zwp jtb zsh n zm_MMout post (kk__ + 7) (lGo ak_ZMMout 28) 28 [some (.inr (.inr (some (.inl 87)))), some (.inl (i))] [] (zuF W 87 0 0))) ∧ (¬ i < (W.1 87 3) → 87 < n ∧ 11 = 11 ∧ (some 0 : Option Nat) = some 0 ∧ ((0 : Nat) = 0 ∨ ((0 : Nat) = 1 ∧ ((1 : Int) = 0 ∨ (1 : Int) = 1))) ∧ 87 < n ∧ 11 = 11 ∧ ((1 : Int) ≤ 0 → zwp jtb zsh n zm_MMout post (kk__ + 6) (lGo ak_ZMMout 32) 32 [some (.inr (.inr (some (.inl 87)))), some (.inl (i))] [] (zuF W 87 0 1)) ∧ (¬ (1 : Int) ≤ 0 → 1 = 1 ∧ True ∧ post (some (.inl (0))) (zuF W 87 0 1)))) from ⟨fun c2_2 => ⟨(Nat.lt_of_lt_of_le (by decide) hn), rfl, rfl, (Or.inl rfl), ⟨(Nat.lt_of_lt_of_le (by decide) hn), rfl, ⟨fun hc8 => absurd hc8 (by decide), fun _ => ⟨rfl, trivial, ((h).1 c2_2)⟩⟩⟩⟩, fun c2_2 => ⟨(Nat.lt_of_lt_of_le (by decide) hn), rfl, ⟨fun c10_6 => ⟨(Nat.lt_of_lt_of_le (by decide) hn), rfl, rfl, (Or.inl rfl), ⟨(Nat.lt_of_lt_of_le (by decide) hn), rfl, ⟨fun _ => ⟨(Nat.lt_of_lt_of_le (by decide) hn), rfl, ⟨(Nat.lt_of_lt_of_le (by decide) hn), rfl, (((((h).2 c2_2)).1 c10_6)).1, (have h := (((((h).2 c2_2)).1 c10_6)).2; ⟨rfl, trivial, h⟩)⟩⟩, fun hc11 => absurd hc11 (by decide)⟩⟩⟩, fun c10_6 => ⟨(Nat.lt_of_lt_of_le (by decide) hn), rfl, rfl, (Or.inl rfl), ⟨(Nat.lt_of_lt_of_le (by decide) hn), rfl, ⟨fun hc12 => absurd hc12 (by decide), fun _ => ⟨rfl, trivial, ((((h).2 c2_2)).2 c10_6)⟩⟩⟩⟩⟩⟩⟩)
theorem zk_MMout {l : Launch} {E : jE} {n : Nat} (hn : 142 ≤ n) : zHas l E jcl jtb lw_tbl zsh n (y_MM_out, false, 2, 11, { frames := 0, cells := 0, slots := 0, locals := 0 }, zc_MMout) := by
  refine ⟨⟨rfl, rfl, ⟨show 1 ≤ 2 by decide, m_MM_out, i_MM_out, e_MM_out, fun _ => ⟨_, rfl, rfl⟩⟩⟩, ?_⟩
  rintro vz W po hO hW ⟨i, rfl, hq, hp⟩
  refine zmet (m := zm_MMout) rfl (by decide) (fun _ _ => jtF_ok) lo_MM ao_ZMMout jC (fun q h => by cases h) (fun q h => by cases h) (fun q h => by cases h) (Nat.le_of_ble_eq_true rfl) hO hW (60) ?_
  exact zp_MMout_0 (by omega) hn ⟨fun c2 => (hp _ _ (by first | exact Or.inl ⟨by omega, rfl, rfl⟩ | exact Or.inr ⟨by omega, rfl⟩)), fun c2 => ⟨fun c10 => ⟨(by omega), (hp _ _ (by first | exact Or.inl ⟨by omega, rfl, rfl⟩ | exact Or.inr ⟨by omega, rfl⟩))⟩, fun c10 => (hp _ _ (by first | exact Or.inl ⟨by omega, rfl, rfl⟩ | exact Or.inr ⟨by omega, rfl⟩))⟩⟩
noncomputable def ak_ZCHout : List jI := [(.iload_n 1, 1, (1, 0, 0, 0, 0)), (.ifCond .lt 14, 3, (15, 0, 0, 0, 0)), (.iload_n 1, 1, (1, 0, 0, 0, 0)), (.aload_n 0, 1, (0, 0, 0, 0, 0)), (.getfield 20, 3, (0, 1, 814, 0, 0)), (.getfield 123, 3, (1, 1, 355, 0, 0)), (.if_icmp .lt 11, 3, (23, 0, 0, 0, 0)), (.new 126, 3, (0, 0, 0, 0, 0)), (.dup, 1, (0, 0, 0, 0, 0)), (.invokespecial 128, 3, (0, 0, 0, 0, 0)), (.athrow, 1, (0, 0, 0, 0, 0)), (.aload_n 0, 1, (0, 0, 0, 0, 0)), (.getfield 20, 3, (0, 1, 814, 0, 0)), (.getfield 129, 3, (1, 0, 352, 0, 0)), (.iload_n 1, 1, (1, 0, 0, 0, 0)), (.baload, 1, (0, 0, 0, 0, 0)), (.sipush 255, 3, (0, 0, 0, 255, 0)), (.iand, 1, (0, 0, 0, 0, 0)), (.ireturn, 1, (0, 0, 0, 0, 0))]
theorem ao_ZCHout : jokLG jtF lk_CH "ChessHouse" jcl jtb 2 prog_1_method_5_code 0 ak_ZCHout = true := by decide +kernel
noncomputable def zm_CHout : zM := (some .int, { frames := 0, cells := 0, slots := 0, locals := 0 }, ([], []), [], ak_ZCHout)
noncomputable def zc_CHout (vals : List zv) (W : zW) (post : zPo) : Prop := ∃ i : Int, vals = [.inr (.inr (some (.inl 0))), .inl (i)] ∧ ((0 ≤ i ∧ i < W.1 2 1) ∧ yBn 65536 2 W) ∧ ∀ r : Int, (True) → post (some (.inl r)) W
set_option maxRecDepth 8000 in
theorem zp_CHout_0 {n K : Nat} {W : zW} {post : zPo} {i : Int}  (hK : 15 ≤ K) (hn : 142 ≤ n) (h : (i < 0 → zwp jtb zsh n zm_CHout post (K - 2) (lGo ak_ZCHout 15) 15 [some (.inr (.inr (some (.inl 0)))), some (.inl (i))] [] W) ∧ (¬ i < 0 → (i < (W.1 2 1) → (0 ≤ i ∧ i < 65536) ∧ post (some (.inl ((lI (W.2.1 3 i) &&& lI 255).toInt))) W) ∧ (¬ i < (W.1 2 1) → zwp jtb zsh n zm_CHout post (K - 7) (lGo ak_ZCHout 15) 15 [some (.inr (.inr (some (.inl 0)))), some (.inl (i))] [] W))) : zwp jtb zsh n zm_CHout post K (lGo ak_ZCHout 0) 0 [some (.inr (.inr (some (.inl 0)))), some (.inl (i))] [] W := by
  obtain ⟨kk__, rfl⟩ : ∃ kk__, K = kk__ + 15 := ⟨K - 15, by omega⟩
  exact (show (i < 0 → zwp jtb zsh n zm_CHout post (kk__ + 13) (lGo ak_ZCHout 15) 15 [some (.inr (.inr (some (.inl 0)))), some (.inl (i))] [] W) ∧ (¬ i < 0 → 0 < n ∧ 0 = 0 ∧ 2 < n ∧ 1 = 1 ∧ (i < (W.1 2 1) → 0 < n ∧ 0 = 0 ∧ 2 < n ∧ 1 = 1 ∧ 3 < n ∧ FieldType.byte = FieldType.byte ∧ (0 ≤ i ∧ i < 65536) ∧ 1 = 1 ∧ True ∧ post (some (.inl ((lI (W.2.1 3 i) &&& lI 255).toInt))) W) ∧ (¬ i < (W.1 2 1) → zwp jtb zsh n zm_CHout post (kk__ + 8) (lGo ak_ZCHout 15) 15 [some (.inr (.inr (some (.inl 0)))), some (.inl (i))] [] W)) from ⟨fun c1_1 => ((h).1 c1_1), fun c1_1 => ⟨(Nat.lt_of_lt_of_le (by decide) hn), rfl, ⟨(Nat.lt_of_lt_of_le (by decide) hn), rfl, ⟨fun c12_6 => ⟨(Nat.lt_of_lt_of_le (by decide) hn), rfl, ⟨(Nat.lt_of_lt_of_le (by decide) hn), rfl, ⟨(Nat.lt_of_lt_of_le (by decide) hn), rfl, (((((h).2 c1_1)).1 c12_6)).1, (have h := (((((h).2 c1_1)).1 c12_6)).2; ⟨rfl, trivial, h⟩)⟩⟩⟩, fun c12_6 => ((((h).2 c1_1)).2 c12_6)⟩⟩⟩⟩)
theorem zk_CHout {l : Launch} {E : jE} {n : Nat} (hn : 142 ≤ n) : zHas l E jcl jtb lw_tbl zsh n (y_CH_out, false, 2, 0, { frames := 0, cells := 0, slots := 0, locals := 0 }, zc_CHout) := by
  refine ⟨⟨rfl, rfl, ⟨show 1 ≤ 2 by decide, m_CH_out, i_CH_out, e_CH_out, fun _ => ⟨_, rfl, rfl⟩⟩⟩, ?_⟩
  rintro vz W po hO hW ⟨i, rfl, hq, hp⟩
  refine zmet (m := zm_CHout) rfl (by decide) (fun _ _ => jtF_ok) lo_CH ao_ZCHout jC (fun q h => by cases h) (fun q h => by cases h) (fun q h => by cases h) (Nat.le_of_ble_eq_true rfl) hO hW (60) ?_
  have hb := hq.2
  exact zp_CHout_0 (by omega) hn ⟨fun c1 => (False.elim (by omega)), fun c1 => ⟨fun c12 => ⟨(by unfold yBn at hb; omega), (hp _ trivial)⟩, fun c12 => (False.elim (by omega))⟩⟩
noncomputable def ak_ZMMthr : List jI := [(.aload_n 0, 1, (0, 0, 0, 0, 0)), (.getfield 46, 3, (11, 0, 2302, 0, 0)), (.ireturn, 1, (0, 0, 0, 0, 0))]
theorem ao_ZMMthr : jokLG jtF lk_MM "ChessHouseModel" jcl jtb 1 prog_15_method_2_code 0 ak_ZMMthr = true := by decide +kernel
noncomputable def zm_MMthr : zM := (some .int, { frames := 0, cells := 0, slots := 0, locals := 0 }, ([], []), [], ak_ZMMthr)
noncomputable def zc_MMthr (vals : List zv) (W : zW) (post : zPo) : Prop := vals = [.inr (.inr (some (.inl 87)))] ∧ (True) ∧ ∀ r : Int, (r = W.1 87 0) → post (some (.inl r)) W
set_option maxRecDepth 8000 in
theorem zp_MMthr_0 {n K : Nat} {W : zW} {post : zPo}  (hK : 3 ≤ K) (hn : 142 ≤ n) (h : post (some (.inl (W.1 87 0))) W) : zwp jtb zsh n zm_MMthr post K (lGo ak_ZMMthr 0) 0 [some (.inr (.inr (some (.inl 87))))] [] W := by
  obtain ⟨kk__, rfl⟩ : ∃ kk__, K = kk__ + 3 := ⟨K - 3, by omega⟩
  exact (show 87 < n ∧ 11 = 11 ∧ 1 = 1 ∧ True ∧ post (some (.inl (W.1 87 0))) W from ⟨(Nat.lt_of_lt_of_le (by decide) hn), rfl, ⟨rfl, trivial, h⟩⟩)
theorem zk_MMthr {l : Launch} {E : jE} {n : Nat} (hn : 142 ≤ n) : zHas l E jcl jtb lw_tbl zsh n (y_MM_thrown, false, 1, 11, { frames := 0, cells := 0, slots := 0, locals := 0 }, zc_MMthr) := by
  refine ⟨⟨rfl, rfl, ⟨show 1 ≤ 1 by decide, m_MM_thrown, i_MM_thrown, e_MM_thrown, fun _ => ⟨_, rfl, rfl⟩⟩⟩, ?_⟩
  rintro vz W po hO hW ⟨rfl, hq, hp⟩
  refine zmet (m := zm_MMthr) rfl (by decide) (fun _ _ => jtF_ok) lo_MM ao_ZMMthr jC (fun q h => by cases h) (fun q h => by cases h) (fun q h => by cases h) (Nat.le_of_ble_eq_true rfl) hO hW (60) ?_
  exact zp_MMthr_0 (by omega) hn (hp _ rfl)
end
section
/-! the class where the reference alone has worked -/
theorem yCn_r {W V : zW} {g : Nat} {T : xT} {R : Int → Int} {h : Int} {G : xG} (hg : g = 33 ∨ g = 60) (c : yCn W g T R h G) (e : ∀ a, a < 87 → V.1 a = W.1 a ∧ V.2.1 a = W.2.1 a ∧ V.2.2.1 a = W.2.2.1 a) (eq : V.2.2.2.1 0 = W.2.2.2.1 0) : yCn V g T R h G := by
  obtain ⟨c1, c2, c3, c4, c5, c6⟩ := c
  have gb : g ≤ 60 := by omega
  refine ⟨?_, yWg_x c2 (e g (by omega)).1 (e (g + 1) (by omega)).1 (fun a ha => (e a ?_).2.1) (e (g + 17) (by omega)).2.2, yTg_x c3 (by rw [(e g (by omega)).1]) (e (g + 23) (by omega)).2.1 (e (g + 24) (by omega)).2.1 (e (g + 25) (by omega)).2.1 (e (g + 26) (by omega)).2.1, c4, ?_, ?_⟩
  · unfold yCq
    rw [eq]
    exact c1
  · simp only [List.mem_cons, List.not_mem_nil, or_false] at ha
    omega
  · unfold yBn
    rw [(e 2 (by omega)).1]
    exact c5
  · unfold ySp zBt zTw at c6 ⊢
    rcases hg with rfl | rfl
    · rw [(e (93 - 33 + 1 + 8) (by decide)).2.1, (e (93 - 33 + 1 + 9) (by decide)).2.1, (e (93 - 33 + 1 + 7) (by decide)).2.1, (e (93 - 33 + 19) (by decide)).2.1]
      exact c6
    · rw [(e (93 - 60 + 1 + 8) (by decide)).2.1, (e (93 - 60 + 1 + 9) (by decide)).2.1, (e (93 - 60 + 1 + 7) (by decide)).2.1, (e (93 - 60 + 19) (by decide)).2.1]
      exact c6
/-- what both ends answer -/
theorem wEnd_k {n n' n2 n2' : Nat} {W V W2 V2 : zW} {L : Nat} {nn : Int} {T : xT} {h : Int} {G G' : xG} {v v2 : Option zv} (he : ∀ i, 0 ≤ i → i < nn → W2.2.1 88 i = W.2.1 1 i) (hg : gGn G G') (p : yEpz n W L nn T h G n' v V) (p2 : wFz n2 W2 nn T h G' n2' v2 V2) : ∃ (f : Int) (L' g' : Nat) (T' : xT) (R' : Int → Int) (h' : Int) (G1 G2 : xG), v = some (.inl f) ∧ v2 = some (.inl f) ∧ gGn G1 G2 ∧ (g' = 33 ∨ g' = 60) ∧ yCn V g' T' R' h' G1 ∧ yNI n' V L' ∧ yNm n n' W V L L' ∧ V.1 0 12 = 0 ∧ yF87 W V ∧ zHe V2 T' h' ∧ zOg V2 ∧ wTn V2 (V2.1 90 5) G2 ∧ zVr V2 ∧ V2.1 87 0 = 0 ∧ V2.1 87 1 = 0 ∧ wFd n2 W2 V2 ∧ eWo n2' V2 ∧ eGn n2 n2' W2 V2 := by
  obtain ⟨f, L', g', T', R', h', G1, x, rfl, p3, p4, i, s⟩ := p
  obtain ⟨a1, a2, ⟨m, a3⟩, a4, a5, a6, a7, a8⟩ := s
  obtain ⟨f2, x2, m2, T2, h2, G2, rfl, q1, q2, q3, q4, q5, q6, q7, q8, q9, r1, r2⟩ := p2
  have k := wRl_a (c := zuI (W.2.1 1) nn 10) (c' := W2.2.1 88) (by rw [zuI_s]) (fun i i0 i1 => by rw [zuI_n (by omega)]; exact he i i0 i1) hg a3 q1 p4 q2
  obtain ⟨rfl, rfl, k3, rfl⟩ := k
  exact ⟨f2, L', g', T2, R', h2, G1, G2, rfl, rfl, k3, a1, a2, a7, a8, p3, a6, q3, q4, q5, q6, q7, q8, q9, r1, r2⟩
end
section
/-! the reference where the class alone has worked; feed -/
theorem zHe_7 {W V : zW} {T : xT} {h : Int} (f : yF87 W V) (hh : zHe W T h) : zHe V T h := by
  have e90 := (f 90 (by decide) (by decide)).1
  have r : ∀ a, 87 ≤ a → a < 142 → V.2.1 a = W.2.1 a := fun a h1 h2 => (f a h1 h2).2.1
  unfold zHe zRt zAt zQ zMk zMn zSt zSb zro at *
  rw [e90, r 93 (by decide) (by decide), r 94 (by decide) (by decide), r 95 (by decide) (by decide), r 96 (by decide) (by decide), r 97 (by decide) (by decide), r 98 (by decide) (by decide), r 102 (by decide) (by decide), r 103 (by decide) (by decide), r 110 (by decide) (by decide), r 113 (by decide) (by decide)]
  exact hh
theorem wTn_7 {W V : zW} {G : xG} (f : yF87 W V) (t : wTn W (W.1 90 5) G) : wTn V (V.1 90 5) G := by
  rw [(f 90 (by decide) (by decide)).1]
  exact wTn_e t (f 104 (by decide) (by decide)).2.1 (f 105 (by decide) (by decide)).2.1 (f 106 (by decide) (by decide)).2.1
theorem zVr_7 {W V : zW} (f : yF87 W V) (t : zVr W) : zVr V := by
  unfold zVr at *
  rw [(f 108 (by decide) (by decide)).2.1]
  exact t
theorem zOg_7 {W V : zW} (f : yF87 W V) (t : zOg W) : zOg V := zOg_e t (by rw [(f 87 (by decide) (by decide)).1])
/-- class and reference hold the same, but for what the endings have made -/
noncomputable def wLJ (W : zW) (T : xT) (h : Int) (G G' : xG) (g : Nat) (R : Int → Int) : Prop := (g = 33 ∨ g = 60) ∧ yCn W g T R h G ∧ gGn G G' ∧ zHe W T h ∧ zOg W ∧ wTn W (W.1 90 5) G' ∧ zVr W ∧ (0 ≤ W.1 0 12 ∧ W.1 0 12 ≤ 65536 ∧ W.1 87 1 = W.1 0 12) ∧ (∀ i, 0 ≤ i → i < W.1 0 12 → W.2.1 88 i = W.2.1 1 i) ∧ ∀ i, -128 ≤ W.2.1 88 i ∧ W.2.1 88 i ≤ 127
/-- small changes of the reference's own fields -/
theorem wLJ_r {W V : zW} {T : xT} {h : Int} {G G' : xG} {g : Nat} {R : Int → Int} (j : wLJ W T h G G' g R) (f : zFr [(87, 0)] [] W V) : wLJ V T h G G' g R := by
  obtain ⟨j1, j2, j3, j4, j5, j6, j7, j8, j9, j10⟩ := j
  refine ⟨j1, yCn_r j1 j2 (fun a ha => ⟨funext fun i => f.1 a i (by simp; omega), f.2.1 a List.not_mem_nil, by rw [f.2.2]⟩) (by rw [f.2.2]), j3, zHe_fr f (by decide) (by decide) j4, zOg_e j5 (zFr_f f 87 3), ?_, zVr_f f j7, ?_, ?_, ?_⟩
  · rw [zFr_f f 90 5]
    exact wTn_e j6 (zFr_r f 104) (zFr_r f 105) (zFr_r f 106)
  · rw [zFr_f f 0 12, zFr_f f 87 1]
    exact j8
  · rw [zFr_f f 0 12, zFr_r f 88, zFr_r f 1]
    exact j9
  · rw [zFr_r f 88]
    exact j10
/-- fed -/
theorem wLJ_f {W V U : zW} {T : xT} {h : Int} {G G' : xG} {g : Nat} {R : Int → Int} {a b c d e : Int} (j : wLJ W T h G G' g R) (hl : W.1 0 12 ≤ 65516) (f : zFr [(0, 12)] [1] W V) (f1 : V.1 0 12 = W.1 0 12 + 20) (f2 : V.2.1 1 = yL5 (W.2.1 1) (W.1 0 12) a b c d e) (k : zFr [(87, 0), (87, 1)] [88] V U) (k1 : U.1 87 1 = V.1 87 1 + 20) (k2 : U.2.1 88 = yL5 (V.2.1 88) (V.1 87 1) a b c d e) : wLJ U T h G G' g R := by
  obtain ⟨j1, j2, j3, j4, j5, j6, j7, j8, j9, j10⟩ := j
  have fk : zFr [(0, 12), (87, 0), (87, 1)] [1, 88] W U := zFr_t (zFr_w f (by decide) (by decide)) (zFr_w k (by decide) (by decide))
  have e1 : V.1 87 1 = W.1 0 12 := (zFr_f f 87 1).trans j8.2.2
  have e12 : U.1 0 12 = W.1 0 12 + 20 := (zFr_f k 0 12).trans f1
  have c1 : yCn V g T R h G := yCn_w j1 j2 (yFq_w (yFq_y (Qs := []) (zFr_x (Ls := []) f)) (by decide) (by decide) (by decide) (by decide)) (by unfold yBn; rw [zFr_f f 2 1]; exact j2.2.2.2.2.1)
  refine ⟨j1, yCn_r j1 c1 (fun a ha => ⟨funext fun i => k.1 a i (by simp; omega), k.2.1 a (by simp; omega), by rw [k.2.2]⟩) (by rw [k.2.2]), j3, zHe_fr fk (by decide) (by decide) j4, zOg_e j5 (zFr_f fk 87 3), ?_, zVr_f fk j7, ?_, ?_, ?_⟩
  · rw [zFr_f fk 90 5]
    exact wTn_e j6 (zFr_r fk 104) (zFr_r fk 105) (zFr_r fk 106)
  · rw [e12, k1, e1]
    omega
  · rw [e12, k2, e1, zFr_r f 88, zFr_r k 1, f2]
    exact yL5_k j9
  · rw [k2, e1, zFr_r f 88]
    exact yL5_b j10
end
section
/-! end, in class and reference, one behind the other -/
theorem yEpz_7 {n n' : Nat} {W V : zW} {L : Nat} {nn : Int} {T : xT} {h : Int} {G : xG} {v : Option zv} (p : yEpz n W L nn T h G n' v V) : yF87 W V := by
  obtain ⟨f, L', g', T', R', h', G1, x, e, p3, p4, i, s⟩ := p
  exact s.2.2.2.2.2.1
/-- what the reference's end asks stands behind the class's -/
theorem wLJ_e {n n' : Nat} {W V : zW} {L : Nat} {nn : Int} {T : xT} {h : Int} {G G' : xG} {g : Nat} {R : Int → Int} {v : Option zv} (j : wLJ W T h G G' g R) (p : yEpz n W L nn T h G n' v V) : zHe V T h ∧ zOg V ∧ wTn V (V.1 90 5) G' ∧ zVr V ∧ (∀ i, -128 ≤ V.2.1 88 i ∧ V.2.1 88 i ≤ 127) ∧ V.1 87 1 = W.1 0 12 := by
  obtain ⟨j1, j2, j3, j4, j5, j6, j7, j8, j9, j10⟩ := j
  have f := yEpz_7 p
  refine ⟨zHe_7 f j4, zOg_7 f j5, wTn_7 f j6, zVr_7 f j7, ?_, ?_⟩
  · rw [(f 88 (by decide) (by decide)).2.1]
    exact j10
  · rw [(f 87 (by decide) (by decide)).1]
    exact j8.2.2
/-- both answer the same, and hold the same -/
theorem wLJ_2 {n n' n2 : Nat} {W V V2 : zW} {L : Nat} {nn : Int} {T : xT} {h : Int} {G G' : xG} {g : Nat} {R : Int → Int} {v v2 : Option zv} (j : wLJ W T h G G' g R) (hb : nn ≤ W.1 0 12) (p : yEpz n W L nn T h G n' v V) (p2 : wFz n' V nn T h G' n2 v2 V2) : ∃ (f : Int) (L' g' : Nat) (T' : xT) (R' : Int → Int) (h' : Int) (G1 G2 : xG), v = some (.inl f) ∧ v2 = some (.inl f) ∧ wLJ V2 T' h' G1 G2 g' R' ∧ V2.1 87 0 = 0 ∧ yNI n' V L' ∧ yNm n n' W V L L' ∧ wFd n' V V2 ∧ eWo n2 V2 ∧ eGn n' n2 V V2 := by
  have j0 := j
  obtain ⟨j1, j2, j3, j4, j5, j6, j7, j8, j9, j10⟩ := j
  have f := yEpz_7 p
  have e88 := (f 88 (by decide) (by decide)).2.1
  obtain ⟨x, L', g', T', R', h', G1, G2, k1, k2, k3, k4, k5, k6, k7, k8, k9, l1, l2, l3, l4, l5, l6, l7, l8, l9⟩ := wEnd_k (W := W) (W2 := V) (fun i i0 i1 => by rw [e88]; exact j9 i i0 (by omega)) j3 p p2
  refine ⟨x, L', g', T', R', h', G1, G2, k1, k2, ⟨k4, yCn_r k4 k5 (fun a ha => ⟨(l7.1 a (Or.inl ha)).1, (l7.1 a (Or.inl ha)).2, by rw [l7.2.2.1]⟩) (funext fun i => l7.2.2.2.1 0 i (by simp)), k3, l1, l2, l3, l4, ?_, ?_, ?_⟩, l5, k6, k7, l7, l8, l9⟩
  · have e := (l7.1 0 (Or.inl (by decide))).1
    rw [e, k8, l6]
    exact ⟨Int.le_refl _, by decide, rfl⟩
  · intro i i0 i1
    have e := (l7.1 0 (Or.inl (by decide))).1
    rw [e, k8] at i1
    omega
  · rw [l7.2.1, e88]
    exact j10
end
section
/-! cells that both programs have made are apart -/
theorem eNd_l {n : Nat} {W : zW} {e : Nat} (d : eNd n W e) {a : Nat} (h1 : e ≤ a) (h2 : a < e + 5) {L : Nat} {u : Nat → Int32} : ¬ W.2.2.2.2 a = .inl (.byte, L, .inl u) ∧ (W.2.2.2.2 a = .inl (.int, L, .inl u) → L = 6 ∨ L = 64) := by
  obtain ⟨_, _, ⟨V, _, _, hV⟩, _⟩ := d
  have z := hV (a - e) (by omega)
  rw [show e + (a - e) = a by omega] at z
  have k : a - e = 0 ∨ a - e = 1 ∨ a - e = 2 ∨ a - e = 3 ∨ a - e = 4 := by omega
  rw [z]
  rcases k with k | k | k | k | k <;> rw [k] <;> refine ⟨fun q => ?_, fun q => ?_⟩
  all_goals first
    | (cases q; done)
    | (cases q; exact Or.inl rfl)
    | (cases q; exact Or.inr rfl)
theorem eWo_a {n : Nat} {W : zW} (h : eWo n W) {a L : Nat} {u : Nat → Int32} (c : W.2.2.2.2 a = .inl (.byte, L, .inl u) ∨ (W.2.2.2.2 a = .inl (.int, L, .inl u) ∧ ¬ L = 6 ∧ ¬ L = 64)) : ∀ e, W.2.2.2.1 87 7 = some (.inl e) → a < e ∨ e + 5 ≤ a := fun e he => by
  rcases h with h | ⟨e2, h⟩
  · rw [h] at he
    cases he
  · have e1 := h.1.symm.trans he
    obtain rfl : e2 = e := Sum.inl.inj (Option.some.inj e1)
    by_cases z : a < e2 ∨ e2 + 5 ≤ a
    · exact z
    · exfalso
      have k := eNd_l h (a := a) (by omega) (by omega) (L := L) (u := u)
      rcases c with c | ⟨c, c6, c64⟩
      · exact k.1 c
      · rcases k.2 c with y | y
        · exact c6 y
        · exact c64 y
/-- the class's tables behind the reference's end -/
theorem yNI_r {n n2 : Nat} {V V2 : zW} {L : Nat} (h : yNI n V L) (f : wFd n V V2) (o : eWo n V) (hn : n ≤ n2) : yNI n2 V2 L := by
  obtain ⟨h3, h4, h5, h7, hL, h8, h9, h10⟩ := h
  have er : ∀ i, V2.2.2.2.1 29 i = V.2.2.2.1 29 i := fun i => f.2.2.2.1 29 i (by simp)
  have k : ∀ fl M, yNl n V fl M → yNl n2 V2 fl M := fun fl M z => by
    unfold yNl at z ⊢
    rw [er]
    rcases z with z | ⟨a, u, z1, z2, z3, z4⟩
    · exact Or.inl z
    · exact Or.inr ⟨a, u, z1, ⟨z2.1, by omega⟩, (f.2.2.2.2 a z2.2 (fun e he => by have := eWo_a o (Or.inl z3) e he; omega)).trans z3, z4⟩
  refine ⟨k _ _ h3, k _ _ h4, k _ _ h5, ?_, hL, by rw [er, er]; exact h8, by rw [er, er, er]; exact h9, by rw [er]; exact h10⟩
  unfold yNq at h7 ⊢
  rw [er]
  rcases h7 with z | ⟨z0, a, u, z1, z2, z3⟩
  · exact Or.inl z
  · exact Or.inr ⟨z0, a, u, z1, ⟨z2.1, by omega⟩, (f.2.2.2.2 a z2.2 (fun e he => by have := eWo_a o (Or.inr ⟨z3, by omega, by omega⟩) e he; omega)).trans z3⟩
/-- the reference's endings behind the class's end -/
theorem eWo_c {n n' : Nat} {W V : zW} {L L' : Nat} (o : eWo n W) (h : yNI n W L) (m : yNm n n' W V L L') (f : yF87 W V) : eWo n' V := by
  have e7 : V.2.2.2.1 87 7 = W.2.2.2.1 87 7 := by rw [(f 87 (by decide) (by decide)).2.2.2]
  have hn := m.1.1
  have o0 := o
  rcases o with o | ⟨e, d1, d2, ⟨U, u1, u2, u3⟩, d4⟩
  · exact Or.inl (e7.trans o)
  · have d29 : ∀ a, e ≤ a → a < e + 5 → ¬ W.2.2.2.1 29 7 = some (.inl a) := fun a z1 z2 z3 => by
      rcases h.2.2.2.1 with ⟨-, q⟩ | ⟨q0, b, u, q1, q2, q3⟩
      · rw [q] at z3
        have : 31 = a := Sum.inl.inj (Option.some.inj z3)
        omega
      · rw [q1] at z3
        obtain rfl : b = a := Sum.inl.inj (Option.some.inj z3)
        have hL := h.2.2.2.2.1
        have := eWo_a o0 (Or.inr ⟨q3, by omega, by omega⟩) e d1
        omega
    refine Or.inr ⟨e, e7.trans d1, ⟨d2.1, by omega⟩, ⟨U, u1, u2, fun k hk => ?_⟩, fun a a1 a2 => ?_⟩
    · exact (m.2.2.2.2 (e + k) (by omega) (by omega) (d29 _ (by omega) (by omega))).1.trans (u3 k hk)
    · by_cases c : a < n
      · by_cases c7 : W.2.2.2.1 29 7 = some (.inl a)
        · rcases h.2.2.2.1 with ⟨-, q⟩ | ⟨q0, b, u, q1, q2, q3⟩
          · rw [q] at c7
            have : 31 = a := Sum.inl.inj (Option.some.inj c7)
            omega
          · rw [q1] at c7
            obtain rfl : b = a := Sum.inl.inj (Option.some.inj c7)
            have g : gAr (zlW zsh W b) := by
              have e0 : zlW zsh W b = W.2.2.2.2 b := by
                unfold zlW
                rw [zsh_n (by omega)]
                rfl
              rw [e0, q3]
              exact ⟨_, _, _, rfl, by decide⟩
            obtain ⟨ty, mm, gg, g1, -⟩ := (m.2.2.2.1 b c).2 g
            have e0 : zlW zsh V b = V.2.2.2.2 b := by
              unfold zlW
              rw [zsh_n (by omega)]
              rfl
            rw [e0] at g1
            exact ⟨_, g1⟩
        · rw [(m.2.2.2.2 a (by omega) c c7).1]
          exact d4 a a1 c
      · obtain ⟨ty, mm, gg, g1, -⟩ := m.1.2.2.1 a (by omega) a2
        have e0 : zlW zsh V a = V.2.2.2.2 a := by
          unfold zlW
          rw [zsh_n (by omega)]
          rfl
        rw [e0] at g1
        exact ⟨_, g1⟩
end
section
/-! between two calls of the law -/
end
section
/-! throws of the class (out of p2's part ch22) -/
section JFX
variable {E : jE} {own : String} {Ts : List Jvm.Cond} {cl : List vw_C} {tb : jTb} {nL : Nat} {ini : Bool} {cc : ByteArray} {M : jM} {Q : State → Prop} {n : Nat}
theorem jf_iadd (X : jX E own Ts cl tb nL ini cc M) {pc : Nat} (hd : decode cc pc = .ok (.iadd, 1)) {lv : List (Option jv)} {r : List jv} {σ : Nat → jcell} {x y : Int32} (k : jF E cl nL M Q n (pc + 1) lv (.inl (x + y) :: r) σ) : jF E cl nL M Q n pc lv (.inl y :: .inl x :: r) σ := by
  obtain ⟨hx, hb, -⟩ := X
  exact fun ls hW hL => lv_iadd (x := x) (y := y) hx hb hd (k ls hW hL)
theorem jf_bipush (X : jX E own Ts cl tb nL ini cc M) {pc : Nat} {i : Int} {v : Int32} (hd : decode cc pc = .ok (.bipush i, 2)) (hv : (Int8.ofInt i).toInt32 = v) {lv : List (Option jv)} {r : List jv} {σ : Nat → jcell} (k : jF E cl nL M Q n (pc + 2) lv (.inl v :: r) σ) : jF E cl nL M Q n pc lv r σ := by
  obtain ⟨hx, hb, -⟩ := X
  exact fun ls hW hL => lv_bipush hx hb hd hv (k ls hW hL)
theorem jf_ldc (X : jX E own Ts cl tb nL ini cc M) {pc i wi : Nat} {v : Int32} (hd : decode cc pc = .ok (.ldc i, 2)) (hw : Ts[wi]? = some (Jvm.Cond.constant own i v)) {lv : List (Option jv)} {r : List jv} {σ : Nat → jcell} (k : jF E cl nL M Q n (pc + 2) lv (.inl v :: r) σ) : jF E cl nL M Q n pc lv r σ := by
  obtain ⟨hx, hb, -, ho, hts, -⟩ := X
  exact fun ls hW hL => lv_ldc hx hb ho (hts _ (jTA_in hw rfl)) hd (k ls hW hL)
end JFX
theorem tw_uoe : jTw lw_tbl "ChessHouse" 95 "java/lang/UnsupportedOperationException" ["java/lang/RuntimeException", "java/lang/Exception"] := jTw_of [317, 893, 902, 906, 909, 911, 894, 895, 340, 341, 896, 901, 907, 923, 883, 924, 885, 925, 887, 897, 899, 889, 913, 914, 915, 916, 916, 917, 918, 919, 919, 920, 921, 894, 912, 872, 880, 881, 882, 884, 886, 888, 892, 891, 890] (by decide +kernel) (by decide +kernel)
set_option maxRecDepth 100000 in
set_option maxHeartbeats 4000000 in
theorem ct_CH_end (l : Launch) (E : jE) {σ : Nat → jcell} {n ch : Nat} {fs : List jv} (hlt : l.stackTraces = false) (hc : ch < n) (hs : σ ch = .inr (0, fs)) {fd q : Int32} (hf : fs[12]? = some (.inl fd)) (hq : q < 0 ∨ ¬ q ≤ fd) : jMetT l E jcl jtb lw_tbl y_CH_end { frames := 6, cells := 1, slots := 6, locals := 81 } [.inr (.inr (some (.inl ch))), .inl q] σ n "java/lang/IllegalArgumentException" := by
  refine jMetT_of (hY := rfl) (by decide) (Nat.le_of_ble_eq_true rfl) [some (.inr (.inr (some (.inl ch)))), some (.inl q), none, none, none] rfl ?_
  intro M hl hR X hTh hex
  have thr : jF E jcl 5 M (jQT E jcl M "java/lang/IllegalArgumentException" σ n) n 12 [some (.inr (.inr (some (.inl ch)))), some (.inl q), none, none, none] [] σ := jf_thr0 X hR (by rw [hl]; exact hlt) hTh hex d_CH_end_12 (by decide +kernel) d_CH_end_16 d_CH_end_19 (jTA_in (wi := 946) (jtF_ok rfl) rfl) (jTA_in (wi := 947) (jtF_ok rfl) rfl) (jTA_in (wi := 321) (jtF_ok rfl) rfl) (by decide +kernel) (by decide +kernel) tw_iae (by decide)
  refine jf_iload_n X (i := 1) (by decide +kernel) rfl ?_
  refine jf_iflt X (tg := 12) (z := 11) (by decide +kernel) rfl (fun _ => thr) (fun h0 => ?_)
  refine jf_iload_n X (i := 1) (by decide +kernel) rfl ?_
  refine jf_aload_n X (i := 0) (by decide +kernel) rfl ?_
  refine jf_get jC X (ci := 0) (f := 12) (i := 89) (wi := 825) (by decide +kernel) rfl (by decide) (by decide +kernel) hc hs hf ?_
  exact jf_icle X (tg := 20) (z := 11) (by decide +kernel) rfl (fun h1 => (hq.elim (fun h9 => absurd h9 h0) (fun h9 => absurd h1 h9))) (fun _ => thr)
set_option maxRecDepth 100000 in
set_option maxHeartbeats 4000000 in
theorem ct_CH_out (l : Launch) (E : jE) {σ : Nat → jcell} {n ch : Nat} {fs : List jv} (hlt : l.stackTraces = false) (hc : ch < n) (hs : σ ch = .inr (0, fs)) {b : Nat} {fb : List jv} {ln q : Int32} (h1 : fs[1]? = some (.inr (.inr (some (.inl b))))) (hb : b < n) (hbs : σ b = .inr (1, fb)) (hln : fb[1]? = some (.inl ln)) (hq : q < 0 ∨ ¬ q < ln) : jMetT l E jcl jtb lw_tbl y_CH_out { frames := 6, cells := 1, slots := 6, locals := 81 } [.inr (.inr (some (.inl ch))), .inl q] σ n "java/lang/IndexOutOfBoundsException" := by
  refine jMetT_of (hY := rfl) (by decide) (Nat.le_of_ble_eq_true rfl) [some (.inr (.inr (some (.inl ch)))), some (.inl q)] rfl ?_
  intro M hl hR X hTh hex
  have thr : jF E jcl 2 M (jQT E jcl M "java/lang/IndexOutOfBoundsException" σ n) n 15 [some (.inr (.inr (some (.inl ch)))), some (.inl q)] [] σ := jf_thr0 X hR (by rw [hl]; exact hlt) hTh hex d_CH_out_15 (by decide +kernel) d_CH_out_19 d_CH_out_22 (jTA_in (wi := 1886) (jtF_ok rfl) rfl) (jTA_in (wi := 1887) (jtF_ok rfl) rfl) (jTA_in (wi := 333) (jtF_ok rfl) rfl) (by decide +kernel) (by decide +kernel) tw_iob (by decide)
  refine jf_iload_n X (i := 1) (by decide +kernel) rfl ?_
  refine jf_iflt X (tg := 15) (z := 14) (by decide +kernel) rfl (fun _ => thr) (fun h0 => ?_)
  refine jf_iload_n X (i := 1) (by decide +kernel) rfl ?_
  refine jf_aload_n X (i := 0) (by decide +kernel) rfl ?_
  refine jf_get jC X (ci := 0) (f := 1) (i := 20) (wi := 814) (by decide +kernel) rfl (by decide) (by decide +kernel) hc hs h1 ?_
  refine jf_get jC X (ci := 1) (f := 1) (i := 123) (wi := 355) (by decide +kernel) rfl (by decide) (by decide +kernel) hb hbs hln ?_
  exact jf_iclt X (tg := 23) (z := 11) (by decide +kernel) rfl (fun h2 => (hq.elim (fun h9 => absurd h9 h0) (fun h9 => absurd h2 h9))) (fun _ => thr)
set_option maxRecDepth 100000 in
set_option maxHeartbeats 4000000 in
theorem ct_CH_feed (l : Launch) (E : jE) {σ : Nat → jcell} {n ch : Nat} {fs : List jv} (hlt : l.stackTraces = false) (hc : ch < n) (hs : σ ch = .inr (0, fs)) {fd v0 v1 v2 v3 v4 : Int32} (hf : fs[12]? = some (.inl fd)) (hq : ¬ fd + 20 ≤ 65536) : jMetT l E jcl jtb lw_tbl y_CH_feed { frames := 6, cells := 1, slots := 6, locals := 81 } [.inr (.inr (some (.inl ch))), .inl v0, .inl v1, .inl v2, .inl v3, .inl v4] σ n "java/lang/UnsupportedOperationException" := by
  refine jMetT_of (hY := rfl) (by decide) (Nat.le_of_ble_eq_true rfl) [some (.inr (.inr (some (.inl ch)))), some (.inl v0), some (.inl v1), some (.inl v2), some (.inl v3), some (.inl v4)] rfl ?_
  intro M hl hR X hTh hex
  have thr : jF E jcl 6 M (jQT E jcl M "java/lang/UnsupportedOperationException" σ n) n 12 [some (.inr (.inr (some (.inl ch)))), some (.inl v0), some (.inl v1), some (.inl v2), some (.inl v3), some (.inl v4)] [] σ := jf_thr0 X hR (by rw [hl]; exact hlt) hTh hex d_CH_feed_12 (by decide +kernel) d_CH_feed_16 d_CH_feed_19 (jTA_in (wi := 871) (jtF_ok rfl) rfl) (jTA_in (wi := 872) (jtF_ok rfl) rfl) (jTA_in (wi := 320) (jtF_ok rfl) rfl) (by decide +kernel) (by decide +kernel) tw_uoe (by decide)
  refine jf_aload_n X (i := 0) (by decide +kernel) rfl ?_
  refine jf_get jC X (ci := 0) (f := 12) (i := 89) (wi := 825) (by decide +kernel) rfl (by decide) (by decide +kernel) hc hs hf ?_
  refine jf_bipush X (i := 20) (v := 20) (by decide +kernel) (by decide) ?_
  refine jf_iadd X (by decide +kernel) ?_
  refine jf_ldc X (i := 16) (wi := 345) (v := 65536) (by decide +kernel) (jtF_ok rfl) ?_
  exact jf_icle X (tg := 20) (z := 11) (by decide +kernel) rfl (fun h1 => absurd h1 hq) (fun _ => thr)
set_option maxRecDepth 100000 in
set_option maxHeartbeats 4000000 in
theorem cw_feedT (l : Launch) (E : jE) {K : Nat → Nat} {σ : Nat → jcell} {n ch en : Nat} {fs : List jv} {fd v0 v1 v2 v3 v4 : Int32} (hlt : l.stackTraces = false) (hc : ch < n) (hs : σ ch = .inr (0, fs)) (hf : fs[12]? = some (.inl fd)) (hq : ¬ fd + 20 ≤ 65536) : jMetW l E jcl jtb lw_tbl y_LA_feed [(0, 11, 14, 13)] { frames := 8, cells := 1, slots := 6, locals := 140 } [.inr (.inr (some (.inl ch))), .inl v0, .inl v1, .inl v2, .inl v3, .inl v4] σ n (fun r σ' n' => r = some (.inl 1) ∧ n' = n + 1 ∧ σ' = jup σ n jun) := by
  refine jMetW_of (hY := rfl) (by decide) (Nat.le_of_ble_eq_true rfl) [some (.inr (.inr (some (.inl ch)))), some (.inl v0), some (.inl v1), some (.inl v2), some (.inl v3), some (.inl v4), none] rfl ?_
  intro M hl hR X hr hTh hex
  refine jrun_ok jC X k_LA_feed_0 0 _ _ _ o_LA_feed_0 ?_
  simp only [k_LA_feed_0, jrun, jstep, jldi, jldl, jlda, j1, j2, jl1, jl2, jli, ja1, jbr, jald, jast, jlald, jlast, jalen, jget, jput, jfit, jdup, jdupx, jdupx2, jdup2, jcat, jset1, jset2, jkill, List.getElem?_cons_zero, List.getElem?_cons_succ, List.set_cons_zero, List.set_cons_succ, List.length_cons, List.length_nil, Nat.reduceAdd, Nat.reduceLT, Int32.reduceToNatClampNeg, true_and, and_true, and_self, reduceCtorEq, not_false_eq_true, false_and, and_false, or_false, false_or, true_or, or_true]
  refine jk_VT X hR hTh d_LA_feed_8 (jTA_in (wi := 867) (jtF_ok rfl) rfl) m_CH_feed i_CH_feed e_CH_feed (ci := 0) rfl rfl hc hs (ct_CH_feed M.2.1 E (by rw [hl]; exact hlt) hc hs hf hq) rfl rfl (by decide) (by decide) (Nat.le_of_ble_eq_true rfl) _ (jtab1 hex) (by decide) (by decide) (jTA_in (wi := 866) (jtF_ok rfl) rfl) (by simp [jTx, jtw]) ?_
  refine jrun_ok jC X k_LA_feed_14 14 _ _ _ o_LA_feed_14 ?_
  simp only [k_LA_feed_14, jrun, jstep, jldi, jldl, jlda, j1, j2, jl1, jl2, jli, ja1, jbr, jald, jast, jlald, jlast, jalen, jget, jput, jfit, jdup, jdupx, jdupx2, jdup2, jcat, jset1, jset2, jkill, List.getElem?_cons_zero, List.getElem?_cons_succ, List.set_cons_zero, List.set_cons_succ, List.length_cons, List.length_nil, Nat.reduceAdd, Nat.reduceLT, Int32.reduceToNatClampNeg, true_and, and_true, and_self, reduceCtorEq, not_false_eq_true, false_and, and_false, or_false, false_or, true_or, or_true]
  exact jk_iret X d_LA_feed_17 hr rfl (Nat.le_refl _) (Nat.le_refl _) ⟨rfl, rfl, rfl⟩
set_option maxRecDepth 100000 in
set_option maxHeartbeats 4000000 in
theorem cw_endT (l : Launch) (E : jE) {K : Nat → Nat} {σ : Nat → jcell} {n ch en : Nat} {fs : List jv} {fd q : Int32} {o : Nat} (hlt : l.stackTraces = false) (hc : ch < n) (hs : σ ch = .inr (0, fs)) (hf : fs[12]? = some (.inl fd)) (hq : q < 0 ∨ ¬ q ≤ fd) : jMetW l E jcl jtb lw_tbl y_LA_end [(0, 9, 12, 19)] { frames := 8, cells := 1, slots := 6, locals := 140 } [.inr (.inr (some (.inl ch))), .inl q, .inr (.inr (some (.inl o)))] σ n (fun r σ' n' => r = some (.inl 1) ∧ n' = n + 1 ∧ σ' = jup σ n jun) := by
  refine jMetW_of (hY := rfl) (by decide) (Nat.le_of_ble_eq_true rfl) [some (.inr (.inr (some (.inl ch)))), some (.inl q), some (.inr (.inr (some (.inl o)))), none] rfl ?_
  intro M hl hR X hr hTh hex
  refine jrun_ok jC X k_LA_end_0 0 _ _ _ o_LA_end_0 ?_
  simp only [k_LA_end_0, jrun, jstep, jldi, jldl, jlda, j1, j2, jl1, jl2, jli, ja1, jbr, jald, jast, jlald, jlast, jalen, jget, jput, jfit, jdup, jdupx, jdupx2, jdup2, jcat, jset1, jset2, jkill, List.getElem?_cons_zero, List.getElem?_cons_succ, List.set_cons_zero, List.set_cons_succ, List.length_cons, List.length_nil, Nat.reduceAdd, Nat.reduceLT, Int32.reduceToNatClampNeg, true_and, and_true, and_self, reduceCtorEq, not_false_eq_true, false_and, and_false, or_false, false_or, true_or, or_true]
  refine jk_VT X hR hTh d_LA_end_4 (jTA_in (wi := 942) (jtF_ok rfl) rfl) m_CH_end i_CH_end e_CH_end (ci := 0) rfl rfl hc hs (ct_CH_end M.2.1 E (by rw [hl]; exact hlt) hc hs hf hq) rfl rfl (by decide) (by decide) (Nat.le_of_ble_eq_true rfl) _ (jtab1 hex) (by decide) (by decide) (jTA_in (wi := 941) (jtF_ok rfl) rfl) (by simp [jTx, jtw]) ?_
  refine jrun_ok jC X k_LA_end_12 12 _ _ _ o_LA_end_12 ?_
  simp only [k_LA_end_12, jrun, jstep, jldi, jldl, jlda, j1, j2, jl1, jl2, jli, ja1, jbr, jald, jast, jlald, jlast, jalen, jget, jput, jfit, jdup, jdupx, jdupx2, jdup2, jcat, jset1, jset2, jkill, List.getElem?_cons_zero, List.getElem?_cons_succ, List.set_cons_zero, List.set_cons_succ, List.length_cons, List.length_nil, Nat.reduceAdd, Nat.reduceLT, Int32.reduceToNatClampNeg, true_and, and_true, and_self, reduceCtorEq, not_false_eq_true, false_and, and_false, or_false, false_or, true_or, or_true]
  exact jk_iret X d_LA_end_14 hr rfl (Nat.le_refl _) (Nat.le_refl _) ⟨rfl, rfl, rfl⟩
set_option maxRecDepth 100000 in
set_option maxHeartbeats 4000000 in
theorem cw_outT (l : Launch) (E : jE) {K : Nat → Nat} {σ : Nat → jcell} {n ch en : Nat} {fs : List jv} {b : Nat} {fb : List jv} {ln q : Int32} {o : Nat} (hlt : l.stackTraces = false) (hc : ch < n) (hs : σ ch = .inr (0, fs)) (h1 : fs[1]? = some (.inr (.inr (some (.inl b))))) (hb : b < n) (hbs : σ b = .inr (1, fb)) (hln : fb[1]? = some (.inl ln)) (hq : q < 0 ∨ ¬ q < ln) : jMetW l E jcl jtb lw_tbl y_LA_out [(0, 9, 12, 24)] { frames := 8, cells := 1, slots := 6, locals := 140 } [.inr (.inr (some (.inl ch))), .inl q, .inr (.inr (some (.inl o)))] σ n (fun r σ' n' => r = some (.inl 1) ∧ n' = n + 1 ∧ σ' = jup σ n jun) := by
  refine jMetW_of (hY := rfl) (by decide) (Nat.le_of_ble_eq_true rfl) [some (.inr (.inr (some (.inl ch)))), some (.inl q), some (.inr (.inr (some (.inl o)))), none] rfl ?_
  intro M hl hR X hr hTh hex
  refine jrun_ok jC X k_LA_out_0 0 _ _ _ o_LA_out_0 ?_
  simp only [k_LA_out_0, jrun, jstep, jldi, jldl, jlda, j1, j2, jl1, jl2, jli, ja1, jbr, jald, jast, jlald, jlast, jalen, jget, jput, jfit, jdup, jdupx, jdupx2, jdup2, jcat, jset1, jset2, jkill, List.getElem?_cons_zero, List.getElem?_cons_succ, List.set_cons_zero, List.set_cons_succ, List.length_cons, List.length_nil, Nat.reduceAdd, Nat.reduceLT, Int32.reduceToNatClampNeg, true_and, and_true, and_self, reduceCtorEq, not_false_eq_true, false_and, and_false, or_false, false_or, true_or, or_true]
  refine jk_VT X hR hTh d_LA_out_4 (jTA_in (wi := 1882) (jtF_ok rfl) rfl) m_CH_out i_CH_out e_CH_out (ci := 0) rfl rfl hc hs (ct_CH_out M.2.1 E (by rw [hl]; exact hlt) hc hs h1 hb hbs hln hq) rfl rfl (by decide) (by decide) (Nat.le_of_ble_eq_true rfl) _ (jtab1 hex) (by decide) (by decide) (jTA_in (wi := 1881) (jtF_ok rfl) rfl) (by simp [jTx, jtw]) ?_
  refine jrun_ok jC X k_LA_out_12 12 _ _ _ o_LA_out_12 ?_
  simp only [k_LA_out_12, jrun, jstep, jldi, jldl, jlda, j1, j2, jl1, jl2, jli, ja1, jbr, jald, jast, jlald, jlast, jalen, jget, jput, jfit, jdup, jdupx, jdupx2, jdup2, jcat, jset1, jset2, jkill, List.getElem?_cons_zero, List.getElem?_cons_succ, List.set_cons_zero, List.set_cons_succ, List.length_cons, List.length_nil, Nat.reduceAdd, Nat.reduceLT, Int32.reduceToNatClampNeg, true_and, and_true, and_self, reduceCtorEq, not_false_eq_true, false_and, and_false, or_false, false_or, true_or, or_true]
  exact jk_iret X d_LA_out_14 hr rfl (Nat.le_refl _) (Nat.le_refl _) ⟨rfl, rfl, rfl⟩
/-! a static method with an exception table, that may make cells -/
section BWD
variable {l : Launch} {R : Room} {p : Program} {e : Env} {below : List Frame} {s : State} {sargs : Array Value} {y : MethodName} {len W : Nat}
theorem va_backWD {ws : List Cond} {rm : Room} {Pc : Array Value → State → Prop} {Qc : Array Value → State → Outcome → State → Prop} {mc ms : Nat} {free : Addr → Prop} {bytes : ByteArray} {maxL : Nat} {ret : Option FieldType} {hh : List (Nat × Nat × Nat × Nat)}
    (hM : Met l y ws rm Pc Qc mc ms free) (hblind : FrameBlind Pc) (hrc : rm.cells = mc) (hrs : rm.slots = ms)
    (hframes : rm.frames + 1 ≤ R.frames) (hlocals : W + (maxL + 11) + rm.locals ≤ R.locals)
    (hws : ∀ w ∈ ws, ∀ a' U, s.WarmedH U.vm → w.before a' U = true) (hcode : Cond.codeWith y bytes maxL ret hh ∈ ws) (hinit : ∀ a' U, s.WarmedH U.vm → (Cond.initialized y.cls).before a' U = true) :
    Back l R p e below s sargs y len W (PreOf R mc ms Pc) (PostOfD Qc mc ms free) := by
  refine va_ofFreeW (hh := hh) (S := headSpec ws rm) (P := Pc) (K := fun _ _ _ _ _ => True) (Q := fun a st o t => Qc a st o t ∧ ∃ L, FrameEnd st o t L mc ms ∧ ∀ q ∈ L, free q.base) (bytes := bytes) (maxL := maxL) (ret := ret)
    (E := fun a st o t L k n => k ≤ mc ∧ n ≤ ms ∧ (t.heap.size = st.heap.size → k = 0 ∧ n = 0) ∧ ∀ q ∈ L, free q.base) hM hframes hlocals ?_ ?_ (fun _ _ _ _ _ _ _ _ _ => trivial) ?_ ?_
  · intro m meth c A a X hp
    exact ⟨atoms_intro fun w hw => hws w hw _ _ X.warmed, hws _ hcode _ _ X.warmed, hinit _ _ X.warmed, by rw [show (headSpec ws rm).room.cells = mc from hrc]; exact hp.1, by rw [show (headSpec ws rm).room.slots = ms from hrs]; exact hp.2.1⟩
  · intro m meth c A a g mk X hp
    exact hblind _ _ _ _ hp.2.2
  · intro a st o t ⟨hq, L, hF, hL⟩
    by_cases hs : t.heap.size = st.heap.size
    · exact ⟨L, 0, 0, gr_end0 hF hs, Nat.zero_le _, Nat.zero_le _, fun _ => ⟨rfl, rfl⟩, hL⟩
    · exact ⟨L, mc, ms, hF, Nat.le_refl _, Nat.le_refl _, fun h => absurd h hs, hL⟩
  · intro m meth c A a g mk v t L k n X hp hq hF ⟨e1, e2, e3, hL⟩
    exact ⟨g, mk, t, L, k, n, rfl, rfl, hq.1, rfl, hL, rfl, rfl, e1, e2, e3⟩
end BWD
section JSD
variable {E : jE} {own : String} {Ts : List Jvm.Cond} {cl : List vw_C} {tb : jTb} {nL : Nat} {ini : Bool} {cc : ByteArray} {M : jM} {Q : State → Prop} {n cells slots : Nat}
theorem jk_SWD (X : jX E own Ts cl tb nL ini cc M) {rm rc : Room} (hR : M.2.2.2.1 = rm) (hTh : jTh E M.2.2.2.2.1) {pc i k : Nat} {Y : jY} {hh : List (Nat × Nat × Nat × Nat)} (hd : decode cc pc = .ok (.invokestatic i, 3)) (hw : Jvm.Cond.methodLink own i Y.1 ∈ jTA Ts) (hco : Jvm.Cond.codeWith Y.1 Y.2.1 Y.2.2.1 Y.2.2.2 hh ∈ jTA Ts) (hini : Jvm.Cond.initialized Y.1.cls ∈ jTA Ts) (hne : Y.1.cls ≠ "java/lang/invoke/MethodHandle" ∧ Y.1.cls ≠ "java/lang/invoke/VarHandle") (hpa : (parseMethodDescriptor Y.1.desc).map (fun d => d.parameters.length) = some k) (hst : Jvm.Cond.static Y.1 ∈ jTA Ts) {lv : List (Option jv)} {r vals : List jv} {σ : Nat → jcell} {post : jPo} (hM : jMetW M.2.1 E cl tb Ts Y hh rc vals σ n post) {st : List jv} (hs : st = vals.reverse ++ r) (hk : vals.length = k)
    (hf : rc.frames + 1 ≤ rm.frames ∧ 8 + (Y.2.2.1 + 11) + rc.locals ≤ rm.locals) (hc : cells + rc.cells ≤ rm.cells ∧ slots + rc.slots ≤ rm.slots) (hz : (r.map jcat).sum ≤ 8)
    (kk : ∀ (v : Option jv) (σ' : Nat → jcell) (n' : Nat), post v σ' n' → (n' = n → jJ E cl nL M Q n' cells slots (pc + 3) lv (v.toList ++ r) σ') ∧ (¬ n' = n → jJ E cl nL M Q n' (cells + rc.cells) (slots + rc.slots) (pc + 3) lv (v.toList ++ r) σ')) : jJ E cl nL M Q n cells slots pc lv st σ := by
  subst hs
  obtain ⟨p, l, e, R, s, m, args, below, meth, c⟩ := M
  dsimp only at hR hTh hM
  subst hR
  obtain ⟨hx, hb, hml, ho, hts, hK, -, -⟩ := X
  dsimp only at hx hb hml ho hts hK
  intro H locs ls hW hS hL
  dsimp only at hS ⊢
  have hgood : GoodIn (jTA Ts) (jwsW Ts Y hh) := by
    intro w hw9
    rcases List.mem_cons.mp hw9 with rfl | hw9
    · exact ⟨hco, jgood_or (List.mem_filter.mp hco).2⟩
    · exact ⟨hw9, jgood_or (List.mem_filter.mp hw9).2⟩
  have hstk : ((vals.reverse ++ r).map (jc E)) = (vals.map (jc E)).reverse ++ r.map (jc E) := by rw [List.map_append, List.map_reverse]
  have hgo : ∀ (v : Option jv) (σ' : Nat → jcell) (n' : Nat), post v σ' n' → ∀ (k j : Nat), k ≤ rc.cells → j ≤ rc.slots → (n' = n → k = 0 ∧ j = 0) → ∀ (H1 : Heap) (locs1 : List Loc), jW E cl σ' n' H1 → va_S (jA E) s.heap H1 locs1 → W p l e R s m args below meth c H1 locs1 (cells + k) (slots + j) Q (F0 m (pc + 3) ls ((v.map (jc E)).toList ++ r.map (jc E))) := by
    intro v σ' n' hp k9 j9 hk9 hj9 hz9 H1 locs1 hW1 hS1
    have e1 : (v.toList ++ r).map (jc E) = (v.map (jc E)).toList ++ r.map (jc E) := by cases v <;> simp
    obtain ⟨ka, kb⟩ := kk v σ' n' hp
    by_cases hn9 : n' = n
    · obtain ⟨rfl, rfl⟩ := hz9 hn9
      have h := ka hn9 H1 locs1 ls hW1 hS1 hL
      rw [e1] at h
      exact h
    · have h := kb hn9 H1 locs1 ls hW1 hS1 hL
      rw [e1] at h
      exact W.widen (Nat.add_le_add_left hk9 _) (Nat.add_le_add_left hj9 _) h
  have hBk : Back l R p e below s args Y.1 3 8 (PreOf R rc.cells rc.slots (jPt E cl tb Ts vals σ n)) (PostOfD (jQc E cl post) rc.cells rc.slots (jA E)) := va_backWD (hh := hh) (bytes := Y.2.1) (maxL := Y.2.2.1) (ret := Y.2.2.2) hM jPt_blind rfl rfl hf.1 hf.2 (pay_in hts hgood) List.mem_cons_self (fun a' U hW9 => word_at hW9 (Or.inl (by first | rfl | simp [Jvm.Cond.onTables, Jvm.Cond.keeps, Jvm.Cond.steady])) (hts _ hini))
  obtain ⟨mk, methM, cM, hnamed, hmethM, -, -, -, -, -, -, hsigM⟩ := Cond.codeWith_spec (hts _ hco)
  have hstatic : methM.isStatic = true := Cond.static_spec hnamed hmethM (hts _ hst)
  obtain ⟨kP, hkP, -⟩ := className_of_methodNamed hnamed
  have hinitP : kP.init = .initialized := Cond.initialized_spec (findClass_of_methodNamed hnamed) hkP (hts _ hini)
  have hln : (vals.map (jc E)).length = methM.sig.parameters.length := by
    rw [hsigM] at hpa
    rw [List.length_map, hk]
    exact (Option.some.inj hpa).symm
  have hrun : va_RunD p l e R s m args below meth c H locs cells slots rc.cells rc.slots (F0 m pc ls ((vals.reverse ++ r).map (jc E))) (r.map (jc E)) (jQc E cl post (vals.map (jc E)).toArray) (jA E) := by
    intro T hT Xs
    obtain ⟨vm₁, X₁, hstep₁⟩ := Xs.invokestatic hx ho (hts _ hw) hnamed hmethM hstatic hkP hinitP hne (g := F0 m pc ls ((vals.reverse ++ r).map (jc E))) rfl (argsL := vals.map (jc E)) (rest := r.map (jc E)) hln hstk (by rw [hb]; exact hd)
    obtain ⟨v, ⟨U', l2, c2, s2⟩, X', ⟨g', mk', t, L, k9, j9, e1, e2, hq, h1, hL9, h2, h3, h4, h5, h6⟩, hsteps⟩ := hBk m meth c ⟨T.setVm vm₁, locs, cells, slots⟩ { F0 m pc ls ((vals.reverse ++ r).map (jc E)) with stack := r.map (jc E) } (.invokestatic i) mk (vals.map (jc E)).toArray X₁ rfl (hL.1.trans hml.symm) (by rw [hb]; exact hd)
      (lv_room (by rw [jcat_sum]; exact hz)) (X₁.named hnamed) ⟨hc.1, hc.2, ⟨rfl, by show jW E cl σ n T.heap; rw [hT]; exact hW, jK_go hK hS (U := T.setVm vm₁) hT X₁.warmed⟩, jTh_go hTh hS (U := T.setVm vm₁) hT X₁.warmed⟩
    dsimp only [Pt.U, Pt.locs, Pt.cells, Pt.slots] at X' e1 e2 h1 h2 h3 h6 hsteps
    subst h1; subst h2; subst h3
    have h0 : ((T.setVm vm₁).calling g' mk' (vals.map (jc E)).toArray).heap = H := hT
    rw [h0] at h6
    exact ⟨v, (T.setVm vm₁).calling g' mk' (vals.map (jc E)).toArray, t, U', L, k9, j9, h0, X', hL9, e1, e2, hq, h4, h5, h6, fun target h => hstep₁ _ fun acts => by rw [doInvoke_state]; exact hsteps.trans h⟩
  exact jk_afterD hrun hS hW hgo
end JSD
end
