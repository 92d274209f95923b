section
/-! the reference, Texts: does a man go there -/
noncomputable def ak_ZMTcas : List jI := [(.iconst 4, 1, (0, 0, 0, 4, 0)), (.bipush 56, 2, (0, 0, 0, 56, 0)), (.aload_n 0, 1, (0, 0, 0, 0, 0)), (.getfield 122, 3, (12, 25, 2057, 0, 0)), (.imul, 1, (0, 0, 0, 0, 0)), (.iadd, 1, (0, 0, 0, 0, 0)), (.istore_n 2, 1, (2, 0, 0, 0, 0)), (.iload_n 1, 1, (1, 0, 0, 0, 0)), (.iload_n 2, 1, (2, 0, 0, 0, 0)), (.if_icmp .le 7, 3, (19, 0, 0, 0, 0)), (.iconst 1, 1, (0, 0, 0, 1, 0)), (.goto 4, 3, (20, 0, 0, 0, 0)), (.iconst 0, 1, (0, 0, 0, 0, 0)), (.istore_n 3, 1, (3, 0, 0, 0, 0)), (.aload_n 0, 1, (0, 0, 0, 0, 0)), (.getfield 125, 3, (12, 26, 2059, 0, 0)), (.iconst 2, 1, (0, 0, 0, 2, 0)), (.aload_n 0, 1, (0, 0, 0, 0, 0)), (.getfield 122, 3, (12, 25, 2057, 0, 0)), (.imul, 1, (0, 0, 0, 0, 0)), (.iload_n 3, 1, (3, 0, 0, 0, 0)), (.ifCond .eq 7, 3, (39, 0, 0, 0, 0)), (.iconst 0, 1, (0, 0, 0, 0, 0)), (.goto 4, 3, (40, 0, 0, 0, 0)), (.iconst 1, 1, (0, 0, 0, 1, 0)), (.iadd, 1, (0, 0, 0, 0, 0)), (.ishr, 1, (0, 0, 0, 0, 0)), (.iconst 1, 1, (0, 0, 0, 1, 0)), (.iand, 1, (0, 0, 0, 0, 0)), (.iconst 1, 1, (0, 0, 0, 1, 0)), (.if_icmp .ne 7, 3, (52, 0, 0, 0, 0)), (.iconst 1, 1, (0, 0, 0, 1, 0)), (.goto 4, 3, (53, 0, 0, 0, 0)), (.iconst 0, 1, (0, 0, 0, 0, 0)), (.istore 4, 2, (4, 0, 0, 0, 0)), (.iload_n 3, 1, (3, 0, 0, 0, 0)), (.ifCond .eq 16, 3, (72, 0, 0, 0, 0)), (.aload_n 0, 1, (0, 0, 0, 0, 0)), (.iload_n 2, 1, (2, 0, 0, 0, 0)), (.iconst 1, 1, (0, 0, 0, 1, 0)), (.iadd, 1, (0, 0, 0, 0, 0)), (.iload_n 2, 1, (2, 0, 0, 0, 0)), (.iconst 2, 1, (0, 0, 0, 2, 0)), (.iadd, 1, (0, 0, 0, 0, 0)), (.invokevirtual 159, 3, (0, 0, 1978, 0, 0)), (.goto 13, 3, (82, 0, 0, 0, 0)), (.aload_n 0, 1, (0, 0, 0, 0, 0)), (.iload_n 2, 1, (2, 0, 0, 0, 0)), (.iconst 3, 1, (0, 0, 0, 3, 0)), (.isub, 1, (0, 0, 0, 0, 0)), (.iload_n 2, 1, (2, 0, 0, 0, 0)), (.iconst 1, 1, (0, 0, 0, 1, 0)), (.isub, 1, (0, 0, 0, 0, 0)), (.invokevirtual 159, 3, (0, 0, 1978, 0, 0)), (.istore 5, 2, (5, 0, 0, 0, 0)), (.iload 4, 2, (4, 0, 0, 0, 0)), (.ifCond .eq 44, 3, (130, 0, 0, 0, 0)), (.iload 5, 2, (5, 0, 0, 0, 0)), (.ifCond .eq 39, 3, (130, 0, 0, 0, 0)), (.aload_n 0, 1, (0, 0, 0, 0, 0)), (.iload_n 2, 1, (2, 0, 0, 0, 0)), (.iconst 1, 1, (0, 0, 0, 1, 0)), (.aload_n 0, 1, (0, 0, 0, 0, 0)), (.getfield 122, 3, (12, 25, 2057, 0, 0)), (.isub, 1, (0, 0, 0, 0, 0)), (.invokevirtual 119, 3, (1, 0, 1982, 0, 0)), (.ifCond .ne 25, 3, (130, 0, 0, 0, 0)), (.aload_n 0, 1, (0, 0, 0, 0, 0)), (.iload_n 2, 1, (2, 0, 0, 0, 0)), (.iload_n 1, 1, (1, 0, 0, 0, 0)), (.iadd, 1, (0, 0, 0, 0, 0)), (.iconst 2, 1, (0, 0, 0, 2, 0)), (.idiv, 1, (0, 0, 0, 0, 0)), (.iconst 1, 1, (0, 0, 0, 1, 0)), (.aload_n 0, 1, (0, 0, 0, 0, 0)), (.getfield 122, 3, (12, 25, 2057, 0, 0)), (.isub, 1, (0, 0, 0, 0, 0)), (.invokevirtual 119, 3, (1, 0, 1982, 0, 0)), (.ifCond .ne 7, 3, (130, 0, 0, 0, 0)), (.iconst 1, 1, (0, 0, 0, 1, 0)), (.goto 4, 3, (131, 0, 0, 0, 0)), (.iconst 0, 1, (0, 0, 0, 0, 0)), (.ireturn, 1, (0, 0, 0, 0, 0))]
theorem ao_ZMTcas : jokLG jtF lk_MT "ChessHouseModel$Texts" jcl jtb 6 prog_18_method_18_code 0 ak_ZMTcas = true := by decide +kernel
noncomputable def zm_MTcas : zM := (some .boolean, { frames := 3, cells := 0, slots := 0, locals := 77 }, ([(159, 1978, 0), (119, 1982, 1)], []), [(y_MT_isClear, false, 3, 12, { frames := 0, cells := 0, slots := 0, locals := 0 }, zc_MTclear), (y_MT_isAttacked, false, 3, 12, { frames := 2, cells := 0, slots := 0, locals := 48 }, zc_MTatt)], ak_ZMTcas)
noncomputable def zc_MTcas (vals : List zv) (W : zW) (post : zPo) : Prop := ∃ t : Int, vals = [.inr (.inr (some (.inl 90))), .inl (t)] ∧ (rGd (zQ W) ∧ zMk W ∧ (0 ≤ W.1 90 26 ∧ W.1 90 26 ≤ 15) ∧ (zMn W) (56 * W.1 90 25 + 4) = 8 * W.1 90 25 + 6 ∧ (t = 56 * W.1 90 25 + 6 ∨ t = 56 * W.1 90 25 + 2)) ∧ ∀ r : Int, (xBl r ((rCa (zQ W) 1 ∧ t = 56 * W.1 90 25 + 4 + 2) ∨ (rCa (zQ W) 0 ∧ t = 56 * W.1 90 25 + 4 - 2))) → post (some (.inl r)) W
set_option maxRecDepth 8000 in
theorem zp_MTcas_0 {n K : Nat} {W : zW} {post : zPo} {t : Int} {u2 u3 u4 u5 : Option zv} (hK : 71 ≤ K) (hn : 142 ≤ n) (h : (-2147483648 ≤ 56 * (W.1 90 25) ∧ 56 * (W.1 90 25) ≤ 2147483647) ∧ (-2147483648 ≤ 4 + (56 * (W.1 90 25)) ∧ 4 + (56 * (W.1 90 25)) ≤ 2147483647) ∧ (t ≤ (4 + (56 * (W.1 90 25))) → (-2147483648 ≤ 2 * (W.1 90 25) ∧ 2 * (W.1 90 25) ≤ 2147483647) ∧ (-2147483648 ≤ (2 * (W.1 90 25)) + 1 ∧ (2 * (W.1 90 25)) + 1 ≤ 2147483647) ∧ ((-2147483648 ≤ (W.1 90 26) ∧ (W.1 90 26) ≤ 2147483647) ∧ 0 ≤ ((2 * (W.1 90 25)) + 1) ∧ ((2 * (W.1 90 25)) + 1) ≤ 31) ∧ ∀ t0 : Int, t0 = (W.1 90 26) / 2 ^ ((2 * (W.1 90 25)) + 1).toNat → (0 ≤ t0 ∧ t0 ≤ 2147483647) ∧ ∀ t1 : Int, t1 = t0 % 2 → (¬ t1 = 1 → (-2147483648 ≤ (4 + (56 * (W.1 90 25))) - 3 ∧ (4 + (56 * (W.1 90 25))) - 3 ≤ 2147483647) ∧ (-2147483648 ≤ (4 + (56 * (W.1 90 25))) - 1 ∧ (4 + (56 * (W.1 90 25))) - 1 ≤ 2147483647) ∧ (0 ≤ ((4 + (56 * (W.1 90 25))) - 3) ∧ ((4 + (56 * (W.1 90 25))) - 3) ≤ ((4 + (56 * (W.1 90 25))) - 1) ∧ ((4 + (56 * (W.1 90 25))) - 1) ≤ 63) ∧ ∀ r79 : Int, (xBl r79 (∀ j, ((4 + (56 * (W.1 90 25))) - 3) ≤ j → j < ((4 + (56 * (W.1 90 25))) - 1) + 1 → zMn W j = 0)) → post (some (.inl (0))) W) ∧ (t1 = 1 → (-2147483648 ≤ (4 + (56 * (W.1 90 25))) - 3 ∧ (4 + (56 * (W.1 90 25))) - 3 ≤ 2147483647) ∧ (-2147483648 ≤ (4 + (56 * (W.1 90 25))) - 1 ∧ (4 + (56 * (W.1 90 25))) - 1 ≤ 2147483647) ∧ (0 ≤ ((4 + (56 * (W.1 90 25))) - 3) ∧ ((4 + (56 * (W.1 90 25))) - 3) ≤ ((4 + (56 * (W.1 90 25))) - 1) ∧ ((4 + (56 * (W.1 90 25))) - 1) ≤ 63) ∧ ∀ r79 : Int, (xBl r79 (∀ j, ((4 + (56 * (W.1 90 25))) - 3) ≤ j → j < ((4 + (56 * (W.1 90 25))) - 1) + 1 → zMn W j = 0)) → (r79 = 0 → post (some (.inl (0))) W) ∧ (¬ r79 = 0 → (-2147483648 ≤ 1 - (W.1 90 25) ∧ 1 - (W.1 90 25) ≤ 2147483647) ∧ ((0 ≤ (4 + (56 * (W.1 90 25))) ∧ (4 + (56 * (W.1 90 25))) ≤ 63) ∧ (0 ≤ (1 - (W.1 90 25)) ∧ (1 - (W.1 90 25)) ≤ 1)) ∧ ∀ r102 : Int, (xBl r102 (rAk (zMn W) (4 + (56 * (W.1 90 25))) (1 - (W.1 90 25)))) → (¬ r102 = 0 → post (some (.inl (0))) W) ∧ (r102 = 0 → (-2147483648 ≤ (4 + (56 * (W.1 90 25))) + t ∧ (4 + (56 * (W.1 90 25))) + t ≤ 2147483647) ∧ (0 ≤ ((4 + (56 * (W.1 90 25))) + t) ∧ ((4 + (56 * (W.1 90 25))) + t) ≤ 2147483647) ∧ ∀ t2 : Int, t2 = ((4 + (56 * (W.1 90 25))) + t) / 2 → (-2147483648 ≤ 1 - (W.1 90 25) ∧ 1 - (W.1 90 25) ≤ 2147483647) ∧ ((0 ≤ t2 ∧ t2 ≤ 63) ∧ (0 ≤ (1 - (W.1 90 25)) ∧ (1 - (W.1 90 25)) ≤ 1)) ∧ ∀ r120 : Int, (xBl r120 (rAk (zMn W) t2 (1 - (W.1 90 25)))) → (¬ r120 = 0 → post (some (.inl (0))) W) ∧ (r120 = 0 → post (some (.inl (1))) W))))) ∧ (¬ t ≤ (4 + (56 * (W.1 90 25))) → (-2147483648 ≤ 2 * (W.1 90 25) ∧ 2 * (W.1 90 25) ≤ 2147483647) ∧ (-2147483648 ≤ (2 * (W.1 90 25)) + 0 ∧ (2 * (W.1 90 25)) + 0 ≤ 2147483647) ∧ ((-2147483648 ≤ (W.1 90 26) ∧ (W.1 90 26) ≤ 2147483647) ∧ 0 ≤ ((2 * (W.1 90 25)) + 0) ∧ ((2 * (W.1 90 25)) + 0) ≤ 31) ∧ ∀ t3 : Int, t3 = (W.1 90 26) / 2 ^ ((2 * (W.1 90 25)) + 0).toNat → (0 ≤ t3 ∧ t3 ≤ 2147483647) ∧ ∀ t4 : Int, t4 = t3 % 2 → (¬ t4 = 1 → (-2147483648 ≤ (4 + (56 * (W.1 90 25))) + 1 ∧ (4 + (56 * (W.1 90 25))) + 1 ≤ 2147483647) ∧ (-2147483648 ≤ (4 + (56 * (W.1 90 25))) + 2 ∧ (4 + (56 * (W.1 90 25))) + 2 ≤ 2147483647) ∧ (0 ≤ ((4 + (56 * (W.1 90 25))) + 1) ∧ ((4 + (56 * (W.1 90 25))) + 1) ≤ ((4 + (56 * (W.1 90 25))) + 2) ∧ ((4 + (56 * (W.1 90 25))) + 2) ≤ 63) ∧ ∀ r66 : Int, (xBl r66 (∀ j, ((4 + (56 * (W.1 90 25))) + 1) ≤ j → j < ((4 + (56 * (W.1 90 25))) + 2) + 1 → zMn W j = 0)) → post (some (.inl (0))) W) ∧ (t4 = 1 → (-2147483648 ≤ (4 + (56 * (W.1 90 25))) + 1 ∧ (4 + (56 * (W.1 90 25))) + 1 ≤ 2147483647) ∧ (-2147483648 ≤ (4 + (56 * (W.1 90 25))) + 2 ∧ (4 + (56 * (W.1 90 25))) + 2 ≤ 2147483647) ∧ (0 ≤ ((4 + (56 * (W.1 90 25))) + 1) ∧ ((4 + (56 * (W.1 90 25))) + 1) ≤ ((4 + (56 * (W.1 90 25))) + 2) ∧ ((4 + (56 * (W.1 90 25))) + 2) ≤ 63) ∧ ∀ r66 : Int, (xBl r66 (∀ j, ((4 + (56 * (W.1 90 25))) + 1) ≤ j → j < ((4 + (56 * (W.1 90 25))) + 2) + 1 → zMn W j = 0)) → (r66 = 0 → post (some (.inl (0))) W) ∧ (¬ r66 = 0 → (-2147483648 ≤ 1 - (W.1 90 25) ∧ 1 - (W.1 90 25) ≤ 2147483647) ∧ ((0 ≤ (4 + (56 * (W.1 90 25))) ∧ (4 + (56 * (W.1 90 25))) ≤ 63) ∧ (0 ≤ (1 - (W.1 90 25)) ∧ (1 - (W.1 90 25)) ≤ 1)) ∧ ∀ r102 : Int, (xBl r102 (rAk (zMn W) (4 + (56 * (W.1 90 25))) (1 - (W.1 90 25)))) → (¬ r102 = 0 → post (some (.inl (0))) W) ∧ (r102 = 0 → (-2147483648 ≤ (4 + (56 * (W.1 90 25))) + t ∧ (4 + (56 * (W.1 90 25))) + t ≤ 2147483647) ∧ (0 ≤ ((4 + (56 * (W.1 90 25))) + t) ∧ ((4 + (56 * (W.1 90 25))) + t) ≤ 2147483647) ∧ ∀ t5 : Int, t5 = ((4 + (56 * (W.1 90 25))) + t) / 2 → (-2147483648 ≤ 1 - (W.1 90 25) ∧ 1 - (W.1 90 25) ≤ 2147483647) ∧ ((0 ≤ t5 ∧ t5 ≤ 63) ∧ (0 ≤ (1 - (W.1 90 25)) ∧ (1 - (W.1 90 25)) ≤ 1)) ∧ ∀ r120 : Int, (xBl r120 (rAk (zMn W) t5 (1 - (W.1 90 25)))) → (¬ r120 = 0 → post (some (.inl (0))) W) ∧ (r120 = 0 → post (some (.inl (1))) W)))))) : zwp jtb zsh n zm_MTcas post K (lGo ak_ZMTcas 0) 0 [some (.inr (.inr (some (.inl 90)))), some (.inl (t)), u2, u3, u4, u5] [] W := by
  obtain ⟨kk__, rfl⟩ : ∃ kk__, K = kk__ + 71 := ⟨K - 71, by omega⟩
  exact (show 90 < n ∧ 12 = 12 ∧ (-2147483648 ≤ 56 * (W.1 90 25) ∧ 56 * (W.1 90 25) ≤ 2147483647) ∧ (-2147483648 ≤ 4 + (56 * (W.1 90 25)) ∧ 4 + (56 * (W.1 90 25)) ≤ 2147483647) ∧ (t ≤ (4 + (56 * (W.1 90 25))) → 90 < n ∧ 12 = 12 ∧ 90 < n ∧ 12 = 12 ∧ (-2147483648 ≤ 2 * (W.1 90 25) ∧ 2 * (W.1 90 25) ≤ 2147483647) ∧ ((0 : Int) = 0 → (-2147483648 ≤ (2 * (W.1 90 25)) + 1 ∧ (2 * (W.1 90 25)) + 1 ≤ 2147483647) ∧ (¬ ((lI ((lI (W.1 90 26) >>> (lI ((2 * (W.1 90 25)) + 1) &&& 31)).toInt) &&& lI 1).toInt) = 1 → ((0 : Int) = 0 → (-2147483648 ≤ (4 + (56 * (W.1 90 25))) - 3 ∧ (4 + (56 * (W.1 90 25))) - 3 ≤ 2147483647) ∧ (-2147483648 ≤ (4 + (56 * (W.1 90 25))) - 1 ∧ (4 + (56 * (W.1 90 25))) - 1 ≤ 2147483647) ∧ 3 = 3 ∧ false = false ∧ jin3 159 1978 0 zm_MTcas.2.2.1.1 = true ∧ lRm zm_MTcas.2.1 { frames := 0, cells := 0, slots := 0, locals := 0 } 5 = true ∧ Nat.ble 3 3 = true ∧ Nat.ble 0 8 = true ∧ 90 < n ∧ 12 = 12 ∧ Nat.ble 1000 12 = false ∧ zc_MTclear [.inr (.inr (some (.inl 90))), .inl ((4 + (56 * (W.1 90 25))) - 3), .inl ((4 + (56 * (W.1 90 25))) - 1)] W (fun vv__ WW__ => zwp jtb zsh n zm_MTcas post (kk__ + 32) (lGo ak_ZMTcas 82) 82 [some (.inr (.inr (some (.inl 90)))), some (.inl (t)), some (.inl (4 + (56 * (W.1 90 25)))), some (.inl (0)), some (.inl (0)), u5] (vv__.toList ++ []) WW__)) ∧ (¬ (0 : Int) = 0 → zwp jtb zsh n zm_MTcas post (kk__ + 40) (lGo ak_ZMTcas 59) 59 [some (.inr (.inr (some (.inl 90)))), some (.inl (t)), some (.inl (4 + (56 * (W.1 90 25)))), some (.inl (0)), some (.inl (0)), u5] [] W)) ∧ (((lI ((lI (W.1 90 26) >>> (lI ((2 * (W.1 90 25)) + 1) &&& 31)).toInt) &&& lI 1).toInt) = 1 → ((0 : Int) = 0 → (-2147483648 ≤ (4 + (56 * (W.1 90 25))) - 3 ∧ (4 + (56 * (W.1 90 25))) - 3 ≤ 2147483647) ∧ (-2147483648 ≤ (4 + (56 * (W.1 90 25))) - 1 ∧ (4 + (56 * (W.1 90 25))) - 1 ≤ 2147483647) ∧ 3 = 3 ∧ false = false ∧ jin3 159 1978 0 zm_MTcas.2.2.1.1 = true ∧ lRm zm_MTcas.2.1 { frames := 0, cells := 0, slots := 0, locals := 0 } 5 = true ∧ Nat.ble 3 3 = true ∧ Nat.ble 0 8 = true ∧ 90 < n ∧ 12 = 12 ∧ Nat.ble 1000 12 = false ∧ zc_MTclear [.inr (.inr (some (.inl 90))), .inl ((4 + (56 * (W.1 90 25))) - 3), .inl ((4 + (56 * (W.1 90 25))) - 1)] W (fun vv__ WW__ => zwp jtb zsh n zm_MTcas post (kk__ + 31) (lGo ak_ZMTcas 82) 82 [some (.inr (.inr (some (.inl 90)))), some (.inl (t)), some (.inl (4 + (56 * (W.1 90 25)))), some (.inl (0)), some (.inl (1)), u5] (vv__.toList ++ []) WW__)) ∧ (¬ (0 : Int) = 0 → zwp jtb zsh n zm_MTcas post (kk__ + 39) (lGo ak_ZMTcas 59) 59 [some (.inr (.inr (some (.inl 90)))), some (.inl (t)), some (.inl (4 + (56 * (W.1 90 25)))), some (.inl (0)), some (.inl (1)), u5] [] W))) ∧ (¬ (0 : Int) = 0 → zwp jtb zsh n zm_MTcas post (kk__ + 51) (lGo ak_ZMTcas 35) 35 [some (.inr (.inr (some (.inl 90)))), some (.inl (t)), some (.inl (4 + (56 * (W.1 90 25)))), some (.inl (0)), u4, u5] [.inl (2 * (W.1 90 25)), .inl (W.1 90 26)] W)) ∧ (¬ t ≤ (4 + (56 * (W.1 90 25))) → 90 < n ∧ 12 = 12 ∧ 90 < n ∧ 12 = 12 ∧ (-2147483648 ≤ 2 * (W.1 90 25) ∧ 2 * (W.1 90 25) ≤ 2147483647) ∧ ((1 : Int) = 0 → zwp jtb zsh n zm_MTcas post (kk__ + 50) (lGo ak_ZMTcas 39) 39 [some (.inr (.inr (some (.inl 90)))), some (.inl (t)), some (.inl (4 + (56 * (W.1 90 25)))), some (.inl (1)), u4, u5] [.inl (2 * (W.1 90 25)), .inl (W.1 90 26)] W) ∧ (¬ (1 : Int) = 0 → (-2147483648 ≤ (2 * (W.1 90 25)) + 0 ∧ (2 * (W.1 90 25)) + 0 ≤ 2147483647) ∧ (¬ ((lI ((lI (W.1 90 26) >>> (lI ((2 * (W.1 90 25)) + 0) &&& 31)).toInt) &&& lI 1).toInt) = 1 → ((1 : Int) = 0 → zwp jtb zsh n zm_MTcas post (kk__ + 38) (lGo ak_ZMTcas 72) 72 [some (.inr (.inr (some (.inl 90)))), some (.inl (t)), some (.inl (4 + (56 * (W.1 90 25)))), some (.inl (1)), some (.inl (0)), u5] [] W) ∧ (¬ (1 : Int) = 0 → (-2147483648 ≤ (4 + (56 * (W.1 90 25))) + 1 ∧ (4 + (56 * (W.1 90 25))) + 1 ≤ 2147483647) ∧ (-2147483648 ≤ (4 + (56 * (W.1 90 25))) + 2 ∧ (4 + (56 * (W.1 90 25))) + 2 ≤ 2147483647) ∧ 3 = 3 ∧ false = false ∧ jin3 159 1978 0 zm_MTcas.2.2.1.1 = true ∧ lRm zm_MTcas.2.1 { frames := 0, cells := 0, slots := 0, locals := 0 } 5 = true ∧ Nat.ble 3 3 = true ∧ Nat.ble 0 8 = true ∧ 90 < n ∧ 12 = 12 ∧ Nat.ble 1000 12 = false ∧ zc_MTclear [.inr (.inr (some (.inl 90))), .inl ((4 + (56 * (W.1 90 25))) + 1), .inl ((4 + (56 * (W.1 90 25))) + 2)] W (fun vv__ WW__ => zwp jtb zsh n zm_MTcas post (kk__ + 30) (lGo ak_ZMTcas 69) 69 [some (.inr (.inr (some (.inl 90)))), some (.inl (t)), some (.inl (4 + (56 * (W.1 90 25)))), some (.inl (1)), some (.inl (0)), u5] (vv__.toList ++ []) WW__))) ∧ (((lI ((lI (W.1 90 26) >>> (lI ((2 * (W.1 90 25)) + 0) &&& 31)).toInt) &&& lI 1).toInt) = 1 → ((1 : Int) = 0 → zwp jtb zsh n zm_MTcas post (kk__ + 37) (lGo ak_ZMTcas 72) 72 [some (.inr (.inr (some (.inl 90)))), some (.inl (t)), some (.inl (4 + (56 * (W.1 90 25)))), some (.inl (1)), some (.inl (1)), u5] [] W) ∧ (¬ (1 : Int) = 0 → (-2147483648 ≤ (4 + (56 * (W.1 90 25))) + 1 ∧ (4 + (56 * (W.1 90 25))) + 1 ≤ 2147483647) ∧ (-2147483648 ≤ (4 + (56 * (W.1 90 25))) + 2 ∧ (4 + (56 * (W.1 90 25))) + 2 ≤ 2147483647) ∧ 3 = 3 ∧ false = false ∧ jin3 159 1978 0 zm_MTcas.2.2.1.1 = true ∧ lRm zm_MTcas.2.1 { frames := 0, cells := 0, slots := 0, locals := 0 } 5 = true ∧ Nat.ble 3 3 = true ∧ Nat.ble 0 8 = true ∧ 90 < n ∧ 12 = 12 ∧ Nat.ble 1000 12 = false ∧ zc_MTclear [.inr (.inr (some (.inl 90))), .inl ((4 + (56 * (W.1 90 25))) + 1), .inl ((4 + (56 * (W.1 90 25))) + 2)] W (fun vv__ WW__ => zwp jtb zsh n zm_MTcas post (kk__ + 29) (lGo ak_ZMTcas 69) 69 [some (.inr (.inr (some (.inl 90)))), some (.inl (t)), some (.inl (4 + (56 * (W.1 90 25)))), some (.inl (1)), some (.inl (1)), u5] (vv__.toList ++ []) WW__))))) from ⟨(Nat.lt_of_lt_of_le (by decide) hn), rfl, ⟨(h).1, ⟨((h).2).1, ⟨fun c12_9 => ⟨(Nat.lt_of_lt_of_le (by decide) hn), rfl, ⟨(Nat.lt_of_lt_of_le (by decide) hn), rfl, ⟨(((((h).2).2).1 c12_9)).1, (have h := (((((h).2).2).1 c12_9)).2; ⟨fun _ => ⟨(h).1, (have h := (((h).2).2 _ (z_sr ((h).2).1)); ⟨fun c45_26 => (have h := ((((h).2 _ (z_an1 (h).1))).1 c45_26); ⟨fun _ => ⟨(h).1, ⟨((h).2).1, ⟨rfl, rfl, rfl, rfl, rfl, rfl, (Nat.lt_of_lt_of_le (by decide) hn), rfl, rfl, (4 + (56 * (W.1 90 25))) - 3, (4 + (56 * (W.1 90 25))) - 1, rfl, (((h).2).2).1, fun r79 hr79 => (show ((0 : Int) = 0 → 1 = 1 ∧ ((0 : Int) = 0 ∨ (0 : Int) = 1) ∧ post (some (.inl (0))) W) ∧ (¬ (0 : Int) = 0 → zwp jtb zsh n zm_MTcas post (kk__ + 29) (lGo ak_ZMTcas 89) 89 [some (.inr (.inr (some (.inl 90)))), some (.inl (t)), some (.inl (4 + (56 * (W.1 90 25)))), some (.inl (0)), some (.inl (0)), some (.inl (r79))] [] W) from ⟨fun _ => ⟨rfl, Or.inl rfl, ((((h).2).2).2 r79 hr79)⟩, fun hc41 => absurd hc41 (by decide)⟩)⟩⟩⟩, fun hc30 => absurd hc30 (by decide)⟩), fun c45_26 => (have h := ((((h).2 _ (z_an1 (h).1))).2 c45_26); ⟨fun _ => ⟨(h).1, ⟨((h).2).1, ⟨rfl, rfl, rfl, rfl, rfl, rfl, (Nat.lt_of_lt_of_le (by decide) hn), rfl, rfl, (4 + (56 * (W.1 90 25))) - 3, (4 + (56 * (W.1 90 25))) - 1, rfl, (((h).2).2).1, fun r79 hr79 => (show ((1 : Int) = 0 → zwp jtb zsh n zm_MTcas post (kk__ + 28) (lGo ak_ZMTcas 130) 130 [some (.inr (.inr (some (.inl 90)))), some (.inl (t)), some (.inl (4 + (56 * (W.1 90 25)))), some (.inl (0)), some (.inl (1)), some (.inl (r79))] [] W) ∧ (¬ (1 : Int) = 0 → (r79 = 0 → 1 = 1 ∧ ((0 : Int) = 0 ∨ (0 : Int) = 1) ∧ post (some (.inl (0))) W) ∧ (¬ r79 = 0 → 90 < n ∧ 12 = 12 ∧ (-2147483648 ≤ 1 - (W.1 90 25) ∧ 1 - (W.1 90 25) ≤ 2147483647) ∧ 3 = 3 ∧ false = false ∧ jin3 119 1982 1 zm_MTcas.2.2.1.1 = true ∧ lRm zm_MTcas.2.1 { frames := 2, cells := 0, slots := 0, locals := 48 } 10 = true ∧ Nat.ble 3 3 = true ∧ Nat.ble 0 8 = true ∧ 90 < n ∧ 12 = 12 ∧ Nat.ble 1000 12 = false ∧ zc_MTatt [.inr (.inr (some (.inl 90))), .inl (4 + (56 * (W.1 90 25))), .inl (1 - (W.1 90 25))] W (fun vv__ WW__ => zwp jtb zsh n zm_MTcas post (kk__ + 19) (lGo ak_ZMTcas 105) 105 [some (.inr (.inr (some (.inl 90)))), some (.inl (t)), some (.inl (4 + (56 * (W.1 90 25)))), some (.inl (0)), some (.inl (1)), some (.inl (r79))] (vv__.toList ++ []) WW__))) from ⟨fun hc42 => absurd hc42 (by decide), fun _ => ⟨fun c91_44 => (have h := ((((((h).2).2).2 r79 hr79)).1 c91_44); ⟨rfl, Or.inl rfl, h⟩), fun c91_44 => (have h := ((((((h).2).2).2 r79 hr79)).2 c91_44); ⟨(Nat.lt_of_lt_of_le (by decide) hn), rfl, ⟨(h).1, ⟨rfl, rfl, rfl, rfl, rfl, rfl, (Nat.lt_of_lt_of_le (by decide) hn), rfl, rfl, 4 + (56 * (W.1 90 25)), 1 - (W.1 90 25), rfl, ((h).2).1, fun r102 hr102 => (show (¬ r102 = 0 → 1 = 1 ∧ ((0 : Int) = 0 ∨ (0 : Int) = 1) ∧ post (some (.inl (0))) W) ∧ (r102 = 0 → (-2147483648 ≤ (4 + (56 * (W.1 90 25))) + t ∧ (4 + (56 * (W.1 90 25))) + t ≤ 2147483647) ∧ ¬ (2 : Int) = 0 ∧ 90 < n ∧ 12 = 12 ∧ (-2147483648 ≤ 1 - (W.1 90 25) ∧ 1 - (W.1 90 25) ≤ 2147483647) ∧ 3 = 3 ∧ false = false ∧ jin3 119 1982 1 zm_MTcas.2.2.1.1 = true ∧ lRm zm_MTcas.2.1 { frames := 2, cells := 0, slots := 0, locals := 48 } 10 = true ∧ Nat.ble 3 3 = true ∧ Nat.ble 0 8 = true ∧ 90 < n ∧ 12 = 12 ∧ Nat.ble 1000 12 = false ∧ zc_MTatt [.inr (.inr (some (.inl 90))), .inl (((lI ((4 + (56 * (W.1 90 25))) + t) / lI 2).toInt)), .inl (1 - (W.1 90 25))] W (fun vv__ WW__ => zwp jtb zsh n zm_MTcas post (kk__ + 7) (lGo ak_ZMTcas 123) 123 [some (.inr (.inr (some (.inl 90)))), some (.inl (t)), some (.inl (4 + (56 * (W.1 90 25)))), some (.inl (0)), some (.inl (1)), some (.inl (r79))] (vv__.toList ++ []) WW__)) from ⟨fun c105_52 => (have h := (((((h).2).2 r102 hr102)).1 c105_52); ⟨rfl, Or.inl rfl, h⟩), fun c105_52 => (have h := (((((h).2).2 r102 hr102)).2 c105_52); ⟨(h).1, ⟨(by decide), (have h := (((h).2).2 _ (z_dv (by decide) ((h).2).1)); ⟨(Nat.lt_of_lt_of_le (by decide) hn), rfl, ⟨(h).1, ⟨rfl, rfl, rfl, rfl, rfl, rfl, (Nat.lt_of_lt_of_le (by decide) hn), rfl, rfl, ((lI ((4 + (56 * (W.1 90 25))) + t) / lI 2).toInt), 1 - (W.1 90 25), rfl, ((h).2).1, fun r120 hr120 => (show (¬ r120 = 0 → 1 = 1 ∧ ((0 : Int) = 0 ∨ (0 : Int) = 1) ∧ post (some (.inl (0))) W) ∧ (r120 = 0 → 1 = 1 ∧ ((1 : Int) = 0 ∨ (1 : Int) = 1) ∧ post (some (.inl (1))) W) from ⟨fun c123_64 => (have h := (((((h).2).2 r120 hr120)).1 c123_64); ⟨rfl, Or.inl rfl, h⟩), fun c123_64 => (have h := (((((h).2).2 r120 hr120)).2 c123_64); ⟨rfl, Or.inr rfl, h⟩)⟩)⟩⟩⟩)⟩⟩)⟩)⟩⟩⟩)⟩⟩)⟩⟩⟩, fun hc31 => absurd hc31 (by decide)⟩)⟩)⟩, fun hc19 => absurd hc19 (by decide)⟩)⟩⟩⟩, fun c12_9 => ⟨(Nat.lt_of_lt_of_le (by decide) hn), rfl, ⟨(Nat.lt_of_lt_of_le (by decide) hn), rfl, ⟨(((((h).2).2).2 c12_9)).1, (have h := (((((h).2).2).2 c12_9)).2; ⟨fun hc20 => absurd hc20 (by decide), fun _ => ⟨(h).1, (have h := (((h).2).2 _ (z_sr ((h).2).1)); ⟨fun c45_28 => (have h := ((((h).2 _ (z_an1 (h).1))).1 c45_28); ⟨fun hc32 => absurd hc32 (by decide), fun _ => ⟨(h).1, ⟨((h).2).1, ⟨rfl, rfl, rfl, rfl, rfl, rfl, (Nat.lt_of_lt_of_le (by decide) hn), rfl, rfl, (4 + (56 * (W.1 90 25))) + 1, (4 + (56 * (W.1 90 25))) + 2, rfl, (((h).2).2).1, fun r66 hr66 => (show ((0 : Int) = 0 → 1 = 1 ∧ ((0 : Int) = 0 ∨ (0 : Int) = 1) ∧ post (some (.inl (0))) W) ∧ (¬ (0 : Int) = 0 → zwp jtb zsh n zm_MTcas post (kk__ + 26) (lGo ak_ZMTcas 89) 89 [some (.inr (.inr (some (.inl 90)))), some (.inl (t)), some (.inl (4 + (56 * (W.1 90 25)))), some (.inl (1)), some (.inl (0)), some (.inl (r66))] [] W) from ⟨fun _ => ⟨rfl, Or.inl rfl, ((((h).2).2).2 r66 hr66)⟩, fun hc44 => absurd hc44 (by decide)⟩)⟩⟩⟩⟩), fun c45_28 => (have h := ((((h).2 _ (z_an1 (h).1))).2 c45_28); ⟨fun hc33 => absurd hc33 (by decide), fun _ => ⟨(h).1, ⟨((h).2).1, ⟨rfl, rfl, rfl, rfl, rfl, rfl, (Nat.lt_of_lt_of_le (by decide) hn), rfl, rfl, (4 + (56 * (W.1 90 25))) + 1, (4 + (56 * (W.1 90 25))) + 2, rfl, (((h).2).2).1, fun r66 hr66 => (show ((1 : Int) = 0 → zwp jtb zsh n zm_MTcas post (kk__ + 25) (lGo ak_ZMTcas 130) 130 [some (.inr (.inr (some (.inl 90)))), some (.inl (t)), some (.inl (4 + (56 * (W.1 90 25)))), some (.inl (1)), some (.inl (1)), some (.inl (r66))] [] W) ∧ (¬ (1 : Int) = 0 → (r66 = 0 → 1 = 1 ∧ ((0 : Int) = 0 ∨ (0 : Int) = 1) ∧ post (some (.inl (0))) W) ∧ (¬ r66 = 0 → 90 < n ∧ 12 = 12 ∧ (-2147483648 ≤ 1 - (W.1 90 25) ∧ 1 - (W.1 90 25) ≤ 2147483647) ∧ 3 = 3 ∧ false = false ∧ jin3 119 1982 1 zm_MTcas.2.2.1.1 = true ∧ lRm zm_MTcas.2.1 { frames := 2, cells := 0, slots := 0, locals := 48 } 10 = true ∧ Nat.ble 3 3 = true ∧ Nat.ble 0 8 = true ∧ 90 < n ∧ 12 = 12 ∧ Nat.ble 1000 12 = false ∧ zc_MTatt [.inr (.inr (some (.inl 90))), .inl (4 + (56 * (W.1 90 25))), .inl (1 - (W.1 90 25))] W (fun vv__ WW__ => zwp jtb zsh n zm_MTcas post (kk__ + 16) (lGo ak_ZMTcas 105) 105 [some (.inr (.inr (some (.inl 90)))), some (.inl (t)), some (.inl (4 + (56 * (W.1 90 25)))), some (.inl (1)), some (.inl (1)), some (.inl (r66))] (vv__.toList ++ []) WW__))) from ⟨fun hc45 => absurd hc45 (by decide), fun _ => ⟨fun c91_47 => (have h := ((((((h).2).2).2 r66 hr66)).1 c91_47); ⟨rfl, Or.inl rfl, h⟩), fun c91_47 => (have h := ((((((h).2).2).2 r66 hr66)).2 c91_47); ⟨(Nat.lt_of_lt_of_le (by decide) hn), rfl, ⟨(h).1, ⟨rfl, rfl, rfl, rfl, rfl, rfl, (Nat.lt_of_lt_of_le (by decide) hn), rfl, rfl, 4 + (56 * (W.1 90 25)), 1 - (W.1 90 25), rfl, ((h).2).1, fun r102 hr102 => (show (¬ r102 = 0 → 1 = 1 ∧ ((0 : Int) = 0 ∨ (0 : Int) = 1) ∧ post (some (.inl (0))) W) ∧ (r102 = 0 → (-2147483648 ≤ (4 + (56 * (W.1 90 25))) + t ∧ (4 + (56 * (W.1 90 25))) + t ≤ 2147483647) ∧ ¬ (2 : Int) = 0 ∧ 90 < n ∧ 12 = 12 ∧ (-2147483648 ≤ 1 - (W.1 90 25) ∧ 1 - (W.1 90 25) ≤ 2147483647) ∧ 3 = 3 ∧ false = false ∧ jin3 119 1982 1 zm_MTcas.2.2.1.1 = true ∧ lRm zm_MTcas.2.1 { frames := 2, cells := 0, slots := 0, locals := 48 } 10 = true ∧ Nat.ble 3 3 = true ∧ Nat.ble 0 8 = true ∧ 90 < n ∧ 12 = 12 ∧ Nat.ble 1000 12 = false ∧ zc_MTatt [.inr (.inr (some (.inl 90))), .inl (((lI ((4 + (56 * (W.1 90 25))) + t) / lI 2).toInt)), .inl (1 - (W.1 90 25))] W (fun vv__ WW__ => zwp jtb zsh n zm_MTcas post (kk__ + 4) (lGo ak_ZMTcas 123) 123 [some (.inr (.inr (some (.inl 90)))), some (.inl (t)), some (.inl (4 + (56 * (W.1 90 25)))), some (.inl (1)), some (.inl (1)), some (.inl (r66))] (vv__.toList ++ []) WW__)) from ⟨fun c105_55 => (have h := (((((h).2).2 r102 hr102)).1 c105_55); ⟨rfl, Or.inl rfl, h⟩), fun c105_55 => (have h := (((((h).2).2 r102 hr102)).2 c105_55); ⟨(h).1, ⟨(by decide), (have h := (((h).2).2 _ (z_dv (by decide) ((h).2).1)); ⟨(Nat.lt_of_lt_of_le (by decide) hn), rfl, ⟨(h).1, ⟨rfl, rfl, rfl, rfl, rfl, rfl, (Nat.lt_of_lt_of_le (by decide) hn), rfl, rfl, ((lI ((4 + (56 * (W.1 90 25))) + t) / lI 2).toInt), 1 - (W.1 90 25), rfl, ((h).2).1, fun r120 hr120 => (show (¬ r120 = 0 → 1 = 1 ∧ ((0 : Int) = 0 ∨ (0 : Int) = 1) ∧ post (some (.inl (0))) W) ∧ (r120 = 0 → 1 = 1 ∧ ((1 : Int) = 0 ∨ (1 : Int) = 1) ∧ post (some (.inl (1))) W) from ⟨fun c123_67 => (have h := (((((h).2).2 r120 hr120)).1 c123_67); ⟨rfl, Or.inl rfl, h⟩), fun c123_67 => (have h := (((((h).2).2 r120 hr120)).2 c123_67); ⟨rfl, Or.inr rfl, h⟩)⟩)⟩⟩⟩)⟩⟩)⟩)⟩⟩⟩)⟩⟩)⟩⟩⟩⟩)⟩)⟩⟩)⟩⟩⟩⟩⟩⟩⟩)
set_option maxHeartbeats 1000000 in
theorem zk_MTcas {l : Launch} {E : jE} {n : Nat} (hn : 142 ≤ n) : zHas l E jcl jtb lw_tbl zsh n (y_MT_mayCastle, false, 2, 12, { frames := 3, cells := 0, slots := 0, locals := 77 }, zc_MTcas) := by
  refine ⟨⟨rfl, rfl, ⟨show 1 ≤ 2 by decide, m_MT_mayCastle, i_MT_mayCastle, e_MT_mayCastle, fun _ => ⟨_, rfl, rfl⟩⟩⟩, ?_⟩
  rintro vz W po hO hW ⟨t, rfl, hq, hp⟩
  refine zmet (m := zm_MTcas) rfl (by decide) (fun _ _ => jtF_ok) lo_MT ao_ZMTcas jC (fun q h => by cases h) (aAllc (fun G h => by obtain rfl := Option.some.inj h; exact ql_MT_159) (aAllc (fun G h => by obtain rfl := Option.some.inj h; exact ql_MT_119) (fun q h => by cases h))) (aAllc (zk_MTclear hn) (aAllc (zk_MTatt hn) (fun q h => by cases h))) (Nat.le_of_ble_eq_true rfl) hO hW (300) ?_
  obtain ⟨hd, hk, hR, hK, ht⟩ := hq
  have hs := hk.2.1
  have key : ∀ s : Int, s = W.1 90 25 → (rCa (zQ W) 1 ↔ ((W.1 90 26) / 2 ^ ((2 * s) + 0).toNat % 2 = 1 ∧ (∀ j, ((4 + (56 * s)) + 1) ≤ j → j < ((4 + (56 * s)) + 2) + 1 → zMn W j = 0) ∧ ¬ rAk (zMn W) (4 + (56 * s)) (1 - s) ∧ ¬ rAk (zMn W) ((4 + (56 * s)) + 1) (1 - s))) ∧ (rCa (zQ W) 0 ↔ ((W.1 90 26) / 2 ^ ((2 * s) + 1).toNat % 2 = 1 ∧ (∀ j, ((4 + (56 * s)) - 3) ≤ j → j < ((4 + (56 * s)) - 1) + 1 → zMn W j = 0) ∧ ¬ rAk (zMn W) (4 + (56 * s)) (1 - s) ∧ ¬ rAk (zMn W) ((4 + (56 * s)) - 1) (1 - s))) := by
    intro s es
    have hc := zChk (h := 56 * s + 4) hd.2.2.2.1 (show 0 ≤ (zQ W).2.1 ∧ (zQ W).2.1 ≤ 1 from hs) (by omega) (by rw [es]; exact hK)
    have hh := zHasR hR
    unfold rCa
    rw [hc]
    show (rHas (W.1 90 26) _ ∧ _ ∧ _ ∧ _ ↔ _) ∧ (rHas (W.1 90 26) _ ∧ _ ∧ _ ∧ _ ↔ _)
    rw [show (zQ W).2.1 = s from es.symm, show (zQ W).1 = zMn W from rfl, show 4 + 56 * s = 56 * s + 4 by omega]
    obtain z | z : s = 0 ∨ s = 1 := by omega
    · rw [z]
      exact ⟨and_congr (by rw [show (W.1 90 26) / 2 ^ ((2 * (0 : Int)) + 0).toNat % 2 = (W.1 90 26) % 2 by show (W.1 90 26) / 1 % 2 = _; omega]; exact hh.1) Iff.rfl, and_congr hh.2.1 Iff.rfl⟩
    · rw [z]
      exact ⟨and_congr hh.2.2.1 Iff.rfl, and_congr hh.2.2.2 Iff.rfl⟩
  have key1 := key _ rfl
  clear key
  have fin1 : ∀ (v a b c d : Int), xBl a (∀ j, ((4 + (56 * (W.1 90 25))) + 1) ≤ j → j < ((4 + (56 * (W.1 90 25))) + 2) + 1 → zMn W j = 0) → t = 56 * W.1 90 25 + 6 → ((v = 0 ∧ ¬ (W.1 90 26) / 2 ^ ((2 * (W.1 90 25)) + 0).toNat % 2 = 1) ∨ (v = 0 ∧ a = 0) ∨ (v = 0 ∧ rAk (zMn W) (4 + (56 * (W.1 90 25))) (1 - (W.1 90 25))) ∨ (v = 0 ∧ rAk (zMn W) ((4 + (56 * (W.1 90 25))) + 1) (1 - (W.1 90 25))) ∨ (v = 1 ∧ (W.1 90 26) / 2 ^ ((2 * (W.1 90 25)) + 0).toNat % 2 = 1 ∧ ¬ a = 0 ∧ ¬ rAk (zMn W) (4 + (56 * (W.1 90 25))) (1 - (W.1 90 25)) ∧ ¬ rAk (zMn W) ((4 + (56 * (W.1 90 25))) + 1) (1 - (W.1 90 25)))) → po (some (.inl v)) W := by
    intro v a b c d ha et hv
    have kk := key1.1
    refine hp v ?_
    rcases hv with ⟨e, z⟩ | ⟨e, z⟩ | ⟨e, z⟩ | ⟨e, z⟩ | ⟨e, z1, z2, z3, z4⟩
    · exact Or.inr ⟨e, fun y => y.elim (fun y => z (kk.mp y.1).1) (fun y => by omega)⟩
    · exact Or.inr ⟨e, fun y => y.elim (fun y => xBl_0 ha z (kk.mp y.1).2.1) (fun y => by omega)⟩
    · exact Or.inr ⟨e, fun y => y.elim (fun y => (kk.mp y.1).2.2.1 z) (fun y => by omega)⟩
    · exact Or.inr ⟨e, fun y => y.elim (fun y => (kk.mp y.1).2.2.2 z) (fun y => by omega)⟩
    · exact Or.inl ⟨e, Or.inl ⟨kk.mpr ⟨z1, xBl_1 ha z2, z3, z4⟩, by omega⟩⟩
  have fin0 : ∀ (v a b c d : Int), xBl a (∀ j, ((4 + (56 * (W.1 90 25))) - 3) ≤ j → j < ((4 + (56 * (W.1 90 25))) - 1) + 1 → zMn W j = 0) → t = 56 * W.1 90 25 + 2 → ((v = 0 ∧ ¬ (W.1 90 26) / 2 ^ ((2 * (W.1 90 25)) + 1).toNat % 2 = 1) ∨ (v = 0 ∧ a = 0) ∨ (v = 0 ∧ rAk (zMn W) (4 + (56 * (W.1 90 25))) (1 - (W.1 90 25))) ∨ (v = 0 ∧ rAk (zMn W) ((4 + (56 * (W.1 90 25))) - 1) (1 - (W.1 90 25))) ∨ (v = 1 ∧ (W.1 90 26) / 2 ^ ((2 * (W.1 90 25)) + 1).toNat % 2 = 1 ∧ ¬ a = 0 ∧ ¬ rAk (zMn W) (4 + (56 * (W.1 90 25))) (1 - (W.1 90 25)) ∧ ¬ rAk (zMn W) ((4 + (56 * (W.1 90 25))) - 1) (1 - (W.1 90 25)))) → po (some (.inl v)) W := by
    intro v a b c d ha et hv
    have kk := key1.2
    refine hp v ?_
    rcases hv with ⟨e, z⟩ | ⟨e, z⟩ | ⟨e, z⟩ | ⟨e, z⟩ | ⟨e, z1, z2, z3, z4⟩
    · exact Or.inr ⟨e, fun y => y.elim (fun y => by omega) (fun y => z (kk.mp y.1).1)⟩
    · exact Or.inr ⟨e, fun y => y.elim (fun y => by omega) (fun y => xBl_0 ha z (kk.mp y.1).2.1)⟩
    · exact Or.inr ⟨e, fun y => y.elim (fun y => by omega) (fun y => (kk.mp y.1).2.2.1 z)⟩
    · exact Or.inr ⟨e, fun y => y.elim (fun y => by omega) (fun y => (kk.mp y.1).2.2.2 z)⟩
    · exact Or.inl ⟨e, Or.inr ⟨kk.mpr ⟨z1, xBl_1 ha z2, z3, z4⟩, by omega⟩⟩
  exact zp_MTcas_0 (by omega) hn ⟨(by omega), ⟨(by omega), ⟨fun c12 => ⟨(by omega), ⟨(by omega), ⟨(by omega), fun t0 e0 => ⟨(by have z1 := z_dp hR.1 ((2 * (W.1 90 25)) + 1).toNat; have z2 := z_dp hR.1 ((2 * (W.1 90 25)) + 0).toNat; omega), fun t1 e1 => ⟨fun c45 => ⟨(by omega), ⟨(by omega), ⟨(by omega), fun r79 hr79 => (by first | (refine fin0 0 _ 0 0 0 hr79 (by omega) ?_; first | exact Or.inl ⟨rfl, by omega⟩ | exact Or.inr (Or.inl ⟨rfl, by omega⟩) | exact Or.inr (Or.inr (Or.inl ⟨rfl, xBl_1 hr102 c105⟩)) | exact Or.inr (Or.inr (Or.inr (Or.inl ⟨rfl, by have z := xBl_1 hr120 c123; rw [show t2 = (4 + 56 * W.1 90 25) - 1 by omega] at z; exact z⟩))) | exact Or.inr (Or.inr (Or.inr (Or.inr ⟨rfl, by omega, by omega, xBl_0 hr102 c105, by have z := xBl_0 hr120 c123; rw [show t2 = (4 + 56 * W.1 90 25) - 1 by omega] at z; exact z⟩)))))⟩⟩⟩, fun c45 => ⟨(by omega), ⟨(by omega), ⟨(by omega), fun r79 hr79 => ⟨fun c91 => (by first | (refine fin0 0 _ 0 0 0 hr79 (by omega) ?_; first | exact Or.inl ⟨rfl, by omega⟩ | exact Or.inr (Or.inl ⟨rfl, by omega⟩) | exact Or.inr (Or.inr (Or.inl ⟨rfl, xBl_1 hr102 c105⟩)) | exact Or.inr (Or.inr (Or.inr (Or.inl ⟨rfl, by have z := xBl_1 hr120 c123; rw [show t2 = (4 + 56 * W.1 90 25) - 1 by omega] at z; exact z⟩))) | exact Or.inr (Or.inr (Or.inr (Or.inr ⟨rfl, by omega, by omega, xBl_0 hr102 c105, by have z := xBl_0 hr120 c123; rw [show t2 = (4 + 56 * W.1 90 25) - 1 by omega] at z; exact z⟩))))), fun c91 => ⟨(by omega), ⟨(by omega), fun r102 hr102 => ⟨fun c105 => (by first | (refine fin0 0 _ 0 0 0 hr79 (by omega) ?_; first | exact Or.inl ⟨rfl, by omega⟩ | exact Or.inr (Or.inl ⟨rfl, by omega⟩) | exact Or.inr (Or.inr (Or.inl ⟨rfl, xBl_1 hr102 c105⟩)) | exact Or.inr (Or.inr (Or.inr (Or.inl ⟨rfl, by have z := xBl_1 hr120 c123; rw [show t2 = (4 + 56 * W.1 90 25) - 1 by omega] at z; exact z⟩))) | exact Or.inr (Or.inr (Or.inr (Or.inr ⟨rfl, by omega, by omega, xBl_0 hr102 c105, by have z := xBl_0 hr120 c123; rw [show t2 = (4 + 56 * W.1 90 25) - 1 by omega] at z; exact z⟩))))), fun c105 => ⟨(by omega), ⟨(by omega), fun t2 e2 => ⟨(by omega), ⟨(by omega), fun r120 hr120 => ⟨fun c123 => (by first | (refine fin0 0 _ 0 0 0 hr79 (by omega) ?_; first | exact Or.inl ⟨rfl, by omega⟩ | exact Or.inr (Or.inl ⟨rfl, by omega⟩) | exact Or.inr (Or.inr (Or.inl ⟨rfl, xBl_1 hr102 c105⟩)) | exact Or.inr (Or.inr (Or.inr (Or.inl ⟨rfl, by have z := xBl_1 hr120 c123; rw [show t2 = (4 + 56 * W.1 90 25) - 1 by omega] at z; exact z⟩))) | exact Or.inr (Or.inr (Or.inr (Or.inr ⟨rfl, by omega, by omega, xBl_0 hr102 c105, by have z := xBl_0 hr120 c123; rw [show t2 = (4 + 56 * W.1 90 25) - 1 by omega] at z; exact z⟩))))), fun c123 => (by first | (refine fin0 1 _ 0 0 0 hr79 (by omega) ?_; first | exact Or.inl ⟨rfl, by omega⟩ | exact Or.inr (Or.inl ⟨rfl, by omega⟩) | exact Or.inr (Or.inr (Or.inl ⟨rfl, xBl_1 hr102 c105⟩)) | exact Or.inr (Or.inr (Or.inr (Or.inl ⟨rfl, by have z := xBl_1 hr120 c123; rw [show t2 = (4 + 56 * W.1 90 25) - 1 by omega] at z; exact z⟩))) | exact Or.inr (Or.inr (Or.inr (Or.inr ⟨rfl, by omega, by omega, xBl_0 hr102 c105, by have z := xBl_0 hr120 c123; rw [show t2 = (4 + 56 * W.1 90 25) - 1 by omega] at z; exact z⟩)))))⟩⟩⟩⟩⟩⟩⟩⟩⟩⟩⟩⟩⟩⟩⟩⟩⟩, fun c12 => ⟨(by omega), ⟨(by omega), ⟨(by omega), fun t3 e3 => ⟨(by have z1 := z_dp hR.1 ((2 * (W.1 90 25)) + 1).toNat; have z2 := z_dp hR.1 ((2 * (W.1 90 25)) + 0).toNat; omega), fun t4 e4 => ⟨fun c45 => ⟨(by omega), ⟨(by omega), ⟨(by omega), fun r66 hr66 => (by first | (refine fin1 0 _ 0 0 0 hr66 (by omega) ?_; first | exact Or.inl ⟨rfl, by omega⟩ | exact Or.inr (Or.inl ⟨rfl, by omega⟩) | exact Or.inr (Or.inr (Or.inl ⟨rfl, xBl_1 hr102 c105⟩)) | exact Or.inr (Or.inr (Or.inr (Or.inl ⟨rfl, by have z := xBl_1 hr120 c123; rw [show t5 = (4 + 56 * W.1 90 25) + 1 by omega] at z; exact z⟩))) | exact Or.inr (Or.inr (Or.inr (Or.inr ⟨rfl, by omega, by omega, xBl_0 hr102 c105, by have z := xBl_0 hr120 c123; rw [show t5 = (4 + 56 * W.1 90 25) + 1 by omega] at z; exact z⟩)))))⟩⟩⟩, fun c45 => ⟨(by omega), ⟨(by omega), ⟨(by omega), fun r66 hr66 => ⟨fun c91 => (by first | (refine fin1 0 _ 0 0 0 hr66 (by omega) ?_; first | exact Or.inl ⟨rfl, by omega⟩ | exact Or.inr (Or.inl ⟨rfl, by omega⟩) | exact Or.inr (Or.inr (Or.inl ⟨rfl, xBl_1 hr102 c105⟩)) | exact Or.inr (Or.inr (Or.inr (Or.inl ⟨rfl, by have z := xBl_1 hr120 c123; rw [show t5 = (4 + 56 * W.1 90 25) + 1 by omega] at z; exact z⟩))) | exact Or.inr (Or.inr (Or.inr (Or.inr ⟨rfl, by omega, by omega, xBl_0 hr102 c105, by have z := xBl_0 hr120 c123; rw [show t5 = (4 + 56 * W.1 90 25) + 1 by omega] at z; exact z⟩))))), fun c91 => ⟨(by omega), ⟨(by omega), fun r102 hr102 => ⟨fun c105 => (by first | (refine fin1 0 _ 0 0 0 hr66 (by omega) ?_; first | exact Or.inl ⟨rfl, by omega⟩ | exact Or.inr (Or.inl ⟨rfl, by omega⟩) | exact Or.inr (Or.inr (Or.inl ⟨rfl, xBl_1 hr102 c105⟩)) | exact Or.inr (Or.inr (Or.inr (Or.inl ⟨rfl, by have z := xBl_1 hr120 c123; rw [show t5 = (4 + 56 * W.1 90 25) + 1 by omega] at z; exact z⟩))) | exact Or.inr (Or.inr (Or.inr (Or.inr ⟨rfl, by omega, by omega, xBl_0 hr102 c105, by have z := xBl_0 hr120 c123; rw [show t5 = (4 + 56 * W.1 90 25) + 1 by omega] at z; exact z⟩))))), fun c105 => ⟨(by omega), ⟨(by omega), fun t5 e5 => ⟨(by omega), ⟨(by omega), fun r120 hr120 => ⟨fun c123 => (by first | (refine fin1 0 _ 0 0 0 hr66 (by omega) ?_; first | exact Or.inl ⟨rfl, by omega⟩ | exact Or.inr (Or.inl ⟨rfl, by omega⟩) | exact Or.inr (Or.inr (Or.inl ⟨rfl, xBl_1 hr102 c105⟩)) | exact Or.inr (Or.inr (Or.inr (Or.inl ⟨rfl, by have z := xBl_1 hr120 c123; rw [show t5 = (4 + 56 * W.1 90 25) + 1 by omega] at z; exact z⟩))) | exact Or.inr (Or.inr (Or.inr (Or.inr ⟨rfl, by omega, by omega, xBl_0 hr102 c105, by have z := xBl_0 hr120 c123; rw [show t5 = (4 + 56 * W.1 90 25) + 1 by omega] at z; exact z⟩))))), fun c123 => (by first | (refine fin1 1 _ 0 0 0 hr66 (by omega) ?_; first | exact Or.inl ⟨rfl, by omega⟩ | exact Or.inr (Or.inl ⟨rfl, by omega⟩) | exact Or.inr (Or.inr (Or.inl ⟨rfl, xBl_1 hr102 c105⟩)) | exact Or.inr (Or.inr (Or.inr (Or.inl ⟨rfl, by have z := xBl_1 hr120 c123; rw [show t5 = (4 + 56 * W.1 90 25) + 1 by omega] at z; exact z⟩))) | exact Or.inr (Or.inr (Or.inr (Or.inr ⟨rfl, by omega, by omega, xBl_0 hr102 c105, by have z := xBl_0 hr120 c123; rw [show t5 = (4 + 56 * W.1 90 25) + 1 by omega] at z; exact z⟩)))))⟩⟩⟩⟩⟩⟩⟩⟩⟩⟩⟩⟩⟩⟩⟩⟩⟩⟩⟩⟩
noncomputable def ak_ZMTpaw : List jI := [(.aload_n 0, 1, (0, 0, 0, 0, 0)), (.getfield 122, 3, (12, 25, 2057, 0, 0)), (.ifCond .ne 8, 3, (12, 0, 0, 0, 0)), (.bipush 8, 2, (0, 0, 0, 8, 0)), (.goto 5, 3, (14, 0, 0, 0, 0)), (.bipush (-8), 2, (0, 0, 0, (-8), 0)), (.istore_n 3, 1, (3, 0, 0, 0, 0)), (.iload_n 2, 1, (2, 0, 0, 0, 0)), (.iload_n 1, 1, (1, 0, 0, 0, 0)), (.iload_n 3, 1, (3, 0, 0, 0, 0)), (.iadd, 1, (0, 0, 0, 0, 0)), (.if_icmp .ne 18, 3, (37, 0, 0, 0, 0)), (.aload_n 0, 1, (0, 0, 0, 0, 0)), (.getfield 71, 3, (12, 24, 2055, 0, 0)), (.iload_n 2, 1, (2, 0, 0, 0, 0)), (.iaload, 1, (0, 0, 0, 0, 0)), (.ifCond .ne 7, 3, (35, 0, 0, 0, 0)), (.iconst 1, 1, (0, 0, 0, 1, 0)), (.goto 4, 3, (36, 0, 0, 0, 0)), (.iconst 0, 1, (0, 0, 0, 0, 0)), (.ireturn, 1, (0, 0, 0, 0, 0)), (.iload_n 2, 1, (2, 0, 0, 0, 0)), (.iload_n 1, 1, (1, 0, 0, 0, 0)), (.iconst 2, 1, (0, 0, 0, 2, 0)), (.iload_n 3, 1, (3, 0, 0, 0, 0)), (.imul, 1, (0, 0, 0, 0, 0)), (.iadd, 1, (0, 0, 0, 0, 0)), (.if_icmp .ne 49, 3, (92, 0, 0, 0, 0)), (.iload_n 1, 1, (1, 0, 0, 0, 0)), (.bipush 8, 2, (0, 0, 0, 8, 0)), (.idiv, 1, (0, 0, 0, 0, 0)), (.aload_n 0, 1, (0, 0, 0, 0, 0)), (.getfield 122, 3, (12, 25, 2057, 0, 0)), (.ifCond .ne 7, 3, (61, 0, 0, 0, 0)), (.iconst 1, 1, (0, 0, 0, 1, 0)), (.goto 5, 3, (63, 0, 0, 0, 0)), (.bipush 6, 2, (0, 0, 0, 6, 0)), (.if_icmp .ne 27, 3, (90, 0, 0, 0, 0)), (.aload_n 0, 1, (0, 0, 0, 0, 0)), (.getfield 71, 3, (12, 24, 2055, 0, 0)), (.iload_n 1, 1, (1, 0, 0, 0, 0)), (.iload_n 3, 1, (3, 0, 0, 0, 0)), (.iadd, 1, (0, 0, 0, 0, 0)), (.iaload, 1, (0, 0, 0, 0, 0)), (.ifCond .ne 16, 3, (90, 0, 0, 0, 0)), (.aload_n 0, 1, (0, 0, 0, 0, 0)), (.getfield 71, 3, (12, 24, 2055, 0, 0)), (.iload_n 2, 1, (2, 0, 0, 0, 0)), (.iaload, 1, (0, 0, 0, 0, 0)), (.ifCond .ne 7, 3, (90, 0, 0, 0, 0)), (.iconst 1, 1, (0, 0, 0, 1, 0)), (.goto 4, 3, (91, 0, 0, 0, 0)), (.iconst 0, 1, (0, 0, 0, 0, 0)), (.ireturn, 1, (0, 0, 0, 0, 0)), (.iload_n 2, 1, (2, 0, 0, 0, 0)), (.bipush 8, 2, (0, 0, 0, 8, 0)), (.irem, 1, (0, 0, 0, 0, 0)), (.iload_n 1, 1, (1, 0, 0, 0, 0)), (.bipush 8, 2, (0, 0, 0, 8, 0)), (.irem, 1, (0, 0, 0, 0, 0)), (.isub, 1, (0, 0, 0, 0, 0)), (.istore 4, 2, (4, 0, 0, 0, 0)), (.iload_n 2, 1, (2, 0, 0, 0, 0)), (.bipush 8, 2, (0, 0, 0, 8, 0)), (.idiv, 1, (0, 0, 0, 0, 0)), (.iload_n 1, 1, (1, 0, 0, 0, 0)), (.bipush 8, 2, (0, 0, 0, 8, 0)), (.idiv, 1, (0, 0, 0, 0, 0)), (.iload_n 3, 1, (3, 0, 0, 0, 0)), (.bipush 8, 2, (0, 0, 0, 8, 0)), (.idiv, 1, (0, 0, 0, 0, 0)), (.iadd, 1, (0, 0, 0, 0, 0)), (.if_icmp .ne 45, 3, (161, 0, 0, 0, 0)), (.iload 4, 2, (4, 0, 0, 0, 0)), (.iconst 1, 1, (0, 0, 0, 1, 0)), (.if_icmp .eq 9, 3, (131, 0, 0, 0, 0)), (.iload 4, 2, (4, 0, 0, 0, 0)), (.iconst (-1), 1, (0, 0, 0, (-1), 0)), (.if_icmp .ne 33, 3, (161, 0, 0, 0, 0)), (.aload_n 0, 1, (0, 0, 0, 0, 0)), (.getfield 71, 3, (12, 24, 2055, 0, 0)), (.iload_n 2, 1, (2, 0, 0, 0, 0)), (.iaload, 1, (0, 0, 0, 0, 0)), (.invokestatic 162, 3, (0, 0, 1963, 0, 0)), (.iconst 1, 1, (0, 0, 0, 1, 0)), (.aload_n 0, 1, (0, 0, 0, 0, 0)), (.getfield 122, 3, (12, 25, 2057, 0, 0)), (.isub, 1, (0, 0, 0, 0, 0)), (.if_icmp .eq 11, 3, (157, 0, 0, 0, 0)), (.iload_n 2, 1, (2, 0, 0, 0, 0)), (.aload_n 0, 1, (0, 0, 0, 0, 0)), (.getfield 128, 3, (12, 27, 2061, 0, 0)), (.if_icmp .ne 7, 3, (161, 0, 0, 0, 0)), (.iconst 1, 1, (0, 0, 0, 1, 0)), (.goto 4, 3, (162, 0, 0, 0, 0)), (.iconst 0, 1, (0, 0, 0, 0, 0)), (.ireturn, 1, (0, 0, 0, 0, 0))]
theorem ao_ZMTpaw : jokLG jtF lk_MT "ChessHouseModel$Texts" jcl jtb 5 prog_18_method_19_code 0 ak_ZMTpaw = true := by decide +kernel
noncomputable def zm_MTpaw : zM := (some .boolean, { frames := 1, cells := 0, slots := 0, locals := 20 }, ([(162, 1963, 0)], []), [(y_MT_sideOf, true, 1, 0, { frames := 0, cells := 0, slots := 0, locals := 0 }, zc_MTsideOf)], ak_ZMTpaw)
noncomputable def zc_MTpaw (vals : List zv) (W : zW) (post : zPo) : Prop := ∃ f t : Int, vals = [.inr (.inr (some (.inl 90))), .inl (f), .inl (t)] ∧ ((0 ≤ f ∧ f ≤ 63) ∧ (0 ≤ t ∧ t ≤ 63) ∧ zMk W) ∧ ∀ r : Int, (xBl r (rPG (zQ W) f t)) → post (some (.inl r)) W
set_option maxRecDepth 8000 in
theorem zp_MTpaw_0 {n K : Nat} {W : zW} {post : zPo} {f t : Int} {u3 u4 : Option zv} (hK : 60 ≤ K) (hn : 142 ≤ n) (h : (¬ (W.1 90 25) = 0 → (-2147483648 ≤ f + (-8) ∧ f + (-8) ≤ 2147483647) ∧ (¬ t = (f + (-8)) → (-2147483648 ≤ (2 : Int) * (-8) ∧ (2 : Int) * (-8) ≤ 2147483647) ∧ (-2147483648 ≤ f + ((2 : Int) * (-8)) ∧ f + ((2 : Int) * (-8)) ≤ 2147483647) ∧ (¬ t = (f + ((2 : Int) * (-8))) → (0 ≤ t ∧ t ≤ 2147483647) ∧ ∀ t0 : Int, t0 = t % 8 → (0 ≤ f ∧ f ≤ 2147483647) ∧ ∀ t1 : Int, t1 = f % 8 → (-2147483648 ≤ t0 - t1 ∧ t0 - t1 ≤ 2147483647) ∧ (0 ≤ t ∧ t ≤ 2147483647) ∧ ∀ t2 : Int, t2 = t / 8 → (0 ≤ f ∧ f ≤ 2147483647) ∧ ∀ t3 : Int, t3 = f / 8 → ∀ t4 : Int, t4 = -1 → (-2147483648 ≤ t3 + t4 ∧ t3 + t4 ≤ 2147483647) ∧ (¬ t2 = (t3 + t4) → post (some (.inl (0))) W) ∧ (t2 = (t3 + t4) → ((t0 - t1) = 1 → (0 ≤ t ∧ t < 64) ∧ (0 ≤ (W.2.1 110 t) ∧ (W.2.1 110 t) ≤ 2147483647) ∧ ∀ r137 : Int, (((W.2.1 110 t) = 0 ∧ r137 = -1) ∨ (¬ (W.2.1 110 t) = 0 ∧ r137 = (W.2.1 110 t) / 8)) → (-2147483648 ≤ 1 - (W.1 90 25) ∧ 1 - (W.1 90 25) ≤ 2147483647) ∧ (r137 = (1 - (W.1 90 25)) → post (some (.inl (1))) W) ∧ (¬ r137 = (1 - (W.1 90 25)) → (¬ t = (W.1 90 27) → post (some (.inl (0))) W) ∧ (t = (W.1 90 27) → post (some (.inl (1))) W))) ∧ (¬ (t0 - t1) = 1 → (¬ (t0 - t1) = (-1) → post (some (.inl (0))) W) ∧ ((t0 - t1) = (-1) → (0 ≤ t ∧ t < 64) ∧ (0 ≤ (W.2.1 110 t) ∧ (W.2.1 110 t) ≤ 2147483647) ∧ ∀ r137 : Int, (((W.2.1 110 t) = 0 ∧ r137 = -1) ∨ (¬ (W.2.1 110 t) = 0 ∧ r137 = (W.2.1 110 t) / 8)) → (-2147483648 ≤ 1 - (W.1 90 25) ∧ 1 - (W.1 90 25) ≤ 2147483647) ∧ (r137 = (1 - (W.1 90 25)) → post (some (.inl (1))) W) ∧ (¬ r137 = (1 - (W.1 90 25)) → (¬ t = (W.1 90 27) → post (some (.inl (0))) W) ∧ (t = (W.1 90 27) → post (some (.inl (1))) W)))))) ∧ (t = (f + ((2 : Int) * (-8))) → (0 ≤ f ∧ f ≤ 2147483647) ∧ ∀ t5 : Int, t5 = f / 8 → (¬ (W.1 90 25) = 0 → (¬ t5 = 6 → post (some (.inl (0))) W) ∧ (t5 = 6 → (-2147483648 ≤ f + (-8) ∧ f + (-8) ≤ 2147483647) ∧ (0 ≤ (f + (-8)) ∧ (f + (-8)) < 64) ∧ (¬ (W.2.1 110 (f + (-8))) = 0 → post (some (.inl (0))) W) ∧ ((W.2.1 110 (f + (-8))) = 0 → (0 ≤ t ∧ t < 64) ∧ (¬ (W.2.1 110 t) = 0 → post (some (.inl (0))) W) ∧ ((W.2.1 110 t) = 0 → post (some (.inl (1))) W)))) ∧ ((W.1 90 25) = 0 → (¬ t5 = 1 → post (some (.inl (0))) W) ∧ (t5 = 1 → (-2147483648 ≤ f + (-8) ∧ f + (-8) ≤ 2147483647) ∧ (0 ≤ (f + (-8)) ∧ (f + (-8)) < 64) ∧ (¬ (W.2.1 110 (f + (-8))) = 0 → post (some (.inl (0))) W) ∧ ((W.2.1 110 (f + (-8))) = 0 → (0 ≤ t ∧ t < 64) ∧ (¬ (W.2.1 110 t) = 0 → post (some (.inl (0))) W) ∧ ((W.2.1 110 t) = 0 → post (some (.inl (1))) W)))))) ∧ (t = (f + (-8)) → (0 ≤ t ∧ t < 64) ∧ (¬ (W.2.1 110 t) = 0 → post (some (.inl (0))) W) ∧ ((W.2.1 110 t) = 0 → post (some (.inl (1))) W))) ∧ ((W.1 90 25) = 0 → (-2147483648 ≤ f + 8 ∧ f + 8 ≤ 2147483647) ∧ (¬ t = (f + 8) → (-2147483648 ≤ (2 : Int) * 8 ∧ (2 : Int) * 8 ≤ 2147483647) ∧ (-2147483648 ≤ f + ((2 : Int) * 8) ∧ f + ((2 : Int) * 8) ≤ 2147483647) ∧ (¬ t = (f + ((2 : Int) * 8)) → (0 ≤ t ∧ t ≤ 2147483647) ∧ ∀ t6 : Int, t6 = t % 8 → (0 ≤ f ∧ f ≤ 2147483647) ∧ ∀ t7 : Int, t7 = f % 8 → (-2147483648 ≤ t6 - t7 ∧ t6 - t7 ≤ 2147483647) ∧ (0 ≤ t ∧ t ≤ 2147483647) ∧ ∀ t8 : Int, t8 = t / 8 → (0 ≤ f ∧ f ≤ 2147483647) ∧ ∀ t9 : Int, t9 = f / 8 → ∀ t10 : Int, t10 = 1 → (-2147483648 ≤ t9 + t10 ∧ t9 + t10 ≤ 2147483647) ∧ (¬ t8 = (t9 + t10) → post (some (.inl (0))) W) ∧ (t8 = (t9 + t10) → ((t6 - t7) = 1 → (0 ≤ t ∧ t < 64) ∧ (0 ≤ (W.2.1 110 t) ∧ (W.2.1 110 t) ≤ 2147483647) ∧ ∀ r137 : Int, (((W.2.1 110 t) = 0 ∧ r137 = -1) ∨ (¬ (W.2.1 110 t) = 0 ∧ r137 = (W.2.1 110 t) / 8)) → (-2147483648 ≤ 1 - (W.1 90 25) ∧ 1 - (W.1 90 25) ≤ 2147483647) ∧ (r137 = (1 - (W.1 90 25)) → post (some (.inl (1))) W) ∧ (¬ r137 = (1 - (W.1 90 25)) → (¬ t = (W.1 90 27) → post (some (.inl (0))) W) ∧ (t = (W.1 90 27) → post (some (.inl (1))) W))) ∧ (¬ (t6 - t7) = 1 → (¬ (t6 - t7) = (-1) → post (some (.inl (0))) W) ∧ ((t6 - t7) = (-1) → (0 ≤ t ∧ t < 64) ∧ (0 ≤ (W.2.1 110 t) ∧ (W.2.1 110 t) ≤ 2147483647) ∧ ∀ r137 : Int, (((W.2.1 110 t) = 0 ∧ r137 = -1) ∨ (¬ (W.2.1 110 t) = 0 ∧ r137 = (W.2.1 110 t) / 8)) → (-2147483648 ≤ 1 - (W.1 90 25) ∧ 1 - (W.1 90 25) ≤ 2147483647) ∧ (r137 = (1 - (W.1 90 25)) → post (some (.inl (1))) W) ∧ (¬ r137 = (1 - (W.1 90 25)) → (¬ t = (W.1 90 27) → post (some (.inl (0))) W) ∧ (t = (W.1 90 27) → post (some (.inl (1))) W)))))) ∧ (t = (f + ((2 : Int) * 8)) → (0 ≤ f ∧ f ≤ 2147483647) ∧ ∀ t11 : Int, t11 = f / 8 → (¬ (W.1 90 25) = 0 → (¬ t11 = 6 → post (some (.inl (0))) W) ∧ (t11 = 6 → (-2147483648 ≤ f + 8 ∧ f + 8 ≤ 2147483647) ∧ (0 ≤ (f + 8) ∧ (f + 8) < 64) ∧ (¬ (W.2.1 110 (f + 8)) = 0 → post (some (.inl (0))) W) ∧ ((W.2.1 110 (f + 8)) = 0 → (0 ≤ t ∧ t < 64) ∧ (¬ (W.2.1 110 t) = 0 → post (some (.inl (0))) W) ∧ ((W.2.1 110 t) = 0 → post (some (.inl (1))) W)))) ∧ ((W.1 90 25) = 0 → (¬ t11 = 1 → post (some (.inl (0))) W) ∧ (t11 = 1 → (-2147483648 ≤ f + 8 ∧ f + 8 ≤ 2147483647) ∧ (0 ≤ (f + 8) ∧ (f + 8) < 64) ∧ (¬ (W.2.1 110 (f + 8)) = 0 → post (some (.inl (0))) W) ∧ ((W.2.1 110 (f + 8)) = 0 → (0 ≤ t ∧ t < 64) ∧ (¬ (W.2.1 110 t) = 0 → post (some (.inl (0))) W) ∧ ((W.2.1 110 t) = 0 → post (some (.inl (1))) W)))))) ∧ (t = (f + 8) → (0 ≤ t ∧ t < 64) ∧ (¬ (W.2.1 110 t) = 0 → post (some (.inl (0))) W) ∧ ((W.2.1 110 t) = 0 → post (some (.inl (1))) W)))) : zwp jtb zsh n zm_MTpaw post K (lGo ak_ZMTpaw 0) 0 [some (.inr (.inr (some (.inl 90)))), some (.inl (f)), some (.inl (t)), u3, u4] [] W := by
  obtain ⟨kk__, rfl⟩ : ∃ kk__, K = kk__ + 60 := ⟨K - 60, by omega⟩
  exact (show 90 < n ∧ 12 = 12 ∧ (¬ (W.1 90 25) = 0 → (-2147483648 ≤ f + (-8) ∧ f + (-8) ≤ 2147483647) ∧ (¬ t = (f + (-8)) → (-2147483648 ≤ (2 : Int) * (-8) ∧ (2 : Int) * (-8) ≤ 2147483647) ∧ (-2147483648 ≤ f + ((2 : Int) * (-8)) ∧ f + ((2 : Int) * (-8)) ≤ 2147483647) ∧ (¬ t = (f + ((2 : Int) * (-8))) → ¬ (8 : Int) = 0 ∧ ¬ (8 : Int) = 0 ∧ (-2147483648 ≤ ((lI t - lI t / lI 8 * lI 8).toInt) - ((lI f - lI f / lI 8 * lI 8).toInt) ∧ ((lI t - lI t / lI 8 * lI 8).toInt) - ((lI f - lI f / lI 8 * lI 8).toInt) ≤ 2147483647) ∧ ¬ (8 : Int) = 0 ∧ ¬ (8 : Int) = 0 ∧ ¬ (8 : Int) = 0 ∧ (-2147483648 ≤ ((lI f / lI 8).toInt) + ((lI (-8) / lI 8).toInt) ∧ ((lI f / lI 8).toInt) + ((lI (-8) / lI 8).toInt) ≤ 2147483647) ∧ (¬ ((lI t / lI 8).toInt) = (((lI f / lI 8).toInt) + ((lI (-8) / lI 8).toInt)) → 1 = 1 ∧ ((0 : Int) = 0 ∨ (0 : Int) = 1) ∧ post (some (.inl (0))) W) ∧ (((lI t / lI 8).toInt) = (((lI f / lI 8).toInt) + ((lI (-8) / lI 8).toInt)) → ((((lI t - lI t / lI 8 * lI 8).toInt) - ((lI f - lI f / lI 8 * lI 8).toInt)) = 1 → 90 < n ∧ 12 = 12 ∧ 110 < n ∧ FieldType.int = FieldType.int ∧ (0 ≤ t ∧ t < 64) ∧ 3 = 3 ∧ true = true ∧ jin3 162 1963 0 zm_MTpaw.2.2.1.1 = true ∧ lRm zm_MTpaw.2.1 { frames := 0, cells := 0, slots := 0, locals := 0 } 1 = true ∧ Nat.ble 1 1 = true ∧ Nat.ble 0 8 = true ∧ zc_MTsideOf [.inl (W.2.1 110 t)] W (fun vv__ WW__ => zwp jtb zsh n zm_MTpaw post (kk__ + 16) (lGo ak_ZMTpaw 140) 140 [some (.inr (.inr (some (.inl 90)))), some (.inl (f)), some (.inl (t)), some (.inl (-8)), some (.inl (((lI t - lI t / lI 8 * lI 8).toInt) - ((lI f - lI f / lI 8 * lI 8).toInt)))] (vv__.toList ++ []) WW__)) ∧ (¬ (((lI t - lI t / lI 8 * lI 8).toInt) - ((lI f - lI f / lI 8 * lI 8).toInt)) = 1 → (¬ (((lI t - lI t / lI 8 * lI 8).toInt) - ((lI f - lI f / lI 8 * lI 8).toInt)) = (-1) → 1 = 1 ∧ ((0 : Int) = 0 ∨ (0 : Int) = 1) ∧ post (some (.inl (0))) W) ∧ ((((lI t - lI t / lI 8 * lI 8).toInt) - ((lI f - lI f / lI 8 * lI 8).toInt)) = (-1) → 90 < n ∧ 12 = 12 ∧ 110 < n ∧ FieldType.int = FieldType.int ∧ (0 ≤ t ∧ t < 64) ∧ 3 = 3 ∧ true = true ∧ jin3 162 1963 0 zm_MTpaw.2.2.1.1 = true ∧ lRm zm_MTpaw.2.1 { frames := 0, cells := 0, slots := 0, locals := 0 } 1 = true ∧ Nat.ble 1 1 = true ∧ Nat.ble 0 8 = true ∧ zc_MTsideOf [.inl (W.2.1 110 t)] W (fun vv__ WW__ => zwp jtb zsh n zm_MTpaw post (kk__ + 13) (lGo ak_ZMTpaw 140) 140 [some (.inr (.inr (some (.inl 90)))), some (.inl (f)), some (.inl (t)), some (.inl (-8)), some (.inl (((lI t - lI t / lI 8 * lI 8).toInt) - ((lI f - lI f / lI 8 * lI 8).toInt)))] (vv__.toList ++ []) WW__))))) ∧ (t = (f + ((2 : Int) * (-8))) → ¬ (8 : Int) = 0 ∧ 90 < n ∧ 12 = 12 ∧ (¬ (W.1 90 25) = 0 → (¬ ((lI f / lI 8).toInt) = 6 → 1 = 1 ∧ ((0 : Int) = 0 ∨ (0 : Int) = 1) ∧ post (some (.inl (0))) W) ∧ (((lI f / lI 8).toInt) = 6 → 90 < n ∧ 12 = 12 ∧ (-2147483648 ≤ f + (-8) ∧ f + (-8) ≤ 2147483647) ∧ 110 < n ∧ FieldType.int = FieldType.int ∧ (0 ≤ (f + (-8)) ∧ (f + (-8)) < 64) ∧ (¬ (W.2.1 110 (f + (-8))) = 0 → 1 = 1 ∧ ((0 : Int) = 0 ∨ (0 : Int) = 1) ∧ post (some (.inl (0))) W) ∧ ((W.2.1 110 (f + (-8))) = 0 → 90 < n ∧ 12 = 12 ∧ 110 < n ∧ FieldType.int = FieldType.int ∧ (0 ≤ t ∧ t < 64) ∧ (¬ (W.2.1 110 t) = 0 → 1 = 1 ∧ ((0 : Int) = 0 ∨ (0 : Int) = 1) ∧ post (some (.inl (0))) W) ∧ ((W.2.1 110 t) = 0 → 1 = 1 ∧ ((1 : Int) = 0 ∨ (1 : Int) = 1) ∧ post (some (.inl (1))) W)))) ∧ ((W.1 90 25) = 0 → (¬ ((lI f / lI 8).toInt) = 1 → 1 = 1 ∧ ((0 : Int) = 0 ∨ (0 : Int) = 1) ∧ post (some (.inl (0))) W) ∧ (((lI f / lI 8).toInt) = 1 → 90 < n ∧ 12 = 12 ∧ (-2147483648 ≤ f + (-8) ∧ f + (-8) ≤ 2147483647) ∧ 110 < n ∧ FieldType.int = FieldType.int ∧ (0 ≤ (f + (-8)) ∧ (f + (-8)) < 64) ∧ (¬ (W.2.1 110 (f + (-8))) = 0 → 1 = 1 ∧ ((0 : Int) = 0 ∨ (0 : Int) = 1) ∧ post (some (.inl (0))) W) ∧ ((W.2.1 110 (f + (-8))) = 0 → 90 < n ∧ 12 = 12 ∧ 110 < n ∧ FieldType.int = FieldType.int ∧ (0 ≤ t ∧ t < 64) ∧ (¬ (W.2.1 110 t) = 0 → 1 = 1 ∧ ((0 : Int) = 0 ∨ (0 : Int) = 1) ∧ post (some (.inl (0))) W) ∧ ((W.2.1 110 t) = 0 → 1 = 1 ∧ ((1 : Int) = 0 ∨ (1 : Int) = 1) ∧ post (some (.inl (1))) W)))))) ∧ (t = (f + (-8)) → 90 < n ∧ 12 = 12 ∧ 110 < n ∧ FieldType.int = FieldType.int ∧ (0 ≤ t ∧ t < 64) ∧ (¬ (W.2.1 110 t) = 0 → 1 = 1 ∧ ((0 : Int) = 0 ∨ (0 : Int) = 1) ∧ post (some (.inl (0))) W) ∧ ((W.2.1 110 t) = 0 → 1 = 1 ∧ ((1 : Int) = 0 ∨ (1 : Int) = 1) ∧ post (some (.inl (1))) W))) ∧ ((W.1 90 25) = 0 → (-2147483648 ≤ f + 8 ∧ f + 8 ≤ 2147483647) ∧ (¬ t = (f + 8) → (-2147483648 ≤ (2 : Int) * 8 ∧ (2 : Int) * 8 ≤ 2147483647) ∧ (-2147483648 ≤ f + ((2 : Int) * 8) ∧ f + ((2 : Int) * 8) ≤ 2147483647) ∧ (¬ t = (f + ((2 : Int) * 8)) → ¬ (8 : Int) = 0 ∧ ¬ (8 : Int) = 0 ∧ (-2147483648 ≤ ((lI t - lI t / lI 8 * lI 8).toInt) - ((lI f - lI f / lI 8 * lI 8).toInt) ∧ ((lI t - lI t / lI 8 * lI 8).toInt) - ((lI f - lI f / lI 8 * lI 8).toInt) ≤ 2147483647) ∧ ¬ (8 : Int) = 0 ∧ ¬ (8 : Int) = 0 ∧ ¬ (8 : Int) = 0 ∧ (-2147483648 ≤ ((lI f / lI 8).toInt) + ((lI 8 / lI 8).toInt) ∧ ((lI f / lI 8).toInt) + ((lI 8 / lI 8).toInt) ≤ 2147483647) ∧ (¬ ((lI t / lI 8).toInt) = (((lI f / lI 8).toInt) + ((lI 8 / lI 8).toInt)) → 1 = 1 ∧ ((0 : Int) = 0 ∨ (0 : Int) = 1) ∧ post (some (.inl (0))) W) ∧ (((lI t / lI 8).toInt) = (((lI f / lI 8).toInt) + ((lI 8 / lI 8).toInt)) → ((((lI t - lI t / lI 8 * lI 8).toInt) - ((lI f - lI f / lI 8 * lI 8).toInt)) = 1 → 90 < n ∧ 12 = 12 ∧ 110 < n ∧ FieldType.int = FieldType.int ∧ (0 ≤ t ∧ t < 64) ∧ 3 = 3 ∧ true = true ∧ jin3 162 1963 0 zm_MTpaw.2.2.1.1 = true ∧ lRm zm_MTpaw.2.1 { frames := 0, cells := 0, slots := 0, locals := 0 } 1 = true ∧ Nat.ble 1 1 = true ∧ Nat.ble 0 8 = true ∧ zc_MTsideOf [.inl (W.2.1 110 t)] W (fun vv__ WW__ => zwp jtb zsh n zm_MTpaw post (kk__ + 15) (lGo ak_ZMTpaw 140) 140 [some (.inr (.inr (some (.inl 90)))), some (.inl (f)), some (.inl (t)), some (.inl (8)), some (.inl (((lI t - lI t / lI 8 * lI 8).toInt) - ((lI f - lI f / lI 8 * lI 8).toInt)))] (vv__.toList ++ []) WW__)) ∧ (¬ (((lI t - lI t / lI 8 * lI 8).toInt) - ((lI f - lI f / lI 8 * lI 8).toInt)) = 1 → (¬ (((lI t - lI t / lI 8 * lI 8).toInt) - ((lI f - lI f / lI 8 * lI 8).toInt)) = (-1) → 1 = 1 ∧ ((0 : Int) = 0 ∨ (0 : Int) = 1) ∧ post (some (.inl (0))) W) ∧ ((((lI t - lI t / lI 8 * lI 8).toInt) - ((lI f - lI f / lI 8 * lI 8).toInt)) = (-1) → 90 < n ∧ 12 = 12 ∧ 110 < n ∧ FieldType.int = FieldType.int ∧ (0 ≤ t ∧ t < 64) ∧ 3 = 3 ∧ true = true ∧ jin3 162 1963 0 zm_MTpaw.2.2.1.1 = true ∧ lRm zm_MTpaw.2.1 { frames := 0, cells := 0, slots := 0, locals := 0 } 1 = true ∧ Nat.ble 1 1 = true ∧ Nat.ble 0 8 = true ∧ zc_MTsideOf [.inl (W.2.1 110 t)] W (fun vv__ WW__ => zwp jtb zsh n zm_MTpaw post (kk__ + 12) (lGo ak_ZMTpaw 140) 140 [some (.inr (.inr (some (.inl 90)))), some (.inl (f)), some (.inl (t)), some (.inl (8)), some (.inl (((lI t - lI t / lI 8 * lI 8).toInt) - ((lI f - lI f / lI 8 * lI 8).toInt)))] (vv__.toList ++ []) WW__))))) ∧ (t = (f + ((2 : Int) * 8)) → ¬ (8 : Int) = 0 ∧ 90 < n ∧ 12 = 12 ∧ (¬ (W.1 90 25) = 0 → (¬ ((lI f / lI 8).toInt) = 6 → 1 = 1 ∧ ((0 : Int) = 0 ∨ (0 : Int) = 1) ∧ post (some (.inl (0))) W) ∧ (((lI f / lI 8).toInt) = 6 → 90 < n ∧ 12 = 12 ∧ (-2147483648 ≤ f + 8 ∧ f + 8 ≤ 2147483647) ∧ 110 < n ∧ FieldType.int = FieldType.int ∧ (0 ≤ (f + 8) ∧ (f + 8) < 64) ∧ (¬ (W.2.1 110 (f + 8)) = 0 → 1 = 1 ∧ ((0 : Int) = 0 ∨ (0 : Int) = 1) ∧ post (some (.inl (0))) W) ∧ ((W.2.1 110 (f + 8)) = 0 → 90 < n ∧ 12 = 12 ∧ 110 < n ∧ FieldType.int = FieldType.int ∧ (0 ≤ t ∧ t < 64) ∧ (¬ (W.2.1 110 t) = 0 → 1 = 1 ∧ ((0 : Int) = 0 ∨ (0 : Int) = 1) ∧ post (some (.inl (0))) W) ∧ ((W.2.1 110 t) = 0 → 1 = 1 ∧ ((1 : Int) = 0 ∨ (1 : Int) = 1) ∧ post (some (.inl (1))) W)))) ∧ ((W.1 90 25) = 0 → (¬ ((lI f / lI 8).toInt) = 1 → 1 = 1 ∧ ((0 : Int) = 0 ∨ (0 : Int) = 1) ∧ post (some (.inl (0))) W) ∧ (((lI f / lI 8).toInt) = 1 → 90 < n ∧ 12 = 12 ∧ (-2147483648 ≤ f + 8 ∧ f + 8 ≤ 2147483647) ∧ 110 < n ∧ FieldType.int = FieldType.int ∧ (0 ≤ (f + 8) ∧ (f + 8) < 64) ∧ (¬ (W.2.1 110 (f + 8)) = 0 → 1 = 1 ∧ ((0 : Int) = 0 ∨ (0 : Int) = 1) ∧ post (some (.inl (0))) W) ∧ ((W.2.1 110 (f + 8)) = 0 → 90 < n ∧ 12 = 12 ∧ 110 < n ∧ FieldType.int = FieldType.int ∧ (0 ≤ t ∧ t < 64) ∧ (¬ (W.2.1 110 t) = 0 → 1 = 1 ∧ ((0 : Int) = 0 ∨ (0 : Int) = 1) ∧ post (some (.inl (0))) W) ∧ ((W.2.1 110 t) = 0 → 1 = 1 ∧ ((1 : Int) = 0 ∨ (1 : Int) = 1) ∧ post (some (.inl (1))) W)))))) ∧ (t = (f + 8) → 90 < n ∧ 12 = 12 ∧ 110 < n ∧ FieldType.int = FieldType.int ∧ (0 ≤ t ∧ t < 64) ∧ (¬ (W.2.1 110 t) = 0 → 1 = 1 ∧ ((0 : Int) = 0 ∨ (0 : Int) = 1) ∧ post (some (.inl (0))) W) ∧ ((W.2.1 110 t) = 0 → 1 = 1 ∧ ((1 : Int) = 0 ∨ (1 : Int) = 1) ∧ post (some (.inl (1))) W))) from ⟨(Nat.lt_of_lt_of_le (by decide) hn), rfl, ⟨fun c4_2 => ⟨(((h).1 c4_2)).1, ⟨fun c19_9 => (have h := (((((h).1 c4_2)).2).1 c19_9); ⟨(h).1, ⟨((h).2).1, ⟨fun c43_16 => ⟨(by decide), (have h := ((((((h).2).2).1 c43_16)).2 _ (z_rm (by decide) (((((h).2).2).1 c43_16)).1)); ⟨(by decide), (have h := ((h).2 _ (z_rm (by decide) (h).1)); ⟨(h).1, ⟨(by decide), (have h := (((h).2).2 _ (z_dv (by decide) ((h).2).1)); ⟨(by decide), (have h := ((h).2 _ (z_dv (by decide) (h).1)); ⟨(by decide), (have h := (h ((lI (-8) / lI 8).toInt) (by decide +kernel)); ⟨(h).1, ⟨fun c116_35 => ⟨rfl, Or.inl rfl, (((h).2).1 c116_35)⟩, fun c116_35 => ⟨fun c122_38 => (have h := (((((h).2).2 c116_35)).1 c122_38); ⟨(Nat.lt_of_lt_of_le (by decide) hn), rfl, ⟨(Nat.lt_of_lt_of_le (by decide) hn), rfl, (h).1, ⟨rfl, rfl, rfl, rfl, rfl, rfl, W.2.1 110 t, rfl, ((h).2).1, fun r137 hr137 => (show 90 < n ∧ 12 = 12 ∧ (-2147483648 ≤ 1 - (W.1 90 25) ∧ 1 - (W.1 90 25) ≤ 2147483647) ∧ (r137 = (1 - (W.1 90 25)) → 1 = 1 ∧ ((1 : Int) = 0 ∨ (1 : Int) = 1) ∧ post (some (.inl (1))) W) ∧ (¬ r137 = (1 - (W.1 90 25)) → 90 < n ∧ 12 = 12 ∧ (¬ t = (W.1 90 27) → 1 = 1 ∧ ((0 : Int) = 0 ∨ (0 : Int) = 1) ∧ post (some (.inl (0))) W) ∧ (t = (W.1 90 27) → 1 = 1 ∧ ((1 : Int) = 0 ∨ (1 : Int) = 1) ∧ post (some (.inl (1))) W)) from ⟨(Nat.lt_of_lt_of_le (by decide) hn), rfl, ⟨((((h).2).2 r137 hr137)).1, (have h := ((((h).2).2 r137 hr137)).2; ⟨fun c146_48 => ⟨rfl, Or.inr rfl, ((h).1 c146_48)⟩, fun c146_48 => ⟨(Nat.lt_of_lt_of_le (by decide) hn), rfl, ⟨fun c154_52 => (have h := ((((h).2 c146_48)).1 c154_52); ⟨rfl, Or.inl rfl, h⟩), fun c154_52 => (have h := ((((h).2 c146_48)).2 c154_52); ⟨rfl, Or.inr rfl, h⟩)⟩⟩⟩)⟩⟩)⟩⟩⟩), fun c122_38 => (have h := (((((h).2).2 c116_35)).2 c122_38); ⟨fun c128_41 => ⟨rfl, Or.inl rfl, ((h).1 c128_41)⟩, fun c128_41 => ⟨(Nat.lt_of_lt_of_le (by decide) hn), rfl, ⟨(Nat.lt_of_lt_of_le (by decide) hn), rfl, (((h).2 c128_41)).1, ⟨rfl, rfl, rfl, rfl, rfl, rfl, W.2.1 110 t, rfl, ((((h).2 c128_41)).2).1, fun r137 hr137 => (show 90 < n ∧ 12 = 12 ∧ (-2147483648 ≤ 1 - (W.1 90 25) ∧ 1 - (W.1 90 25) ≤ 2147483647) ∧ (r137 = (1 - (W.1 90 25)) → 1 = 1 ∧ ((1 : Int) = 0 ∨ (1 : Int) = 1) ∧ post (some (.inl (1))) W) ∧ (¬ r137 = (1 - (W.1 90 25)) → 90 < n ∧ 12 = 12 ∧ (¬ t = (W.1 90 27) → 1 = 1 ∧ ((0 : Int) = 0 ∨ (0 : Int) = 1) ∧ post (some (.inl (0))) W) ∧ (t = (W.1 90 27) → 1 = 1 ∧ ((1 : Int) = 0 ∨ (1 : Int) = 1) ∧ post (some (.inl (1))) W)) from (have h := (((((h).2 c128_41)).2).2 r137 hr137); ⟨(Nat.lt_of_lt_of_le (by decide) hn), rfl, ⟨(h).1, ⟨fun c146_51 => ⟨rfl, Or.inr rfl, (((h).2).1 c146_51)⟩, fun c146_51 => ⟨(Nat.lt_of_lt_of_le (by decide) hn), rfl, ⟨fun c154_55 => (have h := (((((h).2).2 c146_51)).1 c154_55); ⟨rfl, Or.inl rfl, h⟩), fun c154_55 => (have h := (((((h).2).2 c146_51)).2 c154_55); ⟨rfl, Or.inr rfl, h⟩)⟩⟩⟩⟩⟩))⟩⟩⟩⟩)⟩⟩⟩)⟩)⟩)⟩⟩)⟩)⟩, fun c43_16 => ⟨(by decide), (have h := ((((((h).2).2).2 c43_16)).2 _ (z_dv (by decide) (((((h).2).2).2 c43_16)).1)); ⟨(Nat.lt_of_lt_of_le (by decide) hn), rfl, ⟨fun c54_22 => ⟨fun c63_24 => (have h := ((((h).1 c54_22)).1 c63_24); ⟨rfl, Or.inl rfl, h⟩), fun c63_24 => (have h := ((((h).1 c54_22)).2 c63_24); ⟨(Nat.lt_of_lt_of_le (by decide) hn), rfl, ⟨(h).1, ⟨(Nat.lt_of_lt_of_le (by decide) hn), rfl, ((h).2).1, ⟨fun c74_31 => ⟨rfl, Or.inl rfl, ((((h).2).2).1 c74_31)⟩, fun c74_31 => ⟨(Nat.lt_of_lt_of_le (by decide) hn), rfl, ⟨(Nat.lt_of_lt_of_le (by decide) hn), rfl, (((((h).2).2).2 c74_31)).1, (have h := (((((h).2).2).2 c74_31)).2; ⟨fun c83_36 => ⟨rfl, Or.inl rfl, ((h).1 c83_36)⟩, fun c83_36 => ⟨rfl, Or.inr rfl, ((h).2 c83_36)⟩⟩)⟩⟩⟩⟩⟩⟩)⟩, fun c54_22 => ⟨fun c63_25 => (have h := ((((h).2 c54_22)).1 c63_25); ⟨rfl, Or.inl rfl, h⟩), fun c63_25 => (have h := ((((h).2 c54_22)).2 c63_25); ⟨(Nat.lt_of_lt_of_le (by decide) hn), rfl, ⟨(h).1, ⟨(Nat.lt_of_lt_of_le (by decide) hn), rfl, ((h).2).1, ⟨fun c74_32 => ⟨rfl, Or.inl rfl, ((((h).2).2).1 c74_32)⟩, fun c74_32 => ⟨(Nat.lt_of_lt_of_le (by decide) hn), rfl, ⟨(Nat.lt_of_lt_of_le (by decide) hn), rfl, (((((h).2).2).2 c74_32)).1, (have h := (((((h).2).2).2 c74_32)).2; ⟨fun c83_37 => ⟨rfl, Or.inl rfl, ((h).1 c83_37)⟩, fun c83_37 => ⟨rfl, Or.inr rfl, ((h).2 c83_37)⟩⟩)⟩⟩⟩⟩⟩⟩)⟩⟩⟩)⟩⟩⟩⟩), fun c19_9 => (have h := (((((h).1 c4_2)).2).2 c19_9); ⟨(Nat.lt_of_lt_of_le (by decide) hn), rfl, ⟨(Nat.lt_of_lt_of_le (by decide) hn), rfl, (h).1, ⟨fun c28_14 => ⟨rfl, Or.inl rfl, (((h).2).1 c28_14)⟩, fun c28_14 => ⟨rfl, Or.inr rfl, (((h).2).2 c28_14)⟩⟩⟩⟩)⟩⟩, fun c4_2 => ⟨(((h).2 c4_2)).1, ⟨fun c19_10 => (have h := (((((h).2 c4_2)).2).1 c19_10); ⟨(h).1, ⟨((h).2).1, ⟨fun c43_17 => ⟨(by decide), (have h := ((((((h).2).2).1 c43_17)).2 _ (z_rm (by decide) (((((h).2).2).1 c43_17)).1)); ⟨(by decide), (have h := ((h).2 _ (z_rm (by decide) (h).1)); ⟨(h).1, ⟨(by decide), (have h := (((h).2).2 _ (z_dv (by decide) ((h).2).1)); ⟨(by decide), (have h := ((h).2 _ (z_dv (by decide) (h).1)); ⟨(by decide), (have h := (h ((lI 8 / lI 8).toInt) (by decide +kernel)); ⟨(h).1, ⟨fun c116_36 => ⟨rfl, Or.inl rfl, (((h).2).1 c116_36)⟩, fun c116_36 => ⟨fun c122_39 => (have h := (((((h).2).2 c116_36)).1 c122_39); ⟨(Nat.lt_of_lt_of_le (by decide) hn), rfl, ⟨(Nat.lt_of_lt_of_le (by decide) hn), rfl, (h).1, ⟨rfl, rfl, rfl, rfl, rfl, rfl, W.2.1 110 t, rfl, ((h).2).1, fun r137 hr137 => (show 90 < n ∧ 12 = 12 ∧ (-2147483648 ≤ 1 - (W.1 90 25) ∧ 1 - (W.1 90 25) ≤ 2147483647) ∧ (r137 = (1 - (W.1 90 25)) → 1 = 1 ∧ ((1 : Int) = 0 ∨ (1 : Int) = 1) ∧ post (some (.inl (1))) W) ∧ (¬ r137 = (1 - (W.1 90 25)) → 90 < n ∧ 12 = 12 ∧ (¬ t = (W.1 90 27) → 1 = 1 ∧ ((0 : Int) = 0 ∨ (0 : Int) = 1) ∧ post (some (.inl (0))) W) ∧ (t = (W.1 90 27) → 1 = 1 ∧ ((1 : Int) = 0 ∨ (1 : Int) = 1) ∧ post (some (.inl (1))) W)) from ⟨(Nat.lt_of_lt_of_le (by decide) hn), rfl, ⟨((((h).2).2 r137 hr137)).1, (have h := ((((h).2).2 r137 hr137)).2; ⟨fun c146_49 => ⟨rfl, Or.inr rfl, ((h).1 c146_49)⟩, fun c146_49 => ⟨(Nat.lt_of_lt_of_le (by decide) hn), rfl, ⟨fun c154_53 => (have h := ((((h).2 c146_49)).1 c154_53); ⟨rfl, Or.inl rfl, h⟩), fun c154_53 => (have h := ((((h).2 c146_49)).2 c154_53); ⟨rfl, Or.inr rfl, h⟩)⟩⟩⟩)⟩⟩)⟩⟩⟩), fun c122_39 => (have h := (((((h).2).2 c116_36)).2 c122_39); ⟨fun c128_42 => ⟨rfl, Or.inl rfl, ((h).1 c128_42)⟩, fun c128_42 => ⟨(Nat.lt_of_lt_of_le (by decide) hn), rfl, ⟨(Nat.lt_of_lt_of_le (by decide) hn), rfl, (((h).2 c128_42)).1, ⟨rfl, rfl, rfl, rfl, rfl, rfl, W.2.1 110 t, rfl, ((((h).2 c128_42)).2).1, fun r137 hr137 => (show 90 < n ∧ 12 = 12 ∧ (-2147483648 ≤ 1 - (W.1 90 25) ∧ 1 - (W.1 90 25) ≤ 2147483647) ∧ (r137 = (1 - (W.1 90 25)) → 1 = 1 ∧ ((1 : Int) = 0 ∨ (1 : Int) = 1) ∧ post (some (.inl (1))) W) ∧ (¬ r137 = (1 - (W.1 90 25)) → 90 < n ∧ 12 = 12 ∧ (¬ t = (W.1 90 27) → 1 = 1 ∧ ((0 : Int) = 0 ∨ (0 : Int) = 1) ∧ post (some (.inl (0))) W) ∧ (t = (W.1 90 27) → 1 = 1 ∧ ((1 : Int) = 0 ∨ (1 : Int) = 1) ∧ post (some (.inl (1))) W)) from (have h := (((((h).2 c128_42)).2).2 r137 hr137); ⟨(Nat.lt_of_lt_of_le (by decide) hn), rfl, ⟨(h).1, ⟨fun c146_52 => ⟨rfl, Or.inr rfl, (((h).2).1 c146_52)⟩, fun c146_52 => ⟨(Nat.lt_of_lt_of_le (by decide) hn), rfl, ⟨fun c154_56 => (have h := (((((h).2).2 c146_52)).1 c154_56); ⟨rfl, Or.inl rfl, h⟩), fun c154_56 => (have h := (((((h).2).2 c146_52)).2 c154_56); ⟨rfl, Or.inr rfl, h⟩)⟩⟩⟩⟩⟩))⟩⟩⟩⟩)⟩⟩⟩)⟩)⟩)⟩⟩)⟩)⟩, fun c43_17 => ⟨(by decide), (have h := ((((((h).2).2).2 c43_17)).2 _ (z_dv (by decide) (((((h).2).2).2 c43_17)).1)); ⟨(Nat.lt_of_lt_of_le (by decide) hn), rfl, ⟨fun c54_23 => ⟨fun c63_25 => (have h := ((((h).1 c54_23)).1 c63_25); ⟨rfl, Or.inl rfl, h⟩), fun c63_25 => (have h := ((((h).1 c54_23)).2 c63_25); ⟨(Nat.lt_of_lt_of_le (by decide) hn), rfl, ⟨(h).1, ⟨(Nat.lt_of_lt_of_le (by decide) hn), rfl, ((h).2).1, ⟨fun c74_32 => ⟨rfl, Or.inl rfl, ((((h).2).2).1 c74_32)⟩, fun c74_32 => ⟨(Nat.lt_of_lt_of_le (by decide) hn), rfl, ⟨(Nat.lt_of_lt_of_le (by decide) hn), rfl, (((((h).2).2).2 c74_32)).1, (have h := (((((h).2).2).2 c74_32)).2; ⟨fun c83_37 => ⟨rfl, Or.inl rfl, ((h).1 c83_37)⟩, fun c83_37 => ⟨rfl, Or.inr rfl, ((h).2 c83_37)⟩⟩)⟩⟩⟩⟩⟩⟩)⟩, fun c54_23 => ⟨fun c63_26 => (have h := ((((h).2 c54_23)).1 c63_26); ⟨rfl, Or.inl rfl, h⟩), fun c63_26 => (have h := ((((h).2 c54_23)).2 c63_26); ⟨(Nat.lt_of_lt_of_le (by decide) hn), rfl, ⟨(h).1, ⟨(Nat.lt_of_lt_of_le (by decide) hn), rfl, ((h).2).1, ⟨fun c74_33 => ⟨rfl, Or.inl rfl, ((((h).2).2).1 c74_33)⟩, fun c74_33 => ⟨(Nat.lt_of_lt_of_le (by decide) hn), rfl, ⟨(Nat.lt_of_lt_of_le (by decide) hn), rfl, (((((h).2).2).2 c74_33)).1, (have h := (((((h).2).2).2 c74_33)).2; ⟨fun c83_38 => ⟨rfl, Or.inl rfl, ((h).1 c83_38)⟩, fun c83_38 => ⟨rfl, Or.inr rfl, ((h).2 c83_38)⟩⟩)⟩⟩⟩⟩⟩⟩)⟩⟩⟩)⟩⟩⟩⟩), fun c19_10 => (have h := (((((h).2 c4_2)).2).2 c19_10); ⟨(Nat.lt_of_lt_of_le (by decide) hn), rfl, ⟨(Nat.lt_of_lt_of_le (by decide) hn), rfl, (h).1, ⟨fun c28_15 => ⟨rfl, Or.inl rfl, (((h).2).1 c28_15)⟩, fun c28_15 => ⟨rfl, Or.inr rfl, (((h).2).2 c28_15)⟩⟩⟩⟩)⟩⟩⟩⟩)
theorem zk_MTpaw {l : Launch} {E : jE} {n : Nat} (hn : 142 ≤ n) : zHas l E jcl jtb lw_tbl zsh n (y_MT_pawnGoes, false, 3, 12, { frames := 1, cells := 0, slots := 0, locals := 20 }, zc_MTpaw) := by
  refine ⟨⟨rfl, rfl, ⟨show 1 ≤ 3 by decide, m_MT_pawnGoes, i_MT_pawnGoes, e_MT_pawnGoes, fun _ => ⟨_, rfl, rfl⟩⟩⟩, ?_⟩
  rintro vz W po hO hW ⟨f, t, rfl, hq, hp⟩
  refine zmet (m := zm_MTpaw) rfl (by decide) (fun _ _ => jtF_ok) lo_MT ao_ZMTpaw jC (fun q h => by cases h) (aAllc (fun G h => by obtain rfl := Option.some.inj h; exact ql_MT_162) (fun q h => by cases h)) (aAllc (zk_MTsideOf hn) (fun q h => by cases h)) (Nat.le_of_ble_eq_true rfl) hO hW (200) ?_
  obtain ⟨hf0, ht0, hk⟩ := hq
  have hm := hk.1
  have hs : (zQ W).2.1 = 0 ∨ (zQ W).2.1 = 1 := by have := hk.2.1; show W.1 90 25 = 0 ∨ W.1 90 25 = 1; omega
  have eS : (zQ W).2.1 = W.1 90 25 := rfl
  have eP : (zQ W).2.2.2 = W.1 90 27 := rfl
  have eM : ∀ i, 0 ≤ i → i ≤ 63 → (zQ W).1 i = W.2.1 110 i := fun i h1 h2 => zMn_i ⟨h1, h2⟩
  have eT := eM t ht0.1 ht0.2
  rw [eS] at hs
  rw [← eS] at hs
  exact zp_MTpaw_0 (by omega) hn ⟨fun c4 => ⟨(by omega), ⟨fun c19 => ⟨(by omega), ⟨(by omega), ⟨fun c43 => ⟨(by omega), fun t0 e0 => ⟨(by omega), fun t1 e1 => ⟨(by omega), ⟨(by omega), fun t2 e2 => ⟨(by omega), fun t3 e3 => (fun t4 e4 => ⟨(by omega), ⟨fun c116 => (hp 0 (by rw [zPG hs hf0 ht0]; unfold rTk; grind [xBl])), fun c116 => ⟨fun c122 => ⟨(by omega), ⟨(by have := hm t ht0.1 ht0.2; omega), fun r137 hr137 => ⟨(by omega), ⟨fun c146 => (hp 1 (by rw [zPG hs hf0 ht0]; unfold rTk; grind [xBl])), fun c146 => ⟨fun c154 => (hp 0 (by rw [zPG hs hf0 ht0]; unfold rTk; grind [xBl])), fun c154 => (hp 1 (by rw [zPG hs hf0 ht0]; unfold rTk; grind [xBl]))⟩⟩⟩⟩⟩, fun c122 => ⟨fun c128 => (hp 0 (by rw [zPG hs hf0 ht0]; unfold rTk; grind [xBl])), fun c128 => ⟨(by omega), ⟨(by have := hm t ht0.1 ht0.2; omega), fun r137 hr137 => ⟨(by omega), ⟨fun c146 => (hp 1 (by rw [zPG hs hf0 ht0]; unfold rTk; grind [xBl])), fun c146 => ⟨fun c154 => (hp 0 (by rw [zPG hs hf0 ht0]; unfold rTk; grind [xBl])), fun c154 => (hp 1 (by rw [zPG hs hf0 ht0]; unfold rTk; grind [xBl]))⟩⟩⟩⟩⟩⟩⟩⟩⟩)⟩⟩⟩⟩⟩, fun c43 => ⟨(by omega), fun t5 e5 => ⟨fun c54 => ⟨fun c63 => (hp 0 (by rw [zPG hs hf0 ht0]; unfold rTk; grind [xBl])), fun c63 => ⟨(by omega), ⟨(by omega), ⟨fun c74 => (hp 0 (by rw [zPG hs hf0 ht0]; unfold rTk; grind [xBl])), fun c74 => ⟨(by omega), ⟨fun c83 => (hp 0 (by rw [zPG hs hf0 ht0]; unfold rTk; grind [xBl])), fun c83 => (hp 1 (by rw [zPG hs hf0 ht0]; unfold rTk; grind [xBl]))⟩⟩⟩⟩⟩⟩, fun c54 => ⟨fun c63 => (hp 0 (by rw [zPG hs hf0 ht0]; unfold rTk; grind [xBl])), fun c63 => ⟨(by omega), ⟨(by omega), ⟨fun c74 => (hp 0 (by rw [zPG hs hf0 ht0]; unfold rTk; grind [xBl])), fun c74 => ⟨(by omega), ⟨fun c83 => (hp 0 (by rw [zPG hs hf0 ht0]; unfold rTk; grind [xBl])), fun c83 => (hp 1 (by rw [zPG hs hf0 ht0]; unfold rTk; grind [xBl]))⟩⟩⟩⟩⟩⟩⟩⟩⟩⟩⟩, fun c19 => ⟨(by omega), ⟨fun c28 => (hp 0 (by rw [zPG hs hf0 ht0]; unfold rTk; grind [xBl])), fun c28 => (hp 1 (by rw [zPG hs hf0 ht0]; unfold rTk; grind [xBl]))⟩⟩⟩⟩, fun c4 => ⟨(by omega), ⟨fun c19 => ⟨(by omega), ⟨(by omega), ⟨fun c43 => ⟨(by omega), fun t6 e6 => ⟨(by omega), fun t7 e7 => ⟨(by omega), ⟨(by omega), fun t8 e8 => ⟨(by omega), fun t9 e9 => (fun t10 e10 => ⟨(by omega), ⟨fun c116 => (hp 0 (by rw [zPG hs hf0 ht0]; unfold rTk; grind [xBl])), fun c116 => ⟨fun c122 => ⟨(by omega), ⟨(by have := hm t ht0.1 ht0.2; omega), fun r137 hr137 => ⟨(by omega), ⟨fun c146 => (hp 1 (by rw [zPG hs hf0 ht0]; unfold rTk; grind [xBl])), fun c146 => ⟨fun c154 => (hp 0 (by rw [zPG hs hf0 ht0]; unfold rTk; grind [xBl])), fun c154 => (hp 1 (by rw [zPG hs hf0 ht0]; unfold rTk; grind [xBl]))⟩⟩⟩⟩⟩, fun c122 => ⟨fun c128 => (hp 0 (by rw [zPG hs hf0 ht0]; unfold rTk; grind [xBl])), fun c128 => ⟨(by omega), ⟨(by have := hm t ht0.1 ht0.2; omega), fun r137 hr137 => ⟨(by omega), ⟨fun c146 => (hp 1 (by rw [zPG hs hf0 ht0]; unfold rTk; grind [xBl])), fun c146 => ⟨fun c154 => (hp 0 (by rw [zPG hs hf0 ht0]; unfold rTk; grind [xBl])), fun c154 => (hp 1 (by rw [zPG hs hf0 ht0]; unfold rTk; grind [xBl]))⟩⟩⟩⟩⟩⟩⟩⟩⟩)⟩⟩⟩⟩⟩, fun c43 => ⟨(by omega), fun t11 e11 => ⟨fun c54 => ⟨fun c63 => (hp 0 (by rw [zPG hs hf0 ht0]; unfold rTk; grind [xBl])), fun c63 => ⟨(by omega), ⟨(by omega), ⟨fun c74 => (hp 0 (by rw [zPG hs hf0 ht0]; unfold rTk; grind [xBl])), fun c74 => ⟨(by omega), ⟨fun c83 => (hp 0 (by rw [zPG hs hf0 ht0]; unfold rTk; grind [xBl])), fun c83 => (hp 1 (by rw [zPG hs hf0 ht0]; unfold rTk; grind [xBl]))⟩⟩⟩⟩⟩⟩, fun c54 => ⟨fun c63 => (hp 0 (by rw [zPG hs hf0 ht0]; unfold rTk; grind [xBl])), fun c63 => ⟨(by omega), ⟨(by omega), ⟨fun c74 => (hp 0 (by rw [zPG hs hf0 ht0]; unfold rTk; grind [xBl])), fun c74 => ⟨(by omega), ⟨fun c83 => (hp 0 (by rw [zPG hs hf0 ht0]; unfold rTk; grind [xBl])), fun c83 => (hp 1 (by rw [zPG hs hf0 ht0]; unfold rTk; grind [xBl]))⟩⟩⟩⟩⟩⟩⟩⟩⟩⟩⟩, fun c19 => ⟨(by omega), ⟨fun c28 => (hp 0 (by rw [zPG hs hf0 ht0]; unfold rTk; grind [xBl])), fun c28 => (hp 1 (by rw [zPG hs hf0 ht0]; unfold rTk; grind [xBl]))⟩⟩⟩⟩⟩
end
section
/-! a man goes: by its kind; rays (pure) -/
theorem zsq7 {x : Int} (h : -7 ≤ x ∧ x ≤ 7) : 0 ≤ x * x ∧ x * x ≤ 49 := by
  obtain rfl | rfl | rfl | rfl | rfl | rfl | rfl | rfl | rfl | rfl | rfl | rfl | rfl | rfl | rfl : x = -7 ∨ x = -6 ∨ x = -5 ∨ x = -4 ∨ x = -3 ∨ x = -2 ∨ x = -1 ∨ x = 0 ∨ x = 1 ∨ x = 2 ∨ x = 3 ∨ x = 4 ∨ x = 5 ∨ x = 6 ∨ x = 7 := by omega
  all_goals decide
theorem zsq4 {x : Int} (h : -7 ≤ x ∧ x ≤ 7) : (x * x = 4 ↔ x = 2 ∨ x = -2) ∧ (x * x = 0 ↔ x = 0) := by
  obtain rfl | rfl | rfl | rfl | rfl | rfl | rfl | rfl | rfl | rfl | rfl | rfl | rfl | rfl | rfl : x = -7 ∨ x = -6 ∨ x = -5 ∨ x = -4 ∨ x = -3 ∨ x = -2 ∨ x = -1 ∨ x = 0 ∨ x = 1 ∨ x = 2 ∨ x = 3 ∨ x = 4 ∨ x = 5 ∨ x = 6 ∨ x = 7 := by omega
  all_goals decide
theorem zGO1 {q : rQ} {f t : Int} (h : q.1 f % 8 = 1) : rGO q f t ↔ rPG q f t := by
  unfold rGO
  constructor
  · rintro (z | z)
    · exact z.2
    · exact absurd h z.1
  · exact fun z => Or.inl ⟨h, z⟩
theorem zGO2 {q : rQ} {f t : Int} (f0 : 0 ≤ f ∧ f ≤ 63) (t0 : 0 ≤ t ∧ t ≤ 63) (h : q.1 f % 8 = 2) : rGO q f t ↔ (t % 8 - f % 8) * (t % 8 - f % 8) + (t / 8 - f / 8) * (t / 8 - f / 8) = 5 := by
  unfold rGO
  rw [h, zReL (Or.inl rfl) f0 t0]
  constructor
  · rintro (z | ⟨-, (z | z) | z⟩)
    · omega
    · exact z.2
    · omega
    · omega
  · exact fun z => Or.inr ⟨by decide, Or.inl (Or.inl ⟨rfl, z⟩)⟩
theorem zGO6 {q : rQ} {f t : Int} (f0 : 0 ≤ f ∧ f ≤ 63) (t0 : 0 ≤ t ∧ t ≤ 63) (h : q.1 f % 8 = 6) : rGO q f t ↔ ((1 ≤ (t % 8 - f % 8) * (t % 8 - f % 8) + (t / 8 - f / 8) * (t / 8 - f / 8) ∧ (t % 8 - f % 8) * (t % 8 - f % 8) + (t / 8 - f / 8) * (t / 8 - f / 8) ≤ 2) ∨ (f = 56 * q.2.1 + 4 ∧ ((rCa q 1 ∧ t = f + 2) ∨ (rCa q 0 ∧ t = f - 2)))) := by
  unfold rGO
  rw [h, zReL (Or.inr rfl) f0 t0]
  constructor
  · rintro (z | ⟨-, (z | z) | z⟩)
    · omega
    · omega
    · exact Or.inl z.2
    · exact Or.inr z.2
  · rintro (z | z)
    · exact Or.inr ⟨by decide, Or.inl (Or.inr ⟨rfl, z⟩)⟩
    · exact Or.inr ⟨by decide, Or.inr ⟨rfl, z⟩⟩
theorem zGOs {q : rQ} {f t : Int} (h : q.1 f % 8 = 3 ∨ q.1 f % 8 = 4 ∨ q.1 f % 8 = 5) : rGO q f t ↔ rRe q.1 (q.1 f % 8) f t := by
  unfold rGO
  constructor
  · rintro (z | ⟨-, z | z⟩)
    · omega
    · exact z
    · omega
  · exact fun z => Or.inr ⟨by omega, Or.inl z⟩
theorem zRay {s t df dr j : Int} (s0 : 0 ≤ s ∧ s ≤ 63) (t0 : 0 ≤ t ∧ t ≤ 63) (d0 : -1 ≤ df ∧ df ≤ 1) (d1 : -1 ≤ dr ∧ dr ≤ 1) (j1 : 1 ≤ j) (e1 : t % 8 = s % 8 + j * df) (e2 : t / 8 = s / 8 + j * dr) : (0 ≤ rSp s df dr ∧ rSp s df dr ≤ 63) ∧ t % 8 = rSp s df dr % 8 + (j - 1) * df ∧ t / 8 = rSp s df dr / 8 + (j - 1) * dr := by
  obtain rfl | rfl | rfl : df = -1 ∨ df = 0 ∨ df = 1 := by omega
  all_goals
    obtain rfl | rfl | rfl : dr = -1 ∨ dr = 0 ∨ dr = 1 := by omega
    all_goals (unfold rSp; split <;> omega)
theorem zRay0 {s t df dr : Int} (t0 : 0 ≤ t ∧ t ≤ 63) (s0 : 0 ≤ s ∧ s ≤ 63) (h : t % 8 - s % 8 = 0 ∨ t / 8 - s / 8 = 0 ∨ t % 8 - s % 8 = t / 8 - s / 8 ∨ t % 8 - s % 8 = -(t / 8 - s / 8)) (hf : (0 < t % 8 - s % 8 ∧ df = 1) ∨ (t % 8 - s % 8 < 0 ∧ df = -1) ∨ (t % 8 - s % 8 = 0 ∧ df = 0)) (hr : (0 < t / 8 - s / 8 ∧ dr = 1) ∨ (t / 8 - s / 8 < 0 ∧ dr = -1) ∨ (t / 8 - s / 8 = 0 ∧ dr = 0)) (hn : ¬ (t % 8 - s % 8 = 0 ∧ t / 8 - s / 8 = 0)) : ∃ j : Int, 1 ≤ j ∧ j ≤ 7 ∧ t % 8 = s % 8 + j * df ∧ t / 8 = s / 8 + j * dr := by
  rcases hf with ⟨a, rfl⟩ | ⟨a, rfl⟩ | ⟨a, rfl⟩
  · refine ⟨t % 8 - s % 8, by omega, by omega, by omega, ?_⟩
    rcases hr with ⟨b, rfl⟩ | ⟨b, rfl⟩ | ⟨b, rfl⟩ <;> omega
  · refine ⟨-(t % 8 - s % 8), by omega, by omega, by omega, ?_⟩
    rcases hr with ⟨b, rfl⟩ | ⟨b, rfl⟩ | ⟨b, rfl⟩ <;> omega
  · rcases hr with ⟨b, rfl⟩ | ⟨b, rfl⟩ | ⟨b, rfl⟩
    · exact ⟨t / 8 - s / 8, by omega, by omega, by omega, by omega⟩
    · exact ⟨-(t / 8 - s / 8), by omega, by omega, by omega, by omega⟩
    · omega
/-- own men stand, others don't; with it a man goes -/
noncomputable def zGo (q : rQ) (f t : Int) : Prop := rOwn q f ∧ ¬ rOwn q t ∧ rGO q f t
noncomputable def zSg (x : Int) : Int := if 0 < x then 1 else if x < 0 then -1 else 0
theorem zsg (x : Int) : (0 < x ∧ zSg x = 1) ∨ (x < 0 ∧ zSg x = -1) ∨ (x = 0 ∧ zSg x = 0) := by
  unfold zSg
  by_cases a : 0 < x
  · rw [if_pos a]; exact Or.inl ⟨a, rfl⟩
  · rw [if_neg a]
    by_cases b : x < 0
    · rw [if_pos b]; exact Or.inr (Or.inl ⟨b, rfl⟩)
    · rw [if_neg b]; exact Or.inr (Or.inr ⟨by omega, rfl⟩)
theorem zReN {M : Int → Int} {k s u : Int} (hk : k = 3 ∨ k = 4 ∨ k = 5) (s0 : 0 ≤ s ∧ s ≤ 63) (h : (¬ (u % 8 - s % 8 = 0 ∨ u / 8 - s / 8 = 0) ∧ ¬ u % 8 - s % 8 = u / 8 - s / 8 ∧ ¬ u % 8 - s % 8 = -(u / 8 - s / 8)) ∨ ((u % 8 - s % 8 = 0 ∨ u / 8 - s / 8 = 0) ∧ k = 3) ∨ (¬ (u % 8 - s % 8 = 0 ∨ u / 8 - s / 8 = 0) ∧ k = 4)) : ¬ rRe M k s u := by
  rw [zReS hk s0 (zsg _) (zsg _)]
  rintro ⟨a, b, -⟩
  rcases zsg (u % 8 - s % 8) with ⟨x1, x2⟩ | ⟨x1, x2⟩ | ⟨x1, x2⟩ <;> rcases zsg (u / 8 - s / 8) with ⟨y1, y2⟩ | ⟨y1, y2⟩ | ⟨y1, y2⟩ <;> rw [x2, y2] at b <;> omega
theorem zReY {M : Int → Int} {k s u df dr : Int} (hk : k = 3 ∨ k = 4 ∨ k = 5) (s0 : 0 ≤ s ∧ s ≤ 63) (hf : (0 < u % 8 - s % 8 ∧ df = 1) ∨ (u % 8 - s % 8 < 0 ∧ df = -1) ∨ (u % 8 - s % 8 = 0 ∧ df = 0)) (hr : (0 < u / 8 - s / 8 ∧ dr = 1) ∨ (u / 8 - s / 8 < 0 ∧ dr = -1) ∨ (u / 8 - s / 8 = 0 ∧ dr = 0)) (h : (u % 8 - s % 8 = 0 ∨ u / 8 - s / 8 = 0) ∨ u % 8 - s % 8 = u / 8 - s / 8 ∨ u % 8 - s % 8 = -(u / 8 - s / 8)) (h3 : ¬ ((u % 8 - s % 8 = 0 ∨ u / 8 - s / 8 = 0) ∧ k = 3)) (h4 : ¬ (¬ (u % 8 - s % 8 = 0 ∨ u / 8 - s / 8 = 0) ∧ k = 4)) (hn : ¬ (u % 8 - s % 8 = 0 ∧ u / 8 - s / 8 = 0)) : rRe M k s u ↔ rWf M df dr (rSp s df dr) u := by
  rw [zReS hk s0 hf hr]
  constructor
  · exact fun z => z.2.2
  · refine fun z => ⟨by omega, ?_, z⟩
    rcases hf with ⟨a, rfl⟩ | ⟨a, rfl⟩ | ⟨a, rfl⟩ <;> rcases hr with ⟨b, rfl⟩ | ⟨b, rfl⟩ | ⟨b, rfl⟩ <;> omega
theorem zKc {f t s : Int} (h0 : 0 ≤ s ∧ s ≤ 1) (e : f = 4 + 56 * s) (h : t = f + 2 ∨ t = f - 2) : t / 8 - f / 8 = 0 ∧ (t % 8 - f % 8) * (t % 8 - f % 8) + (t / 8 - f / 8) * (t / 8 - f / 8) = 4 := by
  have e1 : t / 8 - f / 8 = 0 := by omega
  refine ⟨e1, ?_⟩
  rw [e1]
  have e2 : t % 8 - f % 8 = 2 ∨ t % 8 - f % 8 = -2 := by omega
  rcases e2 with e2 | e2 <;> rw [e2] <;> decide
end
section
/-! the reference, Texts: goes -/
noncomputable def ak_ZMTgoes : List jI := [(.aload_n 0, 1, (0, 0, 0, 0, 0)), (.getfield 71, 3, (12, 24, 2055, 0, 0)), (.iload_n 1, 1, (1, 0, 0, 0, 0)), (.iaload, 1, (0, 0, 0, 0, 0)), (.invokestatic 162, 3, (0, 0, 1963, 0, 0)), (.aload_n 0, 1, (0, 0, 0, 0, 0)), (.getfield 122, 3, (12, 25, 2057, 0, 0)), (.if_icmp .ne 24, 3, (37, 0, 0, 0, 0)), (.aload_n 0, 1, (0, 0, 0, 0, 0)), (.getfield 71, 3, (12, 24, 2055, 0, 0)), (.iload_n 2, 1, (2, 0, 0, 0, 0)), (.iaload, 1, (0, 0, 0, 0, 0)), (.invokestatic 162, 3, (0, 0, 1963, 0, 0)), (.aload_n 0, 1, (0, 0, 0, 0, 0)), (.getfield 122, 3, (12, 25, 2057, 0, 0)), (.if_icmp .eq 8, 3, (37, 0, 0, 0, 0)), (.iload_n 1, 1, (1, 0, 0, 0, 0)), (.iload_n 2, 1, (2, 0, 0, 0, 0)), (.if_icmp .ne 5, 3, (39, 0, 0, 0, 0)), (.iconst 0, 1, (0, 0, 0, 0, 0)), (.ireturn, 1, (0, 0, 0, 0, 0)), (.aload_n 0, 1, (0, 0, 0, 0, 0)), (.getfield 71, 3, (12, 24, 2055, 0, 0)), (.iload_n 1, 1, (1, 0, 0, 0, 0)), (.iaload, 1, (0, 0, 0, 0, 0)), (.invokestatic 137, 3, (1, 0, 1941, 0, 0)), (.istore_n 3, 1, (3, 0, 0, 0, 0)), (.iload_n 3, 1, (3, 0, 0, 0, 0)), (.iconst 1, 1, (0, 0, 0, 1, 0)), (.if_icmp .ne 10, 3, (61, 0, 0, 0, 0)), (.aload_n 0, 1, (0, 0, 0, 0, 0)), (.iload_n 1, 1, (1, 0, 0, 0, 0)), (.iload_n 2, 1, (2, 0, 0, 0, 0)), (.invokevirtual 165, 3, (2, 0, 1970, 0, 0)), (.ireturn, 1, (0, 0, 0, 0, 0)), (.iload_n 2, 1, (2, 0, 0, 0, 0)), (.bipush 8, 2, (0, 0, 0, 8, 0)), (.irem, 1, (0, 0, 0, 0, 0)), (.iload_n 1, 1, (1, 0, 0, 0, 0)), (.bipush 8, 2, (0, 0, 0, 8, 0)), (.irem, 1, (0, 0, 0, 0, 0)), (.isub, 1, (0, 0, 0, 0, 0)), (.istore 4, 2, (4, 0, 0, 0, 0)), (.iload_n 2, 1, (2, 0, 0, 0, 0)), (.bipush 8, 2, (0, 0, 0, 8, 0)), (.idiv, 1, (0, 0, 0, 0, 0)), (.iload_n 1, 1, (1, 0, 0, 0, 0)), (.bipush 8, 2, (0, 0, 0, 8, 0)), (.idiv, 1, (0, 0, 0, 0, 0)), (.isub, 1, (0, 0, 0, 0, 0)), (.istore 5, 2, (5, 0, 0, 0, 0)), (.iload 4, 2, (4, 0, 0, 0, 0)), (.iload 4, 2, (4, 0, 0, 0, 0)), (.imul, 1, (1, 0, 0, 0, 0)), (.iload 5, 2, (5, 0, 0, 0, 0)), (.iload 5, 2, (5, 0, 0, 0, 0)), (.imul, 1, (1, 0, 0, 0, 0)), (.iadd, 1, (0, 0, 0, 0, 0)), (.istore 6, 2, (6, 0, 0, 0, 0)), (.iload_n 3, 1, (3, 0, 0, 0, 0)), (.iconst 2, 1, (0, 0, 0, 2, 0)), (.if_icmp .ne 15, 3, (113, 0, 0, 0, 0)), (.iload 6, 2, (6, 0, 0, 0, 0)), (.iconst 5, 1, (0, 0, 0, 5, 0)), (.if_icmp .ne 7, 3, (111, 0, 0, 0, 0)), (.iconst 1, 1, (0, 0, 0, 1, 0)), (.goto 4, 3, (112, 0, 0, 0, 0)), (.iconst 0, 1, (0, 0, 0, 0, 0)), (.ireturn, 1, (0, 0, 0, 0, 0)), (.iload_n 3, 1, (3, 0, 0, 0, 0)), (.bipush 6, 2, (0, 0, 0, 6, 0)), (.if_icmp .ne 47, 3, (163, 0, 0, 0, 0)), (.iload 6, 2, (6, 0, 0, 0, 0)), (.iconst 3, 1, (0, 0, 0, 3, 0)), (.if_icmp .lt 35, 3, (157, 0, 0, 0, 0)), (.iload_n 1, 1, (1, 0, 0, 0, 0)), (.iconst 4, 1, (0, 0, 0, 4, 0)), (.bipush 56, 2, (0, 0, 0, 56, 0)), (.aload_n 0, 1, (0, 0, 0, 0, 0)), (.getfield 122, 3, (12, 25, 2057, 0, 0)), (.imul, 1, (0, 0, 0, 0, 0)), (.iadd, 1, (0, 0, 0, 0, 0)), (.if_icmp .ne 26, 3, (161, 0, 0, 0, 0)), (.iload 5, 2, (5, 0, 0, 0, 0)), (.ifCond .ne 21, 3, (161, 0, 0, 0, 0)), (.iload 6, 2, (6, 0, 0, 0, 0)), (.iconst 4, 1, (0, 0, 0, 4, 0)), (.if_icmp .ne 15, 3, (161, 0, 0, 0, 0)), (.aload_n 0, 1, (0, 0, 0, 0, 0)), (.iload_n 2, 1, (2, 0, 0, 0, 0)), (.invokevirtual 168, 3, (3, 0, 1974, 0, 0)), (.ifCond .eq 7, 3, (161, 0, 0, 0, 0)), (.iconst 1, 1, (0, 0, 0, 1, 0)), (.goto 4, 3, (162, 0, 0, 0, 0)), (.iconst 0, 1, (0, 0, 0, 0, 0)), (.ireturn, 1, (0, 0, 0, 0, 0)), (.iload 4, 2, (4, 0, 0, 0, 0)), (.ifCond .eq 8, 3, (173, 0, 0, 0, 0)), (.iload 5, 2, (5, 0, 0, 0, 0)), (.ifCond .ne 7, 3, (177, 0, 0, 0, 0)), (.iconst 1, 1, (0, 0, 0, 1, 0)), (.goto 4, 3, (178, 0, 0, 0, 0)), (.iconst 0, 1, (0, 0, 0, 0, 0)), (.istore 7, 2, (7, 0, 0, 0, 0)), (.iload 7, 2, (7, 0, 0, 0, 0)), (.ifCond .ne 18, 3, (200, 0, 0, 0, 0)), (.iload 4, 2, (4, 0, 0, 0, 0)), (.iload 5, 2, (5, 0, 0, 0, 0)), (.if_icmp .eq 11, 3, (200, 0, 0, 0, 0)), (.iload 4, 2, (4, 0, 0, 0, 0)), (.iload 5, 2, (5, 0, 0, 0, 0)), (.ineg, 1, (0, 0, 0, 0, 0)), (.if_icmp .ne 23, 3, (220, 0, 0, 0, 0)), (.iload 7, 2, (7, 0, 0, 0, 0)), (.ifCond .eq 8, 3, (210, 0, 0, 0, 0)), (.iload_n 3, 1, (3, 0, 0, 0, 0)), (.iconst 3, 1, (0, 0, 0, 3, 0)), (.if_icmp .eq 13, 3, (220, 0, 0, 0, 0)), (.iload 7, 2, (7, 0, 0, 0, 0)), (.ifCond .ne 10, 3, (222, 0, 0, 0, 0)), (.iload_n 3, 1, (3, 0, 0, 0, 0)), (.iconst 4, 1, (0, 0, 0, 4, 0)), (.if_icmp .ne 5, 3, (222, 0, 0, 0, 0)), (.iconst 0, 1, (0, 0, 0, 0, 0)), (.ireturn, 1, (0, 0, 0, 0, 0)), (.iload 4, 2, (4, 0, 0, 0, 0)), (.ifCond .le 7, 3, (231, 0, 0, 0, 0)), (.iconst 1, 1, (0, 0, 0, 1, 0)), (.goto 13, 3, (241, 0, 0, 0, 0)), (.iload 4, 2, (4, 0, 0, 0, 0)), (.ifCond .ge 7, 3, (240, 0, 0, 0, 0)), (.iconst (-1), 1, (0, 0, 0, (-1), 0)), (.goto 4, 3, (241, 0, 0, 0, 0)), (.iconst 0, 1, (0, 0, 0, 0, 0)), (.istore 8, 2, (8, 0, 0, 0, 0)), (.iload 5, 2, (5, 0, 0, 0, 0)), (.ifCond .le 7, 3, (252, 0, 0, 0, 0)), (.iconst 1, 1, (0, 0, 0, 1, 0)), (.goto 13, 3, (262, 0, 0, 0, 0)), (.iload 5, 2, (5, 0, 0, 0, 0)), (.ifCond .ge 7, 3, (261, 0, 0, 0, 0)), (.iconst (-1), 1, (0, 0, 0, (-1), 0)), (.goto 4, 3, (262, 0, 0, 0, 0)), (.iconst 0, 1, (0, 0, 0, 0, 0)), (.istore 9, 2, (9, 0, 0, 0, 0)), (.iload_n 1, 1, (1, 0, 0, 0, 0)), (.iload 8, 2, (8, 0, 0, 0, 0)), (.iload 9, 2, (9, 0, 0, 0, 0)), (.invokestatic 104, 3, (4, 0, 1952, 0, 0)), (.istore 10, 2, (10, 0, 0, 0, 0)), (.iload 10, 2, (10, 0, 0, 0, 0)), (.iload_n 2, 1, (2, 0, 0, 0, 0)), (.if_icmp .eq 27, 3, (304, 0, 0, 0, 0)), (.aload_n 0, 1, (0, 0, 0, 0, 0)), (.getfield 71, 3, (12, 24, 2055, 0, 0)), (.iload 10, 2, (10, 0, 0, 0, 0)), (.iaload, 1, (0, 0, 0, 0, 0)), (.ifCond .ne 17, 3, (304, 0, 0, 0, 0)), (.iload 10, 2, (10, 0, 0, 0, 0)), (.iload 8, 2, (8, 0, 0, 0, 0)), (.iload 9, 2, (9, 0, 0, 0, 0)), (.invokestatic 104, 3, (4, 0, 1952, 0, 0)), (.istore 10, 2, (10, 0, 0, 0, 0)), (.goto (-27), 3, (274, 0, 0, 0, 0)), (.iload 10, 2, (10, 0, 0, 0, 0)), (.iload_n 2, 1, (2, 0, 0, 0, 0)), (.if_icmp .ne 7, 3, (314, 0, 0, 0, 0)), (.iconst 1, 1, (0, 0, 0, 1, 0)), (.goto 4, 3, (315, 0, 0, 0, 0)), (.iconst 0, 1, (0, 0, 0, 0, 0)), (.ireturn, 1, (0, 0, 0, 0, 0))]
theorem ao_ZMTgoes : jokLG jtF lk_MT "ChessHouseModel$Texts" jcl jtb 11 prog_18_method_20_code 0 ak_ZMTgoes = true := by decide +kernel
noncomputable def zm_MTgoes : zM := (some .boolean, { frames := 4, cells := 0, slots := 0, locals := 102 }, ([(162, 1963, 0), (137, 1941, 1), (165, 1970, 2), (168, 1974, 3), (104, 1952, 4)], []), [(y_MT_sideOf, true, 1, 0, { frames := 0, cells := 0, slots := 0, locals := 0 }, zc_MTsideOf), (y_MT_kind, true, 1, 0, { frames := 0, cells := 0, slots := 0, locals := 0 }, zc_MTkind), (y_MT_pawnGoes, false, 3, 12, { frames := 1, cells := 0, slots := 0, locals := 20 }, zc_MTpaw), (y_MT_mayCastle, false, 2, 12, { frames := 3, cells := 0, slots := 0, locals := 77 }, zc_MTcas), (y_MT_step, true, 3, 0, { frames := 0, cells := 0, slots := 0, locals := 0 }, zc_MTstep)], ak_ZMTgoes)
noncomputable def zc_MTgoes (vals : List zv) (W : zW) (post : zPo) : Prop := ∃ f t : Int, vals = [.inr (.inr (some (.inl 90))), .inl (f), .inl (t)] ∧ (rGd (zQ W) ∧ zMk W ∧ (0 ≤ W.1 90 26 ∧ W.1 90 26 ≤ 15) ∧ (0 ≤ f ∧ f ≤ 63) ∧ (0 ≤ t ∧ t ≤ 63)) ∧ ∀ r : Int, (xBl r (zGo (zQ W) f t)) → post (some (.inl r)) W
set_option maxRecDepth 8000 in
theorem zp_MTgoes_0 {n K : Nat} {W : zW} {post : zPo} {f t : Int} {u3 u4 u5 u6 u7 u8 u9 u10 : Option zv} (hK : 21 ≤ K) (hn : 142 ≤ n) (h : (0 ≤ f ∧ f < 64) ∧ (0 ≤ (W.2.1 110 f) ∧ (W.2.1 110 f) ≤ 2147483647) ∧ ∀ r6 : Int, (((W.2.1 110 f) = 0 ∧ r6 = -1) ∨ (¬ (W.2.1 110 f) = 0 ∧ r6 = (W.2.1 110 f) / 8)) → (¬ r6 = (W.1 90 25) → post (some (.inl (0))) W) ∧ (r6 = (W.1 90 25) → (0 ≤ t ∧ t < 64) ∧ (0 ≤ (W.2.1 110 t) ∧ (W.2.1 110 t) ≤ 2147483647) ∧ ∀ r22 : Int, (((W.2.1 110 t) = 0 ∧ r22 = -1) ∨ (¬ (W.2.1 110 t) = 0 ∧ r22 = (W.2.1 110 t) / 8)) → (r22 = (W.1 90 25) → post (some (.inl (0))) W) ∧ (¬ r22 = (W.1 90 25) → (¬ f = t → zwp jtb zsh n zm_MTgoes post (K - 19) (lGo ak_ZMTgoes 39) 39 [some (.inr (.inr (some (.inl 90)))), some (.inl (f)), some (.inl (t)), u3, u4, u5, u6, u7, u8, u9, u10] [] W) ∧ (f = t → post (some (.inl (0))) W)))) : zwp jtb zsh n zm_MTgoes post K (lGo ak_ZMTgoes 0) 0 [some (.inr (.inr (some (.inl 90)))), some (.inl (f)), some (.inl (t)), u3, u4, u5, u6, u7, u8, u9, u10] [] W := by
  obtain ⟨kk__, rfl⟩ : ∃ kk__, K = kk__ + 21 := ⟨K - 21, by omega⟩
  exact (show 90 < n ∧ 12 = 12 ∧ 110 < n ∧ FieldType.int = FieldType.int ∧ (0 ≤ f ∧ f < 64) ∧ 3 = 3 ∧ true = true ∧ jin3 162 1963 0 zm_MTgoes.2.2.1.1 = true ∧ lRm zm_MTgoes.2.1 { frames := 0, cells := 0, slots := 0, locals := 0 } 1 = true ∧ Nat.ble 1 1 = true ∧ Nat.ble 0 8 = true ∧ zc_MTsideOf [.inl (W.2.1 110 f)] W (fun vv__ WW__ => zwp jtb zsh n zm_MTgoes post (kk__ + 16) (lGo ak_ZMTgoes 9) 9 [some (.inr (.inr (some (.inl 90)))), some (.inl (f)), some (.inl (t)), u3, u4, u5, u6, u7, u8, u9, u10] (vv__.toList ++ []) WW__) from ⟨(Nat.lt_of_lt_of_le (by decide) hn), rfl, ⟨(Nat.lt_of_lt_of_le (by decide) hn), rfl, (h).1, ⟨rfl, rfl, rfl, rfl, rfl, rfl, W.2.1 110 f, rfl, ((h).2).1, fun r6 hr6 => (show 90 < n ∧ 12 = 12 ∧ (¬ r6 = (W.1 90 25) → 1 = 1 ∧ ((0 : Int) = 0 ∨ (0 : Int) = 1) ∧ post (some (.inl (0))) W) ∧ (r6 = (W.1 90 25) → 90 < n ∧ 12 = 12 ∧ 110 < n ∧ FieldType.int = FieldType.int ∧ (0 ≤ t ∧ t < 64) ∧ 3 = 3 ∧ true = true ∧ jin3 162 1963 0 zm_MTgoes.2.2.1.1 = true ∧ lRm zm_MTgoes.2.1 { frames := 0, cells := 0, slots := 0, locals := 0 } 1 = true ∧ Nat.ble 1 1 = true ∧ Nat.ble 0 8 = true ∧ zc_MTsideOf [.inl (W.2.1 110 t)] W (fun vv__ WW__ => zwp jtb zsh n zm_MTgoes post (kk__ + 8) (lGo ak_ZMTgoes 25) 25 [some (.inr (.inr (some (.inl 90)))), some (.inl (f)), some (.inl (t)), u3, u4, u5, u6, u7, u8, u9, u10] (vv__.toList ++ []) WW__)) from ⟨(Nat.lt_of_lt_of_le (by decide) hn), rfl, ⟨fun c13_7 => (have h := (((((h).2).2 r6 hr6)).1 c13_7); ⟨rfl, Or.inl rfl, h⟩), fun c13_7 => (have h := (((((h).2).2 r6 hr6)).2 c13_7); ⟨(Nat.lt_of_lt_of_le (by decide) hn), rfl, ⟨(Nat.lt_of_lt_of_le (by decide) hn), rfl, (h).1, ⟨rfl, rfl, rfl, rfl, rfl, rfl, W.2.1 110 t, rfl, ((h).2).1, fun r22 hr22 => (show 90 < n ∧ 12 = 12 ∧ (r22 = (W.1 90 25) → 1 = 1 ∧ ((0 : Int) = 0 ∨ (0 : Int) = 1) ∧ post (some (.inl (0))) W) ∧ (¬ r22 = (W.1 90 25) → (¬ f = t → zwp jtb zsh n zm_MTgoes post (kk__ + 2) (lGo ak_ZMTgoes 39) 39 [some (.inr (.inr (some (.inl 90)))), some (.inl (f)), some (.inl (t)), u3, u4, u5, u6, u7, u8, u9, u10] [] W) ∧ (f = t → 1 = 1 ∧ ((0 : Int) = 0 ∨ (0 : Int) = 1) ∧ post (some (.inl (0))) W)) from ⟨(Nat.lt_of_lt_of_le (by decide) hn), rfl, ⟨fun c29_15 => (have h := (((((h).2).2 r22 hr22)).1 c29_15); ⟨rfl, Or.inl rfl, h⟩), fun c29_15 => (have h := (((((h).2).2 r22 hr22)).2 c29_15); ⟨fun c34_18 => ((h).1 c34_18), fun c34_18 => ⟨rfl, Or.inl rfl, ((h).2 c34_18)⟩⟩)⟩⟩)⟩⟩⟩)⟩⟩)⟩⟩⟩)
set_option maxRecDepth 8000 in
theorem zp_MTgoes_39 {n K : Nat} {W : zW} {post : zPo} {f t : Int} {u3 u4 u5 u6 u7 u8 u9 u10 : Option zv} (hK : 14 ≤ K) (hn : 142 ≤ n) (h : (0 ≤ f ∧ f < 64) ∧ (0 ≤ (W.2.1 110 f) ∧ (W.2.1 110 f) ≤ 2147483647) ∧ ∀ r45 : Int, (r45 = (W.2.1 110 f) % 8) → (¬ r45 = 1 → zwp jtb zsh n zm_MTgoes post (K - 9) (lGo ak_ZMTgoes 61) 61 [some (.inr (.inr (some (.inl 90)))), some (.inl (f)), some (.inl (t)), some (.inl (r45)), u4, u5, u6, u7, u8, u9, u10] [] W) ∧ (r45 = 1 → ((0 ≤ f ∧ f ≤ 63) ∧ (0 ≤ t ∧ t ≤ 63) ∧ zMk W) ∧ ∀ r57 : Int, (xBl r57 (rPG (zQ W) f t)) → (r57 = 0 ∨ r57 = 1) ∧ post (some (.inl (r57))) W)) : zwp jtb zsh n zm_MTgoes post K (lGo ak_ZMTgoes 39) 39 [some (.inr (.inr (some (.inl 90)))), some (.inl (f)), some (.inl (t)), u3, u4, u5, u6, u7, u8, u9, u10] [] W := by
  obtain ⟨kk__, rfl⟩ : ∃ kk__, K = kk__ + 14 := ⟨K - 14, by omega⟩
  exact (show 90 < n ∧ 12 = 12 ∧ 110 < n ∧ FieldType.int = FieldType.int ∧ (0 ≤ f ∧ f < 64) ∧ 3 = 3 ∧ true = true ∧ jin3 137 1941 1 zm_MTgoes.2.2.1.1 = true ∧ lRm zm_MTgoes.2.1 { frames := 0, cells := 0, slots := 0, locals := 0 } 1 = true ∧ Nat.ble 1 1 = true ∧ Nat.ble 0 8 = true ∧ zc_MTkind [.inl (W.2.1 110 f)] W (fun vv__ WW__ => zwp jtb zsh n zm_MTgoes post (kk__ + 9) (lGo ak_ZMTgoes 48) 48 [some (.inr (.inr (some (.inl 90)))), some (.inl (f)), some (.inl (t)), u3, u4, u5, u6, u7, u8, u9, u10] (vv__.toList ++ []) WW__) from ⟨(Nat.lt_of_lt_of_le (by decide) hn), rfl, ⟨(Nat.lt_of_lt_of_le (by decide) hn), rfl, (h).1, ⟨rfl, rfl, rfl, rfl, rfl, rfl, W.2.1 110 f, rfl, ((h).2).1, fun r45 hr45 => (show (¬ r45 = 1 → zwp jtb zsh n zm_MTgoes post (kk__ + 5) (lGo ak_ZMTgoes 61) 61 [some (.inr (.inr (some (.inl 90)))), some (.inl (f)), some (.inl (t)), some (.inl (r45)), u4, u5, u6, u7, u8, u9, u10] [] W) ∧ (r45 = 1 → 3 = 3 ∧ false = false ∧ jin3 165 1970 2 zm_MTgoes.2.2.1.1 = true ∧ lRm zm_MTgoes.2.1 { frames := 1, cells := 0, slots := 0, locals := 20 } 5 = true ∧ Nat.ble 3 3 = true ∧ Nat.ble 0 8 = true ∧ 90 < n ∧ 12 = 12 ∧ Nat.ble 1000 12 = false ∧ zc_MTpaw [.inr (.inr (some (.inl 90))), .inl (f), .inl (t)] W (fun vv__ WW__ => zwp jtb zsh n zm_MTgoes post (kk__ + 1) (lGo ak_ZMTgoes 60) 60 [some (.inr (.inr (some (.inl 90)))), some (.inl (f)), some (.inl (t)), some (.inl (r45)), u4, u5, u6, u7, u8, u9, u10] (vv__.toList ++ []) WW__)) from ⟨fun c51_8 => (((((h).2).2 r45 hr45)).1 c51_8), fun c51_8 => (have h := (((((h).2).2 r45 hr45)).2 c51_8); ⟨rfl, rfl, rfl, rfl, rfl, rfl, (Nat.lt_of_lt_of_le (by decide) hn), rfl, rfl, f, t, rfl, (h).1, fun r57 hr57 => (show 1 = 1 ∧ (r57 = 0 ∨ r57 = 1) ∧ post (some (.inl (r57))) W from ⟨rfl, ((h).2 r57 hr57)⟩)⟩)⟩)⟩⟩⟩)
set_option maxRecDepth 8000 in
theorem zp_MTgoes_61 {n K : Nat} {W : zW} {post : zPo} {f t k : Int} {u4 u5 u6 u7 u8 u9 u10 : Option zv} (hK : 53 ≤ K) (hn : 142 ≤ n) (h : (0 ≤ t ∧ t ≤ 2147483647) ∧ ∀ t0 : Int, t0 = t % 8 → (0 ≤ f ∧ f ≤ 2147483647) ∧ ∀ t1 : Int, t1 = f % 8 → (-2147483648 ≤ t0 - t1 ∧ t0 - t1 ≤ 2147483647) ∧ (0 ≤ t ∧ t ≤ 2147483647) ∧ ∀ t2 : Int, t2 = t / 8 → (0 ≤ f ∧ f ≤ 2147483647) ∧ ∀ t3 : Int, t3 = f / 8 → (-2147483648 ≤ t2 - t3 ∧ t2 - t3 ≤ 2147483647) ∧ (-2147483648 ≤ (t0 - t1) * (t0 - t1) ∧ (t0 - t1) * (t0 - t1) ≤ 2147483647) ∧ (-2147483648 ≤ (t2 - t3) * (t2 - t3) ∧ (t2 - t3) * (t2 - t3) ≤ 2147483647) ∧ (-2147483648 ≤ ((t0 - t1) * (t0 - t1)) + ((t2 - t3) * (t2 - t3)) ∧ ((t0 - t1) * (t0 - t1)) + ((t2 - t3) * (t2 - t3)) ≤ 2147483647) ∧ (¬ k = 2 → (¬ k = 6 → zwp jtb zsh n zm_MTgoes post (K - 30) (lGo ak_ZMTgoes 163) 163 [some (.inr (.inr (some (.inl 90)))), some (.inl (f)), some (.inl (t)), some (.inl (k)), some (.inl (t0 - t1)), some (.inl (t2 - t3)), some (.inl (((t0 - t1) * (t0 - t1)) + ((t2 - t3) * (t2 - t3)))), u7, u8, u9, u10] [] W) ∧ (k = 6 → ((((t0 - t1) * (t0 - t1)) + ((t2 - t3) * (t2 - t3))) < 3 → post (some (.inl (1))) W) ∧ (¬ (((t0 - t1) * (t0 - t1)) + ((t2 - t3) * (t2 - t3))) < 3 → (-2147483648 ≤ 56 * (W.1 90 25) ∧ 56 * (W.1 90 25) ≤ 2147483647) ∧ (-2147483648 ≤ 4 + (56 * (W.1 90 25)) ∧ 4 + (56 * (W.1 90 25)) ≤ 2147483647) ∧ (¬ f = (4 + (56 * (W.1 90 25))) → post (some (.inl (0))) W) ∧ (f = (4 + (56 * (W.1 90 25))) → (¬ (t2 - t3) = 0 → post (some (.inl (0))) W) ∧ ((t2 - t3) = 0 → (¬ (((t0 - t1) * (t0 - t1)) + ((t2 - t3) * (t2 - t3))) = 4 → post (some (.inl (0))) W) ∧ ((((t0 - t1) * (t0 - t1)) + ((t2 - t3) * (t2 - t3))) = 4 → (rGd (zQ W) ∧ zMk W ∧ (0 ≤ W.1 90 26 ∧ W.1 90 26 ≤ 15) ∧ (zMn W) (56 * W.1 90 25 + 4) = 8 * W.1 90 25 + 6 ∧ (t = 56 * W.1 90 25 + 6 ∨ t = 56 * W.1 90 25 + 2)) ∧ ∀ r151 : Int, (xBl r151 ((rCa (zQ W) 1 ∧ t = 56 * W.1 90 25 + 4 + 2) ∨ (rCa (zQ W) 0 ∧ t = 56 * W.1 90 25 + 4 - 2))) → (r151 = 0 → post (some (.inl (0))) W) ∧ (¬ r151 = 0 → post (some (.inl (1))) W))))))) ∧ (k = 2 → (¬ (((t0 - t1) * (t0 - t1)) + ((t2 - t3) * (t2 - t3))) = 5 → post (some (.inl (0))) W) ∧ ((((t0 - t1) * (t0 - t1)) + ((t2 - t3) * (t2 - t3))) = 5 → post (some (.inl (1))) W))) : zwp jtb zsh n zm_MTgoes post K (lGo ak_ZMTgoes 61) 61 [some (.inr (.inr (some (.inl 90)))), some (.inl (f)), some (.inl (t)), some (.inl (k)), u4, u5, u6, u7, u8, u9, u10] [] W := by
  obtain ⟨kk__, rfl⟩ : ∃ kk__, K = kk__ + 53 := ⟨K - 53, by omega⟩
  exact (show ¬ (8 : Int) = 0 ∧ ¬ (8 : Int) = 0 ∧ (-2147483648 ≤ ((lI t - lI t / lI 8 * lI 8).toInt) - ((lI f - lI f / lI 8 * lI 8).toInt) ∧ ((lI t - lI t / lI 8 * lI 8).toInt) - ((lI f - lI f / lI 8 * lI 8).toInt) ≤ 2147483647) ∧ ¬ (8 : Int) = 0 ∧ ¬ (8 : Int) = 0 ∧ (-2147483648 ≤ ((lI t / lI 8).toInt) - ((lI f / lI 8).toInt) ∧ ((lI t / lI 8).toInt) - ((lI f / lI 8).toInt) ≤ 2147483647) ∧ (-2147483648 ≤ (((lI t - lI t / lI 8 * lI 8).toInt) - ((lI f - lI f / lI 8 * lI 8).toInt)) * (((lI t - lI t / lI 8 * lI 8).toInt) - ((lI f - lI f / lI 8 * lI 8).toInt)) ∧ (((lI t - lI t / lI 8 * lI 8).toInt) - ((lI f - lI f / lI 8 * lI 8).toInt)) * (((lI t - lI t / lI 8 * lI 8).toInt) - ((lI f - lI f / lI 8 * lI 8).toInt)) ≤ 2147483647) ∧ (-2147483648 ≤ (((lI t / lI 8).toInt) - ((lI f / lI 8).toInt)) * (((lI t / lI 8).toInt) - ((lI f / lI 8).toInt)) ∧ (((lI t / lI 8).toInt) - ((lI f / lI 8).toInt)) * (((lI t / lI 8).toInt) - ((lI f / lI 8).toInt)) ≤ 2147483647) ∧ (-2147483648 ≤ ((((lI t - lI t / lI 8 * lI 8).toInt) - ((lI f - lI f / lI 8 * lI 8).toInt)) * (((lI t - lI t / lI 8 * lI 8).toInt) - ((lI f - lI f / lI 8 * lI 8).toInt))) + ((((lI t / lI 8).toInt) - ((lI f / lI 8).toInt)) * (((lI t / lI 8).toInt) - ((lI f / lI 8).toInt))) ∧ ((((lI t - lI t / lI 8 * lI 8).toInt) - ((lI f - lI f / lI 8 * lI 8).toInt)) * (((lI t - lI t / lI 8 * lI 8).toInt) - ((lI f - lI f / lI 8 * lI 8).toInt))) + ((((lI t / lI 8).toInt) - ((lI f / lI 8).toInt)) * (((lI t / lI 8).toInt) - ((lI f / lI 8).toInt))) ≤ 2147483647) ∧ (¬ k = 2 → (¬ k = 6 → zwp jtb zsh n zm_MTgoes post (kk__ + 23) (lGo ak_ZMTgoes 163) 163 [some (.inr (.inr (some (.inl 90)))), some (.inl (f)), some (.inl (t)), some (.inl (k)), some (.inl (((lI t - lI t / lI 8 * lI 8).toInt) - ((lI f - lI f / lI 8 * lI 8).toInt))), some (.inl (((lI t / lI 8).toInt) - ((lI f / lI 8).toInt))), some (.inl (((((lI t - lI t / lI 8 * lI 8).toInt) - ((lI f - lI f / lI 8 * lI 8).toInt)) * (((lI t - lI t / lI 8 * lI 8).toInt) - ((lI f - lI f / lI 8 * lI 8).toInt))) + ((((lI t / lI 8).toInt) - ((lI f / lI 8).toInt)) * (((lI t / lI 8).toInt) - ((lI f / lI 8).toInt))))), u7, u8, u9, u10] [] W) ∧ (k = 6 → ((((((lI t - lI t / lI 8 * lI 8).toInt) - ((lI f - lI f / lI 8 * lI 8).toInt)) * (((lI t - lI t / lI 8 * lI 8).toInt) - ((lI f - lI f / lI 8 * lI 8).toInt))) + ((((lI t / lI 8).toInt) - ((lI f / lI 8).toInt)) * (((lI t / lI 8).toInt) - ((lI f / lI 8).toInt)))) < 3 → 1 = 1 ∧ ((1 : Int) = 0 ∨ (1 : Int) = 1) ∧ post (some (.inl (1))) W) ∧ (¬ (((((lI t - lI t / lI 8 * lI 8).toInt) - ((lI f - lI f / lI 8 * lI 8).toInt)) * (((lI t - lI t / lI 8 * lI 8).toInt) - ((lI f - lI f / lI 8 * lI 8).toInt))) + ((((lI t / lI 8).toInt) - ((lI f / lI 8).toInt)) * (((lI t / lI 8).toInt) - ((lI f / lI 8).toInt)))) < 3 → 90 < n ∧ 12 = 12 ∧ (-2147483648 ≤ 56 * (W.1 90 25) ∧ 56 * (W.1 90 25) ≤ 2147483647) ∧ (-2147483648 ≤ 4 + (56 * (W.1 90 25)) ∧ 4 + (56 * (W.1 90 25)) ≤ 2147483647) ∧ (¬ f = (4 + (56 * (W.1 90 25))) → 1 = 1 ∧ ((0 : Int) = 0 ∨ (0 : Int) = 1) ∧ post (some (.inl (0))) W) ∧ (f = (4 + (56 * (W.1 90 25))) → (¬ (((lI t / lI 8).toInt) - ((lI f / lI 8).toInt)) = 0 → 1 = 1 ∧ ((0 : Int) = 0 ∨ (0 : Int) = 1) ∧ post (some (.inl (0))) W) ∧ ((((lI t / lI 8).toInt) - ((lI f / lI 8).toInt)) = 0 → (¬ (((((lI t - lI t / lI 8 * lI 8).toInt) - ((lI f - lI f / lI 8 * lI 8).toInt)) * (((lI t - lI t / lI 8 * lI 8).toInt) - ((lI f - lI f / lI 8 * lI 8).toInt))) + ((((lI t / lI 8).toInt) - ((lI f / lI 8).toInt)) * (((lI t / lI 8).toInt) - ((lI f / lI 8).toInt)))) = 4 → 1 = 1 ∧ ((0 : Int) = 0 ∨ (0 : Int) = 1) ∧ post (some (.inl (0))) W) ∧ ((((((lI t - lI t / lI 8 * lI 8).toInt) - ((lI f - lI f / lI 8 * lI 8).toInt)) * (((lI t - lI t / lI 8 * lI 8).toInt) - ((lI f - lI f / lI 8 * lI 8).toInt))) + ((((lI t / lI 8).toInt) - ((lI f / lI 8).toInt)) * (((lI t / lI 8).toInt) - ((lI f / lI 8).toInt)))) = 4 → 3 = 3 ∧ false = false ∧ jin3 168 1974 3 zm_MTgoes.2.2.1.1 = true ∧ lRm zm_MTgoes.2.1 { frames := 3, cells := 0, slots := 0, locals := 77 } 6 = true ∧ Nat.ble 2 2 = true ∧ Nat.ble 0 8 = true ∧ 90 < n ∧ 12 = 12 ∧ Nat.ble 1000 12 = false ∧ zc_MTcas [.inr (.inr (some (.inl 90))), .inl (t)] W (fun vv__ WW__ => zwp jtb zsh n zm_MTgoes post (kk__ + 4) (lGo ak_ZMTgoes 154) 154 [some (.inr (.inr (some (.inl 90)))), some (.inl (f)), some (.inl (t)), some (.inl (k)), some (.inl (((lI t - lI t / lI 8 * lI 8).toInt) - ((lI f - lI f / lI 8 * lI 8).toInt))), some (.inl (((lI t / lI 8).toInt) - ((lI f / lI 8).toInt))), some (.inl (((((lI t - lI t / lI 8 * lI 8).toInt) - ((lI f - lI f / lI 8 * lI 8).toInt)) * (((lI t - lI t / lI 8 * lI 8).toInt) - ((lI f - lI f / lI 8 * lI 8).toInt))) + ((((lI t / lI 8).toInt) - ((lI f / lI 8).toInt)) * (((lI t / lI 8).toInt) - ((lI f / lI 8).toInt))))), u7, u8, u9, u10] (vv__.toList ++ []) WW__))))))) ∧ (k = 2 → (¬ (((((lI t - lI t / lI 8 * lI 8).toInt) - ((lI f - lI f / lI 8 * lI 8).toInt)) * (((lI t - lI t / lI 8 * lI 8).toInt) - ((lI f - lI f / lI 8 * lI 8).toInt))) + ((((lI t / lI 8).toInt) - ((lI f / lI 8).toInt)) * (((lI t / lI 8).toInt) - ((lI f / lI 8).toInt)))) = 5 → 1 = 1 ∧ ((0 : Int) = 0 ∨ (0 : Int) = 1) ∧ post (some (.inl (0))) W) ∧ ((((((lI t - lI t / lI 8 * lI 8).toInt) - ((lI f - lI f / lI 8 * lI 8).toInt)) * (((lI t - lI t / lI 8 * lI 8).toInt) - ((lI f - lI f / lI 8 * lI 8).toInt))) + ((((lI t / lI 8).toInt) - ((lI f / lI 8).toInt)) * (((lI t / lI 8).toInt) - ((lI f / lI 8).toInt)))) = 5 → 1 = 1 ∧ ((1 : Int) = 0 ∨ (1 : Int) = 1) ∧ post (some (.inl (1))) W)) from ⟨(by decide), (have h := ((h).2 _ (z_rm (by decide) (h).1)); ⟨(by decide), (have h := ((h).2 _ (z_rm (by decide) (h).1)); ⟨(h).1, ⟨(by decide), (have h := (((h).2).2 _ (z_dv (by decide) ((h).2).1)); ⟨(by decide), (have h := ((h).2 _ (z_dv (by decide) (h).1)); ⟨(h).1, ⟨((h).2).1, ⟨(((h).2).2).1, ⟨((((h).2).2).2).1, ⟨fun c98_26 => (have h := ((((((h).2).2).2).2).1 c98_26); ⟨fun c116_29 => ((h).1 c116_29), fun c116_29 => ⟨fun c122_32 => (have h := ((((h).2 c116_29)).1 c122_32); ⟨rfl, Or.inr rfl, h⟩), fun c122_32 => (have h := ((((h).2 c116_29)).2 c122_32); ⟨(Nat.lt_of_lt_of_le (by decide) hn), rfl, ⟨(h).1, ⟨((h).2).1, ⟨fun c135_40 => ⟨rfl, Or.inl rfl, ((((h).2).2).1 c135_40)⟩, fun c135_40 => ⟨fun c140_42 => (have h := ((((((h).2).2).2 c135_40)).1 c140_42); ⟨rfl, Or.inl rfl, h⟩), fun c140_42 => (have h := ((((((h).2).2).2 c135_40)).2 c140_42); ⟨fun c146_45 => ⟨rfl, Or.inl rfl, ((h).1 c146_45)⟩, fun c146_45 => ⟨rfl, rfl, rfl, rfl, rfl, rfl, (Nat.lt_of_lt_of_le (by decide) hn), rfl, rfl, t, rfl, (((h).2 c146_45)).1, fun r151 hr151 => (show (r151 = 0 → 1 = 1 ∧ ((0 : Int) = 0 ∨ (0 : Int) = 1) ∧ post (some (.inl (0))) W) ∧ (¬ r151 = 0 → 1 = 1 ∧ ((1 : Int) = 0 ∨ (1 : Int) = 1) ∧ post (some (.inl (1))) W) from (have h := ((((h).2 c146_45)).2 r151 hr151); ⟨fun c154_49 => ⟨rfl, Or.inl rfl, ((h).1 c154_49)⟩, fun c154_49 => ⟨rfl, Or.inr rfl, ((h).2 c154_49)⟩⟩))⟩⟩)⟩⟩⟩⟩⟩)⟩⟩), fun c98_26 => (have h := ((((((h).2).2).2).2).2 c98_26); ⟨fun c104_29 => ⟨rfl, Or.inl rfl, ((h).1 c104_29)⟩, fun c104_29 => ⟨rfl, Or.inr rfl, ((h).2 c104_29)⟩⟩)⟩⟩⟩⟩⟩)⟩)⟩⟩)⟩)⟩)
set_option maxRecDepth 8000 in
theorem zp_MTgoes_163 {n K : Nat} {W : zW} {post : zPo} {f t k x y w : Int} {u7 u8 u9 u10 : Option zv} (hK : 24 ≤ K) (hn : 142 ≤ n) (h : (x = 0 → (k = 3 → post (some (.inl (0))) W) ∧ (¬ k = 3 → zwp jtb zsh n zm_MTgoes post (K - 14) (lGo ak_ZMTgoes 222) 222 [some (.inr (.inr (some (.inl 90)))), some (.inl (f)), some (.inl (t)), some (.inl (k)), some (.inl (x)), some (.inl (y)), some (.inl (w)), some (.inl (1)), u8, u9, u10] [] W)) ∧ (¬ x = 0 → (¬ y = 0 → (x = y → (¬ k = 4 → zwp jtb zsh n zm_MTgoes post (K - 18) (lGo ak_ZMTgoes 222) 222 [some (.inr (.inr (some (.inl 90)))), some (.inl (f)), some (.inl (t)), some (.inl (k)), some (.inl (x)), some (.inl (y)), some (.inl (w)), some (.inl (0)), u8, u9, u10] [] W) ∧ (k = 4 → post (some (.inl (0))) W)) ∧ (¬ x = y → (-2147483648 ≤ -y ∧ -y ≤ 2147483647) ∧ (¬ x = (-y) → post (some (.inl (0))) W) ∧ (x = (-y) → (¬ k = 4 → zwp jtb zsh n zm_MTgoes post (K - 22) (lGo ak_ZMTgoes 222) 222 [some (.inr (.inr (some (.inl 90)))), some (.inl (f)), some (.inl (t)), some (.inl (k)), some (.inl (x)), some (.inl (y)), some (.inl (w)), some (.inl (0)), u8, u9, u10] [] W) ∧ (k = 4 → post (some (.inl (0))) W)))) ∧ (y = 0 → (k = 3 → post (some (.inl (0))) W) ∧ (¬ k = 3 → zwp jtb zsh n zm_MTgoes post (K - 16) (lGo ak_ZMTgoes 222) 222 [some (.inr (.inr (some (.inl 90)))), some (.inl (f)), some (.inl (t)), some (.inl (k)), some (.inl (x)), some (.inl (y)), some (.inl (w)), some (.inl (1)), u8, u9, u10] [] W)))) : zwp jtb zsh n zm_MTgoes post K (lGo ak_ZMTgoes 163) 163 [some (.inr (.inr (some (.inl 90)))), some (.inl (f)), some (.inl (t)), some (.inl (k)), some (.inl (x)), some (.inl (y)), some (.inl (w)), u7, u8, u9, u10] [] W := by
  obtain ⟨kk__, rfl⟩ : ∃ kk__, K = kk__ + 24 := ⟨K - 24, by omega⟩
  exact (show (x = 0 → (¬ (1 : Int) = 0 → ((1 : Int) = 0 → zwp jtb zsh n zm_MTgoes post (kk__ + 15) (lGo ak_ZMTgoes 210) 210 [some (.inr (.inr (some (.inl 90)))), some (.inl (f)), some (.inl (t)), some (.inl (k)), some (.inl (x)), some (.inl (y)), some (.inl (w)), some (.inl (1)), u8, u9, u10] [] W) ∧ (¬ (1 : Int) = 0 → (k = 3 → 1 = 1 ∧ ((0 : Int) = 0 ∨ (0 : Int) = 1) ∧ post (some (.inl (0))) W) ∧ (¬ k = 3 → (¬ (1 : Int) = 0 → zwp jtb zsh n zm_MTgoes post (kk__ + 10) (lGo ak_ZMTgoes 222) 222 [some (.inr (.inr (some (.inl 90)))), some (.inl (f)), some (.inl (t)), some (.inl (k)), some (.inl (x)), some (.inl (y)), some (.inl (w)), some (.inl (1)), u8, u9, u10] [] W) ∧ ((1 : Int) = 0 → zwp jtb zsh n zm_MTgoes post (kk__ + 10) (lGo ak_ZMTgoes 215) 215 [some (.inr (.inr (some (.inl 90)))), some (.inl (f)), some (.inl (t)), some (.inl (k)), some (.inl (x)), some (.inl (y)), some (.inl (w)), some (.inl (1)), u8, u9, u10] [] W)))) ∧ ((1 : Int) = 0 → zwp jtb zsh n zm_MTgoes post (kk__ + 17) (lGo ak_ZMTgoes 185) 185 [some (.inr (.inr (some (.inl 90)))), some (.inl (f)), some (.inl (t)), some (.inl (k)), some (.inl (x)), some (.inl (y)), some (.inl (w)), some (.inl (1)), u8, u9, u10] [] W)) ∧ (¬ x = 0 → (¬ y = 0 → (¬ (0 : Int) = 0 → zwp jtb zsh n zm_MTgoes post (kk__ + 16) (lGo ak_ZMTgoes 200) 200 [some (.inr (.inr (some (.inl 90)))), some (.inl (f)), some (.inl (t)), some (.inl (k)), some (.inl (x)), some (.inl (y)), some (.inl (w)), some (.inl (0)), u8, u9, u10] [] W) ∧ ((0 : Int) = 0 → (x = y → ((0 : Int) = 0 → (¬ (0 : Int) = 0 → zwp jtb zsh n zm_MTgoes post (kk__ + 9) (lGo ak_ZMTgoes 222) 222 [some (.inr (.inr (some (.inl 90)))), some (.inl (f)), some (.inl (t)), some (.inl (k)), some (.inl (x)), some (.inl (y)), some (.inl (w)), some (.inl (0)), u8, u9, u10] [] W) ∧ ((0 : Int) = 0 → (¬ k = 4 → zwp jtb zsh n zm_MTgoes post (kk__ + 6) (lGo ak_ZMTgoes 222) 222 [some (.inr (.inr (some (.inl 90)))), some (.inl (f)), some (.inl (t)), some (.inl (k)), some (.inl (x)), some (.inl (y)), some (.inl (w)), some (.inl (0)), u8, u9, u10] [] W) ∧ (k = 4 → 1 = 1 ∧ ((0 : Int) = 0 ∨ (0 : Int) = 1) ∧ post (some (.inl (0))) W))) ∧ (¬ (0 : Int) = 0 → zwp jtb zsh n zm_MTgoes post (kk__ + 11) (lGo ak_ZMTgoes 205) 205 [some (.inr (.inr (some (.inl 90)))), some (.inl (f)), some (.inl (t)), some (.inl (k)), some (.inl (x)), some (.inl (y)), some (.inl (w)), some (.inl (0)), u8, u9, u10] [] W)) ∧ (¬ x = y → (-2147483648 ≤ -y ∧ -y ≤ 2147483647) ∧ (¬ x = (-y) → 1 = 1 ∧ ((0 : Int) = 0 ∨ (0 : Int) = 1) ∧ post (some (.inl (0))) W) ∧ (x = (-y) → ((0 : Int) = 0 → (¬ (0 : Int) = 0 → zwp jtb zsh n zm_MTgoes post (kk__ + 5) (lGo ak_ZMTgoes 222) 222 [some (.inr (.inr (some (.inl 90)))), some (.inl (f)), some (.inl (t)), some (.inl (k)), some (.inl (x)), some (.inl (y)), some (.inl (w)), some (.inl (0)), u8, u9, u10] [] W) ∧ ((0 : Int) = 0 → (¬ k = 4 → zwp jtb zsh n zm_MTgoes post (kk__ + 2) (lGo ak_ZMTgoes 222) 222 [some (.inr (.inr (some (.inl 90)))), some (.inl (f)), some (.inl (t)), some (.inl (k)), some (.inl (x)), some (.inl (y)), some (.inl (w)), some (.inl (0)), u8, u9, u10] [] W) ∧ (k = 4 → 1 = 1 ∧ ((0 : Int) = 0 ∨ (0 : Int) = 1) ∧ post (some (.inl (0))) W))) ∧ (¬ (0 : Int) = 0 → zwp jtb zsh n zm_MTgoes post (kk__ + 7) (lGo ak_ZMTgoes 205) 205 [some (.inr (.inr (some (.inl 90)))), some (.inl (f)), some (.inl (t)), some (.inl (k)), some (.inl (x)), some (.inl (y)), some (.inl (w)), some (.inl (0)), u8, u9, u10] [] W))))) ∧ (y = 0 → (¬ (1 : Int) = 0 → ((1 : Int) = 0 → zwp jtb zsh n zm_MTgoes post (kk__ + 13) (lGo ak_ZMTgoes 210) 210 [some (.inr (.inr (some (.inl 90)))), some (.inl (f)), some (.inl (t)), some (.inl (k)), some (.inl (x)), some (.inl (y)), some (.inl (w)), some (.inl (1)), u8, u9, u10] [] W) ∧ (¬ (1 : Int) = 0 → (k = 3 → 1 = 1 ∧ ((0 : Int) = 0 ∨ (0 : Int) = 1) ∧ post (some (.inl (0))) W) ∧ (¬ k = 3 → (¬ (1 : Int) = 0 → zwp jtb zsh n zm_MTgoes post (kk__ + 8) (lGo ak_ZMTgoes 222) 222 [some (.inr (.inr (some (.inl 90)))), some (.inl (f)), some (.inl (t)), some (.inl (k)), some (.inl (x)), some (.inl (y)), some (.inl (w)), some (.inl (1)), u8, u9, u10] [] W) ∧ ((1 : Int) = 0 → zwp jtb zsh n zm_MTgoes post (kk__ + 8) (lGo ak_ZMTgoes 215) 215 [some (.inr (.inr (some (.inl 90)))), some (.inl (f)), some (.inl (t)), some (.inl (k)), some (.inl (x)), some (.inl (y)), some (.inl (w)), some (.inl (1)), u8, u9, u10] [] W)))) ∧ ((1 : Int) = 0 → zwp jtb zsh n zm_MTgoes post (kk__ + 15) (lGo ak_ZMTgoes 185) 185 [some (.inr (.inr (some (.inl 90)))), some (.inl (f)), some (.inl (t)), some (.inl (k)), some (.inl (x)), some (.inl (y)), some (.inl (w)), some (.inl (1)), u8, u9, u10] [] W))) from ⟨fun c165_1 => ⟨fun _ => ⟨fun hc8 => absurd hc8 (by decide), fun _ => ⟨fun c207_11 => (have h := ((((h).1 c165_1)).1 c207_11); ⟨rfl, Or.inl rfl, h⟩), fun c207_11 => (have h := ((((h).1 c165_1)).2 c207_11); ⟨fun _ => h, fun hc13 => absurd hc13 (by decide)⟩)⟩⟩, fun hc6 => absurd hc6 (by decide)⟩, fun c165_1 => ⟨fun c170_3 => (have h := ((((h).2 c165_1)).1 c170_3); ⟨fun hc7 => absurd hc7 (by decide), fun _ => ⟨fun c189_10 => ⟨fun _ => ⟨fun hc14 => absurd hc14 (by decide), fun _ => ⟨fun c217_17 => ((((h).1 c189_10)).1 c217_17), fun c217_17 => (have h := ((((h).1 c189_10)).2 c217_17); ⟨rfl, Or.inl rfl, h⟩)⟩⟩, fun hc12 => absurd hc12 (by decide)⟩, fun c189_10 => ⟨(((h).2 c189_10)).1, ⟨fun c197_14 => (have h := (((((h).2 c189_10)).2).1 c197_14); ⟨rfl, Or.inl rfl, h⟩), fun c197_14 => (have h := (((((h).2 c189_10)).2).2 c197_14); ⟨fun _ => ⟨fun hc18 => absurd hc18 (by decide), fun _ => ⟨fun c217_21 => ((h).1 c217_21), fun c217_21 => ⟨rfl, Or.inl rfl, ((h).2 c217_21)⟩⟩⟩, fun hc16 => absurd hc16 (by decide)⟩)⟩⟩⟩⟩), fun c170_3 => (have h := ((((h).2 c165_1)).2 c170_3); ⟨fun _ => ⟨fun hc10 => absurd hc10 (by decide), fun _ => ⟨fun c207_13 => ⟨rfl, Or.inl rfl, ((h).1 c207_13)⟩, fun c207_13 => ⟨fun _ => ((h).2 c207_13), fun hc15 => absurd hc15 (by decide)⟩⟩⟩, fun hc8 => absurd hc8 (by decide)⟩)⟩⟩)
set_option maxRecDepth 8000 in
theorem zp_MTgoes_222 {n K : Nat} {W : zW} {post : zPo} {f t k x y w v : Int} {u8 u9 u10 : Option zv} (hK : 19 ≤ K) (hn : 142 ≤ n) (h : (x ≤ 0 → (0 ≤ x → (y ≤ 0 → (0 ≤ y → (0 ≤ f ∧ f ≤ 63 ∧ -2 ≤ (0 : Int) ∧ (0 : Int) ≤ 2 ∧ -2 ≤ (0 : Int) ∧ (0 : Int) ≤ 2) ∧ ∀ r269 : Int, (r269 = rSp f (0 : Int) (0 : Int)) → zwp jtb zsh n zm_MTgoes post (K - 17) (lGo ak_ZMTgoes 274) 274 [some (.inr (.inr (some (.inl 90)))), some (.inl (f)), some (.inl (t)), some (.inl (k)), some (.inl (x)), some (.inl (y)), some (.inl (w)), some (.inl (v)), some (.inl (0)), some (.inl (0)), some (.inl (r269))] [] W) ∧ (¬ 0 ≤ y → (0 ≤ f ∧ f ≤ 63 ∧ -2 ≤ (0 : Int) ∧ (0 : Int) ≤ 2 ∧ -2 ≤ (-1 : Int) ∧ (-1 : Int) ≤ 2) ∧ ∀ r269 : Int, (r269 = rSp f (0 : Int) (-1 : Int)) → zwp jtb zsh n zm_MTgoes post (K - 18) (lGo ak_ZMTgoes 274) 274 [some (.inr (.inr (some (.inl 90)))), some (.inl (f)), some (.inl (t)), some (.inl (k)), some (.inl (x)), some (.inl (y)), some (.inl (w)), some (.inl (v)), some (.inl (0)), some (.inl (-1)), some (.inl (r269))] [] W)) ∧ (¬ y ≤ 0 → (0 ≤ f ∧ f ≤ 63 ∧ -2 ≤ (0 : Int) ∧ (0 : Int) ≤ 2 ∧ -2 ≤ (1 : Int) ∧ (1 : Int) ≤ 2) ∧ ∀ r269 : Int, (r269 = rSp f (0 : Int) (1 : Int)) → zwp jtb zsh n zm_MTgoes post (K - 16) (lGo ak_ZMTgoes 274) 274 [some (.inr (.inr (some (.inl 90)))), some (.inl (f)), some (.inl (t)), some (.inl (k)), some (.inl (x)), some (.inl (y)), some (.inl (w)), some (.inl (v)), some (.inl (0)), some (.inl (1)), some (.inl (r269))] [] W)) ∧ (¬ 0 ≤ x → (y ≤ 0 → (0 ≤ y → (0 ≤ f ∧ f ≤ 63 ∧ -2 ≤ (-1 : Int) ∧ (-1 : Int) ≤ 2 ∧ -2 ≤ (0 : Int) ∧ (0 : Int) ≤ 2) ∧ ∀ r269 : Int, (r269 = rSp f (-1 : Int) (0 : Int)) → zwp jtb zsh n zm_MTgoes post (K - 18) (lGo ak_ZMTgoes 274) 274 [some (.inr (.inr (some (.inl 90)))), some (.inl (f)), some (.inl (t)), some (.inl (k)), some (.inl (x)), some (.inl (y)), some (.inl (w)), some (.inl (v)), some (.inl (-1)), some (.inl (0)), some (.inl (r269))] [] W) ∧ (¬ 0 ≤ y → (0 ≤ f ∧ f ≤ 63 ∧ -2 ≤ (-1 : Int) ∧ (-1 : Int) ≤ 2 ∧ -2 ≤ (-1 : Int) ∧ (-1 : Int) ≤ 2) ∧ ∀ r269 : Int, (r269 = rSp f (-1 : Int) (-1 : Int)) → zwp jtb zsh n zm_MTgoes post (K - 19) (lGo ak_ZMTgoes 274) 274 [some (.inr (.inr (some (.inl 90)))), some (.inl (f)), some (.inl (t)), some (.inl (k)), some (.inl (x)), some (.inl (y)), some (.inl (w)), some (.inl (v)), some (.inl (-1)), some (.inl (-1)), some (.inl (r269))] [] W)) ∧ (¬ y ≤ 0 → (0 ≤ f ∧ f ≤ 63 ∧ -2 ≤ (-1 : Int) ∧ (-1 : Int) ≤ 2 ∧ -2 ≤ (1 : Int) ∧ (1 : Int) ≤ 2) ∧ ∀ r269 : Int, (r269 = rSp f (-1 : Int) (1 : Int)) → zwp jtb zsh n zm_MTgoes post (K - 17) (lGo ak_ZMTgoes 274) 274 [some (.inr (.inr (some (.inl 90)))), some (.inl (f)), some (.inl (t)), some (.inl (k)), some (.inl (x)), some (.inl (y)), some (.inl (w)), some (.inl (v)), some (.inl (-1)), some (.inl (1)), some (.inl (r269))] [] W))) ∧ (¬ x ≤ 0 → (y ≤ 0 → (0 ≤ y → (0 ≤ f ∧ f ≤ 63 ∧ -2 ≤ (1 : Int) ∧ (1 : Int) ≤ 2 ∧ -2 ≤ (0 : Int) ∧ (0 : Int) ≤ 2) ∧ ∀ r269 : Int, (r269 = rSp f (1 : Int) (0 : Int)) → zwp jtb zsh n zm_MTgoes post (K - 16) (lGo ak_ZMTgoes 274) 274 [some (.inr (.inr (some (.inl 90)))), some (.inl (f)), some (.inl (t)), some (.inl (k)), some (.inl (x)), some (.inl (y)), some (.inl (w)), some (.inl (v)), some (.inl (1)), some (.inl (0)), some (.inl (r269))] [] W) ∧ (¬ 0 ≤ y → (0 ≤ f ∧ f ≤ 63 ∧ -2 ≤ (1 : Int) ∧ (1 : Int) ≤ 2 ∧ -2 ≤ (-1 : Int) ∧ (-1 : Int) ≤ 2) ∧ ∀ r269 : Int, (r269 = rSp f (1 : Int) (-1 : Int)) → zwp jtb zsh n zm_MTgoes post (K - 17) (lGo ak_ZMTgoes 274) 274 [some (.inr (.inr (some (.inl 90)))), some (.inl (f)), some (.inl (t)), some (.inl (k)), some (.inl (x)), some (.inl (y)), some (.inl (w)), some (.inl (v)), some (.inl (1)), some (.inl (-1)), some (.inl (r269))] [] W)) ∧ (¬ y ≤ 0 → (0 ≤ f ∧ f ≤ 63 ∧ -2 ≤ (1 : Int) ∧ (1 : Int) ≤ 2 ∧ -2 ≤ (1 : Int) ∧ (1 : Int) ≤ 2) ∧ ∀ r269 : Int, (r269 = rSp f (1 : Int) (1 : Int)) → zwp jtb zsh n zm_MTgoes post (K - 15) (lGo ak_ZMTgoes 274) 274 [some (.inr (.inr (some (.inl 90)))), some (.inl (f)), some (.inl (t)), some (.inl (k)), some (.inl (x)), some (.inl (y)), some (.inl (w)), some (.inl (v)), some (.inl (1)), some (.inl (1)), some (.inl (r269))] [] W))) : zwp jtb zsh n zm_MTgoes post K (lGo ak_ZMTgoes 222) 222 [some (.inr (.inr (some (.inl 90)))), some (.inl (f)), some (.inl (t)), some (.inl (k)), some (.inl (x)), some (.inl (y)), some (.inl (w)), some (.inl (v)), u8, u9, u10] [] W := by
  obtain ⟨kk__, rfl⟩ : ∃ kk__, K = kk__ + 19 := ⟨K - 19, by omega⟩
  exact (show (x ≤ 0 → (0 ≤ x → (y ≤ 0 → (0 ≤ y → 3 = 3 ∧ true = true ∧ jin3 104 1952 4 zm_MTgoes.2.2.1.1 = true ∧ lRm zm_MTgoes.2.1 { frames := 0, cells := 0, slots := 0, locals := 0 } 5 = true ∧ Nat.ble 3 3 = true ∧ Nat.ble 0 8 = true ∧ zc_MTstep [.inl (f), .inl (0), .inl (0)] W (fun vv__ WW__ => zwp jtb zsh n zm_MTgoes post (kk__ + 3) (lGo ak_ZMTgoes 272) 272 [some (.inr (.inr (some (.inl 90)))), some (.inl (f)), some (.inl (t)), some (.inl (k)), some (.inl (x)), some (.inl (y)), some (.inl (w)), some (.inl (v)), some (.inl (0)), some (.inl (0)), u10] (vv__.toList ++ []) WW__)) ∧ (¬ 0 ≤ y → 3 = 3 ∧ true = true ∧ jin3 104 1952 4 zm_MTgoes.2.2.1.1 = true ∧ lRm zm_MTgoes.2.1 { frames := 0, cells := 0, slots := 0, locals := 0 } 5 = true ∧ Nat.ble 3 3 = true ∧ Nat.ble 0 8 = true ∧ zc_MTstep [.inl (f), .inl (0), .inl (-1)] W (fun vv__ WW__ => zwp jtb zsh n zm_MTgoes post (kk__ + 2) (lGo ak_ZMTgoes 272) 272 [some (.inr (.inr (some (.inl 90)))), some (.inl (f)), some (.inl (t)), some (.inl (k)), some (.inl (x)), some (.inl (y)), some (.inl (w)), some (.inl (v)), some (.inl (0)), some (.inl (-1)), u10] (vv__.toList ++ []) WW__))) ∧ (¬ y ≤ 0 → 3 = 3 ∧ true = true ∧ jin3 104 1952 4 zm_MTgoes.2.2.1.1 = true ∧ lRm zm_MTgoes.2.1 { frames := 0, cells := 0, slots := 0, locals := 0 } 5 = true ∧ Nat.ble 3 3 = true ∧ Nat.ble 0 8 = true ∧ zc_MTstep [.inl (f), .inl (0), .inl (1)] W (fun vv__ WW__ => zwp jtb zsh n zm_MTgoes post (kk__ + 4) (lGo ak_ZMTgoes 272) 272 [some (.inr (.inr (some (.inl 90)))), some (.inl (f)), some (.inl (t)), some (.inl (k)), some (.inl (x)), some (.inl (y)), some (.inl (w)), some (.inl (v)), some (.inl (0)), some (.inl (1)), u10] (vv__.toList ++ []) WW__))) ∧ (¬ 0 ≤ x → (y ≤ 0 → (0 ≤ y → 3 = 3 ∧ true = true ∧ jin3 104 1952 4 zm_MTgoes.2.2.1.1 = true ∧ lRm zm_MTgoes.2.1 { frames := 0, cells := 0, slots := 0, locals := 0 } 5 = true ∧ Nat.ble 3 3 = true ∧ Nat.ble 0 8 = true ∧ zc_MTstep [.inl (f), .inl (-1), .inl (0)] W (fun vv__ WW__ => zwp jtb zsh n zm_MTgoes post (kk__ + 2) (lGo ak_ZMTgoes 272) 272 [some (.inr (.inr (some (.inl 90)))), some (.inl (f)), some (.inl (t)), some (.inl (k)), some (.inl (x)), some (.inl (y)), some (.inl (w)), some (.inl (v)), some (.inl (-1)), some (.inl (0)), u10] (vv__.toList ++ []) WW__)) ∧ (¬ 0 ≤ y → 3 = 3 ∧ true = true ∧ jin3 104 1952 4 zm_MTgoes.2.2.1.1 = true ∧ lRm zm_MTgoes.2.1 { frames := 0, cells := 0, slots := 0, locals := 0 } 5 = true ∧ Nat.ble 3 3 = true ∧ Nat.ble 0 8 = true ∧ zc_MTstep [.inl (f), .inl (-1), .inl (-1)] W (fun vv__ WW__ => zwp jtb zsh n zm_MTgoes post (kk__ + 1) (lGo ak_ZMTgoes 272) 272 [some (.inr (.inr (some (.inl 90)))), some (.inl (f)), some (.inl (t)), some (.inl (k)), some (.inl (x)), some (.inl (y)), some (.inl (w)), some (.inl (v)), some (.inl (-1)), some (.inl (-1)), u10] (vv__.toList ++ []) WW__))) ∧ (¬ y ≤ 0 → 3 = 3 ∧ true = true ∧ jin3 104 1952 4 zm_MTgoes.2.2.1.1 = true ∧ lRm zm_MTgoes.2.1 { frames := 0, cells := 0, slots := 0, locals := 0 } 5 = true ∧ Nat.ble 3 3 = true ∧ Nat.ble 0 8 = true ∧ zc_MTstep [.inl (f), .inl (-1), .inl (1)] W (fun vv__ WW__ => zwp jtb zsh n zm_MTgoes post (kk__ + 3) (lGo ak_ZMTgoes 272) 272 [some (.inr (.inr (some (.inl 90)))), some (.inl (f)), some (.inl (t)), some (.inl (k)), some (.inl (x)), some (.inl (y)), some (.inl (w)), some (.inl (v)), some (.inl (-1)), some (.inl (1)), u10] (vv__.toList ++ []) WW__)))) ∧ (¬ x ≤ 0 → (y ≤ 0 → (0 ≤ y → 3 = 3 ∧ true = true ∧ jin3 104 1952 4 zm_MTgoes.2.2.1.1 = true ∧ lRm zm_MTgoes.2.1 { frames := 0, cells := 0, slots := 0, locals := 0 } 5 = true ∧ Nat.ble 3 3 = true ∧ Nat.ble 0 8 = true ∧ zc_MTstep [.inl (f), .inl (1), .inl (0)] W (fun vv__ WW__ => zwp jtb zsh n zm_MTgoes post (kk__ + 4) (lGo ak_ZMTgoes 272) 272 [some (.inr (.inr (some (.inl 90)))), some (.inl (f)), some (.inl (t)), some (.inl (k)), some (.inl (x)), some (.inl (y)), some (.inl (w)), some (.inl (v)), some (.inl (1)), some (.inl (0)), u10] (vv__.toList ++ []) WW__)) ∧ (¬ 0 ≤ y → 3 = 3 ∧ true = true ∧ jin3 104 1952 4 zm_MTgoes.2.2.1.1 = true ∧ lRm zm_MTgoes.2.1 { frames := 0, cells := 0, slots := 0, locals := 0 } 5 = true ∧ Nat.ble 3 3 = true ∧ Nat.ble 0 8 = true ∧ zc_MTstep [.inl (f), .inl (1), .inl (-1)] W (fun vv__ WW__ => zwp jtb zsh n zm_MTgoes post (kk__ + 3) (lGo ak_ZMTgoes 272) 272 [some (.inr (.inr (some (.inl 90)))), some (.inl (f)), some (.inl (t)), some (.inl (k)), some (.inl (x)), some (.inl (y)), some (.inl (w)), some (.inl (v)), some (.inl (1)), some (.inl (-1)), u10] (vv__.toList ++ []) WW__))) ∧ (¬ y ≤ 0 → 3 = 3 ∧ true = true ∧ jin3 104 1952 4 zm_MTgoes.2.2.1.1 = true ∧ lRm zm_MTgoes.2.1 { frames := 0, cells := 0, slots := 0, locals := 0 } 5 = true ∧ Nat.ble 3 3 = true ∧ Nat.ble 0 8 = true ∧ zc_MTstep [.inl (f), .inl (1), .inl (1)] W (fun vv__ WW__ => zwp jtb zsh n zm_MTgoes post (kk__ + 5) (lGo ak_ZMTgoes 272) 272 [some (.inr (.inr (some (.inl 90)))), some (.inl (f)), some (.inl (t)), some (.inl (k)), some (.inl (x)), some (.inl (y)), some (.inl (w)), some (.inl (v)), some (.inl (1)), some (.inl (1)), u10] (vv__.toList ++ []) WW__))) from ⟨fun c224_1 => ⟨fun c233_3 => (have h := ((((h).1 c224_1)).1 c233_3); ⟨fun c245_7 => ⟨fun c254_9 => (have h := ((((h).1 c245_7)).1 c254_9); ⟨rfl, rfl, rfl, rfl, rfl, rfl, f, 0, 0, rfl, (h).1, fun r269 hr269 => (show zwp jtb zsh n zm_MTgoes post (kk__ + 2) (lGo ak_ZMTgoes 274) 274 [some (.inr (.inr (some (.inl 90)))), some (.inl (f)), some (.inl (t)), some (.inl (k)), some (.inl (x)), some (.inl (y)), some (.inl (w)), some (.inl (v)), some (.inl (0)), some (.inl (0)), some (.inl (r269))] [] W from ((h).2 r269 hr269))⟩), fun c254_9 => (have h := ((((h).1 c245_7)).2 c254_9); ⟨rfl, rfl, rfl, rfl, rfl, rfl, f, 0, -1, rfl, (h).1, fun r269 hr269 => (show zwp jtb zsh n zm_MTgoes post (kk__ + 1) (lGo ak_ZMTgoes 274) 274 [some (.inr (.inr (some (.inl 90)))), some (.inl (f)), some (.inl (t)), some (.inl (k)), some (.inl (x)), some (.inl (y)), some (.inl (w)), some (.inl (v)), some (.inl (0)), some (.inl (-1)), some (.inl (r269))] [] W from ((h).2 r269 hr269))⟩)⟩, fun c245_7 => ⟨rfl, rfl, rfl, rfl, rfl, rfl, f, 0, 1, rfl, (((h).2 c245_7)).1, fun r269 hr269 => (show zwp jtb zsh n zm_MTgoes post (kk__ + 3) (lGo ak_ZMTgoes 274) 274 [some (.inr (.inr (some (.inl 90)))), some (.inl (f)), some (.inl (t)), some (.inl (k)), some (.inl (x)), some (.inl (y)), some (.inl (w)), some (.inl (v)), some (.inl (0)), some (.inl (1)), some (.inl (r269))] [] W from ((((h).2 c245_7)).2 r269 hr269))⟩⟩), fun c233_3 => (have h := ((((h).1 c224_1)).2 c233_3); ⟨fun c245_8 => ⟨fun c254_10 => (have h := ((((h).1 c245_8)).1 c254_10); ⟨rfl, rfl, rfl, rfl, rfl, rfl, f, -1, 0, rfl, (h).1, fun r269 hr269 => (show zwp jtb zsh n zm_MTgoes post (kk__ + 1) (lGo ak_ZMTgoes 274) 274 [some (.inr (.inr (some (.inl 90)))), some (.inl (f)), some (.inl (t)), some (.inl (k)), some (.inl (x)), some (.inl (y)), some (.inl (w)), some (.inl (v)), some (.inl (-1)), some (.inl (0)), some (.inl (r269))] [] W from ((h).2 r269 hr269))⟩), fun c254_10 => (have h := ((((h).1 c245_8)).2 c254_10); ⟨rfl, rfl, rfl, rfl, rfl, rfl, f, -1, -1, rfl, (h).1, fun r269 hr269 => (show zwp jtb zsh n zm_MTgoes post (kk__ + 0) (lGo ak_ZMTgoes 274) 274 [some (.inr (.inr (some (.inl 90)))), some (.inl (f)), some (.inl (t)), some (.inl (k)), some (.inl (x)), some (.inl (y)), some (.inl (w)), some (.inl (v)), some (.inl (-1)), some (.inl (-1)), some (.inl (r269))] [] W from ((h).2 r269 hr269))⟩)⟩, fun c245_8 => ⟨rfl, rfl, rfl, rfl, rfl, rfl, f, -1, 1, rfl, (((h).2 c245_8)).1, fun r269 hr269 => (show zwp jtb zsh n zm_MTgoes post (kk__ + 2) (lGo ak_ZMTgoes 274) 274 [some (.inr (.inr (some (.inl 90)))), some (.inl (f)), some (.inl (t)), some (.inl (k)), some (.inl (x)), some (.inl (y)), some (.inl (w)), some (.inl (v)), some (.inl (-1)), some (.inl (1)), some (.inl (r269))] [] W from ((((h).2 c245_8)).2 r269 hr269))⟩⟩)⟩, fun c224_1 => ⟨fun c245_6 => (have h := ((((h).2 c224_1)).1 c245_6); ⟨fun c254_8 => ⟨rfl, rfl, rfl, rfl, rfl, rfl, f, 1, 0, rfl, (((h).1 c254_8)).1, fun r269 hr269 => (show zwp jtb zsh n zm_MTgoes post (kk__ + 3) (lGo ak_ZMTgoes 274) 274 [some (.inr (.inr (some (.inl 90)))), some (.inl (f)), some (.inl (t)), some (.inl (k)), some (.inl (x)), some (.inl (y)), some (.inl (w)), some (.inl (v)), some (.inl (1)), some (.inl (0)), some (.inl (r269))] [] W from ((((h).1 c254_8)).2 r269 hr269))⟩, fun c254_8 => ⟨rfl, rfl, rfl, rfl, rfl, rfl, f, 1, -1, rfl, (((h).2 c254_8)).1, fun r269 hr269 => (show zwp jtb zsh n zm_MTgoes post (kk__ + 2) (lGo ak_ZMTgoes 274) 274 [some (.inr (.inr (some (.inl 90)))), some (.inl (f)), some (.inl (t)), some (.inl (k)), some (.inl (x)), some (.inl (y)), some (.inl (w)), some (.inl (v)), some (.inl (1)), some (.inl (-1)), some (.inl (r269))] [] W from ((((h).2 c254_8)).2 r269 hr269))⟩⟩), fun c245_6 => (have h := ((((h).2 c224_1)).2 c245_6); ⟨rfl, rfl, rfl, rfl, rfl, rfl, f, 1, 1, rfl, (h).1, fun r269 hr269 => (show zwp jtb zsh n zm_MTgoes post (kk__ + 4) (lGo ak_ZMTgoes 274) 274 [some (.inr (.inr (some (.inl 90)))), some (.inl (f)), some (.inl (t)), some (.inl (k)), some (.inl (x)), some (.inl (y)), some (.inl (w)), some (.inl (v)), some (.inl (1)), some (.inl (1)), some (.inl (r269))] [] W from ((h).2 r269 hr269))⟩)⟩⟩)
set_option maxRecDepth 8000 in
theorem zp_MTgoes_274 {n K : Nat} {W : zW} {post : zPo} {f t k x y w v a b s : Int}  (hK : 14 ≤ K) (hn : 142 ≤ n) (h : (s = t → (¬ s = t → post (some (.inl (0))) W) ∧ (s = t → post (some (.inl (1))) W)) ∧ (¬ s = t → (0 ≤ s ∧ s < 64) ∧ (¬ (W.2.1 110 s) = 0 → (¬ s = t → post (some (.inl (0))) W) ∧ (s = t → post (some (.inl (1))) W)) ∧ ((W.2.1 110 s) = 0 → (0 ≤ s ∧ s ≤ 63 ∧ -2 ≤ a ∧ a ≤ 2 ∧ -2 ≤ b ∧ b ≤ 2) ∧ ∀ r296 : Int, (r296 = rSp s a b) → zwp jtb zsh n zm_MTgoes post (K - 14) (lGo ak_ZMTgoes 274) 274 [some (.inr (.inr (some (.inl 90)))), some (.inl (f)), some (.inl (t)), some (.inl (k)), some (.inl (x)), some (.inl (y)), some (.inl (w)), some (.inl (v)), some (.inl (a)), some (.inl (b)), some (.inl (r296))] [] W))) : zwp jtb zsh n zm_MTgoes post K (lGo ak_ZMTgoes 274) 274 [some (.inr (.inr (some (.inl 90)))), some (.inl (f)), some (.inl (t)), some (.inl (k)), some (.inl (x)), some (.inl (y)), some (.inl (w)), some (.inl (v)), some (.inl (a)), some (.inl (b)), some (.inl (s))] [] W := by
  obtain ⟨kk__, rfl⟩ : ∃ kk__, K = kk__ + 14 := ⟨K - 14, by omega⟩
  exact (show (s = t → (¬ s = t → 1 = 1 ∧ ((0 : Int) = 0 ∨ (0 : Int) = 1) ∧ post (some (.inl (0))) W) ∧ (s = t → 1 = 1 ∧ ((1 : Int) = 0 ∨ (1 : Int) = 1) ∧ post (some (.inl (1))) W)) ∧ (¬ s = t → 90 < n ∧ 12 = 12 ∧ 110 < n ∧ FieldType.int = FieldType.int ∧ (0 ≤ s ∧ s < 64) ∧ (¬ (W.2.1 110 s) = 0 → (¬ s = t → 1 = 1 ∧ ((0 : Int) = 0 ∨ (0 : Int) = 1) ∧ post (some (.inl (0))) W) ∧ (s = t → 1 = 1 ∧ ((1 : Int) = 0 ∨ (1 : Int) = 1) ∧ post (some (.inl (1))) W)) ∧ ((W.2.1 110 s) = 0 → 3 = 3 ∧ true = true ∧ jin3 104 1952 4 zm_MTgoes.2.2.1.1 = true ∧ lRm zm_MTgoes.2.1 { frames := 0, cells := 0, slots := 0, locals := 0 } 5 = true ∧ Nat.ble 3 3 = true ∧ Nat.ble 0 8 = true ∧ zc_MTstep [.inl (s), .inl (a), .inl (b)] W (fun vv__ WW__ => zwp jtb zsh n zm_MTgoes post (kk__ + 2) (lGo ak_ZMTgoes 299) 299 [some (.inr (.inr (some (.inl 90)))), some (.inl (f)), some (.inl (t)), some (.inl (k)), some (.inl (x)), some (.inl (y)), some (.inl (w)), some (.inl (v)), some (.inl (a)), some (.inl (b)), some (.inl (s))] (vv__.toList ++ []) WW__))) from ⟨fun c277_2 => ⟨fun c307_5 => (have h := ((((h).1 c277_2)).1 c307_5); ⟨rfl, Or.inl rfl, h⟩), fun c307_5 => (have h := ((((h).1 c277_2)).2 c307_5); ⟨rfl, Or.inr rfl, h⟩)⟩, fun c277_2 => ⟨(Nat.lt_of_lt_of_le (by decide) hn), rfl, ⟨(Nat.lt_of_lt_of_le (by decide) hn), rfl, (((h).2 c277_2)).1, ⟨fun c287_7 => (have h := (((((h).2 c277_2)).2).1 c287_7); ⟨fun c307_10 => ⟨rfl, Or.inl rfl, ((h).1 c307_10)⟩, fun c307_10 => ⟨rfl, Or.inr rfl, ((h).2 c307_10)⟩⟩), fun c287_7 => (have h := (((((h).2 c277_2)).2).2 c287_7); ⟨rfl, rfl, rfl, rfl, rfl, rfl, s, a, b, rfl, (h).1, fun r296 hr296 => (show zwp jtb zsh n zm_MTgoes post (kk__ + 0) (lGo ak_ZMTgoes 274) 274 [some (.inr (.inr (some (.inl 90)))), some (.inl (f)), some (.inl (t)), some (.inl (k)), some (.inl (x)), some (.inl (y)), some (.inl (w)), some (.inl (v)), some (.inl (a)), some (.inl (b)), some (.inl (r296))] [] W from ((h).2 r296 hr296))⟩)⟩⟩⟩⟩)
set_option maxHeartbeats 2000000 in
theorem zk_MTgoes {l : Launch} {E : jE} {n : Nat} (hn : 142 ≤ n) : zHas l E jcl jtb lw_tbl zsh n (y_MT_goes, false, 3, 12, { frames := 4, cells := 0, slots := 0, locals := 102 }, zc_MTgoes) := by
  refine ⟨⟨rfl, rfl, ⟨show 1 ≤ 3 by decide, m_MT_goes, i_MT_goes, e_MT_goes, fun _ => ⟨_, rfl, rfl⟩⟩⟩, ?_⟩
  rintro vz W po hO hW ⟨f, t, rfl, hq, hp⟩
  refine zmet (m := zm_MTgoes) rfl (by decide) (fun _ _ => jtF_ok) lo_MT ao_ZMTgoes jC (fun q h => by cases h) (aAllc (fun G h => by obtain rfl := Option.some.inj h; exact ql_MT_162) (aAllc (fun G h => by obtain rfl := Option.some.inj h; exact ql_MT_137) (aAllc (fun G h => by obtain rfl := Option.some.inj h; exact ql_MT_165) (aAllc (fun G h => by obtain rfl := Option.some.inj h; exact ql_MT_168) (aAllc (fun G h => by obtain rfl := Option.some.inj h; exact ql_MT_104) (fun q h => by cases h)))))) (aAllc (zk_MTsideOf hn) (aAllc (zk_MTkind hn) (aAllc (zk_MTpaw hn) (aAllc (zk_MTcas hn) (aAllc (zk_MTstep hn) (fun q h => by cases h)))))) (Nat.le_of_ble_eq_true rfl) hO hW (1000) ?_
  obtain ⟨hd, hk, hR, hf0, ht0⟩ := hq
  have hm := hk.1
  have hs := hk.2.1
  have eS : (zQ W).2.1 = W.1 90 25 := rfl
  have eF : (zQ W).1 f = W.2.1 110 f := zMn_i hf0
  have eT : (zQ W).1 t = W.2.1 110 t := zMn_i ht0
  have h39 : ∀ (K : Nat) (u3 u4 u5 u6 u7 u8 u9 u10 : Option zv), 900 ≤ K → rOwn (zQ W) f → ¬ rOwn (zQ W) t → zwp jtb zsh n zm_MTgoes po K (lGo ak_ZMTgoes 39) 39 [some (.inr (.inr (some (.inl 90)))), some (.inl f), some (.inl t), u3, u4, u5, u6, u7, u8, u9, u10] [] W := by
    intro K u3 u4 u5 u6 u7 u8 u9 u10 hK hof hot
    have hv : 1 ≤ (zQ W).1 f % 8 ∧ (zQ W).1 f % 8 ≤ 6 := by
      rcases hd.2.2.1 f with z | ⟨-, -, z⟩
      · exact absurd z hof.1
      · omega
    have hne : ¬ f = t := fun e => hot (e ▸ hof)
    have hne2 : ¬ (t % 8 - f % 8 = 0 ∧ t / 8 - f / 8 = 0) := by omega
    have hfar : 1 ≤ (t % 8 - f % 8) * (t % 8 - f % 8) + (t / 8 - f / 8) * (t / 8 - f / 8) := by
      have a1 := zsq7 (x := t % 8 - f % 8) (by omega)
      have a2 := zsq7 (x := t / 8 - f / 8) (by omega)
      have b1 := (zsq4 (x := t % 8 - f % 8) (by omega)).2
      have b2 := (zsq4 (x := t / 8 - f / 8) (by omega)).2
      omega
    have h61 : ∀ (K : Nat) (k : Int) (u4 u5 u6 u7 u8 u9 u10 : Option zv), 800 ≤ K → k = (zQ W).1 f % 8 → ¬ k = 1 → zwp jtb zsh n zm_MTgoes po K (lGo ak_ZMTgoes 61) 61 [some (.inr (.inr (some (.inl 90)))), some (.inl f), some (.inl t), some (.inl k), u4, u5, u6, u7, u8, u9, u10] [] W := by
      intro K k u4 u5 u6 u7 u8 u9 u10 hK ek k1
      have h163 : ∀ (K : Nat) (w : Int) (u7 u8 u9 u10 : Option zv), 600 ≤ K → ¬ k = 2 → ¬ k = 6 → zwp jtb zsh n zm_MTgoes po K (lGo ak_ZMTgoes 163) 163 [some (.inr (.inr (some (.inl 90)))), some (.inl f), some (.inl t), some (.inl k), some (.inl (t % 8 - f % 8)), some (.inl (t / 8 - f / 8)), some (.inl w), u7, u8, u9, u10] [] W := by
        intro K w u7 u8 u9 u10 hK k2 k6
        have hk3 : (zQ W).1 f % 8 = 3 ∨ (zQ W).1 f % 8 = 4 ∨ (zQ W).1 f % 8 = 5 := by omega
        have h222 : ∀ (K : Nat) (v : Int) (u8 u9 u10 : Option zv), 500 ≤ K → ((t % 8 - f % 8 = 0 ∨ t / 8 - f / 8 = 0) ∨ t % 8 - f % 8 = t / 8 - f / 8 ∨ t % 8 - f % 8 = -(t / 8 - f / 8)) → ¬ ((t % 8 - f % 8 = 0 ∨ t / 8 - f / 8 = 0) ∧ k = 3) → ¬ (¬ (t % 8 - f % 8 = 0 ∨ t / 8 - f / 8 = 0) ∧ k = 4) → zwp jtb zsh n zm_MTgoes po K (lGo ak_ZMTgoes 222) 222 [some (.inr (.inr (some (.inl 90)))), some (.inl f), some (.inl t), some (.inl k), some (.inl (t % 8 - f % 8)), some (.inl (t / 8 - f / 8)), some (.inl w), some (.inl v), u8, u9, u10] [] W := by
          intro K v u8 u9 u10 hK hal h3 h4
          have h274s : ∀ (K : Nat) (a b s : Int), 400 ≤ K → ((0 < t % 8 - f % 8 ∧ a = 1) ∨ (t % 8 - f % 8 < 0 ∧ a = -1) ∨ (t % 8 - f % 8 = 0 ∧ a = 0)) → ((0 < t / 8 - f / 8 ∧ b = 1) ∨ (t / 8 - f / 8 < 0 ∧ b = -1) ∨ (t / 8 - f / 8 = 0 ∧ b = 0)) → s = rSp f a b → zwp jtb zsh n zm_MTgoes po K (lGo ak_ZMTgoes 274) 274 [some (.inr (.inr (some (.inl 90)))), some (.inl f), some (.inl t), some (.inl k), some (.inl (t % 8 - f % 8)), some (.inl (t / 8 - f / 8)), some (.inl w), some (.inl v), some (.inl a), some (.inl b), some (.inl s)] [] W := by
            intro K a b s hK ha hb es
            have key := zReY (M := (zQ W).1) hk3 hf0 ha hb hal (by rw [← ek]; exact h3) (by rw [← ek]; exact h4) hne2
            obtain ⟨J, j1, j7, je1, je2⟩ := zRay0 ht0 hf0 (by omega) ha hb hne2
            have zz := zRay hf0 ht0 (by omega) (by omega) j1 je1 je2
            have lp : ∀ (m K : Nat) (j s : Int), 40 * m + 40 ≤ K → 0 ≤ j → j ≤ m → (0 ≤ s ∧ s ≤ 63) → t % 8 = s % 8 + j * a → t / 8 = s / 8 + j * b → (rWf (zMn W) a b (rSp f a b) t ↔ rWf (zMn W) a b s t) → zwp jtb zsh n zm_MTgoes po K (lGo ak_ZMTgoes 274) 274 [some (.inr (.inr (some (.inl 90)))), some (.inl f), some (.inl t), some (.inl k), some (.inl (t % 8 - f % 8)), some (.inl (t / 8 - f / 8)), some (.inl w), some (.inl v), some (.inl a), some (.inl b), some (.inl s)] [] W := by
              intro m
              induction m with
              | zero =>
                intro K j s hK j0 jm hs0 e1 e2 hI
                obtain rfl : j = 0 := by omega
                have est : s = t := by omega
                have hz : ∀ v, ((v = 1 ∧ s = t) ∨ (v = 0 ∧ ¬ s = t ∧ ¬ W.2.1 110 s = 0)) → xBl v (zGo (zQ W) f t) := by
                  intro v hv
                  rcases hv with ⟨e, z⟩ | ⟨e, z, -⟩
                  · exact Or.inl ⟨e, hof, hot, (zGOs hk3).mpr (key.mpr (hI.mpr (rWf_i.mpr ⟨hs0.1, Or.inl z.symm⟩)))⟩
                  · exact absurd est z
                exact zp_MTgoes_274 (by omega) hn ⟨fun c277 => ⟨fun c => absurd est c, fun _ => hp 1 (hz 1 (Or.inl ⟨rfl, est⟩))⟩, fun c277 => absurd est c277⟩
              | succ m ih =>
                intro K j s hK j0 jm hs0 e1 e2 hI
                have hz : ∀ v, ((v = 1 ∧ s = t) ∨ (v = 0 ∧ ¬ s = t ∧ ¬ W.2.1 110 s = 0)) → xBl v (zGo (zQ W) f t) := by
                  intro v hv
                  rcases hv with ⟨e, z⟩ | ⟨e, z, z2⟩
                  · exact Or.inl ⟨e, hof, hot, (zGOs hk3).mpr (key.mpr (hI.mpr (rWf_i.mpr ⟨hs0.1, Or.inl z.symm⟩)))⟩
                  · refine Or.inr ⟨e, fun y => ?_⟩
                    have y2 := hI.mp (key.mp ((zGOs hk3).mp y.2.2))
                    have y3 := zWf_m y2 z
                    rw [zMn_i hs0] at y3
                    exact z2 y3.1
                have hj1 : ¬ s = t → 1 ≤ j := by
                  intro c
                  by_cases c9 : j = 0
                  · subst c9
                    exact absurd (show s = t by omega) c
                  · omega
                have zy : ¬ s = t → _ := fun c => zRay hs0 ht0 (by omega) (by omega) (hj1 c) e1 e2
                exact zp_MTgoes_274 (by omega) hn ⟨fun c277 => ⟨fun c307 => (by first | (exfalso; omega) | exact hp 0 (hz 0 (by first | exact Or.inl ⟨rfl, c277⟩ | exact Or.inr ⟨rfl, c277, c287⟩))), fun c307 => (by first | (exfalso; omega) | exact hp 1 (hz 1 (by first | exact Or.inl ⟨rfl, c277⟩ | exact Or.inr ⟨rfl, c277, c287⟩)))⟩, fun c277 => ⟨(by omega), ⟨fun c287 => ⟨fun c307 => (by first | (exfalso; omega) | exact hp 0 (hz 0 (by first | exact Or.inl ⟨rfl, c277⟩ | exact Or.inr ⟨rfl, c277, c287⟩))), fun c307 => (by first | (exfalso; omega) | exact hp 1 (hz 1 (by first | exact Or.inl ⟨rfl, c277⟩ | exact Or.inr ⟨rfl, c277, c287⟩)))⟩, fun c287 => ⟨(by omega), fun r296 hr296 => (ih _ (j - 1) r296 (by omega) (by have := hj1 c277; omega) (by have := hj1 c277; omega) (by rw [hr296]; exact (zy c277).1) (by rw [hr296]; exact (zy c277).2.1) (by rw [hr296]; exact (zy c277).2.2) (by rw [hr296]; rw [hI, rWf_i]; constructor; (rintro ⟨-, e | e⟩; (exact absurd e.symm c277); (exact e.2)); (exact fun e => ⟨hs0.1, Or.inr ⟨by rw [zMn_i (by omega)]; exact c287, e⟩⟩)))⟩⟩⟩⟩
            rw [es]
            exact lp 7 K (J - 1) _ (by omega) (by omega) (by omega) zz.1 zz.2.1 zz.2.2 Iff.rfl
          exact zp_MTgoes_222 (by omega) hn ⟨fun c224 => ⟨fun c233 => ⟨fun c245 => ⟨fun c254 => ⟨(by omega), fun r269 hr269 => (by first | (exfalso; omega) | exact h274s _ 0 0 r269 (by omega) (by omega) (by omega) hr269)⟩, fun c254 => ⟨(by omega), fun r269 hr269 => (by first | (exfalso; omega) | exact h274s _ 0 (-1) r269 (by omega) (by omega) (by omega) hr269)⟩⟩, fun c245 => ⟨(by omega), fun r269 hr269 => (by first | (exfalso; omega) | exact h274s _ 0 1 r269 (by omega) (by omega) (by omega) hr269)⟩⟩, fun c233 => ⟨fun c245 => ⟨fun c254 => ⟨(by omega), fun r269 hr269 => (by first | (exfalso; omega) | exact h274s _ (-1) 0 r269 (by omega) (by omega) (by omega) hr269)⟩, fun c254 => ⟨(by omega), fun r269 hr269 => (by first | (exfalso; omega) | exact h274s _ (-1) (-1) r269 (by omega) (by omega) (by omega) hr269)⟩⟩, fun c245 => ⟨(by omega), fun r269 hr269 => (by first | (exfalso; omega) | exact h274s _ (-1) 1 r269 (by omega) (by omega) (by omega) hr269)⟩⟩⟩, fun c224 => ⟨fun c245 => ⟨fun c254 => ⟨(by omega), fun r269 hr269 => (by first | (exfalso; omega) | exact h274s _ 1 0 r269 (by omega) (by omega) (by omega) hr269)⟩, fun c254 => ⟨(by omega), fun r269 hr269 => (by first | (exfalso; omega) | exact h274s _ 1 (-1) r269 (by omega) (by omega) (by omega) hr269)⟩⟩, fun c245 => ⟨(by omega), fun r269 hr269 => (by first | (exfalso; omega) | exact h274s _ 1 1 r269 (by omega) (by omega) (by omega) hr269)⟩⟩⟩
        exact zp_MTgoes_163 (by omega) hn ⟨fun c165 => ⟨fun c207 => (hp 0 (Or.inr ⟨rfl, fun zz => zReN (k := (zQ W).1 f % 8) (by omega) hf0 (by omega) ((zGOs (q := zQ W) (by omega)).mp zz.2.2)⟩)), fun c207 => (h222 _ 1 _ _ _ (by omega) (by omega) (by omega) (by omega))⟩, fun c165 => ⟨fun c170 => ⟨fun c189 => ⟨fun c217 => (h222 _ 0 _ _ _ (by omega) (by omega) (by omega) (by omega)), fun c217 => (hp 0 (Or.inr ⟨rfl, fun zz => zReN (k := (zQ W).1 f % 8) (by omega) hf0 (by omega) ((zGOs (q := zQ W) (by omega)).mp zz.2.2)⟩))⟩, fun c189 => ⟨(by omega), ⟨fun c197 => (hp 0 (Or.inr ⟨rfl, fun zz => zReN (k := (zQ W).1 f % 8) (by omega) hf0 (by omega) ((zGOs (q := zQ W) (by omega)).mp zz.2.2)⟩)), fun c197 => ⟨fun c217 => (h222 _ 0 _ _ _ (by omega) (by omega) (by omega) (by omega)), fun c217 => (hp 0 (Or.inr ⟨rfl, fun zz => zReN (k := (zQ W).1 f % 8) (by omega) hf0 (by omega) ((zGOs (q := zQ W) (by omega)).mp zz.2.2)⟩))⟩⟩⟩⟩, fun c170 => ⟨fun c207 => (hp 0 (Or.inr ⟨rfl, fun zz => zReN (k := (zQ W).1 f % 8) (by omega) hf0 (by omega) ((zGOs (q := zQ W) (by omega)).mp zz.2.2)⟩)), fun c207 => (h222 _ 1 _ _ _ (by omega) (by omega) (by omega) (by omega))⟩⟩⟩
      exact zp_MTgoes_61 (by omega) hn ⟨(by have z1 := zsq7 (x := t % 8 - f % 8) (by omega); have z2 := zsq7 (x := t / 8 - f / 8) (by omega); (try subst e0); (try subst e1); (try subst e2); (try subst e3); omega), fun t0 e0 => ⟨(by have z1 := zsq7 (x := t % 8 - f % 8) (by omega); have z2 := zsq7 (x := t / 8 - f / 8) (by omega); (try subst e0); (try subst e1); (try subst e2); (try subst e3); omega), fun t1 e1 => ⟨(by have z1 := zsq7 (x := t % 8 - f % 8) (by omega); have z2 := zsq7 (x := t / 8 - f / 8) (by omega); (try subst e0); (try subst e1); (try subst e2); (try subst e3); omega), ⟨(by have z1 := zsq7 (x := t % 8 - f % 8) (by omega); have z2 := zsq7 (x := t / 8 - f / 8) (by omega); (try subst e0); (try subst e1); (try subst e2); (try subst e3); omega), fun t2 e2 => ⟨(by have z1 := zsq7 (x := t % 8 - f % 8) (by omega); have z2 := zsq7 (x := t / 8 - f / 8) (by omega); (try subst e0); (try subst e1); (try subst e2); (try subst e3); omega), fun t3 e3 => ⟨(by have z1 := zsq7 (x := t % 8 - f % 8) (by omega); have z2 := zsq7 (x := t / 8 - f / 8) (by omega); (try subst e0); (try subst e1); (try subst e2); (try subst e3); omega), ⟨(by have z1 := zsq7 (x := t % 8 - f % 8) (by omega); have z2 := zsq7 (x := t / 8 - f / 8) (by omega); (try subst e0); (try subst e1); (try subst e2); (try subst e3); omega), ⟨(by have z1 := zsq7 (x := t % 8 - f % 8) (by omega); have z2 := zsq7 (x := t / 8 - f / 8) (by omega); (try subst e0); (try subst e1); (try subst e2); (try subst e3); omega), ⟨(by have z1 := zsq7 (x := t % 8 - f % 8) (by omega); have z2 := zsq7 (x := t / 8 - f / 8) (by omega); (try subst e0); (try subst e1); (try subst e2); (try subst e3); omega), ⟨fun c98 => ⟨fun c116 => (by subst e0 e1 e2 e3; exact h163 _ _ _ _ _ _ (by omega) (by omega) (by omega)), fun c116 => ⟨fun c122 => (hp 1 (by subst e0 e1 e2 e3; clear hp h163 hm; first | (have kk := zGO2 (q := zQ W) (f := f) (t := t) hf0 ht0 (by omega); unfold zGo; rw [kk]; grind [xBl]) | (have kk := zGO6 (q := zQ W) (f := f) (t := t) hf0 ht0 (by omega); have hx := fun e h => zKc (f := f) (t := t) hs e h; unfold zGo; rw [kk, eS]; clear kk eF eT hd hk hR; grind [xBl]))), fun c122 => ⟨(by have z1 := zsq7 (x := t % 8 - f % 8) (by omega); have z2 := zsq7 (x := t / 8 - f / 8) (by omega); (try subst e0); (try subst e1); (try subst e2); (try subst e3); omega), ⟨(by have z1 := zsq7 (x := t % 8 - f % 8) (by omega); have z2 := zsq7 (x := t / 8 - f / 8) (by omega); (try subst e0); (try subst e1); (try subst e2); (try subst e3); omega), ⟨fun c135 => (hp 0 (by subst e0 e1 e2 e3; clear hp h163 hm; first | (have kk := zGO2 (q := zQ W) (f := f) (t := t) hf0 ht0 (by omega); unfold zGo; rw [kk]; grind [xBl]) | (have kk := zGO6 (q := zQ W) (f := f) (t := t) hf0 ht0 (by omega); have hx := fun e h => zKc (f := f) (t := t) hs e h; unfold zGo; rw [kk, eS]; clear kk eF eT hd hk hR; grind [xBl]))), fun c135 => ⟨fun c140 => (hp 0 (by subst e0 e1 e2 e3; clear hp h163 hm; first | (have kk := zGO2 (q := zQ W) (f := f) (t := t) hf0 ht0 (by omega); unfold zGo; rw [kk]; grind [xBl]) | (have kk := zGO6 (q := zQ W) (f := f) (t := t) hf0 ht0 (by omega); have hx := fun e h => zKc (f := f) (t := t) hs e h; unfold zGo; rw [kk, eS]; clear kk eF eT hd hk hR; grind [xBl]))), fun c140 => ⟨fun c146 => (hp 0 (by subst e0 e1 e2 e3; clear hp h163 hm; first | (have kk := zGO2 (q := zQ W) (f := f) (t := t) hf0 ht0 (by omega); unfold zGo; rw [kk]; grind [xBl]) | (have kk := zGO6 (q := zQ W) (f := f) (t := t) hf0 ht0 (by omega); have hx := fun e h => zKc (f := f) (t := t) hs e h; unfold zGo; rw [kk, eS]; clear kk eF eT hd hk hR; grind [xBl]))), fun c146 => ⟨(by subst e0 e1 e2 e3; exact ⟨hd, hk, hR, by rw [show 56 * W.1 90 25 + 4 = f by omega]; show (zQ W).1 f = _; have := hof; unfold rOwn at this; rw [eS] at this; omega, by have := (zsq4 (x := t % 8 - f % 8) (by omega)).1; rw [c140] at c146; omega⟩), fun r151 hr151 => ⟨fun c154 => (hp 0 (by subst e0 e1 e2 e3; clear hp h163 hm; first | (have kk := zGO2 (q := zQ W) (f := f) (t := t) hf0 ht0 (by omega); unfold zGo; rw [kk]; grind [xBl]) | (have kk := zGO6 (q := zQ W) (f := f) (t := t) hf0 ht0 (by omega); have hx := fun e h => zKc (f := f) (t := t) hs e h; unfold zGo; rw [kk, eS]; clear kk eF eT hd hk hR; grind [xBl]))), fun c154 => (hp 1 (by subst e0 e1 e2 e3; clear hp h163 hm; first | (have kk := zGO2 (q := zQ W) (f := f) (t := t) hf0 ht0 (by omega); unfold zGo; rw [kk]; grind [xBl]) | (have kk := zGO6 (q := zQ W) (f := f) (t := t) hf0 ht0 (by omega); have hx := fun e h => zKc (f := f) (t := t) hs e h; unfold zGo; rw [kk, eS]; clear kk eF eT hd hk hR; grind [xBl])))⟩⟩⟩⟩⟩⟩⟩⟩⟩, fun c98 => ⟨fun c104 => (hp 0 (by subst e0 e1 e2 e3; clear hp h163 hm; first | (have kk := zGO2 (q := zQ W) (f := f) (t := t) hf0 ht0 (by omega); unfold zGo; rw [kk]; grind [xBl]) | (have kk := zGO6 (q := zQ W) (f := f) (t := t) hf0 ht0 (by omega); have hx := fun e h => zKc (f := f) (t := t) hs e h; unfold zGo; rw [kk, eS]; clear kk eF eT hd hk hR; grind [xBl]))), fun c104 => (hp 1 (by subst e0 e1 e2 e3; clear hp h163 hm; first | (have kk := zGO2 (q := zQ W) (f := f) (t := t) hf0 ht0 (by omega); unfold zGo; rw [kk]; grind [xBl]) | (have kk := zGO6 (q := zQ W) (f := f) (t := t) hf0 ht0 (by omega); have hx := fun e h => zKc (f := f) (t := t) hs e h; unfold zGo; rw [kk, eS]; clear kk eF eT hd hk hR; grind [xBl])))⟩⟩⟩⟩⟩⟩⟩⟩⟩⟩⟩
    exact zp_MTgoes_39 (by omega) hn ⟨(by omega), ⟨(by have := hm f hf0.1 hf0.2; have := hm t ht0.1 ht0.2; omega), fun r45 hr45 => ⟨fun c51 => (h61 _ r45 _ _ _ _ _ _ _ (by omega) (by rw [eF]; omega) c51), fun c51 => ⟨⟨hf0, ht0, hk⟩, fun r57 hr57 => ⟨(xBl_01 hr57), (hp r57 (by have kk := zGO1 (q := zQ W) (f := f) (t := t) (by rw [eF]; omega); unfold zGo; rw [kk]; grind [xBl]))⟩⟩⟩⟩⟩
  exact zp_MTgoes_0 (by omega) hn ⟨(by omega), ⟨(by have := hm f hf0.1 hf0.2; have := hm t ht0.1 ht0.2; omega), fun r6 hr6 => ⟨fun c13 => (hp 0 (Or.inr ⟨rfl, fun z => by have z1 := z.1; have z2 := z.2.1; unfold rOwn at z1 z2; rw [eF, eS] at z1; rw [eT, eS] at z2; grind⟩)), fun c13 => ⟨(by omega), ⟨(by have := hm f hf0.1 hf0.2; have := hm t ht0.1 ht0.2; omega), fun r22 hr22 => ⟨fun c29 => (hp 0 (Or.inr ⟨rfl, fun z => by have z1 := z.1; have z2 := z.2.1; unfold rOwn at z1 z2; rw [eF, eS] at z1; rw [eT, eS] at z2; grind⟩)), fun c29 => ⟨fun c34 => (h39 _ _ _ _ _ _ _ _ _ (by omega) (by unfold rOwn; rw [eF, eS]; grind) (by unfold rOwn; rw [eT, eS]; grind)), fun c34 => (hp 0 (Or.inr ⟨rfl, fun z => by have z1 := z.1; have z2 := z.2.1; unfold rOwn at z1 z2; rw [eF, eS] at z1; rw [eT, eS] at z2; grind⟩))⟩⟩⟩⟩⟩⟩⟩
end
section
/-! sums over rows that hold the same things, each once -/
/-- row g holds on [a, b) just what P says, each thing once -/
def hqE (P : Int → Prop) (g : Int → Int) (a b : Int) : Prop := a ≤ b ∧ (∀ i, a ≤ i → i < b → P (g i)) ∧ (∀ m, P m → ∃ i, a ≤ i ∧ i < b ∧ g i = m) ∧ ∀ i j, a ≤ i → i < b → a ≤ j → j < b → g i = g j → i = j
def hqL (g : Int → Int) (a : Int) : Nat → List Int
  | 0 => []
  | n + 1 => g a :: hqL g (a + 1) n
def hqS (w : Int → Int) : List Int → Int
  | [] => 0
  | m :: r => w m + hqS w r
theorem hq_mem {g : Int → Int} {m : Int} : ∀ (n : Nat) (a : Int), m ∈ hqL g a n ↔ ∃ i, a ≤ i ∧ i < a + n ∧ g i = m
  | 0, a => by
    constructor
    · intro h; cases h
    · rintro ⟨i, h1, h2, -⟩; omega
  | n + 1, a => by
    show m ∈ g a :: hqL g (a + 1) n ↔ _
    rw [List.mem_cons, hq_mem n (a + 1)]
    constructor
    · rintro (h | ⟨i, h1, h2, h3⟩)
      · exact ⟨a, by omega, by omega, h.symm⟩
      · exact ⟨i, by omega, by omega, h3⟩
    · rintro ⟨i, h1, h2, h3⟩
      by_cases c : i = a
      · subst c; exact Or.inl h3.symm
      · exact Or.inr ⟨i, by omega, by omega, h3⟩
theorem hq_nd {g : Int → Int} : ∀ (n : Nat) (a : Int), (∀ i j, a ≤ i → i < a + n → a ≤ j → j < a + n → g i = g j → i = j) → (hqL g a n).Nodup
  | 0, _, _ => List.nodup_nil
  | n + 1, a, h => by
    show (g a :: hqL g (a + 1) n).Nodup
    rw [List.nodup_cons]
    refine ⟨fun hm => ?_, hq_nd n (a + 1) (fun i j h1 h2 h3 h4 e => h i j (by omega) (by omega) (by omega) (by omega) e)⟩
    obtain ⟨i, h1, h2, h3⟩ := (hq_mem n (a + 1)).mp hm
    have := h i a (by omega) (by omega) (by omega) (by omega) h3
    omega
theorem hq_er {w : Int → Int} {m : Int} : ∀ {l : List Int}, m ∈ l → hqS w l = w m + hqS w (l.erase m)
  | [], h => by cases h
  | x :: l, h => by
    by_cases c : x = m
    · subst c
      rw [List.erase_cons_head]
      rfl
    · have h2 : m ∈ l := by
        rcases List.mem_cons.mp h with h | h
        · exact absurd h.symm c
        · exact h
      rw [List.erase_cons_tail (by simpa using c)]
      show w x + hqS w l = w m + (w x + hqS w (l.erase m))
      rw [hq_er h2]
      omega
theorem hq_eq {w : Int → Int} : ∀ {l r : List Int}, l.Nodup → r.Nodup → (∀ m, m ∈ l ↔ m ∈ r) → hqS w l = hqS w r
  | [], r, _, _, h => by
    match r with
    | [] => rfl
    | x :: r => exact absurd ((h x).mpr List.mem_cons_self) (by intro h; cases h)
  | x :: l, r, h1, h2, h => by
    rw [List.nodup_cons] at h1
    have hx : x ∈ r := (h x).mp List.mem_cons_self
    rw [hq_er hx]
    show w x + hqS w l = _
    rw [hq_eq (l := l) (r := r.erase x) h1.2 (h2.erase x) (fun m => ?_)]
    rw [List.Nodup.mem_erase_iff h2]
    constructor
    · intro hm
      refine ⟨fun e => h1.1 (by rw [← e]; exact hm), (h m).mp (List.mem_cons_of_mem _ hm)⟩
    · rintro ⟨hm, hr⟩
      rcases List.mem_cons.mp ((h m).mpr hr) with h3 | h3
      · exact absurd h3 hm
      · exact h3
end
section
/-! legal moves: safe moves of men; lists of them, each once (pure) -/
noncomputable def zLg (q : rQ) (m : Int) : Prop := rLm q m ∧ rGd (rMk q m)
theorem zSame {q : rQ} {m x : Int} (hx : x = rFr m + 64 * rTo m) : (∀ i, ¬ i = rTo m → rV3 q x i = rV3 q m i) ∧ rV3 q x (rTo m) = q.1 (rFr m) ∧ rV3 q m (rTo m) = (if 0 < rBc m then rBc m + 8 * q.2.1 else q.1 (rFr m)) := by
  obtain ⟨z1, z2, z3⟩ := rFr_m (f := rFr m) (t := rTo m) rFr_r.1 rFr_r.2 rTo_r.1 rTo_r.2
  rw [← hx] at z1 z2 z3
  have hv0 : rV0 q x = rV0 q m := by
    have hc : rVd q x ↔ rVd q m := by unfold rVd; rw [z1, z2]
    by_cases c : rVd q m
    · rw [rV0_y c, rV0_y (hc.mpr c), z1, z2]
    · rw [rV0_n c, rV0_n (fun h => c (hc.mp h))]
  have hv1 : rV1 q x = rV1 q m := by
    have hc : rVc q x ↔ rVc q m := by unfold rVc; rw [z1, z2]
    have hcv : rCv x = rCv m := by unfold rCv; rw [z1, z2]
    by_cases c : rVc q m
    · rw [rV1_y c, rV1_y (hc.mpr c)]
      unfold rV1d
      rw [hv0, hcv, z1, z2]
    · rw [rV1_n c, rV1_n (fun h => c (hc.mp h)), hv0]
  refine ⟨fun i hi => ?_, ?_, ?_⟩
  · unfold rV3 rV2
    rw [hv1, z1, z2, rUp_n hi, rUp_n hi]
  · unfold rV3
    rw [z2, rUp_s, z3, if_neg (by decide), z1]
  · unfold rV3
    rw [rUp_s]
theorem zSafe {q : rQ} {m x k : Int} (hd : rGd q) (hl : rLm q m) (hx : x = rFr m + 64 * rTo m) (hk : zKi (rV3 q x) q.2.1 k) : rGd (rMk q m) ↔ ¬ rAk (rV3 q x) k (1 - q.2.1) := by
  obtain ⟨s1, s2, s3⟩ := zSame (q := q) hx
  have d0 := hd.1
  have d1 := hd.2.1
  have hV : rV3 q m = rM4 q m := rV3_eq hd hl
  obtain ⟨l0, l1, ho, hno, hg, hb⟩ := hl
  have hl : rLm q m := ⟨l0, l1, ho, hno, hg, hb⟩
  have hAl : ∀ i, rV3 q m i = rV3 q x i ∨ (¬ rV3 q m i = 0 ∧ ¬ rV3 q x i = 0 ∧ ¬ rV3 q m i / 8 = 1 - q.2.1 ∧ ¬ rV3 q x i / 8 = 1 - q.2.1) := by
    intro i
    by_cases c : i = rTo m
    · right
      rw [c, s2, s3]
      have h1 := ho.1
      have h2 := ho.2
      split <;> omega
    · left
      exact (s1 i c).symm
  have hK : ∀ i, rV3 q m i = 8 * q.2.1 + 6 ↔ rV3 q x i = 8 * q.2.1 + 6 := by
    intro i
    by_cases c : i = rTo m
    · rw [c, s2, s3]
      split <;> omega
    · rw [s1 i c]
  obtain ⟨s, a0, a1, a2, a3⟩ := rKs_4 hd hl q.2.1 d0 d1
  rw [← hV] at a2 a3
  have ek : k = s := a3 k ((hK k).mpr (hk.2.2 ⟨s, a0, a1, (hK s).mp a2⟩))
  rw [rMk_gd hd hl, ← hV]
  constructor
  · intro h ha
    rw [ek] at ha
    refine h s a2 (rLk_a (M := rV3 q x) (fun i => ?_) ha)
    rcases hAl i with z | ⟨z1, z2, z3, z4⟩
    · exact Or.inl z.symm
    · exact Or.inr ⟨z2, z1, z4, z3⟩
  · intro h t ht ha
    have et := a3 t ht
    rw [et] at ha
    refine h ?_
    rw [ek]
    exact rLk_a (M := rV3 q m) hAl ha
/-- legal moves up to a place -/
noncomputable def zPre (q : rQ) (f t b m : Int) : Prop := zLg q m ∧ (rFr m < f ∨ (rFr m = f ∧ (rTo m < t ∨ (rTo m = t ∧ rBc m < b))))
theorem hq_c {P Q : Int → Prop} {g : Int → Int} {a b : Int} (h : hqE P g a b) (e : ∀ m, P m ↔ Q m) : hqE Q g a b := ⟨h.1, fun i h1 h2 => (e _).mp (h.2.1 i h1 h2), fun m hm => h.2.2.1 m ((e m).mpr hm), h.2.2.2⟩
theorem hq_r {P : Int → Prop} {g g' : Int → Int} {a b : Int} (h : hqE P g a b) (e : ∀ i, a ≤ i → i < b → g' i = g i) : hqE P g' a b := by
  refine ⟨h.1, fun i h1 h2 => by rw [e i h1 h2]; exact h.2.1 i h1 h2, fun m hm => ?_, fun i j h1 h2 h3 h4 h5 => ?_⟩
  · obtain ⟨i, h1, h2, h3⟩ := h.2.2.1 m hm
    exact ⟨i, h1, h2, by rw [e i h1 h2]; exact h3⟩
  · rw [e i h1 h2, e j h3 h4] at h5
    exact h.2.2.2 i j h1 h2 h3 h4 h5
theorem zMd {m : Int} (h0 : 0 ≤ m) : m = rFr m + 64 * rTo m + 4096 * rBc m := by
  unfold rFr rTo rBc
  omega
theorem zPre_a {q : rQ} {f t b m n : Int} {g : Int → Int} (h : hqE (zPre q f t b) g 0 n) (hm : zLg q m) (e1 : rFr m = f) (e2 : rTo m = t) (e3 : rBc m = b) : hqE (zPre q f t (b + 1)) (zuI g n m) 0 (n + 1) := by
  have h0 := h.1
  refine ⟨by omega, fun i h1 h2 => ?_, fun x hx => ?_, fun i j h1 h2 h3 h4 h5 => ?_⟩
  · by_cases c : i = n
    · rw [c, zuI_s]
      exact ⟨hm, by omega⟩
    · rw [zuI_n c]
      obtain ⟨z1, z2⟩ := h.2.1 i h1 (by omega)
      exact ⟨z1, by omega⟩
  · by_cases c : rFr x = f ∧ rTo x = t ∧ rBc x = b
    · refine ⟨n, h0, by omega, ?_⟩
      rw [zuI_s]
      have a1 := zMd hx.1.1.1
      have a2 := zMd hm.1.1
      omega
    · obtain ⟨i, i0, i1, i2⟩ := h.2.2.1 x ⟨hx.1, by have := hx.2; omega⟩
      exact ⟨i, i0, by omega, by rw [zuI_n (by omega)]; exact i2⟩
  · have old : ∀ i, 0 ≤ i → i < n → ¬ g i = m := by
      intro i i0 i1 e
      have := (h.2.1 i i0 i1).2
      rw [e] at this
      omega
    by_cases c : i = n
    · by_cases d : j = n
      · omega
      · rw [c, zuI_s, zuI_n d] at h5
        exact absurd h5.symm (old j h3 (by omega))
    · by_cases d : j = n
      · rw [d, zuI_s, zuI_n c] at h5
        exact absurd h5 (old i h1 (by omega))
      · rw [zuI_n c, zuI_n d] at h5
        exact h.2.2.2 i j h1 (by omega) h3 (by omega) h5
theorem zPre_0 {q : rQ} {g : Int → Int} : hqE (zPre q 0 0 0) g 0 0 := by
  refine ⟨by decide, fun i h1 h2 => by omega, fun m hm => ?_, fun i j h1 h2 => by omega⟩
  have a := rFr_r (m := m)
  have b := rTo_r (m := m)
  have c := hm.2
  have d := hm.1.1.1
  unfold rBc at c
  omega
theorem zPre_s {q : rQ} {f t n : Int} {g : Int → Int} (h : hqE (zPre q f t 0) g 0 n) (hx : ∀ m, zLg q m → rFr m = f → rTo m = t → False) : hqE (zPre q f (t + 1) 0) g 0 n := by
  refine hq_c h (fun m => ⟨fun z => ⟨z.1, by have := z.2; omega⟩, fun z => ⟨z.1, ?_⟩⟩)
  have z2 := z.2
  by_cases c : rFr m = f ∧ rTo m = t
  · exact (hx m z.1 c.1 c.2).elim
  · have d := z.1.1.1
    unfold rBc at *
    omega
theorem zPre_e {q : rQ} {f t n : Int} {g : Int → Int} (h : hqE (zPre q f t 0) g 0 n) (hx : 64 ≤ t ∨ ∀ m, zLg q m → rFr m = f → False) : hqE (zPre q (f + 1) 0 0) g 0 n := by
  refine hq_c h (fun m => ⟨fun z => ⟨z.1, by have := z.2; omega⟩, fun z => ⟨z.1, ?_⟩⟩)
  have z2 := z.2
  have d := z.1.1.1
  have b := rTo_r (m := m)
  by_cases c : rFr m = f
  · rcases hx with e | e
    · unfold rBc at *
      omega
    · exact (e m z.1 c).elim
  · unfold rBc at *
    omega
theorem zPre_n {q : rQ} {f t b n : Int} {g : Int → Int} (h : hqE (zPre q f t b) g 0 n) (hx : ∀ m, zLg q m → rFr m = f → rTo m = t → rBc m < b) : hqE (zPre q f (t + 1) 0) g 0 n := by
  refine hq_c h (fun m => ⟨fun z => ⟨z.1, by have := z.2; omega⟩, fun z => ⟨z.1, ?_⟩⟩)
  have z2 := z.2
  have d := z.1.1.1
  by_cases c : rFr m = f ∧ rTo m = t
  · have := hx m z.1 c.1 c.2
    omega
  · unfold rBc at *
    omega
theorem zPre_b {q : rQ} {f t b n : Int} {g : Int → Int} (h : hqE (zPre q f t 0) g 0 n) (b0 : 0 ≤ b) (hx : ∀ m, zLg q m → rFr m = f → rTo m = t → b ≤ rBc m) : hqE (zPre q f t b) g 0 n := by
  refine hq_c h (fun m => ⟨fun z => ⟨z.1, by have := z.2; omega⟩, fun z => ⟨z.1, ?_⟩⟩)
  have z2 := z.2
  by_cases c : rFr m = f ∧ rTo m = t
  · have := hx m z.1 c.1 c.2
    omega
  · omega
theorem zWt0 {k s t : Int} : 0 ≤ rWt k s t := by
  unfold rWt
  split
  · split <;> decide
  · decide
theorem zWt1 {k s t : Int} (h : rSup k s t = true) : rWt k s t = (if k = 1 ∧ (t < 8 ∨ 55 < t) then 4 else 1) := by
  unfold rWt
  rw [if_pos h]
end
section
/-! the reference, Texts: findMoves -/
/-- the same position, other lists -/
noncomputable def zSp (W V : zW) : Prop := zMn V = zMn W ∧ zFr [(90, 33)] [110, 111, 112, 113] W V
theorem zSp_q {W V : zW} (h : zSp W V) : zQ V = zQ W := by
  unfold zQ
  rw [h.1, zFr_f h.2 90 25, zFr_f h.2 90 26, zFr_f h.2 90 27]
theorem zSp_m {W V : zW} (h : zSp W V) (i : Int) (h0 : 0 ≤ i) (h1 : i ≤ 63) : V.2.1 110 i = W.2.1 110 i := by
  have := congrFun h.1 i
  rwa [zMn_i ⟨h0, h1⟩, zMn_i ⟨h0, h1⟩] at this
theorem zSp_k {W V : zW} (h : zSp W V) (hk : zMk W) : zMk V := by
  refine ⟨fun i h0 h1 => by rw [zSp_m h i h0 h1]; exact hk.1 i h0 h1, ?_, ?_, ?_⟩
  · rw [zFr_f h.2 90 25]; exact hk.2.1
  · rw [zFr_f h.2 90 28]; exact hk.2.2.1
  · rw [zFr_f h.2 90 29]; exact hk.2.2.2
theorem zSp_t {W V U : zW} (h : zSp W V) (h2 : zMn U = zMn V) (h3 : zFr [] [110, 111, 112] V U) : zSp W U := ⟨h2.trans h.1, zFr_t h.2 (zFr_w h3 (by decide) (by decide))⟩
noncomputable def ak_ZMTfind : List jI := [(.aload_n 0, 1, (0, 0, 0, 0, 0)), (.iconst 0, 1, (0, 0, 0, 0, 0)), (.putfield 171, 3, (12, 33, 2071, 0, 0)), (.iconst 0, 1, (0, 0, 0, 0, 0)), (.istore_n 1, 1, (1, 0, 0, 0, 0)), (.iload_n 1, 1, (1, 0, 0, 0, 0)), (.bipush 64, 2, (0, 0, 0, 64, 0)), (.if_icmp .ge 159, 3, (169, 0, 0, 0, 0)), (.iconst 0, 1, (0, 0, 0, 0, 0)), (.istore_n 2, 1, (2, 0, 0, 0, 0)), (.iload_n 2, 1, (2, 0, 0, 0, 0)), (.bipush 64, 2, (0, 0, 0, 64, 0)), (.if_icmp .ge 145, 3, (163, 0, 0, 0, 0)), (.aload_n 0, 1, (0, 0, 0, 0, 0)), (.getfield 71, 3, (12, 24, 2055, 0, 0)), (.iload_n 1, 1, (1, 0, 0, 0, 0)), (.iaload, 1, (0, 0, 0, 0, 0)), (.invokestatic 162, 3, (0, 0, 1963, 0, 0)), (.aload_n 0, 1, (0, 0, 0, 0, 0)), (.getfield 122, 3, (12, 25, 2057, 0, 0)), (.if_icmp .ne 129, 3, (163, 0, 0, 0, 0)), (.aload_n 0, 1, (0, 0, 0, 0, 0)), (.iload_n 1, 1, (1, 0, 0, 0, 0)), (.iload_n 2, 1, (2, 0, 0, 0, 0)), (.invokevirtual 174, 3, (1, 0, 1966, 0, 0)), (.ifCond .eq 114, 3, (157, 0, 0, 0, 0)), (.aload_n 0, 1, (0, 0, 0, 0, 0)), (.getfield 71, 3, (12, 24, 2055, 0, 0)), (.iload_n 1, 1, (1, 0, 0, 0, 0)), (.iaload, 1, (0, 0, 0, 0, 0)), (.invokestatic 137, 3, (2, 0, 1941, 0, 0)), (.iconst 1, 1, (0, 0, 0, 1, 0)), (.if_icmp .ne 19, 3, (75, 0, 0, 0, 0)), (.iload_n 2, 1, (2, 0, 0, 0, 0)), (.bipush 8, 2, (0, 0, 0, 8, 0)), (.if_icmp .lt 9, 3, (71, 0, 0, 0, 0)), (.iload_n 2, 1, (2, 0, 0, 0, 0)), (.bipush 55, 2, (0, 0, 0, 55, 0)), (.if_icmp .le 7, 3, (75, 0, 0, 0, 0)), (.iconst 1, 1, (0, 0, 0, 1, 0)), (.goto 4, 3, (76, 0, 0, 0, 0)), (.iconst 0, 1, (0, 0, 0, 0, 0)), (.istore_n 3, 1, (3, 0, 0, 0, 0)), (.aload_n 0, 1, (0, 0, 0, 0, 0)), (.iload_n 1, 1, (1, 0, 0, 0, 0)), (.bipush 64, 2, (0, 0, 0, 64, 0)), (.iload_n 2, 1, (2, 0, 0, 0, 0)), (.imul, 1, (0, 0, 0, 0, 0)), (.iadd, 1, (0, 0, 0, 0, 0)), (.invokevirtual 177, 3, (3, 0, 1990, 0, 0)), (.istore 4, 2, (4, 0, 0, 0, 0)), (.iload_n 3, 1, (3, 0, 0, 0, 0)), (.ifCond .eq 7, 3, (97, 0, 0, 0, 0)), (.iconst 2, 1, (0, 0, 0, 2, 0)), (.goto 4, 3, (98, 0, 0, 0, 0)), (.iconst 0, 1, (0, 0, 0, 0, 0)), (.istore 5, 2, (5, 0, 0, 0, 0)), (.iload 4, 2, (4, 0, 0, 0, 0)), (.ifCond .eq 55, 3, (157, 0, 0, 0, 0)), (.iload 5, 2, (5, 0, 0, 0, 0)), (.iload_n 3, 1, (3, 0, 0, 0, 0)), (.ifCond .eq 7, 3, (115, 0, 0, 0, 0)), (.iconst 5, 1, (0, 0, 0, 5, 0)), (.goto 4, 3, (116, 0, 0, 0, 0)), (.iconst 0, 1, (0, 0, 0, 0, 0)), (.if_icmp .gt 41, 3, (157, 0, 0, 0, 0)), (.aload_n 0, 1, (0, 0, 0, 0, 0)), (.getfield 80, 3, (12, 32, 2069, 0, 0)), (.aload_n 0, 1, (0, 0, 0, 0, 0)), (.getfield 171, 3, (12, 33, 2071, 0, 0)), (.iload_n 1, 1, (1, 0, 0, 0, 0)), (.bipush 64, 2, (0, 0, 0, 64, 0)), (.iload_n 2, 1, (2, 0, 0, 0, 0)), (.imul, 1, (0, 0, 0, 0, 0)), (.iadd, 1, (0, 0, 0, 0, 0)), (.sipush 4096, 3, (0, 0, 0, 4096, 0)), (.iload 5, 2, (5, 0, 0, 0, 0)), (.imul, 1, (0, 0, 0, 0, 0)), (.iadd, 1, (0, 0, 0, 0, 0)), (.iastore, 1, (0, 0, 0, 0, 0)), (.aload_n 0, 1, (0, 0, 0, 0, 0)), (.dup, 1, (0, 0, 0, 0, 0)), (.getfield 171, 3, (12, 33, 2071, 0, 0)), (.iconst 1, 1, (0, 0, 0, 1, 0)), (.iadd, 1, (0, 0, 0, 0, 0)), (.putfield 171, 3, (12, 33, 2071, 0, 0)), (.iinc 5 1, 3, (0, 0, 0, 1, 0)), (.goto (-54), 3, (100, 0, 0, 0, 0)), (.iinc 2 1, 3, (0, 0, 0, 1, 0)), (.goto (-145), 3, (15, 0, 0, 0, 0)), (.iinc 1 1, 3, (0, 0, 0, 1, 0)), (.goto (-159), 3, (7, 0, 0, 0, 0)), (.return_, 1, (0, 0, 0, 0, 0))]
theorem ao_ZMTfind : jokLG jtF lk_MT "ChessHouseModel$Texts" jcl jtb 6 prog_18_method_21_code 0 ak_ZMTfind = true := by decide +kernel
noncomputable def zm_MTfind : zM := (none, { frames := 5, cells := 0, slots := 0, locals := 132 }, ([(162, 1963, 0), (174, 1966, 1), (137, 1941, 2), (177, 1990, 3)], []), [(y_MT_sideOf, true, 1, 0, { frames := 0, cells := 0, slots := 0, locals := 0 }, zc_MTsideOf), (y_MT_goes, false, 3, 12, { frames := 4, cells := 0, slots := 0, locals := 102 }, zc_MTgoes), (y_MT_kind, true, 1, 0, { frames := 0, cells := 0, slots := 0, locals := 0 }, zc_MTkind), (y_MT_isSafe, false, 2, 12, { frames := 4, cells := 0, slots := 0, locals := 98 }, zc_MTsafe)], ak_ZMTfind)
noncomputable def zc_MTfind (vals : List zv) (W : zW) (post : zPo) : Prop := vals = [.inr (.inr (some (.inl 90)))] ∧ (rGd (zQ W) ∧ zMk W ∧ (0 ≤ W.1 90 26 ∧ W.1 90 26 ≤ 15)) ∧ ∀ V : zW, (zSp W V ∧ hqE (zLg (zQ W)) (V.2.1 113) 0 (V.1 90 33) ∧ V.1 90 33 ≤ 2048) → post none V
set_option maxRecDepth 8000 in
theorem zp_MTfind_0 {n K : Nat} {W : zW} {post : zPo} {u1 u2 u3 u4 u5 : Option zv} (hK : 5 ≤ K) (hn : 142 ≤ n) (h : zwp jtb zsh n zm_MTfind post (K - 5) (lGo ak_ZMTfind 7) 7 [some (.inr (.inr (some (.inl 90)))), some (.inl (0)), u2, u3, u4, u5] [] (zuF W 90 33 0)) : zwp jtb zsh n zm_MTfind post K (lGo ak_ZMTfind 0) 0 [some (.inr (.inr (some (.inl 90)))), u1, u2, u3, u4, u5] [] W := by
  obtain ⟨kk__, rfl⟩ : ∃ kk__, K = kk__ + 5 := ⟨K - 5, by omega⟩
  exact (show 90 < n ∧ 12 = 12 ∧ (some 0 : Option Nat) = some 0 ∧ ((0 : Nat) = 0 ∨ ((0 : Nat) = 1 ∧ ((0 : Int) = 0 ∨ (0 : Int) = 1))) ∧ zwp jtb zsh n zm_MTfind post (kk__ + 0) (lGo ak_ZMTfind 7) 7 [some (.inr (.inr (some (.inl 90)))), some (.inl (0)), u2, u3, u4, u5] [] (zuF W 90 33 0) from ⟨(Nat.lt_of_lt_of_le (by decide) hn), rfl, rfl, (Or.inl rfl), h⟩)
set_option maxRecDepth 8000 in
theorem zp_MTfind_7 {n K : Nat} {V : zW} {post : zPo} {f : Int} {u2 u3 u4 u5 : Option zv} (hK : 5 ≤ K) (hn : 142 ≤ n) (h : (64 ≤ f → post none V) ∧ (¬ 64 ≤ f → zwp jtb zsh n zm_MTfind post (K - 5) (lGo ak_ZMTfind 15) 15 [some (.inr (.inr (some (.inl 90)))), some (.inl (f)), some (.inl (0)), u3, u4, u5] [] V)) : zwp jtb zsh n zm_MTfind post K (lGo ak_ZMTfind 7) 7 [some (.inr (.inr (some (.inl 90)))), some (.inl (f)), u2, u3, u4, u5] [] V := by
  obtain ⟨kk__, rfl⟩ : ∃ kk__, K = kk__ + 5 := ⟨K - 5, by omega⟩
  exact (show (64 ≤ f → 1 = 1 ∧ (none : Option FieldType) = none ∧ post none V) ∧ (¬ 64 ≤ f → zwp jtb zsh n zm_MTfind post (kk__ + 0) (lGo ak_ZMTfind 15) 15 [some (.inr (.inr (some (.inl 90)))), some (.inl (f)), some (.inl (0)), u3, u4, u5] [] V) from ⟨fun c10_2 => ⟨rfl, rfl, ((h).1 c10_2)⟩, fun c10_2 => ((h).2 c10_2)⟩)
set_option maxRecDepth 8000 in
theorem zp_MTfind_15 {n K : Nat} {V : zW} {post : zPo} {f t : Int} {u3 u4 u5 : Option zv} (hK : 32 ≤ K) (hn : 142 ≤ n) (h : (64 ≤ t → (-2147483648 ≤ f + 1 ∧ f + 1 ≤ 2147483647) ∧ zwp jtb zsh n zm_MTfind post (K - 5) (lGo ak_ZMTfind 7) 7 [some (.inr (.inr (some (.inl 90)))), some (.inl (f + 1)), some (.inl (t)), u3, u4, u5] [] V) ∧ (¬ 64 ≤ t → (0 ≤ f ∧ f < 64) ∧ (0 ≤ (V.2.1 110 f) ∧ (V.2.1 110 f) ≤ 2147483647) ∧ ∀ r27 : Int, (((V.2.1 110 f) = 0 ∧ r27 = -1) ∨ (¬ (V.2.1 110 f) = 0 ∧ r27 = (V.2.1 110 f) / 8)) → (¬ r27 = (V.1 90 25) → (-2147483648 ≤ f + 1 ∧ f + 1 ≤ 2147483647) ∧ zwp jtb zsh n zm_MTfind post (K - 13) (lGo ak_ZMTfind 7) 7 [some (.inr (.inr (some (.inl 90)))), some (.inl (f + 1)), some (.inl (t)), u3, u4, u5] [] V) ∧ (r27 = (V.1 90 25) → (rGd (zQ V) ∧ zMk V ∧ (0 ≤ V.1 90 26 ∧ V.1 90 26 ≤ 15) ∧ (0 ≤ f ∧ f ≤ 63) ∧ (0 ≤ t ∧ t ≤ 63)) ∧ ∀ r40 : Int, (xBl r40 (zGo (zQ V) f t)) → (r40 = 0 → zwp jtb zsh n zm_MTfind post (K - 16) (lGo ak_ZMTfind 157) 157 [some (.inr (.inr (some (.inl 90)))), some (.inl (f)), some (.inl (t)), u3, u4, u5] [] V) ∧ (¬ r40 = 0 → (0 ≤ f ∧ f < 64) ∧ (0 ≤ (V.2.1 110 f) ∧ (V.2.1 110 f) ≤ 2147483647) ∧ ∀ r52 : Int, (r52 = (V.2.1 110 f) % 8) → (¬ r52 = 1 → zwp jtb zsh n zm_MTfind post (K - 25) (lGo ak_ZMTfind 77) 77 [some (.inr (.inr (some (.inl 90)))), some (.inl (f)), some (.inl (t)), some (.inl (0)), u4, u5] [] V) ∧ (r52 = 1 → (t < 8 → zwp jtb zsh n zm_MTfind post (K - 29) (lGo ak_ZMTfind 77) 77 [some (.inr (.inr (some (.inl 90)))), some (.inl (f)), some (.inl (t)), some (.inl (1)), u4, u5] [] V) ∧ (¬ t < 8 → (t ≤ 55 → zwp jtb zsh n zm_MTfind post (K - 31) (lGo ak_ZMTfind 77) 77 [some (.inr (.inr (some (.inl 90)))), some (.inl (f)), some (.inl (t)), some (.inl (0)), u4, u5] [] V) ∧ (¬ t ≤ 55 → zwp jtb zsh n zm_MTfind post (K - 32) (lGo ak_ZMTfind 77) 77 [some (.inr (.inr (some (.inl 90)))), some (.inl (f)), some (.inl (t)), some (.inl (1)), u4, u5] [] V))))))) : zwp jtb zsh n zm_MTfind post K (lGo ak_ZMTfind 15) 15 [some (.inr (.inr (some (.inl 90)))), some (.inl (f)), some (.inl (t)), u3, u4, u5] [] V := by
  obtain ⟨kk__, rfl⟩ : ∃ kk__, K = kk__ + 32 := ⟨K - 32, by omega⟩
  exact (show (64 ≤ t → (-2147483648 ≤ f + 1 ∧ f + 1 ≤ 2147483647) ∧ zwp jtb zsh n zm_MTfind post (kk__ + 27) (lGo ak_ZMTfind 7) 7 [some (.inr (.inr (some (.inl 90)))), some (.inl (f + 1)), some (.inl (t)), u3, u4, u5] [] V) ∧ (¬ 64 ≤ t → 90 < n ∧ 12 = 12 ∧ 110 < n ∧ FieldType.int = FieldType.int ∧ (0 ≤ f ∧ f < 64) ∧ 3 = 3 ∧ true = true ∧ jin3 162 1963 0 zm_MTfind.2.2.1.1 = true ∧ lRm zm_MTfind.2.1 { frames := 0, cells := 0, slots := 0, locals := 0 } 1 = true ∧ Nat.ble 1 1 = true ∧ Nat.ble 0 8 = true ∧ zc_MTsideOf [.inl (V.2.1 110 f)] V (fun vv__ WW__ => zwp jtb zsh n zm_MTfind post (kk__ + 24) (lGo ak_ZMTfind 30) 30 [some (.inr (.inr (some (.inl 90)))), some (.inl (f)), some (.inl (t)), u3, u4, u5] (vv__.toList ++ []) WW__)) from ⟨fun c18_2 => ⟨(((h).1 c18_2)).1, (((h).1 c18_2)).2⟩, fun c18_2 => ⟨(Nat.lt_of_lt_of_le (by decide) hn), rfl, ⟨(Nat.lt_of_lt_of_le (by decide) hn), rfl, (((h).2 c18_2)).1, ⟨rfl, rfl, rfl, rfl, rfl, rfl, V.2.1 110 f, rfl, ((((h).2 c18_2)).2).1, fun r27 hr27 => (show 90 < n ∧ 12 = 12 ∧ (¬ r27 = (V.1 90 25) → (-2147483648 ≤ f + 1 ∧ f + 1 ≤ 2147483647) ∧ zwp jtb zsh n zm_MTfind post (kk__ + 19) (lGo ak_ZMTfind 7) 7 [some (.inr (.inr (some (.inl 90)))), some (.inl (f + 1)), some (.inl (t)), u3, u4, u5] [] V) ∧ (r27 = (V.1 90 25) → 3 = 3 ∧ false = false ∧ jin3 174 1966 1 zm_MTfind.2.2.1.1 = true ∧ lRm zm_MTfind.2.1 { frames := 4, cells := 0, slots := 0, locals := 102 } 11 = true ∧ Nat.ble 3 3 = true ∧ Nat.ble 0 8 = true ∧ 90 < n ∧ 12 = 12 ∧ Nat.ble 1000 12 = false ∧ zc_MTgoes [.inr (.inr (some (.inl 90))), .inl (f), .inl (t)] V (fun vv__ WW__ => zwp jtb zsh n zm_MTfind post (kk__ + 17) (lGo ak_ZMTfind 43) 43 [some (.inr (.inr (some (.inl 90)))), some (.inl (f)), some (.inl (t)), u3, u4, u5] (vv__.toList ++ []) WW__)) from (have h := (((((h).2 c18_2)).2).2 r27 hr27); ⟨(Nat.lt_of_lt_of_le (by decide) hn), rfl, ⟨fun c34_10 => ⟨(((h).1 c34_10)).1, (((h).1 c34_10)).2⟩, fun c34_10 => ⟨rfl, rfl, rfl, rfl, rfl, rfl, (Nat.lt_of_lt_of_le (by decide) hn), rfl, rfl, f, t, rfl, (((h).2 c34_10)).1, fun r40 hr40 => (show (r40 = 0 → zwp jtb zsh n zm_MTfind post (kk__ + 16) (lGo ak_ZMTfind 157) 157 [some (.inr (.inr (some (.inl 90)))), some (.inl (f)), some (.inl (t)), u3, u4, u5] [] V) ∧ (¬ r40 = 0 → 90 < n ∧ 12 = 12 ∧ 110 < n ∧ FieldType.int = FieldType.int ∧ (0 ≤ f ∧ f < 64) ∧ 3 = 3 ∧ true = true ∧ jin3 137 1941 2 zm_MTfind.2.2.1.1 = true ∧ lRm zm_MTfind.2.1 { frames := 0, cells := 0, slots := 0, locals := 0 } 1 = true ∧ Nat.ble 1 1 = true ∧ Nat.ble 0 8 = true ∧ zc_MTkind [.inl (V.2.1 110 f)] V (fun vv__ WW__ => zwp jtb zsh n zm_MTfind post (kk__ + 11) (lGo ak_ZMTfind 55) 55 [some (.inr (.inr (some (.inl 90)))), some (.inl (f)), some (.inl (t)), u3, u4, u5] (vv__.toList ++ []) WW__)) from (have h := ((((h).2 c34_10)).2 r40 hr40); ⟨fun c43_15 => ((h).1 c43_15), fun c43_15 => ⟨(Nat.lt_of_lt_of_le (by decide) hn), rfl, ⟨(Nat.lt_of_lt_of_le (by decide) hn), rfl, (((h).2 c43_15)).1, ⟨rfl, rfl, rfl, rfl, rfl, rfl, V.2.1 110 f, rfl, ((((h).2 c43_15)).2).1, fun r52 hr52 => (show (¬ r52 = 1 → zwp jtb zsh n zm_MTfind post (kk__ + 7) (lGo ak_ZMTfind 77) 77 [some (.inr (.inr (some (.inl 90)))), some (.inl (f)), some (.inl (t)), some (.inl (0)), u4, u5] [] V) ∧ (r52 = 1 → (t < 8 → zwp jtb zsh n zm_MTfind post (kk__ + 3) (lGo ak_ZMTfind 77) 77 [some (.inr (.inr (some (.inl 90)))), some (.inl (f)), some (.inl (t)), some (.inl (1)), u4, u5] [] V) ∧ (¬ t < 8 → (t ≤ 55 → zwp jtb zsh n zm_MTfind post (kk__ + 1) (lGo ak_ZMTfind 77) 77 [some (.inr (.inr (some (.inl 90)))), some (.inl (f)), some (.inl (t)), some (.inl (0)), u4, u5] [] V) ∧ (¬ t ≤ 55 → zwp jtb zsh n zm_MTfind post (kk__ + 0) (lGo ak_ZMTfind 77) 77 [some (.inr (.inr (some (.inl 90)))), some (.inl (f)), some (.inl (t)), some (.inl (1)), u4, u5] [] V))) from (have h := (((((h).2 c43_15)).2).2 r52 hr52); ⟨fun c56_22 => ((h).1 c56_22), fun c56_22 => ⟨fun c62_25 => ((((h).2 c56_22)).1 c62_25), fun c62_25 => (have h := ((((h).2 c56_22)).2 c62_25); ⟨fun c68_28 => ((h).1 c68_28), fun c68_28 => ((h).2 c68_28)⟩)⟩⟩))⟩⟩⟩⟩))⟩⟩⟩))⟩⟩⟩⟩)
set_option maxRecDepth 8000 in
theorem zp_MTfind_77 {n K : Nat} {V : zW} {post : zPo} {f t x : Int} {u4 u5 : Option zv} (hK : 13 ≤ K) (hn : 142 ≤ n) (h : (-2147483648 ≤ 64 * t ∧ 64 * t ≤ 2147483647) ∧ (-2147483648 ≤ f + (64 * t) ∧ f + (64 * t) ≤ 2147483647) ∧ ((0 ≤ (f + (64 * t)) ∧ (f + (64 * t)) ≤ 24575) ∧ zMk V) ∧ ∀ r84 : Int, ∀ W84 : zW, ((∃ k, zKi (rV3 (zQ V) (f + (64 * t))) (V.1 90 25) k ∧ xBl r84 (¬ rAk (rV3 (zQ V) (f + (64 * t))) k (1 - V.1 90 25))) ∧ zMn W84 = zMn V ∧ zFr [] [110, 111, 112] V W84) → (x = 0 → zwp jtb zsh n zm_MTfind post (K - 12) (lGo ak_ZMTfind 100) 100 [some (.inr (.inr (some (.inl 90)))), some (.inl (f)), some (.inl (t)), some (.inl (x)), some (.inl (r84)), some (.inl (0))] [] W84) ∧ (¬ x = 0 → zwp jtb zsh n zm_MTfind post (K - 13) (lGo ak_ZMTfind 100) 100 [some (.inr (.inr (some (.inl 90)))), some (.inl (f)), some (.inl (t)), some (.inl (x)), some (.inl (r84)), some (.inl (2))] [] W84)) : zwp jtb zsh n zm_MTfind post K (lGo ak_ZMTfind 77) 77 [some (.inr (.inr (some (.inl 90)))), some (.inl (f)), some (.inl (t)), some (.inl (x)), u4, u5] [] V := by
  obtain ⟨kk__, rfl⟩ : ∃ kk__, K = kk__ + 13 := ⟨K - 13, by omega⟩
  exact (show (-2147483648 ≤ 64 * t ∧ 64 * t ≤ 2147483647) ∧ (-2147483648 ≤ f + (64 * t) ∧ f + (64 * t) ≤ 2147483647) ∧ 3 = 3 ∧ false = false ∧ jin3 177 1990 3 zm_MTfind.2.2.1.1 = true ∧ lRm zm_MTfind.2.1 { frames := 4, cells := 0, slots := 0, locals := 98 } 3 = true ∧ Nat.ble 2 2 = true ∧ Nat.ble 0 8 = true ∧ 90 < n ∧ 12 = 12 ∧ Nat.ble 1000 12 = false ∧ zc_MTsafe [.inr (.inr (some (.inl 90))), .inl (f + (64 * t))] V (fun vv__ WW__ => zwp jtb zsh n zm_MTfind post (kk__ + 6) (lGo ak_ZMTfind 87) 87 [some (.inr (.inr (some (.inl 90)))), some (.inl (f)), some (.inl (t)), some (.inl (x)), u4, u5] (vv__.toList ++ []) WW__) from ⟨(h).1, ⟨((h).2).1, ⟨rfl, rfl, rfl, rfl, rfl, rfl, (Nat.lt_of_lt_of_le (by decide) hn), rfl, rfl, f + (64 * t), rfl, (((h).2).2).1, fun r84 W84 hr84 => (show (x = 0 → zwp jtb zsh n zm_MTfind post (kk__ + 1) (lGo ak_ZMTfind 100) 100 [some (.inr (.inr (some (.inl 90)))), some (.inl (f)), some (.inl (t)), some (.inl (x)), some (.inl (r84)), some (.inl (0))] [] W84) ∧ (¬ x = 0 → zwp jtb zsh n zm_MTfind post (kk__ + 0) (lGo ak_ZMTfind 100) 100 [some (.inr (.inr (some (.inl 90)))), some (.inl (f)), some (.inl (t)), some (.inl (x)), some (.inl (r84)), some (.inl (2))] [] W84) from (have h := ((((h).2).2).2 r84 W84 hr84); ⟨fun c90_9 => ((h).1 c90_9), fun c90_9 => ((h).2 c90_9)⟩))⟩⟩⟩)
set_option maxRecDepth 8000 in
theorem zp_MTfind_100 {n K : Nat} {V : zW} {post : zPo} {f t x y b : Int}  (hK : 30 ≤ K) (hn : 142 ≤ n) (h : (y = 0 → zwp jtb zsh n zm_MTfind post (K - 2) (lGo ak_ZMTfind 157) 157 [some (.inr (.inr (some (.inl 90)))), some (.inl (f)), some (.inl (t)), some (.inl (x)), some (.inl (y)), some (.inl (b))] [] V) ∧ (¬ y = 0 → (x = 0 → (0 < b → zwp jtb zsh n zm_MTfind post (K - 7) (lGo ak_ZMTfind 157) 157 [some (.inr (.inr (some (.inl 90)))), some (.inl (f)), some (.inl (t)), some (.inl (x)), some (.inl (y)), some (.inl (b))] [] V) ∧ (¬ 0 < b → (-2147483648 ≤ 64 * t ∧ 64 * t ≤ 2147483647) ∧ (-2147483648 ≤ f + (64 * t) ∧ f + (64 * t) ≤ 2147483647) ∧ (-2147483648 ≤ 4096 * b ∧ 4096 * b ≤ 2147483647) ∧ (-2147483648 ≤ (f + (64 * t)) + (4096 * b) ∧ (f + (64 * t)) + (4096 * b) ≤ 2147483647) ∧ (0 ≤ (V.1 90 33) ∧ (V.1 90 33) < 2048) ∧ (-2147483648 ≤ (V.1 90 33) + 1 ∧ (V.1 90 33) + 1 ≤ 2147483647) ∧ (-2147483648 ≤ b + 1 ∧ b + 1 ≤ 2147483647) ∧ zwp jtb zsh n zm_MTfind post (K - 29) (lGo ak_ZMTfind 100) 100 [some (.inr (.inr (some (.inl 90)))), some (.inl (f)), some (.inl (t)), some (.inl (x)), some (.inl (y)), some (.inl (b + 1))] [] (zuF (zuR V 113 (V.1 90 33) ((f + (64 * t)) + (4096 * b))) 90 33 ((V.1 90 33) + 1)))) ∧ (¬ x = 0 → (5 < b → zwp jtb zsh n zm_MTfind post (K - 8) (lGo ak_ZMTfind 157) 157 [some (.inr (.inr (some (.inl 90)))), some (.inl (f)), some (.inl (t)), some (.inl (x)), some (.inl (y)), some (.inl (b))] [] V) ∧ (¬ 5 < b → (-2147483648 ≤ 64 * t ∧ 64 * t ≤ 2147483647) ∧ (-2147483648 ≤ f + (64 * t) ∧ f + (64 * t) ≤ 2147483647) ∧ (-2147483648 ≤ 4096 * b ∧ 4096 * b ≤ 2147483647) ∧ (-2147483648 ≤ (f + (64 * t)) + (4096 * b) ∧ (f + (64 * t)) + (4096 * b) ≤ 2147483647) ∧ (0 ≤ (V.1 90 33) ∧ (V.1 90 33) < 2048) ∧ (-2147483648 ≤ (V.1 90 33) + 1 ∧ (V.1 90 33) + 1 ≤ 2147483647) ∧ (-2147483648 ≤ b + 1 ∧ b + 1 ≤ 2147483647) ∧ zwp jtb zsh n zm_MTfind post (K - 30) (lGo ak_ZMTfind 100) 100 [some (.inr (.inr (some (.inl 90)))), some (.inl (f)), some (.inl (t)), some (.inl (x)), some (.inl (y)), some (.inl (b + 1))] [] (zuF (zuR V 113 (V.1 90 33) ((f + (64 * t)) + (4096 * b))) 90 33 ((V.1 90 33) + 1)))))) : zwp jtb zsh n zm_MTfind post K (lGo ak_ZMTfind 100) 100 [some (.inr (.inr (some (.inl 90)))), some (.inl (f)), some (.inl (t)), some (.inl (x)), some (.inl (y)), some (.inl (b))] [] V := by
  obtain ⟨kk__, rfl⟩ : ∃ kk__, K = kk__ + 30 := ⟨K - 30, by omega⟩
  exact (show (y = 0 → zwp jtb zsh n zm_MTfind post (kk__ + 28) (lGo ak_ZMTfind 157) 157 [some (.inr (.inr (some (.inl 90)))), some (.inl (f)), some (.inl (t)), some (.inl (x)), some (.inl (y)), some (.inl (b))] [] V) ∧ (¬ y = 0 → (x = 0 → (0 < b → zwp jtb zsh n zm_MTfind post (kk__ + 23) (lGo ak_ZMTfind 157) 157 [some (.inr (.inr (some (.inl 90)))), some (.inl (f)), some (.inl (t)), some (.inl (x)), some (.inl (y)), some (.inl (b))] [] V) ∧ (¬ 0 < b → 90 < n ∧ 12 = 12 ∧ 90 < n ∧ 12 = 12 ∧ (-2147483648 ≤ 64 * t ∧ 64 * t ≤ 2147483647) ∧ (-2147483648 ≤ f + (64 * t) ∧ f + (64 * t) ≤ 2147483647) ∧ (-2147483648 ≤ 4096 * b ∧ 4096 * b ≤ 2147483647) ∧ (-2147483648 ≤ (f + (64 * t)) + (4096 * b) ∧ (f + (64 * t)) + (4096 * b) ≤ 2147483647) ∧ 113 < n ∧ FieldType.int = FieldType.int ∧ (0 ≤ (V.1 90 33) ∧ (V.1 90 33) < 2048) ∧ True ∧ 90 < n ∧ 12 = 12 ∧ (-2147483648 ≤ (V.1 90 33) + 1 ∧ (V.1 90 33) + 1 ≤ 2147483647) ∧ 90 < n ∧ 12 = 12 ∧ (some 0 : Option Nat) = some 0 ∧ ((0 : Nat) = 0 ∨ ((0 : Nat) = 1 ∧ (((V.1 90 33) + 1) = 0 ∨ ((V.1 90 33) + 1) = 1))) ∧ (-2147483648 ≤ b + 1 ∧ b + 1 ≤ 2147483647) ∧ zwp jtb zsh n zm_MTfind post (kk__ + 1) (lGo ak_ZMTfind 100) 100 [some (.inr (.inr (some (.inl 90)))), some (.inl (f)), some (.inl (t)), some (.inl (x)), some (.inl (y)), some (.inl (b + 1))] [] (zuF (zuR V 113 (V.1 90 33) ((f + (64 * t)) + (4096 * b))) 90 33 ((V.1 90 33) + 1)))) ∧ (¬ x = 0 → (5 < b → zwp jtb zsh n zm_MTfind post (kk__ + 22) (lGo ak_ZMTfind 157) 157 [some (.inr (.inr (some (.inl 90)))), some (.inl (f)), some (.inl (t)), some (.inl (x)), some (.inl (y)), some (.inl (b))] [] V) ∧ (¬ 5 < b → 90 < n ∧ 12 = 12 ∧ 90 < n ∧ 12 = 12 ∧ (-2147483648 ≤ 64 * t ∧ 64 * t ≤ 2147483647) ∧ (-2147483648 ≤ f + (64 * t) ∧ f + (64 * t) ≤ 2147483647) ∧ (-2147483648 ≤ 4096 * b ∧ 4096 * b ≤ 2147483647) ∧ (-2147483648 ≤ (f + (64 * t)) + (4096 * b) ∧ (f + (64 * t)) + (4096 * b) ≤ 2147483647) ∧ 113 < n ∧ FieldType.int = FieldType.int ∧ (0 ≤ (V.1 90 33) ∧ (V.1 90 33) < 2048) ∧ True ∧ 90 < n ∧ 12 = 12 ∧ (-2147483648 ≤ (V.1 90 33) + 1 ∧ (V.1 90 33) + 1 ≤ 2147483647) ∧ 90 < n ∧ 12 = 12 ∧ (some 0 : Option Nat) = some 0 ∧ ((0 : Nat) = 0 ∨ ((0 : Nat) = 1 ∧ (((V.1 90 33) + 1) = 0 ∨ ((V.1 90 33) + 1) = 1))) ∧ (-2147483648 ≤ b + 1 ∧ b + 1 ≤ 2147483647) ∧ zwp jtb zsh n zm_MTfind post (kk__ + 0) (lGo ak_ZMTfind 100) 100 [some (.inr (.inr (some (.inl 90)))), some (.inl (f)), some (.inl (t)), some (.inl (x)), some (.inl (y)), some (.inl (b + 1))] [] (zuF (zuR V 113 (V.1 90 33) ((f + (64 * t)) + (4096 * b))) 90 33 ((V.1 90 33) + 1))))) from ⟨fun c102_1 => ((h).1 c102_1), fun c102_1 => ⟨fun c108_4 => (have h := ((((h).2 c102_1)).1 c108_4); ⟨fun c116_6 => ((h).1 c116_6), fun c116_6 => ⟨(Nat.lt_of_lt_of_le (by decide) hn), rfl, ⟨(Nat.lt_of_lt_of_le (by decide) hn), rfl, ⟨(((h).2 c116_6)).1, ⟨((((h).2 c116_6)).2).1, ⟨(((((h).2 c116_6)).2).2).1, (have h := (((((h).2 c116_6)).2).2).2; ⟨(h).1, ⟨(Nat.lt_of_lt_of_le (by decide) hn), rfl, ((h).2).1, trivial, ⟨(Nat.lt_of_lt_of_le (by decide) hn), rfl, ⟨(((h).2).2).1, ⟨(Nat.lt_of_lt_of_le (by decide) hn), rfl, rfl, (Or.inl rfl), ⟨((((h).2).2).2).1, ((((h).2).2).2).2⟩⟩⟩⟩⟩⟩)⟩⟩⟩⟩⟩⟩), fun c108_4 => (have h := ((((h).2 c102_1)).2 c108_4); ⟨fun c116_7 => ((h).1 c116_7), fun c116_7 => ⟨(Nat.lt_of_lt_of_le (by decide) hn), rfl, ⟨(Nat.lt_of_lt_of_le (by decide) hn), rfl, ⟨(((h).2 c116_7)).1, ⟨((((h).2 c116_7)).2).1, ⟨(((((h).2 c116_7)).2).2).1, (have h := (((((h).2 c116_7)).2).2).2; ⟨(h).1, ⟨(Nat.lt_of_lt_of_le (by decide) hn), rfl, ((h).2).1, trivial, ⟨(Nat.lt_of_lt_of_le (by decide) hn), rfl, ⟨(((h).2).2).1, ⟨(Nat.lt_of_lt_of_le (by decide) hn), rfl, rfl, (Or.inl rfl), ⟨((((h).2).2).2).1, ((((h).2).2).2).2⟩⟩⟩⟩⟩⟩)⟩⟩⟩⟩⟩⟩)⟩⟩)
set_option maxRecDepth 8000 in
theorem zp_MTfind_157 {n K : Nat} {V : zW} {post : zPo} {f t : Int} {u3 u4 u5 : Option zv} (hK : 2 ≤ K) (hn : 142 ≤ n) (h : (-2147483648 ≤ t + 1 ∧ t + 1 ≤ 2147483647) ∧ zwp jtb zsh n zm_MTfind post (K - 2) (lGo ak_ZMTfind 15) 15 [some (.inr (.inr (some (.inl 90)))), some (.inl (f)), some (.inl (t + 1)), u3, u4, u5] [] V) : zwp jtb zsh n zm_MTfind post K (lGo ak_ZMTfind 157) 157 [some (.inr (.inr (some (.inl 90)))), some (.inl (f)), some (.inl (t)), u3, u4, u5] [] V := by
  obtain ⟨kk__, rfl⟩ : ∃ kk__, K = kk__ + 2 := ⟨K - 2, by omega⟩
  exact (show (-2147483648 ≤ t + 1 ∧ t + 1 ≤ 2147483647) ∧ zwp jtb zsh n zm_MTfind post (kk__ + 0) (lGo ak_ZMTfind 15) 15 [some (.inr (.inr (some (.inl 90)))), some (.inl (f)), some (.inl (t + 1)), u3, u4, u5] [] V from ⟨(h).1, (h).2⟩)
set_option maxRecDepth 200000 in
set_option maxHeartbeats 4000000 in
theorem zk_MTfind {l : Launch} {E : jE} {n : Nat} (hn : 142 ≤ n) : zHas l E jcl jtb lw_tbl zsh n (y_MT_findMoves, false, 1, 12, { frames := 5, cells := 0, slots := 0, locals := 132 }, zc_MTfind) := by
  refine ⟨⟨rfl, rfl, ⟨show 1 ≤ 1 by decide, m_MT_findMoves, i_MT_findMoves, e_MT_findMoves, fun _ => ⟨_, rfl, rfl⟩⟩⟩, ?_⟩
  rintro vz W po hO hW ⟨rfl, hq, hp⟩
  refine zmet (m := zm_MTfind) rfl (by decide) (fun _ _ => jtF_ok) lo_MT ao_ZMTfind jC (fun q h => by cases h) (aAllc (fun G h => by obtain rfl := Option.some.inj h; exact ql_MT_162) (aAllc (fun G h => by obtain rfl := Option.some.inj h; exact ql_MT_174) (aAllc (fun G h => by obtain rfl := Option.some.inj h; exact ql_MT_137) (aAllc (fun G h => by obtain rfl := Option.some.inj h; exact ql_MT_177) (fun q h => by cases h))))) (aAllc (zk_MTsideOf hn) (aAllc (zk_MTgoes hn) (aAllc (zk_MTkind hn) (aAllc (zk_MTsafe hn) (fun q h => by cases h))))) (Nat.le_of_ble_eq_true rfl) hO hW (60000 * 64 + 2000) ?_
  obtain ⟨hd, hk, hR⟩ := hq
  have hm := hk.1
  have hs := hk.2.1
  have eM : ∀ i, 0 ≤ i ∧ i ≤ 63 → (zQ W).1 i = W.2.1 110 i := fun i h => zMn_i h
  have fin : ∀ V : zW, zSp W V → hqE (zPre (zQ W) 64 0 0) (V.2.1 113) 0 (V.1 90 33) → V.1 90 33 ≤ 2048 → po none V := by
    intro V hS hL hB
    refine hp V ⟨hS, hq_c hL (fun m => ⟨fun z => z.1, fun z => ⟨z, Or.inl ?_⟩⟩), hB⟩
    have := rFr_r (m := m)
    omega
  have lp7 : ∀ (m K : Nat) (f : Int) (V : zW) (u2 u3 u4 u5 : Option zv), 60000 * m + 1000 ≤ K → 64 - f ≤ m → 0 ≤ f → f ≤ 64 → zSp W V → hqE (zPre (zQ W) f 0 0) (V.2.1 113) 0 (V.1 90 33) → V.1 90 33 ≤ 31 * f → zwp jtb zsh n zm_MTfind po K (lGo ak_ZMTfind 7) 7 [some (.inr (.inr (some (.inl 90)))), some (.inl f), u2, u3, u4, u5] [] V := by
    intro m
    induction m with
    | zero =>
      intro K f V u2 u3 u4 u5 hK hm2 f0 f1 hS hL hB
      have c9 : 64 ≤ f := by omega
      exact zp_MTfind_7 (by omega) hn ⟨fun _ => (fin V hS (by rw [show f = 64 by omega] at hL; exact hL) (by omega)), fun z => absurd c9 z⟩
    | succ m ih7 =>
      intro K f V u2 u3 u4 u5 hK hm2 f0 f1 hS hL hB
      by_cases c9 : 64 ≤ f
      · exact zp_MTfind_7 (by omega) hn ⟨fun _ => (fin V hS (by rw [show f = 64 by omega] at hL; exact hL) (by omega)), fun z => absurd c9 z⟩
      have hf : 0 ≤ f ∧ f ≤ 63 := by omega
      have hout : ∀ (K : Nat) (t : Int) (u3 u4 u5 : Option zv) {V : zW}, 60000 * m + 1000 ≤ K → zSp W V → hqE (zPre (zQ W) (f + 1) 0 0) (V.2.1 113) 0 (V.1 90 33) → V.1 90 33 ≤ 31 * f + 31 → zwp jtb zsh n zm_MTfind po K (lGo ak_ZMTfind 7) 7 [some (.inr (.inr (some (.inl 90)))), some (.inl (f + 1)), some (.inl t), u3, u4, u5] [] V := by
        intro K t u3 u4 u5 V hK hS hL hB
        exact ih7 K (f + 1) V _ _ _ _ hK (by omega) (by omega) (by omega) hS hL (by omega)
      have lp15 : ∀ (m2 K : Nat) (t : Int) (V : zW) (u3 u4 u5 : Option zv), 800 * m2 + 100 + (60000 * m + 1000) ≤ K → 64 - t ≤ m2 → 0 ≤ t → t ≤ 64 → zSp W V → hqE (zPre (zQ W) f t 0) (V.2.1 113) 0 (V.1 90 33) → V.1 90 33 ≤ 31 * f + rSm ((zQ W).1 f % 8) f t.toNat → zwp jtb zsh n zm_MTfind po K (lGo ak_ZMTfind 15) 15 [some (.inr (.inr (some (.inl 90)))), some (.inl f), some (.inl t), u3, u4, u5] [] V := by
        intro m2
        induction m2 with
        | zero =>
          intro K t V u3 u4 u5 hK hm3 t0 t1 hS hL hB
          have c18 : 64 ≤ t := by omega
          exact zp_MTfind_15 (by omega) hn ⟨fun _ => ⟨(by omega), (hout _ t _ _ _ (by omega) hS (zPre_e hL (Or.inl c18)) (by have := rSm_b (k := (zQ W).1 f % 8) (s := f) (t := t.toNat) (by omega) (by omega) hf.1 hf.2 (by omega); omega))⟩, fun z => absurd c18 z⟩
        | succ m2 ih =>
          intro K t V u3 u4 u5 hK hm3 t0 t1 hS hL hB
          have h157 : ∀ (t : Int) (K : Nat) (V : zW) (u3 u4 u5 : Option zv), 800 * m2 + 200 + (60000 * m + 1000) ≤ K → 64 - (t + 1) ≤ m2 → (0 ≤ t ∧ t ≤ 63) → zSp W V → hqE (zPre (zQ W) f (t + 1) 0) (V.2.1 113) 0 (V.1 90 33) → V.1 90 33 ≤ 31 * f + rSm ((zQ W).1 f % 8) f (t + 1).toNat → zwp jtb zsh n zm_MTfind po K (lGo ak_ZMTfind 157) 157 [some (.inr (.inr (some (.inl 90)))), some (.inl f), some (.inl t), u3, u4, u5] [] V := by
            intro t K V u3 u4 u5 hK hm3 ht hS hL hB
            exact zp_MTfind_157 (by omega) hn ⟨(by omega), (ih _ (t + 1) V _ _ _ (by omega) (by omega) (by omega) (by omega) hS hL hB)⟩
          have h77 : ∀ (t : Int) (K : Nat) (V : zW) (u4 u5 : Option zv) (x : Int), 800 * m2 + 600 + (60000 * m + 1000) ≤ K → 64 - (t + 1) ≤ m2 → (0 ≤ t ∧ t ≤ 63) → zSp W V → hqE (zPre (zQ W) f t 0) (V.2.1 113) 0 (V.1 90 33) → V.1 90 33 ≤ 31 * f + rSm ((zQ W).1 f % 8) f t.toNat → zGo (zQ W) f t → xBl x (rLs (zQ W) f t) → zwp jtb zsh n zm_MTfind po K (lGo ak_ZMTfind 77) 77 [some (.inr (.inr (some (.inl 90)))), some (.inl f), some (.inl t), some (.inl x), u4, u5] [] V := by
            intro t K V u4 u5 x hK hm3 ht hS hL hB hG hx
            have hx01 := xBl_01 hx
            have hbr : ∀ m, zLg (zQ W) m → rFr m = f → rTo m = t → (x = 1 ∧ 2 ≤ rBc m ∧ rBc m ≤ 5) ∨ (x = 0 ∧ rBc m = 0) := by
              intro m z z1 z2
              have z3 := z.1.2.2.2.2.2
              rw [z1, z2] at z3
              rcases z3 with ⟨y1, y2, y3, y4⟩ | ⟨y1, y2⟩
              · rcases hx with ⟨e, _⟩ | ⟨e, w⟩
                · exact Or.inl ⟨e, y3, y4⟩
                · exact absurd ⟨y1, y2⟩ w
              · rcases hx with ⟨e, w⟩ | ⟨e, w⟩
                · exact absurd w y1
                · exact Or.inr ⟨e, y2⟩
            have hW1 := zWt1 (rGO_sup hG.2.2 hf.1 hf.2 hs)
            have hSm := rSm_s (k := (zQ W).1 f % 8) (s := f) (t := t) ht.1
            have hW2 : (x = 1 → rWt ((zQ W).1 f % 8) f t = 4) ∧ (x = 0 → rWt ((zQ W).1 f % 8) f t = 1) := by
              constructor
              · intro e
                exact hW1.trans (if_pos (xBl_1 hx (by omega)))
              · intro e
                exact hW1.trans (if_neg (xBl_0 hx e))
            have h77b : ∀ (K : Nat) (V2 : zW) (y b : Int), 800 * m2 + 560 + (60000 * m + 1000) ≤ K → ((∃ k, zKi (rV3 (zQ V) (f + 64 * t)) (V.1 90 25) k ∧ xBl y (¬ rAk (rV3 (zQ V) (f + 64 * t)) k (1 - V.1 90 25))) ∧ zMn V2 = zMn V ∧ zFr [] [110, 111, 112] V V2) → ((b = 0 ∧ x = 0) ∨ (b = 2 ∧ ¬ x = 0)) → zwp jtb zsh n zm_MTfind po K (lGo ak_ZMTfind 100) 100 [some (.inr (.inr (some (.inl 90)))), some (.inl f), some (.inl t), some (.inl x), some (.inl y), some (.inl b)] [] V2 := by
              rintro K V2 y b hK ⟨⟨k, k1, k2⟩, hV2, hfr⟩ hb
              rw [zSp_q hS, zFr_f hS.2 90 25] at k1 k2
              have hy01 := xBl_01 k2
              have hno : y = 0 → ∀ m, zLg (zQ W) m → rFr m = f → rTo m = t → False := by
                intro e m z z1 z2
                have := (zSafe (x := f + 64 * t) hd z.1 (by rw [z1, z2]) k1).mp z.2
                exact xBl_0 k2 e this
              have hyes : ¬ y = 0 → ∀ b, ((x = 1 ∧ 2 ≤ b ∧ b ≤ 5) ∨ (x = 0 ∧ b = 0)) → zLg (zQ W) (f + 64 * t + 4096 * b) := by
                intro e b hb
                have hna := xBl_1 k2 e
                refine rLg_of hd hf.1 hf.2 ht.1 ht.2 hG.1 hG.2.1 hG.2.2 ?_ (fun j j0 j1 j2 => ⟨k, k1.1, k1.2.1, k1.2.2 ⟨j, j0, j1, j2⟩, hna⟩) rfl
                rcases hb with ⟨e1, e2, e3⟩ | ⟨e1, e2⟩
                · exact Or.inl ⟨xBl_1 hx (by omega), e2, e3⟩
                · exact Or.inr ⟨xBl_0 hx e1, e2⟩
              have lp : ∀ (m3 K : Nat) (b : Int) (V : zW), 50 * m3 + 800 * m2 + 250 + (60000 * m + 1000) ≤ K → 6 - b ≤ m3 → ((x = 1 ∧ 2 ≤ b ∧ b ≤ 6) ∨ (x = 0 ∧ 0 ≤ b ∧ b ≤ 1)) → zSp W V → hqE (zPre (zQ W) f t b) (V.2.1 113) 0 (V.1 90 33) → V.1 90 33 ≤ 31 * f + rSm ((zQ W).1 f % 8) f t.toNat + (if x = 1 then b - 2 else b) → zwp jtb zsh n zm_MTfind po K (lGo ak_ZMTfind 100) 100 [some (.inr (.inr (some (.inl 90)))), some (.inl f), some (.inl t), some (.inl x), some (.inl y), some (.inl b)] [] V := by
                intro m3
                induction m3 with
                | zero =>
                  intro K b V hK hm4 hbb hS hL hB
                  have hB0 : V.1 90 33 ≤ 2000 := by have := rSm_b (k := (zQ W).1 f % 8) (s := f) (t := t.toNat) (by omega) (by omega) hf.1 hf.2 (by omega); split at hB <;> omega
                  have hB1 : V.1 90 33 ≤ 31 * f + rSm ((zQ W).1 f % 8) f (t + 1).toNat := by rw [hSm]; split at hB <;> omega
                  have z6 : x = 1 ∧ b = 6 := by omega
                  exact zp_MTfind_100 (by omega) hn ⟨fun c102 => (h157 t _ V _ _ _ (by omega) (by omega) ht hS (zPre_n hL (fun m z z1 z2 => (hno c102 m z z1 z2).elim)) hB1), fun c102 => ⟨fun c108 => absurd c108 (by omega), fun c108 => ⟨fun c116 => (h157 t _ V _ _ _ (by omega) (by omega) ht hS (zPre_n hL (fun m z z1 z2 => by have z3 := hbr m z z1 z2; omega)) hB1), fun c116 => absurd (by omega) c116⟩⟩⟩
                | succ m3 ih =>
                  intro K b V hK hm4 hbb hS hL hB
                  have hB2 : (x = 1 → V.1 90 33 ≤ 31 * f + rSm ((zQ W).1 f % 8) f t.toNat + (b - 2)) ∧ (x = 0 → V.1 90 33 ≤ 31 * f + rSm ((zQ W).1 f % 8) f t.toNat + b) := by
                    constructor
                    · intro e; rw [if_pos e] at hB; exact hB
                    · intro e; rw [if_neg (by omega)] at hB; exact hB
                  have hB3 : V.1 90 33 + 1 ≤ 31 * f + rSm ((zQ W).1 f % 8) f t.toNat + (if x = 1 then b + 1 - 2 else b + 1) := by split at hB <;> (first | rw [if_pos (by assumption)] | rw [if_neg (by assumption)]) <;> omega
                  have hB0 : V.1 90 33 ≤ 2000 := by have := rSm_b (k := (zQ W).1 f % 8) (s := f) (t := t.toNat) (by omega) (by omega) hf.1 hf.2 (by omega); omega
                  have hB1 : V.1 90 33 ≤ 31 * f + rSm ((zQ W).1 f % 8) f (t + 1).toNat := by rw [hSm]; omega
                  exact zp_MTfind_100 (by omega) hn ⟨fun c102 => (h157 t _ V _ _ _ (by omega) (by omega) ht hS (zPre_n hL (fun m z z1 z2 => by first | exact (hno c102 m z z1 z2).elim | (have z3 := hbr m z z1 z2; omega))) hB1), fun c102 => ⟨fun c108 => ⟨fun c116 => (h157 t _ V _ _ _ (by omega) (by omega) ht hS (zPre_n hL (fun m z z1 z2 => by first | exact (hno c102 m z z1 z2).elim | (have z3 := hbr m z z1 z2; omega))) hB1), fun c116 => ⟨(by have z1 := hL.1; have z2 := hB0; omega), ⟨(by have z1 := hL.1; have z2 := hB0; omega), ⟨(by have z1 := hL.1; have z2 := hB0; omega), ⟨(by have z1 := hL.1; have z2 := hB0; omega), ⟨(by have z1 := hL.1; have z2 := hB0; omega), ⟨(by have z1 := hL.1; have z2 := hB0; omega), ⟨(by have z1 := hL.1; have z2 := hB0; omega), (ih _ (b + 1) (zuF (zuR V 113 (V.1 90 33) ((f + (64 * t)) + (4096 * b))) 90 33 ((V.1 90 33) + 1)) (by omega) (by omega) (by first | exact Or.inl ⟨by omega, by omega, by omega⟩ | exact Or.inr ⟨by omega, by omega, by omega⟩) ⟨hS.1, zFr_F (zFr_R hS.2 (by decide)) (by decide)⟩ (zPre_a hL (hyes c102 b (by omega)) (rMv hf.1 hf.2 ht.1 ht.2 rfl).1 (rMv hf.1 hf.2 ht.1 ht.2 rfl).2.1 (rMv hf.1 hf.2 ht.1 ht.2 rfl).2.2) (by show V.1 90 33 + 1 ≤ _; exact hB3))⟩⟩⟩⟩⟩⟩⟩⟩, fun c108 => ⟨fun c116 => (h157 t _ V _ _ _ (by omega) (by omega) ht hS (zPre_n hL (fun m z z1 z2 => by first | exact (hno c102 m z z1 z2).elim | (have z3 := hbr m z z1 z2; omega))) hB1), fun c116 => ⟨(by have z1 := hL.1; have z2 := hB0; omega), ⟨(by have z1 := hL.1; have z2 := hB0; omega), ⟨(by have z1 := hL.1; have z2 := hB0; omega), ⟨(by have z1 := hL.1; have z2 := hB0; omega), ⟨(by have z1 := hL.1; have z2 := hB0; omega), ⟨(by have z1 := hL.1; have z2 := hB0; omega), ⟨(by have z1 := hL.1; have z2 := hB0; omega), (ih _ (b + 1) (zuF (zuR V 113 (V.1 90 33) ((f + (64 * t)) + (4096 * b))) 90 33 ((V.1 90 33) + 1)) (by omega) (by omega) (by first | exact Or.inl ⟨by omega, by omega, by omega⟩ | exact Or.inr ⟨by omega, by omega, by omega⟩) ⟨hS.1, zFr_F (zFr_R hS.2 (by decide)) (by decide)⟩ (zPre_a hL (hyes c102 b (by omega)) (rMv hf.1 hf.2 ht.1 ht.2 rfl).1 (rMv hf.1 hf.2 ht.1 ht.2 rfl).2.1 (rMv hf.1 hf.2 ht.1 ht.2 rfl).2.2) (by show V.1 90 33 + 1 ≤ _; exact hB3))⟩⟩⟩⟩⟩⟩⟩⟩⟩⟩
              refine lp 6 K b V2 (by omega) (by omega) (by omega) (zSp_t hS hV2 hfr) ?_ ?_
              · rw [zFr_r hfr 113, zFr_f hfr 90 33]
                refine zPre_b hL (by omega) (fun m z z1 z2 => ?_)
                have := hbr m z z1 z2
                omega
              · rw [zFr_f hfr 90 33]
                split <;> omega
            exact zp_MTfind_77 (by omega) hn ⟨(by omega), ⟨(by omega), ⟨⟨by omega, zSp_k hS hk⟩, fun r84 W84 hr84 => ⟨fun c90 => (h77b _ W84 r84 0 (by omega) hr84 (by first | exact Or.inl ⟨rfl, by omega⟩ | exact Or.inr ⟨rfl, by omega⟩)), fun c90 => (h77b _ W84 r84 2 (by omega) hr84 (by first | exact Or.inl ⟨rfl, by omega⟩ | exact Or.inr ⟨rfl, by omega⟩))⟩⟩⟩⟩
          exact zp_MTfind_15 (by omega) hn ⟨fun c18 => ⟨(by omega), (hout _ t _ _ _ (by omega) hS (zPre_e hL (Or.inl (by omega))) (by have := rSm_b (k := (zQ W).1 f % 8) (s := f) (t := t.toNat) (by omega) (by omega) hf.1 hf.2 (by omega); omega))⟩, fun c18 => ⟨(by omega), ⟨(by have e9 := zSp_m hS f hf.1 hf.2; have := hm f hf.1 hf.2; omega), fun r27 hr27 => ⟨fun c34 => ⟨(by omega), (hout _ t _ _ _ (by omega) hS (zPre_e hL (Or.inr (fun m z z1 => by have z2 := z.1.2.2.1; rw [z1] at z2; unfold rOwn at z2; rw [eM f hf] at z2; have e9 := zSp_m hS f hf.1 hf.2; have e8 := zFr_f hS.2 90 25; have e7 : (zQ W).2.1 = W.1 90 25 := rfl; omega))) (by have := rSm_b (k := (zQ W).1 f % 8) (s := f) (t := t.toNat) (by omega) (by omega) hf.1 hf.2 (by omega); omega))⟩, fun c34 => ⟨⟨by rw [zSp_q hS]; exact hd, zSp_k hS hk, by rw [zFr_f hS.2 90 26]; exact hR, by omega, by omega⟩, fun r40 hr40 => ⟨fun c43 => (h157 t _ V _ _ _ (by omega) (by omega) (by omega) hS (zPre_s hL (fun m z z1 z2 => xBl_0 hr40 c43 (by rw [zSp_q hS]; exact ⟨z1 ▸ z.1.2.2.1, z2 ▸ z.1.2.2.2.1, by have := z.1.2.2.2.2.1; rw [z1, z2] at this; exact this⟩))) (by have e6 := rSm_s (k := (zQ W).1 f % 8) (s := f) (t := t) (by omega); have := zWt0 (k := (zQ W).1 f % 8) (s := f) (t := t); omega)), fun c43 => ⟨(by omega), ⟨(by have e9 := zSp_m hS f hf.1 hf.2; have := hm f hf.1 hf.2; omega), fun r52 hr52 => ⟨fun c56 => (h77 t _ V _ _ 0 (by omega) (by omega) (by omega) hS hL hB (by have z := xBl_1 hr40 c43; rw [zSp_q hS] at z; exact z) (by unfold rLs; rw [eM f hf]; have e9 := zSp_m hS f hf.1 hf.2; grind [xBl])), fun c56 => ⟨fun c62 => (h77 t _ V _ _ 1 (by omega) (by omega) (by omega) hS hL hB (by have z := xBl_1 hr40 c43; rw [zSp_q hS] at z; exact z) (by unfold rLs; rw [eM f hf]; have e9 := zSp_m hS f hf.1 hf.2; grind [xBl])), fun c62 => ⟨fun c68 => (h77 t _ V _ _ 0 (by omega) (by omega) (by omega) hS hL hB (by have z := xBl_1 hr40 c43; rw [zSp_q hS] at z; exact z) (by unfold rLs; rw [eM f hf]; have e9 := zSp_m hS f hf.1 hf.2; grind [xBl])), fun c68 => (h77 t _ V _ _ 1 (by omega) (by omega) (by omega) hS hL hB (by have z := xBl_1 hr40 c43; rw [zSp_q hS] at z; exact z) (by unfold rLs; rw [eM f hf]; have e9 := zSp_m hS f hf.1 hf.2; grind [xBl]))⟩⟩⟩⟩⟩⟩⟩⟩⟩⟩⟩
      exact zp_MTfind_7 (by omega) hn ⟨fun c10 => (fin V hS (by rw [show f = 64 by omega] at hL; exact hL) (by omega)), fun c10 => (lp15 64 _ 0 V _ _ _ (by omega) (by omega) (by omega) (by omega) hS hL (by show V.1 90 33 ≤ 31 * f + 0; omega))⟩
  exact zp_MTfind_0 (by omega) hn (lp7 64 _ 0 (zuF W 90 33 0) _ _ _ _ (by omega) (by omega) (by omega) (by omega) ⟨rfl, (zFr_F zFr_0 (by decide))⟩ zPre_0 (by show (0 : Int) ≤ 31 * 0; decide))
end
section
/-! positions of a tree (pure): a position with the number of its move; the position of a node -/
abbrev xP : Type := rQ × Int
noncomputable def xMk (p : xP) (m : Int) : xP := (rMk p.1 m, p.2 + p.1.2.1)
noncomputable def xPs (p0 : xP) (pa mv : Int → Int) : Nat → Int → xP
  | 0, _ => p0
  | n + 1, k => if k ≤ 0 then p0 else xMk (xPs p0 pa mv n (pa k)) (mv k)
noncomputable def xPo (p0 : xP) (pa mv : Int → Int) (k : Int) : xP := xPs p0 pa mv k.toNat k
theorem xPs_s {p0 : xP} {pa mv : Int → Int} {N : Int} (hP : trP pa N) : ∀ (n m : Nat) (k : Int), k ≤ n → k ≤ m → k ≤ N → xPs p0 pa mv n k = xPs p0 pa mv m k
  | 0, 0, _, _, _, _ => rfl
  | 0, m + 1, k, h, _, _ => by
    show p0 = (if k ≤ 0 then p0 else xMk (xPs p0 pa mv m (pa k)) (mv k))
    rw [if_pos (by omega)]
  | n + 1, 0, k, _, h, _ => by
    show (if k ≤ 0 then p0 else xMk (xPs p0 pa mv n (pa k)) (mv k)) = p0
    rw [if_pos (by omega)]
  | n + 1, m + 1, k, h1, h2, h3 => by
    show (if k ≤ 0 then p0 else xMk (xPs p0 pa mv n (pa k)) (mv k)) = (if k ≤ 0 then p0 else xMk (xPs p0 pa mv m (pa k)) (mv k))
    by_cases c : k ≤ 0
    · rw [if_pos c, if_pos c]
    · have h := hP k (by omega) h3
      rw [if_neg c, if_neg c, xPs_s hP n m (pa k) (by omega) (by omega) (by omega)]
theorem xPo_0 {p0 : xP} {pa mv : Int → Int} {k : Int} (h : k ≤ 0) : xPo p0 pa mv k = p0 := by
  unfold xPo
  rw [show k.toNat = 0 by omega]
  rfl
theorem xPo_1 {p0 : xP} {pa mv : Int → Int} {N k : Int} (hP : trP pa N) (h1 : 1 ≤ k) (h2 : k ≤ N) : xPo p0 pa mv k = xMk (xPo p0 pa mv (pa k)) (mv k) := by
  have h := hP k h1 h2
  have e : k.toNat = (k - 1).toNat + 1 := by omega
  unfold xPo
  rw [e]
  show (if k ≤ 0 then p0 else xMk (xPs p0 pa mv (k - 1).toNat (pa k)) (mv k)) = _
  rw [if_neg (by omega), xPs_s hP (k - 1).toNat (pa k).toNat (pa k) (by omega) (by omega) (by omega)]
/-- other rows beyond N, the same positions -/
theorem xPs_c {p0 : xP} {pa mv pa' mv' : Int → Int} {N : Int} (hP : trP pa N) (h1 : ∀ k, 1 ≤ k → k ≤ N → pa' k = pa k) (h2 : ∀ k, 1 ≤ k → k ≤ N → mv' k = mv k) : ∀ (n : Nat) (k : Int), k ≤ N → xPs p0 pa' mv' n k = xPs p0 pa mv n k
  | 0, _, _ => rfl
  | n + 1, k, h => by
    show (if k ≤ 0 then p0 else xMk (xPs p0 pa' mv' n (pa' k)) (mv' k)) = (if k ≤ 0 then p0 else xMk (xPs p0 pa mv n (pa k)) (mv k))
    by_cases c : k ≤ 0
    · rw [if_pos c, if_pos c]
    · have hh := hP k (by omega) h
      rw [if_neg c, if_neg c, h1 k (by omega) h, h2 k (by omega) h, xPs_c hP h1 h2 n (pa k) (by omega)]
theorem xPo_c {p0 : xP} {pa mv pa' mv' : Int → Int} {N k : Int} (hP : trP pa N) (h1 : ∀ k, 1 ≤ k → k ≤ N → pa' k = pa k) (h2 : ∀ k, 1 ≤ k → k ≤ N → mv' k = mv k) (h : k ≤ N) : xPo p0 pa' mv' k = xPo p0 pa mv k := xPs_c hP h1 h2 _ k h
/-- a tree whose moves are legal -/
noncomputable def xOk (p0 : xP) (pa mv : Int → Int) (N : Int) : Prop := (rGd p0.1 ∧ 0 ≤ p0.1.2.2.1 ∧ p0.1.2.2.1 ≤ 15) ∧ trP pa N ∧ ∀ k, 1 ≤ k → k ≤ N → zLg (xPo p0 pa mv (pa k)).1 (mv k)
theorem rAn_b {R l : Int} (h : 0 ≤ R ∧ R ≤ 15) : 0 ≤ rAn R l ∧ rAn R l ≤ R := by
  have e : (Int32.ofInt R).toInt = R := lI_t (by unfold lRg; omega)
  have := aAnd_l (x := Int32.ofInt R) (y := Int32.ofInt l ^^^ -1) (by rw [e]; omega)
  unfold rAn
  rw [e] at this
  exact this
theorem xOk_g {p0 : xP} {pa mv : Int → Int} {N : Int} (h : xOk p0 pa mv N) : ∀ (n : Nat) (k : Int), k ≤ n → k ≤ N → (rGd (xPo p0 pa mv k).1 ∧ 0 ≤ (xPo p0 pa mv k).1.2.2.1 ∧ (xPo p0 pa mv k).1.2.2.1 ≤ 15) ∧ (p0.2 ≤ (xPo p0 pa mv k).2 ∧ (0 ≤ k → (xPo p0 pa mv k).2 ≤ p0.2 + k)) := by
  intro n
  induction n with
  | zero =>
    intro k h1 h2
    rw [xPo_0 (by omega)]
    exact ⟨h.1, by omega, by omega⟩
  | succ n ih =>
    intro k h1 h2
    by_cases c : k ≤ 0
    · rw [xPo_0 c]
      exact ⟨h.1, by omega, by omega⟩
    have hp := h.2.1 k (by omega) h2
    obtain ⟨⟨i1, i2, i3⟩, i4, i5⟩ := ih (pa k) (by omega) (by omega)
    have hl := h.2.2 k (by omega) h2
    rw [xPo_1 h.2.1 (by omega) h2]
    have s0 := i1.1
    have s1 := i1.2.1
    have i6 := i5 hp.1
    refine ⟨⟨hl.2, ?_, ?_⟩, ?_, fun _ => ?_⟩
    · show 0 ≤ rAn (rAn _ _) _
      have a := rAn_b (l := rLo (rFr (mv k))) ⟨i2, i3⟩
      exact (rAn_b ⟨a.1, by omega⟩).1
    · show rAn (rAn _ _) _ ≤ 15
      have a := rAn_b (l := rLo (rFr (mv k))) ⟨i2, i3⟩
      have b := rAn_b (l := rLo (rTo (mv k))) ⟨a.1, by omega⟩
      omega
    · show p0.2 ≤ (xPo p0 pa mv (pa k)).2 + (xPo p0 pa mv (pa k)).1.2.1
      omega
    · show (xPo p0 pa mv (pa k)).2 + (xPo p0 pa mv (pa k)).1.2.1 ≤ p0.2 + k
      omega
theorem xOk_k {p0 : xP} {pa mv : Int → Int} {N k : Int} (h : xOk p0 pa mv N) (h1 : k ≤ N) : rGd (xPo p0 pa mv k).1 ∧ 0 ≤ (xPo p0 pa mv k).1.2.2.1 ∧ (xPo p0 pa mv k).1.2.2.1 ≤ 15 := (xOk_g h k.toNat k (by omega) h1).1
/-- a way up -/
noncomputable def xUp (pa : Int → Int) (i : Int) : Nat → Int
  | 0 => i
  | n + 1 => pa (xUp pa i n)
end
section
/-! the reference, Texts: place -/
/-- where a game of Texts begins: its position, its number -/
noncomputable def zSt (W : zW) (g : Int) : xP := ((zMo (fun i => W.2.1 102 (64 * g + i)), W.2.1 103 (5 * g), W.2.1 103 (5 * g + 1), W.2.1 103 (5 * g + 2)), W.2.1 103 (5 * g + 4))
/-- what of it is no position: numbers within bounds -/
noncomputable def zSb (W : zW) (g : Int) : Prop := (∀ i, 0 ≤ i → i ≤ 63 → 0 ≤ W.2.1 102 (64 * g + i) ∧ W.2.1 102 (64 * g + i) ≤ 15) ∧ (0 ≤ W.2.1 103 (5 * g + 3) ∧ W.2.1 103 (5 * g + 3) ≤ 999) ∧ (0 ≤ W.2.1 103 (5 * g + 4) ∧ W.2.1 103 (5 * g + 4) ≤ 999)
/-- the position that Texts shows, with its list -/
noncomputable def zAt (V : zW) (p : xP) : Prop := (zQ V, V.1 90 29) = p ∧ zMk V ∧ (0 ≤ V.1 90 26 ∧ V.1 90 26 ≤ 15) ∧ hqE (zLg (zQ V)) (V.2.1 113) 0 (V.1 90 33) ∧ V.1 90 33 ≤ 2048 ∧ V.1 90 28 ≤ 50000 ∧ V.1 90 29 ≤ 50000
noncomputable def ak_ZMTplace : List jI := [(.iconst 0, 1, (0, 0, 0, 0, 0)), (.istore_n 3, 1, (3, 0, 0, 0, 0)), (.iload_n 2, 1, (2, 0, 0, 0, 0)), (.istore 4, 2, (4, 0, 0, 0, 0)), (.iload 4, 2, (4, 0, 0, 0, 0)), (.ifCond .le 32, 3, (39, 0, 0, 0, 0)), (.aload_n 0, 1, (0, 0, 0, 0, 0)), (.getfield 83, 3, (12, 34, 2073, 0, 0)), (.iload_n 3, 1, (3, 0, 0, 0, 0)), (.iload 4, 2, (4, 0, 0, 0, 0)), (.iastore, 1, (0, 0, 0, 0, 0)), (.iinc 3 1, 3, (0, 0, 0, 1, 0)), (.aload_n 0, 1, (0, 0, 0, 0, 0)), (.getfield 22, 3, (12, 8, 2025, 0, 0)), (.sipush 301, 3, (0, 0, 0, 301, 0)), (.iload_n 1, 1, (1, 0, 0, 0, 0)), (.imul, 1, (0, 0, 0, 0, 0)), (.iload 4, 2, (4, 0, 0, 0, 0)), (.iadd, 1, (0, 0, 0, 0, 0)), (.iaload, 1, (0, 0, 0, 0, 0)), (.istore 4, 2, (4, 0, 0, 0, 0)), (.goto (-31), 3, (5, 0, 0, 0, 0)), (.iconst 0, 1, (0, 0, 0, 0, 0)), (.istore 4, 2, (4, 0, 0, 0, 0)), (.iload 4, 2, (4, 0, 0, 0, 0)), (.bipush 64, 2, (0, 0, 0, 64, 0)), (.if_icmp .ge 28, 3, (74, 0, 0, 0, 0)), (.aload_n 0, 1, (0, 0, 0, 0, 0)), (.getfield 71, 3, (12, 24, 2055, 0, 0)), (.iload 4, 2, (4, 0, 0, 0, 0)), (.aload_n 0, 1, (0, 0, 0, 0, 0)), (.getfield 47, 3, (12, 16, 2039, 0, 0)), (.bipush 64, 2, (0, 0, 0, 64, 0)), (.iload_n 1, 1, (1, 0, 0, 0, 0)), (.imul, 1, (0, 0, 0, 0, 0)), (.iload 4, 2, (4, 0, 0, 0, 0)), (.iadd, 1, (0, 0, 0, 0, 0)), (.iaload, 1, (0, 0, 0, 0, 0)), (.iastore, 1, (0, 0, 0, 0, 0)), (.iinc 4 1, 3, (0, 0, 0, 1, 0)), (.goto (-29), 3, (42, 0, 0, 0, 0)), (.aload_n 0, 1, (0, 0, 0, 0, 0)), (.aload_n 0, 1, (0, 0, 0, 0, 0)), (.getfield 50, 3, (12, 17, 2041, 0, 0)), (.iconst 5, 1, (0, 0, 0, 5, 0)), (.iload_n 1, 1, (1, 0, 0, 0, 0)), (.imul, 1, (0, 0, 0, 0, 0)), (.iaload, 1, (0, 0, 0, 0, 0)), (.putfield 122, 3, (12, 25, 2057, 0, 0)), (.aload_n 0, 1, (0, 0, 0, 0, 0)), (.aload_n 0, 1, (0, 0, 0, 0, 0)), (.getfield 50, 3, (12, 17, 2041, 0, 0)), (.iconst 5, 1, (0, 0, 0, 5, 0)), (.iload_n 1, 1, (1, 0, 0, 0, 0)), (.imul, 1, (0, 0, 0, 0, 0)), (.iconst 1, 1, (0, 0, 0, 1, 0)), (.iadd, 1, (0, 0, 0, 0, 0)), (.iaload, 1, (0, 0, 0, 0, 0)), (.putfield 125, 3, (12, 26, 2059, 0, 0)), (.aload_n 0, 1, (0, 0, 0, 0, 0)), (.aload_n 0, 1, (0, 0, 0, 0, 0)), (.getfield 50, 3, (12, 17, 2041, 0, 0)), (.iconst 5, 1, (0, 0, 0, 5, 0)), (.iload_n 1, 1, (1, 0, 0, 0, 0)), (.imul, 1, (0, 0, 0, 0, 0)), (.iconst 2, 1, (0, 0, 0, 2, 0)), (.iadd, 1, (0, 0, 0, 0, 0)), (.iaload, 1, (0, 0, 0, 0, 0)), (.putfield 128, 3, (12, 27, 2061, 0, 0)), (.aload_n 0, 1, (0, 0, 0, 0, 0)), (.aload_n 0, 1, (0, 0, 0, 0, 0)), (.getfield 50, 3, (12, 17, 2041, 0, 0)), (.iconst 5, 1, (0, 0, 0, 5, 0)), (.iload_n 1, 1, (1, 0, 0, 0, 0)), (.imul, 1, (0, 0, 0, 0, 0)), (.iconst 3, 1, (0, 0, 0, 3, 0)), (.iadd, 1, (0, 0, 0, 0, 0)), (.iaload, 1, (0, 0, 0, 0, 0)), (.putfield 131, 3, (12, 28, 2063, 0, 0)), (.aload_n 0, 1, (0, 0, 0, 0, 0)), (.aload_n 0, 1, (0, 0, 0, 0, 0)), (.getfield 50, 3, (12, 17, 2041, 0, 0)), (.iconst 5, 1, (0, 0, 0, 5, 0)), (.iload_n 1, 1, (1, 0, 0, 0, 0)), (.imul, 1, (0, 0, 0, 0, 0)), (.iconst 4, 1, (0, 0, 0, 4, 0)), (.iadd, 1, (0, 0, 0, 0, 0)), (.iaload, 1, (0, 0, 0, 0, 0)), (.putfield 134, 3, (12, 29, 2065, 0, 0)), (.iload_n 3, 1, (3, 0, 0, 0, 0)), (.iconst 1, 1, (0, 0, 0, 1, 0)), (.isub, 1, (0, 0, 0, 0, 0)), (.istore 4, 2, (4, 0, 0, 0, 0)), (.iload 4, 2, (4, 0, 0, 0, 0)), (.ifCond .lt 31, 3, (180, 0, 0, 0, 0)), (.aload_n 0, 1, (0, 0, 0, 0, 0)), (.aload_n 0, 1, (0, 0, 0, 0, 0)), (.getfield 25, 3, (12, 9, 2027, 0, 0)), (.sipush 301, 3, (0, 0, 0, 301, 0)), (.iload_n 1, 1, (1, 0, 0, 0, 0)), (.imul, 1, (0, 0, 0, 0, 0)), (.aload_n 0, 1, (0, 0, 0, 0, 0)), (.getfield 83, 3, (12, 34, 2073, 0, 0)), (.iload 4, 2, (4, 0, 0, 0, 0)), (.iaload, 1, (0, 0, 0, 0, 0)), (.iadd, 1, (0, 0, 0, 0, 0)), (.iaload, 1, (0, 0, 0, 0, 0)), (.invokevirtual 150, 3, (0, 0, 1937, 0, 0)), (.iinc 4 (-1), 3, (0, 0, 0, (-1), 0)), (.goto (-30), 3, (147, 0, 0, 0, 0)), (.aload_n 0, 1, (0, 0, 0, 0, 0)), (.invokevirtual 186, 3, (1, 0, 1959, 0, 0)), (.return_, 1, (0, 0, 0, 0, 0))]
theorem ao_ZMTplace : jokLG jtF lk_MT "ChessHouseModel$Texts" jcl jtb 5 prog_18_method_26_code 0 ak_ZMTplace = true := by decide +kernel
noncomputable def zm_MTplace : zM := (none, { frames := 6, cells := 0, slots := 0, locals := 157 }, ([(150, 1937, 0), (186, 1959, 1)], []), [(y_MT_make, false, 2, 12, { frames := 2, cells := 0, slots := 0, locals := 43 }, zc_MTmake), (y_MT_findMoves, false, 1, 12, { frames := 5, cells := 0, slots := 0, locals := 132 }, zc_MTfind)], ak_ZMTplace)
noncomputable def zc_MTplace (vals : List zv) (W : zW) (post : zPo) : Prop := ∃ g u : Int, vals = [.inr (.inr (some (.inl 90))), .inl (g), .inl (u)] ∧ ((0 ≤ g ∧ g ≤ 1) ∧ (∃ N, (0 ≤ u ∧ u ≤ N ∧ N ≤ 300) ∧ xOk (zSt W g) (zro W 94 g) (zro W 95 g) N) ∧ zSb W g) ∧ ∀ V : zW, (zAt V (xPo (zSt W g) (zro W 94 g) (zro W 95 g) u) ∧ zFr [(90, 25), (90, 26), (90, 27), (90, 28), (90, 29), (90, 33)] [110, 111, 112, 113, 114] W V) → post none V
set_option maxRecDepth 8000 in
theorem zp_MTplace_0 {n K : Nat} {W : zW} {post : zPo} {g u : Int} {u3 u4 : Option zv} (hK : 4 ≤ K) (hn : 142 ≤ n) (h : zwp jtb zsh n zm_MTplace post (K - 4) (lGo ak_ZMTplace 5) 5 [some (.inr (.inr (some (.inl 90)))), some (.inl (g)), some (.inl (u)), some (.inl (0)), some (.inl (u))] [] W) : zwp jtb zsh n zm_MTplace post K (lGo ak_ZMTplace 0) 0 [some (.inr (.inr (some (.inl 90)))), some (.inl (g)), some (.inl (u)), u3, u4] [] W := by
  obtain ⟨kk__, rfl⟩ : ∃ kk__, K = kk__ + 4 := ⟨K - 4, by omega⟩
  exact (show zwp jtb zsh n zm_MTplace post (kk__ + 0) (lGo ak_ZMTplace 5) 5 [some (.inr (.inr (some (.inl 90)))), some (.inl (g)), some (.inl (u)), some (.inl (0)), some (.inl (u))] [] W from h)
set_option maxRecDepth 8000 in
theorem zp_MTplace_5 {n K : Nat} {V : zW} {post : zPo} {g u d k : Int}  (hK : 18 ≤ K) (hn : 142 ≤ n) (h : (k ≤ 0 → zwp jtb zsh n zm_MTplace post (K - 4) (lGo ak_ZMTplace 42) 42 [some (.inr (.inr (some (.inl 90)))), some (.inl (g)), some (.inl (u)), some (.inl (d)), some (.inl (0))] [] V) ∧ (¬ k ≤ 0 → (0 ≤ d ∧ d < 301) ∧ (-2147483648 ≤ d + 1 ∧ d + 1 ≤ 2147483647) ∧ (-2147483648 ≤ 301 * g ∧ 301 * g ≤ 2147483647) ∧ (-2147483648 ≤ (301 * g) + k ∧ (301 * g) + k ≤ 2147483647) ∧ (0 ≤ ((301 * g) + k) ∧ ((301 * g) + k) < 602) ∧ zwp jtb zsh n zm_MTplace post (K - 18) (lGo ak_ZMTplace 5) 5 [some (.inr (.inr (some (.inl 90)))), some (.inl (g)), some (.inl (u)), some (.inl (d + 1)), some (.inl (V.2.1 94 ((301 * g) + k)))] [] (zuR V 114 d k))) : zwp jtb zsh n zm_MTplace post K (lGo ak_ZMTplace 5) 5 [some (.inr (.inr (some (.inl 90)))), some (.inl (g)), some (.inl (u)), some (.inl (d)), some (.inl (k))] [] V := by
  obtain ⟨kk__, rfl⟩ : ∃ kk__, K = kk__ + 18 := ⟨K - 18, by omega⟩
  exact (show (k ≤ 0 → zwp jtb zsh n zm_MTplace post (kk__ + 14) (lGo ak_ZMTplace 42) 42 [some (.inr (.inr (some (.inl 90)))), some (.inl (g)), some (.inl (u)), some (.inl (d)), some (.inl (0))] [] V) ∧ (¬ k ≤ 0 → 90 < n ∧ 12 = 12 ∧ 114 < n ∧ FieldType.int = FieldType.int ∧ (0 ≤ d ∧ d < 301) ∧ True ∧ (-2147483648 ≤ d + 1 ∧ d + 1 ≤ 2147483647) ∧ 90 < n ∧ 12 = 12 ∧ (-2147483648 ≤ 301 * g ∧ 301 * g ≤ 2147483647) ∧ (-2147483648 ≤ (301 * g) + k ∧ (301 * g) + k ≤ 2147483647) ∧ 94 < n ∧ FieldType.int = FieldType.int ∧ (0 ≤ ((301 * g) + k) ∧ ((301 * g) + k) < 602) ∧ zwp jtb zsh n zm_MTplace post (kk__ + 0) (lGo ak_ZMTplace 5) 5 [some (.inr (.inr (some (.inl 90)))), some (.inl (g)), some (.inl (u)), some (.inl (d + 1)), some (.inl (V.2.1 94 ((301 * g) + k)))] [] (zuR V 114 d k)) from ⟨fun c7_1 => ((h).1 c7_1), fun c7_1 => ⟨(Nat.lt_of_lt_of_le (by decide) hn), rfl, ⟨(Nat.lt_of_lt_of_le (by decide) hn), rfl, (((h).2 c7_1)).1, trivial, ⟨((((h).2 c7_1)).2).1, ⟨(Nat.lt_of_lt_of_le (by decide) hn), rfl, ⟨(((((h).2 c7_1)).2).2).1, ⟨((((((h).2 c7_1)).2).2).2).1, (have h := ((((((h).2 c7_1)).2).2).2).2; ⟨(Nat.lt_of_lt_of_le (by decide) hn), rfl, (h).1, (h).2⟩)⟩⟩⟩⟩⟩⟩⟩)
set_option maxRecDepth 8000 in
theorem zp_MTplace_42 {n K : Nat} {V : zW} {post : zPo} {g u d i : Int}  (hK : 55 ≤ K) (hn : 142 ≤ n) (h : (64 ≤ i → (-2147483648 ≤ 5 * g ∧ 5 * g ≤ 2147483647) ∧ (0 ≤ (5 * g) ∧ (5 * g) < 10) ∧ (-2147483648 ≤ 5 * g ∧ 5 * g ≤ 2147483647) ∧ (-2147483648 ≤ (5 * g) + 1 ∧ (5 * g) + 1 ≤ 2147483647) ∧ (0 ≤ ((5 * g) + 1) ∧ ((5 * g) + 1) < 10) ∧ (-2147483648 ≤ 5 * g ∧ 5 * g ≤ 2147483647) ∧ (-2147483648 ≤ (5 * g) + 2 ∧ (5 * g) + 2 ≤ 2147483647) ∧ (0 ≤ ((5 * g) + 2) ∧ ((5 * g) + 2) < 10) ∧ (-2147483648 ≤ 5 * g ∧ 5 * g ≤ 2147483647) ∧ (-2147483648 ≤ (5 * g) + 3 ∧ (5 * g) + 3 ≤ 2147483647) ∧ (0 ≤ ((5 * g) + 3) ∧ ((5 * g) + 3) < 10) ∧ (-2147483648 ≤ 5 * g ∧ 5 * g ≤ 2147483647) ∧ (-2147483648 ≤ (5 * g) + 4 ∧ (5 * g) + 4 ≤ 2147483647) ∧ (0 ≤ ((5 * g) + 4) ∧ ((5 * g) + 4) < 10) ∧ (-2147483648 ≤ d - 1 ∧ d - 1 ≤ 2147483647) ∧ zwp jtb zsh n zm_MTplace post (K - 55) (lGo ak_ZMTplace 147) 147 [some (.inr (.inr (some (.inl 90)))), some (.inl (g)), some (.inl (u)), some (.inl (d)), some (.inl (d - 1))] [] (zuF (zuF (zuF (zuF (zuF V 90 25 (V.2.1 103 (5 * g))) 90 26 (V.2.1 103 ((5 * g) + 1))) 90 27 (V.2.1 103 ((5 * g) + 2))) 90 28 (V.2.1 103 ((5 * g) + 3))) 90 29 (V.2.1 103 ((5 * g) + 4)))) ∧ (¬ 64 ≤ i → (-2147483648 ≤ 64 * g ∧ 64 * g ≤ 2147483647) ∧ (-2147483648 ≤ (64 * g) + i ∧ (64 * g) + i ≤ 2147483647) ∧ (0 ≤ ((64 * g) + i) ∧ ((64 * g) + i) < 128) ∧ (0 ≤ i ∧ i < 64) ∧ (-2147483648 ≤ i + 1 ∧ i + 1 ≤ 2147483647) ∧ zwp jtb zsh n zm_MTplace post (K - 17) (lGo ak_ZMTplace 42) 42 [some (.inr (.inr (some (.inl 90)))), some (.inl (g)), some (.inl (u)), some (.inl (d)), some (.inl (i + 1))] [] (zuR V 110 i (V.2.1 102 ((64 * g) + i))))) : zwp jtb zsh n zm_MTplace post K (lGo ak_ZMTplace 42) 42 [some (.inr (.inr (some (.inl 90)))), some (.inl (g)), some (.inl (u)), some (.inl (d)), some (.inl (i))] [] V := by
  obtain ⟨kk__, rfl⟩ : ∃ kk__, K = kk__ + 55 := ⟨K - 55, by omega⟩
  exact (show (64 ≤ i → 90 < n ∧ 12 = 12 ∧ (-2147483648 ≤ 5 * g ∧ 5 * g ≤ 2147483647) ∧ 103 < n ∧ FieldType.int = FieldType.int ∧ (0 ≤ (5 * g) ∧ (5 * g) < 10) ∧ 90 < n ∧ 12 = 12 ∧ (some 0 : Option Nat) = some 0 ∧ ((0 : Nat) = 0 ∨ ((0 : Nat) = 1 ∧ ((V.2.1 103 (5 * g)) = 0 ∨ (V.2.1 103 (5 * g)) = 1))) ∧ 90 < n ∧ 12 = 12 ∧ (-2147483648 ≤ 5 * g ∧ 5 * g ≤ 2147483647) ∧ (-2147483648 ≤ (5 * g) + 1 ∧ (5 * g) + 1 ≤ 2147483647) ∧ 103 < n ∧ FieldType.int = FieldType.int ∧ (0 ≤ ((5 * g) + 1) ∧ ((5 * g) + 1) < 10) ∧ 90 < n ∧ 12 = 12 ∧ (some 0 : Option Nat) = some 0 ∧ ((0 : Nat) = 0 ∨ ((0 : Nat) = 1 ∧ ((V.2.1 103 ((5 * g) + 1)) = 0 ∨ (V.2.1 103 ((5 * g) + 1)) = 1))) ∧ 90 < n ∧ 12 = 12 ∧ (-2147483648 ≤ 5 * g ∧ 5 * g ≤ 2147483647) ∧ (-2147483648 ≤ (5 * g) + 2 ∧ (5 * g) + 2 ≤ 2147483647) ∧ 103 < n ∧ FieldType.int = FieldType.int ∧ (0 ≤ ((5 * g) + 2) ∧ ((5 * g) + 2) < 10) ∧ 90 < n ∧ 12 = 12 ∧ (some 0 : Option Nat) = some 0 ∧ ((0 : Nat) = 0 ∨ ((0 : Nat) = 1 ∧ ((V.2.1 103 ((5 * g) + 2)) = 0 ∨ (V.2.1 103 ((5 * g) + 2)) = 1))) ∧ 90 < n ∧ 12 = 12 ∧ (-2147483648 ≤ 5 * g ∧ 5 * g ≤ 2147483647) ∧ (-2147483648 ≤ (5 * g) + 3 ∧ (5 * g) + 3 ≤ 2147483647) ∧ 103 < n ∧ FieldType.int = FieldType.int ∧ (0 ≤ ((5 * g) + 3) ∧ ((5 * g) + 3) < 10) ∧ 90 < n ∧ 12 = 12 ∧ (some 0 : Option Nat) = some 0 ∧ ((0 : Nat) = 0 ∨ ((0 : Nat) = 1 ∧ ((V.2.1 103 ((5 * g) + 3)) = 0 ∨ (V.2.1 103 ((5 * g) + 3)) = 1))) ∧ 90 < n ∧ 12 = 12 ∧ (-2147483648 ≤ 5 * g ∧ 5 * g ≤ 2147483647) ∧ (-2147483648 ≤ (5 * g) + 4 ∧ (5 * g) + 4 ≤ 2147483647) ∧ 103 < n ∧ FieldType.int = FieldType.int ∧ (0 ≤ ((5 * g) + 4) ∧ ((5 * g) + 4) < 10) ∧ 90 < n ∧ 12 = 12 ∧ (some 0 : Option Nat) = some 0 ∧ ((0 : Nat) = 0 ∨ ((0 : Nat) = 1 ∧ ((V.2.1 103 ((5 * g) + 4)) = 0 ∨ (V.2.1 103 ((5 * g) + 4)) = 1))) ∧ (-2147483648 ≤ d - 1 ∧ d - 1 ≤ 2147483647) ∧ zwp jtb zsh n zm_MTplace post (kk__ + 0) (lGo ak_ZMTplace 147) 147 [some (.inr (.inr (some (.inl 90)))), some (.inl (g)), some (.inl (u)), some (.inl (d)), some (.inl (d - 1))] [] (zuF (zuF (zuF (zuF (zuF V 90 25 (V.2.1 103 (5 * g))) 90 26 (V.2.1 103 ((5 * g) + 1))) 90 27 (V.2.1 103 ((5 * g) + 2))) 90 28 (V.2.1 103 ((5 * g) + 3))) 90 29 (V.2.1 103 ((5 * g) + 4)))) ∧ (¬ 64 ≤ i → 90 < n ∧ 12 = 12 ∧ 90 < n ∧ 12 = 12 ∧ (-2147483648 ≤ 64 * g ∧ 64 * g ≤ 2147483647) ∧ (-2147483648 ≤ (64 * g) + i ∧ (64 * g) + i ≤ 2147483647) ∧ 102 < n ∧ FieldType.int = FieldType.int ∧ (0 ≤ ((64 * g) + i) ∧ ((64 * g) + i) < 128) ∧ 110 < n ∧ FieldType.int = FieldType.int ∧ (0 ≤ i ∧ i < 64) ∧ True ∧ (-2147483648 ≤ i + 1 ∧ i + 1 ≤ 2147483647) ∧ zwp jtb zsh n zm_MTplace post (kk__ + 38) (lGo ak_ZMTplace 42) 42 [some (.inr (.inr (some (.inl 90)))), some (.inl (g)), some (.inl (u)), some (.inl (d)), some (.inl (i + 1))] [] (zuR V 110 i (V.2.1 102 ((64 * g) + i)))) from ⟨fun c46_2 => ⟨(Nat.lt_of_lt_of_le (by decide) hn), rfl, ⟨(((h).1 c46_2)).1, ⟨(Nat.lt_of_lt_of_le (by decide) hn), rfl, ((((h).1 c46_2)).2).1, ⟨(Nat.lt_of_lt_of_le (by decide) hn), rfl, rfl, (Or.inl rfl), ⟨(Nat.lt_of_lt_of_le (by decide) hn), rfl, ⟨(((((h).1 c46_2)).2).2).1, (have h := (((((h).1 c46_2)).2).2).2; ⟨(h).1, ⟨(Nat.lt_of_lt_of_le (by decide) hn), rfl, ((h).2).1, ⟨(Nat.lt_of_lt_of_le (by decide) hn), rfl, rfl, (Or.inl rfl), ⟨(Nat.lt_of_lt_of_le (by decide) hn), rfl, ⟨(((h).2).2).1, ⟨((((h).2).2).2).1, ⟨(Nat.lt_of_lt_of_le (by decide) hn), rfl, (((((h).2).2).2).2).1, ⟨(Nat.lt_of_lt_of_le (by decide) hn), rfl, rfl, (Or.inl rfl), ⟨(Nat.lt_of_lt_of_le (by decide) hn), rfl, ⟨((((((h).2).2).2).2).2).1, (have h := ((((((h).2).2).2).2).2).2; ⟨(h).1, ⟨(Nat.lt_of_lt_of_le (by decide) hn), rfl, ((h).2).1, ⟨(Nat.lt_of_lt_of_le (by decide) hn), rfl, rfl, (Or.inl rfl), ⟨(Nat.lt_of_lt_of_le (by decide) hn), rfl, ⟨(((h).2).2).1, ⟨((((h).2).2).2).1, ⟨(Nat.lt_of_lt_of_le (by decide) hn), rfl, (((((h).2).2).2).2).1, ⟨(Nat.lt_of_lt_of_le (by decide) hn), rfl, rfl, (Or.inl rfl), ⟨((((((h).2).2).2).2).2).1, ((((((h).2).2).2).2).2).2⟩⟩⟩⟩⟩⟩⟩⟩⟩)⟩⟩⟩⟩⟩⟩⟩⟩⟩⟩)⟩⟩⟩⟩⟩⟩, fun c46_2 => ⟨(Nat.lt_of_lt_of_le (by decide) hn), rfl, ⟨(Nat.lt_of_lt_of_le (by decide) hn), rfl, ⟨(((h).2 c46_2)).1, ⟨((((h).2 c46_2)).2).1, ⟨(Nat.lt_of_lt_of_le (by decide) hn), rfl, (((((h).2 c46_2)).2).2).1, (have h := (((((h).2 c46_2)).2).2).2; ⟨(Nat.lt_of_lt_of_le (by decide) hn), rfl, (h).1, trivial, ⟨((h).2).1, ((h).2).2⟩⟩)⟩⟩⟩⟩⟩⟩)
set_option maxRecDepth 8000 in
theorem zp_MTplace_147 {n K : Nat} {V : zW} {post : zPo} {g u d i : Int}  (hK : 17 ≤ K) (hn : 142 ≤ n) (h : (i < 0 → (rGd (zQ V) ∧ zMk V ∧ (0 ≤ V.1 90 26 ∧ V.1 90 26 ≤ 15)) ∧ ∀ W181 : zW, (zSp V W181 ∧ hqE (zLg (zQ V)) (W181.2.1 113) 0 (W181.1 90 33) ∧ W181.1 90 33 ≤ 2048) → post none W181) ∧ (¬ i < 0 → (-2147483648 ≤ 301 * g ∧ 301 * g ≤ 2147483647) ∧ (0 ≤ i ∧ i < 301) ∧ (-2147483648 ≤ (301 * g) + (V.2.1 114 i) ∧ (301 * g) + (V.2.1 114 i) ≤ 2147483647) ∧ (0 ≤ ((301 * g) + (V.2.1 114 i)) ∧ ((301 * g) + (V.2.1 114 i)) < 602) ∧ ((0 ≤ (V.2.1 95 ((301 * g) + (V.2.1 114 i))) ∧ (V.2.1 95 ((301 * g) + (V.2.1 114 i))) ≤ 24575) ∧ zMk V) ∧ ∀ W171 : zW, (zQ W171 = rVk (zQ V) (V.2.1 95 ((301 * g) + (V.2.1 114 i))) ∧ (0 ≤ W171.1 90 28 ∧ W171.1 90 28 ≤ V.1 90 28 + 1) ∧ W171.1 90 29 = V.1 90 29 + V.1 90 25 ∧ zFr [(90, 25), (90, 26), (90, 27), (90, 28), (90, 29)] [110] V W171) → (-2147483648 ≤ i + (-1) ∧ i + (-1) ≤ 2147483647) ∧ zwp jtb zsh n zm_MTplace post (K - 17) (lGo ak_ZMTplace 147) 147 [some (.inr (.inr (some (.inl 90)))), some (.inl (g)), some (.inl (u)), some (.inl (d)), some (.inl (i + (-1)))] [] W171)) : zwp jtb zsh n zm_MTplace post K (lGo ak_ZMTplace 147) 147 [some (.inr (.inr (some (.inl 90)))), some (.inl (g)), some (.inl (u)), some (.inl (d)), some (.inl (i))] [] V := by
  obtain ⟨kk__, rfl⟩ : ∃ kk__, K = kk__ + 17 := ⟨K - 17, by omega⟩
  exact (show (i < 0 → 3 = 3 ∧ false = false ∧ jin3 186 1959 1 zm_MTplace.2.2.1.1 = true ∧ lRm zm_MTplace.2.1 { frames := 5, cells := 0, slots := 0, locals := 132 } 6 = true ∧ Nat.ble 1 1 = true ∧ Nat.ble 0 8 = true ∧ 90 < n ∧ 12 = 12 ∧ Nat.ble 1000 12 = false ∧ zc_MTfind [.inr (.inr (some (.inl 90)))] V (fun vv__ WW__ => zwp jtb zsh n zm_MTplace post (kk__ + 13) (lGo ak_ZMTplace 184) 184 [some (.inr (.inr (some (.inl 90)))), some (.inl (g)), some (.inl (u)), some (.inl (d)), some (.inl (i))] (vv__.toList ++ []) WW__)) ∧ (¬ i < 0 → 90 < n ∧ 12 = 12 ∧ (-2147483648 ≤ 301 * g ∧ 301 * g ≤ 2147483647) ∧ 90 < n ∧ 12 = 12 ∧ 114 < n ∧ FieldType.int = FieldType.int ∧ (0 ≤ i ∧ i < 301) ∧ (-2147483648 ≤ (301 * g) + (V.2.1 114 i) ∧ (301 * g) + (V.2.1 114 i) ≤ 2147483647) ∧ 95 < n ∧ FieldType.int = FieldType.int ∧ (0 ≤ ((301 * g) + (V.2.1 114 i)) ∧ ((301 * g) + (V.2.1 114 i)) < 602) ∧ 3 = 3 ∧ false = false ∧ jin3 150 1937 0 zm_MTplace.2.2.1.1 = true ∧ lRm zm_MTplace.2.1 { frames := 2, cells := 0, slots := 0, locals := 43 } 8 = true ∧ Nat.ble 2 2 = true ∧ Nat.ble 0 8 = true ∧ 90 < n ∧ 12 = 12 ∧ Nat.ble 1000 12 = false ∧ zc_MTmake [.inr (.inr (some (.inl 90))), .inl (V.2.1 95 ((301 * g) + (V.2.1 114 i)))] V (fun vv__ WW__ => zwp jtb zsh n zm_MTplace post (kk__ + 2) (lGo ak_ZMTplace 174) 174 [some (.inr (.inr (some (.inl 90)))), some (.inl (g)), some (.inl (u)), some (.inl (d)), some (.inl (i))] (vv__.toList ++ []) WW__)) from ⟨fun c149_1 => ⟨rfl, rfl, rfl, rfl, rfl, rfl, (Nat.lt_of_lt_of_le (by decide) hn), rfl, rfl, rfl, (((h).1 c149_1)).1, fun W181 hr181 => (show 1 = 1 ∧ (none : Option FieldType) = none ∧ post none W181 from (have h := ((((h).1 c149_1)).2 W181 hr181); ⟨rfl, rfl, h⟩))⟩, fun c149_1 => ⟨(Nat.lt_of_lt_of_le (by decide) hn), rfl, ⟨(((h).2 c149_1)).1, ⟨(Nat.lt_of_lt_of_le (by decide) hn), rfl, ⟨(Nat.lt_of_lt_of_le (by decide) hn), rfl, ((((h).2 c149_1)).2).1, ⟨(((((h).2 c149_1)).2).2).1, (have h := (((((h).2 c149_1)).2).2).2; ⟨(Nat.lt_of_lt_of_le (by decide) hn), rfl, (h).1, ⟨rfl, rfl, rfl, rfl, rfl, rfl, (Nat.lt_of_lt_of_le (by decide) hn), rfl, rfl, V.2.1 95 ((301 * g) + (V.2.1 114 i)), rfl, ((h).2).1, fun W171 hr171 => (show (-2147483648 ≤ i + (-1) ∧ i + (-1) ≤ 2147483647) ∧ zwp jtb zsh n zm_MTplace post (kk__ + 0) (lGo ak_ZMTplace 147) 147 [some (.inr (.inr (some (.inl 90)))), some (.inl (g)), some (.inl (u)), some (.inl (d)), some (.inl (i + (-1)))] [] W171 from ⟨((((h).2).2 W171 hr171)).1, ((((h).2).2 W171 hr171)).2⟩)⟩⟩)⟩⟩⟩⟩⟩⟩)
theorem zMk_g {V : zW} (h : rGd (zQ V)) (h1 : 0 ≤ V.1 90 28 ∧ V.1 90 28 ≤ 100000) (h2 : 0 ≤ V.1 90 29 ∧ V.1 90 29 ≤ 100000) : zMk V := by
  refine ⟨fun i i0 i1 => ?_, ⟨h.1, h.2.1⟩, h1, h2⟩
  have z := h.2.2.1 i
  rw [show (zQ V).1 i = V.2.1 110 i from zMn_i ⟨i0, i1⟩] at z
  omega
set_option maxRecDepth 200000 in
set_option maxHeartbeats 4000000 in
theorem zk_MTplace {l : Launch} {E : jE} {n : Nat} (hn : 142 ≤ n) : zHas l E jcl jtb lw_tbl zsh n (y_MT_place, false, 3, 12, { frames := 6, cells := 0, slots := 0, locals := 157 }, zc_MTplace) := by
  refine ⟨⟨rfl, rfl, ⟨show 1 ≤ 3 by decide, m_MT_place, i_MT_place, e_MT_place, fun _ => ⟨_, rfl, rfl⟩⟩⟩, ?_⟩
  rintro vz W po hO hW ⟨g, u, rfl, hq, hp⟩
  refine zmet (m := zm_MTplace) rfl (by decide) (fun _ _ => jtF_ok) lo_MT ao_ZMTplace jC (fun q h => by cases h) (aAllc (fun G h => by obtain rfl := Option.some.inj h; exact ql_MT_150) (aAllc (fun G h => by obtain rfl := Option.some.inj h; exact ql_MT_186) (fun q h => by cases h))) (aAllc (zk_MTmake hn) (aAllc (zk_MTfind hn) (fun q h => by cases h))) (Nat.le_of_ble_eq_true rfl) hO hW (60000) ?_
  obtain ⟨hg, ⟨N, hu, hOk⟩, hb⟩ := hq
  have hP := hOk.2.1
  have hN0 : True := by trivial
  have hN : ∀ j : Nat, (∀ i : Nat, i < j → 1 ≤ xUp (zro W 94 g) u i) → xUp (zro W 94 g) u j ≤ u := by
    intro j
    induction j with
    | zero => exact fun _ => Int.le_refl _
    | succ j ih =>
      intro h
      have h1 := ih (fun i hi => h i (by omega))
      have h2 := hP _ (h j (by omega)) (by omega)
      show zro W 94 g (xUp (zro W 94 g) u j) ≤ u
      omega
  have fin : ∀ V V2 : zW, ((zQ V, V.1 90 29) = xPo (zSt W g) (zro W 94 g) (zro W 95 g) u ∧ zFr [(90, 25), (90, 26), (90, 27), (90, 28), (90, 29), (90, 33)] [110, 111, 112, 113, 114] W V) → zMk V → (0 ≤ V.1 90 26 ∧ V.1 90 26 ≤ 15) → (V.1 90 28 ≤ 50000 ∧ V.1 90 29 ≤ 50000) → (zSp V V2 ∧ hqE (zLg (zQ V)) (V2.2.1 113) 0 (V2.1 90 33) ∧ V2.1 90 33 ≤ 2048) → po none V2 := by
    rintro V V2 ⟨h1, h2⟩ h3 h4 h8 ⟨h5, h6, h7⟩
    refine hp V2 ⟨⟨?_, zSp_k h5 h3, ?_, ?_, h7, ?_⟩, zFr_t h2 (zFr_w h5.2 (by decide) (by decide))⟩
    · rw [zSp_q h5, zFr_f h5.2 90 29]; exact h1
    · rw [zFr_f h5.2 90 26]; exact h4
    · rw [zSp_q h5]; exact h6
    · rw [zFr_f h5.2 90 28, zFr_f h5.2 90 29]; exact h8
  have h147 : ∀ (j c K : Nat) (i : Int) (V : zW) (d : Int), 60 * c + 100 ≤ K → i = c - 1 → c ≤ j → j ≤ 300 → zFr [(90, 25), (90, 26), (90, 27), (90, 28), (90, 29), (90, 33)] [110, 111, 112, 113, 114] W V → (∀ i : Nat, i < j → V.2.1 114 i = xUp (zro W 94 g) u i ∧ 1 ≤ xUp (zro W 94 g) u i) → (zQ V, V.1 90 29) = xPo (zSt W g) (zro W 94 g) (zro W 95 g) (xUp (zro W 94 g) u c) → (0 ≤ V.1 90 28 ∧ V.1 90 28 ≤ 999 + j - c) → zwp jtb zsh n zm_MTplace po K (lGo ak_ZMTplace 147) 147 [some (.inr (.inr (some (.inl 90)))), some (.inl g), some (.inl u), some (.inl d), some (.inl i)] [] V := by
    intro j c
    induction c with
    | zero =>
      intro K i V d hK ei hcj hj3 hfr hpth hX hck
      have hg0 := xOk_g hOk u.toNat u (by omega) hu.2.1
      have eQ : zQ V = (xPo (zSt W g) (zro W 94 g) (zro W 95 g) u).1 := congrArg Prod.fst hX
      have eN : V.1 90 29 = (xPo (zSt W g) (zro W 94 g) (zro W 95 g) u).2 := congrArg Prod.snd hX
      have hg1 := hg0.1
      rw [← eQ] at hg1
      have eS : (zSt W g).2 = W.2.1 103 (5 * g + 4) := rfl
      have hmk : zMk V := zMk_g hg1.1 (by omega) (by have a := hg0.2.1; have b := hg0.2.2 hu.1; have c := hb.2.2; omega)
      exact zp_MTplace_147 (by omega) hn ⟨fun c149 => ⟨⟨hg1.1, hmk, hg1.2⟩, fun W181 hr181 => fin V W181 ⟨hX, hfr⟩ hmk hg1.2 ⟨by omega, by have a := hg0.2.1; have b := hg0.2.2 hu.1; have c := hb.2.2; omega⟩ hr181⟩, fun c149 => absurd (by omega) c149⟩
    | succ c ih =>
      intro K i V d hK ei hcj hj3 hfr hpth hX hck
      obtain ⟨hpi, hpi2⟩ := hpth c (by omega)
      have hn1 := hN c (fun z hz => (hpth z (by omega)).2)
      have hpar := hP (xUp (zro W 94 g) u c) hpi2 (by omega)
      have hl := hOk.2.2 (xUp (zro W 94 g) u c) hpi2 (by omega)
      have hg0 := xOk_g hOk ((zro W 94 g) (xUp (zro W 94 g) u c)).toNat ((zro W 94 g) (xUp (zro W 94 g) u c)) (by omega) (by omega)
      have hX : (zQ V, V.1 90 29) = xPo (zSt W g) (zro W 94 g) (zro W 95 g) ((zro W 94 g) (xUp (zro W 94 g) u c)) := hX
      have eQ : zQ V = (xPo (zSt W g) (zro W 94 g) (zro W 95 g) ((zro W 94 g) (xUp (zro W 94 g) u c))).1 := congrArg Prod.fst hX
      have eN : V.1 90 29 = (xPo (zSt W g) (zro W 94 g) (zro W 95 g) ((zro W 94 g) (xUp (zro W 94 g) u c))).2 := congrArg Prod.snd hX
      have hg1 := hg0.1
      rw [← eQ] at hg1 hl
      have eS : (zSt W g).2 = W.2.1 103 (5 * g + 4) := rfl
      have hmk : zMk V := zMk_g hg1.1 (by omega) (by have a := hg0.2.1; have b := hg0.2.2 hpar.1; have c := hb.2.2; omega)
      have ei2 : i = (c : Int) := by omega
      have e114 : V.2.1 114 i = xUp (zro W 94 g) u c := by rw [ei2]; exact hpi
      have e5 : V.2.1 95 (301 * g + V.2.1 114 i) = (zro W 95 g) (xUp (zro W 94 g) u c) := by rw [e114, zFr_r hfr 95]; rfl
      have nxt : ∀ W171 : zW, (zQ W171 = rVk (zQ V) (V.2.1 95 ((301 * g) + (V.2.1 114 i))) ∧ (0 ≤ W171.1 90 28 ∧ W171.1 90 28 ≤ V.1 90 28 + 1) ∧ W171.1 90 29 = V.1 90 29 + V.1 90 25 ∧ zFr [(90, 25), (90, 26), (90, 27), (90, 28), (90, 29)] [110] V W171) → (zQ W171, W171.1 90 29) = xPo (zSt W g) (zro W 94 g) (zro W 95 g) (xUp (zro W 94 g) u c) := by
        rintro W171 ⟨r1, -, r3, -⟩
        rw [xPo_1 hP hpi2 (by omega), r1, r3, e5, rVk_eq hg1.1 hl.1, ← hX]
        rfl
      exact zp_MTplace_147 (by omega) hn ⟨fun c149 => ⟨⟨hg1.1, hmk, hg1.2⟩, fun W181 hr181 => (absurd c149 (by omega))⟩, fun c149 => ⟨(by omega), ⟨(by omega), ⟨(by rw [e114]; omega), ⟨(by rw [e114]; omega), ⟨⟨by rw [e5]; exact ⟨hl.1.1, hl.1.2.1⟩, hmk⟩, fun W171 hr171 => ⟨(by omega), (ih _ (i + (-1)) W171 _ (by omega) (by omega) (by omega) hj3 (zFr_t hfr (zFr_w hr171.2.2.2 (by decide) (by decide))) (fun z hz => by rw [zFr_r hr171.2.2.2 114]; exact hpth z hz) (nxt W171 hr171) (by have := hr171.2.1; omega))⟩⟩⟩⟩⟩⟩⟩
  have h42 : ∀ (j : Nat) (d : Int), d = j → xUp (zro W 94 g) u j = 0 → j ≤ 300 → ∀ (m K : Nat) (i : Int) (V : zW), 60 * m + 60 * 300 + 300 ≤ K → 64 - i ≤ m → 0 ≤ i → i ≤ 64 → zFr [(90, 25), (90, 26), (90, 27), (90, 28), (90, 29), (90, 33)] [110, 111, 112, 113, 114] W V → (∀ i : Nat, i < j → V.2.1 114 i = xUp (zro W 94 g) u i ∧ 1 ≤ xUp (zro W 94 g) u i) → (∀ z, 0 ≤ z → z < i → V.2.1 110 z = W.2.1 102 (64 * g + z)) → zwp jtb zsh n zm_MTplace po K (lGo ak_ZMTplace 42) 42 [some (.inr (.inr (some (.inl 90)))), some (.inl g), some (.inl u), some (.inl d), some (.inl i)] [] V := by
    intro j d ed ej hj3 m
    induction m with
    | zero =>
      intro K i V hK hm i0 i1 hfr hpth hmn
      have c46 : 64 ≤ i := by omega
      exact zp_MTplace_42 (by omega) hn ⟨fun _ => ⟨(by omega), ⟨(by omega), ⟨(by omega), ⟨(by omega), ⟨(by omega), ⟨(by omega), ⟨(by omega), ⟨(by omega), ⟨(by omega), ⟨(by omega), ⟨(by omega), ⟨(by omega), ⟨(by omega), ⟨(by omega), ⟨(by omega), (h147 j j _ (d - 1) (zuF (zuF (zuF (zuF (zuF V 90 25 (V.2.1 103 (5 * g))) 90 26 (V.2.1 103 ((5 * g) + 1))) 90 27 (V.2.1 103 ((5 * g) + 2))) 90 28 (V.2.1 103 ((5 * g) + 3))) 90 29 (V.2.1 103 ((5 * g) + 4))) _ (by omega) (by omega) (Nat.le_refl j) hj3 (zFr_F (zFr_F (zFr_F (zFr_F (zFr_F hfr (by decide)) (by decide)) (by decide)) (by decide)) (by decide)) hpth (by rw [ej, xPo_0 (by decide)]; show ((zMn V, V.2.1 103 (5 * g), V.2.1 103 (5 * g + 1), V.2.1 103 (5 * g + 2)), V.2.1 103 (5 * g + 4)) = zSt W g; rw [zFr_r hfr 103, show zMn V = zMo (fun i => W.2.1 102 (64 * g + i)) from zMo_e (fun z z1 z2 => hmn z z1 (by omega))]; rfl) (by show 0 ≤ V.2.1 103 (5 * g + 3) ∧ V.2.1 103 (5 * g + 3) ≤ _; rw [zFr_r hfr 103]; have := hb.2.1; omega))⟩⟩⟩⟩⟩⟩⟩⟩⟩⟩⟩⟩⟩⟩⟩, fun z => absurd c46 z⟩
    | succ m ih =>
      intro K i V hK hm i0 i1 hfr hpth hmn
      exact zp_MTplace_42 (by omega) hn ⟨fun c46 => ⟨(by omega), ⟨(by omega), ⟨(by omega), ⟨(by omega), ⟨(by omega), ⟨(by omega), ⟨(by omega), ⟨(by omega), ⟨(by omega), ⟨(by omega), ⟨(by omega), ⟨(by omega), ⟨(by omega), ⟨(by omega), ⟨(by omega), (h147 j j _ (d - 1) (zuF (zuF (zuF (zuF (zuF V 90 25 (V.2.1 103 (5 * g))) 90 26 (V.2.1 103 ((5 * g) + 1))) 90 27 (V.2.1 103 ((5 * g) + 2))) 90 28 (V.2.1 103 ((5 * g) + 3))) 90 29 (V.2.1 103 ((5 * g) + 4))) _ (by omega) (by omega) (Nat.le_refl j) hj3 (zFr_F (zFr_F (zFr_F (zFr_F (zFr_F hfr (by decide)) (by decide)) (by decide)) (by decide)) (by decide)) hpth (by rw [ej, xPo_0 (by decide)]; show ((zMn V, V.2.1 103 (5 * g), V.2.1 103 (5 * g + 1), V.2.1 103 (5 * g + 2)), V.2.1 103 (5 * g + 4)) = zSt W g; rw [zFr_r hfr 103, show zMn V = zMo (fun i => W.2.1 102 (64 * g + i)) from zMo_e (fun z z1 z2 => hmn z z1 (by omega))]; rfl) (by show 0 ≤ V.2.1 103 (5 * g + 3) ∧ V.2.1 103 (5 * g + 3) ≤ _; rw [zFr_r hfr 103]; have := hb.2.1; omega))⟩⟩⟩⟩⟩⟩⟩⟩⟩⟩⟩⟩⟩⟩⟩, fun c46 => ⟨(by omega), ⟨(by omega), ⟨(by omega), ⟨(by omega), ⟨(by omega), (ih _ (i + 1) (zuR V 110 i (V.2.1 102 ((64 * g) + i))) (by omega) (by omega) (by omega) (by omega) (zFr_R hfr (by decide)) hpth (fun z z1 z2 => by show zuI (V.2.1 110) i _ z = _; by_cases ci : z = i; (rw [ci, zuI_s, zFr_r hfr 102]); (rw [zuI_n ci]; exact hmn z z1 (by omega))))⟩⟩⟩⟩⟩⟩
  have lp5 : ∀ (m K : Nat) (d : Int) (j : Nat) (k : Int) (V : zW), 40 * m + 60 * 64 + 60 * 300 + 400 ≤ K → k ≤ m → d = j → 0 ≤ k → j + k ≤ u → k = xUp (zro W 94 g) u j → zFr [(90, 25), (90, 26), (90, 27), (90, 28), (90, 29), (90, 33)] [110, 111, 112, 113, 114] W V → (∀ i : Nat, i < j → V.2.1 114 i = xUp (zro W 94 g) u i ∧ 1 ≤ xUp (zro W 94 g) u i) → zwp jtb zsh n zm_MTplace po K (lGo ak_ZMTplace 5) 5 [some (.inr (.inr (some (.inl 90)))), some (.inl g), some (.inl u), some (.inl d), some (.inl k)] [] V := by
    intro m
    induction m with
    | zero =>
      intro K d j k V hK hm ed k0 hjk ek hfr hpth
      exact zp_MTplace_5 (by omega) hn ⟨fun _ => h42 j d ed (by omega) (by omega) 64 _ 0 V (by omega) (by omega) (by omega) (by omega) hfr hpth (fun z z1 z2 => by omega), fun c => absurd (by omega) c⟩
    | succ m ih =>
      intro K d j k V hK hm ed k0 hjk ek hfr hpth
      have e94 : V.2.1 94 (301 * g + k) = (zro W 94 g) k := by rw [zFr_r hfr 94]; rfl
      have hk2 : ¬ k ≤ 0 → 0 ≤ (zro W 94 g) k ∧ (zro W 94 g) k < k := fun c => hP k (by omega) (by omega)
      exact zp_MTplace_5 (by omega) hn ⟨fun c7 => (h42 j d ed (by omega) (by omega) 64 _ 0 V (by omega) (by omega) (by omega) (by omega) hfr hpth (fun z z1 z2 => by omega)), fun c7 => ⟨(by omega), ⟨(by omega), ⟨(by omega), ⟨(by omega), ⟨(by omega), (ih _ (d + 1) (j + 1) (V.2.1 94 ((301 * g) + k)) (zuR V 114 d k) (by omega) (by have := hk2 c7; omega) (by omega) (by have := hk2 c7; omega) (by have := hk2 c7; omega) (by rw [e94]; show (zro W 94 g) k = (zro W 94 g) (xUp (zro W 94 g) u j); rw [← ek]) (zFr_R hfr (by decide)) (fun i hi => by show zuI (V.2.1 114) d k i = _ ∧ _; by_cases ci : (i : Int) = d; (rw [ci, zuI_s, show i = j by omega, ← ek]; exact ⟨rfl, by omega⟩); (rw [zuI_n ci]; exact hpth i (by omega))))⟩⟩⟩⟩⟩⟩
  exact zp_MTplace_0 (by omega) hn (lp5 300 _ 0 0 u W (by omega) (by omega) rfl hu.1 (by omega) rfl zFr_0 (fun j hj => by omega))
end
section
/-! the signs of a move: as the reference spells them, as the class takes them apart -/
def sgL (k : Int) : Int := if k = 2 then 78 else if k = 3 then 66 else if k = 4 then 82 else if k = 5 then 81 else 75
/-- the piece that a letter tells, 1 for none -/
def sgK (c : Int) : Int := if c = 78 then 2 else if c = 66 then 3 else if c = 82 then 4 else if c = 81 then 5 else if c = 75 then 6 else 1
def sgF (c : Int) : Prop := 97 ≤ c ∧ c ≤ 104
def sgR (c : Int) : Prop := 49 ≤ c ∧ c ≤ 56
def sgO (r : Int → Int) (n : Int) : Prop := n = 3 ∧ r 0 = 79 ∧ r 1 = 45 ∧ r 2 = 79
def sgOO (r : Int → Int) (n : Int) : Prop := n = 5 ∧ r 0 = 79 ∧ r 1 = 45 ∧ r 2 = 79 ∧ r 3 = 45 ∧ r 4 = 79
def sgE (r : Int → Int) (n : Int) : Prop := 0 < n ∧ (r (n - 1) = 43 ∨ r (n - 1) = 35)
/-- behind the letter: a file, a rank, x, the square; n is where they end -/
def sgS (r : Int → Int) (n fi kd file rank to tk : Int) : Prop := 2 ≤ n - fi ∧ sgF (r (n - 2)) ∧ sgR (r (n - 1)) ∧ to = r (n - 2) - 97 + 8 * (r (n - 1) - 49) ∧ ((tk = 1 ∧ fi < n - 2 ∧ r (n - 3) = 120) ∨ (tk = 0 ∧ ¬ (fi < n - 2 ∧ r (n - 3) = 120))) ∧ ((file = r fi - 97 ∧ fi < n - 2 - tk ∧ sgF (r fi) ∧ ((rank = r (fi + 1) - 49 ∧ fi + 1 < n - 2 - tk ∧ ¬ kd = 1 ∧ sgR (r (fi + 1)) ∧ fi + 2 = n - 2 - tk) ∨ (rank = -1 ∧ ¬ (fi + 1 < n - 2 - tk ∧ ¬ kd = 1 ∧ sgR (r (fi + 1))) ∧ fi + 1 = n - 2 - tk))) ∨ (file = -1 ∧ ¬ (fi < n - 2 - tk ∧ sgF (r fi)) ∧ ((rank = r fi - 49 ∧ fi < n - 2 - tk ∧ ¬ kd = 1 ∧ sgR (r fi) ∧ fi + 1 = n - 2 - tk) ∨ (rank = -1 ∧ ¬ (fi < n - 2 - tk ∧ ¬ kd = 1 ∧ sgR (r fi)) ∧ fi = n - 2 - tk))))
/-- what the class takes out of n signs (no check sign among them) -/
def sgP1 (r : Int → Int) (n kd file rank to bc ca tk : Int) : Prop := (sgO r n ∧ kd = 6 ∧ ca = 2 ∧ tk = 0) ∨ (¬ sgO r n ∧ sgOO r n ∧ kd = 6 ∧ ca = -2 ∧ tk = 0) ∨ (¬ sgO r n ∧ ¬ sgOO r n ∧ ca = 0 ∧ kd = (if 0 < n then sgK (r 0) else 1) ∧ ((kd = 1 ∧ 2 ≤ n ∧ r (n - 2) = 61 ∧ bc = sgK (r (n - 1)) ∧ 2 ≤ bc ∧ bc ≤ 5 ∧ sgS r (n - 2) 0 kd file rank to tk) ∨ (¬ (kd = 1 ∧ 2 ≤ n ∧ r (n - 2) = 61) ∧ bc = 0 ∧ sgS r n (if kd = 1 then 0 else 1) kd file rank to tk)))
/-- a move fits what was taken out -/
def sgM (kd file rank to bc ca tk : Int) (mk mf mt mb mc : Int) (mt' : Prop) : Prop := mk = kd ∧ ((¬ ca = 0 ∧ mc = ca) ∨ (ca = 0 ∧ mc = 0 ∧ to = mt ∧ bc = mb ∧ (0 ≤ rank → mf / 8 = rank) ∧ (0 ≤ file → mf % 8 = file) ∧ (file < 0 → ¬ kd = 1 ∨ mf % 8 = mt % 8))) ∧ (tk = 1 ↔ mt')
/-- the class's fit: mk kind, mf from, mt to, mb what it becomes, mc castling, mt' it takes, ck its sign of check -/
def sgC (r : Int → Int) (n mk mf mt mb mc ck : Int) (mt' : Prop) : Prop := ∃ kd file rank to bc ca tk, (sgE r n ∧ ck = r (n - 1) ∧ sgP1 r (n - 1) kd file rank to bc ca tk ∧ sgM kd file rank to bc ca tk mk mf mt mb mc mt') ∨ (¬ sgE r n ∧ sgP1 r n kd file rank to bc ca tk ∧ sgM kd file rank to bc ca tk mk mf mt mb mc mt')
/-- the reference's spelling, place by place: n signs of r are the move's, with what tells it apart -/
def sgX (r : Int → Int) (n mk mf mt mb mc ap : Int) (mt' : Prop) : Prop := (mc = 2 ∧ ap = 0 ∧ sgO r n) ∨ (mc = -2 ∧ ap = 0 ∧ sgOO r n) ∨ (mc = 0 ∧ 0 ≤ ap ∧ ap ≤ 3 ∧ (¬ mk = 1 ∨ ap = 1 ∨ (ap = 0 ∧ ¬ mt')) ∧ ∃ p q s x : Int, ((mk = 1 ∧ p = 0) ∨ (¬ mk = 1 ∧ p = 1 ∧ r 0 = sgL mk)) ∧ ((ap % 2 = 1 ∧ q = p + 1 ∧ r p = 97 + mf % 8) ∨ (¬ ap % 2 = 1 ∧ q = p)) ∧ ((1 < ap ∧ s = q + 1 ∧ r q = 49 + mf / 8) ∨ (¬ 1 < ap ∧ s = q)) ∧ ((mt' ∧ x = s + 1 ∧ r s = 120) ∨ (¬ mt' ∧ x = s)) ∧ r x = 97 + mt % 8 ∧ r (x + 1) = 49 + mt / 8 ∧ ((0 < mb ∧ n = x + 4 ∧ r (x + 2) = 61 ∧ r (x + 3) = sgL mb) ∨ (¬ 0 < mb ∧ n = x + 2)))
def sgT (r : Int → Int) (n mk mf mt mb mc ck : Int) (mt' : Prop) : Prop := ∃ ap, sgX r n mk mf mt mb mc ap mt' ∨ (sgE r n ∧ ck = r (n - 1) ∧ sgX r (n - 1) mk mf mt mb mc ap mt')
theorem sg_LK {k : Int} (h : 2 ≤ k ∧ k ≤ 6) : sgK (sgL k) = k := by
  have : k = 2 ∨ k = 3 ∨ k = 4 ∨ k = 5 ∨ k = 6 := by omega
  rcases this with rfl | rfl | rfl | rfl | rfl <;> rfl
theorem sg_KL {c k : Int} (h : sgK c = k) (hk : 2 ≤ k ∧ k ≤ 6) : c = sgL k := by
  unfold sgK at h
  unfold sgL
  repeat' split at h
  all_goals (repeat' split) <;> omega
theorem sg_Lr (k : Int) : sgL k = 78 ∨ sgL k = 66 ∨ sgL k = 82 ∨ sgL k = 81 ∨ sgL k = 75 := by
  unfold sgL
  repeat' split
  all_goals omega
theorem sg_m8 (m : Int) : 97 ≤ 97 + m % 8 ∧ 97 + m % 8 ≤ 104 := by omega
theorem sg_n79 (k : Int) : ¬ sgL k = 79 := by
  have := sg_Lr k
  omega
theorem sg_Fn {c : Int} (h : sgF c) : ¬ c = 79 := by
  unfold sgF at h
  omega
theorem sg_ge {k : Int} (h : ¬ k = 1) (hk : 1 ≤ k ∧ k ≤ 6) : 2 ≤ k := by omega
theorem sg_n4 {n x : Int} (e : n = x + 4) (h : 0 ≤ x) : 0 < n := by omega
theorem sg_n2 {n x : Int} (e : n = x + 2) (h : 0 ≤ x) : 0 < n := by omega
theorem sg_Kn {c : Int} (h : sgF c ∨ sgR c ∨ c = 120 ∨ c = 61 ∨ c = 45 ∨ c = 79) : sgK c = 1 := by
  unfold sgF sgR at h
  unfold sgK
  repeat' split
  all_goals omega
theorem sg_S {r : Int → Int} {x p mk mf mt tk ap q s : Int} (f0 : 0 ≤ mf) (f1 : mf ≤ 63) (t0 : 0 ≤ mt) (t1 : mt ≤ 63) (a0 : 0 ≤ ap) (a1 : ap ≤ 3) (r1 : r x = 97 + mt % 8) (r2 : r (x + 1) = 49 + mt / 8) (htk : (tk = 1 ∧ x = s + 1 ∧ r s = 120) ∨ (tk = 0 ∧ x = s)) (hq : (ap % 2 = 1 ∧ q = p + 1 ∧ r p = 97 + mf % 8) ∨ (¬ ap % 2 = 1 ∧ q = p)) (hs : (1 < ap ∧ s = q + 1 ∧ r q = 49 + mf / 8) ∨ (¬ 1 < ap ∧ s = q)) (ha0 : ap = 0 → ¬ mk = 1 ∨ mf % 8 = mt % 8) (ha2 : 2 ≤ ap → ¬ mk = 1) : ∃ file rank : Int, sgS r (x + 2) p mk file rank mt tk ∧ (0 ≤ rank → mf / 8 = rank) ∧ (0 ≤ file → mf % 8 = file) ∧ (file < 0 → ¬ mk = 1 ∨ mf % 8 = mt % 8) := by
  have core : ∀ file rank : Int, ((file = r p - 97 ∧ p < x - tk ∧ sgF (r p) ∧ ((rank = r (p + 1) - 49 ∧ p + 1 < x - tk ∧ ¬ mk = 1 ∧ sgR (r (p + 1)) ∧ p + 2 = x - tk) ∨ (rank = -1 ∧ ¬ (p + 1 < x - tk ∧ ¬ mk = 1 ∧ sgR (r (p + 1))) ∧ p + 1 = x - tk))) ∨ (file = -1 ∧ ¬ (p < x - tk ∧ sgF (r p)) ∧ ((rank = r p - 49 ∧ p < x - tk ∧ ¬ mk = 1 ∧ sgR (r p) ∧ p + 1 = x - tk) ∨ (rank = -1 ∧ ¬ (p < x - tk ∧ ¬ mk = 1 ∧ sgR (r p)) ∧ p = x - tk)))) → p ≤ s → (tk = 0 → p < x → ¬ r (x - 1) = 120) → sgS r (x + 2) p mk file rank mt tk := by
    intro file rank c1 c2 c3
    clear hq hs ha0 ha2
    unfold sgS
    rw [show x + 2 - 2 = x by clear c1 c3 htk; omega, show x + 2 - 1 = x + 1 by clear c1 c3 htk; omega, show x + 2 - 3 = x - 1 by clear c1 c3 htk; omega]
    have b1 : sgF (r x) := by clear c1 c3 htk; unfold sgF; omega
    have b2 : sgR (r (x + 1)) := by clear c1 c3 htk; unfold sgR; omega
    refine ⟨by clear c1 c3; omega, b1, b2, by clear c1 c3 htk; omega, ?_, c1⟩
    clear c1
    rcases htk with ⟨h1, h3, h4⟩ | ⟨h1, h3⟩
    · exact Or.inl ⟨h1, by omega, by rw [show x - 1 = s by omega]; exact h4⟩
    · exact Or.inr ⟨h1, fun h => c3 h1 h.1 h.2⟩
  have hx : x - tk = s := by
    clear core hq hs ha0 ha2
    rcases htk with ⟨h1, h3, -⟩ | ⟨h1, h3⟩ <;> omega
  have hx0 : tk = 0 → x = s := by clear core hq hs ha0 ha2 htk; intro h; omega
  clear htk
  have hap : ap = 0 ∨ ap = 1 ∨ ap = 2 ∨ ap = 3 := by clear core hq hs ha0 ha2; omega
  rcases hap with rfl | rfl | rfl | rfl
  · have e1 : q = p := by
      rcases hq with ⟨h, -⟩ | ⟨-, h⟩
      · exact absurd h (by decide)
      · exact h
    have e2 : s = p := by
      rcases hs with ⟨h, -⟩ | ⟨-, h⟩
      · exact absurd h (by decide)
      · exact h.trans e1
    clear hq hs
    refine ⟨-1, -1, core _ _ (Or.inr ⟨rfl, fun h => by omega, Or.inr ⟨rfl, fun h => by omega, by omega⟩⟩) (by omega) (fun h h2 => by have := hx0 h; omega), fun h => absurd h (by decide), fun h => absurd h (by decide), fun _ => ha0 rfl⟩
  · have e1 : q = p + 1 ∧ r p = 97 + mf % 8 := by
      rcases hq with ⟨-, h⟩ | ⟨h, -⟩
      · exact h
      · exact absurd rfl h
    have e2 : s = p + 1 := by
      rcases hs with ⟨h, -⟩ | ⟨-, h⟩
      · exact absurd h (by decide)
      · exact h.trans e1.1
    clear hq hs ha0 ha2
    have hF : sgF (r p) := by clear core; unfold sgF; omega
    refine ⟨r p - 97, -1, core _ _ (Or.inl ⟨rfl, by clear core; omega, hF, Or.inr ⟨rfl, fun h => by clear core; omega, by clear core; omega⟩⟩) (by clear core; omega) (fun h h2 h3 => ?_), fun h => absurd h (by decide), fun h => by clear core; omega, fun h => by clear core; unfold sgF at hF; omega⟩
    have h4 := hx0 h
    clear core
    rw [show x - 1 = p by omega] at h3
    unfold sgF at hF
    omega
  · have e1 : q = p := by
      rcases hq with ⟨h, -⟩ | ⟨-, h⟩
      · exact absurd h (by decide)
      · exact h
    have e2 : s = p + 1 ∧ r p = 49 + mf / 8 := by
      rcases hs with ⟨-, h⟩ | ⟨h, -⟩
      · rw [e1] at h; exact h
      · exact absurd (by decide) h
    have hmk := ha2 (by decide)
    clear hq hs ha0 ha2
    have hR : sgR (r p) := by clear core; unfold sgR; omega
    refine ⟨-1, r p - 49, core _ _ (Or.inr ⟨rfl, fun h => ?_, Or.inl ⟨rfl, by clear core; omega, hmk, hR, by clear core; omega⟩⟩) (by clear core; omega) (fun h h2 h3 => ?_), fun h => by clear core; omega, fun h => absurd h (by decide), fun _ => Or.inl hmk⟩
    · have h2 := h.2
      clear core
      unfold sgF at h2
      unfold sgR at hR
      omega
    · have h4 := hx0 h
      clear core
      rw [show x - 1 = p by omega] at h3
      unfold sgR at hR
      omega
  · have e1 : q = p + 1 ∧ r p = 97 + mf % 8 := by
      rcases hq with ⟨-, h⟩ | ⟨h, -⟩
      · exact h
      · exact absurd rfl h
    have e2 : s = p + 2 ∧ r (p + 1) = 49 + mf / 8 := by
      rcases hs with ⟨-, h⟩ | ⟨h, -⟩
      · rw [e1.1] at h; exact ⟨by have := h.1; clear core; omega, h.2⟩
      · exact absurd (by decide) h
    have hmk := ha2 (by decide)
    clear hq hs ha0 ha2
    have hF : sgF (r p) := by clear core; unfold sgF; omega
    have hR : sgR (r (p + 1)) := by clear core; unfold sgR; omega
    refine ⟨r p - 97, r (p + 1) - 49, core _ _ (Or.inl ⟨rfl, by clear core; omega, hF, Or.inl ⟨rfl, by clear core; omega, hmk, hR, by clear core; omega⟩⟩) (by clear core; omega) (fun h h2 h3 => ?_), fun h => by clear core; omega, fun h => by clear core; omega, fun _ => Or.inl hmk⟩
    have h4 := hx0 h
    clear core
    rw [show x - 1 = p + 1 by omega] at h3
    unfold sgR at hR
    omega
/-- signs without one of check: what the class takes out and fits is what the reference spells -/
theorem sg_1 {r : Int → Int} {n mk mf mt mb mc : Int} {mt' : Prop} (f0 : 0 ≤ mf) (f1 : mf ≤ 63) (t0 : 0 ≤ mt) (t1 : mt ≤ 63) (hk : 1 ≤ mk ∧ mk ≤ 6) (hb : mb = 0 ∨ (mk = 1 ∧ 2 ≤ mb ∧ mb ≤ 5)) (hc : mc = 0 ∨ ((mc = 2 ∨ mc = -2) ∧ mk = 6 ∧ ¬ mt')) (hp : mk = 1 → (mt' ↔ ¬ mf % 8 = mt % 8)) : (∃ kd file rank to bc ca tk, sgP1 r n kd file rank to bc ca tk ∧ sgM kd file rank to bc ca tk mk mf mt mb mc mt') ↔ ∃ ap, sgX r n mk mf mt mb mc ap mt' := by
  constructor
  · rintro ⟨kd, file, rank, to, bc, ca, tk, hP, rfl, hM, hT⟩
    rcases hP with ⟨h, e1, rfl, rfl⟩ | ⟨h0, h, e1, rfl, rfl⟩ | ⟨h0, h1, rfl, hkd, hP⟩
    · rcases hM with ⟨-, hM⟩ | ⟨hM, -⟩
      · exact ⟨0, Or.inl ⟨hM, rfl, h⟩⟩
      · omega
    · rcases hM with ⟨-, hM⟩ | ⟨hM, -⟩
      · exact ⟨0, Or.inr (Or.inl ⟨hM, rfl, h⟩)⟩
      · omega
    · rcases hM with ⟨hM, -⟩ | ⟨-, hM, rfl, rfl, hrk, hfl, hfn⟩
      · exact absurd rfl hM
      -- n2: where the square ends; z: how many signs stand behind it
      have main : ∀ n2 fi : Int, sgS r n2 fi mk file rank to tk → ((mk = 1 ∧ fi = 0) ∨ (¬ mk = 1 ∧ fi = 1 ∧ r 0 = sgL mk)) → ((0 < bc ∧ n = n2 + 2 ∧ r n2 = 61 ∧ r (n2 + 1) = sgL bc) ∨ (¬ 0 < bc ∧ n = n2)) → ∃ ap, sgX r n mk mf to bc mc ap mt' := by
        rintro n2 fi ⟨s1, s2, s3, s4, s5, s6⟩ hfi hbc
        unfold sgF at s2
        unfold sgR at s3
        have hto : r (n2 - 2) = 97 + to % 8 ∧ r (n2 - 1) = 49 + to / 8 := by omega
        have htk : (mt' ∧ tk = 1 ∧ r (n2 - 3) = 120) ∨ (¬ mt' ∧ tk = 0) := by
          rcases s5 with ⟨s5, -, s7⟩ | ⟨s5, -⟩
          · exact Or.inl ⟨hT.mp s5, s5, s7⟩
          · exact Or.inr ⟨fun h => by have := hT.mpr h; omega, s5⟩
        have fin : ∀ ap q s : Int, 0 ≤ ap → ap ≤ 3 → (¬ mk = 1 ∨ ap = 1 ∨ (ap = 0 ∧ ¬ mt')) → ((ap % 2 = 1 ∧ q = fi + 1 ∧ r fi = 97 + mf % 8) ∨ (¬ ap % 2 = 1 ∧ q = fi)) → ((1 < ap ∧ s = q + 1 ∧ r q = 49 + mf / 8) ∨ (¬ 1 < ap ∧ s = q)) → s = n2 - 2 - tk → ∃ ap, sgX r n mk mf to bc mc ap mt' := by
          intro ap q s a0 a1 a2 a3 a4 a5
          refine ⟨ap, Or.inr (Or.inr ⟨hM, a0, a1, a2, fi, q, s, n2 - 2, hfi, a3, a4, ?_, hto.1, ?_, ?_⟩)⟩
          · rcases htk with ⟨h1, h2, h3⟩ | ⟨h1, h2⟩
            · refine Or.inl ⟨h1, by omega, ?_⟩
              rw [show s = n2 - 3 by omega]; exact h3
            · exact Or.inr ⟨h1, by omega⟩
          · rw [show n2 - 2 + 1 = n2 - 1 by omega]; exact hto.2
          · rcases hbc with ⟨h1, h2, h3, h4⟩ | ⟨h1, h2⟩
            · refine Or.inl ⟨h1, by omega, ?_, ?_⟩
              · rw [show n2 - 2 + 2 = n2 by omega]; exact h3
              · rw [show n2 - 2 + 3 = n2 + 1 by omega]; exact h4
            · exact Or.inr ⟨h1, by omega⟩
        rcases s6 with ⟨e1, e2, e3, ⟨e4, e5, e6, e7, e8⟩ | ⟨e4, e5, e6⟩⟩ | ⟨e1, e2, ⟨e4, e5, e6, e7, e8⟩ | ⟨e4, e5, e6⟩⟩
        · unfold sgF at e3
          unfold sgR at e7
          have q1 := hfl (by omega)
          have q2 := hrk (by omega)
          exact fin 3 (fi + 1) (fi + 2) (by omega) (by omega) (Or.inl e6) (Or.inl ⟨by decide, rfl, by omega⟩) (Or.inl ⟨by omega, by omega, by omega⟩) (by omega)
        · unfold sgF at e3
          have q1 := hfl (by omega)
          exact fin 1 (fi + 1) (fi + 1) (by omega) (by omega) (Or.inr (Or.inl rfl)) (Or.inl ⟨by decide, rfl, by omega⟩) (Or.inr ⟨by omega, rfl⟩) (by omega)
        · unfold sgR at e7
          have q2 := hrk (by omega)
          exact fin 2 fi (fi + 1) (by omega) (by omega) (Or.inl e6) (Or.inr ⟨by decide, rfl⟩) (Or.inl ⟨by omega, by omega, by omega⟩) (by omega)
        · refine fin 0 fi fi (by omega) (by omega) ?_ (Or.inr ⟨by decide, rfl⟩) (Or.inr ⟨by omega, rfl⟩) (by omega)
          rcases hfn (by omega) with h | h
          · exact Or.inl h
          · by_cases c : mk = 1
            · exact Or.inr (Or.inr ⟨rfl, fun hh => (hp c).mp hh h⟩)
            · exact Or.inl c
      rcases hP with ⟨k1, k2, k3, k4, k5, k6, hS⟩ | ⟨k1, k2, hS⟩
      · refine main (n - 2) 0 hS (Or.inl ⟨k1, rfl⟩) (Or.inl ⟨by omega, by omega, k3, ?_⟩)
        rw [show n - 2 + 1 = n - 1 by omega]
        exact sg_KL k4.symm ⟨k5, by omega⟩
      · by_cases c : mk = 1
        · rw [if_pos c] at hS
          exact main n 0 hS (Or.inl ⟨c, rfl⟩) (Or.inr ⟨by omega, rfl⟩)
        · rw [if_neg c] at hS
          refine main n 1 hS (Or.inr ⟨c, rfl, ?_⟩) (Or.inr ⟨by omega, rfl⟩)
          have hn : 0 < n := by have := hS.1; omega
          rw [if_pos hn] at hkd
          exact sg_KL hkd.symm ⟨by omega, hk.2⟩
  · rintro ⟨ap, hX⟩
    rcases hX with ⟨h1, -, h2⟩ | ⟨h1, -, h2⟩ | ⟨h1, a0, a1, a2, p, q, s, x, hp1, hq, hs, hx, r1, r2, hn⟩
    · have hm : mk = 6 ∧ ¬ mt' := by
        rcases hc with hc | hc
        · omega
        · exact hc.2
      exact ⟨6, -1, -1, 0, 0, 2, 0, Or.inl ⟨h2, rfl, rfl, rfl⟩, hm.1, Or.inl ⟨by omega, h1⟩, ⟨fun h => by omega, fun h => absurd h hm.2⟩⟩
    · have hm : mk = 6 ∧ ¬ mt' := by
        rcases hc with hc | hc
        · omega
        · exact hc.2
      refine ⟨6, -1, -1, 0, 0, -2, 0, Or.inr (Or.inl ⟨fun h => ?_, h2, rfl, rfl, rfl⟩), hm.1, Or.inl ⟨by omega, h1⟩, ⟨fun h => by omega, fun h => absurd h hm.2⟩⟩
      have := h.1
      have := h2.1
      omega
    · have hL := sg_Lr mk
      -- tk: 1 if it takes
      have htk : ∃ tk : Int, ((tk = 1 ∧ mt' ∧ x = s + 1 ∧ r s = 120) ∨ (tk = 0 ∧ ¬ mt' ∧ x = s)) := by
        rcases hx with ⟨h1, h2, h3⟩ | ⟨h1, h2⟩
        · exact ⟨1, Or.inl ⟨rfl, h1, h2, h3⟩⟩
        · exact ⟨0, Or.inr ⟨rfl, h1, h2⟩⟩
      obtain ⟨tk, htk⟩ := htk
      have htk2 : tk = 1 ↔ mt' := by
        rcases htk with ⟨h1, h2, -⟩ | ⟨h1, h2, -⟩
        · exact ⟨fun _ => h2, fun _ => h1⟩
        · exact ⟨fun h => by omega, fun h => absurd h h2⟩
      have hSt : ∃ file rank : Int, sgS r (x + 2) p mk file rank mt tk ∧ (0 ≤ rank → mf / 8 = rank) ∧ (0 ≤ file → mf % 8 = file) ∧ (file < 0 → ¬ mk = 1 ∨ mf % 8 = mt % 8) := by
        refine sg_S f0 f1 t0 t1 a0 a1 r1 r2 ?_ hq hs (fun e => ?_) (fun e => ?_)
        · rcases htk with ⟨h1, -, h3, h4⟩ | ⟨h1, -, h3⟩
          · exact Or.inl ⟨h1, h3, h4⟩
          · exact Or.inr ⟨h1, h3⟩
        · rcases a2 with a2 | a2 | a2
          · exact Or.inl a2
          · exact absurd (e.symm.trans a2) (by decide)
          · by_cases c : mk = 1
            · refine Or.inr ?_
              by_cases cf : mf % 8 = mt % 8
              · exact cf
              · exact absurd ((hp c).mpr cf) a2.2
            · exact Or.inl c
        · rcases a2 with a2 | a2 | a2
          · exact a2
          · rw [a2] at e; exact absurd e (by decide)
          · rw [a2.1] at e; exact absurd e (by decide)
      obtain ⟨file, rank, hS, m1, m2, m3⟩ := hSt
      have hmb : ¬ 0 < mb → mb = 0 := fun h => by
        rcases hb with hb | hb
        · exact hb
        · exact absurd (Int.lt_of_lt_of_le (by decide) hb.2.1) h
      have hsq : mk = 1 → s = q := fun h => by
        rcases hs with ⟨h1, -⟩ | ⟨-, h1⟩
        · rcases a2 with a2 | a2 | a2
          · exact absurd h a2
          · rw [a2] at h1; exact absurd h1 (by decide)
          · rw [a2.1] at h1; exact absurd h1 (by decide)
        · exact h1
      have hpx : 0 ≤ p ∧ p ≤ x := by
        clear hS m1 m2 m3 a2 hb hc hp htk2 hn hL
        rcases hp1 with ⟨-, e⟩ | ⟨-, e, -⟩ <;> rcases hq with ⟨-, e2, -⟩ | ⟨-, e2⟩ <;> rcases hs with ⟨-, e3, -⟩ | ⟨-, e3⟩ <;> rcases htk with ⟨-, -, e4, -⟩ | ⟨-, -, e4⟩ <;> omega
      -- the first sign: a letter of a piece, or a file, or x's file
      have h0 : (¬ mk = 1 ∧ r 0 = sgL mk) ∨ (mk = 1 ∧ sgF (r 0)) := by
        rcases hp1 with ⟨h, e⟩ | ⟨h, -, e⟩
        · refine Or.inr ⟨h, ?_⟩
          subst e
          unfold sgF
          have e2 : s = q := hsq h
          rcases hq with ⟨-, -, hq⟩ | ⟨hq1, hq⟩
          · rw [hq]
            exact sg_m8 mf
          · have : x = 0 := by
              rcases htk with ⟨-, h2, -⟩ | ⟨-, -, h3⟩
              · rcases a2 with a2 | a2 | a2
                · exact absurd h a2
                · rw [a2] at hq1; exact absurd rfl hq1
                · exact absurd h2 a2.2
              · exact h3.trans (e2.trans hq)
            rw [this] at r1
            rw [r1]
            exact sg_m8 mt
        · exact Or.inl ⟨h, e⟩
      have nO : ¬ r 0 = 79 := by
        rcases h0 with ⟨-, h⟩ | ⟨-, h⟩
        · rw [h]
          exact sg_n79 mk
        · exact sg_Fn h
      have hK : sgK (r 0) = mk := by
        rcases h0 with ⟨h, e⟩ | ⟨h, e⟩
        · rw [e]; exact sg_LK ⟨sg_ge h hk, hk.2⟩
        · rw [h]; exact sg_Kn (Or.inl e)
      have hn0 : 0 < n := by
        rcases hn with ⟨-, e, -⟩ | ⟨-, e⟩
        · exact sg_n4 e (Int.le_trans hpx.1 hpx.2)
        · exact sg_n2 e (Int.le_trans hpx.1 hpx.2)
      have hx0 : 0 ≤ x := Int.le_trans hpx.1 hpx.2
      clear hq hs hx htk a2 hc hp hsq hpx h0
      refine ⟨mk, file, rank, mt, mb, 0, tk, Or.inr (Or.inr ⟨fun h => nO h.2.1, fun h => nO h.2.1, rfl, by rw [if_pos hn0]; exact hK.symm, ?_⟩), rfl, Or.inr ⟨rfl, h1, rfl, rfl, m1, m2, m3⟩, htk2⟩
      rcases hn with ⟨n1, n2, n3, n4⟩ | ⟨n1, n2⟩
      · have hb2 : mk = 1 ∧ 2 ≤ mb ∧ mb ≤ 5 := by
          rcases hb with hb | hb
          · rw [hb] at n1; exact absurd n1 (by decide)
          · exact hb
        clear hb
        refine Or.inl ⟨hb2.1, by omega, by rw [show n - 2 = x + 2 by omega]; exact n3, by rw [show n - 1 = x + 3 by omega, n4]; exact (sg_LK ⟨hb2.2.1, by omega⟩).symm, hb2.2.1, hb2.2.2, ?_⟩
        rw [show n - 2 = x + 2 by omega]
        rcases hp1 with ⟨-, e⟩ | ⟨e, -⟩
        · rw [e] at hS; exact hS
        · exact absurd hb2.1 e
      · refine Or.inr ⟨fun h => ?_, hmb n1, ?_⟩
        all_goals clear hb hmb
        · have h3 := h.2.2
          rw [show n - 2 = x by omega] at h3
          omega
        · rw [n2]
          rcases hp1 with ⟨e, e2⟩ | ⟨e, e2, -⟩
          · rw [if_pos e]; rw [e2] at hS; exact hS
          · rw [if_neg e]; rw [e2] at hS; exact hS
/-- no spelling ends with a sign of check -/
theorem sg_2 {r : Int → Int} {n mk mf mt mb mc ap : Int} {mt' : Prop} (t0 : 0 ≤ mt) (t1 : mt ≤ 63) (h : sgX r n mk mf mt mb mc ap mt') : ¬ sgE r n := by
  rintro ⟨h0, h1⟩
  rcases h with ⟨-, -, h⟩ | ⟨-, -, h⟩ | ⟨-, -, -, -, p, q, s, x, -, -, -, -, r1, r2, h⟩
  · obtain ⟨rfl, -, -, e⟩ := h
    rw [show (3 : Int) - 1 = 2 by decide] at h1
    omega
  · obtain ⟨rfl, -, -, -, -, e⟩ := h
    rw [show (5 : Int) - 1 = 4 by decide] at h1
    omega
  · rcases h with ⟨-, e, -, e2⟩ | ⟨-, e⟩
    · rw [show n - 1 = x + 3 by omega] at h1
      have := sg_Lr mb
      omega
    · rw [show n - 1 = x + 1 by omega] at h1
      omega
/-- the class's fit is the reference's -/
theorem sg_3 {r : Int → Int} {n mk mf mt mb mc ck : Int} {mt' : Prop} (f0 : 0 ≤ mf) (f1 : mf ≤ 63) (t0 : 0 ≤ mt) (t1 : mt ≤ 63) (hk : 1 ≤ mk ∧ mk ≤ 6) (hb : mb = 0 ∨ (mk = 1 ∧ 2 ≤ mb ∧ mb ≤ 5)) (hc : mc = 0 ∨ ((mc = 2 ∨ mc = -2) ∧ mk = 6 ∧ ¬ mt')) (hp : mk = 1 → (mt' ↔ ¬ mf % 8 = mt % 8)) : sgC r n mk mf mt mb mc ck mt' ↔ sgT r n mk mf mt mb mc ck mt' := by
  constructor
  · rintro ⟨kd, file, rank, to, bc, ca, tk, ⟨h1, h2, h3, h4⟩ | ⟨h1, h3, h4⟩⟩
    · obtain ⟨ap, h5⟩ := (sg_1 f0 f1 t0 t1 hk hb hc hp).mp ⟨kd, file, rank, to, bc, ca, tk, h3, h4⟩
      exact ⟨ap, Or.inr ⟨h1, h2, h5⟩⟩
    · obtain ⟨ap, h5⟩ := (sg_1 f0 f1 t0 t1 hk hb hc hp).mp ⟨kd, file, rank, to, bc, ca, tk, h3, h4⟩
      exact ⟨ap, Or.inl h5⟩
  · rintro ⟨ap, h | ⟨h1, h2, h⟩⟩
    · obtain ⟨kd, file, rank, to, bc, ca, tk, h3, h4⟩ := (sg_1 f0 f1 t0 t1 hk hb hc hp).mpr ⟨ap, h⟩
      exact ⟨kd, file, rank, to, bc, ca, tk, Or.inr ⟨sg_2 t0 t1 h, h3, h4⟩⟩
    · obtain ⟨kd, file, rank, to, bc, ca, tk, h3, h4⟩ := (sg_1 f0 f1 t0 t1 hk hb hc hp).mpr ⟨ap, h⟩
      exact ⟨kd, file, rank, to, bc, ca, tk, Or.inl ⟨h1, h2, h3, h4⟩⟩
end
