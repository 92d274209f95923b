section
noncomputable def y_GA_goTo : jY := (⟨"ChessHouse$Game", "goTo", "(I)V"⟩, prog_7_method_9_code, 6, none)
theorem m_GA_goTo : jmth lw_tbl y_GA_goTo 1 := ⟨jTA_in (wi := 1277) (jtF_ok rfl) rfl, jTA_in (wi := 311) (jtF_ok rfl) rfl, by decide, by decide, by decide +kernel⟩
theorem i_GA_goTo : Jvm.Cond.instanceMethod y_GA_goTo.1 ∈ jTA lw_tbl := jTA_in (wi := 1275) (jtF_ok rfl) rfl
theorem e_GA_goTo : Jvm.Cond.selects y_GA_goTo.1.cls y_GA_goTo.1 y_GA_goTo.1 ∈ jTA lw_tbl := jTA_in (wi := 1276) (jtF_ok rfl) rfl
noncomputable def ak_ZGAgo33 : List jI := [(.iconst 0, 1, (0, 0, 0, 0, 0)), (.istore_n 2, 1, (2, 0, 0, 0, 0)), (.iload_n 2, 1, (2, 0, 0, 0, 0)), (.sipush 300, 3, (0, 0, 0, 300, 0)), (.if_icmp .ge 20, 3, (26, 0, 0, 0, 0)), (.aload_n 0, 1, (0, 0, 0, 0, 0)), (.getfield 71, 3, (9, 2, 730, 0, 0)), (.ifCond .eq 13, 3, (26, 0, 0, 0, 0)), (.aload_n 0, 1, (0, 0, 0, 0, 0)), (.invokevirtual 113, 3, (0, 0, 1278, 0, 0)), (.iinc 2 1, 3, (0, 0, 0, 1, 0)), (.goto (-21), 3, (2, 0, 0, 0, 0)), (.iconst 0, 1, (0, 0, 0, 0, 0)), (.istore_n 2, 1, (2, 0, 0, 0, 0)), (.iload_n 1, 1, (1, 0, 0, 0, 0)), (.istore_n 3, 1, (3, 0, 0, 0, 0)), (.iload_n 3, 1, (3, 0, 0, 0, 0)), (.ifCond .eq 30, 3, (61, 0, 0, 0, 0)), (.iload_n 2, 1, (2, 0, 0, 0, 0)), (.sipush 300, 3, (0, 0, 0, 300, 0)), (.if_icmp .ge 23, 3, (61, 0, 0, 0, 0)), (.aload_n 0, 1, (0, 0, 0, 0, 0)), (.getfield 49, 3, (9, 12, 757, 0, 0)), (.iload_n 2, 1, (2, 0, 0, 0, 0)), (.iload_n 3, 1, (3, 0, 0, 0, 0)), (.iastore, 1, (0, 0, 0, 0, 0)), (.iinc 2 1, 3, (0, 0, 0, 1, 0)), (.aload_n 0, 1, (0, 0, 0, 0, 0)), (.getfield 18, 3, (9, 3, 733, 0, 0)), (.iload_n 3, 1, (3, 0, 0, 0, 0)), (.iaload, 1, (0, 0, 0, 0, 0)), (.istore_n 3, 1, (3, 0, 0, 0, 0)), (.goto (-28), 3, (30, 0, 0, 0, 0)), (.iload_n 2, 1, (2, 0, 0, 0, 0)), (.iconst 1, 1, (0, 0, 0, 1, 0)), (.isub, 1, (0, 0, 0, 0, 0)), (.istore 4, 2, (4, 0, 0, 0, 0)), (.iload 4, 2, (4, 0, 0, 0, 0)), (.ifCond .lt 52, 3, (120, 0, 0, 0, 0)), (.aload_n 0, 1, (0, 0, 0, 0, 0)), (.getfield 49, 3, (9, 12, 757, 0, 0)), (.iload 4, 2, (4, 0, 0, 0, 0)), (.iaload, 1, (0, 0, 0, 0, 0)), (.istore 5, 2, (5, 0, 0, 0, 0)), (.aload_n 0, 1, (0, 0, 0, 0, 0)), (.getfield 12, 3, (9, 0, 722, 0, 0)), (.invokevirtual 92, 3, (1, 0, 1294, 0, 0)), (.aload_n 0, 1, (0, 0, 0, 0, 0)), (.getfield 31, 3, (9, 7, 745, 0, 0)), (.iload 5, 2, (5, 0, 0, 0, 0)), (.aload_n 0, 1, (0, 0, 0, 0, 0)), (.getfield 12, 3, (9, 0, 722, 0, 0)), (.aload_n 0, 1, (0, 0, 0, 0, 0)), (.getfield 22, 3, (9, 4, 736, 0, 0)), (.iload 5, 2, (5, 0, 0, 0, 0)), (.iaload, 1, (0, 0, 0, 0, 0)), (.invokevirtual 95, 3, (2, 0, 1303, 0, 0)), (.lastore, 1, (0, 0, 0, 0, 0)), (.aload_n 0, 1, (0, 0, 0, 0, 0)), (.iload 5, 2, (5, 0, 0, 0, 0)), (.putfield 71, 3, (9, 2, 730, 0, 0)), (.iinc 4 (-1), 3, (0, 0, 0, (-1), 0)), (.goto (-51), 3, (66, 0, 0, 0, 0)), (.return_, 1, (0, 0, 0, 0, 0))]
theorem ao_ZGAgo33 : jokLG jtF lk_GA "ChessHouse$Game" jcl jtb 6 prog_7_method_9_code 0 ak_ZGAgo33 = true := by decide +kernel
noncomputable def zm_GAgo33 : zM := (none, { frames := 4, cells := 0, slots := 0, locals := 140 }, ([(113, 1278, 0), (92, 1294, 1), (95, 1303, 2)], []), [(y_GA_up, false, 1, 9, { frames := 2, cells := 0, slots := 0, locals := 50 }, zc_GAup33), (y_BO_remember, false, 1, 10, { frames := 3, cells := 0, slots := 0, locals := 120 }, zc_BOrem34), (y_BO_make, false, 2, 10, { frames := 1, cells := 0, slots := 0, locals := 24 }, zc_BOmak34)], ak_ZGAgo33)
noncomputable def zc_GAgo33 (vals : List zv) (W : zW) (post : zPo) : Prop := ∃ w : Int, ∃ T : xT, ∃ h : Int, vals = [.inr (.inr (some (.inl 33))), .inl (w)] ∧ (yTo T ∧ yGt W 33 T ∧ yHg W 33 T h ∧ (0 ≤ w ∧ w ≤ T.2.1)) ∧ ∀ V : zW, (zFy [(34, 2), (34, 3), (34, 4), (34, 5), (34, 6), (34, 16), (33, 2)] [35, 36, 38, 39, 40, 45, 55] [37, 44, 50] W V ∧ yHg V 33 T w) → post none V
set_option maxRecDepth 8000 in
theorem zp_GAgo33_0 {n K : Nat} {W : zW} {post : zPo} {w : Int} {u2 u3 u4 u5 : Option zv} (hK : 2 ≤ K) (hn : 142 ≤ n) (h : zwp jtb zsh n zm_GAgo33 post (K - 2) (lGo ak_ZGAgo33 2) 2 [some (.inr (.inr (some (.inl 33)))), some (.inl (w)), some (.inl (0)), u3, u4, u5] [] W) : zwp jtb zsh n zm_GAgo33 post K (lGo ak_ZGAgo33 0) 0 [some (.inr (.inr (some (.inl 33)))), some (.inl (w)), u2, u3, u4, u5] [] W := by
  obtain ⟨kk__, rfl⟩ : ∃ kk__, K = kk__ + 2 := ⟨K - 2, by omega⟩
  exact (show zwp jtb zsh n zm_GAgo33 post (kk__ + 0) (lGo ak_ZGAgo33 2) 2 [some (.inr (.inr (some (.inl 33)))), some (.inl (w)), some (.inl (0)), u3, u4, u5] [] W from h)
set_option maxRecDepth 8000 in
theorem zp_GAgo33_2 {n K : Nat} {V : zW} {post : zPo} {w i : Int} {u3 u4 u5 : Option zv} (hK : 10 ≤ K) (hn : 142 ≤ n) (h : (300 ≤ i → zwp jtb zsh n zm_GAgo33 post (K - 7) (lGo ak_ZGAgo33 30) 30 [some (.inr (.inr (some (.inl 33)))), some (.inl (w)), some (.inl (0)), some (.inl (w)), u4, u5] [] V) ∧ (¬ 300 ≤ i → ((V.1 33 2) = 0 → zwp jtb zsh n zm_GAgo33 post (K - 10) (lGo ak_ZGAgo33 30) 30 [some (.inr (.inr (some (.inl 33)))), some (.inl (w)), some (.inl (0)), some (.inl (w)), u4, u5] [] V) ∧ (¬ (V.1 33 2) = 0 → ∃ T17 : xT, ∃ h17 : Int, (yTo T17 ∧ yGt V 33 T17 ∧ yHg V 33 T17 h17 ∧ 1 ≤ h17) ∧ ∀ W17 : zW, (zFy [(34, 2), (34, 3), (34, 4), (34, 5), (34, 6), (34, 16), (33, 2)] [35, 36, 38, 39, 40] [37] V W17 ∧ yHg W17 33 T17 (T17.2.2.1 h17)) → (-2147483648 ≤ i + 1 ∧ i + 1 ≤ 2147483647) ∧ zwp jtb zsh n zm_GAgo33 post (K - 10) (lGo ak_ZGAgo33 2) 2 [some (.inr (.inr (some (.inl 33)))), some (.inl (w)), some (.inl (i + 1)), u3, u4, u5] [] W17))) : zwp jtb zsh n zm_GAgo33 post K (lGo ak_ZGAgo33 2) 2 [some (.inr (.inr (some (.inl 33)))), some (.inl (w)), some (.inl (i)), u3, u4, u5] [] V := by
  obtain ⟨kk__, rfl⟩ : ∃ kk__, K = kk__ + 10 := ⟨K - 10, by omega⟩
  exact (show (300 ≤ i → zwp jtb zsh n zm_GAgo33 post (kk__ + 3) (lGo ak_ZGAgo33 30) 30 [some (.inr (.inr (some (.inl 33)))), some (.inl (w)), some (.inl (0)), some (.inl (w)), u4, u5] [] V) ∧ (¬ 300 ≤ i → 33 < n ∧ 9 = 9 ∧ ((V.1 33 2) = 0 → zwp jtb zsh n zm_GAgo33 post (kk__ + 0) (lGo ak_ZGAgo33 30) 30 [some (.inr (.inr (some (.inl 33)))), some (.inl (w)), some (.inl (0)), some (.inl (w)), u4, u5] [] V) ∧ (¬ (V.1 33 2) = 0 → 3 = 3 ∧ false = false ∧ jin3 113 1278 0 zm_GAgo33.2.2.1.1 = true ∧ lRm zm_GAgo33.2.1 { frames := 2, cells := 0, slots := 0, locals := 50 } 1 = true ∧ Nat.ble 1 1 = true ∧ Nat.ble 0 8 = true ∧ 33 < n ∧ 9 = 9 ∧ Nat.ble 1000 9 = false ∧ zc_GAup33 [.inr (.inr (some (.inl 33)))] V (fun vv__ WW__ => zwp jtb zsh n zm_GAgo33 post (kk__ + 2) (lGo ak_ZGAgo33 20) 20 [some (.inr (.inr (some (.inl 33)))), some (.inl (w)), some (.inl (i)), u3, u4, u5] (vv__.toList ++ []) WW__))) from ⟨fun c6_2 => ((h).1 c6_2), fun c6_2 => ⟨(Nat.lt_of_lt_of_le (by decide) hn), rfl, ⟨fun c13_5 => ((((h).2 c6_2)).1 c13_5), fun c13_5 => (Exists.elim (((((h).2 c6_2)).2 c13_5)) (fun T17 gx17_0 => Exists.elim gx17_0  (fun h17 gh17 => ⟨rfl, rfl, rfl, rfl, rfl, rfl, (Nat.lt_of_lt_of_le (by decide) hn), rfl, rfl, T17, h17, rfl, (gh17).1, fun W17 hr17 => (show (-2147483648 ≤ i + 1 ∧ i + 1 ≤ 2147483647) ∧ zwp jtb zsh n zm_GAgo33 post (kk__ + 0) (lGo ak_ZGAgo33 2) 2 [some (.inr (.inr (some (.inl 33)))), some (.inl (w)), some (.inl (i + 1)), u3, u4, u5] [] W17 from ⟨(((gh17).2 W17 hr17)).1, (((gh17).2 W17 hr17)).2⟩)⟩)))⟩⟩⟩)
set_option maxRecDepth 8000 in
theorem zp_GAgo33_30 {n K : Nat} {V : zW} {post : zPo} {w l a : Int} {u4 u5 : Option zv} (hK : 17 ≤ K) (hn : 142 ≤ n) (h : (a = 0 → (-2147483648 ≤ l - 1 ∧ l - 1 ≤ 2147483647) ∧ zwp jtb zsh n zm_GAgo33 post (K - 6) (lGo ak_ZGAgo33 66) 66 [some (.inr (.inr (some (.inl 33)))), some (.inl (w)), some (.inl (l)), some (.inl (a)), some (.inl (l - 1)), u5] [] V) ∧ (¬ a = 0 → (300 ≤ l → (-2147483648 ≤ l - 1 ∧ l - 1 ≤ 2147483647) ∧ zwp jtb zsh n zm_GAgo33 post (K - 9) (lGo ak_ZGAgo33 66) 66 [some (.inr (.inr (some (.inl 33)))), some (.inl (w)), some (.inl (l)), some (.inl (a)), some (.inl (l - 1)), u5] [] V) ∧ (¬ 300 ≤ l → (0 ≤ l ∧ l < 301) ∧ (-2147483648 ≤ l + 1 ∧ l + 1 ≤ 2147483647) ∧ (0 ≤ a ∧ a < 301) ∧ zwp jtb zsh n zm_GAgo33 post (K - 17) (lGo ak_ZGAgo33 30) 30 [some (.inr (.inr (some (.inl 33)))), some (.inl (w)), some (.inl (l + 1)), some (.inl (V.2.1 46 a)), u4, u5] [] (zuR V 55 l a)))) : zwp jtb zsh n zm_GAgo33 post K (lGo ak_ZGAgo33 30) 30 [some (.inr (.inr (some (.inl 33)))), some (.inl (w)), some (.inl (l)), some (.inl (a)), u4, u5] [] V := by
  obtain ⟨kk__, rfl⟩ : ∃ kk__, K = kk__ + 17 := ⟨K - 17, by omega⟩
  exact (show (a = 0 → (-2147483648 ≤ l - 1 ∧ l - 1 ≤ 2147483647) ∧ zwp jtb zsh n zm_GAgo33 post (kk__ + 11) (lGo ak_ZGAgo33 66) 66 [some (.inr (.inr (some (.inl 33)))), some (.inl (w)), some (.inl (l)), some (.inl (a)), some (.inl (l - 1)), u5] [] V) ∧ (¬ a = 0 → (300 ≤ l → (-2147483648 ≤ l - 1 ∧ l - 1 ≤ 2147483647) ∧ zwp jtb zsh n zm_GAgo33 post (kk__ + 8) (lGo ak_ZGAgo33 66) 66 [some (.inr (.inr (some (.inl 33)))), some (.inl (w)), some (.inl (l)), some (.inl (a)), some (.inl (l - 1)), u5] [] V) ∧ (¬ 300 ≤ l → 33 < n ∧ 9 = 9 ∧ 55 < n ∧ FieldType.int = FieldType.int ∧ (0 ≤ l ∧ l < 301) ∧ True ∧ (-2147483648 ≤ l + 1 ∧ l + 1 ≤ 2147483647) ∧ 33 < n ∧ 9 = 9 ∧ 46 < n ∧ FieldType.int = FieldType.int ∧ (0 ≤ a ∧ a < 301) ∧ zwp jtb zsh n zm_GAgo33 post (kk__ + 0) (lGo ak_ZGAgo33 30) 30 [some (.inr (.inr (some (.inl 33)))), some (.inl (w)), some (.inl (l + 1)), some (.inl (V.2.1 46 a)), u4, u5] [] (zuR V 55 l a))) from ⟨fun c31_1 => ⟨(((h).1 c31_1)).1, (((h).1 c31_1)).2⟩, fun c31_1 => ⟨fun c38_4 => (have h := ((((h).2 c31_1)).1 c38_4); ⟨(h).1, (h).2⟩), fun c38_4 => (have h := ((((h).2 c31_1)).2 c38_4); ⟨(Nat.lt_of_lt_of_le (by decide) hn), rfl, ⟨(Nat.lt_of_lt_of_le (by decide) hn), rfl, (h).1, trivial, ⟨((h).2).1, ⟨(Nat.lt_of_lt_of_le (by decide) hn), rfl, ⟨(Nat.lt_of_lt_of_le (by decide) hn), rfl, (((h).2).2).1, (((h).2).2).2⟩⟩⟩⟩⟩)⟩⟩)
set_option maxRecDepth 8000 in
theorem zp_GAgo33_66 {n K : Nat} {V : zW} {post : zPo} {w l a i : Int} {u5 : Option zv} (hK : 26 ≤ K) (hn : 142 ≤ n) (h : (i < 0 → post none V) ∧ (¬ i < 0 → (0 ≤ i ∧ i < 301) ∧ (zBg V 34 ∧ (0 ≤ V.1 34 16 ∧ V.1 34 16 ≤ 320)) ∧ ∀ W84 : zW, (zFy [(34, 16)] [45] [44] V W84 ∧ W84.1 34 16 = (if V.1 34 16 < 320 then V.1 34 16 + 1 else V.1 34 16)) → (0 ≤ (V.2.1 55 i) ∧ (V.2.1 55 i) < 301) ∧ ∃ q104 : rQ, (zBo W84 34 q104 ∧ zGd q104 ∧ cL q104 (W84.2.1 47 (V.2.1 55 i)) ∧ (-1000000 ≤ W84.1 34 6 ∧ W84.1 34 6 ≤ 1000000) ∧ (0 ≤ W84.1 34 5 ∧ W84.1 34 5 ≤ 1000000)) ∧ ∀ r104 : Int64, ∀ W104 : zW, (zMx 34 W84 W104 ∧ zBo W104 34 (rMk q104 (cMm (W84.2.1 47 (V.2.1 55 i)))) ∧ W104.1 34 6 = W84.1 34 6 + q104.2.1 ∧ cUd r104 (q104.1 (rWh q104 (cMm (W84.2.1 47 (V.2.1 55 i))))) q104.2.2.1 q104.2.2.2 ∧ (0 ≤ W104.1 34 5 ∧ W104.1 34 5 ≤ W84.1 34 5 + 1) ∧ cUk r104 (W84.1 34 5)) → (0 ≤ (V.2.1 55 i) ∧ (V.2.1 55 i) < 301) ∧ (-2147483648 ≤ i + (-1) ∧ i + (-1) ≤ 2147483647) ∧ zwp jtb zsh n zm_GAgo33 post (K - 26) (lGo ak_ZGAgo33 66) 66 [some (.inr (.inr (some (.inl 33)))), some (.inl (w)), some (.inl (l)), some (.inl (a)), some (.inl (i + (-1))), some (.inl (V.2.1 55 i))] [] (zuF (zuL W104 50 (V.2.1 55 i).toNat r104) 33 2 (V.2.1 55 i)))) : zwp jtb zsh n zm_GAgo33 post K (lGo ak_ZGAgo33 66) 66 [some (.inr (.inr (some (.inl 33)))), some (.inl (w)), some (.inl (l)), some (.inl (a)), some (.inl (i)), u5] [] V := by
  obtain ⟨kk__, rfl⟩ : ∃ kk__, K = kk__ + 26 := ⟨K - 26, by omega⟩
  exact (show (i < 0 → 1 = 1 ∧ (none : Option FieldType) = none ∧ post none V) ∧ (¬ i < 0 → 33 < n ∧ 9 = 9 ∧ 55 < n ∧ FieldType.int = FieldType.int ∧ (0 ≤ i ∧ i < 301) ∧ 33 < n ∧ 9 = 9 ∧ 3 = 3 ∧ false = false ∧ jin3 92 1294 1 zm_GAgo33.2.2.1.1 = true ∧ lRm zm_GAgo33.2.1 { frames := 3, cells := 0, slots := 0, locals := 120 } 1 = true ∧ Nat.ble 1 1 = true ∧ Nat.ble 0 8 = true ∧ 34 < n ∧ 10 = 10 ∧ Nat.ble 1000 10 = false ∧ zc_BOrem34 [.inr (.inr (some (.inl 34)))] V (fun vv__ WW__ => zwp jtb zsh n zm_GAgo33 post (kk__ + 16) (lGo ak_ZGAgo33 87) 87 [some (.inr (.inr (some (.inl 33)))), some (.inl (w)), some (.inl (l)), some (.inl (a)), some (.inl (i)), some (.inl (V.2.1 55 i))] (vv__.toList ++ []) WW__)) from ⟨fun c68_1 => ⟨rfl, rfl, ((h).1 c68_1)⟩, fun c68_1 => ⟨(Nat.lt_of_lt_of_le (by decide) hn), rfl, ⟨(Nat.lt_of_lt_of_le (by decide) hn), rfl, (((h).2 c68_1)).1, ⟨(Nat.lt_of_lt_of_le (by decide) hn), rfl, ⟨rfl, rfl, rfl, rfl, rfl, rfl, (Nat.lt_of_lt_of_le (by decide) hn), rfl, rfl, rfl, ((((h).2 c68_1)).2).1, fun W84 hr84 => (show 33 < n ∧ 9 = 9 ∧ 33 < n ∧ 9 = 9 ∧ 33 < n ∧ 9 = 9 ∧ 47 < n ∧ FieldType.int = FieldType.int ∧ (0 ≤ (V.2.1 55 i) ∧ (V.2.1 55 i) < 301) ∧ 3 = 3 ∧ false = false ∧ jin3 95 1303 2 zm_GAgo33.2.2.1.1 = true ∧ lRm zm_GAgo33.2.1 { frames := 1, cells := 0, slots := 0, locals := 24 } 11 = true ∧ Nat.ble 2 4 = true ∧ Nat.ble 2 8 = true ∧ 34 < n ∧ 10 = 10 ∧ Nat.ble 1000 10 = false ∧ zc_BOmak34 [.inr (.inr (some (.inl 34))), .inl (W84.2.1 47 (V.2.1 55 i))] W84 (fun vv__ WW__ => zwp jtb zsh n zm_GAgo33 post (kk__ + 6) (lGo ak_ZGAgo33 107) 107 [some (.inr (.inr (some (.inl 33)))), some (.inl (w)), some (.inl (l)), some (.inl (a)), some (.inl (i)), some (.inl (V.2.1 55 i))] (vv__.toList ++ [.inl (V.2.1 55 i), .inr (.inr (some (.inl 50)))]) WW__) from (have h := (((((h).2 c68_1)).2).2 W84 hr84); ⟨(Nat.lt_of_lt_of_le (by decide) hn), rfl, ⟨(Nat.lt_of_lt_of_le (by decide) hn), rfl, ⟨(Nat.lt_of_lt_of_le (by decide) hn), rfl, ⟨(Nat.lt_of_lt_of_le (by decide) hn), rfl, (h).1, (Exists.elim ((h).2) (fun q104 gh104 => ⟨rfl, rfl, rfl, rfl, rfl, rfl, (Nat.lt_of_lt_of_le (by decide) hn), rfl, rfl, W84.2.1 47 (V.2.1 55 i), q104, rfl, (gh104).1, fun r104 W104 hr104 => (show 50 < n ∧ (0 ≤ (V.2.1 55 i) ∧ (V.2.1 55 i) < 301) ∧ 33 < n ∧ 9 = 9 ∧ (some 0 : Option Nat) = some 0 ∧ ((0 : Nat) = 0 ∨ ((0 : Nat) = 1 ∧ ((V.2.1 55 i) = 0 ∨ (V.2.1 55 i) = 1))) ∧ (-2147483648 ≤ i + (-1) ∧ i + (-1) ≤ 2147483647) ∧ zwp jtb zsh n zm_GAgo33 post (kk__ + 0) (lGo ak_ZGAgo33 66) 66 [some (.inr (.inr (some (.inl 33)))), some (.inl (w)), some (.inl (l)), some (.inl (a)), some (.inl (i + (-1))), some (.inl (V.2.1 55 i))] [] (zuF (zuL W104 50 (V.2.1 55 i).toNat r104) 33 2 (V.2.1 55 i)) from (have h := ((gh104).2 r104 W104 hr104); ⟨(Nat.lt_of_lt_of_le (by decide) hn), (h).1, ⟨(Nat.lt_of_lt_of_le (by decide) hn), rfl, rfl, (Or.inl rfl), ⟨((h).2).1, ((h).2).2⟩⟩⟩))⟩))⟩⟩⟩⟩))⟩⟩⟩⟩⟩)
set_option maxRecDepth 100000 in
theorem zk_GAgo33 {l : Launch} {E : jE} {n : Nat} (hn : 142 ≤ n) : zHas l E jcl jtb lw_tbl zsh n (y_GA_goTo, false, 2, 9, { frames := 4, cells := 0, slots := 0, locals := 140 }, zc_GAgo33) := by
  refine ⟨⟨rfl, rfl, ⟨show 1 ≤ 2 by decide, m_GA_goTo, i_GA_goTo, e_GA_goTo, fun _ => ⟨_, rfl, rfl⟩⟩⟩, ?_⟩
  rintro vz W po hO hW ⟨w, T, h, rfl, hq, hp⟩
  refine zmet (m := zm_GAgo33) rfl (by decide) (fun _ _ => jtF_ok) lo_GA ao_ZGAgo33 jC (fun q h => by cases h) (aAllc (fun G h => by obtain rfl := Option.some.inj h; exact ql_GA_113) (aAllc (fun G h => by obtain rfl := Option.some.inj h; exact ql_GA_92) (aAllc (fun G h => by obtain rfl := Option.some.inj h; exact ql_GA_95) (fun q h => by cases h)))) (aAllc (zk_GAup33 hn) (aAllc (zk_BOrem34 hn) (aAllc (zk_BOmak34 hn) (fun q h => by cases h)))) (Nat.le_of_ble_eq_true rfl) hO hW (100000) ?_
  obtain ⟨hT, hG, hH, hw⟩ := hq
  have hN := hT.1.1
  have gV : ∀ {V : zW}, zFy [(34, 2), (34, 3), (34, 4), (34, 5), (34, 6), (34, 16), (33, 2)] [35, 36, 38, 39, 40, 45, 55] [37, 44, 50] W V → yGt V 33 T := fun h => yGt_x hG (zFy_f h 33 1) (zFy_r h 46) (zFy_r h 47) (zFy_r h 48) (zFy_r h 49) (zFy_r h 52)
  have h66 : ∀ ln : Nat, (∀ j : Nat, j < ln → 1 ≤ xUp T.2.2.1 w j) → ∀ (ii K : Nat) (V : zW) (l a i : Int) (u5 : Option zv), 100 * ii + 60 ≤ K → i = (ii : Int) - 1 → ii ≤ ln → zFy [(34, 2), (34, 3), (34, 4), (34, 5), (34, 6), (34, 16), (33, 2)] [35, 36, 38, 39, 40, 45, 55] [37, 44, 50] W V → (∀ j : Nat, j < ln → V.2.1 55 j = xUp T.2.2.1 w j) → yHg V 33 T (xUp T.2.2.1 w ii) → zwp jtb zsh n zm_GAgo33 po K (lGo ak_ZGAgo33 66) 66 [some (.inr (.inr (some (.inl 33)))), some (.inl (w)), some (.inl (l)), some (.inl (a)), some (.inl (i)), u5] [] V := by
    intro ln h1 ii
    induction ii with
    | zero =>
      intro K V l a i u5 hK ei hl hF hj hV
      exact zp_GAgo33_66 (by omega) hn ⟨fun c68 => (hp _ ⟨hF, hV⟩), fun z => absurd z (by omega)⟩
    | succ ii ih =>
      intro K V l a i u5 hK ei hl hF hj hV
      have ek : (V.2.1 55 i) = xUp T.2.2.1 w ii := by rw [show i = (ii : Int) by omega]; exact hj ii (by omega)
      have bb := xUp_b hT hw ii (fun j hj => h1 j (by omega))
      have b1 := h1 ii (by omega)
      have lb : xUp T.2.2.1 w ii ≤ T.2.1 := by omega
      have hpk := yTo_p hT (xUp T.2.2.1 w ii) b1 lb
      have hV : yHg V 33 T (T.2.2.1 (xUp T.2.2.1 w ii)) := hV
      have gq := yTo_k hT (k := T.2.2.1 (xUp T.2.2.1 w ii)) (by omega)
      have bq : zBo V 34 (yP T (T.2.2.1 (xUp T.2.2.1 w ii))).1 := hV.2.2.1
      have nq := yTo_n hT (k := T.2.2.1 (xUp T.2.2.1 w ii)) (by omega) (by omega)
      have v6 : V.1 34 6 = (yP T (T.2.2.1 (xUp T.2.2.1 w ii))).2 := hV.2.2.2.1
      have v5 : 0 ≤ V.1 34 5 ∧ V.1 34 5 ≤ 1000 + T.2.2.1 (xUp T.2.2.1 w ii) := hV.2.2.2.2.1
      have v16 : 0 ≤ V.1 34 16 ∧ V.1 34 16 ≤ 320 := hV.2.2.2.2.2.1
      have bv : zBv V 34 (yP T (T.2.2.1 (xUp T.2.2.1 w ii))).1 900000 := ⟨⟨bq, gq, by omega, by omega⟩, v16⟩
      have s0 : ∀ {A0 : zW}, (zFy [(34, 16)] [45] [44] V A0 ∧ A0.1 34 16 = (if V.1 34 16 < 320 then V.1 34 16 + 1 else V.1 34 16)) → zSv 34 V A0 (yP T (T.2.2.1 (xUp T.2.2.1 w ii))).1 0 := fun h => zRq_s h bv (by decide) _
      have mk : ∀ {A0 : zW}, (zFy [(34, 16)] [45] [44] V A0 ∧ A0.1 34 16 = (if V.1 34 16 < 320 then V.1 34 16 + 1 else V.1 34 16)) → zBo A0 34 (yP T (T.2.2.1 (xUp T.2.2.1 w ii))).1 ∧ zGd (yP T (T.2.2.1 (xUp T.2.2.1 w ii))).1 ∧ cL (yP T (T.2.2.1 (xUp T.2.2.1 w ii))).1 (A0.2.1 47 (V.2.1 55 i)) ∧ (-1000000 ≤ A0.1 34 6 ∧ A0.1 34 6 ≤ 1000000) ∧ (0 ≤ A0.1 34 5 ∧ A0.1 34 5 ≤ 1000000) := by
        intro A0 h
        have s := s0 h
        refine ⟨s.2.1, gq, ?_, by rw [s.2.2.2.1]; omega, by rw [s.2.2.1]; omega⟩
        rw [zFy_r h.1 47, ek]
        exact yGt_l hT (gV hF) b1 lb
      have nx : ∀ {A0 A : zW} {r : Int64}, (zFy [(34, 16)] [45] [44] V A0 ∧ A0.1 34 16 = (if V.1 34 16 < 320 then V.1 34 16 + 1 else V.1 34 16)) → (zMx 34 A0 A ∧ zBo A 34 (rMk (yP T (T.2.2.1 (xUp T.2.2.1 w ii))).1 (cMm (A0.2.1 47 (V.2.1 55 i)))) ∧ A.1 34 6 = A0.1 34 6 + (yP T (T.2.2.1 (xUp T.2.2.1 w ii))).1.2.1 ∧ cUd r ((yP T (T.2.2.1 (xUp T.2.2.1 w ii))).1.1 (rWh (yP T (T.2.2.1 (xUp T.2.2.1 w ii))).1 (cMm (A0.2.1 47 (V.2.1 55 i))))) (yP T (T.2.2.1 (xUp T.2.2.1 w ii))).1.2.2.1 (yP T (T.2.2.1 (xUp T.2.2.1 w ii))).1.2.2.2 ∧ (0 ≤ A.1 34 5 ∧ A.1 34 5 ≤ A0.1 34 5 + 1) ∧ cUk r (A0.1 34 5)) → zFy [(34, 2), (34, 3), (34, 4), (34, 5), (34, 6), (34, 16), (33, 2)] [35, 36, 38, 39, 40, 45, 55] [37, 44, 50] W (zuF (zuL A 50 (V.2.1 55 i).toNat r) 33 2 (V.2.1 55 i)) ∧ (∀ j : Nat, j < ln → (zuF (zuL A 50 (V.2.1 55 i).toNat r) 33 2 (V.2.1 55 i)).2.1 55 j = xUp T.2.2.1 w j) ∧ yHg (zuF (zuL A 50 (V.2.1 55 i).toNat r) 33 2 (V.2.1 55 i)) 33 T (xUp T.2.2.1 w ii) := by
        intro A0 A r h0 h2
        have s := s0 h0
        have em : cMm (A0.2.1 47 (V.2.1 55 i)) = T.2.2.2.1 (xUp T.2.2.1 w ii) := by rw [zFy_r h0.1 47, ek]; exact ((gV hF).2.1 _ b1 lb).2.2
        rw [em] at h2
        refine ⟨zFy_F (zFy_L (zFy_t (zFy_t hF (zFy_w h0.1 (by decide) (by decide) (by decide))) (zFy_w h2.1 (by decide) (by decide) (by decide))) (by decide)) (by decide), fun j hj2 => ?_, ?_⟩
        · show A.2.1 55 j = _
          rw [zFy_r h2.1 55, zFy_r h0.1 55]
          exact hj j hj2
        · rw [ek]
          refine yHg_d hT hV ⟨b1, lb⟩ rfl ?_ ?_ ?_ ?_ ?_ ?_ ?_ ?_
          · exact zBo_F (zBo_x h2.2.1 rfl rfl rfl rfl rfl rfl rfl rfl rfl rfl) (by decide)
          · show A.1 34 6 = _
            rw [h2.2.2.1, s.2.2.2.1]
          · show 0 ≤ A.1 34 5 ∧ A.1 34 5 ≤ V.1 34 5 + 1
            rw [← s.2.2.1]
            exact h2.2.2.2.2.1
          · show 0 ≤ A.1 34 16 ∧ A.1 34 16 ≤ 320
            rw [zFy_f h2.1 34 16]
            exact s.2.2.2.2.1
          · rw [zuF_1, if_pos ⟨rfl, rfl⟩]
          · show cUd ((zuL A 50 (xUp T.2.2.1 w ii).toNat r).2.2.1 50 (xUp T.2.2.1 w ii).toNat) _ _ _
            rw [zuL_s]
            exact h2.2.2.2.1
          · show cUk ((zuL A 50 (xUp T.2.2.1 w ii).toNat r).2.2.1 50 (xUp T.2.2.1 w ii).toNat) (V.1 34 5)
            rw [zuL_s, ← s.2.2.1]
            exact h2.2.2.2.2.2
          · intro j hj3
            show (zuL A 50 (xUp T.2.2.1 w ii).toNat r).2.2.1 50 j = V.2.2.1 50 j
            rw [zuL_n hj3, zFy_l h2.1 50, zFy_l h0.1 50]
      exact zp_GAgo33_66 (by omega) hn ⟨fun c68 => (absurd c68 (by omega)), fun c68 => ⟨(by omega), ⟨⟨zBo_g bq gq, hV.2.2.2.2.2.1⟩, fun W84 hr84 => ⟨(by omega), ⟨(yP T (T.2.2.1 (xUp T.2.2.1 w ii))).1, (mk hr84), fun r104 W104 hr104 => ⟨(by omega), ⟨(by omega), (ih _ _ _ _ _ _ (by omega) (by omega) (by omega) (nx hr84 hr104).1 (nx hr84 hr104).2.1 (nx hr84 hr104).2.2)⟩⟩⟩⟩⟩⟩⟩
  have h30 : ∀ (mm K : Nat) (V : zW) (ln : Nat) (l a : Int) (u4 u5 : Option zv), 100 * mm + 40000 ≤ K → l = (ln : Int) → a = xUp T.2.2.1 w ln → (300 - l < mm ∧ l ≤ 300) → zFy [(34, 2), (34, 3), (34, 4), (34, 5), (34, 6), (34, 16), (33, 2)] [35, 36, 38, 39, 40, 45, 55] [37, 44, 50] W V → yHg V 33 T 0 → (∀ j : Nat, j < ln → 1 ≤ xUp T.2.2.1 w j ∧ V.2.1 55 j = xUp T.2.2.1 w j) → zwp jtb zsh n zm_GAgo33 po K (lGo ak_ZGAgo33 30) 30 [some (.inr (.inr (some (.inl 33)))), some (.inl (w)), some (.inl (l)), some (.inl (a)), u4, u5] [] V := by
    intro mm
    induction mm with
    | zero => intro K V ln l a u4 u5 hK el ea h1; omega
    | succ mm ih =>
      intro K V ln l a u4 u5 hK el ea h1 hF hV pj
      have bnd : 0 ≤ a ∧ a + l ≤ w ∧ w ≤ 300 := by
        have := xUp_b hT hw ln (fun j hj => (pj j hj).1)
        rw [← ea] at this
        omega
      have down : a = 0 → yHg V 33 T (xUp T.2.2.1 w ln) := fun z => by rw [← ea, z]; exact hV
      have ep : ¬ a = 0 → V.2.1 46 a = T.2.2.1 a := fun z => ((gV hF).2.1 a (by omega) (by omega)).1
      have pas : ¬ a = 0 → (zuR V 55 l a).2.1 46 a = xUp T.2.2.1 w (ln + 1) := fun z => by
        show V.2.1 46 a = T.2.2.1 (xUp T.2.2.1 w ln)
        rw [ep z, ea]
      have hR : yHg V 33 T 0 → yHg (zuR V 55 l a) 33 T 0 := fun hV => yHg_x hV rfl (zBo_R hV.2.2.1 (by decide)) rfl rfl hV.2.2.2.2.2.1 rfl
      have pj1 : ¬ a = 0 → ∀ j : Nat, j < ln + 1 → 1 ≤ xUp T.2.2.1 w j ∧ (zuR V 55 l a).2.1 55 j = xUp T.2.2.1 w j := by
        intro z j hj
        rw [zuR_2]
        by_cases c : j = ln
        · rw [if_pos ⟨rfl, by omega⟩, c, ← ea]; omega
        · rw [if_neg (by omega)]; exact pj j (by omega)
      exact zp_GAgo33_30 (by omega) hn ⟨fun c31 => ⟨(by have := bnd; omega), (h66 ln (fun j hj => (pj j hj).1) ln _ V l a (l - 1) _ (by omega) (by omega) (Nat.le_refl _) hF (fun j hj => (pj j hj).2) (down (by omega)))⟩, fun c31 => ⟨fun c38 => ⟨(by have := bnd; omega), (h66 ln (fun j hj => (pj j hj).1) ln _ V l a (l - 1) _ (by omega) (by omega) (Nat.le_refl _) hF (fun j hj => (pj j hj).2) (down (by omega)))⟩, fun c38 => ⟨(by have := bnd; omega), ⟨(by have := bnd; omega), ⟨(by have := bnd; omega), (ih _ _ (ln + 1) (l + 1) _ _ _ (by omega) (by rw [el]; rfl) (pas (by omega)) (by have := bnd; omega) (zFy_R hF (by decide)) (hR hV) (pj1 (by omega)))⟩⟩⟩⟩⟩
  have h2 : ∀ (mm K : Nat) (V : zW) (i k1 : Int) (u3 u4 u5 : Option zv), 40 * mm + 71000 ≤ K → (300 - i < mm ∧ 0 ≤ i ∧ i ≤ 300 ∧ k1 + i ≤ 300) → zFy [(34, 2), (34, 3), (34, 4), (34, 5), (34, 6), (34, 16), (33, 2)] [35, 36, 38, 39, 40, 45, 55] [37, 44, 50] W V → yHg V 33 T k1 → zwp jtb zsh n zm_GAgo33 po K (lGo ak_ZGAgo33 2) 2 [some (.inr (.inr (some (.inl 33)))), some (.inl (w)), some (.inl (i)), u3, u4, u5] [] V := by
    intro mm
    induction mm with
    | zero => intro K V i k1 u3 u4 u5 hK h1; omega
    | succ mm ih =>
      intro K V i k1 u3 u4 u5 hK h1 hF hV
      have z0 : k1 = 0 → yHg V 33 T 0 := fun z => by rw [z] at hV; exact hV
      have up1 : ¬ k1 = 0 → (300 - (i + 1) < mm ∧ 0 ≤ i + 1 ∧ i + 1 ≤ 300 ∧ T.2.2.1 k1 + (i + 1) ≤ 300) := fun z => by
        have k := hV.2.1
        have := yTo_p hT k1 (by omega) k.2
        omega
      have hv1 := hV.1
      have hv2 := hV.2.1
      exact zp_GAgo33_2 (by omega) hn ⟨fun c6 => (h30 301 _ V 0 0 w _ _ (by omega) rfl rfl (by omega) hF (z0 (by have := hV.1; have := hV.2.1; omega)) (fun j hj => absurd hj (by omega))), fun c6 => ⟨fun c13 => (h30 301 _ V 0 0 w _ _ (by omega) rfl rfl (by omega) hF (z0 (by have := hV.1; have := hV.2.1; omega)) (fun j hj => absurd hj (by omega))), fun c13 => ⟨T, k1, ⟨hT, gV hF, hV, by have := hV.1; have := hV.2.1; omega⟩, fun W17 hr17 => ⟨(by omega), (ih _ W17 (i + 1) (T.2.2.1 k1) _ _ _ (by omega) (up1 (by have := hV.1; omega)) (zFy_t hF (zFy_w hr17.1 (by decide) (by decide) (by decide))) hr17.2)⟩⟩⟩⟩
  exact zp_GAgo33_0 (by omega) hn (h2 301 _ W 0 h _ _ _ (by omega) (by have := hH.2.1; omega) zFy_0 hH)
noncomputable def ak_ZGAgo60 : List jI := ak_ZGAgo33
theorem ao_ZGAgo60 : jokLG jtF lk_GA "ChessHouse$Game" jcl jtb 6 prog_7_method_9_code 0 ak_ZGAgo60 = true := ao_ZGAgo33
noncomputable def zm_GAgo60 : zM := (none, { frames := 4, cells := 0, slots := 0, locals := 140 }, ([(113, 1278, 0), (92, 1294, 1), (95, 1303, 2)], []), [(y_GA_up, false, 1, 9, { frames := 2, cells := 0, slots := 0, locals := 50 }, zc_GAup60), (y_BO_remember, false, 1, 10, { frames := 3, cells := 0, slots := 0, locals := 120 }, zc_BOrem61), (y_BO_make, false, 2, 10, { frames := 1, cells := 0, slots := 0, locals := 24 }, zc_BOmak61)], ak_ZGAgo60)
noncomputable def zc_GAgo60 (vals : List zv) (W : zW) (post : zPo) : Prop := ∃ w : Int, ∃ T : xT, ∃ h : Int, vals = [.inr (.inr (some (.inl 60))), .inl (w)] ∧ (yTo T ∧ yGt W 60 T ∧ yHg W 60 T h ∧ (0 ≤ w ∧ w ≤ T.2.1)) ∧ ∀ V : zW, (zFy [(61, 2), (61, 3), (61, 4), (61, 5), (61, 6), (61, 16), (60, 2)] [62, 63, 65, 66, 67, 72, 82] [64, 71, 77] W V ∧ yHg V 60 T w) → post none V
set_option maxRecDepth 8000 in
theorem zp_GAgo60_0 {n K : Nat} {W : zW} {post : zPo} {w : Int} {u2 u3 u4 u5 : Option zv} (hK : 2 ≤ K) (hn : 142 ≤ n) (h : zwp jtb zsh n zm_GAgo60 post (K - 2) (lGo ak_ZGAgo60 2) 2 [some (.inr (.inr (some (.inl 60)))), some (.inl (w)), some (.inl (0)), u3, u4, u5] [] W) : zwp jtb zsh n zm_GAgo60 post K (lGo ak_ZGAgo60 0) 0 [some (.inr (.inr (some (.inl 60)))), some (.inl (w)), u2, u3, u4, u5] [] W := by
  obtain ⟨kk__, rfl⟩ : ∃ kk__, K = kk__ + 2 := ⟨K - 2, by omega⟩
  exact (show zwp jtb zsh n zm_GAgo60 post (kk__ + 0) (lGo ak_ZGAgo60 2) 2 [some (.inr (.inr (some (.inl 60)))), some (.inl (w)), some (.inl (0)), u3, u4, u5] [] W from h)
set_option maxRecDepth 8000 in
theorem zp_GAgo60_2 {n K : Nat} {V : zW} {post : zPo} {w i : Int} {u3 u4 u5 : Option zv} (hK : 10 ≤ K) (hn : 142 ≤ n) (h : (300 ≤ i → zwp jtb zsh n zm_GAgo60 post (K - 7) (lGo ak_ZGAgo60 30) 30 [some (.inr (.inr (some (.inl 60)))), some (.inl (w)), some (.inl (0)), some (.inl (w)), u4, u5] [] V) ∧ (¬ 300 ≤ i → ((V.1 60 2) = 0 → zwp jtb zsh n zm_GAgo60 post (K - 10) (lGo ak_ZGAgo60 30) 30 [some (.inr (.inr (some (.inl 60)))), some (.inl (w)), some (.inl (0)), some (.inl (w)), u4, u5] [] V) ∧ (¬ (V.1 60 2) = 0 → ∃ T17 : xT, ∃ h17 : Int, (yTo T17 ∧ yGt V 60 T17 ∧ yHg V 60 T17 h17 ∧ 1 ≤ h17) ∧ ∀ W17 : zW, (zFy [(61, 2), (61, 3), (61, 4), (61, 5), (61, 6), (61, 16), (60, 2)] [62, 63, 65, 66, 67] [64] V W17 ∧ yHg W17 60 T17 (T17.2.2.1 h17)) → (-2147483648 ≤ i + 1 ∧ i + 1 ≤ 2147483647) ∧ zwp jtb zsh n zm_GAgo60 post (K - 10) (lGo ak_ZGAgo60 2) 2 [some (.inr (.inr (some (.inl 60)))), some (.inl (w)), some (.inl (i + 1)), u3, u4, u5] [] W17))) : zwp jtb zsh n zm_GAgo60 post K (lGo ak_ZGAgo60 2) 2 [some (.inr (.inr (some (.inl 60)))), some (.inl (w)), some (.inl (i)), u3, u4, u5] [] V := by
  obtain ⟨kk__, rfl⟩ : ∃ kk__, K = kk__ + 10 := ⟨K - 10, by omega⟩
  exact (show (300 ≤ i → zwp jtb zsh n zm_GAgo60 post (kk__ + 3) (lGo ak_ZGAgo60 30) 30 [some (.inr (.inr (some (.inl 60)))), some (.inl (w)), some (.inl (0)), some (.inl (w)), u4, u5] [] V) ∧ (¬ 300 ≤ i → 60 < n ∧ 9 = 9 ∧ ((V.1 60 2) = 0 → zwp jtb zsh n zm_GAgo60 post (kk__ + 0) (lGo ak_ZGAgo60 30) 30 [some (.inr (.inr (some (.inl 60)))), some (.inl (w)), some (.inl (0)), some (.inl (w)), u4, u5] [] V) ∧ (¬ (V.1 60 2) = 0 → 3 = 3 ∧ false = false ∧ jin3 113 1278 0 zm_GAgo60.2.2.1.1 = true ∧ lRm zm_GAgo60.2.1 { frames := 2, cells := 0, slots := 0, locals := 50 } 1 = true ∧ Nat.ble 1 1 = true ∧ Nat.ble 0 8 = true ∧ 60 < n ∧ 9 = 9 ∧ Nat.ble 1000 9 = false ∧ zc_GAup60 [.inr (.inr (some (.inl 60)))] V (fun vv__ WW__ => zwp jtb zsh n zm_GAgo60 post (kk__ + 2) (lGo ak_ZGAgo60 20) 20 [some (.inr (.inr (some (.inl 60)))), some (.inl (w)), some (.inl (i)), u3, u4, u5] (vv__.toList ++ []) WW__))) from ⟨fun c6_2 => ((h).1 c6_2), fun c6_2 => ⟨(Nat.lt_of_lt_of_le (by decide) hn), rfl, ⟨fun c13_5 => ((((h).2 c6_2)).1 c13_5), fun c13_5 => (Exists.elim (((((h).2 c6_2)).2 c13_5)) (fun T17 gx17_0 => Exists.elim gx17_0  (fun h17 gh17 => ⟨rfl, rfl, rfl, rfl, rfl, rfl, (Nat.lt_of_lt_of_le (by decide) hn), rfl, rfl, T17, h17, rfl, (gh17).1, fun W17 hr17 => (show (-2147483648 ≤ i + 1 ∧ i + 1 ≤ 2147483647) ∧ zwp jtb zsh n zm_GAgo60 post (kk__ + 0) (lGo ak_ZGAgo60 2) 2 [some (.inr (.inr (some (.inl 60)))), some (.inl (w)), some (.inl (i + 1)), u3, u4, u5] [] W17 from ⟨(((gh17).2 W17 hr17)).1, (((gh17).2 W17 hr17)).2⟩)⟩)))⟩⟩⟩)
set_option maxRecDepth 8000 in
theorem zp_GAgo60_30 {n K : Nat} {V : zW} {post : zPo} {w l a : Int} {u4 u5 : Option zv} (hK : 17 ≤ K) (hn : 142 ≤ n) (h : (a = 0 → (-2147483648 ≤ l - 1 ∧ l - 1 ≤ 2147483647) ∧ zwp jtb zsh n zm_GAgo60 post (K - 6) (lGo ak_ZGAgo60 66) 66 [some (.inr (.inr (some (.inl 60)))), some (.inl (w)), some (.inl (l)), some (.inl (a)), some (.inl (l - 1)), u5] [] V) ∧ (¬ a = 0 → (300 ≤ l → (-2147483648 ≤ l - 1 ∧ l - 1 ≤ 2147483647) ∧ zwp jtb zsh n zm_GAgo60 post (K - 9) (lGo ak_ZGAgo60 66) 66 [some (.inr (.inr (some (.inl 60)))), some (.inl (w)), some (.inl (l)), some (.inl (a)), some (.inl (l - 1)), u5] [] V) ∧ (¬ 300 ≤ l → (0 ≤ l ∧ l < 301) ∧ (-2147483648 ≤ l + 1 ∧ l + 1 ≤ 2147483647) ∧ (0 ≤ a ∧ a < 301) ∧ zwp jtb zsh n zm_GAgo60 post (K - 17) (lGo ak_ZGAgo60 30) 30 [some (.inr (.inr (some (.inl 60)))), some (.inl (w)), some (.inl (l + 1)), some (.inl (V.2.1 73 a)), u4, u5] [] (zuR V 82 l a)))) : zwp jtb zsh n zm_GAgo60 post K (lGo ak_ZGAgo60 30) 30 [some (.inr (.inr (some (.inl 60)))), some (.inl (w)), some (.inl (l)), some (.inl (a)), u4, u5] [] V := by
  obtain ⟨kk__, rfl⟩ : ∃ kk__, K = kk__ + 17 := ⟨K - 17, by omega⟩
  exact (show (a = 0 → (-2147483648 ≤ l - 1 ∧ l - 1 ≤ 2147483647) ∧ zwp jtb zsh n zm_GAgo60 post (kk__ + 11) (lGo ak_ZGAgo60 66) 66 [some (.inr (.inr (some (.inl 60)))), some (.inl (w)), some (.inl (l)), some (.inl (a)), some (.inl (l - 1)), u5] [] V) ∧ (¬ a = 0 → (300 ≤ l → (-2147483648 ≤ l - 1 ∧ l - 1 ≤ 2147483647) ∧ zwp jtb zsh n zm_GAgo60 post (kk__ + 8) (lGo ak_ZGAgo60 66) 66 [some (.inr (.inr (some (.inl 60)))), some (.inl (w)), some (.inl (l)), some (.inl (a)), some (.inl (l - 1)), u5] [] V) ∧ (¬ 300 ≤ l → 60 < n ∧ 9 = 9 ∧ 82 < n ∧ FieldType.int = FieldType.int ∧ (0 ≤ l ∧ l < 301) ∧ True ∧ (-2147483648 ≤ l + 1 ∧ l + 1 ≤ 2147483647) ∧ 60 < n ∧ 9 = 9 ∧ 73 < n ∧ FieldType.int = FieldType.int ∧ (0 ≤ a ∧ a < 301) ∧ zwp jtb zsh n zm_GAgo60 post (kk__ + 0) (lGo ak_ZGAgo60 30) 30 [some (.inr (.inr (some (.inl 60)))), some (.inl (w)), some (.inl (l + 1)), some (.inl (V.2.1 73 a)), u4, u5] [] (zuR V 82 l a))) from ⟨fun c31_1 => ⟨(((h).1 c31_1)).1, (((h).1 c31_1)).2⟩, fun c31_1 => ⟨fun c38_4 => (have h := ((((h).2 c31_1)).1 c38_4); ⟨(h).1, (h).2⟩), fun c38_4 => (have h := ((((h).2 c31_1)).2 c38_4); ⟨(Nat.lt_of_lt_of_le (by decide) hn), rfl, ⟨(Nat.lt_of_lt_of_le (by decide) hn), rfl, (h).1, trivial, ⟨((h).2).1, ⟨(Nat.lt_of_lt_of_le (by decide) hn), rfl, ⟨(Nat.lt_of_lt_of_le (by decide) hn), rfl, (((h).2).2).1, (((h).2).2).2⟩⟩⟩⟩⟩)⟩⟩)
set_option maxRecDepth 8000 in
theorem zp_GAgo60_66 {n K : Nat} {V : zW} {post : zPo} {w l a i : Int} {u5 : Option zv} (hK : 26 ≤ K) (hn : 142 ≤ n) (h : (i < 0 → post none V) ∧ (¬ i < 0 → (0 ≤ i ∧ i < 301) ∧ (zBg V 61 ∧ (0 ≤ V.1 61 16 ∧ V.1 61 16 ≤ 320)) ∧ ∀ W84 : zW, (zFy [(61, 16)] [72] [71] V W84 ∧ W84.1 61 16 = (if V.1 61 16 < 320 then V.1 61 16 + 1 else V.1 61 16)) → (0 ≤ (V.2.1 82 i) ∧ (V.2.1 82 i) < 301) ∧ ∃ q104 : rQ, (zBo W84 61 q104 ∧ zGd q104 ∧ cL q104 (W84.2.1 74 (V.2.1 82 i)) ∧ (-1000000 ≤ W84.1 61 6 ∧ W84.1 61 6 ≤ 1000000) ∧ (0 ≤ W84.1 61 5 ∧ W84.1 61 5 ≤ 1000000)) ∧ ∀ r104 : Int64, ∀ W104 : zW, (zMx 61 W84 W104 ∧ zBo W104 61 (rMk q104 (cMm (W84.2.1 74 (V.2.1 82 i)))) ∧ W104.1 61 6 = W84.1 61 6 + q104.2.1 ∧ cUd r104 (q104.1 (rWh q104 (cMm (W84.2.1 74 (V.2.1 82 i))))) q104.2.2.1 q104.2.2.2 ∧ (0 ≤ W104.1 61 5 ∧ W104.1 61 5 ≤ W84.1 61 5 + 1) ∧ cUk r104 (W84.1 61 5)) → (0 ≤ (V.2.1 82 i) ∧ (V.2.1 82 i) < 301) ∧ (-2147483648 ≤ i + (-1) ∧ i + (-1) ≤ 2147483647) ∧ zwp jtb zsh n zm_GAgo60 post (K - 26) (lGo ak_ZGAgo60 66) 66 [some (.inr (.inr (some (.inl 60)))), some (.inl (w)), some (.inl (l)), some (.inl (a)), some (.inl (i + (-1))), some (.inl (V.2.1 82 i))] [] (zuF (zuL W104 77 (V.2.1 82 i).toNat r104) 60 2 (V.2.1 82 i)))) : zwp jtb zsh n zm_GAgo60 post K (lGo ak_ZGAgo60 66) 66 [some (.inr (.inr (some (.inl 60)))), some (.inl (w)), some (.inl (l)), some (.inl (a)), some (.inl (i)), u5] [] V := by
  obtain ⟨kk__, rfl⟩ : ∃ kk__, K = kk__ + 26 := ⟨K - 26, by omega⟩
  exact (show (i < 0 → 1 = 1 ∧ (none : Option FieldType) = none ∧ post none V) ∧ (¬ i < 0 → 60 < n ∧ 9 = 9 ∧ 82 < n ∧ FieldType.int = FieldType.int ∧ (0 ≤ i ∧ i < 301) ∧ 60 < n ∧ 9 = 9 ∧ 3 = 3 ∧ false = false ∧ jin3 92 1294 1 zm_GAgo60.2.2.1.1 = true ∧ lRm zm_GAgo60.2.1 { frames := 3, cells := 0, slots := 0, locals := 120 } 1 = true ∧ Nat.ble 1 1 = true ∧ Nat.ble 0 8 = true ∧ 61 < n ∧ 10 = 10 ∧ Nat.ble 1000 10 = false ∧ zc_BOrem61 [.inr (.inr (some (.inl 61)))] V (fun vv__ WW__ => zwp jtb zsh n zm_GAgo60 post (kk__ + 16) (lGo ak_ZGAgo60 87) 87 [some (.inr (.inr (some (.inl 60)))), some (.inl (w)), some (.inl (l)), some (.inl (a)), some (.inl (i)), some (.inl (V.2.1 82 i))] (vv__.toList ++ []) WW__)) from ⟨fun c68_1 => ⟨rfl, rfl, ((h).1 c68_1)⟩, fun c68_1 => ⟨(Nat.lt_of_lt_of_le (by decide) hn), rfl, ⟨(Nat.lt_of_lt_of_le (by decide) hn), rfl, (((h).2 c68_1)).1, ⟨(Nat.lt_of_lt_of_le (by decide) hn), rfl, ⟨rfl, rfl, rfl, rfl, rfl, rfl, (Nat.lt_of_lt_of_le (by decide) hn), rfl, rfl, rfl, ((((h).2 c68_1)).2).1, fun W84 hr84 => (show 60 < n ∧ 9 = 9 ∧ 60 < n ∧ 9 = 9 ∧ 60 < n ∧ 9 = 9 ∧ 74 < n ∧ FieldType.int = FieldType.int ∧ (0 ≤ (V.2.1 82 i) ∧ (V.2.1 82 i) < 301) ∧ 3 = 3 ∧ false = false ∧ jin3 95 1303 2 zm_GAgo60.2.2.1.1 = true ∧ lRm zm_GAgo60.2.1 { frames := 1, cells := 0, slots := 0, locals := 24 } 11 = true ∧ Nat.ble 2 4 = true ∧ Nat.ble 2 8 = true ∧ 61 < n ∧ 10 = 10 ∧ Nat.ble 1000 10 = false ∧ zc_BOmak61 [.inr (.inr (some (.inl 61))), .inl (W84.2.1 74 (V.2.1 82 i))] W84 (fun vv__ WW__ => zwp jtb zsh n zm_GAgo60 post (kk__ + 6) (lGo ak_ZGAgo60 107) 107 [some (.inr (.inr (some (.inl 60)))), some (.inl (w)), some (.inl (l)), some (.inl (a)), some (.inl (i)), some (.inl (V.2.1 82 i))] (vv__.toList ++ [.inl (V.2.1 82 i), .inr (.inr (some (.inl 77)))]) WW__) from (have h := (((((h).2 c68_1)).2).2 W84 hr84); ⟨(Nat.lt_of_lt_of_le (by decide) hn), rfl, ⟨(Nat.lt_of_lt_of_le (by decide) hn), rfl, ⟨(Nat.lt_of_lt_of_le (by decide) hn), rfl, ⟨(Nat.lt_of_lt_of_le (by decide) hn), rfl, (h).1, (Exists.elim ((h).2) (fun q104 gh104 => ⟨rfl, rfl, rfl, rfl, rfl, rfl, (Nat.lt_of_lt_of_le (by decide) hn), rfl, rfl, W84.2.1 74 (V.2.1 82 i), q104, rfl, (gh104).1, fun r104 W104 hr104 => (show 77 < n ∧ (0 ≤ (V.2.1 82 i) ∧ (V.2.1 82 i) < 301) ∧ 60 < n ∧ 9 = 9 ∧ (some 0 : Option Nat) = some 0 ∧ ((0 : Nat) = 0 ∨ ((0 : Nat) = 1 ∧ ((V.2.1 82 i) = 0 ∨ (V.2.1 82 i) = 1))) ∧ (-2147483648 ≤ i + (-1) ∧ i + (-1) ≤ 2147483647) ∧ zwp jtb zsh n zm_GAgo60 post (kk__ + 0) (lGo ak_ZGAgo60 66) 66 [some (.inr (.inr (some (.inl 60)))), some (.inl (w)), some (.inl (l)), some (.inl (a)), some (.inl (i + (-1))), some (.inl (V.2.1 82 i))] [] (zuF (zuL W104 77 (V.2.1 82 i).toNat r104) 60 2 (V.2.1 82 i)) from (have h := ((gh104).2 r104 W104 hr104); ⟨(Nat.lt_of_lt_of_le (by decide) hn), (h).1, ⟨(Nat.lt_of_lt_of_le (by decide) hn), rfl, rfl, (Or.inl rfl), ⟨((h).2).1, ((h).2).2⟩⟩⟩))⟩))⟩⟩⟩⟩))⟩⟩⟩⟩⟩)
set_option maxRecDepth 100000 in
theorem zk_GAgo60 {l : Launch} {E : jE} {n : Nat} (hn : 142 ≤ n) : zHas l E jcl jtb lw_tbl zsh n (y_GA_goTo, false, 2, 9, { frames := 4, cells := 0, slots := 0, locals := 140 }, zc_GAgo60) := by
  refine ⟨⟨rfl, rfl, ⟨show 1 ≤ 2 by decide, m_GA_goTo, i_GA_goTo, e_GA_goTo, fun _ => ⟨_, rfl, rfl⟩⟩⟩, ?_⟩
  rintro vz W po hO hW ⟨w, T, h, rfl, hq, hp⟩
  refine zmet (m := zm_GAgo60) rfl (by decide) (fun _ _ => jtF_ok) lo_GA ao_ZGAgo60 jC (fun q h => by cases h) (aAllc (fun G h => by obtain rfl := Option.some.inj h; exact ql_GA_113) (aAllc (fun G h => by obtain rfl := Option.some.inj h; exact ql_GA_92) (aAllc (fun G h => by obtain rfl := Option.some.inj h; exact ql_GA_95) (fun q h => by cases h)))) (aAllc (zk_GAup60 hn) (aAllc (zk_BOrem61 hn) (aAllc (zk_BOmak61 hn) (fun q h => by cases h)))) (Nat.le_of_ble_eq_true rfl) hO hW (100000) ?_
  obtain ⟨hT, hG, hH, hw⟩ := hq
  have hN := hT.1.1
  have gV : ∀ {V : zW}, zFy [(61, 2), (61, 3), (61, 4), (61, 5), (61, 6), (61, 16), (60, 2)] [62, 63, 65, 66, 67, 72, 82] [64, 71, 77] W V → yGt V 60 T := fun h => yGt_x hG (zFy_f h 60 1) (zFy_r h 73) (zFy_r h 74) (zFy_r h 75) (zFy_r h 76) (zFy_r h 79)
  have h66 : ∀ ln : Nat, (∀ j : Nat, j < ln → 1 ≤ xUp T.2.2.1 w j) → ∀ (ii K : Nat) (V : zW) (l a i : Int) (u5 : Option zv), 100 * ii + 60 ≤ K → i = (ii : Int) - 1 → ii ≤ ln → zFy [(61, 2), (61, 3), (61, 4), (61, 5), (61, 6), (61, 16), (60, 2)] [62, 63, 65, 66, 67, 72, 82] [64, 71, 77] W V → (∀ j : Nat, j < ln → V.2.1 82 j = xUp T.2.2.1 w j) → yHg V 60 T (xUp T.2.2.1 w ii) → zwp jtb zsh n zm_GAgo60 po K (lGo ak_ZGAgo60 66) 66 [some (.inr (.inr (some (.inl 60)))), some (.inl (w)), some (.inl (l)), some (.inl (a)), some (.inl (i)), u5] [] V := by
    intro ln h1 ii
    induction ii with
    | zero =>
      intro K V l a i u5 hK ei hl hF hj hV
      exact zp_GAgo60_66 (by omega) hn ⟨fun c68 => (hp _ ⟨hF, hV⟩), fun z => absurd z (by omega)⟩
    | succ ii ih =>
      intro K V l a i u5 hK ei hl hF hj hV
      have ek : (V.2.1 82 i) = xUp T.2.2.1 w ii := by rw [show i = (ii : Int) by omega]; exact hj ii (by omega)
      have bb := xUp_b hT hw ii (fun j hj => h1 j (by omega))
      have b1 := h1 ii (by omega)
      have lb : xUp T.2.2.1 w ii ≤ T.2.1 := by omega
      have hpk := yTo_p hT (xUp T.2.2.1 w ii) b1 lb
      have hV : yHg V 60 T (T.2.2.1 (xUp T.2.2.1 w ii)) := hV
      have gq := yTo_k hT (k := T.2.2.1 (xUp T.2.2.1 w ii)) (by omega)
      have bq : zBo V 61 (yP T (T.2.2.1 (xUp T.2.2.1 w ii))).1 := hV.2.2.1
      have nq := yTo_n hT (k := T.2.2.1 (xUp T.2.2.1 w ii)) (by omega) (by omega)
      have v6 : V.1 61 6 = (yP T (T.2.2.1 (xUp T.2.2.1 w ii))).2 := hV.2.2.2.1
      have v5 : 0 ≤ V.1 61 5 ∧ V.1 61 5 ≤ 1000 + T.2.2.1 (xUp T.2.2.1 w ii) := hV.2.2.2.2.1
      have v16 : 0 ≤ V.1 61 16 ∧ V.1 61 16 ≤ 320 := hV.2.2.2.2.2.1
      have bv : zBv V 61 (yP T (T.2.2.1 (xUp T.2.2.1 w ii))).1 900000 := ⟨⟨bq, gq, by omega, by omega⟩, v16⟩
      have s0 : ∀ {A0 : zW}, (zFy [(61, 16)] [72] [71] V A0 ∧ A0.1 61 16 = (if V.1 61 16 < 320 then V.1 61 16 + 1 else V.1 61 16)) → zSv 61 V A0 (yP T (T.2.2.1 (xUp T.2.2.1 w ii))).1 0 := fun h => zRq_s h bv (by decide) _
      have mk : ∀ {A0 : zW}, (zFy [(61, 16)] [72] [71] V A0 ∧ A0.1 61 16 = (if V.1 61 16 < 320 then V.1 61 16 + 1 else V.1 61 16)) → zBo A0 61 (yP T (T.2.2.1 (xUp T.2.2.1 w ii))).1 ∧ zGd (yP T (T.2.2.1 (xUp T.2.2.1 w ii))).1 ∧ cL (yP T (T.2.2.1 (xUp T.2.2.1 w ii))).1 (A0.2.1 74 (V.2.1 82 i)) ∧ (-1000000 ≤ A0.1 61 6 ∧ A0.1 61 6 ≤ 1000000) ∧ (0 ≤ A0.1 61 5 ∧ A0.1 61 5 ≤ 1000000) := by
        intro A0 h
        have s := s0 h
        refine ⟨s.2.1, gq, ?_, by rw [s.2.2.2.1]; omega, by rw [s.2.2.1]; omega⟩
        rw [zFy_r h.1 74, ek]
        exact yGt_l hT (gV hF) b1 lb
      have nx : ∀ {A0 A : zW} {r : Int64}, (zFy [(61, 16)] [72] [71] V A0 ∧ A0.1 61 16 = (if V.1 61 16 < 320 then V.1 61 16 + 1 else V.1 61 16)) → (zMx 61 A0 A ∧ zBo A 61 (rMk (yP T (T.2.2.1 (xUp T.2.2.1 w ii))).1 (cMm (A0.2.1 74 (V.2.1 82 i)))) ∧ A.1 61 6 = A0.1 61 6 + (yP T (T.2.2.1 (xUp T.2.2.1 w ii))).1.2.1 ∧ cUd r ((yP T (T.2.2.1 (xUp T.2.2.1 w ii))).1.1 (rWh (yP T (T.2.2.1 (xUp T.2.2.1 w ii))).1 (cMm (A0.2.1 74 (V.2.1 82 i))))) (yP T (T.2.2.1 (xUp T.2.2.1 w ii))).1.2.2.1 (yP T (T.2.2.1 (xUp T.2.2.1 w ii))).1.2.2.2 ∧ (0 ≤ A.1 61 5 ∧ A.1 61 5 ≤ A0.1 61 5 + 1) ∧ cUk r (A0.1 61 5)) → zFy [(61, 2), (61, 3), (61, 4), (61, 5), (61, 6), (61, 16), (60, 2)] [62, 63, 65, 66, 67, 72, 82] [64, 71, 77] W (zuF (zuL A 77 (V.2.1 82 i).toNat r) 60 2 (V.2.1 82 i)) ∧ (∀ j : Nat, j < ln → (zuF (zuL A 77 (V.2.1 82 i).toNat r) 60 2 (V.2.1 82 i)).2.1 82 j = xUp T.2.2.1 w j) ∧ yHg (zuF (zuL A 77 (V.2.1 82 i).toNat r) 60 2 (V.2.1 82 i)) 60 T (xUp T.2.2.1 w ii) := by
        intro A0 A r h0 h2
        have s := s0 h0
        have em : cMm (A0.2.1 74 (V.2.1 82 i)) = T.2.2.2.1 (xUp T.2.2.1 w ii) := by rw [zFy_r h0.1 74, ek]; exact ((gV hF).2.1 _ b1 lb).2.2
        rw [em] at h2
        refine ⟨zFy_F (zFy_L (zFy_t (zFy_t hF (zFy_w h0.1 (by decide) (by decide) (by decide))) (zFy_w h2.1 (by decide) (by decide) (by decide))) (by decide)) (by decide), fun j hj2 => ?_, ?_⟩
        · show A.2.1 82 j = _
          rw [zFy_r h2.1 82, zFy_r h0.1 82]
          exact hj j hj2
        · rw [ek]
          refine yHg_d hT hV ⟨b1, lb⟩ rfl ?_ ?_ ?_ ?_ ?_ ?_ ?_ ?_
          · exact zBo_F (zBo_x h2.2.1 rfl rfl rfl rfl rfl rfl rfl rfl rfl rfl) (by decide)
          · show A.1 61 6 = _
            rw [h2.2.2.1, s.2.2.2.1]
          · show 0 ≤ A.1 61 5 ∧ A.1 61 5 ≤ V.1 61 5 + 1
            rw [← s.2.2.1]
            exact h2.2.2.2.2.1
          · show 0 ≤ A.1 61 16 ∧ A.1 61 16 ≤ 320
            rw [zFy_f h2.1 61 16]
            exact s.2.2.2.2.1
          · rw [zuF_1, if_pos ⟨rfl, rfl⟩]
          · show cUd ((zuL A 77 (xUp T.2.2.1 w ii).toNat r).2.2.1 77 (xUp T.2.2.1 w ii).toNat) _ _ _
            rw [zuL_s]
            exact h2.2.2.2.1
          · show cUk ((zuL A 77 (xUp T.2.2.1 w ii).toNat r).2.2.1 77 (xUp T.2.2.1 w ii).toNat) (V.1 61 5)
            rw [zuL_s, ← s.2.2.1]
            exact h2.2.2.2.2.2
          · intro j hj3
            show (zuL A 77 (xUp T.2.2.1 w ii).toNat r).2.2.1 77 j = V.2.2.1 77 j
            rw [zuL_n hj3, zFy_l h2.1 77, zFy_l h0.1 77]
      exact zp_GAgo60_66 (by omega) hn ⟨fun c68 => (absurd c68 (by omega)), fun c68 => ⟨(by omega), ⟨⟨zBo_g bq gq, hV.2.2.2.2.2.1⟩, fun W84 hr84 => ⟨(by omega), ⟨(yP T (T.2.2.1 (xUp T.2.2.1 w ii))).1, (mk hr84), fun r104 W104 hr104 => ⟨(by omega), ⟨(by omega), (ih _ _ _ _ _ _ (by omega) (by omega) (by omega) (nx hr84 hr104).1 (nx hr84 hr104).2.1 (nx hr84 hr104).2.2)⟩⟩⟩⟩⟩⟩⟩
  have h30 : ∀ (mm K : Nat) (V : zW) (ln : Nat) (l a : Int) (u4 u5 : Option zv), 100 * mm + 40000 ≤ K → l = (ln : Int) → a = xUp T.2.2.1 w ln → (300 - l < mm ∧ l ≤ 300) → zFy [(61, 2), (61, 3), (61, 4), (61, 5), (61, 6), (61, 16), (60, 2)] [62, 63, 65, 66, 67, 72, 82] [64, 71, 77] W V → yHg V 60 T 0 → (∀ j : Nat, j < ln → 1 ≤ xUp T.2.2.1 w j ∧ V.2.1 82 j = xUp T.2.2.1 w j) → zwp jtb zsh n zm_GAgo60 po K (lGo ak_ZGAgo60 30) 30 [some (.inr (.inr (some (.inl 60)))), some (.inl (w)), some (.inl (l)), some (.inl (a)), u4, u5] [] V := by
    intro mm
    induction mm with
    | zero => intro K V ln l a u4 u5 hK el ea h1; omega
    | succ mm ih =>
      intro K V ln l a u4 u5 hK el ea h1 hF hV pj
      have bnd : 0 ≤ a ∧ a + l ≤ w ∧ w ≤ 300 := by
        have := xUp_b hT hw ln (fun j hj => (pj j hj).1)
        rw [← ea] at this
        omega
      have down : a = 0 → yHg V 60 T (xUp T.2.2.1 w ln) := fun z => by rw [← ea, z]; exact hV
      have ep : ¬ a = 0 → V.2.1 73 a = T.2.2.1 a := fun z => ((gV hF).2.1 a (by omega) (by omega)).1
      have pas : ¬ a = 0 → (zuR V 82 l a).2.1 73 a = xUp T.2.2.1 w (ln + 1) := fun z => by
        show V.2.1 73 a = T.2.2.1 (xUp T.2.2.1 w ln)
        rw [ep z, ea]
      have hR : yHg V 60 T 0 → yHg (zuR V 82 l a) 60 T 0 := fun hV => yHg_x hV rfl (zBo_R hV.2.2.1 (by decide)) rfl rfl hV.2.2.2.2.2.1 rfl
      have pj1 : ¬ a = 0 → ∀ j : Nat, j < ln + 1 → 1 ≤ xUp T.2.2.1 w j ∧ (zuR V 82 l a).2.1 82 j = xUp T.2.2.1 w j := by
        intro z j hj
        rw [zuR_2]
        by_cases c : j = ln
        · rw [if_pos ⟨rfl, by omega⟩, c, ← ea]; omega
        · rw [if_neg (by omega)]; exact pj j (by omega)
      exact zp_GAgo60_30 (by omega) hn ⟨fun c31 => ⟨(by have := bnd; omega), (h66 ln (fun j hj => (pj j hj).1) ln _ V l a (l - 1) _ (by omega) (by omega) (Nat.le_refl _) hF (fun j hj => (pj j hj).2) (down (by omega)))⟩, fun c31 => ⟨fun c38 => ⟨(by have := bnd; omega), (h66 ln (fun j hj => (pj j hj).1) ln _ V l a (l - 1) _ (by omega) (by omega) (Nat.le_refl _) hF (fun j hj => (pj j hj).2) (down (by omega)))⟩, fun c38 => ⟨(by have := bnd; omega), ⟨(by have := bnd; omega), ⟨(by have := bnd; omega), (ih _ _ (ln + 1) (l + 1) _ _ _ (by omega) (by rw [el]; rfl) (pas (by omega)) (by have := bnd; omega) (zFy_R hF (by decide)) (hR hV) (pj1 (by omega)))⟩⟩⟩⟩⟩
  have h2 : ∀ (mm K : Nat) (V : zW) (i k1 : Int) (u3 u4 u5 : Option zv), 40 * mm + 71000 ≤ K → (300 - i < mm ∧ 0 ≤ i ∧ i ≤ 300 ∧ k1 + i ≤ 300) → zFy [(61, 2), (61, 3), (61, 4), (61, 5), (61, 6), (61, 16), (60, 2)] [62, 63, 65, 66, 67, 72, 82] [64, 71, 77] W V → yHg V 60 T k1 → zwp jtb zsh n zm_GAgo60 po K (lGo ak_ZGAgo60 2) 2 [some (.inr (.inr (some (.inl 60)))), some (.inl (w)), some (.inl (i)), u3, u4, u5] [] V := by
    intro mm
    induction mm with
    | zero => intro K V i k1 u3 u4 u5 hK h1; omega
    | succ mm ih =>
      intro K V i k1 u3 u4 u5 hK h1 hF hV
      have z0 : k1 = 0 → yHg V 60 T 0 := fun z => by rw [z] at hV; exact hV
      have up1 : ¬ k1 = 0 → (300 - (i + 1) < mm ∧ 0 ≤ i + 1 ∧ i + 1 ≤ 300 ∧ T.2.2.1 k1 + (i + 1) ≤ 300) := fun z => by
        have k := hV.2.1
        have := yTo_p hT k1 (by omega) k.2
        omega
      have hv1 := hV.1
      have hv2 := hV.2.1
      exact zp_GAgo60_2 (by omega) hn ⟨fun c6 => (h30 301 _ V 0 0 w _ _ (by omega) rfl rfl (by omega) hF (z0 (by have := hV.1; have := hV.2.1; omega)) (fun j hj => absurd hj (by omega))), fun c6 => ⟨fun c13 => (h30 301 _ V 0 0 w _ _ (by omega) rfl rfl (by omega) hF (z0 (by have := hV.1; have := hV.2.1; omega)) (fun j hj => absurd hj (by omega))), fun c13 => ⟨T, k1, ⟨hT, gV hF, hV, by have := hV.1; have := hV.2.1; omega⟩, fun W17 hr17 => ⟨(by omega), (ih _ W17 (i + 1) (T.2.2.1 k1) _ _ _ (by omega) (up1 (by have := hV.1; omega)) (zFy_t hF (zFy_w hr17.1 (by decide) (by decide) (by decide))) hr17.2)⟩⟩⟩⟩
  exact zp_GAgo60_0 (by omega) hn (h2 301 _ W 0 h _ _ _ (by omega) (by have := hH.2.1; omega) zFy_0 hH)
end
section
/-! a node more -/
theorem yCh_e {nx nx' : Int → Int} : ∀ {l : List Int} {a : Int}, xCh nx a l → (∀ x ∈ l, nx' x = nx x) → xCh nx' a l
  | [], _, h, _ => h
  | x :: l, a, h, e => ⟨h.1, h.2.1, by rw [e x List.mem_cons_self]; exact yCh_e h.2.2 (fun y hy => e y (List.mem_cons_of_mem _ hy))⟩
theorem yCh_a {nx nx' : Int → Int} {k x : Int} (hk : ¬ k = 0) : ∀ {l : List Int} {a : Int}, xCh nx a (l ++ [x]) → (∀ y ∈ l, nx' y = nx y) → nx' x = k → nx' k = 0 → xCh nx' a (l ++ [x] ++ [k])
  | [], a, h, _, h1, h2 => ⟨h.1, h.2.1, by rw [h1]; exact ⟨rfl, hk, h2⟩⟩
  | y :: l, a, h, e, h1, h2 => ⟨h.1, h.2.1, by
      show xCh nx' (nx' y) (l ++ [x] ++ [k])
      rw [e y List.mem_cons_self]
      exact yCh_a hk (l := l) h.2.2 (fun z hz => e z (List.mem_cons_of_mem _ hz)) h1 h2⟩
theorem yGt_a {W V : zW} {g : Nat} {T : xT} {u x : Int} (hT : xTok T) (hG : yGt W g T) (hu : 0 ≤ u ∧ u ≤ T.2.1) (hx : 0 ≤ x ∧ x < 32768) (e1 : V.1 g 1 = T.2.1 + 1) (e13 : V.2.1 (g + 13) = zuI (W.2.1 (g + 13)) (T.2.1 + 1) u) (e14 : V.2.1 (g + 14) = zuI (W.2.1 (g + 14)) (T.2.1 + 1) x) (e19 : V.2.1 (g + 19) = zuI (W.2.1 (g + 19)) (T.2.1 + 1) 0) (hc : (T.2.2.2.2.1 u = [] ∧ V.2.1 (g + 15) = zuI (zuI (W.2.1 (g + 15)) (T.2.1 + 1) 0) u (T.2.1 + 1) ∧ V.2.1 (g + 16) = zuI (W.2.1 (g + 16)) (T.2.1 + 1) 0) ∨ (∃ l y, T.2.2.2.2.1 u = l ++ [y] ∧ V.2.1 (g + 15) = zuI (W.2.1 (g + 15)) (T.2.1 + 1) 0 ∧ V.2.1 (g + 16) = zuI (zuI (W.2.1 (g + 16)) (T.2.1 + 1) 0) y (T.2.1 + 1))) : yGt V g (xApp T u (cMm x)) := by
  have hN := hT.1
  have hK := hT.2.2.1
  obtain ⟨g1, g2, g3⟩ := hG
  refine ⟨e1, fun i i0 i1 => ?_, fun i i0 i1 => ?_⟩
  · have i1 : i ≤ T.2.1 + 1 := i1
    show V.2.1 (g + 13) i = zuI T.2.2.1 (T.2.1 + 1) u i ∧ (0 ≤ V.2.1 (g + 14) i ∧ V.2.1 (g + 14) i < 32768) ∧ cMm (V.2.1 (g + 14) i) = zuI T.2.2.2.1 (T.2.1 + 1) (cMm x) i
    rw [e13, e14]
    by_cases c : i = T.2.1 + 1
    · rw [c, zuI_s, zuI_s, zuI_s, zuI_s]
      exact ⟨rfl, hx, rfl⟩
    · rw [zuI_n c, zuI_n c, zuI_n c, zuI_n c]
      exact g2 i i0 (by omega)
  · have i1 : i ≤ T.2.1 + 1 := i1
    show xCh (V.2.1 (g + 16)) (V.2.1 (g + 15) i) (if i = u then T.2.2.2.2.1 u ++ [T.2.1 + 1] else if i = T.2.1 + 1 then [] else T.2.2.2.2.1 i) ∧ V.2.1 (g + 19) i = zuI T.2.2.2.2.2 (T.2.1 + 1) 0 i
    constructor
    · rcases hc with ⟨h0, h15, h16⟩ | ⟨l, y, h0, h15, h16⟩
      · rw [h15, h16]
        by_cases c : i = u
        · rw [if_pos c, c, h0, zuI_s]
          exact ⟨rfl, by omega, by rw [zuI_s]; exact rfl⟩
        · rw [if_neg c, zuI_n c]
          by_cases d : i = T.2.1 + 1
          · rw [if_pos d, d, zuI_s]; exact rfl
          · rw [if_neg d, zuI_n d]
            refine yCh_e (g3 i i0 (by omega)).1 (fun z hz => zuI_n ?_)
            have := ((hK i i0 (by omega)).2 z).1 hz
            omega
      · have hy := ((hK u hu.1 hu.2).2 y).1 (by rw [h0]; simp)
        rw [h15, h16]
        by_cases c : i = u
        · rw [if_pos c, c, h0, zuI_n (by omega)]
          have ch := (g3 u hu.1 hu.2).1
          rw [h0] at ch
          have nd := (hK u hu.1 hu.2).1
          rw [h0] at nd
          refine yCh_a (by omega) ch (fun z hz => ?_) (by rw [zuI_s]) (by rw [zuI_n (by omega), zuI_s])
          have hz2 := ((hK u hu.1 hu.2).2 z).1 (by rw [h0]; exact List.mem_append_left _ hz)
          have ne : ¬ z = y := by
            intro e
            have := (List.nodup_append.mp nd).2.2 z hz y (by simp)
            exact this e
          rw [zuI_n ne, zuI_n (by omega)]
        · rw [if_neg c]
          by_cases d : i = T.2.1 + 1
          · rw [if_pos d, d, zuI_s]; exact rfl
          · rw [if_neg d, zuI_n d]
            refine yCh_e (g3 i i0 (by omega)).1 (fun z hz => ?_)
            have hz2 := ((hK i i0 (by omega)).2 z).1 hz
            have ne : ¬ z = y := by
              intro e
              rw [e] at hz2
              omega
            rw [zuI_n ne, zuI_n (by omega)]
    · rw [e19]
      by_cases d : i = T.2.1 + 1
      · rw [d, zuI_s, zuI_s]
      · rw [zuI_n d, zuI_n d]
        exact (g3 i i0 (by omega)).2
theorem yP_a {T : xT} {u m k : Int} (hT : yTo T) (hk : k ≤ T.2.1) : yP (xApp T u m) k = yP T k := by
  unfold yP
  exact xPo_c (yTo_p hT) (fun j j0 j1 => zuI_n (by omega)) (fun j j0 j1 => zuI_n (by omega)) hk
/-- the same node of the larger tree -/
theorem yHg_a {W : zW} {g : Nat} {T : xT} {u m h : Int} (hT : yTo T) (hH : yHg W g T h) : yHg W g (xApp T u m) h := by
  obtain ⟨a1, a2, a3, a4, a5, a6, a7⟩ := hH
  have up2 : ∀ n : Nat, (∀ j : Nat, j < n → 1 ≤ xUp (xApp T u m).2.2.1 h j) → ∀ i : Nat, i ≤ n → xUp (xApp T u m).2.2.1 h i = xUp T.2.2.1 h i := by
    intro n
    induction n with
    | zero => intro _ i hi; obtain rfl : i = 0 := (by omega); rfl
    | succ n ih =>
      intro hj i hi
      have ih2 := ih (fun j hj2 => hj j (by omega))
      by_cases ci : i ≤ n
      · exact ih2 i ci
      obtain rfl : i = n + 1 := by omega
      have e := ih2 n (Nat.le_refl _)
      have pre : ∀ j : Nat, j ≤ n → 1 ≤ xUp T.2.2.1 h j := fun j hj2 => by rw [← ih2 j hj2]; exact hj j (by omega)
      have b := hj n (by omega)
      rw [e] at b
      have bb := xUp_b hT a2 n (fun j hj2 => pre j (by omega))
      show (xApp T u m).2.2.1 (xUp (xApp T u m).2.2.1 h n) = T.2.2.1 (xUp T.2.2.1 h n)
      rw [e]
      exact zuI_n (by omega)
  have up : ∀ n : Nat, (∀ j : Nat, j < n → 1 ≤ xUp (xApp T u m).2.2.1 h j) → xUp (xApp T u m).2.2.1 h n = xUp T.2.2.1 h n := fun n hj => up2 n hj n (Nat.le_refl _)
  refine ⟨a1, ⟨a2.1, by show h ≤ T.2.1 + 1; omega⟩, by rw [yP_a hT a2.2]; exact a3, by rw [yP_a hT a2.2]; exact a4, a5, a6, fun n hn => ?_⟩
  have e := up n (fun j hj => hn j (by omega))
  have all : ∀ j : Nat, j ≤ n → 1 ≤ xUp T.2.2.1 h j := fun j hj => by rw [← up j (fun i hi => hn i (by omega))]; exact hn j hj
  have bb := xUp_b hT a2 n (fun j hj => all j (by omega))
  have a1' := all n (Nat.le_refl _)
  obtain ⟨c, c1, c2, c3, c4⟩ := a7 n all
  rw [e]
  have ep : (xApp T u m).2.2.1 (xUp T.2.2.1 h n) = T.2.2.1 (xUp T.2.2.1 h n) := zuI_n (by omega)
  have em : (xApp T u m).2.2.2.1 (xUp T.2.2.1 h n) = T.2.2.2.1 (xUp T.2.2.1 h n) := zuI_n (by omega)
  have hp := yTo_p hT (xUp T.2.2.1 h n) a1' (by omega)
  refine ⟨c, ?_, c2, c3, by rw [ep]; exact c4⟩
  rw [ep, em, yP_a hT (by omega)]
  exact c1
end
section
noncomputable def y_GA_add : jY := (⟨"ChessHouse$Game", "add", "(I)V"⟩, prog_7_method_7_code, 5, none)
theorem m_GA_add : jmth lw_tbl y_GA_add 1 := ⟨jTA_in (wi := 1428) (jtF_ok rfl) rfl, jTA_in (wi := 311) (jtF_ok rfl) rfl, by decide, by decide, by decide +kernel⟩
theorem i_GA_add : Jvm.Cond.instanceMethod y_GA_add.1 ∈ jTA lw_tbl := jTA_in (wi := 1426) (jtF_ok rfl) rfl
theorem e_GA_add : Jvm.Cond.selects y_GA_add.1.cls y_GA_add.1 y_GA_add.1 ∈ jTA lw_tbl := jTA_in (wi := 1427) (jtF_ok rfl) rfl
noncomputable def ak_ZGAadd33 : List jI := [(.aload_n 0, 1, (0, 0, 0, 0, 0)), (.dup, 1, (0, 0, 0, 0, 0)), (.getfield 67, 3, (9, 1, 726, 0, 0)), (.iconst 1, 1, (0, 0, 0, 1, 0)), (.iadd, 1, (0, 0, 0, 0, 0)), (.putfield 67, 3, (9, 1, 726, 0, 0)), (.aload_n 0, 1, (0, 0, 0, 0, 0)), (.getfield 67, 3, (9, 1, 726, 0, 0)), (.istore_n 2, 1, (2, 0, 0, 0, 0)), (.aload_n 0, 1, (0, 0, 0, 0, 0)), (.getfield 18, 3, (9, 3, 733, 0, 0)), (.iload_n 2, 1, (2, 0, 0, 0, 0)), (.aload_n 0, 1, (0, 0, 0, 0, 0)), (.getfield 71, 3, (9, 2, 730, 0, 0)), (.iastore, 1, (0, 0, 0, 0, 0)), (.aload_n 0, 1, (0, 0, 0, 0, 0)), (.getfield 22, 3, (9, 4, 736, 0, 0)), (.iload_n 2, 1, (2, 0, 0, 0, 0)), (.iload_n 1, 1, (1, 0, 0, 0, 0)), (.iastore, 1, (0, 0, 0, 0, 0)), (.aload_n 0, 1, (0, 0, 0, 0, 0)), (.getfield 25, 3, (9, 5, 739, 0, 0)), (.iload_n 2, 1, (2, 0, 0, 0, 0)), (.iconst 0, 1, (0, 0, 0, 0, 0)), (.iastore, 1, (0, 0, 0, 0, 0)), (.aload_n 0, 1, (0, 0, 0, 0, 0)), (.getfield 28, 3, (9, 6, 742, 0, 0)), (.iload_n 2, 1, (2, 0, 0, 0, 0)), (.iconst 0, 1, (0, 0, 0, 0, 0)), (.iastore, 1, (0, 0, 0, 0, 0)), (.aload_n 0, 1, (0, 0, 0, 0, 0)), (.getfield 38, 3, (9, 9, 749, 0, 0)), (.iload_n 2, 1, (2, 0, 0, 0, 0)), (.iconst 0, 1, (0, 0, 0, 0, 0)), (.iastore, 1, (0, 0, 0, 0, 0)), (.aload_n 0, 1, (0, 0, 0, 0, 0)), (.getfield 46, 3, (9, 11, 754, 0, 0)), (.iload_n 2, 1, (2, 0, 0, 0, 0)), (.iconst 0, 1, (0, 0, 0, 0, 0)), (.iastore, 1, (0, 0, 0, 0, 0)), (.aload_n 0, 1, (0, 0, 0, 0, 0)), (.getfield 25, 3, (9, 5, 739, 0, 0)), (.aload_n 0, 1, (0, 0, 0, 0, 0)), (.getfield 71, 3, (9, 2, 730, 0, 0)), (.iaload, 1, (0, 0, 0, 0, 0)), (.istore_n 3, 1, (3, 0, 0, 0, 0)), (.iload_n 3, 1, (3, 0, 0, 0, 0)), (.ifCond .ne 16, 3, (87, 0, 0, 0, 0)), (.aload_n 0, 1, (0, 0, 0, 0, 0)), (.getfield 25, 3, (9, 5, 739, 0, 0)), (.aload_n 0, 1, (0, 0, 0, 0, 0)), (.getfield 71, 3, (9, 2, 730, 0, 0)), (.iload_n 2, 1, (2, 0, 0, 0, 0)), (.iastore, 1, (0, 0, 0, 0, 0)), (.goto 43, 3, (127, 0, 0, 0, 0)), (.iconst 0, 1, (0, 0, 0, 0, 0)), (.istore 4, 2, (4, 0, 0, 0, 0)), (.iload 4, 2, (4, 0, 0, 0, 0)), (.sipush 300, 3, (0, 0, 0, 300, 0)), (.if_icmp .ge 25, 3, (120, 0, 0, 0, 0)), (.aload_n 0, 1, (0, 0, 0, 0, 0)), (.getfield 28, 3, (9, 6, 742, 0, 0)), (.iload_n 3, 1, (3, 0, 0, 0, 0)), (.iaload, 1, (0, 0, 0, 0, 0)), (.ifCond .eq 16, 3, (120, 0, 0, 0, 0)), (.aload_n 0, 1, (0, 0, 0, 0, 0)), (.getfield 28, 3, (9, 6, 742, 0, 0)), (.iload_n 3, 1, (3, 0, 0, 0, 0)), (.iaload, 1, (0, 0, 0, 0, 0)), (.istore_n 3, 1, (3, 0, 0, 0, 0)), (.iinc 4 1, 3, (0, 0, 0, 1, 0)), (.goto (-27), 3, (90, 0, 0, 0, 0)), (.aload_n 0, 1, (0, 0, 0, 0, 0)), (.getfield 28, 3, (9, 6, 742, 0, 0)), (.iload_n 3, 1, (3, 0, 0, 0, 0)), (.iload_n 2, 1, (2, 0, 0, 0, 0)), (.iastore, 1, (0, 0, 0, 0, 0)), (.aload_n 0, 1, (0, 0, 0, 0, 0)), (.getfield 12, 3, (9, 0, 722, 0, 0)), (.invokevirtual 92, 3, (0, 0, 1294, 0, 0)), (.aload_n 0, 1, (0, 0, 0, 0, 0)), (.getfield 31, 3, (9, 7, 745, 0, 0)), (.iload_n 2, 1, (2, 0, 0, 0, 0)), (.aload_n 0, 1, (0, 0, 0, 0, 0)), (.getfield 12, 3, (9, 0, 722, 0, 0)), (.iload_n 1, 1, (1, 0, 0, 0, 0)), (.invokevirtual 95, 3, (1, 0, 1303, 0, 0)), (.lastore, 1, (0, 0, 0, 0, 0)), (.aload_n 0, 1, (0, 0, 0, 0, 0)), (.iload_n 2, 1, (2, 0, 0, 0, 0)), (.putfield 71, 3, (9, 2, 730, 0, 0)), (.return_, 1, (0, 0, 0, 0, 0))]
theorem ao_ZGAadd33 : jokLG jtF lk_GA "ChessHouse$Game" jcl jtb 5 prog_7_method_7_code 0 ak_ZGAadd33 = true := by decide +kernel
noncomputable def zm_GAadd33 : zM := (none, { frames := 4, cells := 0, slots := 0, locals := 140 }, ([(92, 1294, 0), (95, 1303, 1)], []), [(y_BO_remember, false, 1, 10, { frames := 3, cells := 0, slots := 0, locals := 120 }, zc_BOrem34), (y_BO_make, false, 2, 10, { frames := 1, cells := 0, slots := 0, locals := 24 }, zc_BOmak34)], ak_ZGAadd33)
noncomputable def zc_GAadd33 (vals : List zv) (W : zW) (post : zPo) : Prop := ∃ x : Int, ∃ T : xT, ∃ h : Int, vals = [.inr (.inr (some (.inl 33))), .inl (x)] ∧ (yTo T ∧ yTo (xApp T h (cMm x)) ∧ yGt W 33 T ∧ yHg W 33 T h ∧ cL (yP T h).1 x ∧ T.2.1 < 300) ∧ ∀ V : zW, (zFy [(34, 2), (34, 3), (34, 4), (34, 5), (34, 6), (34, 16), (33, 1), (33, 2)] [35, 36, 38, 39, 40, 45, 46, 47, 48, 49, 52, 54] [37, 44, 50] W V ∧ yGt V 33 (xApp T h (cMm x)) ∧ yHg V 33 (xApp T h (cMm x)) (T.2.1 + 1) ∧ V.2.1 54 = zuI (W.2.1 54) (T.2.1 + 1) 0) → post none V
set_option maxRecDepth 8000 in
theorem zp_GAadd33_0 {n K : Nat} {W : zW} {post : zPo} {x : Int} {u2 u3 u4 : Option zv} (hK : 55 ≤ K) (hn : 142 ≤ n) (h : (-2147483648 ≤ (W.1 33 1) + 1 ∧ (W.1 33 1) + 1 ≤ 2147483647) ∧ (0 ≤ ((W.1 33 1) + 1) ∧ ((W.1 33 1) + 1) < 301) ∧ (0 ≤ ((W.1 33 1) + 1) ∧ ((W.1 33 1) + 1) < 301) ∧ (0 ≤ ((W.1 33 1) + 1) ∧ ((W.1 33 1) + 1) < 301) ∧ (0 ≤ ((W.1 33 1) + 1) ∧ ((W.1 33 1) + 1) < 301) ∧ (0 ≤ ((W.1 33 1) + 1) ∧ ((W.1 33 1) + 1) < 301) ∧ (0 ≤ ((W.1 33 1) + 1) ∧ ((W.1 33 1) + 1) < 301) ∧ (0 ≤ (W.1 33 2) ∧ (W.1 33 2) < 301) ∧ (¬ (zuI (W.2.1 48) ((W.1 33 1) + 1) 0 (W.1 33 2)) = 0 → zwp jtb zsh n zm_GAadd33 post (K - 50) (lGo ak_ZGAadd33 90) 90 [some (.inr (.inr (some (.inl 33)))), some (.inl (x)), some (.inl ((W.1 33 1) + 1)), some (.inl (zuI (W.2.1 48) ((W.1 33 1) + 1) 0 (W.1 33 2))), some (.inl (0))] [] (zuR (zuR (zuR (zuR (zuR (zuR (zuF W 33 1 ((W.1 33 1) + 1)) 46 ((W.1 33 1) + 1) (W.1 33 2)) 47 ((W.1 33 1) + 1) x) 48 ((W.1 33 1) + 1) 0) 49 ((W.1 33 1) + 1) 0) 52 ((W.1 33 1) + 1) 0) 54 ((W.1 33 1) + 1) 0)) ∧ ((zuI (W.2.1 48) ((W.1 33 1) + 1) 0 (W.1 33 2)) = 0 → (0 ≤ (W.1 33 2) ∧ (W.1 33 2) < 301) ∧ zwp jtb zsh n zm_GAadd33 post (K - 55) (lGo ak_ZGAadd33 127) 127 [some (.inr (.inr (some (.inl 33)))), some (.inl (x)), some (.inl ((W.1 33 1) + 1)), some (.inl (zuI (W.2.1 48) ((W.1 33 1) + 1) 0 (W.1 33 2))), u4] [] (zuR (zuR (zuR (zuR (zuR (zuR (zuR (zuF W 33 1 ((W.1 33 1) + 1)) 46 ((W.1 33 1) + 1) (W.1 33 2)) 47 ((W.1 33 1) + 1) x) 48 ((W.1 33 1) + 1) 0) 49 ((W.1 33 1) + 1) 0) 52 ((W.1 33 1) + 1) 0) 54 ((W.1 33 1) + 1) 0) 48 (W.1 33 2) ((W.1 33 1) + 1)))) : zwp jtb zsh n zm_GAadd33 post K (lGo ak_ZGAadd33 0) 0 [some (.inr (.inr (some (.inl 33)))), some (.inl (x)), u2, u3, u4] [] W := by
  obtain ⟨kk__, rfl⟩ : ∃ kk__, K = kk__ + 55 := ⟨K - 55, by omega⟩
  exact (show 33 < n ∧ 9 = 9 ∧ (-2147483648 ≤ (W.1 33 1) + 1 ∧ (W.1 33 1) + 1 ≤ 2147483647) ∧ 33 < n ∧ 9 = 9 ∧ (some 0 : Option Nat) = some 0 ∧ ((0 : Nat) = 0 ∨ ((0 : Nat) = 1 ∧ (((W.1 33 1) + 1) = 0 ∨ ((W.1 33 1) + 1) = 1))) ∧ 33 < n ∧ 9 = 9 ∧ 33 < n ∧ 9 = 9 ∧ 33 < n ∧ 9 = 9 ∧ 46 < n ∧ FieldType.int = FieldType.int ∧ (0 ≤ ((W.1 33 1) + 1) ∧ ((W.1 33 1) + 1) < 301) ∧ True ∧ 33 < n ∧ 9 = 9 ∧ 47 < n ∧ FieldType.int = FieldType.int ∧ (0 ≤ ((W.1 33 1) + 1) ∧ ((W.1 33 1) + 1) < 301) ∧ True ∧ 33 < n ∧ 9 = 9 ∧ 48 < n ∧ FieldType.int = FieldType.int ∧ (0 ≤ ((W.1 33 1) + 1) ∧ ((W.1 33 1) + 1) < 301) ∧ True ∧ 33 < n ∧ 9 = 9 ∧ 49 < n ∧ FieldType.int = FieldType.int ∧ (0 ≤ ((W.1 33 1) + 1) ∧ ((W.1 33 1) + 1) < 301) ∧ True ∧ 33 < n ∧ 9 = 9 ∧ 52 < n ∧ FieldType.int = FieldType.int ∧ (0 ≤ ((W.1 33 1) + 1) ∧ ((W.1 33 1) + 1) < 301) ∧ True ∧ 33 < n ∧ 9 = 9 ∧ 54 < n ∧ FieldType.int = FieldType.int ∧ (0 ≤ ((W.1 33 1) + 1) ∧ ((W.1 33 1) + 1) < 301) ∧ True ∧ 33 < n ∧ 9 = 9 ∧ 33 < n ∧ 9 = 9 ∧ 48 < n ∧ FieldType.int = FieldType.int ∧ (0 ≤ (W.1 33 2) ∧ (W.1 33 2) < 301) ∧ (¬ (zuI (W.2.1 48) ((W.1 33 1) + 1) 0 (W.1 33 2)) = 0 → zwp jtb zsh n zm_GAadd33 post (kk__ + 5) (lGo ak_ZGAadd33 90) 90 [some (.inr (.inr (some (.inl 33)))), some (.inl (x)), some (.inl ((W.1 33 1) + 1)), some (.inl (zuI (W.2.1 48) ((W.1 33 1) + 1) 0 (W.1 33 2))), some (.inl (0))] [] (zuR (zuR (zuR (zuR (zuR (zuR (zuF W 33 1 ((W.1 33 1) + 1)) 46 ((W.1 33 1) + 1) (W.1 33 2)) 47 ((W.1 33 1) + 1) x) 48 ((W.1 33 1) + 1) 0) 49 ((W.1 33 1) + 1) 0) 52 ((W.1 33 1) + 1) 0) 54 ((W.1 33 1) + 1) 0)) ∧ ((zuI (W.2.1 48) ((W.1 33 1) + 1) 0 (W.1 33 2)) = 0 → 33 < n ∧ 9 = 9 ∧ 33 < n ∧ 9 = 9 ∧ 48 < n ∧ FieldType.int = FieldType.int ∧ (0 ≤ (W.1 33 2) ∧ (W.1 33 2) < 301) ∧ True ∧ zwp jtb zsh n zm_GAadd33 post (kk__ + 0) (lGo ak_ZGAadd33 127) 127 [some (.inr (.inr (some (.inl 33)))), some (.inl (x)), some (.inl ((W.1 33 1) + 1)), some (.inl (zuI (W.2.1 48) ((W.1 33 1) + 1) 0 (W.1 33 2))), u4] [] (zuR (zuR (zuR (zuR (zuR (zuR (zuR (zuF W 33 1 ((W.1 33 1) + 1)) 46 ((W.1 33 1) + 1) (W.1 33 2)) 47 ((W.1 33 1) + 1) x) 48 ((W.1 33 1) + 1) 0) 49 ((W.1 33 1) + 1) 0) 52 ((W.1 33 1) + 1) 0) 54 ((W.1 33 1) + 1) 0) 48 (W.1 33 2) ((W.1 33 1) + 1))) from ⟨(Nat.lt_of_lt_of_le (by decide) hn), rfl, ⟨(h).1, ⟨(Nat.lt_of_lt_of_le (by decide) hn), rfl, rfl, (Or.inl rfl), ⟨(Nat.lt_of_lt_of_le (by decide) hn), rfl, ⟨(Nat.lt_of_lt_of_le (by decide) hn), rfl, ⟨(Nat.lt_of_lt_of_le (by decide) hn), rfl, ⟨(Nat.lt_of_lt_of_le (by decide) hn), rfl, ((h).2).1, trivial, ⟨(Nat.lt_of_lt_of_le (by decide) hn), rfl, ⟨(Nat.lt_of_lt_of_le (by decide) hn), rfl, (((h).2).2).1, trivial, ⟨(Nat.lt_of_lt_of_le (by decide) hn), rfl, ⟨(Nat.lt_of_lt_of_le (by decide) hn), rfl, ((((h).2).2).2).1, trivial, ⟨(Nat.lt_of_lt_of_le (by decide) hn), rfl, ⟨(Nat.lt_of_lt_of_le (by decide) hn), rfl, (((((h).2).2).2).2).1, trivial, ⟨(Nat.lt_of_lt_of_le (by decide) hn), rfl, ⟨(Nat.lt_of_lt_of_le (by decide) hn), rfl, ((((((h).2).2).2).2).2).1, trivial, (have h := ((((((h).2).2).2).2).2).2; ⟨(Nat.lt_of_lt_of_le (by decide) hn), rfl, ⟨(Nat.lt_of_lt_of_le (by decide) hn), rfl, (h).1, trivial, ⟨(Nat.lt_of_lt_of_le (by decide) hn), rfl, ⟨(Nat.lt_of_lt_of_le (by decide) hn), rfl, ⟨(Nat.lt_of_lt_of_le (by decide) hn), rfl, ((h).2).1, ⟨fun c71_47 => ((((h).2).2).1 c71_47), fun c71_47 => ⟨(Nat.lt_of_lt_of_le (by decide) hn), rfl, ⟨(Nat.lt_of_lt_of_le (by decide) hn), rfl, ⟨(Nat.lt_of_lt_of_le (by decide) hn), rfl, (((((h).2).2).2 c71_47)).1, trivial, (((((h).2).2).2 c71_47)).2⟩⟩⟩⟩⟩⟩⟩⟩⟩)⟩⟩⟩⟩⟩⟩⟩⟩⟩⟩⟩⟩⟩⟩⟩)
set_option maxRecDepth 8000 in
theorem zp_GAadd33_90 {n K : Nat} {V : zW} {post : zPo} {x nd la i : Int}  (hK : 15 ≤ K) (hn : 142 ≤ n) (h : (300 ≤ i → (0 ≤ la ∧ la < 301) ∧ zwp jtb zsh n zm_GAadd33 post (K - 8) (lGo ak_ZGAadd33 127) 127 [some (.inr (.inr (some (.inl 33)))), some (.inl (x)), some (.inl (nd)), some (.inl (la)), some (.inl (i))] [] (zuR V 49 la nd)) ∧ (¬ 300 ≤ i → (0 ≤ la ∧ la < 301) ∧ ((V.2.1 49 la) = 0 → (0 ≤ la ∧ la < 301) ∧ zwp jtb zsh n zm_GAadd33 post (K - 13) (lGo ak_ZGAadd33 127) 127 [some (.inr (.inr (some (.inl 33)))), some (.inl (x)), some (.inl (nd)), some (.inl (la)), some (.inl (i))] [] (zuR V 49 la nd)) ∧ (¬ (V.2.1 49 la) = 0 → (0 ≤ la ∧ la < 301) ∧ (-2147483648 ≤ i + 1 ∧ i + 1 ≤ 2147483647) ∧ zwp jtb zsh n zm_GAadd33 post (K - 15) (lGo ak_ZGAadd33 90) 90 [some (.inr (.inr (some (.inl 33)))), some (.inl (x)), some (.inl (nd)), some (.inl (V.2.1 49 la)), some (.inl (i + 1))] [] V))) : zwp jtb zsh n zm_GAadd33 post K (lGo ak_ZGAadd33 90) 90 [some (.inr (.inr (some (.inl 33)))), some (.inl (x)), some (.inl (nd)), some (.inl (la)), some (.inl (i))] [] V := by
  obtain ⟨kk__, rfl⟩ : ∃ kk__, K = kk__ + 15 := ⟨K - 15, by omega⟩
  exact (show (300 ≤ i → 33 < n ∧ 9 = 9 ∧ 49 < n ∧ FieldType.int = FieldType.int ∧ (0 ≤ la ∧ la < 301) ∧ True ∧ zwp jtb zsh n zm_GAadd33 post (kk__ + 7) (lGo ak_ZGAadd33 127) 127 [some (.inr (.inr (some (.inl 33)))), some (.inl (x)), some (.inl (nd)), some (.inl (la)), some (.inl (i))] [] (zuR V 49 la nd)) ∧ (¬ 300 ≤ i → 33 < n ∧ 9 = 9 ∧ 49 < n ∧ FieldType.int = FieldType.int ∧ (0 ≤ la ∧ la < 301) ∧ ((V.2.1 49 la) = 0 → 33 < n ∧ 9 = 9 ∧ 49 < n ∧ FieldType.int = FieldType.int ∧ (0 ≤ la ∧ la < 301) ∧ True ∧ zwp jtb zsh n zm_GAadd33 post (kk__ + 2) (lGo ak_ZGAadd33 127) 127 [some (.inr (.inr (some (.inl 33)))), some (.inl (x)), some (.inl (nd)), some (.inl (la)), some (.inl (i))] [] (zuR V 49 la nd)) ∧ (¬ (V.2.1 49 la) = 0 → 33 < n ∧ 9 = 9 ∧ 49 < n ∧ FieldType.int = FieldType.int ∧ (0 ≤ la ∧ la < 301) ∧ (-2147483648 ≤ i + 1 ∧ i + 1 ≤ 2147483647) ∧ zwp jtb zsh n zm_GAadd33 post (kk__ + 0) (lGo ak_ZGAadd33 90) 90 [some (.inr (.inr (some (.inl 33)))), some (.inl (x)), some (.inl (nd)), some (.inl (V.2.1 49 la)), some (.inl (i + 1))] [] V)) from ⟨fun c95_2 => ⟨(Nat.lt_of_lt_of_le (by decide) hn), rfl, ⟨(Nat.lt_of_lt_of_le (by decide) hn), rfl, (((h).1 c95_2)).1, trivial, (((h).1 c95_2)).2⟩⟩, fun c95_2 => ⟨(Nat.lt_of_lt_of_le (by decide) hn), rfl, ⟨(Nat.lt_of_lt_of_le (by decide) hn), rfl, (((h).2 c95_2)).1, ⟨fun c104_7 => (have h := (((((h).2 c95_2)).2).1 c104_7); ⟨(Nat.lt_of_lt_of_le (by decide) hn), rfl, ⟨(Nat.lt_of_lt_of_le (by decide) hn), rfl, (h).1, trivial, (h).2⟩⟩), fun c104_7 => (have h := (((((h).2 c95_2)).2).2 c104_7); ⟨(Nat.lt_of_lt_of_le (by decide) hn), rfl, ⟨(Nat.lt_of_lt_of_le (by decide) hn), rfl, (h).1, ⟨((h).2).1, ((h).2).2⟩⟩⟩)⟩⟩⟩⟩)
set_option maxRecDepth 8000 in
theorem zp_GAadd33_127 {n K : Nat} {V : zW} {post : zPo} {x nd : Int} {u3 u4 : Option zv} (hK : 15 ≤ K) (hn : 142 ≤ n) (h : (zBg V 34 ∧ (0 ≤ V.1 34 16 ∧ V.1 34 16 ≤ 320)) ∧ ∀ W131 : zW, (zFy [(34, 16)] [45] [44] V W131 ∧ W131.1 34 16 = (if V.1 34 16 < 320 then V.1 34 16 + 1 else V.1 34 16)) → ∃ q144 : rQ, (zBo W131 34 q144 ∧ zGd q144 ∧ cL q144 x ∧ (-1000000 ≤ W131.1 34 6 ∧ W131.1 34 6 ≤ 1000000) ∧ (0 ≤ W131.1 34 5 ∧ W131.1 34 5 ≤ 1000000)) ∧ ∀ r144 : Int64, ∀ W144 : zW, (zMx 34 W131 W144 ∧ zBo W144 34 (rMk q144 (cMm x)) ∧ W144.1 34 6 = W131.1 34 6 + q144.2.1 ∧ cUd r144 (q144.1 (rWh q144 (cMm x))) q144.2.2.1 q144.2.2.2 ∧ (0 ≤ W144.1 34 5 ∧ W144.1 34 5 ≤ W131.1 34 5 + 1) ∧ cUk r144 (W131.1 34 5)) → (0 ≤ nd ∧ nd < 301) ∧ post none (zuF (zuL W144 50 nd.toNat r144) 33 2 nd)) : zwp jtb zsh n zm_GAadd33 post K (lGo ak_ZGAadd33 127) 127 [some (.inr (.inr (some (.inl 33)))), some (.inl (x)), some (.inl (nd)), u3, u4] [] V := by
  obtain ⟨kk__, rfl⟩ : ∃ kk__, K = kk__ + 15 := ⟨K - 15, by omega⟩
  exact (show 33 < n ∧ 9 = 9 ∧ 3 = 3 ∧ false = false ∧ jin3 92 1294 0 zm_GAadd33.2.2.1.1 = true ∧ lRm zm_GAadd33.2.1 { frames := 3, cells := 0, slots := 0, locals := 120 } 1 = true ∧ Nat.ble 1 1 = true ∧ Nat.ble 0 8 = true ∧ 34 < n ∧ 10 = 10 ∧ Nat.ble 1000 10 = false ∧ zc_BOrem34 [.inr (.inr (some (.inl 34)))] V (fun vv__ WW__ => zwp jtb zsh n zm_GAadd33 post (kk__ + 12) (lGo ak_ZGAadd33 134) 134 [some (.inr (.inr (some (.inl 33)))), some (.inl (x)), some (.inl (nd)), u3, u4] (vv__.toList ++ []) WW__) from ⟨(Nat.lt_of_lt_of_le (by decide) hn), rfl, ⟨rfl, rfl, rfl, rfl, rfl, rfl, (Nat.lt_of_lt_of_le (by decide) hn), rfl, rfl, rfl, (h).1, fun W131 hr131 => (show 33 < n ∧ 9 = 9 ∧ 33 < n ∧ 9 = 9 ∧ 3 = 3 ∧ false = false ∧ jin3 95 1303 1 zm_GAadd33.2.2.1.1 = true ∧ lRm zm_GAadd33.2.1 { frames := 1, cells := 0, slots := 0, locals := 24 } 11 = true ∧ Nat.ble 2 4 = true ∧ Nat.ble 2 8 = true ∧ 34 < n ∧ 10 = 10 ∧ Nat.ble 1000 10 = false ∧ zc_BOmak34 [.inr (.inr (some (.inl 34))), .inl (x)] W131 (fun vv__ WW__ => zwp jtb zsh n zm_GAadd33 post (kk__ + 5) (lGo ak_ZGAadd33 147) 147 [some (.inr (.inr (some (.inl 33)))), some (.inl (x)), some (.inl (nd)), u3, u4] (vv__.toList ++ [.inl (nd), .inr (.inr (some (.inl 50)))]) WW__) from ⟨(Nat.lt_of_lt_of_le (by decide) hn), rfl, ⟨(Nat.lt_of_lt_of_le (by decide) hn), rfl, (Exists.elim (((h).2 W131 hr131)) (fun q144 gh144 => ⟨rfl, rfl, rfl, rfl, rfl, rfl, (Nat.lt_of_lt_of_le (by decide) hn), rfl, rfl, x, q144, rfl, (gh144).1, fun r144 W144 hr144 => (show 50 < n ∧ (0 ≤ nd ∧ nd < 301) ∧ 33 < n ∧ 9 = 9 ∧ (some 0 : Option Nat) = some 0 ∧ ((0 : Nat) = 0 ∨ ((0 : Nat) = 1 ∧ (nd = 0 ∨ nd = 1))) ∧ 1 = 1 ∧ (none : Option FieldType) = none ∧ post none (zuF (zuL W144 50 nd.toNat r144) 33 2 nd) from (have h := ((gh144).2 r144 W144 hr144); ⟨(Nat.lt_of_lt_of_le (by decide) hn), (h).1, ⟨(Nat.lt_of_lt_of_le (by decide) hn), rfl, rfl, (Or.inl rfl), ⟨rfl, rfl, (h).2⟩⟩⟩))⟩))⟩⟩)⟩⟩)
set_option maxRecDepth 100000 in
theorem zk_GAadd33 {l : Launch} {E : jE} {n : Nat} (hn : 142 ≤ n) : zHas l E jcl jtb lw_tbl zsh n (y_GA_add, false, 2, 9, { frames := 4, cells := 0, slots := 0, locals := 140 }, zc_GAadd33) := by
  refine ⟨⟨rfl, rfl, ⟨show 1 ≤ 2 by decide, m_GA_add, i_GA_add, e_GA_add, fun _ => ⟨_, rfl, rfl⟩⟩⟩, ?_⟩
  rintro vz W po hO hW ⟨x, T, h, rfl, hq, hp⟩
  refine zmet (m := zm_GAadd33) rfl (by decide) (fun _ _ => jtF_ok) lo_GA ao_ZGAadd33 jC (fun q h => by cases h) (aAllc (fun G h => by obtain rfl := Option.some.inj h; exact ql_GA_92) (aAllc (fun G h => by obtain rfl := Option.some.inj h; exact ql_GA_95) (fun q h => by cases h))) (aAllc (zk_BOrem34 hn) (aAllc (zk_BOmak34 hn) (fun q h => by cases h))) (Nat.le_of_ble_eq_true rfl) hO hW (50000) ?_
  obtain ⟨hT, hT2, hG, hH, hx, h3⟩ := hq
  have hN := hT.1.1
  have a1 := hH.1
  have a2 := hH.2.1
  have eN : W.1 33 1 = T.2.1 := hG.1
  have hKd := hT.1.2.2.1 h a2.1 a2.2
  have ch : xCh (W.2.1 49) (W.2.1 48 h) (T.2.2.2.2.1 h) := (hG.2.2 h a2.1 a2.2).1
  have f0 : zuI (W.2.1 48) (W.1 33 1 + 1) 0 (W.1 33 2) = W.2.1 48 h := by rw [a1]; exact zuI_n (by omega)
  have k0 : zuI (W.2.1 48) (W.1 33 1 + 1) 0 (W.1 33 2) = 0 → T.2.2.2.2.1 h = [] := by
    intro z
    rw [f0] at z
    cases e : T.2.2.2.2.1 h with
    | nil => rfl
    | cons y l => rw [e, z] at ch; exact absurd ch.1.symm ch.2.1
  have h127 : ∀ (K : Nat) (V : zW) (nd : Int) (u3 u4 : Option zv), 60 ≤ K → nd = T.2.1 + 1 → zFy [(33, 1)] [46, 47, 48, 49, 52, 54] [] W V → V.1 33 1 = nd → V.2.1 46 = zuI (W.2.1 46) nd (W.1 33 2) → V.2.1 47 = zuI (W.2.1 47) nd x → V.2.1 52 = zuI (W.2.1 52) nd 0 → V.2.1 54 = zuI (W.2.1 54) nd 0 → ((T.2.2.2.2.1 h = [] ∧ V.2.1 48 = zuI (zuI (W.2.1 48) nd 0) (W.1 33 2) nd ∧ V.2.1 49 = zuI (W.2.1 49) nd 0) ∨ (∃ l y, T.2.2.2.2.1 h = l ++ [y] ∧ V.2.1 48 = zuI (W.2.1 48) nd 0 ∧ V.2.1 49 = zuI (zuI (W.2.1 49) nd 0) y nd)) → zwp jtb zsh n zm_GAadd33 po K (lGo ak_ZGAadd33 127) 127 [some (.inr (.inr (some (.inl 33)))), some (.inl (x)), some (.inl (nd)), u3, u4] [] V := by
    intro K V nd u3 u4 hK end_ hF e1 e13 e14 e19 e21 hc
    have gq := yTo_k hT a2.2
    have nq := yTo_n hT a2.1 a2.2
    have hV : yHg V 33 T h := yHg_x hH (zFy_f hF 33 2) (zBo_x hH.2.2.1 (zFy_r hF 35) (zFy_r hF 36) (zFy_r hF 39) (zFy_r hF 38) (zFy_r hF 41) (zFy_r hF 42) (zFy_r hF 43) (zFy_f hF 34 2) (zFy_f hF 34 3) (zFy_f hF 34 4)) (zFy_f hF 34 6) (zFy_f hF 34 5) (by rw [show V.1 (33 + 1) 16 = W.1 (33 + 1) 16 from zFy_f hF 34 16]; exact hH.2.2.2.2.2.1) (zFy_l hF 50)
    have bq : zBo V 34 (yP T h).1 := hV.2.2.1
    have v6 : V.1 34 6 = (yP T h).2 := hV.2.2.2.1
    have v5 : 0 ≤ V.1 34 5 ∧ V.1 34 5 ≤ 1000 + h := hV.2.2.2.2.1
    have v16 : 0 ≤ V.1 34 16 ∧ V.1 34 16 ≤ 320 := hV.2.2.2.2.2.1
    have bv : zBv V 34 (yP T h).1 900000 := ⟨⟨bq, gq, by omega, by omega⟩, v16⟩
    have s0 : ∀ {A0 : zW}, (zFy [(34, 16)] [45] [44] V A0 ∧ A0.1 34 16 = (if V.1 34 16 < 320 then V.1 34 16 + 1 else V.1 34 16)) → zSv 34 V A0 (yP T h).1 0 := fun h => zRq_s h bv (by decide) _
    have mk : ∀ {A0 : zW}, (zFy [(34, 16)] [45] [44] V A0 ∧ A0.1 34 16 = (if V.1 34 16 < 320 then V.1 34 16 + 1 else V.1 34 16)) → zBo A0 34 (yP T h).1 ∧ zGd (yP T h).1 ∧ cL (yP T h).1 x ∧ (-1000000 ≤ A0.1 34 6 ∧ A0.1 34 6 ≤ 1000000) ∧ (0 ≤ A0.1 34 5 ∧ A0.1 34 5 ≤ 1000000) := by
      intro A0 h
      have s := s0 h
      exact ⟨s.2.1, gq, hx, by rw [s.2.2.2.1]; omega, by rw [s.2.2.1]; omega⟩
    rw [end_, a1] at hc
    rw [end_] at e1 e14 e19 e21
    rw [end_, a1] at e13
    have gV : yGt V 33 (xApp T h (cMm x)) := yGt_a hT.1 hG a2 ⟨hx.1, hx.2.1⟩ e1 e13 e14 e19 hc
    have hV2 : yHg V 33 (xApp T h (cMm x)) h := yHg_a hT hV
    have eP : yP (xApp T h (cMm x)) h = yP T h := yP_a hT a2.2
    have fin : ∀ {A0 A : zW} {r : Int64}, (zFy [(34, 16)] [45] [44] V A0 ∧ A0.1 34 16 = (if V.1 34 16 < 320 then V.1 34 16 + 1 else V.1 34 16)) → (zMx 34 A0 A ∧ zBo A 34 (rMk (yP T h).1 (cMm x)) ∧ A.1 34 6 = A0.1 34 6 + (yP T h).1.2.1 ∧ cUd r ((yP T h).1.1 (rWh (yP T h).1 (cMm x))) (yP T h).1.2.2.1 (yP T h).1.2.2.2 ∧ (0 ≤ A.1 34 5 ∧ A.1 34 5 ≤ A0.1 34 5 + 1) ∧ cUk r (A0.1 34 5)) → zFy [(34, 2), (34, 3), (34, 4), (34, 5), (34, 6), (34, 16), (33, 1), (33, 2)] [35, 36, 38, 39, 40, 45, 46, 47, 48, 49, 52, 54] [37, 44, 50] W (zuF (zuL A 50 nd.toNat r) 33 2 nd) ∧ yGt (zuF (zuL A 50 nd.toNat r) 33 2 nd) 33 (xApp T h (cMm x)) ∧ yHg (zuF (zuL A 50 nd.toNat r) 33 2 nd) 33 (xApp T h (cMm x)) (T.2.1 + 1) ∧ (zuF (zuL A 50 nd.toNat r) 33 2 nd).2.1 54 = zuI (W.2.1 54) (T.2.1 + 1) 0 := by
      intro A0 A r h0 h2
      have s := s0 h0
      have em : (xApp T h (cMm x)).2.2.2.1 nd = cMm x := by rw [end_]; exact zuI_s
      have fy : zFy [(34, 2), (34, 3), (34, 4), (34, 5), (34, 6), (34, 16), (33, 1), (33, 2)] [35, 36, 38, 39, 40, 45, 46, 47, 48, 49, 52, 54] [37, 44, 50] W A := zFy_t (zFy_t (zFy_w hF (by decide) (by decide) (by decide)) (zFy_w h0.1 (by decide) (by decide) (by decide))) (zFy_w h2.1 (by decide) (by decide) (by decide))
      have rr : ∀ c, ((c ∈ [35, 36, 38, 39, 40, 45] : Bool) = false) → A.2.1 c = V.2.1 c := fun c hc => by
        have hc := of_decide_eq_false hc
        rw [h2.1.2.1 c (fun z => hc (by simp only [List.mem_cons, List.not_mem_nil, or_false] at z ⊢; omega)), h0.1.2.1 c (fun z => hc (by simp only [List.mem_cons, List.not_mem_nil, or_false] at z ⊢; omega))]
      refine ⟨zFy_F (zFy_L fy (by decide)) (by decide), yGt_x gV ?_ (rr 46 (by decide)) (rr 47 (by decide)) (rr 48 (by decide)) (rr 49 (by decide)) (rr 52 (by decide)), ?_, ?_⟩
      · show A.1 33 1 = V.1 33 1
        rw [zFy_f h2.1 33 1, zFy_f h0.1 33 1]
      · rw [← end_]
        refine yHg_d hT2 hV2 ⟨by omega, by rw [end_]; exact Int.le_refl _⟩ (by rw [end_]; exact zuI_s) ?_ ?_ ?_ ?_ ?_ ?_ ?_ ?_
        · rw [eP, em]
          exact zBo_F (zBo_x h2.2.1 rfl rfl rfl rfl rfl rfl rfl rfl rfl rfl) (by decide)
        · rw [eP]
          show A.1 34 6 = V.1 34 6 + _
          rw [h2.2.2.1, s.2.2.2.1]
        · show 0 ≤ A.1 34 5 ∧ A.1 34 5 ≤ V.1 34 5 + 1
          rw [← s.2.2.1]
          exact h2.2.2.2.2.1
        · show 0 ≤ A.1 34 16 ∧ A.1 34 16 ≤ 320
          rw [zFy_f h2.1 34 16]
          exact s.2.2.2.2.1
        · rw [zuF_1, if_pos ⟨rfl, rfl⟩]
        · rw [eP, em]
          show cUd ((zuL A 50 nd.toNat r).2.2.1 50 nd.toNat) _ _ _
          rw [zuL_s]
          exact h2.2.2.2.1
        · show cUk ((zuL A 50 nd.toNat r).2.2.1 50 nd.toNat) (V.1 34 5)
          rw [zuL_s, ← s.2.2.1]
          exact h2.2.2.2.2.2
        · intro j hj3
          show (zuL A 50 nd.toNat r).2.2.1 50 j = V.2.2.1 50 j
          rw [zuL_n hj3, zFy_l h2.1 50, zFy_l h0.1 50]
      · show A.2.1 54 = _
        rw [rr 54 (by decide), e21]
    exact zp_GAadd33_127 (by omega) hn ⟨⟨zBo_g bq gq, v16⟩, fun W131 hr131 => ⟨(yP T h).1, (mk hr131), fun r144 W144 hr144 => ⟨(by omega), (hp _ (fin hr131 hr144))⟩⟩⟩
  have h90 : ∀ (V : zW) (nd : Int), nd = T.2.1 + 1 → zFy [(33, 1)] [46, 47, 48, 49, 52, 54] [] W V → V.1 33 1 = nd → V.2.1 46 = zuI (W.2.1 46) nd (W.1 33 2) → V.2.1 47 = zuI (W.2.1 47) nd x → V.2.1 52 = zuI (W.2.1 52) nd 0 → V.2.1 54 = zuI (W.2.1 54) nd 0 → V.2.1 48 = zuI (W.2.1 48) nd 0 → V.2.1 49 = zuI (W.2.1 49) nd 0 → ∀ (mm K : Nat) (la i : Int), 60 * mm + 200 ≤ K → (300 - i < mm ∧ 0 ≤ i ∧ i ≤ 300) → (∃ l1 l2, T.2.2.2.2.1 h = l1 ++ la :: l2 ∧ xCh (V.2.1 49) (V.2.1 49 la) l2 ∧ i = (l1.length : Int)) → zwp jtb zsh n zm_GAadd33 po K (lGo ak_ZGAadd33 90) 90 [some (.inr (.inr (some (.inl 33)))), some (.inl (x)), some (.inl (nd)), some (.inl (la)), some (.inl (i))] [] V := by
    intro V nd end_ hF e1 e13 e14 e19 e21 e15 e16 mm
    induction mm with
    | zero => intro K la i hK h1; omega
    | succ mm ih =>
      rintro K la i hK h1 ⟨l1, l2, q1, q2, q3⟩
      have len := zLen (l := T.2.2.2.2.1 h) (N := T.2.1) (by omega) hKd.1 (fun c hc => by have := (hKd.2 c).1 hc; omega)
      rw [q1, List.length_append, List.length_cons] at len
      have la1 := (hKd.2 la).1 (by rw [q1]; simp)
      have bl : (1 ≤ la ∧ la ≤ 299) ∧ i ≤ 298 := by omega
      have nxt : ¬ V.2.1 49 la = 0 → ∃ l1 l2, T.2.2.2.2.1 h = l1 ++ V.2.1 49 la :: l2 ∧ xCh (V.2.1 49) (V.2.1 49 (V.2.1 49 la)) l2 ∧ i + 1 = (l1.length : Int) := by
        intro z
        cases l2 with
        | nil => exact absurd q2 z
        | cons y l2 =>
          obtain ⟨y1, y2, y3⟩ := q2
          rw [y1]
          exact ⟨l1 ++ [la], l2, by rw [q1]; simp, y3, by rw [List.length_append, List.length_singleton]; omega⟩
      have ed : V.2.1 49 la = 0 → ∃ l y, T.2.2.2.2.1 h = l ++ [y] ∧ (zuR V 49 la nd).2.1 48 = zuI (W.2.1 48) nd 0 ∧ (zuR V 49 la nd).2.1 49 = zuI (zuI (W.2.1 49) nd 0) y nd := by
        intro z
        cases l2 with
        | nil => exact ⟨l1, la, q1, e15, by rw [zuR_f, e16]⟩
        | cons y l2 => rw [z] at q2; exact absurd q2.1.symm q2.2.1
      exact zp_GAadd33_90 (by omega) hn ⟨fun c95 => ⟨(by have := bl; omega), (h127 _ _ _ _ _ (by omega) (by omega) (zFy_R hF (by decide)) e1 e13 e14 e19 e21 (Or.inr (ed (by first | omega | (have := bl; omega)))))⟩, fun c95 => ⟨(by have := bl; omega), ⟨fun c104 => ⟨(by have := bl; omega), (h127 _ _ _ _ _ (by omega) (by omega) (zFy_R hF (by decide)) e1 e13 e14 e19 e21 (Or.inr (ed (by first | omega | (have := bl; omega)))))⟩, fun c104 => ⟨(by have := bl; omega), ⟨(by have := bl; omega), (ih _ _ (i + 1) (by omega) (by omega) (nxt (by omega)))⟩⟩⟩⟩⟩
  have k1 : ¬ zuI (W.2.1 48) (W.1 33 1 + 1) 0 (W.1 33 2) = 0 → ∃ l1 l2, T.2.2.2.2.1 h = l1 ++ zuI (W.2.1 48) (W.1 33 1 + 1) 0 (W.1 33 2) :: l2 ∧ xCh (zuI (W.2.1 49) (W.1 33 1 + 1) 0) (zuI (W.2.1 49) (W.1 33 1 + 1) 0 (zuI (W.2.1 48) (W.1 33 1 + 1) 0 (W.1 33 2))) l2 ∧ 0 = (l1.length : Int) := by
    intro z
    rw [f0] at z ⊢
    cases e : T.2.2.2.2.1 h with
    | nil => rw [e] at ch; exact absurd ch z
    | cons y l =>
      rw [e] at ch
      have hy := fun c hc => (hKd.2 c).1 (by rw [e]; exact hc)
      refine ⟨[], l, by rw [ch.1]; rfl, ?_, rfl⟩
      have y1 := hy y List.mem_cons_self
      rw [ch.1, zuI_n (by omega)]
      refine yCh_e ch.2.2 (fun c hc => zuI_n ?_)
      have := hy c (List.mem_cons_of_mem _ hc)
      omega
  exact zp_GAadd33_0 (by omega) hn ⟨(by omega), ⟨(by omega), ⟨(by omega), ⟨(by omega), ⟨(by omega), ⟨(by omega), ⟨(by omega), ⟨(by omega), ⟨fun c71 => (h90 (zuR (zuR (zuR (zuR (zuR (zuR (zuF W 33 1 ((W.1 33 1) + 1)) 46 ((W.1 33 1) + 1) (W.1 33 2)) 47 ((W.1 33 1) + 1) x) 48 ((W.1 33 1) + 1) 0) 49 ((W.1 33 1) + 1) 0) 52 ((W.1 33 1) + 1) 0) 54 ((W.1 33 1) + 1) 0) (W.1 33 1 + 1) (by omega) (zFy_R (zFy_R (zFy_R (zFy_R (zFy_R (zFy_R (zFy_F zFy_0 (by decide)) (by decide)) (by decide)) (by decide)) (by decide)) (by decide)) (by decide)) rfl rfl rfl rfl rfl rfl rfl 301 _ _ 0 (by omega) (by omega) (k1 (by omega))), fun c71 => ⟨(by omega), (h127 _ _ _ _ _ (by omega) (by omega) (zFy_R (zFy_R (zFy_R (zFy_R (zFy_R (zFy_R (zFy_R (zFy_F zFy_0 (by decide)) (by decide)) (by decide)) (by decide)) (by decide)) (by decide)) (by decide)) (by decide)) rfl rfl rfl rfl rfl (Or.inl ⟨k0 (by omega), rfl, rfl⟩))⟩⟩⟩⟩⟩⟩⟩⟩⟩⟩
noncomputable def ak_ZGAadd60 : List jI := ak_ZGAadd33
theorem ao_ZGAadd60 : jokLG jtF lk_GA "ChessHouse$Game" jcl jtb 5 prog_7_method_7_code 0 ak_ZGAadd60 = true := ao_ZGAadd33
noncomputable def zm_GAadd60 : zM := (none, { frames := 4, cells := 0, slots := 0, locals := 140 }, ([(92, 1294, 0), (95, 1303, 1)], []), [(y_BO_remember, false, 1, 10, { frames := 3, cells := 0, slots := 0, locals := 120 }, zc_BOrem61), (y_BO_make, false, 2, 10, { frames := 1, cells := 0, slots := 0, locals := 24 }, zc_BOmak61)], ak_ZGAadd60)
noncomputable def zc_GAadd60 (vals : List zv) (W : zW) (post : zPo) : Prop := ∃ x : Int, ∃ T : xT, ∃ h : Int, vals = [.inr (.inr (some (.inl 60))), .inl (x)] ∧ (yTo T ∧ yTo (xApp T h (cMm x)) ∧ yGt W 60 T ∧ yHg W 60 T h ∧ cL (yP T h).1 x ∧ T.2.1 < 300) ∧ ∀ V : zW, (zFy [(61, 2), (61, 3), (61, 4), (61, 5), (61, 6), (61, 16), (60, 1), (60, 2)] [62, 63, 65, 66, 67, 72, 73, 74, 75, 76, 79, 81] [64, 71, 77] W V ∧ yGt V 60 (xApp T h (cMm x)) ∧ yHg V 60 (xApp T h (cMm x)) (T.2.1 + 1) ∧ V.2.1 81 = zuI (W.2.1 81) (T.2.1 + 1) 0) → post none V
set_option maxRecDepth 8000 in
theorem zp_GAadd60_0 {n K : Nat} {W : zW} {post : zPo} {x : Int} {u2 u3 u4 : Option zv} (hK : 55 ≤ K) (hn : 142 ≤ n) (h : (-2147483648 ≤ (W.1 60 1) + 1 ∧ (W.1 60 1) + 1 ≤ 2147483647) ∧ (0 ≤ ((W.1 60 1) + 1) ∧ ((W.1 60 1) + 1) < 301) ∧ (0 ≤ ((W.1 60 1) + 1) ∧ ((W.1 60 1) + 1) < 301) ∧ (0 ≤ ((W.1 60 1) + 1) ∧ ((W.1 60 1) + 1) < 301) ∧ (0 ≤ ((W.1 60 1) + 1) ∧ ((W.1 60 1) + 1) < 301) ∧ (0 ≤ ((W.1 60 1) + 1) ∧ ((W.1 60 1) + 1) < 301) ∧ (0 ≤ ((W.1 60 1) + 1) ∧ ((W.1 60 1) + 1) < 301) ∧ (0 ≤ (W.1 60 2) ∧ (W.1 60 2) < 301) ∧ (¬ (zuI (W.2.1 75) ((W.1 60 1) + 1) 0 (W.1 60 2)) = 0 → zwp jtb zsh n zm_GAadd60 post (K - 50) (lGo ak_ZGAadd60 90) 90 [some (.inr (.inr (some (.inl 60)))), some (.inl (x)), some (.inl ((W.1 60 1) + 1)), some (.inl (zuI (W.2.1 75) ((W.1 60 1) + 1) 0 (W.1 60 2))), some (.inl (0))] [] (zuR (zuR (zuR (zuR (zuR (zuR (zuF W 60 1 ((W.1 60 1) + 1)) 73 ((W.1 60 1) + 1) (W.1 60 2)) 74 ((W.1 60 1) + 1) x) 75 ((W.1 60 1) + 1) 0) 76 ((W.1 60 1) + 1) 0) 79 ((W.1 60 1) + 1) 0) 81 ((W.1 60 1) + 1) 0)) ∧ ((zuI (W.2.1 75) ((W.1 60 1) + 1) 0 (W.1 60 2)) = 0 → (0 ≤ (W.1 60 2) ∧ (W.1 60 2) < 301) ∧ zwp jtb zsh n zm_GAadd60 post (K - 55) (lGo ak_ZGAadd60 127) 127 [some (.inr (.inr (some (.inl 60)))), some (.inl (x)), some (.inl ((W.1 60 1) + 1)), some (.inl (zuI (W.2.1 75) ((W.1 60 1) + 1) 0 (W.1 60 2))), u4] [] (zuR (zuR (zuR (zuR (zuR (zuR (zuR (zuF W 60 1 ((W.1 60 1) + 1)) 73 ((W.1 60 1) + 1) (W.1 60 2)) 74 ((W.1 60 1) + 1) x) 75 ((W.1 60 1) + 1) 0) 76 ((W.1 60 1) + 1) 0) 79 ((W.1 60 1) + 1) 0) 81 ((W.1 60 1) + 1) 0) 75 (W.1 60 2) ((W.1 60 1) + 1)))) : zwp jtb zsh n zm_GAadd60 post K (lGo ak_ZGAadd60 0) 0 [some (.inr (.inr (some (.inl 60)))), some (.inl (x)), u2, u3, u4] [] W := by
  obtain ⟨kk__, rfl⟩ : ∃ kk__, K = kk__ + 55 := ⟨K - 55, by omega⟩
  exact (show 60 < n ∧ 9 = 9 ∧ (-2147483648 ≤ (W.1 60 1) + 1 ∧ (W.1 60 1) + 1 ≤ 2147483647) ∧ 60 < n ∧ 9 = 9 ∧ (some 0 : Option Nat) = some 0 ∧ ((0 : Nat) = 0 ∨ ((0 : Nat) = 1 ∧ (((W.1 60 1) + 1) = 0 ∨ ((W.1 60 1) + 1) = 1))) ∧ 60 < n ∧ 9 = 9 ∧ 60 < n ∧ 9 = 9 ∧ 60 < n ∧ 9 = 9 ∧ 73 < n ∧ FieldType.int = FieldType.int ∧ (0 ≤ ((W.1 60 1) + 1) ∧ ((W.1 60 1) + 1) < 301) ∧ True ∧ 60 < n ∧ 9 = 9 ∧ 74 < n ∧ FieldType.int = FieldType.int ∧ (0 ≤ ((W.1 60 1) + 1) ∧ ((W.1 60 1) + 1) < 301) ∧ True ∧ 60 < n ∧ 9 = 9 ∧ 75 < n ∧ FieldType.int = FieldType.int ∧ (0 ≤ ((W.1 60 1) + 1) ∧ ((W.1 60 1) + 1) < 301) ∧ True ∧ 60 < n ∧ 9 = 9 ∧ 76 < n ∧ FieldType.int = FieldType.int ∧ (0 ≤ ((W.1 60 1) + 1) ∧ ((W.1 60 1) + 1) < 301) ∧ True ∧ 60 < n ∧ 9 = 9 ∧ 79 < n ∧ FieldType.int = FieldType.int ∧ (0 ≤ ((W.1 60 1) + 1) ∧ ((W.1 60 1) + 1) < 301) ∧ True ∧ 60 < n ∧ 9 = 9 ∧ 81 < n ∧ FieldType.int = FieldType.int ∧ (0 ≤ ((W.1 60 1) + 1) ∧ ((W.1 60 1) + 1) < 301) ∧ True ∧ 60 < n ∧ 9 = 9 ∧ 60 < n ∧ 9 = 9 ∧ 75 < n ∧ FieldType.int = FieldType.int ∧ (0 ≤ (W.1 60 2) ∧ (W.1 60 2) < 301) ∧ (¬ (zuI (W.2.1 75) ((W.1 60 1) + 1) 0 (W.1 60 2)) = 0 → zwp jtb zsh n zm_GAadd60 post (kk__ + 5) (lGo ak_ZGAadd60 90) 90 [some (.inr (.inr (some (.inl 60)))), some (.inl (x)), some (.inl ((W.1 60 1) + 1)), some (.inl (zuI (W.2.1 75) ((W.1 60 1) + 1) 0 (W.1 60 2))), some (.inl (0))] [] (zuR (zuR (zuR (zuR (zuR (zuR (zuF W 60 1 ((W.1 60 1) + 1)) 73 ((W.1 60 1) + 1) (W.1 60 2)) 74 ((W.1 60 1) + 1) x) 75 ((W.1 60 1) + 1) 0) 76 ((W.1 60 1) + 1) 0) 79 ((W.1 60 1) + 1) 0) 81 ((W.1 60 1) + 1) 0)) ∧ ((zuI (W.2.1 75) ((W.1 60 1) + 1) 0 (W.1 60 2)) = 0 → 60 < n ∧ 9 = 9 ∧ 60 < n ∧ 9 = 9 ∧ 75 < n ∧ FieldType.int = FieldType.int ∧ (0 ≤ (W.1 60 2) ∧ (W.1 60 2) < 301) ∧ True ∧ zwp jtb zsh n zm_GAadd60 post (kk__ + 0) (lGo ak_ZGAadd60 127) 127 [some (.inr (.inr (some (.inl 60)))), some (.inl (x)), some (.inl ((W.1 60 1) + 1)), some (.inl (zuI (W.2.1 75) ((W.1 60 1) + 1) 0 (W.1 60 2))), u4] [] (zuR (zuR (zuR (zuR (zuR (zuR (zuR (zuF W 60 1 ((W.1 60 1) + 1)) 73 ((W.1 60 1) + 1) (W.1 60 2)) 74 ((W.1 60 1) + 1) x) 75 ((W.1 60 1) + 1) 0) 76 ((W.1 60 1) + 1) 0) 79 ((W.1 60 1) + 1) 0) 81 ((W.1 60 1) + 1) 0) 75 (W.1 60 2) ((W.1 60 1) + 1))) from ⟨(Nat.lt_of_lt_of_le (by decide) hn), rfl, ⟨(h).1, ⟨(Nat.lt_of_lt_of_le (by decide) hn), rfl, rfl, (Or.inl rfl), ⟨(Nat.lt_of_lt_of_le (by decide) hn), rfl, ⟨(Nat.lt_of_lt_of_le (by decide) hn), rfl, ⟨(Nat.lt_of_lt_of_le (by decide) hn), rfl, ⟨(Nat.lt_of_lt_of_le (by decide) hn), rfl, ((h).2).1, trivial, ⟨(Nat.lt_of_lt_of_le (by decide) hn), rfl, ⟨(Nat.lt_of_lt_of_le (by decide) hn), rfl, (((h).2).2).1, trivial, ⟨(Nat.lt_of_lt_of_le (by decide) hn), rfl, ⟨(Nat.lt_of_lt_of_le (by decide) hn), rfl, ((((h).2).2).2).1, trivial, ⟨(Nat.lt_of_lt_of_le (by decide) hn), rfl, ⟨(Nat.lt_of_lt_of_le (by decide) hn), rfl, (((((h).2).2).2).2).1, trivial, ⟨(Nat.lt_of_lt_of_le (by decide) hn), rfl, ⟨(Nat.lt_of_lt_of_le (by decide) hn), rfl, ((((((h).2).2).2).2).2).1, trivial, (have h := ((((((h).2).2).2).2).2).2; ⟨(Nat.lt_of_lt_of_le (by decide) hn), rfl, ⟨(Nat.lt_of_lt_of_le (by decide) hn), rfl, (h).1, trivial, ⟨(Nat.lt_of_lt_of_le (by decide) hn), rfl, ⟨(Nat.lt_of_lt_of_le (by decide) hn), rfl, ⟨(Nat.lt_of_lt_of_le (by decide) hn), rfl, ((h).2).1, ⟨fun c71_47 => ((((h).2).2).1 c71_47), fun c71_47 => ⟨(Nat.lt_of_lt_of_le (by decide) hn), rfl, ⟨(Nat.lt_of_lt_of_le (by decide) hn), rfl, ⟨(Nat.lt_of_lt_of_le (by decide) hn), rfl, (((((h).2).2).2 c71_47)).1, trivial, (((((h).2).2).2 c71_47)).2⟩⟩⟩⟩⟩⟩⟩⟩⟩)⟩⟩⟩⟩⟩⟩⟩⟩⟩⟩⟩⟩⟩⟩⟩)
set_option maxRecDepth 8000 in
theorem zp_GAadd60_90 {n K : Nat} {V : zW} {post : zPo} {x nd la i : Int}  (hK : 15 ≤ K) (hn : 142 ≤ n) (h : (300 ≤ i → (0 ≤ la ∧ la < 301) ∧ zwp jtb zsh n zm_GAadd60 post (K - 8) (lGo ak_ZGAadd60 127) 127 [some (.inr (.inr (some (.inl 60)))), some (.inl (x)), some (.inl (nd)), some (.inl (la)), some (.inl (i))] [] (zuR V 76 la nd)) ∧ (¬ 300 ≤ i → (0 ≤ la ∧ la < 301) ∧ ((V.2.1 76 la) = 0 → (0 ≤ la ∧ la < 301) ∧ zwp jtb zsh n zm_GAadd60 post (K - 13) (lGo ak_ZGAadd60 127) 127 [some (.inr (.inr (some (.inl 60)))), some (.inl (x)), some (.inl (nd)), some (.inl (la)), some (.inl (i))] [] (zuR V 76 la nd)) ∧ (¬ (V.2.1 76 la) = 0 → (0 ≤ la ∧ la < 301) ∧ (-2147483648 ≤ i + 1 ∧ i + 1 ≤ 2147483647) ∧ zwp jtb zsh n zm_GAadd60 post (K - 15) (lGo ak_ZGAadd60 90) 90 [some (.inr (.inr (some (.inl 60)))), some (.inl (x)), some (.inl (nd)), some (.inl (V.2.1 76 la)), some (.inl (i + 1))] [] V))) : zwp jtb zsh n zm_GAadd60 post K (lGo ak_ZGAadd60 90) 90 [some (.inr (.inr (some (.inl 60)))), some (.inl (x)), some (.inl (nd)), some (.inl (la)), some (.inl (i))] [] V := by
  obtain ⟨kk__, rfl⟩ : ∃ kk__, K = kk__ + 15 := ⟨K - 15, by omega⟩
  exact (show (300 ≤ i → 60 < n ∧ 9 = 9 ∧ 76 < n ∧ FieldType.int = FieldType.int ∧ (0 ≤ la ∧ la < 301) ∧ True ∧ zwp jtb zsh n zm_GAadd60 post (kk__ + 7) (lGo ak_ZGAadd60 127) 127 [some (.inr (.inr (some (.inl 60)))), some (.inl (x)), some (.inl (nd)), some (.inl (la)), some (.inl (i))] [] (zuR V 76 la nd)) ∧ (¬ 300 ≤ i → 60 < n ∧ 9 = 9 ∧ 76 < n ∧ FieldType.int = FieldType.int ∧ (0 ≤ la ∧ la < 301) ∧ ((V.2.1 76 la) = 0 → 60 < n ∧ 9 = 9 ∧ 76 < n ∧ FieldType.int = FieldType.int ∧ (0 ≤ la ∧ la < 301) ∧ True ∧ zwp jtb zsh n zm_GAadd60 post (kk__ + 2) (lGo ak_ZGAadd60 127) 127 [some (.inr (.inr (some (.inl 60)))), some (.inl (x)), some (.inl (nd)), some (.inl (la)), some (.inl (i))] [] (zuR V 76 la nd)) ∧ (¬ (V.2.1 76 la) = 0 → 60 < n ∧ 9 = 9 ∧ 76 < n ∧ FieldType.int = FieldType.int ∧ (0 ≤ la ∧ la < 301) ∧ (-2147483648 ≤ i + 1 ∧ i + 1 ≤ 2147483647) ∧ zwp jtb zsh n zm_GAadd60 post (kk__ + 0) (lGo ak_ZGAadd60 90) 90 [some (.inr (.inr (some (.inl 60)))), some (.inl (x)), some (.inl (nd)), some (.inl (V.2.1 76 la)), some (.inl (i + 1))] [] V)) from ⟨fun c95_2 => ⟨(Nat.lt_of_lt_of_le (by decide) hn), rfl, ⟨(Nat.lt_of_lt_of_le (by decide) hn), rfl, (((h).1 c95_2)).1, trivial, (((h).1 c95_2)).2⟩⟩, fun c95_2 => ⟨(Nat.lt_of_lt_of_le (by decide) hn), rfl, ⟨(Nat.lt_of_lt_of_le (by decide) hn), rfl, (((h).2 c95_2)).1, ⟨fun c104_7 => (have h := (((((h).2 c95_2)).2).1 c104_7); ⟨(Nat.lt_of_lt_of_le (by decide) hn), rfl, ⟨(Nat.lt_of_lt_of_le (by decide) hn), rfl, (h).1, trivial, (h).2⟩⟩), fun c104_7 => (have h := (((((h).2 c95_2)).2).2 c104_7); ⟨(Nat.lt_of_lt_of_le (by decide) hn), rfl, ⟨(Nat.lt_of_lt_of_le (by decide) hn), rfl, (h).1, ⟨((h).2).1, ((h).2).2⟩⟩⟩)⟩⟩⟩⟩)
set_option maxRecDepth 8000 in
theorem zp_GAadd60_127 {n K : Nat} {V : zW} {post : zPo} {x nd : Int} {u3 u4 : Option zv} (hK : 15 ≤ K) (hn : 142 ≤ n) (h : (zBg V 61 ∧ (0 ≤ V.1 61 16 ∧ V.1 61 16 ≤ 320)) ∧ ∀ W131 : zW, (zFy [(61, 16)] [72] [71] V W131 ∧ W131.1 61 16 = (if V.1 61 16 < 320 then V.1 61 16 + 1 else V.1 61 16)) → ∃ q144 : rQ, (zBo W131 61 q144 ∧ zGd q144 ∧ cL q144 x ∧ (-1000000 ≤ W131.1 61 6 ∧ W131.1 61 6 ≤ 1000000) ∧ (0 ≤ W131.1 61 5 ∧ W131.1 61 5 ≤ 1000000)) ∧ ∀ r144 : Int64, ∀ W144 : zW, (zMx 61 W131 W144 ∧ zBo W144 61 (rMk q144 (cMm x)) ∧ W144.1 61 6 = W131.1 61 6 + q144.2.1 ∧ cUd r144 (q144.1 (rWh q144 (cMm x))) q144.2.2.1 q144.2.2.2 ∧ (0 ≤ W144.1 61 5 ∧ W144.1 61 5 ≤ W131.1 61 5 + 1) ∧ cUk r144 (W131.1 61 5)) → (0 ≤ nd ∧ nd < 301) ∧ post none (zuF (zuL W144 77 nd.toNat r144) 60 2 nd)) : zwp jtb zsh n zm_GAadd60 post K (lGo ak_ZGAadd60 127) 127 [some (.inr (.inr (some (.inl 60)))), some (.inl (x)), some (.inl (nd)), u3, u4] [] V := by
  obtain ⟨kk__, rfl⟩ : ∃ kk__, K = kk__ + 15 := ⟨K - 15, by omega⟩
  exact (show 60 < n ∧ 9 = 9 ∧ 3 = 3 ∧ false = false ∧ jin3 92 1294 0 zm_GAadd60.2.2.1.1 = true ∧ lRm zm_GAadd60.2.1 { frames := 3, cells := 0, slots := 0, locals := 120 } 1 = true ∧ Nat.ble 1 1 = true ∧ Nat.ble 0 8 = true ∧ 61 < n ∧ 10 = 10 ∧ Nat.ble 1000 10 = false ∧ zc_BOrem61 [.inr (.inr (some (.inl 61)))] V (fun vv__ WW__ => zwp jtb zsh n zm_GAadd60 post (kk__ + 12) (lGo ak_ZGAadd60 134) 134 [some (.inr (.inr (some (.inl 60)))), some (.inl (x)), some (.inl (nd)), u3, u4] (vv__.toList ++ []) WW__) from ⟨(Nat.lt_of_lt_of_le (by decide) hn), rfl, ⟨rfl, rfl, rfl, rfl, rfl, rfl, (Nat.lt_of_lt_of_le (by decide) hn), rfl, rfl, rfl, (h).1, fun W131 hr131 => (show 60 < n ∧ 9 = 9 ∧ 60 < n ∧ 9 = 9 ∧ 3 = 3 ∧ false = false ∧ jin3 95 1303 1 zm_GAadd60.2.2.1.1 = true ∧ lRm zm_GAadd60.2.1 { frames := 1, cells := 0, slots := 0, locals := 24 } 11 = true ∧ Nat.ble 2 4 = true ∧ Nat.ble 2 8 = true ∧ 61 < n ∧ 10 = 10 ∧ Nat.ble 1000 10 = false ∧ zc_BOmak61 [.inr (.inr (some (.inl 61))), .inl (x)] W131 (fun vv__ WW__ => zwp jtb zsh n zm_GAadd60 post (kk__ + 5) (lGo ak_ZGAadd60 147) 147 [some (.inr (.inr (some (.inl 60)))), some (.inl (x)), some (.inl (nd)), u3, u4] (vv__.toList ++ [.inl (nd), .inr (.inr (some (.inl 77)))]) WW__) from ⟨(Nat.lt_of_lt_of_le (by decide) hn), rfl, ⟨(Nat.lt_of_lt_of_le (by decide) hn), rfl, (Exists.elim (((h).2 W131 hr131)) (fun q144 gh144 => ⟨rfl, rfl, rfl, rfl, rfl, rfl, (Nat.lt_of_lt_of_le (by decide) hn), rfl, rfl, x, q144, rfl, (gh144).1, fun r144 W144 hr144 => (show 77 < n ∧ (0 ≤ nd ∧ nd < 301) ∧ 60 < n ∧ 9 = 9 ∧ (some 0 : Option Nat) = some 0 ∧ ((0 : Nat) = 0 ∨ ((0 : Nat) = 1 ∧ (nd = 0 ∨ nd = 1))) ∧ 1 = 1 ∧ (none : Option FieldType) = none ∧ post none (zuF (zuL W144 77 nd.toNat r144) 60 2 nd) from (have h := ((gh144).2 r144 W144 hr144); ⟨(Nat.lt_of_lt_of_le (by decide) hn), (h).1, ⟨(Nat.lt_of_lt_of_le (by decide) hn), rfl, rfl, (Or.inl rfl), ⟨rfl, rfl, (h).2⟩⟩⟩))⟩))⟩⟩)⟩⟩)
set_option maxRecDepth 100000 in
theorem zk_GAadd60 {l : Launch} {E : jE} {n : Nat} (hn : 142 ≤ n) : zHas l E jcl jtb lw_tbl zsh n (y_GA_add, false, 2, 9, { frames := 4, cells := 0, slots := 0, locals := 140 }, zc_GAadd60) := by
  refine ⟨⟨rfl, rfl, ⟨show 1 ≤ 2 by decide, m_GA_add, i_GA_add, e_GA_add, fun _ => ⟨_, rfl, rfl⟩⟩⟩, ?_⟩
  rintro vz W po hO hW ⟨x, T, h, rfl, hq, hp⟩
  refine zmet (m := zm_GAadd60) rfl (by decide) (fun _ _ => jtF_ok) lo_GA ao_ZGAadd60 jC (fun q h => by cases h) (aAllc (fun G h => by obtain rfl := Option.some.inj h; exact ql_GA_92) (aAllc (fun G h => by obtain rfl := Option.some.inj h; exact ql_GA_95) (fun q h => by cases h))) (aAllc (zk_BOrem61 hn) (aAllc (zk_BOmak61 hn) (fun q h => by cases h))) (Nat.le_of_ble_eq_true rfl) hO hW (50000) ?_
  obtain ⟨hT, hT2, hG, hH, hx, h3⟩ := hq
  have hN := hT.1.1
  have a1 := hH.1
  have a2 := hH.2.1
  have eN : W.1 60 1 = T.2.1 := hG.1
  have hKd := hT.1.2.2.1 h a2.1 a2.2
  have ch : xCh (W.2.1 76) (W.2.1 75 h) (T.2.2.2.2.1 h) := (hG.2.2 h a2.1 a2.2).1
  have f0 : zuI (W.2.1 75) (W.1 60 1 + 1) 0 (W.1 60 2) = W.2.1 75 h := by rw [a1]; exact zuI_n (by omega)
  have k0 : zuI (W.2.1 75) (W.1 60 1 + 1) 0 (W.1 60 2) = 0 → T.2.2.2.2.1 h = [] := by
    intro z
    rw [f0] at z
    cases e : T.2.2.2.2.1 h with
    | nil => rfl
    | cons y l => rw [e, z] at ch; exact absurd ch.1.symm ch.2.1
  have h127 : ∀ (K : Nat) (V : zW) (nd : Int) (u3 u4 : Option zv), 60 ≤ K → nd = T.2.1 + 1 → zFy [(60, 1)] [73, 74, 75, 76, 79, 81] [] W V → V.1 60 1 = nd → V.2.1 73 = zuI (W.2.1 73) nd (W.1 60 2) → V.2.1 74 = zuI (W.2.1 74) nd x → V.2.1 79 = zuI (W.2.1 79) nd 0 → V.2.1 81 = zuI (W.2.1 81) nd 0 → ((T.2.2.2.2.1 h = [] ∧ V.2.1 75 = zuI (zuI (W.2.1 75) nd 0) (W.1 60 2) nd ∧ V.2.1 76 = zuI (W.2.1 76) nd 0) ∨ (∃ l y, T.2.2.2.2.1 h = l ++ [y] ∧ V.2.1 75 = zuI (W.2.1 75) nd 0 ∧ V.2.1 76 = zuI (zuI (W.2.1 76) nd 0) y nd)) → zwp jtb zsh n zm_GAadd60 po K (lGo ak_ZGAadd60 127) 127 [some (.inr (.inr (some (.inl 60)))), some (.inl (x)), some (.inl (nd)), u3, u4] [] V := by
    intro K V nd u3 u4 hK end_ hF e1 e13 e14 e19 e21 hc
    have gq := yTo_k hT a2.2
    have nq := yTo_n hT a2.1 a2.2
    have hV : yHg V 60 T h := yHg_x hH (zFy_f hF 60 2) (zBo_x hH.2.2.1 (zFy_r hF 62) (zFy_r hF 63) (zFy_r hF 66) (zFy_r hF 65) (zFy_r hF 68) (zFy_r hF 69) (zFy_r hF 70) (zFy_f hF 61 2) (zFy_f hF 61 3) (zFy_f hF 61 4)) (zFy_f hF 61 6) (zFy_f hF 61 5) (by rw [show V.1 (60 + 1) 16 = W.1 (60 + 1) 16 from zFy_f hF 61 16]; exact hH.2.2.2.2.2.1) (zFy_l hF 77)
    have bq : zBo V 61 (yP T h).1 := hV.2.2.1
    have v6 : V.1 61 6 = (yP T h).2 := hV.2.2.2.1
    have v5 : 0 ≤ V.1 61 5 ∧ V.1 61 5 ≤ 1000 + h := hV.2.2.2.2.1
    have v16 : 0 ≤ V.1 61 16 ∧ V.1 61 16 ≤ 320 := hV.2.2.2.2.2.1
    have bv : zBv V 61 (yP T h).1 900000 := ⟨⟨bq, gq, by omega, by omega⟩, v16⟩
    have s0 : ∀ {A0 : zW}, (zFy [(61, 16)] [72] [71] V A0 ∧ A0.1 61 16 = (if V.1 61 16 < 320 then V.1 61 16 + 1 else V.1 61 16)) → zSv 61 V A0 (yP T h).1 0 := fun h => zRq_s h bv (by decide) _
    have mk : ∀ {A0 : zW}, (zFy [(61, 16)] [72] [71] V A0 ∧ A0.1 61 16 = (if V.1 61 16 < 320 then V.1 61 16 + 1 else V.1 61 16)) → zBo A0 61 (yP T h).1 ∧ zGd (yP T h).1 ∧ cL (yP T h).1 x ∧ (-1000000 ≤ A0.1 61 6 ∧ A0.1 61 6 ≤ 1000000) ∧ (0 ≤ A0.1 61 5 ∧ A0.1 61 5 ≤ 1000000) := by
      intro A0 h
      have s := s0 h
      exact ⟨s.2.1, gq, hx, by rw [s.2.2.2.1]; omega, by rw [s.2.2.1]; omega⟩
    rw [end_, a1] at hc
    rw [end_] at e1 e14 e19 e21
    rw [end_, a1] at e13
    have gV : yGt V 60 (xApp T h (cMm x)) := yGt_a hT.1 hG a2 ⟨hx.1, hx.2.1⟩ e1 e13 e14 e19 hc
    have hV2 : yHg V 60 (xApp T h (cMm x)) h := yHg_a hT hV
    have eP : yP (xApp T h (cMm x)) h = yP T h := yP_a hT a2.2
    have fin : ∀ {A0 A : zW} {r : Int64}, (zFy [(61, 16)] [72] [71] V A0 ∧ A0.1 61 16 = (if V.1 61 16 < 320 then V.1 61 16 + 1 else V.1 61 16)) → (zMx 61 A0 A ∧ zBo A 61 (rMk (yP T h).1 (cMm x)) ∧ A.1 61 6 = A0.1 61 6 + (yP T h).1.2.1 ∧ cUd r ((yP T h).1.1 (rWh (yP T h).1 (cMm x))) (yP T h).1.2.2.1 (yP T h).1.2.2.2 ∧ (0 ≤ A.1 61 5 ∧ A.1 61 5 ≤ A0.1 61 5 + 1) ∧ cUk r (A0.1 61 5)) → zFy [(61, 2), (61, 3), (61, 4), (61, 5), (61, 6), (61, 16), (60, 1), (60, 2)] [62, 63, 65, 66, 67, 72, 73, 74, 75, 76, 79, 81] [64, 71, 77] W (zuF (zuL A 77 nd.toNat r) 60 2 nd) ∧ yGt (zuF (zuL A 77 nd.toNat r) 60 2 nd) 60 (xApp T h (cMm x)) ∧ yHg (zuF (zuL A 77 nd.toNat r) 60 2 nd) 60 (xApp T h (cMm x)) (T.2.1 + 1) ∧ (zuF (zuL A 77 nd.toNat r) 60 2 nd).2.1 81 = zuI (W.2.1 81) (T.2.1 + 1) 0 := by
      intro A0 A r h0 h2
      have s := s0 h0
      have em : (xApp T h (cMm x)).2.2.2.1 nd = cMm x := by rw [end_]; exact zuI_s
      have fy : zFy [(61, 2), (61, 3), (61, 4), (61, 5), (61, 6), (61, 16), (60, 1), (60, 2)] [62, 63, 65, 66, 67, 72, 73, 74, 75, 76, 79, 81] [64, 71, 77] W A := zFy_t (zFy_t (zFy_w hF (by decide) (by decide) (by decide)) (zFy_w h0.1 (by decide) (by decide) (by decide))) (zFy_w h2.1 (by decide) (by decide) (by decide))
      have rr : ∀ c, ((c ∈ [62, 63, 65, 66, 67, 72] : Bool) = false) → A.2.1 c = V.2.1 c := fun c hc => by
        have hc := of_decide_eq_false hc
        rw [h2.1.2.1 c (fun z => hc (by simp only [List.mem_cons, List.not_mem_nil, or_false] at z ⊢; omega)), h0.1.2.1 c (fun z => hc (by simp only [List.mem_cons, List.not_mem_nil, or_false] at z ⊢; omega))]
      refine ⟨zFy_F (zFy_L fy (by decide)) (by decide), yGt_x gV ?_ (rr 73 (by decide)) (rr 74 (by decide)) (rr 75 (by decide)) (rr 76 (by decide)) (rr 79 (by decide)), ?_, ?_⟩
      · show A.1 60 1 = V.1 60 1
        rw [zFy_f h2.1 60 1, zFy_f h0.1 60 1]
      · rw [← end_]
        refine yHg_d hT2 hV2 ⟨by omega, by rw [end_]; exact Int.le_refl _⟩ (by rw [end_]; exact zuI_s) ?_ ?_ ?_ ?_ ?_ ?_ ?_ ?_
        · rw [eP, em]
          exact zBo_F (zBo_x h2.2.1 rfl rfl rfl rfl rfl rfl rfl rfl rfl rfl) (by decide)
        · rw [eP]
          show A.1 61 6 = V.1 61 6 + _
          rw [h2.2.2.1, s.2.2.2.1]
        · show 0 ≤ A.1 61 5 ∧ A.1 61 5 ≤ V.1 61 5 + 1
          rw [← s.2.2.1]
          exact h2.2.2.2.2.1
        · show 0 ≤ A.1 61 16 ∧ A.1 61 16 ≤ 320
          rw [zFy_f h2.1 61 16]
          exact s.2.2.2.2.1
        · rw [zuF_1, if_pos ⟨rfl, rfl⟩]
        · rw [eP, em]
          show cUd ((zuL A 77 nd.toNat r).2.2.1 77 nd.toNat) _ _ _
          rw [zuL_s]
          exact h2.2.2.2.1
        · show cUk ((zuL A 77 nd.toNat r).2.2.1 77 nd.toNat) (V.1 61 5)
          rw [zuL_s, ← s.2.2.1]
          exact h2.2.2.2.2.2
        · intro j hj3
          show (zuL A 77 nd.toNat r).2.2.1 77 j = V.2.2.1 77 j
          rw [zuL_n hj3, zFy_l h2.1 77, zFy_l h0.1 77]
      · show A.2.1 81 = _
        rw [rr 81 (by decide), e21]
    exact zp_GAadd60_127 (by omega) hn ⟨⟨zBo_g bq gq, v16⟩, fun W131 hr131 => ⟨(yP T h).1, (mk hr131), fun r144 W144 hr144 => ⟨(by omega), (hp _ (fin hr131 hr144))⟩⟩⟩
  have h90 : ∀ (V : zW) (nd : Int), nd = T.2.1 + 1 → zFy [(60, 1)] [73, 74, 75, 76, 79, 81] [] W V → V.1 60 1 = nd → V.2.1 73 = zuI (W.2.1 73) nd (W.1 60 2) → V.2.1 74 = zuI (W.2.1 74) nd x → V.2.1 79 = zuI (W.2.1 79) nd 0 → V.2.1 81 = zuI (W.2.1 81) nd 0 → V.2.1 75 = zuI (W.2.1 75) nd 0 → V.2.1 76 = zuI (W.2.1 76) nd 0 → ∀ (mm K : Nat) (la i : Int), 60 * mm + 200 ≤ K → (300 - i < mm ∧ 0 ≤ i ∧ i ≤ 300) → (∃ l1 l2, T.2.2.2.2.1 h = l1 ++ la :: l2 ∧ xCh (V.2.1 76) (V.2.1 76 la) l2 ∧ i = (l1.length : Int)) → zwp jtb zsh n zm_GAadd60 po K (lGo ak_ZGAadd60 90) 90 [some (.inr (.inr (some (.inl 60)))), some (.inl (x)), some (.inl (nd)), some (.inl (la)), some (.inl (i))] [] V := by
    intro V nd end_ hF e1 e13 e14 e19 e21 e15 e16 mm
    induction mm with
    | zero => intro K la i hK h1; omega
    | succ mm ih =>
      rintro K la i hK h1 ⟨l1, l2, q1, q2, q3⟩
      have len := zLen (l := T.2.2.2.2.1 h) (N := T.2.1) (by omega) hKd.1 (fun c hc => by have := (hKd.2 c).1 hc; omega)
      rw [q1, List.length_append, List.length_cons] at len
      have la1 := (hKd.2 la).1 (by rw [q1]; simp)
      have bl : (1 ≤ la ∧ la ≤ 299) ∧ i ≤ 298 := by omega
      have nxt : ¬ V.2.1 76 la = 0 → ∃ l1 l2, T.2.2.2.2.1 h = l1 ++ V.2.1 76 la :: l2 ∧ xCh (V.2.1 76) (V.2.1 76 (V.2.1 76 la)) l2 ∧ i + 1 = (l1.length : Int) := by
        intro z
        cases l2 with
        | nil => exact absurd q2 z
        | cons y l2 =>
          obtain ⟨y1, y2, y3⟩ := q2
          rw [y1]
          exact ⟨l1 ++ [la], l2, by rw [q1]; simp, y3, by rw [List.length_append, List.length_singleton]; omega⟩
      have ed : V.2.1 76 la = 0 → ∃ l y, T.2.2.2.2.1 h = l ++ [y] ∧ (zuR V 76 la nd).2.1 75 = zuI (W.2.1 75) nd 0 ∧ (zuR V 76 la nd).2.1 76 = zuI (zuI (W.2.1 76) nd 0) y nd := by
        intro z
        cases l2 with
        | nil => exact ⟨l1, la, q1, e15, by rw [zuR_f, e16]⟩
        | cons y l2 => rw [z] at q2; exact absurd q2.1.symm q2.2.1
      exact zp_GAadd60_90 (by omega) hn ⟨fun c95 => ⟨(by have := bl; omega), (h127 _ _ _ _ _ (by omega) (by omega) (zFy_R hF (by decide)) e1 e13 e14 e19 e21 (Or.inr (ed (by first | omega | (have := bl; omega)))))⟩, fun c95 => ⟨(by have := bl; omega), ⟨fun c104 => ⟨(by have := bl; omega), (h127 _ _ _ _ _ (by omega) (by omega) (zFy_R hF (by decide)) e1 e13 e14 e19 e21 (Or.inr (ed (by first | omega | (have := bl; omega)))))⟩, fun c104 => ⟨(by have := bl; omega), ⟨(by have := bl; omega), (ih _ _ (i + 1) (by omega) (by omega) (nxt (by omega)))⟩⟩⟩⟩⟩
  have k1 : ¬ zuI (W.2.1 75) (W.1 60 1 + 1) 0 (W.1 60 2) = 0 → ∃ l1 l2, T.2.2.2.2.1 h = l1 ++ zuI (W.2.1 75) (W.1 60 1 + 1) 0 (W.1 60 2) :: l2 ∧ xCh (zuI (W.2.1 76) (W.1 60 1 + 1) 0) (zuI (W.2.1 76) (W.1 60 1 + 1) 0 (zuI (W.2.1 75) (W.1 60 1 + 1) 0 (W.1 60 2))) l2 ∧ 0 = (l1.length : Int) := by
    intro z
    rw [f0] at z ⊢
    cases e : T.2.2.2.2.1 h with
    | nil => rw [e] at ch; exact absurd ch z
    | cons y l =>
      rw [e] at ch
      have hy := fun c hc => (hKd.2 c).1 (by rw [e]; exact hc)
      refine ⟨[], l, by rw [ch.1]; rfl, ?_, rfl⟩
      have y1 := hy y List.mem_cons_self
      rw [ch.1, zuI_n (by omega)]
      refine yCh_e ch.2.2 (fun c hc => zuI_n ?_)
      have := hy c (List.mem_cons_of_mem _ hc)
      omega
  exact zp_GAadd60_0 (by omega) hn ⟨(by omega), ⟨(by omega), ⟨(by omega), ⟨(by omega), ⟨(by omega), ⟨(by omega), ⟨(by omega), ⟨(by omega), ⟨fun c71 => (h90 (zuR (zuR (zuR (zuR (zuR (zuR (zuF W 60 1 ((W.1 60 1) + 1)) 73 ((W.1 60 1) + 1) (W.1 60 2)) 74 ((W.1 60 1) + 1) x) 75 ((W.1 60 1) + 1) 0) 76 ((W.1 60 1) + 1) 0) 79 ((W.1 60 1) + 1) 0) 81 ((W.1 60 1) + 1) 0) (W.1 60 1 + 1) (by omega) (zFy_R (zFy_R (zFy_R (zFy_R (zFy_R (zFy_R (zFy_F zFy_0 (by decide)) (by decide)) (by decide)) (by decide)) (by decide)) (by decide)) (by decide)) rfl rfl rfl rfl rfl rfl rfl 301 _ _ 0 (by omega) (by omega) (k1 (by omega))), fun c71 => ⟨(by omega), (h127 _ _ _ _ _ (by omega) (by omega) (zFy_R (zFy_R (zFy_R (zFy_R (zFy_R (zFy_R (zFy_R (zFy_F zFy_0 (by decide)) (by decide)) (by decide)) (by decide)) (by decide)) (by decide)) (by decide)) (by decide)) rfl rfl rfl rfl rfl (Or.inl ⟨k0 (by omega), rfl, rfl⟩))⟩⟩⟩⟩⟩⟩⟩⟩⟩⟩
end
section
/-! a child by its move, how deep a node is: class and tree -/
theorem yFd {mv w : Int → Int} {x : Int} (hx : 0 ≤ x ∧ x < 32768) : ∀ {l : List Int}, (∀ c ∈ l, 1 ≤ c ∧ (0 ≤ w c ∧ w c < 32768) ∧ cMm (w c) = mv c) → (xFd w x l = 0 ∧ xFr mv (cMm x) l < 0) ∨ (xFd w x l = xFr mv (cMm x) l ∧ 1 ≤ xFd w x l ∧ xFd w x l ∈ l ∧ mv (xFd w x l) = cMm x)
  | [], _ => Or.inl ⟨rfl, by show (-1 : Int) < 0; decide⟩
  | c :: l, h => by
    have hc := h c List.mem_cons_self
    by_cases e : w c = x
    · have e2 : mv c = cMm x := by rw [← hc.2.2, e]
      right
      have f1 : xFd w x (c :: l) = c := if_pos e
      have f2 : xFr mv (cMm x) (c :: l) = c := if_pos e2
      rw [f1, f2]
      exact ⟨rfl, hc.1, List.mem_cons_self, e2⟩
    · have e2 : ¬ mv c = cMm x := fun z => e (cMm_i hc.2.1 hx (hc.2.2.trans z))
      have f1 : xFd w x (c :: l) = xFd w x l := if_neg e
      have f2 : xFr mv (cMm x) (c :: l) = xFr mv (cMm x) l := if_neg e2
      rw [f1, f2]
      rcases yFd hx (l := l) (fun z hz => h z (List.mem_cons_of_mem _ hz)) with k | k
      · exact Or.inl k
      · exact Or.inr ⟨k.1, k.2.1, List.mem_cons_of_mem _ k.2.2.1, k.2.2.2⟩
theorem yGt_c {W : zW} {g : Nat} {T : xT} (hT : xTok T) (hG : yGt W g T) {h : Int} (h0 : 0 ≤ h) (h1 : h ≤ T.2.1) : ∀ c ∈ T.2.2.2.2.1 h, 1 ≤ c ∧ (0 ≤ W.2.1 (g + 14) c ∧ W.2.1 (g + 14) c < 32768) ∧ cMm (W.2.1 (g + 14) c) = T.2.2.2.1 c := by
  intro c hc
  have k := ((hT.2.2.1 h h0 h1).2 c).1 hc
  have e := hG.2.1 c k.1 k.2.1
  exact ⟨k.1, e.2⟩
theorem trD_k {pa pa' ld ld' : Int → Int} {N : Int} (hP : trP pa N) (h1 : ∀ k, 1 ≤ k → k ≤ N → pa' k = pa k) (h2 : ∀ i, 0 ≤ i → i ≤ N → ld' i = ld i) : ∀ (n : Nat) (k : Int), k ≤ N → trD pa' ld' n k = trD pa ld n k
  | 0, _, _ => rfl
  | n + 1, k, h => by
    show (if k ≤ 0 then 0 else trD pa' ld' n (pa' k) + (if ld' (pa' k) = k then 0 else 1)) = (if k ≤ 0 then 0 else trD pa ld n (pa k) + (if ld (pa k) = k then 0 else 1))
    by_cases c : k ≤ 0
    · rw [if_pos c, if_pos c]
    · have hp := hP k (by omega) h
      rw [if_neg c, if_neg c, h1 k (by omega) h, trD_k hP h1 h2 n (pa k) (by omega), h2 (pa k) hp.1 (by omega)]
theorem yGt_d {W : zW} {g : Nat} {T : xT} (hT : yTo T) (hG : yGt W g T) {k : Int} (h1 : k ≤ T.2.1) : trE (W.2.1 (g + 13)) (W.2.1 (g + 15)) k = trE T.2.2.1 (xLd T.2.2.2.2.1) k := by
  refine trD_k (yTo_p hT) (fun j j0 j1 => (hG.2.1 j j0 j1).1) (fun i i0 i1 => ?_) _ k h1
  have ch := (hG.2.2 i i0 i1).1
  unfold xLd
  cases e : T.2.2.2.2.1 i with
  | nil => rw [e] at ch; exact ch
  | cons y l => rw [e] at ch; exact ch.1
theorem yGt_p {W : zW} {g : Nat} {T : xT} (hT : yTo T) (hG : yGt W g T) : trP (W.2.1 (g + 13)) T.2.1 := fun k k0 k1 => by rw [(hG.2.1 k k0 k1).1]; exact yTo_p hT k k0 k1
theorem yGt_f {W : zW} {g : Nat} {T : xT} (hG : yGt W g T) {h : Int} (h0 : 0 ≤ h) (h1 : h ≤ T.2.1) : W.2.1 (g + 15) h = 0 ↔ T.2.2.2.2.1 h = [] := by
  have ch := (hG.2.2 h h0 h1).1
  cases e : T.2.2.2.2.1 h with
  | nil => rw [e] at ch; exact ⟨fun _ => rfl, fun _ => ch⟩
  | cons y l => rw [e] at ch; exact ⟨fun z => absurd (ch.1.symm.trans z) ch.2.1, fun z => by cases z⟩
end
section
noncomputable def zc_GAchd33 (vals : List zv) (W : zW) (post : zPo) : Prop := ∃ x : Int, ∃ T : xT, ∃ h : Int, vals = [.inr (.inr (some (.inl 33))), .inl (x)] ∧ (yTo T ∧ yGt W 33 T ∧ W.1 33 2 = h ∧ (0 ≤ h ∧ h ≤ T.2.1) ∧ (0 ≤ x ∧ x < 32768)) ∧ ∀ r : Int, ((r = 0 ∧ xCw T h (cMm x) < 0) ∨ (r = xCw T h (cMm x) ∧ 1 ≤ r ∧ r ∈ T.2.2.2.2.1 h ∧ T.2.2.2.1 r = cMm x)) → post (some (.inl r)) W
theorem zk_GAchd33 {l : Launch} {E : jE} {n : Nat} (hn : 142 ≤ n) : zHas l E jcl jtb lw_tbl zsh n (y_GA_child, false, 2, 9, { frames := 0, cells := 0, slots := 0, locals := 0 }, zc_GAchd33) := by
  refine zHas_m (zk_child33 hn) (fun vz W po h => ?_)
  obtain ⟨x, T, hh, rfl, ⟨hT, hG, h2, h0, hx⟩, hp⟩ := h
  have hN := hT.1.1
  have hKd := hT.1.2.2.1 hh h0.1 h0.2
  have len := zLen (l := T.2.2.2.2.1 hh) (N := T.2.1) (by omega) hKd.1 (fun c hc => by have := (hKd.2 c).1 hc; omega)
  refine ⟨x, T.2.2.2.2.1 hh, rfl, by omega, by omega, by rw [h2]; exact (hG.2.2 hh h0.1 h0.2).1, fun c hc => by have := (hKd.2 c).1 hc; omega, by omega, hp _ ?_⟩
  exact yFd hx (yGt_c hT.1 hG h0.1 h0.2)
noncomputable def zc_GAdpt33 (vals : List zv) (W : zW) (post : zPo) : Prop := ∃ a : Int, ∃ T : xT, vals = [.inr (.inr (some (.inl 33))), .inl (a)] ∧ (yTo T ∧ yGt W 33 T ∧ (0 ≤ a ∧ a ≤ T.2.1)) ∧ ∀ r : Int, (r = trE T.2.2.1 (xLd T.2.2.2.2.1) a) → post (some (.inl r)) W
theorem zk_GAdpt33 {l : Launch} {E : jE} {n : Nat} (hn : 142 ≤ n) : zHas l E jcl jtb lw_tbl zsh n (y_GA_deep, false, 2, 9, { frames := 1, cells := 0, slots := 0, locals := 21 }, zc_GAdpt33) := by
  refine zHas_m (zk_deep33 hn) (fun vz W po h => ?_)
  obtain ⟨a, T, rfl, ⟨hT, hG, h0⟩, hp⟩ := h
  exact ⟨a, T.2.1, rfl, hT.1.1.2, yGt_p hT hG, h0.1, h0.2, hp _ (yGt_d hT hG h0.2)⟩
noncomputable def y_GA_play : jY := (⟨"ChessHouse$Game", "play", "(I)Z"⟩, prog_7_method_6_code, 3, (some .boolean))
theorem m_GA_play : jmth lw_tbl y_GA_play 1 := ⟨jTA_in (wi := 1552) (jtF_ok rfl) rfl, jTA_in (wi := 311) (jtF_ok rfl) rfl, by decide, by decide, by decide +kernel⟩
theorem i_GA_play : Jvm.Cond.instanceMethod y_GA_play.1 ∈ jTA lw_tbl := jTA_in (wi := 1550) (jtF_ok rfl) rfl
theorem e_GA_play : Jvm.Cond.selects y_GA_play.1.cls y_GA_play.1 y_GA_play.1 ∈ jTA lw_tbl := jTA_in (wi := 1551) (jtF_ok rfl) rfl
noncomputable def ak_ZGAply33 : List jI := [(.aload_n 0, 1, (0, 0, 0, 0, 0)), (.iload_n 1, 1, (1, 0, 0, 0, 0)), (.invokevirtual 88, 3, (0, 0, 1553, 0, 0)), (.istore_n 2, 1, (2, 0, 0, 0, 0)), (.iload_n 2, 1, (2, 0, 0, 0, 0)), (.ifCond .eq 31, 3, (38, 0, 0, 0, 0)), (.aload_n 0, 1, (0, 0, 0, 0, 0)), (.getfield 12, 3, (9, 0, 722, 0, 0)), (.invokevirtual 92, 3, (1, 0, 1294, 0, 0)), (.aload_n 0, 1, (0, 0, 0, 0, 0)), (.getfield 31, 3, (9, 7, 745, 0, 0)), (.iload_n 2, 1, (2, 0, 0, 0, 0)), (.aload_n 0, 1, (0, 0, 0, 0, 0)), (.getfield 12, 3, (9, 0, 722, 0, 0)), (.iload_n 1, 1, (1, 0, 0, 0, 0)), (.invokevirtual 95, 3, (2, 0, 1303, 0, 0)), (.lastore, 1, (0, 0, 0, 0, 0)), (.aload_n 0, 1, (0, 0, 0, 0, 0)), (.iload_n 2, 1, (2, 0, 0, 0, 0)), (.putfield 71, 3, (9, 2, 730, 0, 0)), (.iconst 1, 1, (0, 0, 0, 1, 0)), (.ireturn, 1, (0, 0, 0, 0, 0)), (.aload_n 0, 1, (0, 0, 0, 0, 0)), (.getfield 67, 3, (9, 1, 726, 0, 0)), (.sipush 300, 3, (0, 0, 0, 300, 0)), (.if_icmp .eq 28, 3, (73, 0, 0, 0, 0)), (.aload_n 0, 1, (0, 0, 0, 0, 0)), (.getfield 25, 3, (9, 5, 739, 0, 0)), (.aload_n 0, 1, (0, 0, 0, 0, 0)), (.getfield 71, 3, (9, 2, 730, 0, 0)), (.iaload, 1, (0, 0, 0, 0, 0)), (.ifCond .eq 18, 3, (75, 0, 0, 0, 0)), (.aload_n 0, 1, (0, 0, 0, 0, 0)), (.aload_n 0, 1, (0, 0, 0, 0, 0)), (.getfield 71, 3, (9, 2, 730, 0, 0)), (.invokevirtual 99, 3, (3, 0, 1554, 0, 0)), (.bipush 6, 2, (0, 0, 0, 6, 0)), (.if_icmp .ne 5, 3, (75, 0, 0, 0, 0)), (.iconst 0, 1, (0, 0, 0, 0, 0)), (.ireturn, 1, (0, 0, 0, 0, 0)), (.aload_n 0, 1, (0, 0, 0, 0, 0)), (.iload_n 1, 1, (1, 0, 0, 0, 0)), (.invokevirtual 102, 3, (4, 0, 1559, 0, 0)), (.iconst 1, 1, (0, 0, 0, 1, 0)), (.ireturn, 1, (0, 0, 0, 0, 0))]
theorem ao_ZGAply33 : jokLG jtF lk_GA "ChessHouse$Game" jcl jtb 3 prog_7_method_6_code 0 ak_ZGAply33 = true := by decide +kernel
noncomputable def zm_GAply33 : zM := (some .boolean, { frames := 5, cells := 0, slots := 0, locals := 164 }, ([(88, 1553, 0), (92, 1294, 1), (95, 1303, 2), (99, 1554, 3), (102, 1559, 4)], []), [(y_GA_child, false, 2, 9, { frames := 0, cells := 0, slots := 0, locals := 0 }, zc_GAchd33), (y_BO_remember, false, 1, 10, { frames := 3, cells := 0, slots := 0, locals := 120 }, zc_BOrem34), (y_BO_make, false, 2, 10, { frames := 1, cells := 0, slots := 0, locals := 24 }, zc_BOmak34), (y_GA_deep, false, 2, 9, { frames := 1, cells := 0, slots := 0, locals := 21 }, zc_GAdpt33), (y_GA_add, false, 2, 9, { frames := 4, cells := 0, slots := 0, locals := 140 }, zc_GAadd33)], ak_ZGAply33)
noncomputable def zc_GAply33 (vals : List zv) (W : zW) (post : zPo) : Prop := ∃ x : Int, ∃ T : xT, ∃ h : Int, vals = [.inr (.inr (some (.inl 33))), .inl (x)] ∧ (yTo T ∧ yGt W 33 T ∧ yHg W 33 T h ∧ cL (yP T h).1 x) ∧ ∀ r : Int, ∀ V : zW, (zFy [(34, 2), (34, 3), (34, 4), (34, 5), (34, 6), (34, 16), (33, 1), (33, 2)] [35, 36, 38, 39, 40, 45, 46, 47, 48, 49, 52, 54] [37, 44, 50] W V ∧ yTo (xPl T h (cMm x)).1 ∧ yGt V 33 (xPl T h (cMm x)).1 ∧ yHg V 33 (xPl T h (cMm x)).1 (xPl T h (cMm x)).2.1 ∧ ((r = 1 ∧ (xPl T h (cMm x)).2.2 = 0) ∨ (r = 0 ∧ (xPl T h (cMm x)).2.2 = 1)) ∧ (((xPl T h (cMm x)).1 = T ∧ V.2.1 54 = W.2.1 54) ∨ ((xPl T h (cMm x)).1 = xApp T h (cMm x) ∧ V.2.1 54 = zuI (W.2.1 54) (T.2.1 + 1) 0))) → post (some (.inl r)) V
set_option maxRecDepth 8000 in
theorem zp_GAply33_0 {n K : Nat} {W : zW} {post : zPo} {x : Int} {u2 : Option zv} (hK : 27 ≤ K) (hn : 142 ≤ n) (h : ∃ T2 : xT, ∃ h2 : Int, (yTo T2 ∧ yGt W 33 T2 ∧ W.1 33 2 = h2 ∧ (0 ≤ h2 ∧ h2 ≤ T2.2.1) ∧ (0 ≤ x ∧ x < 32768)) ∧ ∀ r2 : Int, ((r2 = 0 ∧ xCw T2 h2 (cMm x) < 0) ∨ (r2 = xCw T2 h2 (cMm x) ∧ 1 ≤ r2 ∧ r2 ∈ T2.2.2.2.2.1 h2 ∧ T2.2.2.2.1 r2 = cMm x)) → (r2 = 0 → ((W.1 33 1) = 300 → post (some (.inl (0))) W) ∧ (¬ (W.1 33 1) = 300 → (0 ≤ (W.1 33 2) ∧ (W.1 33 2) < 301) ∧ ((W.2.1 48 (W.1 33 2)) = 0 → ∃ T77 : xT, ∃ h77 : Int, (yTo T77 ∧ yTo (xApp T77 h77 (cMm x)) ∧ yGt W 33 T77 ∧ yHg W 33 T77 h77 ∧ cL (yP T77 h77).1 x ∧ T77.2.1 < 300) ∧ ∀ W77 : zW, (zFy [(34, 2), (34, 3), (34, 4), (34, 5), (34, 6), (34, 16), (33, 1), (33, 2)] [35, 36, 38, 39, 40, 45, 46, 47, 48, 49, 52, 54] [37, 44, 50] W W77 ∧ yGt W77 33 (xApp T77 h77 (cMm x)) ∧ yHg W77 33 (xApp T77 h77 (cMm x)) (T77.2.1 + 1) ∧ W77.2.1 54 = zuI (W.2.1 54) (T77.2.1 + 1) 0) → post (some (.inl (1))) W77) ∧ (¬ (W.2.1 48 (W.1 33 2)) = 0 → ∃ T65 : xT, (yTo T65 ∧ yGt W 33 T65 ∧ (0 ≤ (W.1 33 2) ∧ (W.1 33 2) ≤ T65.2.1)) ∧ ∀ r65 : Int, (r65 = trE T65.2.2.1 (xLd T65.2.2.2.2.1) (W.1 33 2)) → (¬ r65 = 6 → ∃ T77 : xT, ∃ h77 : Int, (yTo T77 ∧ yTo (xApp T77 h77 (cMm x)) ∧ yGt W 33 T77 ∧ yHg W 33 T77 h77 ∧ cL (yP T77 h77).1 x ∧ T77.2.1 < 300) ∧ ∀ W77 : zW, (zFy [(34, 2), (34, 3), (34, 4), (34, 5), (34, 6), (34, 16), (33, 1), (33, 2)] [35, 36, 38, 39, 40, 45, 46, 47, 48, 49, 52, 54] [37, 44, 50] W W77 ∧ yGt W77 33 (xApp T77 h77 (cMm x)) ∧ yHg W77 33 (xApp T77 h77 (cMm x)) (T77.2.1 + 1) ∧ W77.2.1 54 = zuI (W.2.1 54) (T77.2.1 + 1) 0) → post (some (.inl (1))) W77) ∧ (r65 = 6 → post (some (.inl (0))) W)))) ∧ (¬ r2 = 0 → (zBg W 34 ∧ (0 ≤ W.1 34 16 ∧ W.1 34 16 ≤ 320)) ∧ ∀ W14 : zW, (zFy [(34, 16)] [45] [44] W W14 ∧ W14.1 34 16 = (if W.1 34 16 < 320 then W.1 34 16 + 1 else W.1 34 16)) → ∃ q27 : rQ, (zBo W14 34 q27 ∧ zGd q27 ∧ cL q27 x ∧ (-1000000 ≤ W14.1 34 6 ∧ W14.1 34 6 ≤ 1000000) ∧ (0 ≤ W14.1 34 5 ∧ W14.1 34 5 ≤ 1000000)) ∧ ∀ r27 : Int64, ∀ W27 : zW, (zMx 34 W14 W27 ∧ zBo W27 34 (rMk q27 (cMm x)) ∧ W27.1 34 6 = W14.1 34 6 + q27.2.1 ∧ cUd r27 (q27.1 (rWh q27 (cMm x))) q27.2.2.1 q27.2.2.2 ∧ (0 ≤ W27.1 34 5 ∧ W27.1 34 5 ≤ W14.1 34 5 + 1) ∧ cUk r27 (W14.1 34 5)) → (0 ≤ r2 ∧ r2 < 301) ∧ post (some (.inl (1))) (zuF (zuL W27 50 r2.toNat r27) 33 2 r2))) : zwp jtb zsh n zm_GAply33 post K (lGo ak_ZGAply33 0) 0 [some (.inr (.inr (some (.inl 33)))), some (.inl (x)), u2] [] W := by
  obtain ⟨kk__, rfl⟩ : ∃ kk__, K = kk__ + 27 := ⟨K - 27, by omega⟩
  exact (show 3 = 3 ∧ false = false ∧ jin3 88 1553 0 zm_GAply33.2.2.1.1 = true ∧ lRm zm_GAply33.2.1 { frames := 0, cells := 0, slots := 0, locals := 0 } 4 = true ∧ Nat.ble 2 2 = true ∧ Nat.ble 0 8 = true ∧ 33 < n ∧ 9 = 9 ∧ Nat.ble 1000 9 = false ∧ zc_GAchd33 [.inr (.inr (some (.inl 33))), .inl (x)] W (fun vv__ WW__ => zwp jtb zsh n zm_GAply33 post (kk__ + 24) (lGo ak_ZGAply33 5) 5 [some (.inr (.inr (some (.inl 33)))), some (.inl (x)), u2] (vv__.toList ++ []) WW__) from (Exists.elim (h) (fun T2 gx2_0 => Exists.elim gx2_0  (fun h2 gh2 => ⟨rfl, rfl, rfl, rfl, rfl, rfl, (Nat.lt_of_lt_of_le (by decide) hn), rfl, rfl, x, T2, h2, rfl, (gh2).1, fun r2 hr2 => (show (r2 = 0 → 33 < n ∧ 9 = 9 ∧ ((W.1 33 1) = 300 → 1 = 1 ∧ ((0 : Int) = 0 ∨ (0 : Int) = 1) ∧ post (some (.inl (0))) W) ∧ (¬ (W.1 33 1) = 300 → 33 < n ∧ 9 = 9 ∧ 33 < n ∧ 9 = 9 ∧ 48 < n ∧ FieldType.int = FieldType.int ∧ (0 ≤ (W.1 33 2) ∧ (W.1 33 2) < 301) ∧ ((W.2.1 48 (W.1 33 2)) = 0 → 3 = 3 ∧ false = false ∧ jin3 102 1559 4 zm_GAply33.2.2.1.1 = true ∧ lRm zm_GAply33.2.1 { frames := 4, cells := 0, slots := 0, locals := 140 } 5 = true ∧ Nat.ble 2 2 = true ∧ Nat.ble 0 8 = true ∧ 33 < n ∧ 9 = 9 ∧ Nat.ble 1000 9 = false ∧ zc_GAadd33 [.inr (.inr (some (.inl 33))), .inl (x)] W (fun vv__ WW__ => zwp jtb zsh n zm_GAply33 post (kk__ + 8) (lGo ak_ZGAply33 80) 80 [some (.inr (.inr (some (.inl 33)))), some (.inl (x)), some (.inl (r2))] (vv__.toList ++ []) WW__)) ∧ (¬ (W.2.1 48 (W.1 33 2)) = 0 → 33 < n ∧ 9 = 9 ∧ 3 = 3 ∧ false = false ∧ jin3 99 1554 3 zm_GAply33.2.2.1.1 = true ∧ lRm zm_GAply33.2.1 { frames := 1, cells := 0, slots := 0, locals := 21 } 5 = true ∧ Nat.ble 2 2 = true ∧ Nat.ble 0 8 = true ∧ 33 < n ∧ 9 = 9 ∧ Nat.ble 1000 9 = false ∧ zc_GAdpt33 [.inr (.inr (some (.inl 33))), .inl (W.1 33 2)] W (fun vv__ WW__ => zwp jtb zsh n zm_GAply33 post (kk__ + 7) (lGo ak_ZGAply33 68) 68 [some (.inr (.inr (some (.inl 33)))), some (.inl (x)), some (.inl (r2))] (vv__.toList ++ []) WW__)))) ∧ (¬ r2 = 0 → 33 < n ∧ 9 = 9 ∧ 3 = 3 ∧ false = false ∧ jin3 92 1294 1 zm_GAply33.2.2.1.1 = true ∧ lRm zm_GAply33.2.1 { frames := 3, cells := 0, slots := 0, locals := 120 } 1 = true ∧ Nat.ble 1 1 = true ∧ Nat.ble 0 8 = true ∧ 34 < n ∧ 10 = 10 ∧ Nat.ble 1000 10 = false ∧ zc_BOrem34 [.inr (.inr (some (.inl 34)))] W (fun vv__ WW__ => zwp jtb zsh n zm_GAply33 post (kk__ + 18) (lGo ak_ZGAply33 17) 17 [some (.inr (.inr (some (.inl 33)))), some (.inl (x)), some (.inl (r2))] (vv__.toList ++ []) WW__)) from ⟨fun c7_5 => (have h := ((((gh2).2 r2 hr2)).1 c7_5); ⟨(Nat.lt_of_lt_of_le (by decide) hn), rfl, ⟨fun c45_9 => ⟨rfl, Or.inl rfl, ((h).1 c45_9)⟩, fun c45_9 => ⟨(Nat.lt_of_lt_of_le (by decide) hn), rfl, ⟨(Nat.lt_of_lt_of_le (by decide) hn), rfl, ⟨(Nat.lt_of_lt_of_le (by decide) hn), rfl, (((h).2 c45_9)).1, ⟨fun c57_15 => (have h := (((((h).2 c45_9)).2).1 c57_15); (Exists.elim (h) (fun T77 gx77_0 => Exists.elim gx77_0  (fun h77 gh77 => ⟨rfl, rfl, rfl, rfl, rfl, rfl, (Nat.lt_of_lt_of_le (by decide) hn), rfl, rfl, x, T77, h77, rfl, (gh77).1, fun W77 hr77 => (show 1 = 1 ∧ ((1 : Int) = 0 ∨ (1 : Int) = 1) ∧ post (some (.inl (1))) W77 from ⟨rfl, Or.inr rfl, ((gh77).2 W77 hr77)⟩)⟩)))), fun c57_15 => (have h := (((((h).2 c45_9)).2).2 c57_15); ⟨(Nat.lt_of_lt_of_le (by decide) hn), rfl, (Exists.elim (h) (fun T65 gh65 => ⟨rfl, rfl, rfl, rfl, rfl, rfl, (Nat.lt_of_lt_of_le (by decide) hn), rfl, rfl, W.1 33 2, T65, rfl, (gh65).1, fun r65 hr65 => (show (¬ r65 = 6 → 3 = 3 ∧ false = false ∧ jin3 102 1559 4 zm_GAply33.2.2.1.1 = true ∧ lRm zm_GAply33.2.1 { frames := 4, cells := 0, slots := 0, locals := 140 } 5 = true ∧ Nat.ble 2 2 = true ∧ Nat.ble 0 8 = true ∧ 33 < n ∧ 9 = 9 ∧ Nat.ble 1000 9 = false ∧ zc_GAadd33 [.inr (.inr (some (.inl 33))), .inl (x)] W (fun vv__ WW__ => zwp jtb zsh n zm_GAply33 post (kk__ + 2) (lGo ak_ZGAply33 80) 80 [some (.inr (.inr (some (.inl 33)))), some (.inl (x)), some (.inl (r2))] (vv__.toList ++ []) WW__)) ∧ (r65 = 6 → 1 = 1 ∧ ((0 : Int) = 0 ∨ (0 : Int) = 1) ∧ post (some (.inl (0))) W) from ⟨fun c70_21 => (have h := ((((gh65).2 r65 hr65)).1 c70_21); (Exists.elim (h) (fun T77 gx77_0 => Exists.elim gx77_0  (fun h77 gh77 => ⟨rfl, rfl, rfl, rfl, rfl, rfl, (Nat.lt_of_lt_of_le (by decide) hn), rfl, rfl, x, T77, h77, rfl, (gh77).1, fun W77 hr77 => (show 1 = 1 ∧ ((1 : Int) = 0 ∨ (1 : Int) = 1) ∧ post (some (.inl (1))) W77 from ⟨rfl, Or.inr rfl, ((gh77).2 W77 hr77)⟩)⟩)))), fun c70_21 => (have h := ((((gh65).2 r65 hr65)).2 c70_21); ⟨rfl, Or.inl rfl, h⟩)⟩)⟩))⟩)⟩⟩⟩⟩⟩⟩), fun c7_5 => (have h := ((((gh2).2 r2 hr2)).2 c7_5); ⟨(Nat.lt_of_lt_of_le (by decide) hn), rfl, ⟨rfl, rfl, rfl, rfl, rfl, rfl, (Nat.lt_of_lt_of_le (by decide) hn), rfl, rfl, rfl, (h).1, fun W14 hr14 => (show 33 < n ∧ 9 = 9 ∧ 33 < n ∧ 9 = 9 ∧ 3 = 3 ∧ false = false ∧ jin3 95 1303 2 zm_GAply33.2.2.1.1 = true ∧ lRm zm_GAply33.2.1 { frames := 1, cells := 0, slots := 0, locals := 24 } 11 = true ∧ Nat.ble 2 4 = true ∧ Nat.ble 2 8 = true ∧ 34 < n ∧ 10 = 10 ∧ Nat.ble 1000 10 = false ∧ zc_BOmak34 [.inr (.inr (some (.inl 34))), .inl (x)] W14 (fun vv__ WW__ => zwp jtb zsh n zm_GAply33 post (kk__ + 11) (lGo ak_ZGAply33 30) 30 [some (.inr (.inr (some (.inl 33)))), some (.inl (x)), some (.inl (r2))] (vv__.toList ++ [.inl (r2), .inr (.inr (some (.inl 50)))]) WW__) from ⟨(Nat.lt_of_lt_of_le (by decide) hn), rfl, ⟨(Nat.lt_of_lt_of_le (by decide) hn), rfl, (Exists.elim (((h).2 W14 hr14)) (fun q27 gh27 => ⟨rfl, rfl, rfl, rfl, rfl, rfl, (Nat.lt_of_lt_of_le (by decide) hn), rfl, rfl, x, q27, rfl, (gh27).1, fun r27 W27 hr27 => (show 50 < n ∧ (0 ≤ r2 ∧ r2 < 301) ∧ 33 < n ∧ 9 = 9 ∧ (some 0 : Option Nat) = some 0 ∧ ((0 : Nat) = 0 ∨ ((0 : Nat) = 1 ∧ (r2 = 0 ∨ r2 = 1))) ∧ 1 = 1 ∧ ((1 : Int) = 0 ∨ (1 : Int) = 1) ∧ post (some (.inl (1))) (zuF (zuL W27 50 r2.toNat r27) 33 2 r2) from ⟨(Nat.lt_of_lt_of_le (by decide) hn), (((gh27).2 r27 W27 hr27)).1, (have h := (((gh27).2 r27 W27 hr27)).2; ⟨(Nat.lt_of_lt_of_le (by decide) hn), rfl, rfl, (Or.inl rfl), ⟨rfl, Or.inr rfl, h⟩⟩)⟩)⟩))⟩⟩)⟩⟩)⟩)⟩))))
theorem zk_GAply33 {l : Launch} {E : jE} {n : Nat} (hn : 142 ≤ n) : zHas l E jcl jtb lw_tbl zsh n (y_GA_play, false, 2, 9, { frames := 5, cells := 0, slots := 0, locals := 164 }, zc_GAply33) := by
  refine ⟨⟨rfl, rfl, ⟨show 1 ≤ 2 by decide, m_GA_play, i_GA_play, e_GA_play, fun _ => ⟨_, rfl, rfl⟩⟩⟩, ?_⟩
  rintro vz W po hO hW ⟨x, T, h, rfl, hq, hp⟩
  refine zmet (m := zm_GAply33) rfl (by decide) (fun _ _ => jtF_ok) lo_GA ao_ZGAply33 jC (fun q h => by cases h) (aAllc (fun G h => by obtain rfl := Option.some.inj h; exact ql_GA_88) (aAllc (fun G h => by obtain rfl := Option.some.inj h; exact ql_GA_92) (aAllc (fun G h => by obtain rfl := Option.some.inj h; exact ql_GA_95) (aAllc (fun G h => by obtain rfl := Option.some.inj h; exact ql_GA_99) (aAllc (fun G h => by obtain rfl := Option.some.inj h; exact ql_GA_102) (fun q h => by cases h)))))) (aAllc (zk_GAchd33 hn) (aAllc (zk_BOrem34 hn) (aAllc (zk_BOmak34 hn) (aAllc (zk_GAdpt33 hn) (aAllc (zk_GAadd33 hn) (fun q h => by cases h)))))) (Nat.le_of_ble_eq_true rfl) hO hW (120) ?_
  obtain ⟨hT, hG, hH, hx⟩ := hq
  have hN := hT.1.1
  have a1 := hH.1
  have a2 := hH.2.1
  have eN : W.1 33 1 = T.2.1 := hG.1
  have gq := yTo_k hT a2.2
  have nq := yTo_n hT a2.1 a2.2
  have bq : zBo W 34 (yP T h).1 := hH.2.2.1
  have v6 : W.1 34 6 = (yP T h).2 := hH.2.2.2.1
  have v5 : 0 ≤ W.1 34 5 ∧ W.1 34 5 ≤ 1000 + h := hH.2.2.2.2.1
  have v16 : 0 ≤ W.1 34 16 ∧ W.1 34 16 ≤ 320 := hH.2.2.2.2.2.1
  have bv : zBv W 34 (yP T h).1 900000 := ⟨⟨bq, gq, by omega, by omega⟩, v16⟩
  have t6 : trE T.2.2.1 (xLd T.2.2.2.2.1) h ≤ 6 := by
    by_cases c : 1 ≤ h
    · exact hT.1.2.2.2.2 h c a2.2
    · rw [show h = 0 by omega]; show (0 : Int) ≤ 6; decide
  have kf := yGt_f hG a2.1 a2.2
  have kf : W.2.1 48 h = 0 ↔ T.2.2.2.2.1 h = [] := kf
  have nd : ∀ {r : Int}, ((r = 0 ∧ xCw T h (cMm x) < 0) ∨ (r = xCw T h (cMm x) ∧ 1 ≤ r ∧ r ∈ T.2.2.2.2.1 h ∧ T.2.2.2.1 r = cMm x)) → ¬ r = 0 → 1 ≤ r ∧ r ≤ T.2.1 ∧ T.2.2.1 r = h := by
    intro r hr z
    rcases hr with k | k
    · exact absurd k.1 z
    · exact ((hT.1.2.2.1 h a2.1 a2.2).2 r).1 k.2.2.1
  have cw : ∀ {r : Int}, ((r = 0 ∧ xCw T h (cMm x) < 0) ∨ (r = xCw T h (cMm x) ∧ 1 ≤ r ∧ r ∈ T.2.2.2.2.1 h ∧ T.2.2.2.1 r = cMm x)) → r = 0 → xCw T h (cMm x) < 0 := fun hr z => hr.elim (fun k => k.2) (fun k => by omega)
  have nw1 : ¬ W.1 33 1 = 300 → W.2.1 48 (W.1 33 2) = 0 → ¬ (T.2.1 = 300 ∨ 6 < trE T.2.2.1 (xLd T.2.2.2.2.1) h + (if T.2.2.2.2.1 h = [] then 0 else 1)) := fun z z2 z3 => by
    rw [a1] at z2
    rw [if_pos (kf.1 z2)] at z3
    omega
  have nw2 : ¬ W.1 33 1 = 300 → ¬ trE T.2.2.1 (xLd T.2.2.2.2.1) h = 6 → ¬ (T.2.1 = 300 ∨ 6 < trE T.2.2.1 (xLd T.2.2.2.2.1) h + (if T.2.2.2.2.1 h = [] then 0 else 1)) := fun z z2 z3 => by
    rcases z3 with z3 | z3
    · omega
    · split at z3 <;> omega
  have b6 : ¬ W.2.1 48 (W.1 33 2) = 0 → trE T.2.2.1 (xLd T.2.2.2.2.1) h = 6 → 6 < trE T.2.2.1 (xLd T.2.2.2.2.1) h + (if T.2.2.2.2.1 h = [] then 0 else 1) := fun z z2 => by
    rw [a1] at z
    rw [if_neg (fun e => z (kf.2 e))]
    omega
  have tn : ¬ (T.2.1 = 300 ∨ 6 < trE T.2.2.1 (xLd T.2.2.2.2.1) h + (if T.2.2.2.2.1 h = [] then 0 else 1)) → yTo (xApp T h (cMm x)) := fun z => ⟨xApp_ok hT.1 (by omega) a2 hx.2.2 (by omega), hT.2.1, hT.2.2⟩
  have bad : xCw T h (cMm x) < 0 → (T.2.1 = 300 ∨ 6 < trE T.2.2.1 (xLd T.2.2.2.2.1) h + (if T.2.2.2.2.1 h = [] then 0 else 1)) → zFy [(34, 2), (34, 3), (34, 4), (34, 5), (34, 6), (34, 16), (33, 1), (33, 2)] [35, 36, 38, 39, 40, 45, 46, 47, 48, 49, 52, 54] [37, 44, 50] W W ∧ yTo (xPl T h (cMm x)).1 ∧ yGt W 33 (xPl T h (cMm x)).1 ∧ yHg W 33 (xPl T h (cMm x)).1 (xPl T h (cMm x)).2.1 ∧ (((0 : Int) = 1 ∧ (xPl T h (cMm x)).2.2 = 0) ∨ ((0 : Int) = 0 ∧ (xPl T h (cMm x)).2.2 = 1)) ∧ (((xPl T h (cMm x)).1 = T ∧ W.2.1 54 = W.2.1 54) ∨ ((xPl T h (cMm x)).1 = (xApp T h (cMm x)) ∧ W.2.1 54 = zuI (W.2.1 54) (T.2.1 + 1) 0)) := fun z z2 => by
    have e : xPl T h (cMm x) = (T, h, 1) := by unfold xPl; rw [if_neg (by omega), if_pos z2]
    rw [e]
    exact ⟨zFy_0, hT, hG, hH, Or.inr ⟨rfl, rfl⟩, Or.inl ⟨rfl, rfl⟩⟩
  have new : xCw T h (cMm x) < 0 → ¬ (T.2.1 = 300 ∨ 6 < trE T.2.2.1 (xLd T.2.2.2.2.1) h + (if T.2.2.2.2.1 h = [] then 0 else 1)) → ∀ {V : zW}, (zFy [(34, 2), (34, 3), (34, 4), (34, 5), (34, 6), (34, 16), (33, 1), (33, 2)] [35, 36, 38, 39, 40, 45, 46, 47, 48, 49, 52, 54] [37, 44, 50] W V ∧ yGt V 33 (xApp T h (cMm x)) ∧ yHg V 33 (xApp T h (cMm x)) (T.2.1 + 1) ∧ V.2.1 54 = zuI (W.2.1 54) (T.2.1 + 1) 0) → zFy [(34, 2), (34, 3), (34, 4), (34, 5), (34, 6), (34, 16), (33, 1), (33, 2)] [35, 36, 38, 39, 40, 45, 46, 47, 48, 49, 52, 54] [37, 44, 50] W V ∧ yTo (xPl T h (cMm x)).1 ∧ yGt V 33 (xPl T h (cMm x)).1 ∧ yHg V 33 (xPl T h (cMm x)).1 (xPl T h (cMm x)).2.1 ∧ (((1 : Int) = 1 ∧ (xPl T h (cMm x)).2.2 = 0) ∨ ((1 : Int) = 0 ∧ (xPl T h (cMm x)).2.2 = 1)) ∧ (((xPl T h (cMm x)).1 = T ∧ V.2.1 54 = W.2.1 54) ∨ ((xPl T h (cMm x)).1 = (xApp T h (cMm x)) ∧ V.2.1 54 = zuI (W.2.1 54) (T.2.1 + 1) 0)) := fun z z2 V hv => by
    have e : xPl T h (cMm x) = ((xApp T h (cMm x)), T.2.1 + 1, 0) := by unfold xPl; rw [if_neg (by omega), if_neg z2]
    rw [e]
    exact ⟨hv.1, tn z2, hv.2.1, hv.2.2.1, Or.inl ⟨rfl, rfl⟩, Or.inr ⟨rfl, hv.2.2.2⟩⟩
  have s0 : ∀ {A0 : zW}, (zFy [(34, 16)] [45] [44] W A0 ∧ A0.1 34 16 = (if W.1 34 16 < 320 then W.1 34 16 + 1 else W.1 34 16)) → zSv 34 W A0 (yP T h).1 0 := fun h => zRq_s h bv (by decide) _
  have mk : ∀ {A0 : zW}, (zFy [(34, 16)] [45] [44] W A0 ∧ A0.1 34 16 = (if W.1 34 16 < 320 then W.1 34 16 + 1 else W.1 34 16)) → zBo A0 34 (yP T h).1 ∧ zGd (yP T h).1 ∧ cL (yP T h).1 x ∧ (-1000000 ≤ A0.1 34 6 ∧ A0.1 34 6 ≤ 1000000) ∧ (0 ≤ A0.1 34 5 ∧ A0.1 34 5 ≤ 1000000) := by
    intro A0 h
    have s := s0 h
    exact ⟨s.2.1, gq, hx, by rw [s.2.2.2.1]; omega, by rw [s.2.2.1]; omega⟩
  have fin : ∀ {r : Int}, ((r = 0 ∧ xCw T h (cMm x) < 0) ∨ (r = xCw T h (cMm x) ∧ 1 ≤ r ∧ r ∈ T.2.2.2.2.1 h ∧ T.2.2.2.1 r = cMm x)) → ¬ r = 0 → ∀ {A0 A : zW} {u : Int64}, (zFy [(34, 16)] [45] [44] W A0 ∧ A0.1 34 16 = (if W.1 34 16 < 320 then W.1 34 16 + 1 else W.1 34 16)) → (zMx 34 A0 A ∧ zBo A 34 (rMk (yP T h).1 (cMm x)) ∧ A.1 34 6 = A0.1 34 6 + (yP T h).1.2.1 ∧ cUd u ((yP T h).1.1 (rWh (yP T h).1 (cMm x))) (yP T h).1.2.2.1 (yP T h).1.2.2.2 ∧ (0 ≤ A.1 34 5 ∧ A.1 34 5 ≤ A0.1 34 5 + 1) ∧ cUk u (A0.1 34 5)) → zFy [(34, 2), (34, 3), (34, 4), (34, 5), (34, 6), (34, 16), (33, 1), (33, 2)] [35, 36, 38, 39, 40, 45, 46, 47, 48, 49, 52, 54] [37, 44, 50] W (zuF (zuL A 50 r.toNat u) 33 2 r) ∧ yTo (xPl T h (cMm x)).1 ∧ yGt (zuF (zuL A 50 r.toNat u) 33 2 r) 33 (xPl T h (cMm x)).1 ∧ yHg (zuF (zuL A 50 r.toNat u) 33 2 r) 33 (xPl T h (cMm x)).1 (xPl T h (cMm x)).2.1 ∧ (((1 : Int) = 1 ∧ (xPl T h (cMm x)).2.2 = 0) ∨ ((1 : Int) = 0 ∧ (xPl T h (cMm x)).2.2 = 1)) ∧ (((xPl T h (cMm x)).1 = T ∧ (zuF (zuL A 50 r.toNat u) 33 2 r).2.1 54 = W.2.1 54) ∨ ((xPl T h (cMm x)).1 = (xApp T h (cMm x)) ∧ (zuF (zuL A 50 r.toNat u) 33 2 r).2.1 54 = zuI (W.2.1 54) (T.2.1 + 1) 0)) := by
    intro r hr z A0 A u h0 h2
    have s := s0 h0
    have kk := nd hr z
    have hr2 := hr.resolve_left (fun k => z k.1)
    have e : xPl T h (cMm x) = (T, r, 0) := by unfold xPl; rw [if_pos (by omega), hr2.1]
    rw [e]
    have fy : zFy [(34, 2), (34, 3), (34, 4), (34, 5), (34, 6), (34, 16), (33, 1), (33, 2)] [35, 36, 38, 39, 40, 45, 46, 47, 48, 49, 52, 54] [37, 44, 50] W A := zFy_t (zFy_w h0.1 (by decide) (by decide) (by decide)) (zFy_w h2.1 (by decide) (by decide) (by decide))
    have rr : ∀ c, ((c ∈ [35, 36, 38, 39, 40, 45] : Bool) = false) → A.2.1 c = W.2.1 c := fun c hc => by
      have hc := of_decide_eq_false hc
      rw [h2.1.2.1 c (fun z => hc (by simp only [List.mem_cons, List.not_mem_nil, or_false] at z ⊢; omega)), h0.1.2.1 c (fun z => hc (by simp only [List.mem_cons, List.not_mem_nil, or_false] at z ⊢; omega))]
    refine ⟨zFy_F (zFy_L fy (by decide)) (by decide), hT, yGt_x hG ?_ (rr 46 (by decide)) (rr 47 (by decide)) (rr 48 (by decide)) (rr 49 (by decide)) (rr 52 (by decide)), ?_, Or.inl ⟨rfl, rfl⟩, Or.inl ⟨rfl, ?_⟩⟩
    · show A.1 33 1 = W.1 33 1
      rw [zFy_f h2.1 33 1, zFy_f h0.1 33 1]
    · refine yHg_d hT hH ⟨kk.1, kk.2.1⟩ kk.2.2 ?_ ?_ ?_ ?_ ?_ ?_ ?_ ?_
      · rw [hr2.2.2.2]
        exact zBo_F (zBo_x h2.2.1 rfl rfl rfl rfl rfl rfl rfl rfl rfl rfl) (by decide)
      · show A.1 34 6 = W.1 34 6 + _
        rw [h2.2.2.1, s.2.2.2.1]
      · show 0 ≤ A.1 34 5 ∧ A.1 34 5 ≤ W.1 34 5 + 1
        rw [← s.2.2.1]
        exact h2.2.2.2.2.1
      · show 0 ≤ A.1 34 16 ∧ A.1 34 16 ≤ 320
        rw [zFy_f h2.1 34 16]
        exact s.2.2.2.2.1
      · rw [zuF_1, if_pos ⟨rfl, rfl⟩]
      · rw [hr2.2.2.2]
        show cUd ((zuL A 50 r.toNat u).2.2.1 50 r.toNat) _ _ _
        rw [zuL_s]
        exact h2.2.2.2.1
      · show cUk ((zuL A 50 r.toNat u).2.2.1 50 r.toNat) (W.1 34 5)
        rw [zuL_s, ← s.2.2.1]
        exact h2.2.2.2.2.2
      · intro j hj3
        show (zuL A 50 r.toNat u).2.2.1 50 j = W.2.2.1 50 j
        rw [zuL_n hj3, zFy_l h2.1 50, zFy_l h0.1 50]
    · show A.2.1 54 = W.2.1 54
      rw [rr 54 (by decide)]
  exact zp_GAply33_0 (by omega) hn ⟨T, h, ⟨hT, hG, a1, a2, ⟨hx.1, hx.2.1⟩⟩, fun r2 hr2 => ⟨fun c7 => ⟨fun c45 => (hp _ _ (bad (cw hr2 (by omega)) (Or.inl (by omega)))), fun c45 => ⟨(by first | omega | (have := nd hr2 (by omega); omega)), ⟨fun c57 => ⟨T, h, ⟨hT, tn (nw1 (by omega) (by omega)), hG, hH, hx, by omega⟩, fun W77 hr77 => (hp _ _ (new (cw hr2 (by omega)) (nw1 (by omega) (by omega)) hr77))⟩, fun c57 => ⟨T, ⟨hT, hG, by omega⟩, fun r65 hr65 => ⟨fun c70 => ⟨T, h, ⟨hT, tn (nw2 (by omega) (by rw [← a1]; omega)), hG, hH, hx, by omega⟩, fun W77 hr77 => (hp _ _ (new (cw hr2 (by omega)) (nw2 (by omega) (by rw [← a1]; omega)) hr77))⟩, fun c70 => (hp _ _ (bad (cw hr2 (by omega)) (Or.inr (b6 (by omega) (by rw [← a1]; omega)))))⟩⟩⟩⟩⟩, fun c7 => ⟨⟨zBo_g bq gq, v16⟩, fun W14 hr14 => ⟨(yP T h).1, (mk hr14), fun r27 W27 hr27 => ⟨(by first | omega | (have := nd hr2 (by omega); omega)), (hp _ _ (fin hr2 (by omega) hr14 hr27))⟩⟩⟩⟩⟩
noncomputable def zc_GAchd60 (vals : List zv) (W : zW) (post : zPo) : Prop := ∃ x : Int, ∃ T : xT, ∃ h : Int, vals = [.inr (.inr (some (.inl 60))), .inl (x)] ∧ (yTo T ∧ yGt W 60 T ∧ W.1 60 2 = h ∧ (0 ≤ h ∧ h ≤ T.2.1) ∧ (0 ≤ x ∧ x < 32768)) ∧ ∀ r : Int, ((r = 0 ∧ xCw T h (cMm x) < 0) ∨ (r = xCw T h (cMm x) ∧ 1 ≤ r ∧ r ∈ T.2.2.2.2.1 h ∧ T.2.2.2.1 r = cMm x)) → post (some (.inl r)) W
theorem zk_GAchd60 {l : Launch} {E : jE} {n : Nat} (hn : 142 ≤ n) : zHas l E jcl jtb lw_tbl zsh n (y_GA_child, false, 2, 9, { frames := 0, cells := 0, slots := 0, locals := 0 }, zc_GAchd60) := by
  refine zHas_m (zk_child60 hn) (fun vz W po h => ?_)
  obtain ⟨x, T, hh, rfl, ⟨hT, hG, h2, h0, hx⟩, hp⟩ := h
  have hN := hT.1.1
  have hKd := hT.1.2.2.1 hh h0.1 h0.2
  have len := zLen (l := T.2.2.2.2.1 hh) (N := T.2.1) (by omega) hKd.1 (fun c hc => by have := (hKd.2 c).1 hc; omega)
  refine ⟨x, T.2.2.2.2.1 hh, rfl, by omega, by omega, by rw [h2]; exact (hG.2.2 hh h0.1 h0.2).1, fun c hc => by have := (hKd.2 c).1 hc; omega, by omega, hp _ ?_⟩
  exact yFd hx (yGt_c hT.1 hG h0.1 h0.2)
noncomputable def zc_GAdpt60 (vals : List zv) (W : zW) (post : zPo) : Prop := ∃ a : Int, ∃ T : xT, vals = [.inr (.inr (some (.inl 60))), .inl (a)] ∧ (yTo T ∧ yGt W 60 T ∧ (0 ≤ a ∧ a ≤ T.2.1)) ∧ ∀ r : Int, (r = trE T.2.2.1 (xLd T.2.2.2.2.1) a) → post (some (.inl r)) W
theorem zk_GAdpt60 {l : Launch} {E : jE} {n : Nat} (hn : 142 ≤ n) : zHas l E jcl jtb lw_tbl zsh n (y_GA_deep, false, 2, 9, { frames := 1, cells := 0, slots := 0, locals := 21 }, zc_GAdpt60) := by
  refine zHas_m (zk_deep60 hn) (fun vz W po h => ?_)
  obtain ⟨a, T, rfl, ⟨hT, hG, h0⟩, hp⟩ := h
  exact ⟨a, T.2.1, rfl, hT.1.1.2, yGt_p hT hG, h0.1, h0.2, hp _ (yGt_d hT hG h0.2)⟩
noncomputable def ak_ZGAply60 : List jI := ak_ZGAply33
theorem ao_ZGAply60 : jokLG jtF lk_GA "ChessHouse$Game" jcl jtb 3 prog_7_method_6_code 0 ak_ZGAply60 = true := ao_ZGAply33
noncomputable def zm_GAply60 : zM := (some .boolean, { frames := 5, cells := 0, slots := 0, locals := 164 }, ([(88, 1553, 0), (92, 1294, 1), (95, 1303, 2), (99, 1554, 3), (102, 1559, 4)], []), [(y_GA_child, false, 2, 9, { frames := 0, cells := 0, slots := 0, locals := 0 }, zc_GAchd60), (y_BO_remember, false, 1, 10, { frames := 3, cells := 0, slots := 0, locals := 120 }, zc_BOrem61), (y_BO_make, false, 2, 10, { frames := 1, cells := 0, slots := 0, locals := 24 }, zc_BOmak61), (y_GA_deep, false, 2, 9, { frames := 1, cells := 0, slots := 0, locals := 21 }, zc_GAdpt60), (y_GA_add, false, 2, 9, { frames := 4, cells := 0, slots := 0, locals := 140 }, zc_GAadd60)], ak_ZGAply60)
noncomputable def zc_GAply60 (vals : List zv) (W : zW) (post : zPo) : Prop := ∃ x : Int, ∃ T : xT, ∃ h : Int, vals = [.inr (.inr (some (.inl 60))), .inl (x)] ∧ (yTo T ∧ yGt W 60 T ∧ yHg W 60 T h ∧ cL (yP T h).1 x) ∧ ∀ r : Int, ∀ V : zW, (zFy [(61, 2), (61, 3), (61, 4), (61, 5), (61, 6), (61, 16), (60, 1), (60, 2)] [62, 63, 65, 66, 67, 72, 73, 74, 75, 76, 79, 81] [64, 71, 77] W V ∧ yTo (xPl T h (cMm x)).1 ∧ yGt V 60 (xPl T h (cMm x)).1 ∧ yHg V 60 (xPl T h (cMm x)).1 (xPl T h (cMm x)).2.1 ∧ ((r = 1 ∧ (xPl T h (cMm x)).2.2 = 0) ∨ (r = 0 ∧ (xPl T h (cMm x)).2.2 = 1)) ∧ (((xPl T h (cMm x)).1 = T ∧ V.2.1 81 = W.2.1 81) ∨ ((xPl T h (cMm x)).1 = xApp T h (cMm x) ∧ V.2.1 81 = zuI (W.2.1 81) (T.2.1 + 1) 0))) → post (some (.inl r)) V
set_option maxRecDepth 8000 in
theorem zp_GAply60_0 {n K : Nat} {W : zW} {post : zPo} {x : Int} {u2 : Option zv} (hK : 27 ≤ K) (hn : 142 ≤ n) (h : ∃ T2 : xT, ∃ h2 : Int, (yTo T2 ∧ yGt W 60 T2 ∧ W.1 60 2 = h2 ∧ (0 ≤ h2 ∧ h2 ≤ T2.2.1) ∧ (0 ≤ x ∧ x < 32768)) ∧ ∀ r2 : Int, ((r2 = 0 ∧ xCw T2 h2 (cMm x) < 0) ∨ (r2 = xCw T2 h2 (cMm x) ∧ 1 ≤ r2 ∧ r2 ∈ T2.2.2.2.2.1 h2 ∧ T2.2.2.2.1 r2 = cMm x)) → (r2 = 0 → ((W.1 60 1) = 300 → post (some (.inl (0))) W) ∧ (¬ (W.1 60 1) = 300 → (0 ≤ (W.1 60 2) ∧ (W.1 60 2) < 301) ∧ ((W.2.1 75 (W.1 60 2)) = 0 → ∃ T77 : xT, ∃ h77 : Int, (yTo T77 ∧ yTo (xApp T77 h77 (cMm x)) ∧ yGt W 60 T77 ∧ yHg W 60 T77 h77 ∧ cL (yP T77 h77).1 x ∧ T77.2.1 < 300) ∧ ∀ W77 : zW, (zFy [(61, 2), (61, 3), (61, 4), (61, 5), (61, 6), (61, 16), (60, 1), (60, 2)] [62, 63, 65, 66, 67, 72, 73, 74, 75, 76, 79, 81] [64, 71, 77] W W77 ∧ yGt W77 60 (xApp T77 h77 (cMm x)) ∧ yHg W77 60 (xApp T77 h77 (cMm x)) (T77.2.1 + 1) ∧ W77.2.1 81 = zuI (W.2.1 81) (T77.2.1 + 1) 0) → post (some (.inl (1))) W77) ∧ (¬ (W.2.1 75 (W.1 60 2)) = 0 → ∃ T65 : xT, (yTo T65 ∧ yGt W 60 T65 ∧ (0 ≤ (W.1 60 2) ∧ (W.1 60 2) ≤ T65.2.1)) ∧ ∀ r65 : Int, (r65 = trE T65.2.2.1 (xLd T65.2.2.2.2.1) (W.1 60 2)) → (¬ r65 = 6 → ∃ T77 : xT, ∃ h77 : Int, (yTo T77 ∧ yTo (xApp T77 h77 (cMm x)) ∧ yGt W 60 T77 ∧ yHg W 60 T77 h77 ∧ cL (yP T77 h77).1 x ∧ T77.2.1 < 300) ∧ ∀ W77 : zW, (zFy [(61, 2), (61, 3), (61, 4), (61, 5), (61, 6), (61, 16), (60, 1), (60, 2)] [62, 63, 65, 66, 67, 72, 73, 74, 75, 76, 79, 81] [64, 71, 77] W W77 ∧ yGt W77 60 (xApp T77 h77 (cMm x)) ∧ yHg W77 60 (xApp T77 h77 (cMm x)) (T77.2.1 + 1) ∧ W77.2.1 81 = zuI (W.2.1 81) (T77.2.1 + 1) 0) → post (some (.inl (1))) W77) ∧ (r65 = 6 → post (some (.inl (0))) W)))) ∧ (¬ r2 = 0 → (zBg W 61 ∧ (0 ≤ W.1 61 16 ∧ W.1 61 16 ≤ 320)) ∧ ∀ W14 : zW, (zFy [(61, 16)] [72] [71] W W14 ∧ W14.1 61 16 = (if W.1 61 16 < 320 then W.1 61 16 + 1 else W.1 61 16)) → ∃ q27 : rQ, (zBo W14 61 q27 ∧ zGd q27 ∧ cL q27 x ∧ (-1000000 ≤ W14.1 61 6 ∧ W14.1 61 6 ≤ 1000000) ∧ (0 ≤ W14.1 61 5 ∧ W14.1 61 5 ≤ 1000000)) ∧ ∀ r27 : Int64, ∀ W27 : zW, (zMx 61 W14 W27 ∧ zBo W27 61 (rMk q27 (cMm x)) ∧ W27.1 61 6 = W14.1 61 6 + q27.2.1 ∧ cUd r27 (q27.1 (rWh q27 (cMm x))) q27.2.2.1 q27.2.2.2 ∧ (0 ≤ W27.1 61 5 ∧ W27.1 61 5 ≤ W14.1 61 5 + 1) ∧ cUk r27 (W14.1 61 5)) → (0 ≤ r2 ∧ r2 < 301) ∧ post (some (.inl (1))) (zuF (zuL W27 77 r2.toNat r27) 60 2 r2))) : zwp jtb zsh n zm_GAply60 post K (lGo ak_ZGAply60 0) 0 [some (.inr (.inr (some (.inl 60)))), some (.inl (x)), u2] [] W := by
  obtain ⟨kk__, rfl⟩ : ∃ kk__, K = kk__ + 27 := ⟨K - 27, by omega⟩
  exact (show 3 = 3 ∧ false = false ∧ jin3 88 1553 0 zm_GAply60.2.2.1.1 = true ∧ lRm zm_GAply60.2.1 { frames := 0, cells := 0, slots := 0, locals := 0 } 4 = true ∧ Nat.ble 2 2 = true ∧ Nat.ble 0 8 = true ∧ 60 < n ∧ 9 = 9 ∧ Nat.ble 1000 9 = false ∧ zc_GAchd60 [.inr (.inr (some (.inl 60))), .inl (x)] W (fun vv__ WW__ => zwp jtb zsh n zm_GAply60 post (kk__ + 24) (lGo ak_ZGAply60 5) 5 [some (.inr (.inr (some (.inl 60)))), some (.inl (x)), u2] (vv__.toList ++ []) WW__) from (Exists.elim (h) (fun T2 gx2_0 => Exists.elim gx2_0  (fun h2 gh2 => ⟨rfl, rfl, rfl, rfl, rfl, rfl, (Nat.lt_of_lt_of_le (by decide) hn), rfl, rfl, x, T2, h2, rfl, (gh2).1, fun r2 hr2 => (show (r2 = 0 → 60 < n ∧ 9 = 9 ∧ ((W.1 60 1) = 300 → 1 = 1 ∧ ((0 : Int) = 0 ∨ (0 : Int) = 1) ∧ post (some (.inl (0))) W) ∧ (¬ (W.1 60 1) = 300 → 60 < n ∧ 9 = 9 ∧ 60 < n ∧ 9 = 9 ∧ 75 < n ∧ FieldType.int = FieldType.int ∧ (0 ≤ (W.1 60 2) ∧ (W.1 60 2) < 301) ∧ ((W.2.1 75 (W.1 60 2)) = 0 → 3 = 3 ∧ false = false ∧ jin3 102 1559 4 zm_GAply60.2.2.1.1 = true ∧ lRm zm_GAply60.2.1 { frames := 4, cells := 0, slots := 0, locals := 140 } 5 = true ∧ Nat.ble 2 2 = true ∧ Nat.ble 0 8 = true ∧ 60 < n ∧ 9 = 9 ∧ Nat.ble 1000 9 = false ∧ zc_GAadd60 [.inr (.inr (some (.inl 60))), .inl (x)] W (fun vv__ WW__ => zwp jtb zsh n zm_GAply60 post (kk__ + 8) (lGo ak_ZGAply60 80) 80 [some (.inr (.inr (some (.inl 60)))), some (.inl (x)), some (.inl (r2))] (vv__.toList ++ []) WW__)) ∧ (¬ (W.2.1 75 (W.1 60 2)) = 0 → 60 < n ∧ 9 = 9 ∧ 3 = 3 ∧ false = false ∧ jin3 99 1554 3 zm_GAply60.2.2.1.1 = true ∧ lRm zm_GAply60.2.1 { frames := 1, cells := 0, slots := 0, locals := 21 } 5 = true ∧ Nat.ble 2 2 = true ∧ Nat.ble 0 8 = true ∧ 60 < n ∧ 9 = 9 ∧ Nat.ble 1000 9 = false ∧ zc_GAdpt60 [.inr (.inr (some (.inl 60))), .inl (W.1 60 2)] W (fun vv__ WW__ => zwp jtb zsh n zm_GAply60 post (kk__ + 7) (lGo ak_ZGAply60 68) 68 [some (.inr (.inr (some (.inl 60)))), some (.inl (x)), some (.inl (r2))] (vv__.toList ++ []) WW__)))) ∧ (¬ r2 = 0 → 60 < n ∧ 9 = 9 ∧ 3 = 3 ∧ false = false ∧ jin3 92 1294 1 zm_GAply60.2.2.1.1 = true ∧ lRm zm_GAply60.2.1 { frames := 3, cells := 0, slots := 0, locals := 120 } 1 = true ∧ Nat.ble 1 1 = true ∧ Nat.ble 0 8 = true ∧ 61 < n ∧ 10 = 10 ∧ Nat.ble 1000 10 = false ∧ zc_BOrem61 [.inr (.inr (some (.inl 61)))] W (fun vv__ WW__ => zwp jtb zsh n zm_GAply60 post (kk__ + 18) (lGo ak_ZGAply60 17) 17 [some (.inr (.inr (some (.inl 60)))), some (.inl (x)), some (.inl (r2))] (vv__.toList ++ []) WW__)) from ⟨fun c7_5 => (have h := ((((gh2).2 r2 hr2)).1 c7_5); ⟨(Nat.lt_of_lt_of_le (by decide) hn), rfl, ⟨fun c45_9 => ⟨rfl, Or.inl rfl, ((h).1 c45_9)⟩, fun c45_9 => ⟨(Nat.lt_of_lt_of_le (by decide) hn), rfl, ⟨(Nat.lt_of_lt_of_le (by decide) hn), rfl, ⟨(Nat.lt_of_lt_of_le (by decide) hn), rfl, (((h).2 c45_9)).1, ⟨fun c57_15 => (have h := (((((h).2 c45_9)).2).1 c57_15); (Exists.elim (h) (fun T77 gx77_0 => Exists.elim gx77_0  (fun h77 gh77 => ⟨rfl, rfl, rfl, rfl, rfl, rfl, (Nat.lt_of_lt_of_le (by decide) hn), rfl, rfl, x, T77, h77, rfl, (gh77).1, fun W77 hr77 => (show 1 = 1 ∧ ((1 : Int) = 0 ∨ (1 : Int) = 1) ∧ post (some (.inl (1))) W77 from ⟨rfl, Or.inr rfl, ((gh77).2 W77 hr77)⟩)⟩)))), fun c57_15 => (have h := (((((h).2 c45_9)).2).2 c57_15); ⟨(Nat.lt_of_lt_of_le (by decide) hn), rfl, (Exists.elim (h) (fun T65 gh65 => ⟨rfl, rfl, rfl, rfl, rfl, rfl, (Nat.lt_of_lt_of_le (by decide) hn), rfl, rfl, W.1 60 2, T65, rfl, (gh65).1, fun r65 hr65 => (show (¬ r65 = 6 → 3 = 3 ∧ false = false ∧ jin3 102 1559 4 zm_GAply60.2.2.1.1 = true ∧ lRm zm_GAply60.2.1 { frames := 4, cells := 0, slots := 0, locals := 140 } 5 = true ∧ Nat.ble 2 2 = true ∧ Nat.ble 0 8 = true ∧ 60 < n ∧ 9 = 9 ∧ Nat.ble 1000 9 = false ∧ zc_GAadd60 [.inr (.inr (some (.inl 60))), .inl (x)] W (fun vv__ WW__ => zwp jtb zsh n zm_GAply60 post (kk__ + 2) (lGo ak_ZGAply60 80) 80 [some (.inr (.inr (some (.inl 60)))), some (.inl (x)), some (.inl (r2))] (vv__.toList ++ []) WW__)) ∧ (r65 = 6 → 1 = 1 ∧ ((0 : Int) = 0 ∨ (0 : Int) = 1) ∧ post (some (.inl (0))) W) from ⟨fun c70_21 => (have h := ((((gh65).2 r65 hr65)).1 c70_21); (Exists.elim (h) (fun T77 gx77_0 => Exists.elim gx77_0  (fun h77 gh77 => ⟨rfl, rfl, rfl, rfl, rfl, rfl, (Nat.lt_of_lt_of_le (by decide) hn), rfl, rfl, x, T77, h77, rfl, (gh77).1, fun W77 hr77 => (show 1 = 1 ∧ ((1 : Int) = 0 ∨ (1 : Int) = 1) ∧ post (some (.inl (1))) W77 from ⟨rfl, Or.inr rfl, ((gh77).2 W77 hr77)⟩)⟩)))), fun c70_21 => (have h := ((((gh65).2 r65 hr65)).2 c70_21); ⟨rfl, Or.inl rfl, h⟩)⟩)⟩))⟩)⟩⟩⟩⟩⟩⟩), fun c7_5 => (have h := ((((gh2).2 r2 hr2)).2 c7_5); ⟨(Nat.lt_of_lt_of_le (by decide) hn), rfl, ⟨rfl, rfl, rfl, rfl, rfl, rfl, (Nat.lt_of_lt_of_le (by decide) hn), rfl, rfl, rfl, (h).1, fun W14 hr14 => (show 60 < n ∧ 9 = 9 ∧ 60 < n ∧ 9 = 9 ∧ 3 = 3 ∧ false = false ∧ jin3 95 1303 2 zm_GAply60.2.2.1.1 = true ∧ lRm zm_GAply60.2.1 { frames := 1, cells := 0, slots := 0, locals := 24 } 11 = true ∧ Nat.ble 2 4 = true ∧ Nat.ble 2 8 = true ∧ 61 < n ∧ 10 = 10 ∧ Nat.ble 1000 10 = false ∧ zc_BOmak61 [.inr (.inr (some (.inl 61))), .inl (x)] W14 (fun vv__ WW__ => zwp jtb zsh n zm_GAply60 post (kk__ + 11) (lGo ak_ZGAply60 30) 30 [some (.inr (.inr (some (.inl 60)))), some (.inl (x)), some (.inl (r2))] (vv__.toList ++ [.inl (r2), .inr (.inr (some (.inl 77)))]) WW__) from ⟨(Nat.lt_of_lt_of_le (by decide) hn), rfl, ⟨(Nat.lt_of_lt_of_le (by decide) hn), rfl, (Exists.elim (((h).2 W14 hr14)) (fun q27 gh27 => ⟨rfl, rfl, rfl, rfl, rfl, rfl, (Nat.lt_of_lt_of_le (by decide) hn), rfl, rfl, x, q27, rfl, (gh27).1, fun r27 W27 hr27 => (show 77 < n ∧ (0 ≤ r2 ∧ r2 < 301) ∧ 60 < n ∧ 9 = 9 ∧ (some 0 : Option Nat) = some 0 ∧ ((0 : Nat) = 0 ∨ ((0 : Nat) = 1 ∧ (r2 = 0 ∨ r2 = 1))) ∧ 1 = 1 ∧ ((1 : Int) = 0 ∨ (1 : Int) = 1) ∧ post (some (.inl (1))) (zuF (zuL W27 77 r2.toNat r27) 60 2 r2) from ⟨(Nat.lt_of_lt_of_le (by decide) hn), (((gh27).2 r27 W27 hr27)).1, (have h := (((gh27).2 r27 W27 hr27)).2; ⟨(Nat.lt_of_lt_of_le (by decide) hn), rfl, rfl, (Or.inl rfl), ⟨rfl, Or.inr rfl, h⟩⟩)⟩)⟩))⟩⟩)⟩⟩)⟩)⟩))))
theorem zk_GAply60 {l : Launch} {E : jE} {n : Nat} (hn : 142 ≤ n) : zHas l E jcl jtb lw_tbl zsh n (y_GA_play, false, 2, 9, { frames := 5, cells := 0, slots := 0, locals := 164 }, zc_GAply60) := by
  refine ⟨⟨rfl, rfl, ⟨show 1 ≤ 2 by decide, m_GA_play, i_GA_play, e_GA_play, fun _ => ⟨_, rfl, rfl⟩⟩⟩, ?_⟩
  rintro vz W po hO hW ⟨x, T, h, rfl, hq, hp⟩
  refine zmet (m := zm_GAply60) rfl (by decide) (fun _ _ => jtF_ok) lo_GA ao_ZGAply60 jC (fun q h => by cases h) (aAllc (fun G h => by obtain rfl := Option.some.inj h; exact ql_GA_88) (aAllc (fun G h => by obtain rfl := Option.some.inj h; exact ql_GA_92) (aAllc (fun G h => by obtain rfl := Option.some.inj h; exact ql_GA_95) (aAllc (fun G h => by obtain rfl := Option.some.inj h; exact ql_GA_99) (aAllc (fun G h => by obtain rfl := Option.some.inj h; exact ql_GA_102) (fun q h => by cases h)))))) (aAllc (zk_GAchd60 hn) (aAllc (zk_BOrem61 hn) (aAllc (zk_BOmak61 hn) (aAllc (zk_GAdpt60 hn) (aAllc (zk_GAadd60 hn) (fun q h => by cases h)))))) (Nat.le_of_ble_eq_true rfl) hO hW (120) ?_
  obtain ⟨hT, hG, hH, hx⟩ := hq
  have hN := hT.1.1
  have a1 := hH.1
  have a2 := hH.2.1
  have eN : W.1 60 1 = T.2.1 := hG.1
  have gq := yTo_k hT a2.2
  have nq := yTo_n hT a2.1 a2.2
  have bq : zBo W 61 (yP T h).1 := hH.2.2.1
  have v6 : W.1 61 6 = (yP T h).2 := hH.2.2.2.1
  have v5 : 0 ≤ W.1 61 5 ∧ W.1 61 5 ≤ 1000 + h := hH.2.2.2.2.1
  have v16 : 0 ≤ W.1 61 16 ∧ W.1 61 16 ≤ 320 := hH.2.2.2.2.2.1
  have bv : zBv W 61 (yP T h).1 900000 := ⟨⟨bq, gq, by omega, by omega⟩, v16⟩
  have t6 : trE T.2.2.1 (xLd T.2.2.2.2.1) h ≤ 6 := by
    by_cases c : 1 ≤ h
    · exact hT.1.2.2.2.2 h c a2.2
    · rw [show h = 0 by omega]; show (0 : Int) ≤ 6; decide
  have kf := yGt_f hG a2.1 a2.2
  have kf : W.2.1 75 h = 0 ↔ T.2.2.2.2.1 h = [] := kf
  have nd : ∀ {r : Int}, ((r = 0 ∧ xCw T h (cMm x) < 0) ∨ (r = xCw T h (cMm x) ∧ 1 ≤ r ∧ r ∈ T.2.2.2.2.1 h ∧ T.2.2.2.1 r = cMm x)) → ¬ r = 0 → 1 ≤ r ∧ r ≤ T.2.1 ∧ T.2.2.1 r = h := by
    intro r hr z
    rcases hr with k | k
    · exact absurd k.1 z
    · exact ((hT.1.2.2.1 h a2.1 a2.2).2 r).1 k.2.2.1
  have cw : ∀ {r : Int}, ((r = 0 ∧ xCw T h (cMm x) < 0) ∨ (r = xCw T h (cMm x) ∧ 1 ≤ r ∧ r ∈ T.2.2.2.2.1 h ∧ T.2.2.2.1 r = cMm x)) → r = 0 → xCw T h (cMm x) < 0 := fun hr z => hr.elim (fun k => k.2) (fun k => by omega)
  have nw1 : ¬ W.1 60 1 = 300 → W.2.1 75 (W.1 60 2) = 0 → ¬ (T.2.1 = 300 ∨ 6 < trE T.2.2.1 (xLd T.2.2.2.2.1) h + (if T.2.2.2.2.1 h = [] then 0 else 1)) := fun z z2 z3 => by
    rw [a1] at z2
    rw [if_pos (kf.1 z2)] at z3
    omega
  have nw2 : ¬ W.1 60 1 = 300 → ¬ trE T.2.2.1 (xLd T.2.2.2.2.1) h = 6 → ¬ (T.2.1 = 300 ∨ 6 < trE T.2.2.1 (xLd T.2.2.2.2.1) h + (if T.2.2.2.2.1 h = [] then 0 else 1)) := fun z z2 z3 => by
    rcases z3 with z3 | z3
    · omega
    · split at z3 <;> omega
  have b6 : ¬ W.2.1 75 (W.1 60 2) = 0 → trE T.2.2.1 (xLd T.2.2.2.2.1) h = 6 → 6 < trE T.2.2.1 (xLd T.2.2.2.2.1) h + (if T.2.2.2.2.1 h = [] then 0 else 1) := fun z z2 => by
    rw [a1] at z
    rw [if_neg (fun e => z (kf.2 e))]
    omega
  have tn : ¬ (T.2.1 = 300 ∨ 6 < trE T.2.2.1 (xLd T.2.2.2.2.1) h + (if T.2.2.2.2.1 h = [] then 0 else 1)) → yTo (xApp T h (cMm x)) := fun z => ⟨xApp_ok hT.1 (by omega) a2 hx.2.2 (by omega), hT.2.1, hT.2.2⟩
  have bad : xCw T h (cMm x) < 0 → (T.2.1 = 300 ∨ 6 < trE T.2.2.1 (xLd T.2.2.2.2.1) h + (if T.2.2.2.2.1 h = [] then 0 else 1)) → zFy [(61, 2), (61, 3), (61, 4), (61, 5), (61, 6), (61, 16), (60, 1), (60, 2)] [62, 63, 65, 66, 67, 72, 73, 74, 75, 76, 79, 81] [64, 71, 77] W W ∧ yTo (xPl T h (cMm x)).1 ∧ yGt W 60 (xPl T h (cMm x)).1 ∧ yHg W 60 (xPl T h (cMm x)).1 (xPl T h (cMm x)).2.1 ∧ (((0 : Int) = 1 ∧ (xPl T h (cMm x)).2.2 = 0) ∨ ((0 : Int) = 0 ∧ (xPl T h (cMm x)).2.2 = 1)) ∧ (((xPl T h (cMm x)).1 = T ∧ W.2.1 81 = W.2.1 81) ∨ ((xPl T h (cMm x)).1 = (xApp T h (cMm x)) ∧ W.2.1 81 = zuI (W.2.1 81) (T.2.1 + 1) 0)) := fun z z2 => by
    have e : xPl T h (cMm x) = (T, h, 1) := by unfold xPl; rw [if_neg (by omega), if_pos z2]
    rw [e]
    exact ⟨zFy_0, hT, hG, hH, Or.inr ⟨rfl, rfl⟩, Or.inl ⟨rfl, rfl⟩⟩
  have new : xCw T h (cMm x) < 0 → ¬ (T.2.1 = 300 ∨ 6 < trE T.2.2.1 (xLd T.2.2.2.2.1) h + (if T.2.2.2.2.1 h = [] then 0 else 1)) → ∀ {V : zW}, (zFy [(61, 2), (61, 3), (61, 4), (61, 5), (61, 6), (61, 16), (60, 1), (60, 2)] [62, 63, 65, 66, 67, 72, 73, 74, 75, 76, 79, 81] [64, 71, 77] W V ∧ yGt V 60 (xApp T h (cMm x)) ∧ yHg V 60 (xApp T h (cMm x)) (T.2.1 + 1) ∧ V.2.1 81 = zuI (W.2.1 81) (T.2.1 + 1) 0) → zFy [(61, 2), (61, 3), (61, 4), (61, 5), (61, 6), (61, 16), (60, 1), (60, 2)] [62, 63, 65, 66, 67, 72, 73, 74, 75, 76, 79, 81] [64, 71, 77] W V ∧ yTo (xPl T h (cMm x)).1 ∧ yGt V 60 (xPl T h (cMm x)).1 ∧ yHg V 60 (xPl T h (cMm x)).1 (xPl T h (cMm x)).2.1 ∧ (((1 : Int) = 1 ∧ (xPl T h (cMm x)).2.2 = 0) ∨ ((1 : Int) = 0 ∧ (xPl T h (cMm x)).2.2 = 1)) ∧ (((xPl T h (cMm x)).1 = T ∧ V.2.1 81 = W.2.1 81) ∨ ((xPl T h (cMm x)).1 = (xApp T h (cMm x)) ∧ V.2.1 81 = zuI (W.2.1 81) (T.2.1 + 1) 0)) := fun z z2 V hv => by
    have e : xPl T h (cMm x) = ((xApp T h (cMm x)), T.2.1 + 1, 0) := by unfold xPl; rw [if_neg (by omega), if_neg z2]
    rw [e]
    exact ⟨hv.1, tn z2, hv.2.1, hv.2.2.1, Or.inl ⟨rfl, rfl⟩, Or.inr ⟨rfl, hv.2.2.2⟩⟩
  have s0 : ∀ {A0 : zW}, (zFy [(61, 16)] [72] [71] W A0 ∧ A0.1 61 16 = (if W.1 61 16 < 320 then W.1 61 16 + 1 else W.1 61 16)) → zSv 61 W A0 (yP T h).1 0 := fun h => zRq_s h bv (by decide) _
  have mk : ∀ {A0 : zW}, (zFy [(61, 16)] [72] [71] W A0 ∧ A0.1 61 16 = (if W.1 61 16 < 320 then W.1 61 16 + 1 else W.1 61 16)) → zBo A0 61 (yP T h).1 ∧ zGd (yP T h).1 ∧ cL (yP T h).1 x ∧ (-1000000 ≤ A0.1 61 6 ∧ A0.1 61 6 ≤ 1000000) ∧ (0 ≤ A0.1 61 5 ∧ A0.1 61 5 ≤ 1000000) := by
    intro A0 h
    have s := s0 h
    exact ⟨s.2.1, gq, hx, by rw [s.2.2.2.1]; omega, by rw [s.2.2.1]; omega⟩
  have fin : ∀ {r : Int}, ((r = 0 ∧ xCw T h (cMm x) < 0) ∨ (r = xCw T h (cMm x) ∧ 1 ≤ r ∧ r ∈ T.2.2.2.2.1 h ∧ T.2.2.2.1 r = cMm x)) → ¬ r = 0 → ∀ {A0 A : zW} {u : Int64}, (zFy [(61, 16)] [72] [71] W A0 ∧ A0.1 61 16 = (if W.1 61 16 < 320 then W.1 61 16 + 1 else W.1 61 16)) → (zMx 61 A0 A ∧ zBo A 61 (rMk (yP T h).1 (cMm x)) ∧ A.1 61 6 = A0.1 61 6 + (yP T h).1.2.1 ∧ cUd u ((yP T h).1.1 (rWh (yP T h).1 (cMm x))) (yP T h).1.2.2.1 (yP T h).1.2.2.2 ∧ (0 ≤ A.1 61 5 ∧ A.1 61 5 ≤ A0.1 61 5 + 1) ∧ cUk u (A0.1 61 5)) → zFy [(61, 2), (61, 3), (61, 4), (61, 5), (61, 6), (61, 16), (60, 1), (60, 2)] [62, 63, 65, 66, 67, 72, 73, 74, 75, 76, 79, 81] [64, 71, 77] W (zuF (zuL A 77 r.toNat u) 60 2 r) ∧ yTo (xPl T h (cMm x)).1 ∧ yGt (zuF (zuL A 77 r.toNat u) 60 2 r) 60 (xPl T h (cMm x)).1 ∧ yHg (zuF (zuL A 77 r.toNat u) 60 2 r) 60 (xPl T h (cMm x)).1 (xPl T h (cMm x)).2.1 ∧ (((1 : Int) = 1 ∧ (xPl T h (cMm x)).2.2 = 0) ∨ ((1 : Int) = 0 ∧ (xPl T h (cMm x)).2.2 = 1)) ∧ (((xPl T h (cMm x)).1 = T ∧ (zuF (zuL A 77 r.toNat u) 60 2 r).2.1 81 = W.2.1 81) ∨ ((xPl T h (cMm x)).1 = (xApp T h (cMm x)) ∧ (zuF (zuL A 77 r.toNat u) 60 2 r).2.1 81 = zuI (W.2.1 81) (T.2.1 + 1) 0)) := by
    intro r hr z A0 A u h0 h2
    have s := s0 h0
    have kk := nd hr z
    have hr2 := hr.resolve_left (fun k => z k.1)
    have e : xPl T h (cMm x) = (T, r, 0) := by unfold xPl; rw [if_pos (by omega), hr2.1]
    rw [e]
    have fy : zFy [(61, 2), (61, 3), (61, 4), (61, 5), (61, 6), (61, 16), (60, 1), (60, 2)] [62, 63, 65, 66, 67, 72, 73, 74, 75, 76, 79, 81] [64, 71, 77] W A := zFy_t (zFy_w h0.1 (by decide) (by decide) (by decide)) (zFy_w h2.1 (by decide) (by decide) (by decide))
    have rr : ∀ c, ((c ∈ [62, 63, 65, 66, 67, 72] : Bool) = false) → A.2.1 c = W.2.1 c := fun c hc => by
      have hc := of_decide_eq_false hc
      rw [h2.1.2.1 c (fun z => hc (by simp only [List.mem_cons, List.not_mem_nil, or_false] at z ⊢; omega)), h0.1.2.1 c (fun z => hc (by simp only [List.mem_cons, List.not_mem_nil, or_false] at z ⊢; omega))]
    refine ⟨zFy_F (zFy_L fy (by decide)) (by decide), hT, yGt_x hG ?_ (rr 73 (by decide)) (rr 74 (by decide)) (rr 75 (by decide)) (rr 76 (by decide)) (rr 79 (by decide)), ?_, Or.inl ⟨rfl, rfl⟩, Or.inl ⟨rfl, ?_⟩⟩
    · show A.1 60 1 = W.1 60 1
      rw [zFy_f h2.1 60 1, zFy_f h0.1 60 1]
    · refine yHg_d hT hH ⟨kk.1, kk.2.1⟩ kk.2.2 ?_ ?_ ?_ ?_ ?_ ?_ ?_ ?_
      · rw [hr2.2.2.2]
        exact zBo_F (zBo_x h2.2.1 rfl rfl rfl rfl rfl rfl rfl rfl rfl rfl) (by decide)
      · show A.1 61 6 = W.1 61 6 + _
        rw [h2.2.2.1, s.2.2.2.1]
      · show 0 ≤ A.1 61 5 ∧ A.1 61 5 ≤ W.1 61 5 + 1
        rw [← s.2.2.1]
        exact h2.2.2.2.2.1
      · show 0 ≤ A.1 61 16 ∧ A.1 61 16 ≤ 320
        rw [zFy_f h2.1 61 16]
        exact s.2.2.2.2.1
      · rw [zuF_1, if_pos ⟨rfl, rfl⟩]
      · rw [hr2.2.2.2]
        show cUd ((zuL A 77 r.toNat u).2.2.1 77 r.toNat) _ _ _
        rw [zuL_s]
        exact h2.2.2.2.1
      · show cUk ((zuL A 77 r.toNat u).2.2.1 77 r.toNat) (W.1 61 5)
        rw [zuL_s, ← s.2.2.1]
        exact h2.2.2.2.2.2
      · intro j hj3
        show (zuL A 77 r.toNat u).2.2.1 77 j = W.2.2.1 77 j
        rw [zuL_n hj3, zFy_l h2.1 77, zFy_l h0.1 77]
    · show A.2.1 81 = W.2.1 81
      rw [rr 81 (by decide)]
  exact zp_GAply60_0 (by omega) hn ⟨T, h, ⟨hT, hG, a1, a2, ⟨hx.1, hx.2.1⟩⟩, fun r2 hr2 => ⟨fun c7 => ⟨fun c45 => (hp _ _ (bad (cw hr2 (by omega)) (Or.inl (by omega)))), fun c45 => ⟨(by first | omega | (have := nd hr2 (by omega); omega)), ⟨fun c57 => ⟨T, h, ⟨hT, tn (nw1 (by omega) (by omega)), hG, hH, hx, by omega⟩, fun W77 hr77 => (hp _ _ (new (cw hr2 (by omega)) (nw1 (by omega) (by omega)) hr77))⟩, fun c57 => ⟨T, ⟨hT, hG, by omega⟩, fun r65 hr65 => ⟨fun c70 => ⟨T, h, ⟨hT, tn (nw2 (by omega) (by rw [← a1]; omega)), hG, hH, hx, by omega⟩, fun W77 hr77 => (hp _ _ (new (cw hr2 (by omega)) (nw2 (by omega) (by rw [← a1]; omega)) hr77))⟩, fun c70 => (hp _ _ (bad (cw hr2 (by omega)) (Or.inr (b6 (by omega) (by rw [← a1]; omega)))))⟩⟩⟩⟩⟩, fun c7 => ⟨⟨zBo_g bq gq, v16⟩, fun W14 hr14 => ⟨(yP T h).1, (mk hr14), fun r27 W27 hr27 => ⟨(by first | omega | (have := nd hr2 (by omega); omega)), (hp _ _ (fin hr2 (by omega) hr14 hr27))⟩⟩⟩⟩⟩
end
section
/-! the usual first position, for the class -/
theorem uM_z : zGd (uM, 0, 15, -1) := by
  have v : ∀ j : Fin 64, (uM j.val = 1 ∨ uM j.val = 9 → 8 ≤ j.val ∧ j.val ≤ 55) := by
    unfold uM uB
    decide +kernel
  have e : ∀ s : Int, s = 4 ∨ s = 7 ∨ s = 0 ∨ s = 60 ∨ s = 63 ∨ s = 56 → uM s = (if s = 4 then 6 else if s = 7 ∨ s = 0 then 4 else if s = 60 then 14 else 12) := by
    rintro s (rfl | rfl | rfl | rfl | rfl | rfl) <;> (unfold uM uB; decide)
  refine ⟨uM_g, by show (0 : Int) ≤ 15 ∧ (15 : Int) ≤ 15; decide, ?_, fun s hs => ?_⟩
  · rintro s (rfl | rfl)
    · exact ⟨fun _ => ⟨by show uM 4 = 6; exact e 4 (by omega), by show uM 7 = 4; exact e 7 (by omega)⟩, fun _ => ⟨by show uM 4 = 6; exact e 4 (by omega), by show uM 0 = 4; exact e 0 (by omega)⟩⟩
    · exact ⟨fun _ => ⟨by show uM 60 = 14; exact e 60 (by omega), by show uM 63 = 12; exact e 63 (by omega)⟩, fun _ => ⟨by show uM 60 = 14; exact e 60 (by omega), by show uM 56 = 12; exact e 56 (by omega)⟩⟩
  · have hs : uM s = 1 ∨ uM s = 9 := hs
    by_cases c : 0 ≤ s ∧ s ≤ 63
    · have k := v ⟨s.toNat, by omega⟩
      dsimp only at k
      rw [show ((s.toNat : Nat) : Int) = s by omega] at k
      have k2 := k hs
      show (8 : Int) ≤ s ∧ s ≤ 55
      omega
    · rw [uM_o c] at hs; omega
theorem yTo_0 : yTo (xNw ((uM, 0, 15, -1), 1)) := ⟨xNw_ok ⟨uM_g, by show (0 : Int) ≤ 15; decide, by show (15 : Int) ≤ 15; decide⟩, uM_z, by show (1 : Int) ≤ 1 ∧ (1 : Int) ≤ 1000; decide⟩
end
section
noncomputable def y_GA_clear : jY := (⟨"ChessHouse$Game", "clear", "()V"⟩, prog_7_method_2_code, 1, none)
theorem m_GA_clear : jmth lw_tbl y_GA_clear 0 := ⟨jTA_in (wi := 1052) (jtF_ok rfl) rfl, jTA_in (wi := 311) (jtF_ok rfl) rfl, by decide, by decide, by decide +kernel⟩
theorem i_GA_clear : Jvm.Cond.instanceMethod y_GA_clear.1 ∈ jTA lw_tbl := jTA_in (wi := 1050) (jtF_ok rfl) rfl
theorem e_GA_clear : Jvm.Cond.selects y_GA_clear.1.cls y_GA_clear.1 y_GA_clear.1 ∈ jTA lw_tbl := jTA_in (wi := 1051) (jtF_ok rfl) rfl
noncomputable def ak_ZGAclr33 : List jI := [(.aload_n 0, 1, (0, 0, 0, 0, 0)), (.getfield 12, 3, (9, 0, 722, 0, 0)), (.invokevirtual 64, 3, (0, 0, 1053, 0, 0)), (.aload_n 0, 1, (0, 0, 0, 0, 0)), (.iconst 0, 1, (0, 0, 0, 0, 0)), (.putfield 67, 3, (9, 1, 726, 0, 0)), (.aload_n 0, 1, (0, 0, 0, 0, 0)), (.iconst 0, 1, (0, 0, 0, 0, 0)), (.putfield 71, 3, (9, 2, 730, 0, 0)), (.aload_n 0, 1, (0, 0, 0, 0, 0)), (.getfield 25, 3, (9, 5, 739, 0, 0)), (.iconst 0, 1, (0, 0, 0, 0, 0)), (.iconst 0, 1, (0, 0, 0, 0, 0)), (.iastore, 1, (0, 0, 0, 0, 0)), (.aload_n 0, 1, (0, 0, 0, 0, 0)), (.getfield 46, 3, (9, 11, 754, 0, 0)), (.iconst 0, 1, (0, 0, 0, 0, 0)), (.iconst 0, 1, (0, 0, 0, 0, 0)), (.iastore, 1, (0, 0, 0, 0, 0)), (.aload_n 0, 1, (0, 0, 0, 0, 0)), (.iconst 0, 1, (0, 0, 0, 0, 0)), (.putfield 74, 3, (9, 13, 758, 0, 0)), (.aload_n 0, 1, (0, 0, 0, 0, 0)), (.iconst 0, 1, (0, 0, 0, 0, 0)), (.putfield 77, 3, (9, 18, 770, 0, 0)), (.return_, 1, (0, 0, 0, 0, 0))]
theorem ao_ZGAclr33 : jokLG jtF lk_GA "ChessHouse$Game" jcl jtb 1 prog_7_method_2_code 0 ak_ZGAclr33 = true := by decide +kernel
noncomputable def zm_GAclr33 : zM := (none, { frames := 3, cells := 0, slots := 0, locals := 65 }, ([(64, 1053, 0)], []), [(y_BO_setFirst, false, 1, 10, { frames := 2, cells := 0, slots := 0, locals := 44 }, zc_BOsfi34)], ak_ZGAclr33)
noncomputable def zc_GAclr33 (vals : List zv) (W : zW) (post : zPo) : Prop := vals = [.inr (.inr (some (.inl 33)))] ∧ (zBt W 34 ∧ zTw 34 W ∧ W.2.1 52 0 = 0) ∧ ∀ V : zW, (zFy [(34, 2), (34, 3), (34, 4), (34, 5), (34, 6), (34, 16), (33, 1), (33, 2), (33, 13), (33, 18)] [35, 36, 38, 39, 40, 48, 54] [37] W V ∧ yGt V 33 (xNw ((uM, 0, 15, -1), 1)) ∧ yHg V 33 (xNw ((uM, 0, 15, -1), 1)) 0 ∧ V.1 33 13 = 0 ∧ V.2.1 54 0 = 0) → post none V
set_option maxRecDepth 8000 in
theorem zp_GAclr33_0 {n K : Nat} {W : zW} {post : zPo}  (hK : 26 ≤ K) (hn : 142 ≤ n) (h : (zBt W 34 ∧ zTw 34 W) ∧ ∀ W4 : zW, (zFy [(34, 2), (34, 3), (34, 4), (34, 5), (34, 6), (34, 16)] [35, 36, 38, 39, 40] [37] W W4 ∧ zBo W4 34 (uM, 0, 15, -1) ∧ W4.1 34 5 = 0 ∧ W4.1 34 6 = 1 ∧ W4.1 34 16 = 0) → (0 ≤ (0 : Int) ∧ (0 : Int) < 301) ∧ (0 ≤ (0 : Int) ∧ (0 : Int) < 301) ∧ post none (zuF (zuF (zuR (zuR (zuF (zuF W4 33 1 0) 33 2 0) 48 0 0) 54 0 0) 33 13 0) 33 18 0)) : zwp jtb zsh n zm_GAclr33 post K (lGo ak_ZGAclr33 0) 0 [some (.inr (.inr (some (.inl 33))))] [] W := by
  obtain ⟨kk__, rfl⟩ : ∃ kk__, K = kk__ + 26 := ⟨K - 26, by omega⟩
  exact (show 33 < n ∧ 9 = 9 ∧ 3 = 3 ∧ false = false ∧ jin3 64 1053 0 zm_GAclr33.2.2.1.1 = true ∧ lRm zm_GAclr33.2.1 { frames := 2, cells := 0, slots := 0, locals := 44 } 2 = true ∧ Nat.ble 1 1 = true ∧ Nat.ble 0 8 = true ∧ 34 < n ∧ 10 = 10 ∧ Nat.ble 1000 10 = false ∧ zc_BOsfi34 [.inr (.inr (some (.inl 34)))] W (fun vv__ WW__ => zwp jtb zsh n zm_GAclr33 post (kk__ + 23) (lGo ak_ZGAclr33 7) 7 [some (.inr (.inr (some (.inl 33))))] (vv__.toList ++ []) WW__) from ⟨(Nat.lt_of_lt_of_le (by decide) hn), rfl, ⟨rfl, rfl, rfl, rfl, rfl, rfl, (Nat.lt_of_lt_of_le (by decide) hn), rfl, rfl, rfl, (h).1, fun W4 hr4 => (show 33 < n ∧ 9 = 9 ∧ (some 0 : Option Nat) = some 0 ∧ ((0 : Nat) = 0 ∨ ((0 : Nat) = 1 ∧ ((0 : Int) = 0 ∨ (0 : Int) = 1))) ∧ 33 < n ∧ 9 = 9 ∧ (some 0 : Option Nat) = some 0 ∧ ((0 : Nat) = 0 ∨ ((0 : Nat) = 1 ∧ ((0 : Int) = 0 ∨ (0 : Int) = 1))) ∧ 33 < n ∧ 9 = 9 ∧ 48 < n ∧ FieldType.int = FieldType.int ∧ (0 ≤ (0 : Int) ∧ (0 : Int) < 301) ∧ True ∧ 33 < n ∧ 9 = 9 ∧ 54 < n ∧ FieldType.int = FieldType.int ∧ (0 ≤ (0 : Int) ∧ (0 : Int) < 301) ∧ True ∧ 33 < n ∧ 9 = 9 ∧ (some 0 : Option Nat) = some 0 ∧ ((0 : Nat) = 0 ∨ ((0 : Nat) = 1 ∧ ((0 : Int) = 0 ∨ (0 : Int) = 1))) ∧ 33 < n ∧ 9 = 9 ∧ (some 0 : Option Nat) = some 0 ∧ ((0 : Nat) = 0 ∨ ((0 : Nat) = 1 ∧ ((0 : Int) = 0 ∨ (0 : Int) = 1))) ∧ 1 = 1 ∧ (none : Option FieldType) = none ∧ post none (zuF (zuF (zuR (zuR (zuF (zuF W4 33 1 0) 33 2 0) 48 0 0) 54 0 0) 33 13 0) 33 18 0) from ⟨(Nat.lt_of_lt_of_le (by decide) hn), rfl, rfl, (Or.inl rfl), ⟨(Nat.lt_of_lt_of_le (by decide) hn), rfl, rfl, (Or.inl rfl), ⟨(Nat.lt_of_lt_of_le (by decide) hn), rfl, ⟨(Nat.lt_of_lt_of_le (by decide) hn), rfl, (((h).2 W4 hr4)).1, trivial, ⟨(Nat.lt_of_lt_of_le (by decide) hn), rfl, ⟨(Nat.lt_of_lt_of_le (by decide) hn), rfl, ((((h).2 W4 hr4)).2).1, trivial, ⟨(Nat.lt_of_lt_of_le (by decide) hn), rfl, rfl, (Or.inl rfl), ⟨(Nat.lt_of_lt_of_le (by decide) hn), rfl, rfl, (Or.inl rfl), ⟨rfl, rfl, ((((h).2 W4 hr4)).2).2⟩⟩⟩⟩⟩⟩⟩⟩⟩)⟩⟩)
theorem zk_GAclr33 {l : Launch} {E : jE} {n : Nat} (hn : 142 ≤ n) : zHas l E jcl jtb lw_tbl zsh n (y_GA_clear, false, 1, 9, { frames := 3, cells := 0, slots := 0, locals := 65 }, zc_GAclr33) := by
  refine ⟨⟨rfl, rfl, ⟨show 1 ≤ 1 by decide, m_GA_clear, i_GA_clear, e_GA_clear, fun _ => ⟨_, rfl, rfl⟩⟩⟩, ?_⟩
  rintro vz W po hO hW ⟨rfl, hq, hp⟩
  refine zmet (m := zm_GAclr33) rfl (by decide) (fun _ _ => jtF_ok) lo_GA ao_ZGAclr33 jC (fun q h => by cases h) (aAllc (fun G h => by obtain rfl := Option.some.inj h; exact ql_GA_64) (fun q h => by cases h)) (aAllc (zk_BOsfi34 hn) (fun q h => by cases h)) (Nat.le_of_ble_eq_true rfl) hO hW (60) ?_
  have fin : ∀ {A : zW}, (zFy [(34, 2), (34, 3), (34, 4), (34, 5), (34, 6), (34, 16)] [35, 36, 38, 39, 40] [37] W A ∧ zBo A 34 (uM, 0, 15, -1) ∧ A.1 34 5 = 0 ∧ A.1 34 6 = 1 ∧ A.1 34 16 = 0) → zFy [(34, 2), (34, 3), (34, 4), (34, 5), (34, 6), (34, 16), (33, 1), (33, 2), (33, 13), (33, 18)] [35, 36, 38, 39, 40, 48, 54] [37] W (zuF (zuF (zuR (zuR (zuF (zuF A 33 1 0) 33 2 0) 48 0 0) 54 0 0) 33 13 0) 33 18 0) ∧ yGt (zuF (zuF (zuR (zuR (zuF (zuF A 33 1 0) 33 2 0) 48 0 0) 54 0 0) 33 13 0) 33 18 0) 33 (xNw ((uM, 0, 15, -1), 1)) ∧ yHg (zuF (zuF (zuR (zuR (zuF (zuF A 33 1 0) 33 2 0) 48 0 0) 54 0 0) 33 13 0) 33 18 0) 33 (xNw ((uM, 0, 15, -1), 1)) 0 ∧ (zuF (zuF (zuR (zuR (zuF (zuF A 33 1 0) 33 2 0) 48 0 0) 54 0 0) 33 13 0) 33 18 0).1 33 13 = 0 ∧ (zuF (zuF (zuR (zuR (zuF (zuF A 33 1 0) 33 2 0) 48 0 0) 54 0 0) 33 13 0) 33 18 0).2.1 54 0 = 0 := by
    rintro A ⟨h1, h2, h3, h4, h5⟩
    have hF : zFy [(34, 2), (34, 3), (34, 4), (34, 5), (34, 6), (34, 16), (33, 1), (33, 2), (33, 13), (33, 18)] [35, 36, 38, 39, 40, 48, 54] [37] W A := zFy_w h1 (by decide) (by decide) (by decide)
    refine ⟨zFy_F (zFy_F (zFy_R (zFy_R (zFy_F (zFy_F hF (by decide)) (by decide)) (by decide)) (by decide)) (by decide)) (by decide), ⟨rfl, fun i i0 i1 => ?_, fun i i0 i1 => ?_⟩, ⟨rfl, ⟨Int.le_refl _, Int.le_refl _⟩, ?_, h4, ?_, ?_, fun n hn => ?_⟩, rfl, ?_⟩
    · have i1 : i ≤ 0 := i1
      omega
    · have i1 : i ≤ 0 := i1
      obtain rfl : i = 0 := by omega
      refine ⟨?_, ?_⟩
      · show (zuR (zuR A 48 0 0) 54 0 0).2.1 48 0 = 0
        rw [zuR_2, if_neg (by decide), zuR_2, if_pos ⟨rfl, rfl⟩]
      · show A.2.1 52 0 = 0
        rw [zFy_r hF 52]
        exact hq.2.2
    · exact zBo_F (zBo_F (zBo_R (zBo_R (zBo_F (zBo_F h2 (by decide)) (by decide)) (by decide)) (by decide)) (by decide)) (by decide)
    · show 0 ≤ A.1 34 5 ∧ A.1 34 5 ≤ 1000 + 0
      rw [h3]; decide
    · show 0 ≤ A.1 34 16 ∧ A.1 34 16 ≤ 320
      rw [h5]; decide
    · exact absurd (hn 0 (Nat.zero_le _)) (by show ¬ (1 : Int) ≤ 0; decide)
    · show (zuR (zuR A 48 0 0) 54 0 0).2.1 54 0 = 0
      rw [zuR_2, if_pos ⟨rfl, rfl⟩]
  exact zp_GAclr33_0 (by omega) hn ⟨⟨hq.1, hq.2.1⟩, fun W4 hr4 => ⟨(by omega), ⟨(by omega), (hp _ (fin hr4))⟩⟩⟩
noncomputable def ak_ZGAclr60 : List jI := ak_ZGAclr33
theorem ao_ZGAclr60 : jokLG jtF lk_GA "ChessHouse$Game" jcl jtb 1 prog_7_method_2_code 0 ak_ZGAclr60 = true := ao_ZGAclr33
noncomputable def zm_GAclr60 : zM := (none, { frames := 3, cells := 0, slots := 0, locals := 65 }, ([(64, 1053, 0)], []), [(y_BO_setFirst, false, 1, 10, { frames := 2, cells := 0, slots := 0, locals := 44 }, zc_BOsfi61)], ak_ZGAclr60)
noncomputable def zc_GAclr60 (vals : List zv) (W : zW) (post : zPo) : Prop := vals = [.inr (.inr (some (.inl 60)))] ∧ (zBt W 61 ∧ zTw 61 W ∧ W.2.1 79 0 = 0) ∧ ∀ V : zW, (zFy [(61, 2), (61, 3), (61, 4), (61, 5), (61, 6), (61, 16), (60, 1), (60, 2), (60, 13), (60, 18)] [62, 63, 65, 66, 67, 75, 81] [64] W V ∧ yGt V 60 (xNw ((uM, 0, 15, -1), 1)) ∧ yHg V 60 (xNw ((uM, 0, 15, -1), 1)) 0 ∧ V.1 60 13 = 0 ∧ V.2.1 81 0 = 0) → post none V
set_option maxRecDepth 8000 in
theorem zp_GAclr60_0 {n K : Nat} {W : zW} {post : zPo}  (hK : 26 ≤ K) (hn : 142 ≤ n) (h : (zBt W 61 ∧ zTw 61 W) ∧ ∀ W4 : zW, (zFy [(61, 2), (61, 3), (61, 4), (61, 5), (61, 6), (61, 16)] [62, 63, 65, 66, 67] [64] W W4 ∧ zBo W4 61 (uM, 0, 15, -1) ∧ W4.1 61 5 = 0 ∧ W4.1 61 6 = 1 ∧ W4.1 61 16 = 0) → (0 ≤ (0 : Int) ∧ (0 : Int) < 301) ∧ (0 ≤ (0 : Int) ∧ (0 : Int) < 301) ∧ post none (zuF (zuF (zuR (zuR (zuF (zuF W4 60 1 0) 60 2 0) 75 0 0) 81 0 0) 60 13 0) 60 18 0)) : zwp jtb zsh n zm_GAclr60 post K (lGo ak_ZGAclr60 0) 0 [some (.inr (.inr (some (.inl 60))))] [] W := by
  obtain ⟨kk__, rfl⟩ : ∃ kk__, K = kk__ + 26 := ⟨K - 26, by omega⟩
  exact (show 60 < n ∧ 9 = 9 ∧ 3 = 3 ∧ false = false ∧ jin3 64 1053 0 zm_GAclr60.2.2.1.1 = true ∧ lRm zm_GAclr60.2.1 { frames := 2, cells := 0, slots := 0, locals := 44 } 2 = true ∧ Nat.ble 1 1 = true ∧ Nat.ble 0 8 = true ∧ 61 < n ∧ 10 = 10 ∧ Nat.ble 1000 10 = false ∧ zc_BOsfi61 [.inr (.inr (some (.inl 61)))] W (fun vv__ WW__ => zwp jtb zsh n zm_GAclr60 post (kk__ + 23) (lGo ak_ZGAclr60 7) 7 [some (.inr (.inr (some (.inl 60))))] (vv__.toList ++ []) WW__) from ⟨(Nat.lt_of_lt_of_le (by decide) hn), rfl, ⟨rfl, rfl, rfl, rfl, rfl, rfl, (Nat.lt_of_lt_of_le (by decide) hn), rfl, rfl, rfl, (h).1, fun W4 hr4 => (show 60 < n ∧ 9 = 9 ∧ (some 0 : Option Nat) = some 0 ∧ ((0 : Nat) = 0 ∨ ((0 : Nat) = 1 ∧ ((0 : Int) = 0 ∨ (0 : Int) = 1))) ∧ 60 < n ∧ 9 = 9 ∧ (some 0 : Option Nat) = some 0 ∧ ((0 : Nat) = 0 ∨ ((0 : Nat) = 1 ∧ ((0 : Int) = 0 ∨ (0 : Int) = 1))) ∧ 60 < n ∧ 9 = 9 ∧ 75 < n ∧ FieldType.int = FieldType.int ∧ (0 ≤ (0 : Int) ∧ (0 : Int) < 301) ∧ True ∧ 60 < n ∧ 9 = 9 ∧ 81 < n ∧ FieldType.int = FieldType.int ∧ (0 ≤ (0 : Int) ∧ (0 : Int) < 301) ∧ True ∧ 60 < n ∧ 9 = 9 ∧ (some 0 : Option Nat) = some 0 ∧ ((0 : Nat) = 0 ∨ ((0 : Nat) = 1 ∧ ((0 : Int) = 0 ∨ (0 : Int) = 1))) ∧ 60 < n ∧ 9 = 9 ∧ (some 0 : Option Nat) = some 0 ∧ ((0 : Nat) = 0 ∨ ((0 : Nat) = 1 ∧ ((0 : Int) = 0 ∨ (0 : Int) = 1))) ∧ 1 = 1 ∧ (none : Option FieldType) = none ∧ post none (zuF (zuF (zuR (zuR (zuF (zuF W4 60 1 0) 60 2 0) 75 0 0) 81 0 0) 60 13 0) 60 18 0) from ⟨(Nat.lt_of_lt_of_le (by decide) hn), rfl, rfl, (Or.inl rfl), ⟨(Nat.lt_of_lt_of_le (by decide) hn), rfl, rfl, (Or.inl rfl), ⟨(Nat.lt_of_lt_of_le (by decide) hn), rfl, ⟨(Nat.lt_of_lt_of_le (by decide) hn), rfl, (((h).2 W4 hr4)).1, trivial, ⟨(Nat.lt_of_lt_of_le (by decide) hn), rfl, ⟨(Nat.lt_of_lt_of_le (by decide) hn), rfl, ((((h).2 W4 hr4)).2).1, trivial, ⟨(Nat.lt_of_lt_of_le (by decide) hn), rfl, rfl, (Or.inl rfl), ⟨(Nat.lt_of_lt_of_le (by decide) hn), rfl, rfl, (Or.inl rfl), ⟨rfl, rfl, ((((h).2 W4 hr4)).2).2⟩⟩⟩⟩⟩⟩⟩⟩⟩)⟩⟩)
theorem zk_GAclr60 {l : Launch} {E : jE} {n : Nat} (hn : 142 ≤ n) : zHas l E jcl jtb lw_tbl zsh n (y_GA_clear, false, 1, 9, { frames := 3, cells := 0, slots := 0, locals := 65 }, zc_GAclr60) := by
  refine ⟨⟨rfl, rfl, ⟨show 1 ≤ 1 by decide, m_GA_clear, i_GA_clear, e_GA_clear, fun _ => ⟨_, rfl, rfl⟩⟩⟩, ?_⟩
  rintro vz W po hO hW ⟨rfl, hq, hp⟩
  refine zmet (m := zm_GAclr60) rfl (by decide) (fun _ _ => jtF_ok) lo_GA ao_ZGAclr60 jC (fun q h => by cases h) (aAllc (fun G h => by obtain rfl := Option.some.inj h; exact ql_GA_64) (fun q h => by cases h)) (aAllc (zk_BOsfi61 hn) (fun q h => by cases h)) (Nat.le_of_ble_eq_true rfl) hO hW (60) ?_
  have fin : ∀ {A : zW}, (zFy [(61, 2), (61, 3), (61, 4), (61, 5), (61, 6), (61, 16)] [62, 63, 65, 66, 67] [64] W A ∧ zBo A 61 (uM, 0, 15, -1) ∧ A.1 61 5 = 0 ∧ A.1 61 6 = 1 ∧ A.1 61 16 = 0) → zFy [(61, 2), (61, 3), (61, 4), (61, 5), (61, 6), (61, 16), (60, 1), (60, 2), (60, 13), (60, 18)] [62, 63, 65, 66, 67, 75, 81] [64] W (zuF (zuF (zuR (zuR (zuF (zuF A 60 1 0) 60 2 0) 75 0 0) 81 0 0) 60 13 0) 60 18 0) ∧ yGt (zuF (zuF (zuR (zuR (zuF (zuF A 60 1 0) 60 2 0) 75 0 0) 81 0 0) 60 13 0) 60 18 0) 60 (xNw ((uM, 0, 15, -1), 1)) ∧ yHg (zuF (zuF (zuR (zuR (zuF (zuF A 60 1 0) 60 2 0) 75 0 0) 81 0 0) 60 13 0) 60 18 0) 60 (xNw ((uM, 0, 15, -1), 1)) 0 ∧ (zuF (zuF (zuR (zuR (zuF (zuF A 60 1 0) 60 2 0) 75 0 0) 81 0 0) 60 13 0) 60 18 0).1 60 13 = 0 ∧ (zuF (zuF (zuR (zuR (zuF (zuF A 60 1 0) 60 2 0) 75 0 0) 81 0 0) 60 13 0) 60 18 0).2.1 81 0 = 0 := by
    rintro A ⟨h1, h2, h3, h4, h5⟩
    have hF : zFy [(61, 2), (61, 3), (61, 4), (61, 5), (61, 6), (61, 16), (60, 1), (60, 2), (60, 13), (60, 18)] [62, 63, 65, 66, 67, 75, 81] [64] W A := zFy_w h1 (by decide) (by decide) (by decide)
    refine ⟨zFy_F (zFy_F (zFy_R (zFy_R (zFy_F (zFy_F hF (by decide)) (by decide)) (by decide)) (by decide)) (by decide)) (by decide), ⟨rfl, fun i i0 i1 => ?_, fun i i0 i1 => ?_⟩, ⟨rfl, ⟨Int.le_refl _, Int.le_refl _⟩, ?_, h4, ?_, ?_, fun n hn => ?_⟩, rfl, ?_⟩
    · have i1 : i ≤ 0 := i1
      omega
    · have i1 : i ≤ 0 := i1
      obtain rfl : i = 0 := by omega
      refine ⟨?_, ?_⟩
      · show (zuR (zuR A 75 0 0) 81 0 0).2.1 75 0 = 0
        rw [zuR_2, if_neg (by decide), zuR_2, if_pos ⟨rfl, rfl⟩]
      · show A.2.1 79 0 = 0
        rw [zFy_r hF 79]
        exact hq.2.2
    · exact zBo_F (zBo_F (zBo_R (zBo_R (zBo_F (zBo_F h2 (by decide)) (by decide)) (by decide)) (by decide)) (by decide)) (by decide)
    · show 0 ≤ A.1 61 5 ∧ A.1 61 5 ≤ 1000 + 0
      rw [h3]; decide
    · show 0 ≤ A.1 61 16 ∧ A.1 61 16 ≤ 320
      rw [h5]; decide
    · exact absurd (hn 0 (Nat.zero_le _)) (by show ¬ (1 : Int) ≤ 0; decide)
    · show (zuR (zuR A 75 0 0) 81 0 0).2.1 81 0 = 0
      rw [zuR_2, if_pos ⟨rfl, rfl⟩]
  exact zp_GAclr60_0 (by omega) hn ⟨⟨hq.1, hq.2.1⟩, fun W4 hr4 => ⟨(by omega), ⟨(by omega), (hp _ (fin hr4))⟩⟩⟩
end
section
noncomputable def ak_ZGAld : List jI := ak_GAisLD
theorem ao_ZGAld : jokLG jtF lk_GA "ChessHouse$Game" jcl jtb 1 prog_7_method_15_code 0 ak_ZGAld = true := ao_GAisLD
noncomputable def zm_GAld : zM := (some .boolean, { frames := 0, cells := 0, slots := 0, locals := 0 }, ([], []), [], ak_ZGAld)
noncomputable def zc_GAld (vals : List zv) (W : zW) (post : zPo) : Prop := ∃ x : Int, vals = [.inl (x)] ∧ (True) ∧ ∀ r : Int, (xBl r (xLD x)) → post (some (.inl r)) W
set_option maxRecDepth 8000 in
theorem zp_GAld_0 {n K : Nat} {W : zW} {post : zPo} {x : Int}  (hK : 21 ≤ K) (hn : 142 ≤ n) (h : (x < 48 → (x < 65 → (x < 97 → post (some (.inl (0))) W) ∧ (¬ x < 97 → (122 < x → post (some (.inl (0))) W) ∧ (¬ 122 < x → post (some (.inl (1))) W))) ∧ (¬ x < 65 → (x ≤ 90 → post (some (.inl (1))) W) ∧ (¬ x ≤ 90 → (x < 97 → post (some (.inl (0))) W) ∧ (¬ x < 97 → (122 < x → post (some (.inl (0))) W) ∧ (¬ 122 < x → post (some (.inl (1))) W))))) ∧ (¬ x < 48 → (x ≤ 57 → post (some (.inl (1))) W) ∧ (¬ x ≤ 57 → (x < 65 → (x < 97 → post (some (.inl (0))) W) ∧ (¬ x < 97 → (122 < x → post (some (.inl (0))) W) ∧ (¬ 122 < x → post (some (.inl (1))) W))) ∧ (¬ x < 65 → (x ≤ 90 → post (some (.inl (1))) W) ∧ (¬ x ≤ 90 → (x < 97 → post (some (.inl (0))) W) ∧ (¬ x < 97 → (122 < x → post (some (.inl (0))) W) ∧ (¬ 122 < x → post (some (.inl (1))) W))))))) : zwp jtb zsh n zm_GAld post K (lGo ak_ZGAld 0) 0 [some (.inl (x))] [] W := by
  obtain ⟨kk__, rfl⟩ : ∃ kk__, K = kk__ + 21 := ⟨K - 21, by omega⟩
  exact (show (x < 48 → (x < 65 → (x < 97 → 1 = 1 ∧ ((0 : Int) = 0 ∨ (0 : Int) = 1) ∧ post (some (.inl (0))) W) ∧ (¬ x < 97 → (122 < x → 1 = 1 ∧ ((0 : Int) = 0 ∨ (0 : Int) = 1) ∧ post (some (.inl (0))) W) ∧ (¬ 122 < x → 1 = 1 ∧ ((1 : Int) = 0 ∨ (1 : Int) = 1) ∧ post (some (.inl (1))) W))) ∧ (¬ x < 65 → (x ≤ 90 → 1 = 1 ∧ ((1 : Int) = 0 ∨ (1 : Int) = 1) ∧ post (some (.inl (1))) W) ∧ (¬ x ≤ 90 → (x < 97 → 1 = 1 ∧ ((0 : Int) = 0 ∨ (0 : Int) = 1) ∧ post (some (.inl (0))) W) ∧ (¬ x < 97 → (122 < x → 1 = 1 ∧ ((0 : Int) = 0 ∨ (0 : Int) = 1) ∧ post (some (.inl (0))) W) ∧ (¬ 122 < x → 1 = 1 ∧ ((1 : Int) = 0 ∨ (1 : Int) = 1) ∧ post (some (.inl (1))) W))))) ∧ (¬ x < 48 → (x ≤ 57 → 1 = 1 ∧ ((1 : Int) = 0 ∨ (1 : Int) = 1) ∧ post (some (.inl (1))) W) ∧ (¬ x ≤ 57 → (x < 65 → (x < 97 → 1 = 1 ∧ ((0 : Int) = 0 ∨ (0 : Int) = 1) ∧ post (some (.inl (0))) W) ∧ (¬ x < 97 → (122 < x → 1 = 1 ∧ ((0 : Int) = 0 ∨ (0 : Int) = 1) ∧ post (some (.inl (0))) W) ∧ (¬ 122 < x → 1 = 1 ∧ ((1 : Int) = 0 ∨ (1 : Int) = 1) ∧ post (some (.inl (1))) W))) ∧ (¬ x < 65 → (x ≤ 90 → 1 = 1 ∧ ((1 : Int) = 0 ∨ (1 : Int) = 1) ∧ post (some (.inl (1))) W) ∧ (¬ x ≤ 90 → (x < 97 → 1 = 1 ∧ ((0 : Int) = 0 ∨ (0 : Int) = 1) ∧ post (some (.inl (0))) W) ∧ (¬ x < 97 → (122 < x → 1 = 1 ∧ ((0 : Int) = 0 ∨ (0 : Int) = 1) ∧ post (some (.inl (0))) W) ∧ (¬ 122 < x → 1 = 1 ∧ ((1 : Int) = 0 ∨ (1 : Int) = 1) ∧ post (some (.inl (1))) W)))))) from ⟨fun c3_2 => ⟨fun c15_5 => ⟨fun c27_8 => (have h := ((((((h).1 c3_2)).1 c15_5)).1 c27_8); ⟨rfl, Or.inl rfl, h⟩), fun c27_8 => (have h := ((((((h).1 c3_2)).1 c15_5)).2 c27_8); ⟨fun c33_11 => ⟨rfl, Or.inl rfl, ((h).1 c33_11)⟩, fun c33_11 => ⟨rfl, Or.inr rfl, ((h).2 c33_11)⟩⟩)⟩, fun c15_5 => ⟨fun c21_8 => (have h := ((((((h).1 c3_2)).2 c15_5)).1 c21_8); ⟨rfl, Or.inr rfl, h⟩), fun c21_8 => (have h := ((((((h).1 c3_2)).2 c15_5)).2 c21_8); ⟨fun c27_11 => ⟨rfl, Or.inl rfl, ((h).1 c27_11)⟩, fun c27_11 => ⟨fun c33_14 => (have h := ((((h).2 c27_11)).1 c33_14); ⟨rfl, Or.inl rfl, h⟩), fun c33_14 => (have h := ((((h).2 c27_11)).2 c33_14); ⟨rfl, Or.inr rfl, h⟩)⟩⟩)⟩⟩, fun c3_2 => ⟨fun c9_5 => ⟨rfl, Or.inr rfl, ((((h).2 c3_2)).1 c9_5)⟩, fun c9_5 => ⟨fun c15_8 => (have h := ((((((h).2 c3_2)).2 c9_5)).1 c15_8); ⟨fun c27_11 => ⟨rfl, Or.inl rfl, ((h).1 c27_11)⟩, fun c27_11 => ⟨fun c33_14 => (have h := ((((h).2 c27_11)).1 c33_14); ⟨rfl, Or.inl rfl, h⟩), fun c33_14 => (have h := ((((h).2 c27_11)).2 c33_14); ⟨rfl, Or.inr rfl, h⟩)⟩⟩), fun c15_8 => (have h := ((((((h).2 c3_2)).2 c9_5)).2 c15_8); ⟨fun c21_11 => ⟨rfl, Or.inr rfl, ((h).1 c21_11)⟩, fun c21_11 => ⟨fun c27_14 => (have h := ((((h).2 c21_11)).1 c27_14); ⟨rfl, Or.inl rfl, h⟩), fun c27_14 => (have h := ((((h).2 c21_11)).2 c27_14); ⟨fun c33_17 => ⟨rfl, Or.inl rfl, ((h).1 c33_17)⟩, fun c33_17 => ⟨rfl, Or.inr rfl, ((h).2 c33_17)⟩⟩)⟩⟩)⟩⟩⟩)
theorem zk_GAld {l : Launch} {E : jE} {n : Nat} (hn : 142 ≤ n) : zHas l E jcl jtb lw_tbl zsh n (y_GA_isLetterOrDigit, true, 1, 0, { frames := 0, cells := 0, slots := 0, locals := 0 }, zc_GAld) := by
  refine ⟨⟨rfl, rfl, ⟨m_GA_isLetterOrDigit, s_GA_isLetterOrDigit⟩⟩, ?_⟩
  rintro vz W po hO hW ⟨x, rfl, hq, hp⟩
  refine zmet (m := zm_GAld) rfl (by decide) (fun _ _ => jtF_ok) lo_GA ao_ZGAld jC (fun q h => by cases h) (fun q h => by cases h) (fun q h => by cases h) (Nat.le_of_ble_eq_true rfl) hO hW (60) ?_
  exact zp_GAld_0 (by omega) hn ⟨fun c3 => ⟨fun c15 => ⟨fun c27 => (hp _ (by unfold xBl xLD; omega)), fun c27 => ⟨fun c33 => (hp _ (by unfold xBl xLD; omega)), fun c33 => (hp _ (by unfold xBl xLD; omega))⟩⟩, fun c15 => ⟨fun c21 => (hp _ (by unfold xBl xLD; omega)), fun c21 => ⟨fun c27 => (hp _ (by unfold xBl xLD; omega)), fun c27 => ⟨fun c33 => (hp _ (by unfold xBl xLD; omega)), fun c33 => (hp _ (by unfold xBl xLD; omega))⟩⟩⟩⟩, fun c3 => ⟨fun c9 => (hp _ (by unfold xBl xLD; omega)), fun c9 => ⟨fun c15 => ⟨fun c27 => (hp _ (by unfold xBl xLD; omega)), fun c27 => ⟨fun c33 => (hp _ (by unfold xBl xLD; omega)), fun c33 => (hp _ (by unfold xBl xLD; omega))⟩⟩, fun c15 => ⟨fun c21 => (hp _ (by unfold xBl xLD; omega)), fun c21 => ⟨fun c27 => (hp _ (by unfold xBl xLD; omega)), fun c27 => ⟨fun c33 => (hp _ (by unfold xBl xLD; omega)), fun c33 => (hp _ (by unfold xBl xLD; omega))⟩⟩⟩⟩⟩⟩
noncomputable def y_GA_isName : jY := (⟨"ChessHouse$Game", "isName", "([BII)Z"⟩, prog_7_method_16_code, 4, (some .boolean))
theorem m_GA_isName : jmth lw_tbl y_GA_isName 3 := ⟨jTA_in (wi := 1610) (jtF_ok rfl) rfl, jTA_in (wi := 311) (jtF_ok rfl) rfl, by decide, by decide, by decide +kernel⟩
theorem s_GA_isName : Jvm.Cond.static y_GA_isName.1 ∈ jTA lw_tbl := jTA_in (wi := 1609) (jtF_ok rfl) rfl
noncomputable def ak_ZGAisN : List jI := [(.iload_n 1, 1, (1, 0, 0, 0, 0)), (.istore_n 3, 1, (3, 0, 0, 0, 0)), (.iload_n 3, 1, (3, 0, 0, 0, 0)), (.iload_n 2, 1, (2, 0, 0, 0, 0)), (.if_icmp .ge 20, 3, (24, 0, 0, 0, 0)), (.aload_n 0, 1, (0, 0, 0, 0, 0)), (.iload_n 3, 1, (3, 0, 0, 0, 0)), (.baload, 1, (0, 0, 0, 0, 0)), (.invokestatic 120, 3, (0, 0, 1611, 0, 0)), (.ifCond .ne 5, 3, (18, 0, 0, 0, 0)), (.iconst 0, 1, (0, 0, 0, 0, 0)), (.ireturn, 1, (0, 0, 0, 0, 0)), (.iinc 3 1, 3, (0, 0, 0, 1, 0)), (.goto (-19), 3, (2, 0, 0, 0, 0)), (.iload_n 2, 1, (2, 0, 0, 0, 0)), (.iload_n 1, 1, (1, 0, 0, 0, 0)), (.if_icmp .le 15, 3, (41, 0, 0, 0, 0)), (.iload_n 2, 1, (2, 0, 0, 0, 0)), (.iload_n 1, 1, (1, 0, 0, 0, 0)), (.isub, 1, (0, 0, 0, 0, 0)), (.bipush 12, 2, (0, 0, 0, 12, 0)), (.if_icmp .gt 7, 3, (41, 0, 0, 0, 0)), (.iconst 1, 1, (0, 0, 0, 1, 0)), (.goto 4, 3, (42, 0, 0, 0, 0)), (.iconst 0, 1, (0, 0, 0, 0, 0)), (.ireturn, 1, (0, 0, 0, 0, 0))]
theorem ao_ZGAisN : jokLG jtF lk_GA "ChessHouse$Game" jcl jtb 4 prog_7_method_16_code 0 ak_ZGAisN = true := by decide +kernel
noncomputable def zm_GAisN : zM := (some .boolean, { frames := 1, cells := 0, slots := 0, locals := 20 }, ([(120, 1611, 0)], []), [(y_GA_isLetterOrDigit, true, 1, 0, { frames := 0, cells := 0, slots := 0, locals := 0 }, zc_GAld)], ak_ZGAisN)
noncomputable def zc_GAisN (vals : List zv) (W : zW) (post : zPo) : Prop := ∃ a b : Int, vals = [.inr (.inr (some (.inl 1))), .inl (a), .inl (b)] ∧ ((0 ≤ a ∧ a ≤ 65537 ∧ 0 ≤ b ∧ b ≤ 65537)) ∧ ∀ r : Int, (xBl r ((a < b ∧ b - a ≤ 12) ∧ ∀ i, a ≤ i → i < b → xLD (W.2.1 1 i))) → post (some (.inl r)) W
set_option maxRecDepth 8000 in
theorem zp_GAisN_0 {n K : Nat} {W : zW} {post : zPo} {a b : Int} {u3 : Option zv} (hK : 2 ≤ K) (hn : 142 ≤ n) (h : zwp jtb zsh n zm_GAisN post (K - 2) (lGo ak_ZGAisN 2) 2 [some (.inr (.inr (some (.inl 1)))), some (.inl (a)), some (.inl (b)), some (.inl (a))] [] W) : zwp jtb zsh n zm_GAisN post K (lGo ak_ZGAisN 0) 0 [some (.inr (.inr (some (.inl 1)))), some (.inl (a)), some (.inl (b)), u3] [] W := by
  obtain ⟨kk__, rfl⟩ : ∃ kk__, K = kk__ + 2 := ⟨K - 2, by omega⟩
  exact (show zwp jtb zsh n zm_GAisN post (kk__ + 0) (lGo ak_ZGAisN 2) 2 [some (.inr (.inr (some (.inl 1)))), some (.inl (a)), some (.inl (b)), some (.inl (a))] [] W from h)
set_option maxRecDepth 8000 in
theorem zp_GAisN_2 {n K : Nat} {W : zW} {post : zPo} {a b i : Int}  (hK : 14 ≤ K) (hn : 142 ≤ n) (h : (b ≤ i → (b ≤ a → post (some (.inl (0))) W) ∧ (¬ b ≤ a → (-2147483648 ≤ b - a ∧ b - a ≤ 2147483647) ∧ (12 < (b - a) → post (some (.inl (0))) W) ∧ (¬ 12 < (b - a) → post (some (.inl (1))) W))) ∧ (¬ b ≤ i → (0 ≤ i ∧ i < 65537) ∧ (True) ∧ ∀ r10 : Int, (xBl r10 (xLD (W.2.1 1 i))) → (¬ r10 = 0 → (-2147483648 ≤ i + 1 ∧ i + 1 ≤ 2147483647) ∧ zwp jtb zsh n zm_GAisN post (K - 10) (lGo ak_ZGAisN 2) 2 [some (.inr (.inr (some (.inl 1)))), some (.inl (a)), some (.inl (b)), some (.inl (i + 1))] [] W) ∧ (r10 = 0 → post (some (.inl (0))) W))) : zwp jtb zsh n zm_GAisN post K (lGo ak_ZGAisN 2) 2 [some (.inr (.inr (some (.inl 1)))), some (.inl (a)), some (.inl (b)), some (.inl (i))] [] W := by
  obtain ⟨kk__, rfl⟩ : ∃ kk__, K = kk__ + 14 := ⟨K - 14, by omega⟩
  exact (show (b ≤ i → (b ≤ a → 1 = 1 ∧ ((0 : Int) = 0 ∨ (0 : Int) = 1) ∧ post (some (.inl (0))) W) ∧ (¬ b ≤ a → (-2147483648 ≤ b - a ∧ b - a ≤ 2147483647) ∧ (12 < (b - a) → 1 = 1 ∧ ((0 : Int) = 0 ∨ (0 : Int) = 1) ∧ post (some (.inl (0))) W) ∧ (¬ 12 < (b - a) → 1 = 1 ∧ ((1 : Int) = 0 ∨ (1 : Int) = 1) ∧ post (some (.inl (1))) W))) ∧ (¬ b ≤ i → 1 < n ∧ FieldType.byte = FieldType.byte ∧ (0 ≤ i ∧ i < 65537) ∧ 3 = 3 ∧ true = true ∧ jin3 120 1611 0 zm_GAisN.2.2.1.1 = true ∧ lRm zm_GAisN.2.1 { frames := 0, cells := 0, slots := 0, locals := 0 } 1 = true ∧ Nat.ble 1 1 = true ∧ Nat.ble 0 8 = true ∧ zc_GAld [.inl (W.2.1 1 i)] W (fun vv__ WW__ => zwp jtb zsh n zm_GAisN post (kk__ + 7) (lGo ak_ZGAisN 13) 13 [some (.inr (.inr (some (.inl 1)))), some (.inl (a)), some (.inl (b)), some (.inl (i))] (vv__.toList ++ []) WW__)) from ⟨fun c4_2 => ⟨fun c26_5 => ⟨rfl, Or.inl rfl, ((((h).1 c4_2)).1 c26_5)⟩, fun c26_5 => ⟨(((((h).1 c4_2)).2 c26_5)).1, (have h := (((((h).1 c4_2)).2 c26_5)).2; ⟨fun c34_10 => ⟨rfl, Or.inl rfl, ((h).1 c34_10)⟩, fun c34_10 => ⟨rfl, Or.inr rfl, ((h).2 c34_10)⟩⟩)⟩⟩, fun c4_2 => ⟨(Nat.lt_of_lt_of_le (by decide) hn), rfl, (((h).2 c4_2)).1, ⟨rfl, rfl, rfl, rfl, rfl, rfl, W.2.1 1 i, rfl, ((((h).2 c4_2)).2).1, fun r10 hr10 => (show (¬ r10 = 0 → (-2147483648 ≤ i + 1 ∧ i + 1 ≤ 2147483647) ∧ zwp jtb zsh n zm_GAisN post (kk__ + 4) (lGo ak_ZGAisN 2) 2 [some (.inr (.inr (some (.inl 1)))), some (.inl (a)), some (.inl (b)), some (.inl (i + 1))] [] W) ∧ (r10 = 0 → 1 = 1 ∧ ((0 : Int) = 0 ∨ (0 : Int) = 1) ∧ post (some (.inl (0))) W) from (have h := (((((h).2 c4_2)).2).2 r10 hr10); ⟨fun c13_7 => ⟨(((h).1 c13_7)).1, (((h).1 c13_7)).2⟩, fun c13_7 => ⟨rfl, Or.inl rfl, ((h).2 c13_7)⟩⟩))⟩⟩⟩)
theorem zk_GAisN {l : Launch} {E : jE} {n : Nat} (hn : 142 ≤ n) : zHas l E jcl jtb lw_tbl zsh n (y_GA_isName, true, 3, 0, { frames := 1, cells := 0, slots := 0, locals := 20 }, zc_GAisN) := by
  refine ⟨⟨rfl, rfl, ⟨m_GA_isName, s_GA_isName⟩⟩, ?_⟩
  rintro vz W po hO hW ⟨a, b, rfl, hq, hp⟩
  refine zmet (m := zm_GAisN) rfl (by decide) (fun _ _ => jtF_ok) lo_GA ao_ZGAisN jC (fun q h => by cases h) (aAllc (fun G h => by obtain rfl := Option.some.inj h; exact ql_GA_120) (fun q h => by cases h)) (aAllc (zk_GAld hn) (fun q h => by cases h)) (Nat.le_of_ble_eq_true rfl) hO hW (4000000) ?_
  have h2 : ∀ (mm K : Nat) (i : Int), 60 * mm + 60 ≤ K → (b - i < mm ∧ 0 < mm ∧ a ≤ i ∧ (i ≤ b ∨ i = a)) → (∀ k : Int, a ≤ k → k < i → xLD (W.2.1 1 k)) → zwp jtb zsh n zm_GAisN po K (lGo ak_ZGAisN 2) 2 [some (.inr (.inr (some (.inl 1)))), some (.inl (a)), some (.inl (b)), some (.inl (i))] [] W := by
    intro mm
    induction mm with
    | zero => intro K i hK h1; omega
    | succ mm ih =>
      intro K i hK h1 hI
      have no : ∀ {r : Int}, xBl r (xLD (W.2.1 1 i)) → r = 0 → ¬ xLD (W.2.1 1 i) := by
        intro r h e
        rcases h with h | h
        · omega
        · exact h.2
      have nx : ∀ {r : Int}, xBl r (xLD (W.2.1 1 i)) → ¬ r = 0 → ∀ k : Int, a ≤ k → k < i + 1 → xLD (W.2.1 1 k) := by
        intro r h e k k0 k1
        by_cases c : k = i
        · rw [c]
          rcases h with h | h
          · exact h.2
          · omega
        · exact hI k k0 (by omega)
      exact zp_GAisN_2 (by omega) hn ⟨fun c4 => ⟨fun c26 => (hp _ (Or.inr ⟨rfl, fun z => by have := z.1; omega⟩)), fun c26 => ⟨(by omega), ⟨fun c34 => (hp _ (Or.inr ⟨rfl, fun z => by have := z.1; omega⟩)), fun c34 => (hp _ (Or.inl ⟨rfl, ⟨by omega, by omega⟩, fun k k0 k1 => hI k k0 (by omega)⟩))⟩⟩⟩, fun c4 => ⟨(by omega), ⟨trivial, fun r10 hr10 => ⟨fun c13 => ⟨(by omega), (ih _ (i + 1) (by omega) (by omega) (nx hr10 (by omega)))⟩, fun c13 => (hp _ (Or.inr ⟨rfl, fun z => no hr10 (by omega) (z.2 i (by omega) (by omega))⟩))⟩⟩⟩⟩
  exact zp_GAisN_0 (by omega) hn (h2 65538 _ _ (by omega) (by omega) (fun i i0 i1 => by omega))
end
section
noncomputable def y_GA_addRemark : jY := (⟨"ChessHouse$Game", "addRemark", "([BII)Z"⟩, prog_7_method_14_code, 8, (some .boolean))
theorem m_GA_addRemark : jmth lw_tbl y_GA_addRemark 3 := ⟨jTA_in (wi := 1258) (jtF_ok rfl) rfl, jTA_in (wi := 311) (jtF_ok rfl) rfl, by decide, by decide, by decide +kernel⟩
theorem i_GA_addRemark : Jvm.Cond.instanceMethod y_GA_addRemark.1 ∈ jTA lw_tbl := jTA_in (wi := 1256) (jtF_ok rfl) rfl
theorem e_GA_addRemark : Jvm.Cond.selects y_GA_addRemark.1.cls y_GA_addRemark.1 y_GA_addRemark.1 ∈ jTA lw_tbl := jTA_in (wi := 1257) (jtF_ok rfl) rfl
noncomputable def ak_ZGArem33 : List jI := [(.aload_n 0, 1, (0, 0, 0, 0, 0)), (.getfield 46, 3, (9, 11, 754, 0, 0)), (.aload_n 0, 1, (0, 0, 0, 0, 0)), (.getfield 71, 3, (9, 2, 730, 0, 0)), (.iaload, 1, (0, 0, 0, 0, 0)), (.istore 4, 2, (4, 0, 0, 0, 0)), (.iload 4, 2, (4, 0, 0, 0, 0)), (.ifCond .le 11, 3, (24, 0, 0, 0, 0)), (.iload_n 3, 1, (3, 0, 0, 0, 0)), (.ifCond .le 7, 3, (24, 0, 0, 0, 0)), (.iconst 1, 1, (0, 0, 0, 1, 0)), (.goto 4, 3, (25, 0, 0, 0, 0)), (.iconst 0, 1, (0, 0, 0, 0, 0)), (.istore 5, 2, (5, 0, 0, 0, 0)), (.iload 4, 2, (4, 0, 0, 0, 0)), (.iload 5, 2, (5, 0, 0, 0, 0)), (.iadd, 1, (0, 0, 0, 0, 0)), (.iload_n 3, 1, (3, 0, 0, 0, 0)), (.iadd, 1, (0, 0, 0, 0, 0)), (.sipush 200, 3, (0, 0, 0, 200, 0)), (.if_icmp .le 5, 3, (42, 0, 0, 0, 0)), (.iconst 0, 1, (0, 0, 0, 0, 0)), (.ireturn, 1, (0, 0, 0, 0, 0)), (.aload_n 0, 1, (0, 0, 0, 0, 0)), (.getfield 71, 3, (9, 2, 730, 0, 0)), (.sipush 200, 3, (0, 0, 0, 200, 0)), (.imul, 1, (0, 0, 0, 0, 0)), (.iload 4, 2, (4, 0, 0, 0, 0)), (.iadd, 1, (0, 0, 0, 0, 0)), (.istore 6, 2, (6, 0, 0, 0, 0)), (.iload 5, 2, (5, 0, 0, 0, 0)), (.ifCond .le 15, 3, (72, 0, 0, 0, 0)), (.aload_n 0, 1, (0, 0, 0, 0, 0)), (.getfield 42, 3, (9, 10, 752, 0, 0)), (.iload 6, 2, (6, 0, 0, 0, 0)), (.bipush 32, 2, (0, 0, 0, 32, 0)), (.bastore, 1, (0, 0, 0, 0, 0)), (.iinc 6 1, 3, (0, 0, 0, 1, 0)), (.iconst 0, 1, (0, 0, 0, 0, 0)), (.istore 7, 2, (7, 0, 0, 0, 0)), (.iload 7, 2, (7, 0, 0, 0, 0)), (.iload_n 3, 1, (3, 0, 0, 0, 0)), (.if_icmp .ge 41, 3, (119, 0, 0, 0, 0)), (.aload_n 0, 1, (0, 0, 0, 0, 0)), (.getfield 42, 3, (9, 10, 752, 0, 0)), (.iload 6, 2, (6, 0, 0, 0, 0)), (.iload 7, 2, (7, 0, 0, 0, 0)), (.iadd, 1, (0, 0, 0, 0, 0)), (.aload_n 1, 1, (1, 0, 0, 0, 0)), (.iload_n 2, 1, (2, 0, 0, 0, 0)), (.iload 7, 2, (7, 0, 0, 0, 0)), (.iadd, 1, (0, 0, 0, 0, 0)), (.baload, 1, (0, 0, 0, 0, 0)), (.bipush 10, 2, (0, 0, 0, 10, 0)), (.if_icmp .ne 8, 3, (106, 0, 0, 0, 0)), (.bipush 32, 2, (0, 0, 0, 32, 0)), (.goto 9, 3, (112, 0, 0, 0, 0)), (.aload_n 1, 1, (1, 0, 0, 0, 0)), (.iload_n 2, 1, (2, 0, 0, 0, 0)), (.iload 7, 2, (7, 0, 0, 0, 0)), (.iadd, 1, (0, 0, 0, 0, 0)), (.baload, 1, (0, 0, 0, 0, 0)), (.bastore, 1, (0, 0, 0, 0, 0)), (.iinc 7 1, 3, (0, 0, 0, 1, 0)), (.goto (-41), 3, (75, 0, 0, 0, 0)), (.aload_n 0, 1, (0, 0, 0, 0, 0)), (.getfield 46, 3, (9, 11, 754, 0, 0)), (.aload_n 0, 1, (0, 0, 0, 0, 0)), (.getfield 71, 3, (9, 2, 730, 0, 0)), (.iload 4, 2, (4, 0, 0, 0, 0)), (.iload 5, 2, (5, 0, 0, 0, 0)), (.iadd, 1, (0, 0, 0, 0, 0)), (.iload_n 3, 1, (3, 0, 0, 0, 0)), (.iadd, 1, (0, 0, 0, 0, 0)), (.iastore, 1, (0, 0, 0, 0, 0)), (.iconst 1, 1, (0, 0, 0, 1, 0)), (.ireturn, 1, (0, 0, 0, 0, 0))]
theorem ao_ZGArem33 : jokLG jtF lk_GA "ChessHouse$Game" jcl jtb 8 prog_7_method_14_code 0 ak_ZGArem33 = true := by decide +kernel
noncomputable def zm_GArem33 : zM := (some .boolean, { frames := 0, cells := 0, slots := 0, locals := 0 }, ([], []), [], ak_ZGArem33)
noncomputable def zc_GArem33 (vals : List zv) (W : zW) (post : zPo) : Prop := ∃ a ln : Int, vals = [.inr (.inr (some (.inl 33))), .inr (.inr (some (.inl 1))), .inl (a), .inl (ln)] ∧ ((0 ≤ W.1 33 2 ∧ W.1 33 2 ≤ 300) ∧ (0 ≤ W.2.1 54 (W.1 33 2) ∧ W.2.1 54 (W.1 33 2) ≤ 200) ∧ (0 ≤ a ∧ 0 ≤ ln ∧ a + ln ≤ 65537) ∧ (∀ i, a ≤ i → i < a + ln → -128 ≤ W.2.1 1 i ∧ W.2.1 1 i ≤ 127)) ∧ ∀ r : Int, ∀ V : zW, (zFr [] [53, 54] W V ∧ ((r = 1 ∧ gRz (W.2.1 54 (W.1 33 2)) ln ≤ 200 ∧ V.2.1 54 = zuI (W.2.1 54) (W.1 33 2) (gRz (W.2.1 54 (W.1 33 2)) ln)) ∨ (r = 0 ∧ 200 < gRz (W.2.1 54 (W.1 33 2)) ln ∧ V.2.1 54 = W.2.1 54))) → post (some (.inl r)) V
set_option maxRecDepth 8000 in
theorem zp_GArem33_0 {n K : Nat} {W : zW} {post : zPo} {a ln : Int} {u4 u5 u6 u7 : Option zv} (hK : 37 ≤ K) (hn : 142 ≤ n) (h : (0 ≤ (W.1 33 2) ∧ (W.1 33 2) < 301) ∧ ((W.2.1 54 (W.1 33 2)) ≤ 0 → (-2147483648 ≤ (W.2.1 54 (W.1 33 2)) + 0 ∧ (W.2.1 54 (W.1 33 2)) + 0 ≤ 2147483647) ∧ (-2147483648 ≤ ((W.2.1 54 (W.1 33 2)) + 0) + ln ∧ ((W.2.1 54 (W.1 33 2)) + 0) + ln ≤ 2147483647) ∧ ((((W.2.1 54 (W.1 33 2)) + 0) + ln) ≤ 200 → (-2147483648 ≤ (W.1 33 2) * 200 ∧ (W.1 33 2) * 200 ≤ 2147483647) ∧ (-2147483648 ≤ ((W.1 33 2) * 200) + (W.2.1 54 (W.1 33 2)) ∧ ((W.1 33 2) * 200) + (W.2.1 54 (W.1 33 2)) ≤ 2147483647) ∧ zwp jtb zsh n zm_GArem33 post (K - 28) (lGo ak_ZGArem33 75) 75 [some (.inr (.inr (some (.inl 33)))), some (.inr (.inr (some (.inl 1)))), some (.inl (a)), some (.inl (ln)), some (.inl (W.2.1 54 (W.1 33 2))), some (.inl (0)), some (.inl (((W.1 33 2) * 200) + (W.2.1 54 (W.1 33 2)))), some (.inl (0))] [] W) ∧ (¬ (((W.2.1 54 (W.1 33 2)) + 0) + ln) ≤ 200 → post (some (.inl (0))) W)) ∧ (¬ (W.2.1 54 (W.1 33 2)) ≤ 0 → (ln ≤ 0 → (-2147483648 ≤ (W.2.1 54 (W.1 33 2)) + 0 ∧ (W.2.1 54 (W.1 33 2)) + 0 ≤ 2147483647) ∧ (-2147483648 ≤ ((W.2.1 54 (W.1 33 2)) + 0) + ln ∧ ((W.2.1 54 (W.1 33 2)) + 0) + ln ≤ 2147483647) ∧ ((((W.2.1 54 (W.1 33 2)) + 0) + ln) ≤ 200 → (-2147483648 ≤ (W.1 33 2) * 200 ∧ (W.1 33 2) * 200 ≤ 2147483647) ∧ (-2147483648 ≤ ((W.1 33 2) * 200) + (W.2.1 54 (W.1 33 2)) ∧ ((W.1 33 2) * 200) + (W.2.1 54 (W.1 33 2)) ≤ 2147483647) ∧ zwp jtb zsh n zm_GArem33 post (K - 30) (lGo ak_ZGArem33 75) 75 [some (.inr (.inr (some (.inl 33)))), some (.inr (.inr (some (.inl 1)))), some (.inl (a)), some (.inl (ln)), some (.inl (W.2.1 54 (W.1 33 2))), some (.inl (0)), some (.inl (((W.1 33 2) * 200) + (W.2.1 54 (W.1 33 2)))), some (.inl (0))] [] W) ∧ (¬ (((W.2.1 54 (W.1 33 2)) + 0) + ln) ≤ 200 → post (some (.inl (0))) W)) ∧ (¬ ln ≤ 0 → (-2147483648 ≤ (W.2.1 54 (W.1 33 2)) + 1 ∧ (W.2.1 54 (W.1 33 2)) + 1 ≤ 2147483647) ∧ (-2147483648 ≤ ((W.2.1 54 (W.1 33 2)) + 1) + ln ∧ ((W.2.1 54 (W.1 33 2)) + 1) + ln ≤ 2147483647) ∧ ((((W.2.1 54 (W.1 33 2)) + 1) + ln) ≤ 200 → (-2147483648 ≤ (W.1 33 2) * 200 ∧ (W.1 33 2) * 200 ≤ 2147483647) ∧ (-2147483648 ≤ ((W.1 33 2) * 200) + (W.2.1 54 (W.1 33 2)) ∧ ((W.1 33 2) * 200) + (W.2.1 54 (W.1 33 2)) ≤ 2147483647) ∧ (0 ≤ (((W.1 33 2) * 200) + (W.2.1 54 (W.1 33 2))) ∧ (((W.1 33 2) * 200) + (W.2.1 54 (W.1 33 2))) < 60200) ∧ (-128 ≤ (32 : Int) ∧ (32 : Int) ≤ 127) ∧ (-2147483648 ≤ (((W.1 33 2) * 200) + (W.2.1 54 (W.1 33 2))) + 1 ∧ (((W.1 33 2) * 200) + (W.2.1 54 (W.1 33 2))) + 1 ≤ 2147483647) ∧ zwp jtb zsh n zm_GArem33 post (K - 37) (lGo ak_ZGArem33 75) 75 [some (.inr (.inr (some (.inl 33)))), some (.inr (.inr (some (.inl 1)))), some (.inl (a)), some (.inl (ln)), some (.inl (W.2.1 54 (W.1 33 2))), some (.inl (1)), some (.inl ((((W.1 33 2) * 200) + (W.2.1 54 (W.1 33 2))) + 1)), some (.inl (0))] [] (zuR W 53 (((W.1 33 2) * 200) + (W.2.1 54 (W.1 33 2))) 32)) ∧ (¬ (((W.2.1 54 (W.1 33 2)) + 1) + ln) ≤ 200 → post (some (.inl (0))) W)))) : zwp jtb zsh n zm_GArem33 post K (lGo ak_ZGArem33 0) 0 [some (.inr (.inr (some (.inl 33)))), some (.inr (.inr (some (.inl 1)))), some (.inl (a)), some (.inl (ln)), u4, u5, u6, u7] [] W := by
  obtain ⟨kk__, rfl⟩ : ∃ kk__, K = kk__ + 37 := ⟨K - 37, by omega⟩
  exact (show 33 < n ∧ 9 = 9 ∧ 33 < n ∧ 9 = 9 ∧ 54 < n ∧ FieldType.int = FieldType.int ∧ (0 ≤ (W.1 33 2) ∧ (W.1 33 2) < 301) ∧ ((W.2.1 54 (W.1 33 2)) ≤ 0 → (-2147483648 ≤ (W.2.1 54 (W.1 33 2)) + 0 ∧ (W.2.1 54 (W.1 33 2)) + 0 ≤ 2147483647) ∧ (-2147483648 ≤ ((W.2.1 54 (W.1 33 2)) + 0) + ln ∧ ((W.2.1 54 (W.1 33 2)) + 0) + ln ≤ 2147483647) ∧ ((((W.2.1 54 (W.1 33 2)) + 0) + ln) ≤ 200 → 33 < n ∧ 9 = 9 ∧ (-2147483648 ≤ (W.1 33 2) * 200 ∧ (W.1 33 2) * 200 ≤ 2147483647) ∧ (-2147483648 ≤ ((W.1 33 2) * 200) + (W.2.1 54 (W.1 33 2)) ∧ ((W.1 33 2) * 200) + (W.2.1 54 (W.1 33 2)) ≤ 2147483647) ∧ ((0 : Int) ≤ 0 → zwp jtb zsh n zm_GArem33 post (kk__ + 9) (lGo ak_ZGArem33 75) 75 [some (.inr (.inr (some (.inl 33)))), some (.inr (.inr (some (.inl 1)))), some (.inl (a)), some (.inl (ln)), some (.inl (W.2.1 54 (W.1 33 2))), some (.inl (0)), some (.inl (((W.1 33 2) * 200) + (W.2.1 54 (W.1 33 2)))), some (.inl (0))] [] W) ∧ (¬ (0 : Int) ≤ 0 → zwp jtb zsh n zm_GArem33 post (kk__ + 11) (lGo ak_ZGArem33 60) 60 [some (.inr (.inr (some (.inl 33)))), some (.inr (.inr (some (.inl 1)))), some (.inl (a)), some (.inl (ln)), some (.inl (W.2.1 54 (W.1 33 2))), some (.inl (0)), some (.inl (((W.1 33 2) * 200) + (W.2.1 54 (W.1 33 2)))), u7] [] W)) ∧ (¬ (((W.2.1 54 (W.1 33 2)) + 0) + ln) ≤ 200 → 1 = 1 ∧ ((0 : Int) = 0 ∨ (0 : Int) = 1) ∧ post (some (.inl (0))) W)) ∧ (¬ (W.2.1 54 (W.1 33 2)) ≤ 0 → (ln ≤ 0 → (-2147483648 ≤ (W.2.1 54 (W.1 33 2)) + 0 ∧ (W.2.1 54 (W.1 33 2)) + 0 ≤ 2147483647) ∧ (-2147483648 ≤ ((W.2.1 54 (W.1 33 2)) + 0) + ln ∧ ((W.2.1 54 (W.1 33 2)) + 0) + ln ≤ 2147483647) ∧ ((((W.2.1 54 (W.1 33 2)) + 0) + ln) ≤ 200 → 33 < n ∧ 9 = 9 ∧ (-2147483648 ≤ (W.1 33 2) * 200 ∧ (W.1 33 2) * 200 ≤ 2147483647) ∧ (-2147483648 ≤ ((W.1 33 2) * 200) + (W.2.1 54 (W.1 33 2)) ∧ ((W.1 33 2) * 200) + (W.2.1 54 (W.1 33 2)) ≤ 2147483647) ∧ ((0 : Int) ≤ 0 → zwp jtb zsh n zm_GArem33 post (kk__ + 7) (lGo ak_ZGArem33 75) 75 [some (.inr (.inr (some (.inl 33)))), some (.inr (.inr (some (.inl 1)))), some (.inl (a)), some (.inl (ln)), some (.inl (W.2.1 54 (W.1 33 2))), some (.inl (0)), some (.inl (((W.1 33 2) * 200) + (W.2.1 54 (W.1 33 2)))), some (.inl (0))] [] W) ∧ (¬ (0 : Int) ≤ 0 → zwp jtb zsh n zm_GArem33 post (kk__ + 9) (lGo ak_ZGArem33 60) 60 [some (.inr (.inr (some (.inl 33)))), some (.inr (.inr (some (.inl 1)))), some (.inl (a)), some (.inl (ln)), some (.inl (W.2.1 54 (W.1 33 2))), some (.inl (0)), some (.inl (((W.1 33 2) * 200) + (W.2.1 54 (W.1 33 2)))), u7] [] W)) ∧ (¬ (((W.2.1 54 (W.1 33 2)) + 0) + ln) ≤ 200 → 1 = 1 ∧ ((0 : Int) = 0 ∨ (0 : Int) = 1) ∧ post (some (.inl (0))) W)) ∧ (¬ ln ≤ 0 → (-2147483648 ≤ (W.2.1 54 (W.1 33 2)) + 1 ∧ (W.2.1 54 (W.1 33 2)) + 1 ≤ 2147483647) ∧ (-2147483648 ≤ ((W.2.1 54 (W.1 33 2)) + 1) + ln ∧ ((W.2.1 54 (W.1 33 2)) + 1) + ln ≤ 2147483647) ∧ ((((W.2.1 54 (W.1 33 2)) + 1) + ln) ≤ 200 → 33 < n ∧ 9 = 9 ∧ (-2147483648 ≤ (W.1 33 2) * 200 ∧ (W.1 33 2) * 200 ≤ 2147483647) ∧ (-2147483648 ≤ ((W.1 33 2) * 200) + (W.2.1 54 (W.1 33 2)) ∧ ((W.1 33 2) * 200) + (W.2.1 54 (W.1 33 2)) ≤ 2147483647) ∧ ((1 : Int) ≤ 0 → zwp jtb zsh n zm_GArem33 post (kk__ + 8) (lGo ak_ZGArem33 72) 72 [some (.inr (.inr (some (.inl 33)))), some (.inr (.inr (some (.inl 1)))), some (.inl (a)), some (.inl (ln)), some (.inl (W.2.1 54 (W.1 33 2))), some (.inl (1)), some (.inl (((W.1 33 2) * 200) + (W.2.1 54 (W.1 33 2)))), u7] [] W) ∧ (¬ (1 : Int) ≤ 0 → 33 < n ∧ 9 = 9 ∧ 53 < n ∧ FieldType.byte = FieldType.byte ∧ (0 ≤ (((W.1 33 2) * 200) + (W.2.1 54 (W.1 33 2))) ∧ (((W.1 33 2) * 200) + (W.2.1 54 (W.1 33 2))) < 60200) ∧ (-128 ≤ (32 : Int) ∧ (32 : Int) ≤ 127) ∧ (-2147483648 ≤ (((W.1 33 2) * 200) + (W.2.1 54 (W.1 33 2))) + 1 ∧ (((W.1 33 2) * 200) + (W.2.1 54 (W.1 33 2))) + 1 ≤ 2147483647) ∧ zwp jtb zsh n zm_GArem33 post (kk__ + 0) (lGo ak_ZGArem33 75) 75 [some (.inr (.inr (some (.inl 33)))), some (.inr (.inr (some (.inl 1)))), some (.inl (a)), some (.inl (ln)), some (.inl (W.2.1 54 (W.1 33 2))), some (.inl (1)), some (.inl ((((W.1 33 2) * 200) + (W.2.1 54 (W.1 33 2))) + 1)), some (.inl (0))] [] (zuR W 53 (((W.1 33 2) * 200) + (W.2.1 54 (W.1 33 2))) 32))) ∧ (¬ (((W.2.1 54 (W.1 33 2)) + 1) + ln) ≤ 200 → 1 = 1 ∧ ((0 : Int) = 0 ∨ (0 : Int) = 1) ∧ post (some (.inl (0))) W))) from ⟨(Nat.lt_of_lt_of_le (by decide) hn), rfl, ⟨(Nat.lt_of_lt_of_le (by decide) hn), rfl, ⟨(Nat.lt_of_lt_of_le (by decide) hn), rfl, (h).1, ⟨fun c13_7 => ⟨((((h).2).1 c13_7)).1, ⟨(((((h).2).1 c13_7)).2).1, (have h := (((((h).2).1 c13_7)).2).2; ⟨fun c37_16 => ⟨(Nat.lt_of_lt_of_le (by decide) hn), rfl, ⟨(((h).1 c37_16)).1, ⟨((((h).1 c37_16)).2).1, ⟨fun _ => ((((h).1 c37_16)).2).2, fun hc25 => absurd hc25 (by decide)⟩⟩⟩⟩, fun c37_16 => ⟨rfl, Or.inl rfl, ((h).2 c37_16)⟩⟩)⟩⟩, fun c13_7 => ⟨fun c17_9 => (have h := (((((h).2).2 c13_7)).1 c17_9); ⟨(h).1, ⟨((h).2).1, ⟨fun c37_18 => ⟨(Nat.lt_of_lt_of_le (by decide) hn), rfl, ⟨(((((h).2).2).1 c37_18)).1, (have h := (((((h).2).2).1 c37_18)).2; ⟨(h).1, ⟨fun _ => (h).2, fun hc27 => absurd hc27 (by decide)⟩⟩)⟩⟩, fun c37_18 => ⟨rfl, Or.inl rfl, ((((h).2).2).2 c37_18)⟩⟩⟩⟩), fun c17_9 => (have h := (((((h).2).2 c13_7)).2 c17_9); ⟨(h).1, ⟨((h).2).1, ⟨fun c37_19 => ⟨(Nat.lt_of_lt_of_le (by decide) hn), rfl, ⟨(((((h).2).2).1 c37_19)).1, (have h := (((((h).2).2).1 c37_19)).2; ⟨(h).1, ⟨fun hc28 => absurd hc28 (by decide), fun _ => ⟨(Nat.lt_of_lt_of_le (by decide) hn), rfl, ⟨(Nat.lt_of_lt_of_le (by decide) hn), rfl, ((h).2).1, (((h).2).2).1, ⟨((((h).2).2).2).1, ((((h).2).2).2).2⟩⟩⟩⟩⟩)⟩⟩, fun c37_19 => ⟨rfl, Or.inl rfl, ((((h).2).2).2 c37_19)⟩⟩⟩⟩)⟩⟩⟩⟩⟩)
set_option maxRecDepth 8000 in
theorem zp_GArem33_75 {n K : Nat} {V : zW} {post : zPo} {a ln old gp pl i : Int}  (hK : 23 ≤ K) (hn : 142 ≤ n) (h : (ln ≤ i → (-2147483648 ≤ old + gp ∧ old + gp ≤ 2147483647) ∧ (-2147483648 ≤ (old + gp) + ln ∧ (old + gp) + ln ≤ 2147483647) ∧ (0 ≤ (V.1 33 2) ∧ (V.1 33 2) < 301) ∧ post (some (.inl (1))) (zuR V 54 (V.1 33 2) ((old + gp) + ln))) ∧ (¬ ln ≤ i → (-2147483648 ≤ pl + i ∧ pl + i ≤ 2147483647) ∧ (-2147483648 ≤ a + i ∧ a + i ≤ 2147483647) ∧ (0 ≤ (a + i) ∧ (a + i) < 65537) ∧ (¬ (V.2.1 1 (a + i)) = 10 → (-2147483648 ≤ a + i ∧ a + i ≤ 2147483647) ∧ (0 ≤ (a + i) ∧ (a + i) < 65537) ∧ (0 ≤ (pl + i) ∧ (pl + i) < 60200) ∧ (-128 ≤ (V.2.1 1 (a + i)) ∧ (V.2.1 1 (a + i)) ≤ 127) ∧ (-2147483648 ≤ i + 1 ∧ i + 1 ≤ 2147483647) ∧ zwp jtb zsh n zm_GArem33 post (K - 23) (lGo ak_ZGArem33 75) 75 [some (.inr (.inr (some (.inl 33)))), some (.inr (.inr (some (.inl 1)))), some (.inl (a)), some (.inl (ln)), some (.inl (old)), some (.inl (gp)), some (.inl (pl)), some (.inl (i + 1))] [] (zuR V 53 (pl + i) (V.2.1 1 (a + i)))) ∧ ((V.2.1 1 (a + i)) = 10 → (0 ≤ (pl + i) ∧ (pl + i) < 60200) ∧ (-128 ≤ (32 : Int) ∧ (32 : Int) ≤ 127) ∧ (-2147483648 ≤ i + 1 ∧ i + 1 ≤ 2147483647) ∧ zwp jtb zsh n zm_GArem33 post (K - 20) (lGo ak_ZGArem33 75) 75 [some (.inr (.inr (some (.inl 33)))), some (.inr (.inr (some (.inl 1)))), some (.inl (a)), some (.inl (ln)), some (.inl (old)), some (.inl (gp)), some (.inl (pl)), some (.inl (i + 1))] [] (zuR V 53 (pl + i) 32)))) : zwp jtb zsh n zm_GArem33 post K (lGo ak_ZGArem33 75) 75 [some (.inr (.inr (some (.inl 33)))), some (.inr (.inr (some (.inl 1)))), some (.inl (a)), some (.inl (ln)), some (.inl (old)), some (.inl (gp)), some (.inl (pl)), some (.inl (i))] [] V := by
  obtain ⟨kk__, rfl⟩ : ∃ kk__, K = kk__ + 23 := ⟨K - 23, by omega⟩
  exact (show (ln ≤ i → 33 < n ∧ 9 = 9 ∧ 33 < n ∧ 9 = 9 ∧ (-2147483648 ≤ old + gp ∧ old + gp ≤ 2147483647) ∧ (-2147483648 ≤ (old + gp) + ln ∧ (old + gp) + ln ≤ 2147483647) ∧ 54 < n ∧ FieldType.int = FieldType.int ∧ (0 ≤ (V.1 33 2) ∧ (V.1 33 2) < 301) ∧ True ∧ 1 = 1 ∧ ((1 : Int) = 0 ∨ (1 : Int) = 1) ∧ post (some (.inl (1))) (zuR V 54 (V.1 33 2) ((old + gp) + ln))) ∧ (¬ ln ≤ i → 33 < n ∧ 9 = 9 ∧ (-2147483648 ≤ pl + i ∧ pl + i ≤ 2147483647) ∧ (-2147483648 ≤ a + i ∧ a + i ≤ 2147483647) ∧ 1 < n ∧ FieldType.byte = FieldType.byte ∧ (0 ≤ (a + i) ∧ (a + i) < 65537) ∧ (¬ (V.2.1 1 (a + i)) = 10 → (-2147483648 ≤ a + i ∧ a + i ≤ 2147483647) ∧ 1 < n ∧ FieldType.byte = FieldType.byte ∧ (0 ≤ (a + i) ∧ (a + i) < 65537) ∧ 53 < n ∧ FieldType.byte = FieldType.byte ∧ (0 ≤ (pl + i) ∧ (pl + i) < 60200) ∧ (-128 ≤ (V.2.1 1 (a + i)) ∧ (V.2.1 1 (a + i)) ≤ 127) ∧ (-2147483648 ≤ i + 1 ∧ i + 1 ≤ 2147483647) ∧ zwp jtb zsh n zm_GArem33 post (kk__ + 0) (lGo ak_ZGArem33 75) 75 [some (.inr (.inr (some (.inl 33)))), some (.inr (.inr (some (.inl 1)))), some (.inl (a)), some (.inl (ln)), some (.inl (old)), some (.inl (gp)), some (.inl (pl)), some (.inl (i + 1))] [] (zuR V 53 (pl + i) (V.2.1 1 (a + i)))) ∧ ((V.2.1 1 (a + i)) = 10 → 53 < n ∧ FieldType.byte = FieldType.byte ∧ (0 ≤ (pl + i) ∧ (pl + i) < 60200) ∧ (-128 ≤ (32 : Int) ∧ (32 : Int) ≤ 127) ∧ (-2147483648 ≤ i + 1 ∧ i + 1 ≤ 2147483647) ∧ zwp jtb zsh n zm_GArem33 post (kk__ + 3) (lGo ak_ZGArem33 75) 75 [some (.inr (.inr (some (.inl 33)))), some (.inr (.inr (some (.inl 1)))), some (.inl (a)), some (.inl (ln)), some (.inl (old)), some (.inl (gp)), some (.inl (pl)), some (.inl (i + 1))] [] (zuR V 53 (pl + i) 32))) from ⟨fun c78_2 => ⟨(Nat.lt_of_lt_of_le (by decide) hn), rfl, ⟨(Nat.lt_of_lt_of_le (by decide) hn), rfl, ⟨(((h).1 c78_2)).1, ⟨((((h).1 c78_2)).2).1, ⟨(Nat.lt_of_lt_of_le (by decide) hn), rfl, (((((h).1 c78_2)).2).2).1, trivial, (have h := (((((h).1 c78_2)).2).2).2; ⟨rfl, Or.inr rfl, h⟩)⟩⟩⟩⟩⟩, fun c78_2 => ⟨(Nat.lt_of_lt_of_le (by decide) hn), rfl, ⟨(((h).2 c78_2)).1, ⟨((((h).2 c78_2)).2).1, ⟨(Nat.lt_of_lt_of_le (by decide) hn), rfl, (((((h).2 c78_2)).2).2).1, (have h := (((((h).2 c78_2)).2).2).2; ⟨fun c98_14 => ⟨(((h).1 c98_14)).1, ⟨(Nat.lt_of_lt_of_le (by decide) hn), rfl, ((((h).1 c98_14)).2).1, ⟨(Nat.lt_of_lt_of_le (by decide) hn), rfl, (((((h).1 c98_14)).2).2).1, ((((((h).1 c98_14)).2).2).2).1, (have h := ((((((h).1 c98_14)).2).2).2).2; ⟨(h).1, (h).2⟩)⟩⟩⟩, fun c98_14 => ⟨(Nat.lt_of_lt_of_le (by decide) hn), rfl, (((h).2 c98_14)).1, ((((h).2 c98_14)).2).1, ⟨(((((h).2 c98_14)).2).2).1, (((((h).2 c98_14)).2).2).2⟩⟩⟩)⟩⟩⟩⟩⟩)
theorem zk_GArem33 {l : Launch} {E : jE} {n : Nat} (hn : 142 ≤ n) : zHas l E jcl jtb lw_tbl zsh n (y_GA_addRemark, false, 4, 9, { frames := 0, cells := 0, slots := 0, locals := 0 }, zc_GArem33) := by
  refine ⟨⟨rfl, rfl, ⟨show 1 ≤ 4 by decide, m_GA_addRemark, i_GA_addRemark, e_GA_addRemark, fun _ => ⟨_, rfl, rfl⟩⟩⟩, ?_⟩
  rintro vz W po hO hW ⟨a, ln, rfl, hq, hp⟩
  refine zmet (m := zm_GArem33) rfl (by decide) (fun _ _ => jtF_ok) lo_GA ao_ZGArem33 jC (fun q h => by cases h) (fun q h => by cases h) (fun q h => by cases h) (Nat.le_of_ble_eq_true rfl) hO hW (30000) ?_
  obtain ⟨hh, hr, hl0, hby⟩ := hq
  have gz0 : ¬ (0 < ln ∧ 0 < (W.2.1 54 (W.1 33 2))) → gRz (W.2.1 54 (W.1 33 2)) ln = (W.2.1 54 (W.1 33 2)) + 0 + ln := by
    intro h
    unfold gRz
    rw [if_neg h]
  have gz1 : (0 < ln ∧ 0 < (W.2.1 54 (W.1 33 2))) → gRz (W.2.1 54 (W.1 33 2)) ln = (W.2.1 54 (W.1 33 2)) + 1 + ln := by
    intro h
    unfold gRz
    rw [if_pos h]
  have h75 : ∀ (mm K : Nat) (V : zW) (old gp pl i : Int), 100 * mm + 100 ≤ K → (ln - i < mm ∧ 0 ≤ i ∧ i ≤ ln) → old = (W.2.1 54 (W.1 33 2)) → gRz (W.2.1 54 (W.1 33 2)) ln = old + gp + ln → old + gp + ln ≤ 200 → (0 ≤ gp ∧ gp ≤ 1) → pl = W.1 33 2 * 200 + old + gp → zFr [] [53] W V → zwp jtb zsh n zm_GArem33 po K (lGo ak_ZGArem33 75) 75 [some (.inr (.inr (some (.inl 33)))), some (.inr (.inr (some (.inl 1)))), some (.inl (a)), some (.inl (ln)), some (.inl (old)), some (.inl (gp)), some (.inl (pl)), some (.inl (i))] [] V := by
    intro mm
    induction mm with
    | zero => intro K V old gp pl i hK h1; omega
    | succ mm ih =>
      intro K V old gp pl i hK h1 ho hg hl h0 hpl hF
      have v1 : V.2.1 1 = W.2.1 1 := zFr_r hF 1
      have vh : V.1 33 2 = W.1 33 2 := zFr_f hF 33 2
      have fin : zFr [] [53, 54] W (zuR V 54 (V.1 33 2) ((old + gp) + ln)) ∧ (((1 : Int) = 1 ∧ gRz (W.2.1 54 (W.1 33 2)) ln ≤ 200 ∧ (zuR V 54 (V.1 33 2) ((old + gp) + ln)).2.1 54 = zuI (W.2.1 54) (W.1 33 2) (gRz (W.2.1 54 (W.1 33 2)) ln)) ∨ ((1 : Int) = 0 ∧ 200 < gRz (W.2.1 54 (W.1 33 2)) ln ∧ (zuR V 54 (V.1 33 2) ((old + gp) + ln)).2.1 54 = W.2.1 54)) := by
        refine ⟨zFr_R (zFr_w hF (by decide) (by decide)) (by decide), Or.inl ⟨rfl, by omega, ?_⟩⟩
        show zuI (V.2.1 54) (V.1 33 2) ((old + gp) + ln) = _
        rw [zFr_r hF 54, vh, hg]
      exact zp_GArem33_75 (by omega) hn ⟨fun c78 => ⟨(by omega), ⟨(by omega), ⟨(by rw [vh]; omega), (hp _ _ fin)⟩⟩⟩, fun c78 => ⟨(by omega), ⟨(by omega), ⟨(by omega), ⟨fun c98 => ⟨(by omega), ⟨(by omega), ⟨(by omega), (by rw [v1]; exact hby _ (by omega) (by omega)), ⟨(by omega), (ih _ _ _ _ _ (i + 1) (by omega) (by omega) ho hg hl h0 hpl (zFr_R hF (by decide)))⟩⟩⟩⟩, fun c98 => ⟨(by omega), (by omega), ⟨(by omega), (ih _ _ _ _ _ (i + 1) (by omega) (by omega) ho hg hl h0 hpl (zFr_R hF (by decide)))⟩⟩⟩⟩⟩⟩⟩
  exact zp_GArem33_0 (by omega) hn ⟨(by omega), ⟨fun c13 => ⟨(by omega), ⟨(by omega), ⟨fun c37 => ⟨(by omega), ⟨(by omega), (h75 201 _ _ _ 0 _ 0 (by omega) (by omega) rfl (gz0 (by omega)) (by omega) (by omega) (by omega) zFr_0)⟩⟩, fun c37 => (hp _ _ ⟨zFr_0, Or.inr ⟨rfl, by first | (rw [gz1 (by omega)]; omega) | (rw [gz0 (by omega)]; omega), rfl⟩⟩)⟩⟩⟩, fun c13 => ⟨fun c17 => ⟨(by omega), ⟨(by omega), ⟨fun c37 => ⟨(by omega), ⟨(by omega), (h75 201 _ _ _ 0 _ 0 (by omega) (by omega) rfl (gz0 (by omega)) (by omega) (by omega) (by omega) zFr_0)⟩⟩, fun c37 => (hp _ _ ⟨zFr_0, Or.inr ⟨rfl, by first | (rw [gz1 (by omega)]; omega) | (rw [gz0 (by omega)]; omega), rfl⟩⟩)⟩⟩⟩, fun c17 => ⟨(by omega), ⟨(by omega), ⟨fun c37 => ⟨(by omega), ⟨(by omega), ⟨(by omega), (by omega), ⟨(by omega), (h75 201 _ _ _ 1 _ 0 (by omega) (by omega) rfl (gz1 (by omega)) (by omega) (by omega) (by omega) (zFr_R zFr_0 (by decide)))⟩⟩⟩⟩, fun c37 => (hp _ _ ⟨zFr_0, Or.inr ⟨rfl, by first | (rw [gz1 (by omega)]; omega) | (rw [gz0 (by omega)]; omega), rfl⟩⟩)⟩⟩⟩⟩⟩⟩
noncomputable def ak_ZGArem60 : List jI := ak_ZGArem33
theorem ao_ZGArem60 : jokLG jtF lk_GA "ChessHouse$Game" jcl jtb 8 prog_7_method_14_code 0 ak_ZGArem60 = true := ao_ZGArem33
noncomputable def zm_GArem60 : zM := (some .boolean, { frames := 0, cells := 0, slots := 0, locals := 0 }, ([], []), [], ak_ZGArem60)
noncomputable def zc_GArem60 (vals : List zv) (W : zW) (post : zPo) : Prop := ∃ a ln : Int, vals = [.inr (.inr (some (.inl 60))), .inr (.inr (some (.inl 1))), .inl (a), .inl (ln)] ∧ ((0 ≤ W.1 60 2 ∧ W.1 60 2 ≤ 300) ∧ (0 ≤ W.2.1 81 (W.1 60 2) ∧ W.2.1 81 (W.1 60 2) ≤ 200) ∧ (0 ≤ a ∧ 0 ≤ ln ∧ a + ln ≤ 65537) ∧ (∀ i, a ≤ i → i < a + ln → -128 ≤ W.2.1 1 i ∧ W.2.1 1 i ≤ 127)) ∧ ∀ r : Int, ∀ V : zW, (zFr [] [80, 81] W V ∧ ((r = 1 ∧ gRz (W.2.1 81 (W.1 60 2)) ln ≤ 200 ∧ V.2.1 81 = zuI (W.2.1 81) (W.1 60 2) (gRz (W.2.1 81 (W.1 60 2)) ln)) ∨ (r = 0 ∧ 200 < gRz (W.2.1 81 (W.1 60 2)) ln ∧ V.2.1 81 = W.2.1 81))) → post (some (.inl r)) V
set_option maxRecDepth 8000 in
theorem zp_GArem60_0 {n K : Nat} {W : zW} {post : zPo} {a ln : Int} {u4 u5 u6 u7 : Option zv} (hK : 37 ≤ K) (hn : 142 ≤ n) (h : (0 ≤ (W.1 60 2) ∧ (W.1 60 2) < 301) ∧ ((W.2.1 81 (W.1 60 2)) ≤ 0 → (-2147483648 ≤ (W.2.1 81 (W.1 60 2)) + 0 ∧ (W.2.1 81 (W.1 60 2)) + 0 ≤ 2147483647) ∧ (-2147483648 ≤ ((W.2.1 81 (W.1 60 2)) + 0) + ln ∧ ((W.2.1 81 (W.1 60 2)) + 0) + ln ≤ 2147483647) ∧ ((((W.2.1 81 (W.1 60 2)) + 0) + ln) ≤ 200 → (-2147483648 ≤ (W.1 60 2) * 200 ∧ (W.1 60 2) * 200 ≤ 2147483647) ∧ (-2147483648 ≤ ((W.1 60 2) * 200) + (W.2.1 81 (W.1 60 2)) ∧ ((W.1 60 2) * 200) + (W.2.1 81 (W.1 60 2)) ≤ 2147483647) ∧ zwp jtb zsh n zm_GArem60 post (K - 28) (lGo ak_ZGArem60 75) 75 [some (.inr (.inr (some (.inl 60)))), some (.inr (.inr (some (.inl 1)))), some (.inl (a)), some (.inl (ln)), some (.inl (W.2.1 81 (W.1 60 2))), some (.inl (0)), some (.inl (((W.1 60 2) * 200) + (W.2.1 81 (W.1 60 2)))), some (.inl (0))] [] W) ∧ (¬ (((W.2.1 81 (W.1 60 2)) + 0) + ln) ≤ 200 → post (some (.inl (0))) W)) ∧ (¬ (W.2.1 81 (W.1 60 2)) ≤ 0 → (ln ≤ 0 → (-2147483648 ≤ (W.2.1 81 (W.1 60 2)) + 0 ∧ (W.2.1 81 (W.1 60 2)) + 0 ≤ 2147483647) ∧ (-2147483648 ≤ ((W.2.1 81 (W.1 60 2)) + 0) + ln ∧ ((W.2.1 81 (W.1 60 2)) + 0) + ln ≤ 2147483647) ∧ ((((W.2.1 81 (W.1 60 2)) + 0) + ln) ≤ 200 → (-2147483648 ≤ (W.1 60 2) * 200 ∧ (W.1 60 2) * 200 ≤ 2147483647) ∧ (-2147483648 ≤ ((W.1 60 2) * 200) + (W.2.1 81 (W.1 60 2)) ∧ ((W.1 60 2) * 200) + (W.2.1 81 (W.1 60 2)) ≤ 2147483647) ∧ zwp jtb zsh n zm_GArem60 post (K - 30) (lGo ak_ZGArem60 75) 75 [some (.inr (.inr (some (.inl 60)))), some (.inr (.inr (some (.inl 1)))), some (.inl (a)), some (.inl (ln)), some (.inl (W.2.1 81 (W.1 60 2))), some (.inl (0)), some (.inl (((W.1 60 2) * 200) + (W.2.1 81 (W.1 60 2)))), some (.inl (0))] [] W) ∧ (¬ (((W.2.1 81 (W.1 60 2)) + 0) + ln) ≤ 200 → post (some (.inl (0))) W)) ∧ (¬ ln ≤ 0 → (-2147483648 ≤ (W.2.1 81 (W.1 60 2)) + 1 ∧ (W.2.1 81 (W.1 60 2)) + 1 ≤ 2147483647) ∧ (-2147483648 ≤ ((W.2.1 81 (W.1 60 2)) + 1) + ln ∧ ((W.2.1 81 (W.1 60 2)) + 1) + ln ≤ 2147483647) ∧ ((((W.2.1 81 (W.1 60 2)) + 1) + ln) ≤ 200 → (-2147483648 ≤ (W.1 60 2) * 200 ∧ (W.1 60 2) * 200 ≤ 2147483647) ∧ (-2147483648 ≤ ((W.1 60 2) * 200) + (W.2.1 81 (W.1 60 2)) ∧ ((W.1 60 2) * 200) + (W.2.1 81 (W.1 60 2)) ≤ 2147483647) ∧ (0 ≤ (((W.1 60 2) * 200) + (W.2.1 81 (W.1 60 2))) ∧ (((W.1 60 2) * 200) + (W.2.1 81 (W.1 60 2))) < 60200) ∧ (-128 ≤ (32 : Int) ∧ (32 : Int) ≤ 127) ∧ (-2147483648 ≤ (((W.1 60 2) * 200) + (W.2.1 81 (W.1 60 2))) + 1 ∧ (((W.1 60 2) * 200) + (W.2.1 81 (W.1 60 2))) + 1 ≤ 2147483647) ∧ zwp jtb zsh n zm_GArem60 post (K - 37) (lGo ak_ZGArem60 75) 75 [some (.inr (.inr (some (.inl 60)))), some (.inr (.inr (some (.inl 1)))), some (.inl (a)), some (.inl (ln)), some (.inl (W.2.1 81 (W.1 60 2))), some (.inl (1)), some (.inl ((((W.1 60 2) * 200) + (W.2.1 81 (W.1 60 2))) + 1)), some (.inl (0))] [] (zuR W 80 (((W.1 60 2) * 200) + (W.2.1 81 (W.1 60 2))) 32)) ∧ (¬ (((W.2.1 81 (W.1 60 2)) + 1) + ln) ≤ 200 → post (some (.inl (0))) W)))) : zwp jtb zsh n zm_GArem60 post K (lGo ak_ZGArem60 0) 0 [some (.inr (.inr (some (.inl 60)))), some (.inr (.inr (some (.inl 1)))), some (.inl (a)), some (.inl (ln)), u4, u5, u6, u7] [] W := by
  obtain ⟨kk__, rfl⟩ : ∃ kk__, K = kk__ + 37 := ⟨K - 37, by omega⟩
  exact (show 60 < n ∧ 9 = 9 ∧ 60 < n ∧ 9 = 9 ∧ 81 < n ∧ FieldType.int = FieldType.int ∧ (0 ≤ (W.1 60 2) ∧ (W.1 60 2) < 301) ∧ ((W.2.1 81 (W.1 60 2)) ≤ 0 → (-2147483648 ≤ (W.2.1 81 (W.1 60 2)) + 0 ∧ (W.2.1 81 (W.1 60 2)) + 0 ≤ 2147483647) ∧ (-2147483648 ≤ ((W.2.1 81 (W.1 60 2)) + 0) + ln ∧ ((W.2.1 81 (W.1 60 2)) + 0) + ln ≤ 2147483647) ∧ ((((W.2.1 81 (W.1 60 2)) + 0) + ln) ≤ 200 → 60 < n ∧ 9 = 9 ∧ (-2147483648 ≤ (W.1 60 2) * 200 ∧ (W.1 60 2) * 200 ≤ 2147483647) ∧ (-2147483648 ≤ ((W.1 60 2) * 200) + (W.2.1 81 (W.1 60 2)) ∧ ((W.1 60 2) * 200) + (W.2.1 81 (W.1 60 2)) ≤ 2147483647) ∧ ((0 : Int) ≤ 0 → zwp jtb zsh n zm_GArem60 post (kk__ + 9) (lGo ak_ZGArem60 75) 75 [some (.inr (.inr (some (.inl 60)))), some (.inr (.inr (some (.inl 1)))), some (.inl (a)), some (.inl (ln)), some (.inl (W.2.1 81 (W.1 60 2))), some (.inl (0)), some (.inl (((W.1 60 2) * 200) + (W.2.1 81 (W.1 60 2)))), some (.inl (0))] [] W) ∧ (¬ (0 : Int) ≤ 0 → zwp jtb zsh n zm_GArem60 post (kk__ + 11) (lGo ak_ZGArem60 60) 60 [some (.inr (.inr (some (.inl 60)))), some (.inr (.inr (some (.inl 1)))), some (.inl (a)), some (.inl (ln)), some (.inl (W.2.1 81 (W.1 60 2))), some (.inl (0)), some (.inl (((W.1 60 2) * 200) + (W.2.1 81 (W.1 60 2)))), u7] [] W)) ∧ (¬ (((W.2.1 81 (W.1 60 2)) + 0) + ln) ≤ 200 → 1 = 1 ∧ ((0 : Int) = 0 ∨ (0 : Int) = 1) ∧ post (some (.inl (0))) W)) ∧ (¬ (W.2.1 81 (W.1 60 2)) ≤ 0 → (ln ≤ 0 → (-2147483648 ≤ (W.2.1 81 (W.1 60 2)) + 0 ∧ (W.2.1 81 (W.1 60 2)) + 0 ≤ 2147483647) ∧ (-2147483648 ≤ ((W.2.1 81 (W.1 60 2)) + 0) + ln ∧ ((W.2.1 81 (W.1 60 2)) + 0) + ln ≤ 2147483647) ∧ ((((W.2.1 81 (W.1 60 2)) + 0) + ln) ≤ 200 → 60 < n ∧ 9 = 9 ∧ (-2147483648 ≤ (W.1 60 2) * 200 ∧ (W.1 60 2) * 200 ≤ 2147483647) ∧ (-2147483648 ≤ ((W.1 60 2) * 200) + (W.2.1 81 (W.1 60 2)) ∧ ((W.1 60 2) * 200) + (W.2.1 81 (W.1 60 2)) ≤ 2147483647) ∧ ((0 : Int) ≤ 0 → zwp jtb zsh n zm_GArem60 post (kk__ + 7) (lGo ak_ZGArem60 75) 75 [some (.inr (.inr (some (.inl 60)))), some (.inr (.inr (some (.inl 1)))), some (.inl (a)), some (.inl (ln)), some (.inl (W.2.1 81 (W.1 60 2))), some (.inl (0)), some (.inl (((W.1 60 2) * 200) + (W.2.1 81 (W.1 60 2)))), some (.inl (0))] [] W) ∧ (¬ (0 : Int) ≤ 0 → zwp jtb zsh n zm_GArem60 post (kk__ + 9) (lGo ak_ZGArem60 60) 60 [some (.inr (.inr (some (.inl 60)))), some (.inr (.inr (some (.inl 1)))), some (.inl (a)), some (.inl (ln)), some (.inl (W.2.1 81 (W.1 60 2))), some (.inl (0)), some (.inl (((W.1 60 2) * 200) + (W.2.1 81 (W.1 60 2)))), u7] [] W)) ∧ (¬ (((W.2.1 81 (W.1 60 2)) + 0) + ln) ≤ 200 → 1 = 1 ∧ ((0 : Int) = 0 ∨ (0 : Int) = 1) ∧ post (some (.inl (0))) W)) ∧ (¬ ln ≤ 0 → (-2147483648 ≤ (W.2.1 81 (W.1 60 2)) + 1 ∧ (W.2.1 81 (W.1 60 2)) + 1 ≤ 2147483647) ∧ (-2147483648 ≤ ((W.2.1 81 (W.1 60 2)) + 1) + ln ∧ ((W.2.1 81 (W.1 60 2)) + 1) + ln ≤ 2147483647) ∧ ((((W.2.1 81 (W.1 60 2)) + 1) + ln) ≤ 200 → 60 < n ∧ 9 = 9 ∧ (-2147483648 ≤ (W.1 60 2) * 200 ∧ (W.1 60 2) * 200 ≤ 2147483647) ∧ (-2147483648 ≤ ((W.1 60 2) * 200) + (W.2.1 81 (W.1 60 2)) ∧ ((W.1 60 2) * 200) + (W.2.1 81 (W.1 60 2)) ≤ 2147483647) ∧ ((1 : Int) ≤ 0 → zwp jtb zsh n zm_GArem60 post (kk__ + 8) (lGo ak_ZGArem60 72) 72 [some (.inr (.inr (some (.inl 60)))), some (.inr (.inr (some (.inl 1)))), some (.inl (a)), some (.inl (ln)), some (.inl (W.2.1 81 (W.1 60 2))), some (.inl (1)), some (.inl (((W.1 60 2) * 200) + (W.2.1 81 (W.1 60 2)))), u7] [] W) ∧ (¬ (1 : Int) ≤ 0 → 60 < n ∧ 9 = 9 ∧ 80 < n ∧ FieldType.byte = FieldType.byte ∧ (0 ≤ (((W.1 60 2) * 200) + (W.2.1 81 (W.1 60 2))) ∧ (((W.1 60 2) * 200) + (W.2.1 81 (W.1 60 2))) < 60200) ∧ (-128 ≤ (32 : Int) ∧ (32 : Int) ≤ 127) ∧ (-2147483648 ≤ (((W.1 60 2) * 200) + (W.2.1 81 (W.1 60 2))) + 1 ∧ (((W.1 60 2) * 200) + (W.2.1 81 (W.1 60 2))) + 1 ≤ 2147483647) ∧ zwp jtb zsh n zm_GArem60 post (kk__ + 0) (lGo ak_ZGArem60 75) 75 [some (.inr (.inr (some (.inl 60)))), some (.inr (.inr (some (.inl 1)))), some (.inl (a)), some (.inl (ln)), some (.inl (W.2.1 81 (W.1 60 2))), some (.inl (1)), some (.inl ((((W.1 60 2) * 200) + (W.2.1 81 (W.1 60 2))) + 1)), some (.inl (0))] [] (zuR W 80 (((W.1 60 2) * 200) + (W.2.1 81 (W.1 60 2))) 32))) ∧ (¬ (((W.2.1 81 (W.1 60 2)) + 1) + ln) ≤ 200 → 1 = 1 ∧ ((0 : Int) = 0 ∨ (0 : Int) = 1) ∧ post (some (.inl (0))) W))) from ⟨(Nat.lt_of_lt_of_le (by decide) hn), rfl, ⟨(Nat.lt_of_lt_of_le (by decide) hn), rfl, ⟨(Nat.lt_of_lt_of_le (by decide) hn), rfl, (h).1, ⟨fun c13_7 => ⟨((((h).2).1 c13_7)).1, ⟨(((((h).2).1 c13_7)).2).1, (have h := (((((h).2).1 c13_7)).2).2; ⟨fun c37_16 => ⟨(Nat.lt_of_lt_of_le (by decide) hn), rfl, ⟨(((h).1 c37_16)).1, ⟨((((h).1 c37_16)).2).1, ⟨fun _ => ((((h).1 c37_16)).2).2, fun hc25 => absurd hc25 (by decide)⟩⟩⟩⟩, fun c37_16 => ⟨rfl, Or.inl rfl, ((h).2 c37_16)⟩⟩)⟩⟩, fun c13_7 => ⟨fun c17_9 => (have h := (((((h).2).2 c13_7)).1 c17_9); ⟨(h).1, ⟨((h).2).1, ⟨fun c37_18 => ⟨(Nat.lt_of_lt_of_le (by decide) hn), rfl, ⟨(((((h).2).2).1 c37_18)).1, (have h := (((((h).2).2).1 c37_18)).2; ⟨(h).1, ⟨fun _ => (h).2, fun hc27 => absurd hc27 (by decide)⟩⟩)⟩⟩, fun c37_18 => ⟨rfl, Or.inl rfl, ((((h).2).2).2 c37_18)⟩⟩⟩⟩), fun c17_9 => (have h := (((((h).2).2 c13_7)).2 c17_9); ⟨(h).1, ⟨((h).2).1, ⟨fun c37_19 => ⟨(Nat.lt_of_lt_of_le (by decide) hn), rfl, ⟨(((((h).2).2).1 c37_19)).1, (have h := (((((h).2).2).1 c37_19)).2; ⟨(h).1, ⟨fun hc28 => absurd hc28 (by decide), fun _ => ⟨(Nat.lt_of_lt_of_le (by decide) hn), rfl, ⟨(Nat.lt_of_lt_of_le (by decide) hn), rfl, ((h).2).1, (((h).2).2).1, ⟨((((h).2).2).2).1, ((((h).2).2).2).2⟩⟩⟩⟩⟩)⟩⟩, fun c37_19 => ⟨rfl, Or.inl rfl, ((((h).2).2).2 c37_19)⟩⟩⟩⟩)⟩⟩⟩⟩⟩)
set_option maxRecDepth 8000 in
theorem zp_GArem60_75 {n K : Nat} {V : zW} {post : zPo} {a ln old gp pl i : Int}  (hK : 23 ≤ K) (hn : 142 ≤ n) (h : (ln ≤ i → (-2147483648 ≤ old + gp ∧ old + gp ≤ 2147483647) ∧ (-2147483648 ≤ (old + gp) + ln ∧ (old + gp) + ln ≤ 2147483647) ∧ (0 ≤ (V.1 60 2) ∧ (V.1 60 2) < 301) ∧ post (some (.inl (1))) (zuR V 81 (V.1 60 2) ((old + gp) + ln))) ∧ (¬ ln ≤ i → (-2147483648 ≤ pl + i ∧ pl + i ≤ 2147483647) ∧ (-2147483648 ≤ a + i ∧ a + i ≤ 2147483647) ∧ (0 ≤ (a + i) ∧ (a + i) < 65537) ∧ (¬ (V.2.1 1 (a + i)) = 10 → (-2147483648 ≤ a + i ∧ a + i ≤ 2147483647) ∧ (0 ≤ (a + i) ∧ (a + i) < 65537) ∧ (0 ≤ (pl + i) ∧ (pl + i) < 60200) ∧ (-128 ≤ (V.2.1 1 (a + i)) ∧ (V.2.1 1 (a + i)) ≤ 127) ∧ (-2147483648 ≤ i + 1 ∧ i + 1 ≤ 2147483647) ∧ zwp jtb zsh n zm_GArem60 post (K - 23) (lGo ak_ZGArem60 75) 75 [some (.inr (.inr (some (.inl 60)))), some (.inr (.inr (some (.inl 1)))), some (.inl (a)), some (.inl (ln)), some (.inl (old)), some (.inl (gp)), some (.inl (pl)), some (.inl (i + 1))] [] (zuR V 80 (pl + i) (V.2.1 1 (a + i)))) ∧ ((V.2.1 1 (a + i)) = 10 → (0 ≤ (pl + i) ∧ (pl + i) < 60200) ∧ (-128 ≤ (32 : Int) ∧ (32 : Int) ≤ 127) ∧ (-2147483648 ≤ i + 1 ∧ i + 1 ≤ 2147483647) ∧ zwp jtb zsh n zm_GArem60 post (K - 20) (lGo ak_ZGArem60 75) 75 [some (.inr (.inr (some (.inl 60)))), some (.inr (.inr (some (.inl 1)))), some (.inl (a)), some (.inl (ln)), some (.inl (old)), some (.inl (gp)), some (.inl (pl)), some (.inl (i + 1))] [] (zuR V 80 (pl + i) 32)))) : zwp jtb zsh n zm_GArem60 post K (lGo ak_ZGArem60 75) 75 [some (.inr (.inr (some (.inl 60)))), some (.inr (.inr (some (.inl 1)))), some (.inl (a)), some (.inl (ln)), some (.inl (old)), some (.inl (gp)), some (.inl (pl)), some (.inl (i))] [] V := by
  obtain ⟨kk__, rfl⟩ : ∃ kk__, K = kk__ + 23 := ⟨K - 23, by omega⟩
  exact (show (ln ≤ i → 60 < n ∧ 9 = 9 ∧ 60 < n ∧ 9 = 9 ∧ (-2147483648 ≤ old + gp ∧ old + gp ≤ 2147483647) ∧ (-2147483648 ≤ (old + gp) + ln ∧ (old + gp) + ln ≤ 2147483647) ∧ 81 < n ∧ FieldType.int = FieldType.int ∧ (0 ≤ (V.1 60 2) ∧ (V.1 60 2) < 301) ∧ True ∧ 1 = 1 ∧ ((1 : Int) = 0 ∨ (1 : Int) = 1) ∧ post (some (.inl (1))) (zuR V 81 (V.1 60 2) ((old + gp) + ln))) ∧ (¬ ln ≤ i → 60 < n ∧ 9 = 9 ∧ (-2147483648 ≤ pl + i ∧ pl + i ≤ 2147483647) ∧ (-2147483648 ≤ a + i ∧ a + i ≤ 2147483647) ∧ 1 < n ∧ FieldType.byte = FieldType.byte ∧ (0 ≤ (a + i) ∧ (a + i) < 65537) ∧ (¬ (V.2.1 1 (a + i)) = 10 → (-2147483648 ≤ a + i ∧ a + i ≤ 2147483647) ∧ 1 < n ∧ FieldType.byte = FieldType.byte ∧ (0 ≤ (a + i) ∧ (a + i) < 65537) ∧ 80 < n ∧ FieldType.byte = FieldType.byte ∧ (0 ≤ (pl + i) ∧ (pl + i) < 60200) ∧ (-128 ≤ (V.2.1 1 (a + i)) ∧ (V.2.1 1 (a + i)) ≤ 127) ∧ (-2147483648 ≤ i + 1 ∧ i + 1 ≤ 2147483647) ∧ zwp jtb zsh n zm_GArem60 post (kk__ + 0) (lGo ak_ZGArem60 75) 75 [some (.inr (.inr (some (.inl 60)))), some (.inr (.inr (some (.inl 1)))), some (.inl (a)), some (.inl (ln)), some (.inl (old)), some (.inl (gp)), some (.inl (pl)), some (.inl (i + 1))] [] (zuR V 80 (pl + i) (V.2.1 1 (a + i)))) ∧ ((V.2.1 1 (a + i)) = 10 → 80 < n ∧ FieldType.byte = FieldType.byte ∧ (0 ≤ (pl + i) ∧ (pl + i) < 60200) ∧ (-128 ≤ (32 : Int) ∧ (32 : Int) ≤ 127) ∧ (-2147483648 ≤ i + 1 ∧ i + 1 ≤ 2147483647) ∧ zwp jtb zsh n zm_GArem60 post (kk__ + 3) (lGo ak_ZGArem60 75) 75 [some (.inr (.inr (some (.inl 60)))), some (.inr (.inr (some (.inl 1)))), some (.inl (a)), some (.inl (ln)), some (.inl (old)), some (.inl (gp)), some (.inl (pl)), some (.inl (i + 1))] [] (zuR V 80 (pl + i) 32))) from ⟨fun c78_2 => ⟨(Nat.lt_of_lt_of_le (by decide) hn), rfl, ⟨(Nat.lt_of_lt_of_le (by decide) hn), rfl, ⟨(((h).1 c78_2)).1, ⟨((((h).1 c78_2)).2).1, ⟨(Nat.lt_of_lt_of_le (by decide) hn), rfl, (((((h).1 c78_2)).2).2).1, trivial, (have h := (((((h).1 c78_2)).2).2).2; ⟨rfl, Or.inr rfl, h⟩)⟩⟩⟩⟩⟩, fun c78_2 => ⟨(Nat.lt_of_lt_of_le (by decide) hn), rfl, ⟨(((h).2 c78_2)).1, ⟨((((h).2 c78_2)).2).1, ⟨(Nat.lt_of_lt_of_le (by decide) hn), rfl, (((((h).2 c78_2)).2).2).1, (have h := (((((h).2 c78_2)).2).2).2; ⟨fun c98_14 => ⟨(((h).1 c98_14)).1, ⟨(Nat.lt_of_lt_of_le (by decide) hn), rfl, ((((h).1 c98_14)).2).1, ⟨(Nat.lt_of_lt_of_le (by decide) hn), rfl, (((((h).1 c98_14)).2).2).1, ((((((h).1 c98_14)).2).2).2).1, (have h := ((((((h).1 c98_14)).2).2).2).2; ⟨(h).1, (h).2⟩)⟩⟩⟩, fun c98_14 => ⟨(Nat.lt_of_lt_of_le (by decide) hn), rfl, (((h).2 c98_14)).1, ((((h).2 c98_14)).2).1, ⟨(((((h).2 c98_14)).2).2).1, (((((h).2 c98_14)).2).2).2⟩⟩⟩)⟩⟩⟩⟩⟩)
theorem zk_GArem60 {l : Launch} {E : jE} {n : Nat} (hn : 142 ≤ n) : zHas l E jcl jtb lw_tbl zsh n (y_GA_addRemark, false, 4, 9, { frames := 0, cells := 0, slots := 0, locals := 0 }, zc_GArem60) := by
  refine ⟨⟨rfl, rfl, ⟨show 1 ≤ 4 by decide, m_GA_addRemark, i_GA_addRemark, e_GA_addRemark, fun _ => ⟨_, rfl, rfl⟩⟩⟩, ?_⟩
  rintro vz W po hO hW ⟨a, ln, rfl, hq, hp⟩
  refine zmet (m := zm_GArem60) rfl (by decide) (fun _ _ => jtF_ok) lo_GA ao_ZGArem60 jC (fun q h => by cases h) (fun q h => by cases h) (fun q h => by cases h) (Nat.le_of_ble_eq_true rfl) hO hW (30000) ?_
  obtain ⟨hh, hr, hl0, hby⟩ := hq
  have gz0 : ¬ (0 < ln ∧ 0 < (W.2.1 81 (W.1 60 2))) → gRz (W.2.1 81 (W.1 60 2)) ln = (W.2.1 81 (W.1 60 2)) + 0 + ln := by
    intro h
    unfold gRz
    rw [if_neg h]
  have gz1 : (0 < ln ∧ 0 < (W.2.1 81 (W.1 60 2))) → gRz (W.2.1 81 (W.1 60 2)) ln = (W.2.1 81 (W.1 60 2)) + 1 + ln := by
    intro h
    unfold gRz
    rw [if_pos h]
  have h75 : ∀ (mm K : Nat) (V : zW) (old gp pl i : Int), 100 * mm + 100 ≤ K → (ln - i < mm ∧ 0 ≤ i ∧ i ≤ ln) → old = (W.2.1 81 (W.1 60 2)) → gRz (W.2.1 81 (W.1 60 2)) ln = old + gp + ln → old + gp + ln ≤ 200 → (0 ≤ gp ∧ gp ≤ 1) → pl = W.1 60 2 * 200 + old + gp → zFr [] [80] W V → zwp jtb zsh n zm_GArem60 po K (lGo ak_ZGArem60 75) 75 [some (.inr (.inr (some (.inl 60)))), some (.inr (.inr (some (.inl 1)))), some (.inl (a)), some (.inl (ln)), some (.inl (old)), some (.inl (gp)), some (.inl (pl)), some (.inl (i))] [] V := by
    intro mm
    induction mm with
    | zero => intro K V old gp pl i hK h1; omega
    | succ mm ih =>
      intro K V old gp pl i hK h1 ho hg hl h0 hpl hF
      have v1 : V.2.1 1 = W.2.1 1 := zFr_r hF 1
      have vh : V.1 60 2 = W.1 60 2 := zFr_f hF 60 2
      have fin : zFr [] [80, 81] W (zuR V 81 (V.1 60 2) ((old + gp) + ln)) ∧ (((1 : Int) = 1 ∧ gRz (W.2.1 81 (W.1 60 2)) ln ≤ 200 ∧ (zuR V 81 (V.1 60 2) ((old + gp) + ln)).2.1 81 = zuI (W.2.1 81) (W.1 60 2) (gRz (W.2.1 81 (W.1 60 2)) ln)) ∨ ((1 : Int) = 0 ∧ 200 < gRz (W.2.1 81 (W.1 60 2)) ln ∧ (zuR V 81 (V.1 60 2) ((old + gp) + ln)).2.1 81 = W.2.1 81)) := by
        refine ⟨zFr_R (zFr_w hF (by decide) (by decide)) (by decide), Or.inl ⟨rfl, by omega, ?_⟩⟩
        show zuI (V.2.1 81) (V.1 60 2) ((old + gp) + ln) = _
        rw [zFr_r hF 81, vh, hg]
      exact zp_GArem60_75 (by omega) hn ⟨fun c78 => ⟨(by omega), ⟨(by omega), ⟨(by rw [vh]; omega), (hp _ _ fin)⟩⟩⟩, fun c78 => ⟨(by omega), ⟨(by omega), ⟨(by omega), ⟨fun c98 => ⟨(by omega), ⟨(by omega), ⟨(by omega), (by rw [v1]; exact hby _ (by omega) (by omega)), ⟨(by omega), (ih _ _ _ _ _ (i + 1) (by omega) (by omega) ho hg hl h0 hpl (zFr_R hF (by decide)))⟩⟩⟩⟩, fun c98 => ⟨(by omega), (by omega), ⟨(by omega), (ih _ _ _ _ _ (i + 1) (by omega) (by omega) ho hg hl h0 hpl (zFr_R hF (by decide)))⟩⟩⟩⟩⟩⟩⟩
  exact zp_GArem60_0 (by omega) hn ⟨(by omega), ⟨fun c13 => ⟨(by omega), ⟨(by omega), ⟨fun c37 => ⟨(by omega), ⟨(by omega), (h75 201 _ _ _ 0 _ 0 (by omega) (by omega) rfl (gz0 (by omega)) (by omega) (by omega) (by omega) zFr_0)⟩⟩, fun c37 => (hp _ _ ⟨zFr_0, Or.inr ⟨rfl, by first | (rw [gz1 (by omega)]; omega) | (rw [gz0 (by omega)]; omega), rfl⟩⟩)⟩⟩⟩, fun c13 => ⟨fun c17 => ⟨(by omega), ⟨(by omega), ⟨fun c37 => ⟨(by omega), ⟨(by omega), (h75 201 _ _ _ 0 _ 0 (by omega) (by omega) rfl (gz0 (by omega)) (by omega) (by omega) (by omega) zFr_0)⟩⟩, fun c37 => (hp _ _ ⟨zFr_0, Or.inr ⟨rfl, by first | (rw [gz1 (by omega)]; omega) | (rw [gz0 (by omega)]; omega), rfl⟩⟩)⟩⟩⟩, fun c17 => ⟨(by omega), ⟨(by omega), ⟨fun c37 => ⟨(by omega), ⟨(by omega), ⟨(by omega), (by omega), ⟨(by omega), (h75 201 _ _ _ 1 _ 0 (by omega) (by omega) rfl (gz1 (by omega)) (by omega) (by omega) (by omega) (zFr_R zFr_0 (by decide)))⟩⟩⟩⟩, fun c37 => (hp _ _ ⟨zFr_0, Or.inr ⟨rfl, by first | (rw [gz1 (by omega)]; omega) | (rw [gz0 (by omega)]; omega), rfl⟩⟩)⟩⟩⟩⟩⟩⟩
end
section
noncomputable def yTn (L N X : Int → Int) (t a ln i : Int) : Prop := L t = ln ∧ ∀ k : Int, 0 ≤ k → k < i → N (t * 12 + k) = X (a + k)
noncomputable def y_GA_findTag : jY := (⟨"ChessHouse$Game", "findTag", "([BII)I"⟩, prog_7_method_18_code, 7, (some .int))
theorem m_GA_findTag : jmth lw_tbl y_GA_findTag 3 := ⟨jTA_in (wi := 1196) (jtF_ok rfl) rfl, jTA_in (wi := 311) (jtF_ok rfl) rfl, by decide, by decide, by decide +kernel⟩
theorem i_GA_findTag : Jvm.Cond.instanceMethod y_GA_findTag.1 ∈ jTA lw_tbl := jTA_in (wi := 1194) (jtF_ok rfl) rfl
theorem e_GA_findTag : Jvm.Cond.selects y_GA_findTag.1.cls y_GA_findTag.1 y_GA_findTag.1 ∈ jTA lw_tbl := jTA_in (wi := 1195) (jtF_ok rfl) rfl
noncomputable def ak_ZGAfnd33 : List jI := [(.iconst 0, 1, (0, 0, 0, 0, 0)), (.istore 4, 2, (4, 0, 0, 0, 0)), (.iload 4, 2, (4, 0, 0, 0, 0)), (.aload_n 0, 1, (0, 0, 0, 0, 0)), (.getfield 74, 3, (9, 13, 758, 0, 0)), (.if_icmp .ge 84, 3, (93, 0, 0, 0, 0)), (.aload_n 0, 1, (0, 0, 0, 0, 0)), (.getfield 55, 3, (9, 15, 764, 0, 0)), (.iload 4, 2, (4, 0, 0, 0, 0)), (.iaload, 1, (0, 0, 0, 0, 0)), (.iload_n 3, 1, (3, 0, 0, 0, 0)), (.if_icmp .ne 7, 3, (27, 0, 0, 0, 0)), (.iconst 1, 1, (0, 0, 0, 1, 0)), (.goto 4, 3, (28, 0, 0, 0, 0)), (.iconst 0, 1, (0, 0, 0, 0, 0)), (.istore 5, 2, (5, 0, 0, 0, 0)), (.iconst 0, 1, (0, 0, 0, 0, 0)), (.istore 6, 2, (6, 0, 0, 0, 0)), (.iload 6, 2, (6, 0, 0, 0, 0)), (.iload_n 3, 1, (3, 0, 0, 0, 0)), (.if_icmp .ge 43, 3, (79, 0, 0, 0, 0)), (.iload 5, 2, (5, 0, 0, 0, 0)), (.ifCond .eq 38, 3, (79, 0, 0, 0, 0)), (.aload_n 0, 1, (0, 0, 0, 0, 0)), (.getfield 52, 3, (9, 14, 762, 0, 0)), (.iload 4, 2, (4, 0, 0, 0, 0)), (.bipush 12, 2, (0, 0, 0, 12, 0)), (.imul, 1, (0, 0, 0, 0, 0)), (.iload 6, 2, (6, 0, 0, 0, 0)), (.iadd, 1, (0, 0, 0, 0, 0)), (.baload, 1, (0, 0, 0, 0, 0)), (.aload_n 1, 1, (1, 0, 0, 0, 0)), (.iload_n 2, 1, (2, 0, 0, 0, 0)), (.iload 6, 2, (6, 0, 0, 0, 0)), (.iadd, 1, (0, 0, 0, 0, 0)), (.baload, 1, (0, 0, 0, 0, 0)), (.if_icmp .ne 7, 3, (70, 0, 0, 0, 0)), (.iconst 1, 1, (0, 0, 0, 1, 0)), (.goto 4, 3, (71, 0, 0, 0, 0)), (.iconst 0, 1, (0, 0, 0, 0, 0)), (.istore 5, 2, (5, 0, 0, 0, 0)), (.iinc 6 1, 3, (0, 0, 0, 1, 0)), (.goto (-43), 3, (33, 0, 0, 0, 0)), (.iload 5, 2, (5, 0, 0, 0, 0)), (.ifCond .eq 6, 3, (87, 0, 0, 0, 0)), (.iload 4, 2, (4, 0, 0, 0, 0)), (.ireturn, 1, (0, 0, 0, 0, 0)), (.iinc 4 1, 3, (0, 0, 0, 1, 0)), (.goto (-87), 3, (3, 0, 0, 0, 0)), (.iconst (-1), 1, (0, 0, 0, (-1), 0)), (.ireturn, 1, (0, 0, 0, 0, 0))]
theorem ao_ZGAfnd33 : jokLG jtF lk_GA "ChessHouse$Game" jcl jtb 7 prog_7_method_18_code 0 ak_ZGAfnd33 = true := by decide +kernel
noncomputable def zm_GAfnd33 : zM := (some .int, { frames := 0, cells := 0, slots := 0, locals := 0 }, ([], []), [], ak_ZGAfnd33)
noncomputable def zc_GAfnd33 (vals : List zv) (W : zW) (post : zPo) : Prop := ∃ a ln : Int, vals = [.inr (.inr (some (.inl 33))), .inr (.inr (some (.inl 1))), .inl (a), .inl (ln)] ∧ ((0 ≤ W.1 33 13 ∧ W.1 33 13 ≤ 8) ∧ (∀ t, 0 ≤ t → t < W.1 33 13 → 0 ≤ W.2.1 57 t ∧ W.2.1 57 t ≤ 12) ∧ (0 ≤ a ∧ 0 ≤ ln ∧ a + ln ≤ 65537)) ∧ ∀ r : Int, (((r = -1 ∧ ∀ tt, 0 ≤ tt → tt < W.1 33 13 → ¬ yTn (W.2.1 57) (W.2.1 56) (W.2.1 1) tt a ln ln) ∨ ((0 ≤ r ∧ r < W.1 33 13) ∧ yTn (W.2.1 57) (W.2.1 56) (W.2.1 1) r a ln ln ∧ ∀ tt, 0 ≤ tt → tt < r → ¬ yTn (W.2.1 57) (W.2.1 56) (W.2.1 1) tt a ln ln))) → post (some (.inl r)) W
set_option maxRecDepth 8000 in
theorem zp_GAfnd33_0 {n K : Nat} {W : zW} {post : zPo} {a ln : Int} {u4 u5 u6 : Option zv} (hK : 2 ≤ K) (hn : 142 ≤ n) (h : zwp jtb zsh n zm_GAfnd33 post (K - 2) (lGo ak_ZGAfnd33 3) 3 [some (.inr (.inr (some (.inl 33)))), some (.inr (.inr (some (.inl 1)))), some (.inl (a)), some (.inl (ln)), some (.inl (0)), u5, u6] [] W) : zwp jtb zsh n zm_GAfnd33 post K (lGo ak_ZGAfnd33 0) 0 [some (.inr (.inr (some (.inl 33)))), some (.inr (.inr (some (.inl 1)))), some (.inl (a)), some (.inl (ln)), u4, u5, u6] [] W := by
  obtain ⟨kk__, rfl⟩ : ∃ kk__, K = kk__ + 2 := ⟨K - 2, by omega⟩
  exact (show zwp jtb zsh n zm_GAfnd33 post (kk__ + 0) (lGo ak_ZGAfnd33 3) 3 [some (.inr (.inr (some (.inl 33)))), some (.inr (.inr (some (.inl 1)))), some (.inl (a)), some (.inl (ln)), some (.inl (0)), u5, u6] [] W from h)
set_option maxRecDepth 8000 in
theorem zp_GAfnd33_3 {n K : Nat} {W : zW} {post : zPo} {a ln t : Int} {u5 u6 : Option zv} (hK : 15 ≤ K) (hn : 142 ≤ n) (h : ((W.1 33 13) ≤ t → post (some (.inl (-1))) W) ∧ (¬ (W.1 33 13) ≤ t → (0 ≤ t ∧ t < 8) ∧ (¬ (W.2.1 57 t) = ln → zwp jtb zsh n zm_GAfnd33 post (K - 14) (lGo ak_ZGAfnd33 33) 33 [some (.inr (.inr (some (.inl 33)))), some (.inr (.inr (some (.inl 1)))), some (.inl (a)), some (.inl (ln)), some (.inl (t)), some (.inl (0)), some (.inl (0))] [] W) ∧ ((W.2.1 57 t) = ln → zwp jtb zsh n zm_GAfnd33 post (K - 15) (lGo ak_ZGAfnd33 33) 33 [some (.inr (.inr (some (.inl 33)))), some (.inr (.inr (some (.inl 1)))), some (.inl (a)), some (.inl (ln)), some (.inl (t)), some (.inl (1)), some (.inl (0))] [] W))) : zwp jtb zsh n zm_GAfnd33 post K (lGo ak_ZGAfnd33 3) 3 [some (.inr (.inr (some (.inl 33)))), some (.inr (.inr (some (.inl 1)))), some (.inl (a)), some (.inl (ln)), some (.inl (t)), u5, u6] [] W := by
  obtain ⟨kk__, rfl⟩ : ∃ kk__, K = kk__ + 15 := ⟨K - 15, by omega⟩
  exact (show 33 < n ∧ 9 = 9 ∧ ((W.1 33 13) ≤ t → 1 = 1 ∧ True ∧ post (some (.inl (-1))) W) ∧ (¬ (W.1 33 13) ≤ t → 33 < n ∧ 9 = 9 ∧ 57 < n ∧ FieldType.int = FieldType.int ∧ (0 ≤ t ∧ t < 8) ∧ (¬ (W.2.1 57 t) = ln → zwp jtb zsh n zm_GAfnd33 post (kk__ + 1) (lGo ak_ZGAfnd33 33) 33 [some (.inr (.inr (some (.inl 33)))), some (.inr (.inr (some (.inl 1)))), some (.inl (a)), some (.inl (ln)), some (.inl (t)), some (.inl (0)), some (.inl (0))] [] W) ∧ ((W.2.1 57 t) = ln → zwp jtb zsh n zm_GAfnd33 post (kk__ + 0) (lGo ak_ZGAfnd33 33) 33 [some (.inr (.inr (some (.inl 33)))), some (.inr (.inr (some (.inl 1)))), some (.inl (a)), some (.inl (ln)), some (.inl (t)), some (.inl (1)), some (.inl (0))] [] W)) from ⟨(Nat.lt_of_lt_of_le (by decide) hn), rfl, ⟨fun c9_3 => ⟨rfl, trivial, ((h).1 c9_3)⟩, fun c9_3 => ⟨(Nat.lt_of_lt_of_le (by decide) hn), rfl, ⟨(Nat.lt_of_lt_of_le (by decide) hn), rfl, (((h).2 c9_3)).1, ⟨fun c20_9 => (((((h).2 c9_3)).2).1 c20_9), fun c20_9 => (((((h).2 c9_3)).2).2 c20_9)⟩⟩⟩⟩⟩)
set_option maxRecDepth 8000 in
theorem zp_GAfnd33_33 {n K : Nat} {W : zW} {post : zPo} {a ln t sm i : Int}  (hK : 24 ≤ K) (hn : 142 ≤ n) (h : (ln ≤ i → (sm = 0 → (-2147483648 ≤ t + 1 ∧ t + 1 ≤ 2147483647) ∧ zwp jtb zsh n zm_GAfnd33 post (K - 7) (lGo ak_ZGAfnd33 3) 3 [some (.inr (.inr (some (.inl 33)))), some (.inr (.inr (some (.inl 1)))), some (.inl (a)), some (.inl (ln)), some (.inl (t + 1)), some (.inl (sm)), some (.inl (i))] [] W) ∧ (¬ sm = 0 → post (some (.inl (t))) W)) ∧ (¬ ln ≤ i → (sm = 0 → (sm = 0 → (-2147483648 ≤ t + 1 ∧ t + 1 ≤ 2147483647) ∧ zwp jtb zsh n zm_GAfnd33 post (K - 9) (lGo ak_ZGAfnd33 3) 3 [some (.inr (.inr (some (.inl 33)))), some (.inr (.inr (some (.inl 1)))), some (.inl (a)), some (.inl (ln)), some (.inl (t + 1)), some (.inl (sm)), some (.inl (i))] [] W) ∧ (¬ sm = 0 → post (some (.inl (t))) W)) ∧ (¬ sm = 0 → (-2147483648 ≤ t * 12 ∧ t * 12 ≤ 2147483647) ∧ (-2147483648 ≤ (t * 12) + i ∧ (t * 12) + i ≤ 2147483647) ∧ (0 ≤ ((t * 12) + i) ∧ ((t * 12) + i) < 96) ∧ (-2147483648 ≤ a + i ∧ a + i ≤ 2147483647) ∧ (0 ≤ (a + i) ∧ (a + i) < 65537) ∧ (¬ (W.2.1 56 ((t * 12) + i)) = (W.2.1 1 (a + i)) → (-2147483648 ≤ i + 1 ∧ i + 1 ≤ 2147483647) ∧ zwp jtb zsh n zm_GAfnd33 post (K - 23) (lGo ak_ZGAfnd33 33) 33 [some (.inr (.inr (some (.inl 33)))), some (.inr (.inr (some (.inl 1)))), some (.inl (a)), some (.inl (ln)), some (.inl (t)), some (.inl (0)), some (.inl (i + 1))] [] W) ∧ ((W.2.1 56 ((t * 12) + i)) = (W.2.1 1 (a + i)) → (-2147483648 ≤ i + 1 ∧ i + 1 ≤ 2147483647) ∧ zwp jtb zsh n zm_GAfnd33 post (K - 24) (lGo ak_ZGAfnd33 33) 33 [some (.inr (.inr (some (.inl 33)))), some (.inr (.inr (some (.inl 1)))), some (.inl (a)), some (.inl (ln)), some (.inl (t)), some (.inl (1)), some (.inl (i + 1))] [] W)))) : zwp jtb zsh n zm_GAfnd33 post K (lGo ak_ZGAfnd33 33) 33 [some (.inr (.inr (some (.inl 33)))), some (.inr (.inr (some (.inl 1)))), some (.inl (a)), some (.inl (ln)), some (.inl (t)), some (.inl (sm)), some (.inl (i))] [] W := by
  obtain ⟨kk__, rfl⟩ : ∃ kk__, K = kk__ + 24 := ⟨K - 24, by omega⟩
  exact (show (ln ≤ i → (sm = 0 → (-2147483648 ≤ t + 1 ∧ t + 1 ≤ 2147483647) ∧ zwp jtb zsh n zm_GAfnd33 post (kk__ + 17) (lGo ak_ZGAfnd33 3) 3 [some (.inr (.inr (some (.inl 33)))), some (.inr (.inr (some (.inl 1)))), some (.inl (a)), some (.inl (ln)), some (.inl (t + 1)), some (.inl (sm)), some (.inl (i))] [] W) ∧ (¬ sm = 0 → 1 = 1 ∧ True ∧ post (some (.inl (t))) W)) ∧ (¬ ln ≤ i → (sm = 0 → (sm = 0 → (-2147483648 ≤ t + 1 ∧ t + 1 ≤ 2147483647) ∧ zwp jtb zsh n zm_GAfnd33 post (kk__ + 15) (lGo ak_ZGAfnd33 3) 3 [some (.inr (.inr (some (.inl 33)))), some (.inr (.inr (some (.inl 1)))), some (.inl (a)), some (.inl (ln)), some (.inl (t + 1)), some (.inl (sm)), some (.inl (i))] [] W) ∧ (¬ sm = 0 → 1 = 1 ∧ True ∧ post (some (.inl (t))) W)) ∧ (¬ sm = 0 → 33 < n ∧ 9 = 9 ∧ (-2147483648 ≤ t * 12 ∧ t * 12 ≤ 2147483647) ∧ (-2147483648 ≤ (t * 12) + i ∧ (t * 12) + i ≤ 2147483647) ∧ 56 < n ∧ FieldType.byte = FieldType.byte ∧ (0 ≤ ((t * 12) + i) ∧ ((t * 12) + i) < 96) ∧ (-2147483648 ≤ a + i ∧ a + i ≤ 2147483647) ∧ 1 < n ∧ FieldType.byte = FieldType.byte ∧ (0 ≤ (a + i) ∧ (a + i) < 65537) ∧ (¬ (W.2.1 56 ((t * 12) + i)) = (W.2.1 1 (a + i)) → (-2147483648 ≤ i + 1 ∧ i + 1 ≤ 2147483647) ∧ zwp jtb zsh n zm_GAfnd33 post (kk__ + 1) (lGo ak_ZGAfnd33 33) 33 [some (.inr (.inr (some (.inl 33)))), some (.inr (.inr (some (.inl 1)))), some (.inl (a)), some (.inl (ln)), some (.inl (t)), some (.inl (0)), some (.inl (i + 1))] [] W) ∧ ((W.2.1 56 ((t * 12) + i)) = (W.2.1 1 (a + i)) → (-2147483648 ≤ i + 1 ∧ i + 1 ≤ 2147483647) ∧ zwp jtb zsh n zm_GAfnd33 post (kk__ + 0) (lGo ak_ZGAfnd33 33) 33 [some (.inr (.inr (some (.inl 33)))), some (.inr (.inr (some (.inl 1)))), some (.inl (a)), some (.inl (ln)), some (.inl (t)), some (.inl (1)), some (.inl (i + 1))] [] W))) from ⟨fun c36_2 => ⟨fun c81_4 => (have h := ((((h).1 c36_2)).1 c81_4); ⟨(h).1, (h).2⟩), fun c81_4 => (have h := ((((h).1 c36_2)).2 c81_4); ⟨rfl, trivial, h⟩)⟩, fun c36_2 => ⟨fun c41_4 => (have h := ((((h).2 c36_2)).1 c41_4); ⟨fun c81_6 => ⟨(((h).1 c81_6)).1, (((h).1 c81_6)).2⟩, fun c81_6 => ⟨rfl, trivial, ((h).2 c81_6)⟩⟩), fun c41_4 => (have h := ((((h).2 c36_2)).2 c41_4); ⟨(Nat.lt_of_lt_of_le (by decide) hn), rfl, ⟨(h).1, ⟨((h).2).1, ⟨(Nat.lt_of_lt_of_le (by decide) hn), rfl, (((h).2).2).1, ⟨((((h).2).2).2).1, ⟨(Nat.lt_of_lt_of_le (by decide) hn), rfl, (((((h).2).2).2).2).1, ⟨fun c63_18 => (have h := (((((((h).2).2).2).2).2).1 c63_18); ⟨(h).1, (h).2⟩), fun c63_18 => (have h := (((((((h).2).2).2).2).2).2 c63_18); ⟨(h).1, (h).2⟩)⟩⟩⟩⟩⟩⟩⟩)⟩⟩)
theorem zk_GAfnd33 {l : Launch} {E : jE} {n : Nat} (hn : 142 ≤ n) : zHas l E jcl jtb lw_tbl zsh n (y_GA_findTag, false, 4, 9, { frames := 0, cells := 0, slots := 0, locals := 0 }, zc_GAfnd33) := by
  refine ⟨⟨rfl, rfl, ⟨show 1 ≤ 4 by decide, m_GA_findTag, i_GA_findTag, e_GA_findTag, fun _ => ⟨_, rfl, rfl⟩⟩⟩, ?_⟩
  rintro vz W po hO hW ⟨a, ln, rfl, hq, hp⟩
  refine zmet (m := zm_GAfnd33) rfl (by decide) (fun _ _ => jtF_ok) lo_GA ao_ZGAfnd33 jC (fun q h => by cases h) (fun q h => by cases h) (fun q h => by cases h) (Nat.le_of_ble_eq_true rfl) hO hW (20000) ?_
  obtain ⟨hg, hL, hl⟩ := hq
  have h3 : ∀ (mm K : Nat) (t : Int) (u5 u6 : Option zv), 1800 * mm + 100 ≤ K → (W.1 33 13 - t < mm ∧ 0 ≤ t ∧ t ≤ W.1 33 13) → (∀ k : Int, 0 ≤ k → k < t → ¬ yTn (W.2.1 57) (W.2.1 56) (W.2.1 1) k a ln ln) → zwp jtb zsh n zm_GAfnd33 po K (lGo ak_ZGAfnd33 3) 3 [some (.inr (.inr (some (.inl 33)))), some (.inr (.inr (some (.inl 1)))), some (.inl (a)), some (.inl (ln)), some (.inl (t)), u5, u6] [] W := by
    intro mm
    induction mm with
    | zero => intro K t u5 u6 hK h1; omega
    | succ mm ih =>
      intro K t u5 u6 hK h1 hA
      have h33 : t < W.1 33 13 → ∀ (m2 K : Nat) (sm i : Int), 100 * m2 + 1800 * mm + 160 ≤ K → (0 < m2 ∧ (sm = 0 ∨ ln - i < (m2 : Int) - 1) ∧ 0 ≤ i ∧ i ≤ ln) → xBl sm (yTn (W.2.1 57) (W.2.1 56) (W.2.1 1) t a ln i) → zwp jtb zsh n zm_GAfnd33 po K (lGo ak_ZGAfnd33 33) 33 [some (.inr (.inr (some (.inl 33)))), some (.inr (.inr (some (.inl 1)))), some (.inl (a)), some (.inl (ln)), some (.inl (t)), some (.inl (sm)), some (.inl (i))] [] W := by
        intro ht m2
        induction m2 with
        | zero => intro K sm i hK h2; omega
        | succ m2 ih2 =>
          intro K sm i hK h2 hb
          have y1 : ¬ sm = 0 → yTn (W.2.1 57) (W.2.1 56) (W.2.1 1) t a ln i := by
            intro e
            rcases hb with h | h
            · exact h.2
            · exact absurd h.1 e
          have y0 : sm = 0 → ¬ yTn (W.2.1 57) (W.2.1 56) (W.2.1 1) t a ln i := by
            intro e
            rcases hb with h | h
            · omega
            · exact h.2
          have n12 : ¬ sm = 0 → ln ≤ 12 := by
            intro e
            have z := (y1 e).1
            have := hL t (by omega) (by omega)
            omega
          have nx : sm = 0 → ∀ k : Int, 0 ≤ k → k < t + 1 → ¬ yTn (W.2.1 57) (W.2.1 56) (W.2.1 1) k a ln ln := by
            intro e k k0 k1
            by_cases c : k = t
            · rw [c]
              exact fun z => y0 e ⟨z.1, fun j j0 j1 => z.2 j j0 (by omega)⟩
            · exact hA k k0 (by omega)
          have fu : ¬ sm = 0 → ln ≤ i → yTn (W.2.1 57) (W.2.1 56) (W.2.1 1) t a ln ln := fun e q => ⟨(y1 e).1, fun j j0 j1 => (y1 e).2 j j0 (by omega)⟩
          have n1 : ¬ sm = 0 → W.2.1 56 (t * 12 + i) = W.2.1 1 (a + i) → yTn (W.2.1 57) (W.2.1 56) (W.2.1 1) t a ln (i + 1) := by
            intro e q
            refine ⟨(y1 e).1, fun j j0 j1 => ?_⟩
            by_cases c : j = i
            · rw [c]; exact q
            · exact (y1 e).2 j j0 (by omega)
          exact zp_GAfnd33_33 (by omega) hn ⟨fun c36 => ⟨fun c81 => ⟨(by omega), (ih _ (t + 1) _ _ (by omega) (by omega) (nx (by omega)))⟩, fun c81 => (hp _ (Or.inr ⟨⟨by omega, by omega⟩, fu (by omega) (by omega), hA⟩))⟩, fun c36 => ⟨fun c41 => ⟨fun c81 => ⟨(by omega), (ih _ (t + 1) _ _ (by omega) (by omega) (nx (by omega)))⟩, fun c81 => (hp _ (Or.inr ⟨⟨by omega, by omega⟩, fu (by omega) (by omega), hA⟩))⟩, fun c41 => ⟨(by omega), ⟨(by omega), ⟨(by have := n12 (by omega); omega), ⟨(by omega), ⟨(by omega), ⟨fun c63 => ⟨(by omega), (ih2 _ 0 (i + 1) (by omega) (by omega) (Or.inr ⟨rfl, fun z => absurd (z.2 i (by omega) (by omega)) (by omega)⟩))⟩, fun c63 => ⟨(by omega), (ih2 _ 1 (i + 1) (by omega) (by omega) (Or.inl ⟨rfl, n1 (by omega) (by omega)⟩))⟩⟩⟩⟩⟩⟩⟩⟩⟩
      exact zp_GAfnd33_3 (by omega) hn ⟨fun c9 => (hp _ (Or.inl ⟨rfl, fun k k0 k1 => hA k k0 (by omega)⟩)), fun c9 => ⟨(by omega), ⟨fun c20 => (h33 (by omega) 14 _ 0 0 (by omega) (by omega) (Or.inr ⟨rfl, fun z => absurd z.1 (by omega)⟩)), fun c20 => (h33 (by omega) 14 _ 1 0 (by omega) (by have := hL t (by omega) (by omega); omega) (Or.inl ⟨rfl, by omega, fun k k0 k1 => by omega⟩))⟩⟩⟩
  exact zp_GAfnd33_0 (by omega) hn (h3 9 _ 0 _ _ (by omega) (by omega) (fun k k0 k1 => by omega))
noncomputable def ak_ZGAfnd60 : List jI := ak_ZGAfnd33
theorem ao_ZGAfnd60 : jokLG jtF lk_GA "ChessHouse$Game" jcl jtb 7 prog_7_method_18_code 0 ak_ZGAfnd60 = true := ao_ZGAfnd33
noncomputable def zm_GAfnd60 : zM := (some .int, { frames := 0, cells := 0, slots := 0, locals := 0 }, ([], []), [], ak_ZGAfnd60)
noncomputable def zc_GAfnd60 (vals : List zv) (W : zW) (post : zPo) : Prop := ∃ a ln : Int, vals = [.inr (.inr (some (.inl 60))), .inr (.inr (some (.inl 1))), .inl (a), .inl (ln)] ∧ ((0 ≤ W.1 60 13 ∧ W.1 60 13 ≤ 8) ∧ (∀ t, 0 ≤ t → t < W.1 60 13 → 0 ≤ W.2.1 84 t ∧ W.2.1 84 t ≤ 12) ∧ (0 ≤ a ∧ 0 ≤ ln ∧ a + ln ≤ 65537)) ∧ ∀ r : Int, (((r = -1 ∧ ∀ tt, 0 ≤ tt → tt < W.1 60 13 → ¬ yTn (W.2.1 84) (W.2.1 83) (W.2.1 1) tt a ln ln) ∨ ((0 ≤ r ∧ r < W.1 60 13) ∧ yTn (W.2.1 84) (W.2.1 83) (W.2.1 1) r a ln ln ∧ ∀ tt, 0 ≤ tt → tt < r → ¬ yTn (W.2.1 84) (W.2.1 83) (W.2.1 1) tt a ln ln))) → post (some (.inl r)) W
set_option maxRecDepth 8000 in
theorem zp_GAfnd60_0 {n K : Nat} {W : zW} {post : zPo} {a ln : Int} {u4 u5 u6 : Option zv} (hK : 2 ≤ K) (hn : 142 ≤ n) (h : zwp jtb zsh n zm_GAfnd60 post (K - 2) (lGo ak_ZGAfnd60 3) 3 [some (.inr (.inr (some (.inl 60)))), some (.inr (.inr (some (.inl 1)))), some (.inl (a)), some (.inl (ln)), some (.inl (0)), u5, u6] [] W) : zwp jtb zsh n zm_GAfnd60 post K (lGo ak_ZGAfnd60 0) 0 [some (.inr (.inr (some (.inl 60)))), some (.inr (.inr (some (.inl 1)))), some (.inl (a)), some (.inl (ln)), u4, u5, u6] [] W := by
  obtain ⟨kk__, rfl⟩ : ∃ kk__, K = kk__ + 2 := ⟨K - 2, by omega⟩
  exact (show zwp jtb zsh n zm_GAfnd60 post (kk__ + 0) (lGo ak_ZGAfnd60 3) 3 [some (.inr (.inr (some (.inl 60)))), some (.inr (.inr (some (.inl 1)))), some (.inl (a)), some (.inl (ln)), some (.inl (0)), u5, u6] [] W from h)
set_option maxRecDepth 8000 in
theorem zp_GAfnd60_3 {n K : Nat} {W : zW} {post : zPo} {a ln t : Int} {u5 u6 : Option zv} (hK : 15 ≤ K) (hn : 142 ≤ n) (h : ((W.1 60 13) ≤ t → post (some (.inl (-1))) W) ∧ (¬ (W.1 60 13) ≤ t → (0 ≤ t ∧ t < 8) ∧ (¬ (W.2.1 84 t) = ln → zwp jtb zsh n zm_GAfnd60 post (K - 14) (lGo ak_ZGAfnd60 33) 33 [some (.inr (.inr (some (.inl 60)))), some (.inr (.inr (some (.inl 1)))), some (.inl (a)), some (.inl (ln)), some (.inl (t)), some (.inl (0)), some (.inl (0))] [] W) ∧ ((W.2.1 84 t) = ln → zwp jtb zsh n zm_GAfnd60 post (K - 15) (lGo ak_ZGAfnd60 33) 33 [some (.inr (.inr (some (.inl 60)))), some (.inr (.inr (some (.inl 1)))), some (.inl (a)), some (.inl (ln)), some (.inl (t)), some (.inl (1)), some (.inl (0))] [] W))) : zwp jtb zsh n zm_GAfnd60 post K (lGo ak_ZGAfnd60 3) 3 [some (.inr (.inr (some (.inl 60)))), some (.inr (.inr (some (.inl 1)))), some (.inl (a)), some (.inl (ln)), some (.inl (t)), u5, u6] [] W := by
  obtain ⟨kk__, rfl⟩ : ∃ kk__, K = kk__ + 15 := ⟨K - 15, by omega⟩
  exact (show 60 < n ∧ 9 = 9 ∧ ((W.1 60 13) ≤ t → 1 = 1 ∧ True ∧ post (some (.inl (-1))) W) ∧ (¬ (W.1 60 13) ≤ t → 60 < n ∧ 9 = 9 ∧ 84 < n ∧ FieldType.int = FieldType.int ∧ (0 ≤ t ∧ t < 8) ∧ (¬ (W.2.1 84 t) = ln → zwp jtb zsh n zm_GAfnd60 post (kk__ + 1) (lGo ak_ZGAfnd60 33) 33 [some (.inr (.inr (some (.inl 60)))), some (.inr (.inr (some (.inl 1)))), some (.inl (a)), some (.inl (ln)), some (.inl (t)), some (.inl (0)), some (.inl (0))] [] W) ∧ ((W.2.1 84 t) = ln → zwp jtb zsh n zm_GAfnd60 post (kk__ + 0) (lGo ak_ZGAfnd60 33) 33 [some (.inr (.inr (some (.inl 60)))), some (.inr (.inr (some (.inl 1)))), some (.inl (a)), some (.inl (ln)), some (.inl (t)), some (.inl (1)), some (.inl (0))] [] W)) from ⟨(Nat.lt_of_lt_of_le (by decide) hn), rfl, ⟨fun c9_3 => ⟨rfl, trivial, ((h).1 c9_3)⟩, fun c9_3 => ⟨(Nat.lt_of_lt_of_le (by decide) hn), rfl, ⟨(Nat.lt_of_lt_of_le (by decide) hn), rfl, (((h).2 c9_3)).1, ⟨fun c20_9 => (((((h).2 c9_3)).2).1 c20_9), fun c20_9 => (((((h).2 c9_3)).2).2 c20_9)⟩⟩⟩⟩⟩)
set_option maxRecDepth 8000 in
theorem zp_GAfnd60_33 {n K : Nat} {W : zW} {post : zPo} {a ln t sm i : Int}  (hK : 24 ≤ K) (hn : 142 ≤ n) (h : (ln ≤ i → (sm = 0 → (-2147483648 ≤ t + 1 ∧ t + 1 ≤ 2147483647) ∧ zwp jtb zsh n zm_GAfnd60 post (K - 7) (lGo ak_ZGAfnd60 3) 3 [some (.inr (.inr (some (.inl 60)))), some (.inr (.inr (some (.inl 1)))), some (.inl (a)), some (.inl (ln)), some (.inl (t + 1)), some (.inl (sm)), some (.inl (i))] [] W) ∧ (¬ sm = 0 → post (some (.inl (t))) W)) ∧ (¬ ln ≤ i → (sm = 0 → (sm = 0 → (-2147483648 ≤ t + 1 ∧ t + 1 ≤ 2147483647) ∧ zwp jtb zsh n zm_GAfnd60 post (K - 9) (lGo ak_ZGAfnd60 3) 3 [some (.inr (.inr (some (.inl 60)))), some (.inr (.inr (some (.inl 1)))), some (.inl (a)), some (.inl (ln)), some (.inl (t + 1)), some (.inl (sm)), some (.inl (i))] [] W) ∧ (¬ sm = 0 → post (some (.inl (t))) W)) ∧ (¬ sm = 0 → (-2147483648 ≤ t * 12 ∧ t * 12 ≤ 2147483647) ∧ (-2147483648 ≤ (t * 12) + i ∧ (t * 12) + i ≤ 2147483647) ∧ (0 ≤ ((t * 12) + i) ∧ ((t * 12) + i) < 96) ∧ (-2147483648 ≤ a + i ∧ a + i ≤ 2147483647) ∧ (0 ≤ (a + i) ∧ (a + i) < 65537) ∧ (¬ (W.2.1 83 ((t * 12) + i)) = (W.2.1 1 (a + i)) → (-2147483648 ≤ i + 1 ∧ i + 1 ≤ 2147483647) ∧ zwp jtb zsh n zm_GAfnd60 post (K - 23) (lGo ak_ZGAfnd60 33) 33 [some (.inr (.inr (some (.inl 60)))), some (.inr (.inr (some (.inl 1)))), some (.inl (a)), some (.inl (ln)), some (.inl (t)), some (.inl (0)), some (.inl (i + 1))] [] W) ∧ ((W.2.1 83 ((t * 12) + i)) = (W.2.1 1 (a + i)) → (-2147483648 ≤ i + 1 ∧ i + 1 ≤ 2147483647) ∧ zwp jtb zsh n zm_GAfnd60 post (K - 24) (lGo ak_ZGAfnd60 33) 33 [some (.inr (.inr (some (.inl 60)))), some (.inr (.inr (some (.inl 1)))), some (.inl (a)), some (.inl (ln)), some (.inl (t)), some (.inl (1)), some (.inl (i + 1))] [] W)))) : zwp jtb zsh n zm_GAfnd60 post K (lGo ak_ZGAfnd60 33) 33 [some (.inr (.inr (some (.inl 60)))), some (.inr (.inr (some (.inl 1)))), some (.inl (a)), some (.inl (ln)), some (.inl (t)), some (.inl (sm)), some (.inl (i))] [] W := by
  obtain ⟨kk__, rfl⟩ : ∃ kk__, K = kk__ + 24 := ⟨K - 24, by omega⟩
  exact (show (ln ≤ i → (sm = 0 → (-2147483648 ≤ t + 1 ∧ t + 1 ≤ 2147483647) ∧ zwp jtb zsh n zm_GAfnd60 post (kk__ + 17) (lGo ak_ZGAfnd60 3) 3 [some (.inr (.inr (some (.inl 60)))), some (.inr (.inr (some (.inl 1)))), some (.inl (a)), some (.inl (ln)), some (.inl (t + 1)), some (.inl (sm)), some (.inl (i))] [] W) ∧ (¬ sm = 0 → 1 = 1 ∧ True ∧ post (some (.inl (t))) W)) ∧ (¬ ln ≤ i → (sm = 0 → (sm = 0 → (-2147483648 ≤ t + 1 ∧ t + 1 ≤ 2147483647) ∧ zwp jtb zsh n zm_GAfnd60 post (kk__ + 15) (lGo ak_ZGAfnd60 3) 3 [some (.inr (.inr (some (.inl 60)))), some (.inr (.inr (some (.inl 1)))), some (.inl (a)), some (.inl (ln)), some (.inl (t + 1)), some (.inl (sm)), some (.inl (i))] [] W) ∧ (¬ sm = 0 → 1 = 1 ∧ True ∧ post (some (.inl (t))) W)) ∧ (¬ sm = 0 → 60 < n ∧ 9 = 9 ∧ (-2147483648 ≤ t * 12 ∧ t * 12 ≤ 2147483647) ∧ (-2147483648 ≤ (t * 12) + i ∧ (t * 12) + i ≤ 2147483647) ∧ 83 < n ∧ FieldType.byte = FieldType.byte ∧ (0 ≤ ((t * 12) + i) ∧ ((t * 12) + i) < 96) ∧ (-2147483648 ≤ a + i ∧ a + i ≤ 2147483647) ∧ 1 < n ∧ FieldType.byte = FieldType.byte ∧ (0 ≤ (a + i) ∧ (a + i) < 65537) ∧ (¬ (W.2.1 83 ((t * 12) + i)) = (W.2.1 1 (a + i)) → (-2147483648 ≤ i + 1 ∧ i + 1 ≤ 2147483647) ∧ zwp jtb zsh n zm_GAfnd60 post (kk__ + 1) (lGo ak_ZGAfnd60 33) 33 [some (.inr (.inr (some (.inl 60)))), some (.inr (.inr (some (.inl 1)))), some (.inl (a)), some (.inl (ln)), some (.inl (t)), some (.inl (0)), some (.inl (i + 1))] [] W) ∧ ((W.2.1 83 ((t * 12) + i)) = (W.2.1 1 (a + i)) → (-2147483648 ≤ i + 1 ∧ i + 1 ≤ 2147483647) ∧ zwp jtb zsh n zm_GAfnd60 post (kk__ + 0) (lGo ak_ZGAfnd60 33) 33 [some (.inr (.inr (some (.inl 60)))), some (.inr (.inr (some (.inl 1)))), some (.inl (a)), some (.inl (ln)), some (.inl (t)), some (.inl (1)), some (.inl (i + 1))] [] W))) from ⟨fun c36_2 => ⟨fun c81_4 => (have h := ((((h).1 c36_2)).1 c81_4); ⟨(h).1, (h).2⟩), fun c81_4 => (have h := ((((h).1 c36_2)).2 c81_4); ⟨rfl, trivial, h⟩)⟩, fun c36_2 => ⟨fun c41_4 => (have h := ((((h).2 c36_2)).1 c41_4); ⟨fun c81_6 => ⟨(((h).1 c81_6)).1, (((h).1 c81_6)).2⟩, fun c81_6 => ⟨rfl, trivial, ((h).2 c81_6)⟩⟩), fun c41_4 => (have h := ((((h).2 c36_2)).2 c41_4); ⟨(Nat.lt_of_lt_of_le (by decide) hn), rfl, ⟨(h).1, ⟨((h).2).1, ⟨(Nat.lt_of_lt_of_le (by decide) hn), rfl, (((h).2).2).1, ⟨((((h).2).2).2).1, ⟨(Nat.lt_of_lt_of_le (by decide) hn), rfl, (((((h).2).2).2).2).1, ⟨fun c63_18 => (have h := (((((((h).2).2).2).2).2).1 c63_18); ⟨(h).1, (h).2⟩), fun c63_18 => (have h := (((((((h).2).2).2).2).2).2 c63_18); ⟨(h).1, (h).2⟩)⟩⟩⟩⟩⟩⟩⟩)⟩⟩)
theorem zk_GAfnd60 {l : Launch} {E : jE} {n : Nat} (hn : 142 ≤ n) : zHas l E jcl jtb lw_tbl zsh n (y_GA_findTag, false, 4, 9, { frames := 0, cells := 0, slots := 0, locals := 0 }, zc_GAfnd60) := by
  refine ⟨⟨rfl, rfl, ⟨show 1 ≤ 4 by decide, m_GA_findTag, i_GA_findTag, e_GA_findTag, fun _ => ⟨_, rfl, rfl⟩⟩⟩, ?_⟩
  rintro vz W po hO hW ⟨a, ln, rfl, hq, hp⟩
  refine zmet (m := zm_GAfnd60) rfl (by decide) (fun _ _ => jtF_ok) lo_GA ao_ZGAfnd60 jC (fun q h => by cases h) (fun q h => by cases h) (fun q h => by cases h) (Nat.le_of_ble_eq_true rfl) hO hW (20000) ?_
  obtain ⟨hg, hL, hl⟩ := hq
  have h3 : ∀ (mm K : Nat) (t : Int) (u5 u6 : Option zv), 1800 * mm + 100 ≤ K → (W.1 60 13 - t < mm ∧ 0 ≤ t ∧ t ≤ W.1 60 13) → (∀ k : Int, 0 ≤ k → k < t → ¬ yTn (W.2.1 84) (W.2.1 83) (W.2.1 1) k a ln ln) → zwp jtb zsh n zm_GAfnd60 po K (lGo ak_ZGAfnd60 3) 3 [some (.inr (.inr (some (.inl 60)))), some (.inr (.inr (some (.inl 1)))), some (.inl (a)), some (.inl (ln)), some (.inl (t)), u5, u6] [] W := by
    intro mm
    induction mm with
    | zero => intro K t u5 u6 hK h1; omega
    | succ mm ih =>
      intro K t u5 u6 hK h1 hA
      have h33 : t < W.1 60 13 → ∀ (m2 K : Nat) (sm i : Int), 100 * m2 + 1800 * mm + 160 ≤ K → (0 < m2 ∧ (sm = 0 ∨ ln - i < (m2 : Int) - 1) ∧ 0 ≤ i ∧ i ≤ ln) → xBl sm (yTn (W.2.1 84) (W.2.1 83) (W.2.1 1) t a ln i) → zwp jtb zsh n zm_GAfnd60 po K (lGo ak_ZGAfnd60 33) 33 [some (.inr (.inr (some (.inl 60)))), some (.inr (.inr (some (.inl 1)))), some (.inl (a)), some (.inl (ln)), some (.inl (t)), some (.inl (sm)), some (.inl (i))] [] W := by
        intro ht m2
        induction m2 with
        | zero => intro K sm i hK h2; omega
        | succ m2 ih2 =>
          intro K sm i hK h2 hb
          have y1 : ¬ sm = 0 → yTn (W.2.1 84) (W.2.1 83) (W.2.1 1) t a ln i := by
            intro e
            rcases hb with h | h
            · exact h.2
            · exact absurd h.1 e
          have y0 : sm = 0 → ¬ yTn (W.2.1 84) (W.2.1 83) (W.2.1 1) t a ln i := by
            intro e
            rcases hb with h | h
            · omega
            · exact h.2
          have n12 : ¬ sm = 0 → ln ≤ 12 := by
            intro e
            have z := (y1 e).1
            have := hL t (by omega) (by omega)
            omega
          have nx : sm = 0 → ∀ k : Int, 0 ≤ k → k < t + 1 → ¬ yTn (W.2.1 84) (W.2.1 83) (W.2.1 1) k a ln ln := by
            intro e k k0 k1
            by_cases c : k = t
            · rw [c]
              exact fun z => y0 e ⟨z.1, fun j j0 j1 => z.2 j j0 (by omega)⟩
            · exact hA k k0 (by omega)
          have fu : ¬ sm = 0 → ln ≤ i → yTn (W.2.1 84) (W.2.1 83) (W.2.1 1) t a ln ln := fun e q => ⟨(y1 e).1, fun j j0 j1 => (y1 e).2 j j0 (by omega)⟩
          have n1 : ¬ sm = 0 → W.2.1 83 (t * 12 + i) = W.2.1 1 (a + i) → yTn (W.2.1 84) (W.2.1 83) (W.2.1 1) t a ln (i + 1) := by
            intro e q
            refine ⟨(y1 e).1, fun j j0 j1 => ?_⟩
            by_cases c : j = i
            · rw [c]; exact q
            · exact (y1 e).2 j j0 (by omega)
          exact zp_GAfnd60_33 (by omega) hn ⟨fun c36 => ⟨fun c81 => ⟨(by omega), (ih _ (t + 1) _ _ (by omega) (by omega) (nx (by omega)))⟩, fun c81 => (hp _ (Or.inr ⟨⟨by omega, by omega⟩, fu (by omega) (by omega), hA⟩))⟩, fun c36 => ⟨fun c41 => ⟨fun c81 => ⟨(by omega), (ih _ (t + 1) _ _ (by omega) (by omega) (nx (by omega)))⟩, fun c81 => (hp _ (Or.inr ⟨⟨by omega, by omega⟩, fu (by omega) (by omega), hA⟩))⟩, fun c41 => ⟨(by omega), ⟨(by omega), ⟨(by have := n12 (by omega); omega), ⟨(by omega), ⟨(by omega), ⟨fun c63 => ⟨(by omega), (ih2 _ 0 (i + 1) (by omega) (by omega) (Or.inr ⟨rfl, fun z => absurd (z.2 i (by omega) (by omega)) (by omega)⟩))⟩, fun c63 => ⟨(by omega), (ih2 _ 1 (i + 1) (by omega) (by omega) (Or.inl ⟨rfl, n1 (by omega) (by omega)⟩))⟩⟩⟩⟩⟩⟩⟩⟩⟩
      exact zp_GAfnd60_3 (by omega) hn ⟨fun c9 => (hp _ (Or.inl ⟨rfl, fun k k0 k1 => hA k k0 (by omega)⟩)), fun c9 => ⟨(by omega), ⟨fun c20 => (h33 (by omega) 14 _ 0 0 (by omega) (by omega) (Or.inr ⟨rfl, fun z => absurd z.1 (by omega)⟩)), fun c20 => (h33 (by omega) 14 _ 1 0 (by omega) (by have := hL t (by omega) (by omega); omega) (Or.inl ⟨rfl, by omega, fun k k0 k1 => by omega⟩))⟩⟩⟩
  exact zp_GAfnd60_0 (by omega) hn (h3 9 _ 0 _ _ (by omega) (by omega) (fun k k0 k1 => by omega))
end
section
noncomputable def y_GA_isFen : jY := (⟨"ChessHouse$Game", "isFen", "([BII)Z"⟩, prog_7_method_17_code, 3, (some .boolean))
theorem m_GA_isFen : jmth lw_tbl y_GA_isFen 3 := ⟨jTA_in (wi := 1247) (jtF_ok rfl) rfl, jTA_in (wi := 311) (jtF_ok rfl) rfl, by decide, by decide, by decide +kernel⟩
theorem s_GA_isFen : Jvm.Cond.static y_GA_isFen.1 ∈ jTA lw_tbl := jTA_in (wi := 1246) (jtF_ok rfl) rfl
noncomputable def ak_ZGAisF : List jI := [(.iload_n 2, 1, (2, 0, 0, 0, 0)), (.iconst 3, 1, (0, 0, 0, 3, 0)), (.if_icmp .ne 44, 3, (46, 0, 0, 0, 0)), (.aload_n 0, 1, (0, 0, 0, 0, 0)), (.iload_n 1, 1, (1, 0, 0, 0, 0)), (.baload, 1, (0, 0, 0, 0, 0)), (.getstatic 123, 3, (3, 0, 1248, 0, 0)), (.iconst 0, 1, (0, 0, 0, 0, 0)), (.baload, 1, (0, 0, 0, 0, 0)), (.if_icmp .ne 33, 3, (46, 0, 0, 0, 0)), (.aload_n 0, 1, (0, 0, 0, 0, 0)), (.iload_n 1, 1, (1, 0, 0, 0, 0)), (.iconst 1, 1, (0, 0, 0, 1, 0)), (.iadd, 1, (0, 0, 0, 0, 0)), (.baload, 1, (0, 0, 0, 0, 0)), (.getstatic 123, 3, (3, 0, 1248, 0, 0)), (.iconst 1, 1, (0, 0, 0, 1, 0)), (.baload, 1, (0, 0, 0, 0, 0)), (.if_icmp .ne 20, 3, (46, 0, 0, 0, 0)), (.aload_n 0, 1, (0, 0, 0, 0, 0)), (.iload_n 1, 1, (1, 0, 0, 0, 0)), (.iconst 2, 1, (0, 0, 0, 2, 0)), (.iadd, 1, (0, 0, 0, 0, 0)), (.baload, 1, (0, 0, 0, 0, 0)), (.getstatic 123, 3, (3, 0, 1248, 0, 0)), (.iconst 2, 1, (0, 0, 0, 2, 0)), (.baload, 1, (0, 0, 0, 0, 0)), (.if_icmp .ne 7, 3, (46, 0, 0, 0, 0)), (.iconst 1, 1, (0, 0, 0, 1, 0)), (.goto 4, 3, (47, 0, 0, 0, 0)), (.iconst 0, 1, (0, 0, 0, 0, 0)), (.ireturn, 1, (0, 0, 0, 0, 0))]
theorem ao_ZGAisF : jokLG jtF lk_GA "ChessHouse$Game" jcl jtb 3 prog_7_method_17_code 0 ak_ZGAisF = true := by decide +kernel
noncomputable def zm_GAisF : zM := (some .boolean, { frames := 0, cells := 0, slots := 0, locals := 0 }, ([], []), [], ak_ZGAisF)
noncomputable def zc_GAisF (vals : List zv) (W : zW) (post : zPo) : Prop := ∃ a ln : Int, vals = [.inr (.inr (some (.inl 1))), .inl (a), .inl (ln)] ∧ ((0 ≤ a ∧ 0 ≤ ln ∧ a + ln ≤ 65537)) ∧ ∀ r : Int, (xBl r (ln = 3 ∧ W.2.1 1 a = 70 ∧ W.2.1 1 (a + 1) = 69 ∧ W.2.1 1 (a + 2) = 78)) → post (some (.inl r)) W
set_option maxRecDepth 8000 in
theorem zp_GAisF_0 {n K : Nat} {W : zW} {post : zPo} {a ln : Int}  (hK : 31 ≤ K) (hn : 142 ≤ n) (h : (¬ ln = 3 → post (some (.inl (0))) W) ∧ (ln = 3 → (0 ≤ a ∧ a < 65537) ∧ (0 ≤ (0 : Int) ∧ (0 : Int) < 3) ∧ (¬ (W.2.1 1 a) = ((tv_3.getD (0 : Int).toNat 0).toInt) → post (some (.inl (0))) W) ∧ ((W.2.1 1 a) = ((tv_3.getD (0 : Int).toNat 0).toInt) → (-2147483648 ≤ a + 1 ∧ a + 1 ≤ 2147483647) ∧ (0 ≤ (a + 1) ∧ (a + 1) < 65537) ∧ (0 ≤ (1 : Int) ∧ (1 : Int) < 3) ∧ (¬ (W.2.1 1 (a + 1)) = ((tv_3.getD (1 : Int).toNat 0).toInt) → post (some (.inl (0))) W) ∧ ((W.2.1 1 (a + 1)) = ((tv_3.getD (1 : Int).toNat 0).toInt) → (-2147483648 ≤ a + 2 ∧ a + 2 ≤ 2147483647) ∧ (0 ≤ (a + 2) ∧ (a + 2) < 65537) ∧ (0 ≤ (2 : Int) ∧ (2 : Int) < 3) ∧ (¬ (W.2.1 1 (a + 2)) = ((tv_3.getD (2 : Int).toNat 0).toInt) → post (some (.inl (0))) W) ∧ ((W.2.1 1 (a + 2)) = ((tv_3.getD (2 : Int).toNat 0).toInt) → post (some (.inl (1))) W))))) : zwp jtb zsh n zm_GAisF post K (lGo ak_ZGAisF 0) 0 [some (.inr (.inr (some (.inl 1)))), some (.inl (a)), some (.inl (ln))] [] W := by
  obtain ⟨kk__, rfl⟩ : ∃ kk__, K = kk__ + 31 := ⟨K - 31, by omega⟩
  exact (show (¬ ln = 3 → 1 = 1 ∧ ((0 : Int) = 0 ∨ (0 : Int) = 1) ∧ post (some (.inl (0))) W) ∧ (ln = 3 → 1 < n ∧ FieldType.byte = FieldType.byte ∧ (0 ≤ a ∧ a < 65537) ∧ FieldType.byte = FieldType.byte ∧ (0 ≤ (0 : Int) ∧ (0 : Int) < 3) ∧ (¬ (W.2.1 1 a) = ((tv_3.getD (0 : Int).toNat 0).toInt) → 1 = 1 ∧ ((0 : Int) = 0 ∨ (0 : Int) = 1) ∧ post (some (.inl (0))) W) ∧ ((W.2.1 1 a) = ((tv_3.getD (0 : Int).toNat 0).toInt) → (-2147483648 ≤ a + 1 ∧ a + 1 ≤ 2147483647) ∧ 1 < n ∧ FieldType.byte = FieldType.byte ∧ (0 ≤ (a + 1) ∧ (a + 1) < 65537) ∧ FieldType.byte = FieldType.byte ∧ (0 ≤ (1 : Int) ∧ (1 : Int) < 3) ∧ (¬ (W.2.1 1 (a + 1)) = ((tv_3.getD (1 : Int).toNat 0).toInt) → 1 = 1 ∧ ((0 : Int) = 0 ∨ (0 : Int) = 1) ∧ post (some (.inl (0))) W) ∧ ((W.2.1 1 (a + 1)) = ((tv_3.getD (1 : Int).toNat 0).toInt) → (-2147483648 ≤ a + 2 ∧ a + 2 ≤ 2147483647) ∧ 1 < n ∧ FieldType.byte = FieldType.byte ∧ (0 ≤ (a + 2) ∧ (a + 2) < 65537) ∧ FieldType.byte = FieldType.byte ∧ (0 ≤ (2 : Int) ∧ (2 : Int) < 3) ∧ (¬ (W.2.1 1 (a + 2)) = ((tv_3.getD (2 : Int).toNat 0).toInt) → 1 = 1 ∧ ((0 : Int) = 0 ∨ (0 : Int) = 1) ∧ post (some (.inl (0))) W) ∧ ((W.2.1 1 (a + 2)) = ((tv_3.getD (2 : Int).toNat 0).toInt) → 1 = 1 ∧ ((1 : Int) = 0 ∨ (1 : Int) = 1) ∧ post (some (.inl (1))) W)))) from ⟨fun c2_2 => ⟨rfl, Or.inl rfl, ((h).1 c2_2)⟩, fun c2_2 => ⟨(Nat.lt_of_lt_of_le (by decide) hn), rfl, (((h).2 c2_2)).1, ⟨rfl, ((((h).2 c2_2)).2).1, ⟨fun c13_9 => (have h := ((((((h).2 c2_2)).2).2).1 c13_9); ⟨rfl, Or.inl rfl, h⟩), fun c13_9 => (have h := ((((((h).2 c2_2)).2).2).2 c13_9); ⟨(h).1, ⟨(Nat.lt_of_lt_of_le (by decide) hn), rfl, ((h).2).1, ⟨rfl, (((h).2).2).1, ⟨fun c26_18 => (have h := (((((h).2).2).2).1 c26_18); ⟨rfl, Or.inl rfl, h⟩), fun c26_18 => (have h := (((((h).2).2).2).2 c26_18); ⟨(h).1, ⟨(Nat.lt_of_lt_of_le (by decide) hn), rfl, ((h).2).1, ⟨rfl, (((h).2).2).1, ⟨fun c39_27 => (have h := (((((h).2).2).2).1 c39_27); ⟨rfl, Or.inl rfl, h⟩), fun c39_27 => (have h := (((((h).2).2).2).2 c39_27); ⟨rfl, Or.inr rfl, h⟩)⟩⟩⟩⟩)⟩⟩⟩⟩)⟩⟩⟩⟩)
theorem zk_GAisF {l : Launch} {E : jE} {n : Nat} (hn : 142 ≤ n) : zHas l E jcl jtb lw_tbl zsh n (y_GA_isFen, true, 3, 0, { frames := 0, cells := 0, slots := 0, locals := 0 }, zc_GAisF) := by
  refine ⟨⟨rfl, rfl, ⟨m_GA_isFen, s_GA_isFen⟩⟩, ?_⟩
  rintro vz W po hO hW ⟨a, ln, rfl, hq, hp⟩
  refine zmet (m := zm_GAisF) rfl (by decide) (fun _ _ => jtF_ok) lo_GA ao_ZGAisF jC (fun q h => by cases h) (fun q h => by cases h) (fun q h => by cases h) (Nat.le_of_ble_eq_true rfl) hO hW (80) ?_
  have f0 : (tv_3.getD (0 : Int).toNat 0).toInt = 70 := by decide
  have f1 : (tv_3.getD (1 : Int).toNat 0).toInt = 69 := by decide
  have f2 : (tv_3.getD (2 : Int).toNat 0).toInt = 78 := by decide
  exact zp_GAisF_0 (by omega) hn ⟨fun c2 => (hp _ (Or.inr ⟨rfl, fun z => by first | exact absurd z.1 c2 | exact c13 (z.2.1.trans f0.symm) | exact c26 (z.2.2.1.trans f1.symm) | exact c39 (z.2.2.2.trans f2.symm)⟩)), fun c2 => ⟨(by omega), ⟨(by omega), ⟨fun c13 => (hp _ (Or.inr ⟨rfl, fun z => by first | exact absurd z.1 c2 | exact c13 (z.2.1.trans f0.symm) | exact c26 (z.2.2.1.trans f1.symm) | exact c39 (z.2.2.2.trans f2.symm)⟩)), fun c13 => ⟨(by omega), ⟨(by omega), ⟨(by omega), ⟨fun c26 => (hp _ (Or.inr ⟨rfl, fun z => by first | exact absurd z.1 c2 | exact c13 (z.2.1.trans f0.symm) | exact c26 (z.2.2.1.trans f1.symm) | exact c39 (z.2.2.2.trans f2.symm)⟩)), fun c26 => ⟨(by omega), ⟨(by omega), ⟨(by omega), ⟨fun c39 => (hp _ (Or.inr ⟨rfl, fun z => by first | exact absurd z.1 c2 | exact c13 (z.2.1.trans f0.symm) | exact c26 (z.2.2.1.trans f1.symm) | exact c39 (z.2.2.2.trans f2.symm)⟩)), fun c39 => (hp _ (Or.inl ⟨rfl, by omega, by rw [← f0]; exact c13, by rw [← f1]; exact c26, by rw [← f2]; exact c39⟩))⟩⟩⟩⟩⟩⟩⟩⟩⟩⟩⟩⟩
end
section
/-! the class's tags -/
noncomputable def yTg (W : zW) (g : Nat) (G : xG) : Prop := W.1 g 13 = G.1 ∧ (0 ≤ G.1 ∧ G.1 ≤ 8) ∧ ∀ k, 0 ≤ k → k < G.1 → (W.2.1 (g + 24) k = G.2.1 k ∧ (1 ≤ G.2.1 k ∧ G.2.1 k ≤ 12) ∧ ∀ i, 0 ≤ i → i < G.2.1 k → W.2.1 (g + 23) (k * 12 + i) = G.2.2.1 k i) ∧ (W.2.1 (g + 26) k = G.2.2.2.1 k ∧ (0 ≤ G.2.2.2.1 k ∧ G.2.2.2.1 k ≤ 96) ∧ ∀ i, 0 ≤ i → i < G.2.2.2.1 k → W.2.1 (g + 25) (k * 96 + i) = G.2.2.2.2 k i)
theorem zcB_s {W : zW} {b0 b1 : Nat} {s d c : Int} : (zcB W b0 b1 s d c).2.1 b1 = fun i => if d ≤ i ∧ i < d + c then W.2.1 b0 (s + (i - d)) else W.2.1 b1 i := va_up_self _ _ _
theorem zcB_n {W : zW} {a b0 b1 : Nat} {s d c : Int} (h : ¬ a = b1) : (zcB W b0 b1 s d c).2.1 a = W.2.1 a := va_up_ne _ _ h
theorem zcT_s {W : zW} {u : Nat → Int32} {b1 : Nat} {s d c : Int} : (zcT W u b1 s d c).2.1 b1 = fun i => if d ≤ i ∧ i < d + c then (u (s + (i - d)).toNat).toInt else W.2.1 b1 i := va_up_self _ _ _
theorem zcT_n {W : zW} {u : Nat → Int32} {a b1 : Nat} {s d c : Int} (h : ¬ a = b1) : (zcT W u b1 s d c).2.1 a = W.2.1 a := va_up_ne _ _ h
theorem zFr_B {Fs : List (Nat × Nat)} {Rs : List Nat} {W V : zW} {b0 b1 : Nat} {s d c : Int} (h : zFr Fs Rs W V) (hm : b1 ∈ Rs) : zFr Fs Rs W (zcB V b0 b1 s d c) := ⟨h.1, fun a q => by rw [zcB_n (fun z => q (by rw [z]; exact hm))]; exact h.2.1 a q, h.2.2⟩
theorem zFr_T {Fs : List (Nat × Nat)} {Rs : List Nat} {W V : zW} {u : Nat → Int32} {b1 : Nat} {s d c : Int} (h : zFr Fs Rs W V) (hm : b1 ∈ Rs) : zFr Fs Rs W (zcT V u b1 s d c) := ⟨h.1, fun a q => by rw [zcT_n (fun z => q (by rw [z]; exact hm))]; exact h.2.1 a q, h.2.2⟩
theorem yTg_x {W V : zW} {g : Nat} {G : xG} (h : yTg W g G) (e : V.1 g 13 = W.1 g 13) (e3 : V.2.1 (g + 23) = W.2.1 (g + 23)) (e4 : V.2.1 (g + 24) = W.2.1 (g + 24)) (e5 : V.2.1 (g + 25) = W.2.1 (g + 25)) (e6 : V.2.1 (g + 26) = W.2.1 (g + 26)) : yTg V g G := by
  unfold yTg
  rw [e, e3, e4, e5, e6]
  exact h
/-- the tag at r gets another value -/
noncomputable def yGv (G : xG) (r : Int) (f : Int → Int) (v : Int) : xG := (G.1, G.2.1, G.2.2.1, zuI G.2.2.2.1 r v, fun k => if k = r then f else G.2.2.2.2 k)
theorem yTg_v {W V : zW} {g : Nat} {G : xG} {r v : Int} {f : Int → Int} (h : yTg W g G) (hr : 0 ≤ r ∧ r < G.1) (hv : 0 ≤ v ∧ v ≤ 96) (e : V.1 g 13 = W.1 g 13) (e3 : V.2.1 (g + 23) = W.2.1 (g + 23)) (e4 : V.2.1 (g + 24) = W.2.1 (g + 24)) (e6 : V.2.1 (g + 26) = zuI (W.2.1 (g + 26)) r v) (e5 : ∀ i, V.2.1 (g + 25) i = if r * 96 ≤ i ∧ i < r * 96 + v then f (i - r * 96) else W.2.1 (g + 25) i) : yTg V g (yGv G r f v) := by
  refine ⟨e.trans h.1, h.2.1, fun k k0 k1 => ?_⟩
  have k1 : k < G.1 := k1
  obtain ⟨h1, h2, h3, h4⟩ := h.2.2 k k0 k1
  refine ⟨by rw [e3, e4]; exact h1, ?_⟩
  show V.2.1 (g + 26) k = zuI G.2.2.2.1 r v k ∧ (0 ≤ zuI G.2.2.2.1 r v k ∧ zuI G.2.2.2.1 r v k ≤ 96) ∧ ∀ i, 0 ≤ i → i < zuI G.2.2.2.1 r v k → V.2.1 (g + 25) (k * 96 + i) = (if k = r then f else G.2.2.2.2 k) i
  rw [e6]
  by_cases c : k = r
  · rw [c, zuI_s, zuI_s, if_pos rfl]
    refine ⟨rfl, hv, fun i i0 i1 => ?_⟩
    rw [e5, if_pos (by omega), show r * 96 + i - r * 96 = i by omega]
  · rw [zuI_n c, zuI_n c, if_neg c]
    refine ⟨h2, h3, fun i i0 i1 => ?_⟩
    rw [e5, if_neg (by omega)]
    exact h4 i i0 i1
theorem yTg_a {W V : zW} {g : Nat} {G : xG} {n v : Int} {m f : Int → Int} (h : yTg W g G) (h8 : G.1 < 8) (hn : 1 ≤ n ∧ n ≤ 12) (hv : 0 ≤ v ∧ v ≤ 96) (e : V.1 g 13 = W.1 g 13 + 1) (e4 : V.2.1 (g + 24) = zuI (W.2.1 (g + 24)) G.1 n) (e3 : ∀ i, V.2.1 (g + 23) i = if G.1 * 12 ≤ i ∧ i < G.1 * 12 + n then m (i - G.1 * 12) else W.2.1 (g + 23) i) (e6 : V.2.1 (g + 26) = zuI (W.2.1 (g + 26)) G.1 v) (e5 : ∀ i, V.2.1 (g + 25) i = if G.1 * 96 ≤ i ∧ i < G.1 * 96 + v then f (i - G.1 * 96) else W.2.1 (g + 25) i) : yTg V g (xGa G m n f v) := by
  have h0 := h.2.1
  refine ⟨by rw [e, h.1]; rfl, by show 0 ≤ G.1 + 1 ∧ G.1 + 1 ≤ 8; omega, fun k k0 k1 => ?_⟩
  have k1 : k < G.1 + 1 := k1
  show (V.2.1 (g + 24) k = zuI G.2.1 G.1 n k ∧ (1 ≤ zuI G.2.1 G.1 n k ∧ zuI G.2.1 G.1 n k ≤ 12) ∧ ∀ i, 0 ≤ i → i < zuI G.2.1 G.1 n k → V.2.1 (g + 23) (k * 12 + i) = (if k = G.1 then m else G.2.2.1 k) i) ∧ (V.2.1 (g + 26) k = zuI G.2.2.2.1 G.1 v k ∧ (0 ≤ zuI G.2.2.2.1 G.1 v k ∧ zuI G.2.2.2.1 G.1 v k ≤ 96) ∧ ∀ i, 0 ≤ i → i < zuI G.2.2.2.1 G.1 v k → V.2.1 (g + 25) (k * 96 + i) = (if k = G.1 then f else G.2.2.2.2 k) i)
  rw [e4, e6]
  by_cases c : k = G.1
  · rw [c, zuI_s, zuI_s, zuI_s, zuI_s, if_pos rfl, if_pos rfl]
    refine ⟨⟨rfl, hn, fun i i0 i1 => ?_⟩, rfl, hv, fun i i0 i1 => ?_⟩
    · rw [e3, if_pos (by omega), show G.1 * 12 + i - G.1 * 12 = i by omega]
    · rw [e5, if_pos (by omega), show G.1 * 96 + i - G.1 * 96 = i by omega]
  · obtain ⟨⟨h1, h1', h1''⟩, h2, h3, h4⟩ := h.2.2 k k0 (by omega)
    rw [zuI_n c, zuI_n c, zuI_n c, zuI_n c, if_neg c, if_neg c]
    refine ⟨⟨h1, h1', fun i i0 i1 => ?_⟩, h2, h3, fun i i0 i1 => ?_⟩
    · rw [e3, if_neg (by omega)]
      exact h1'' i i0 i1
    · rw [e5, if_neg (by omega)]
      exact h4 i i0 i1
theorem yTg_0 {W : zW} {g : Nat} (h : W.1 g 13 = 0) : yTg W g gG0 := ⟨h, by show (0 : Int) ≤ 0 ∧ (0 : Int) ≤ 8; decide, fun k k0 k1 => by have k1 : k < 0 := k1; omega⟩
noncomputable def yCf (k : Int) : Int := (tv_3.getD k.toNat 0).toInt
noncomputable def yCr (k : Int) : Int := (tv_5.getD k.toNat 0).toInt
theorem yCf_e {k : Int} (h : 0 ≤ k) (h3 : k < 3) : yCf k = xNc 0 k := by
  have e : ∀ j : Fin 3, yCf (j.val : Int) = xNc 0 (j.val : Int) := by unfold yCf xNc; decide +kernel
  have z := e ⟨k.toNat, by omega⟩
  dsimp only at z
  rw [show ((k.toNat : Nat) : Int) = k by omega] at z
  exact z
theorem yCr_e {k : Int} (h : 0 ≤ k) (h3 : k < 6) : yCr k = xNc 1 k := by
  have e : ∀ j : Fin 6, yCr (j.val : Int) = xNc 1 (j.val : Int) := by unfold yCr xNc; decide +kernel
  have z := e ⟨k.toNat, by omega⟩
  dsimp only at z
  rw [show ((k.toNat : Nat) : Int) = k by omega] at z
  exact z
theorem yTn_e {W : zW} {g : Nat} {G : xG} {X : Int → Int} {t a n : Int} (h : yTg W g G) (h0 : 0 ≤ t) (h1 : t < G.1) : yTn (W.2.1 (g + 24)) (W.2.1 (g + 23)) X t a n n ↔ xNe (G.2.2.1 t) (G.2.1 t) (fun j => X (a + j)) n := by
  obtain ⟨⟨e1, _, e2⟩, _⟩ := h.2.2 t h0 h1
  unfold yTn xNe
  rw [e1]
  constructor
  · rintro ⟨a1, a2⟩
    exact ⟨a1, fun j j0 j1 => by rw [← e2 j j0 (by omega)]; exact a2 j j0 j1⟩
  · rintro ⟨a1, a2⟩
    exact ⟨a1, fun j j0 j1 => by rw [e2 j j0 (by omega)]; exact a2 j j0 j1⟩
/-- where a tag stands -/
noncomputable def yWt (G : xG) (m : Int → Int) (n r : Int) : Prop := (r = -1 ∧ ∀ i, 0 ≤ i → i < G.1 → ¬ xNe (G.2.2.1 i) (G.2.1 i) m n) ∨ ((0 ≤ r ∧ r < G.1) ∧ xNe (G.2.2.1 r) (G.2.1 r) m n ∧ ∀ i, 0 ≤ i → i < r → ¬ xNe (G.2.2.1 i) (G.2.1 i) m n)
theorem yWt_e {W : zW} {g : Nat} {G : xG} {X : Int → Int} {a n r : Int} (h : yTg W g G) (hr : (r = -1 ∧ ∀ tt, 0 ≤ tt → tt < W.1 g 13 → ¬ yTn (W.2.1 (g + 24)) (W.2.1 (g + 23)) X tt a n n) ∨ ((0 ≤ r ∧ r < W.1 g 13) ∧ yTn (W.2.1 (g + 24)) (W.2.1 (g + 23)) X r a n n ∧ ∀ tt, 0 ≤ tt → tt < r → ¬ yTn (W.2.1 (g + 24)) (W.2.1 (g + 23)) X tt a n n)) : yWt G (fun j => X (a + j)) n r := by
  rw [h.1] at hr
  rcases hr with ⟨h1, h2⟩ | ⟨h1, h2, h3⟩
  · exact Or.inl ⟨h1, fun i i0 i1 z => h2 i i0 i1 ((yTn_e h i0 i1).mpr z)⟩
  · exact Or.inr ⟨h1, (yTn_e h h1.1 h1.2).mp h2, fun i i0 i1 z => h3 i i0 i1 ((yTn_e h i0 (by omega)).mpr z)⟩
/-- a tag more, or another value -/
noncomputable def ySg (W V : zW) (g : Nat) (G : xG) (m : Int → Int) (n : Int) (f : Int → Int) (v : Int) : Prop := (∃ r, 0 ≤ r ∧ yWt G m n r ∧ yTg V g (yGv G r f v)) ∨ (yWt G m n (-1) ∧ yTg V g (xGa G m n f v))
theorem zHas_o {l : Launch} {E : jE} {n : Nat} {Y : jY} {st : Bool} {k f : Nat} {rm : Room} {P Q R : List zv → zW → zPo → Prop} (h : zHas l E jcl jtb lw_tbl zsh n (Y, st, k, f, rm, P)) (h2 : zHas l E jcl jtb lw_tbl zsh n (Y, st, k, f, rm, Q)) (hm : ∀ vz W po, R vz W po → P vz W po ∨ Q vz W po) : zHas l E jcl jtb lw_tbl zsh n (Y, st, k, f, rm, R) := ⟨h.1, fun vz W po a b c => (hm vz W po c).elim (h.2 vz W po a b) (h2.2 vz W po a b)⟩
end
