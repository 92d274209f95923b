section
/-! the reference, Texts: a node more -/
noncomputable def ak_ZMTclN : List jI := [(.aload_n 0, 1, (0, 0, 0, 0, 0)), (.getfield 28, 3, (12, 10, 2029, 0, 0)), (.iload_n 1, 1, (1, 0, 0, 0, 0)), (.iconst (-1), 1, (0, 0, 0, (-1), 0)), (.iastore, 1, (0, 0, 0, 0, 0)), (.aload_n 0, 1, (0, 0, 0, 0, 0)), (.getfield 31, 3, (12, 11, 2031, 0, 0)), (.iload_n 1, 1, (1, 0, 0, 0, 0)), (.iconst (-1), 1, (0, 0, 0, (-1), 0)), (.iastore, 1, (0, 0, 0, 0, 0)), (.aload_n 0, 1, (0, 0, 0, 0, 0)), (.getfield 34, 3, (12, 12, 2033, 0, 0)), (.iload_n 1, 1, (1, 0, 0, 0, 0)), (.iconst 0, 1, (0, 0, 0, 0, 0)), (.iastore, 1, (0, 0, 0, 0, 0)), (.aload_n 0, 1, (0, 0, 0, 0, 0)), (.getfield 40, 3, (12, 14, 2035, 0, 0)), (.iload_n 1, 1, (1, 0, 0, 0, 0)), (.iconst 0, 1, (0, 0, 0, 0, 0)), (.iastore, 1, (0, 0, 0, 0, 0)), (.return_, 1, (0, 0, 0, 0, 0))]
theorem ao_ZMTclN : jokLG jtF lk_MT "ChessHouseModel$Texts" jcl jtb 2 prog_18_method_23_code 0 ak_ZMTclN = true := by decide +kernel
noncomputable def zm_MTclN : zM := (none, { frames := 0, cells := 0, slots := 0, locals := 0 }, ([], []), [], ak_ZMTclN)
noncomputable def zc_MTclN (vals : List zv) (W : zW) (post : zPo) : Prop := ∃ k : Int, vals = [.inr (.inr (some (.inl 90))), .inl (k)] ∧ (0 ≤ k ∧ k < 602) ∧ post none (zuR (zuR (zuR (zuR W 96 k ((-1))) 97 k ((-1))) 98 k 0) 100 k 0)
set_option maxRecDepth 8000 in
theorem zp_MTclN_0 {n K : Nat} {W : zW} {post : zPo} {k : Int}  (hK : 21 ≤ K) (hn : 142 ≤ n) (h : (0 ≤ k ∧ k < 602) ∧ (0 ≤ k ∧ k < 602) ∧ (0 ≤ k ∧ k < 602) ∧ (0 ≤ k ∧ k < 602) ∧ (0 ≤ (0 : Int) ∧ (0 : Int) ≤ 200) ∧ post none (zuR (zuR (zuR (zuR W 96 k (-1)) 97 k (-1)) 98 k 0) 100 k 0)) : zwp jtb zsh n zm_MTclN post K (lGo ak_ZMTclN 0) 0 [some (.inr (.inr (some (.inl 90)))), some (.inl (k))] [] W := by
  obtain ⟨kk__, rfl⟩ : ∃ kk__, K = kk__ + 21 := ⟨K - 21, by omega⟩
  exact (show 90 < n ∧ 12 = 12 ∧ 96 < n ∧ FieldType.int = FieldType.int ∧ (0 ≤ k ∧ k < 602) ∧ True ∧ 90 < n ∧ 12 = 12 ∧ 97 < n ∧ FieldType.int = FieldType.int ∧ (0 ≤ k ∧ k < 602) ∧ True ∧ 90 < n ∧ 12 = 12 ∧ 98 < n ∧ FieldType.int = FieldType.int ∧ (0 ≤ k ∧ k < 602) ∧ True ∧ 90 < n ∧ 12 = 12 ∧ 100 < n ∧ FieldType.int = FieldType.int ∧ (0 ≤ k ∧ k < 602) ∧ (0 ≤ (0 : Int) ∧ (0 : Int) ≤ 200) ∧ 1 = 1 ∧ (none : Option FieldType) = none ∧ post none (zuR (zuR (zuR (zuR W 96 k (-1)) 97 k (-1)) 98 k 0) 100 k 0) from ⟨(Nat.lt_of_lt_of_le (by decide) hn), rfl, ⟨(Nat.lt_of_lt_of_le (by decide) hn), rfl, (h).1, trivial, ⟨(Nat.lt_of_lt_of_le (by decide) hn), rfl, ⟨(Nat.lt_of_lt_of_le (by decide) hn), rfl, ((h).2).1, trivial, ⟨(Nat.lt_of_lt_of_le (by decide) hn), rfl, ⟨(Nat.lt_of_lt_of_le (by decide) hn), rfl, (((h).2).2).1, trivial, ⟨(Nat.lt_of_lt_of_le (by decide) hn), rfl, ⟨(Nat.lt_of_lt_of_le (by decide) hn), rfl, ((((h).2).2).2).1, (((((h).2).2).2).2).1, ⟨rfl, rfl, (((((h).2).2).2).2).2⟩⟩⟩⟩⟩⟩⟩⟩⟩)
theorem zk_MTclN {l : Launch} {E : jE} {n : Nat} (hn : 142 ≤ n) : zHas l E jcl jtb lw_tbl zsh n (y_MT_clearNode, false, 2, 12, { frames := 0, cells := 0, slots := 0, locals := 0 }, zc_MTclN) := by
  refine ⟨⟨rfl, rfl, ⟨show 1 ≤ 2 by decide, m_MT_clearNode, i_MT_clearNode, e_MT_clearNode, fun _ => ⟨_, rfl, rfl⟩⟩⟩, ?_⟩
  rintro vz W po hO hW ⟨k, rfl, hq, hp⟩
  refine zmet (m := zm_MTclN) rfl (by decide) (fun _ _ => jtF_ok) lo_MT ao_ZMTclN jC (fun q h => by cases h) (fun q h => by cases h) (fun q h => by cases h) (Nat.le_of_ble_eq_true rfl) hO hW (60) ?_
  exact zp_MTclN_0 (by omega) hn ⟨(by omega), ⟨(by omega), ⟨(by omega), ⟨(by omega), (by omega), hp⟩⟩⟩⟩
noncomputable def y_MT_append : jY := (⟨"ChessHouseModel$Texts", "append", "(III)I"⟩, prog_18_method_28_code, 6, (some .int))
theorem m_MT_append : jmth lw_tbl y_MT_append 3 := ⟨jTA_in (wi := 2709) (jtF_ok rfl) rfl, jTA_in (wi := 315) (jtF_ok rfl) rfl, by decide, by decide, by decide +kernel⟩
theorem i_MT_append : Jvm.Cond.instanceMethod y_MT_append.1 ∈ jTA lw_tbl := jTA_in (wi := 2708) (jtF_ok rfl) rfl
theorem e_MT_append : Jvm.Cond.selects y_MT_append.1.cls y_MT_append.1 y_MT_append.1 ∈ jTA lw_tbl := jTA_in (wi := 196) (jtF_ok rfl) rfl
noncomputable def ak_ZMTapp : List jI := [(.aload_n 0, 1, (0, 0, 0, 0, 0)), (.getfield 18, 3, (12, 7, 2023, 0, 0)), (.iload_n 1, 1, (1, 0, 0, 0, 0)), (.dup2, 1, (0, 0, 0, 0, 0)), (.iaload, 1, (0, 0, 0, 0, 0)), (.iconst 1, 1, (0, 0, 0, 1, 0)), (.iadd, 1, (0, 0, 0, 0, 0)), (.iastore, 1, (0, 0, 0, 0, 0)), (.aload_n 0, 1, (0, 0, 0, 0, 0)), (.getfield 18, 3, (12, 7, 2023, 0, 0)), (.iload_n 1, 1, (1, 0, 0, 0, 0)), (.iaload, 1, (0, 0, 0, 0, 0)), (.istore 4, 2, (4, 0, 0, 0, 0)), (.aload_n 0, 1, (0, 0, 0, 0, 0)), (.sipush 301, 3, (0, 0, 0, 301, 0)), (.iload_n 1, 1, (1, 0, 0, 0, 0)), (.imul, 1, (0, 0, 0, 0, 0)), (.iload 4, 2, (4, 0, 0, 0, 0)), (.iadd, 1, (0, 0, 0, 0, 0)), (.invokevirtual 180, 3, (0, 0, 1921, 0, 0)), (.aload_n 0, 1, (0, 0, 0, 0, 0)), (.getfield 22, 3, (12, 8, 2025, 0, 0)), (.sipush 301, 3, (0, 0, 0, 301, 0)), (.iload_n 1, 1, (1, 0, 0, 0, 0)), (.imul, 1, (0, 0, 0, 0, 0)), (.iload 4, 2, (4, 0, 0, 0, 0)), (.iadd, 1, (0, 0, 0, 0, 0)), (.iload_n 2, 1, (2, 0, 0, 0, 0)), (.iastore, 1, (0, 0, 0, 0, 0)), (.aload_n 0, 1, (0, 0, 0, 0, 0)), (.getfield 25, 3, (12, 9, 2027, 0, 0)), (.sipush 301, 3, (0, 0, 0, 301, 0)), (.iload_n 1, 1, (1, 0, 0, 0, 0)), (.imul, 1, (0, 0, 0, 0, 0)), (.iload 4, 2, (4, 0, 0, 0, 0)), (.iadd, 1, (0, 0, 0, 0, 0)), (.iload_n 3, 1, (3, 0, 0, 0, 0)), (.iastore, 1, (0, 0, 0, 0, 0)), (.aload_n 0, 1, (0, 0, 0, 0, 0)), (.getfield 28, 3, (12, 10, 2029, 0, 0)), (.sipush 301, 3, (0, 0, 0, 301, 0)), (.iload_n 1, 1, (1, 0, 0, 0, 0)), (.imul, 1, (0, 0, 0, 0, 0)), (.iload_n 2, 1, (2, 0, 0, 0, 0)), (.iadd, 1, (0, 0, 0, 0, 0)), (.iaload, 1, (0, 0, 0, 0, 0)), (.istore 5, 2, (5, 0, 0, 0, 0)), (.iload 5, 2, (5, 0, 0, 0, 0)), (.ifCond .ge 20, 3, (94, 0, 0, 0, 0)), (.aload_n 0, 1, (0, 0, 0, 0, 0)), (.getfield 28, 3, (12, 10, 2029, 0, 0)), (.sipush 301, 3, (0, 0, 0, 301, 0)), (.iload_n 1, 1, (1, 0, 0, 0, 0)), (.imul, 1, (0, 0, 0, 0, 0)), (.iload_n 2, 1, (2, 0, 0, 0, 0)), (.iadd, 1, (0, 0, 0, 0, 0)), (.iload 4, 2, (4, 0, 0, 0, 0)), (.iastore, 1, (0, 0, 0, 0, 0)), (.goto 52, 3, (143, 0, 0, 0, 0)), (.aload_n 0, 1, (0, 0, 0, 0, 0)), (.getfield 31, 3, (12, 11, 2031, 0, 0)), (.sipush 301, 3, (0, 0, 0, 301, 0)), (.iload_n 1, 1, (1, 0, 0, 0, 0)), (.imul, 1, (0, 0, 0, 0, 0)), (.iload 5, 2, (5, 0, 0, 0, 0)), (.iadd, 1, (0, 0, 0, 0, 0)), (.iaload, 1, (0, 0, 0, 0, 0)), (.ifCond .lt 21, 3, (128, 0, 0, 0, 0)), (.aload_n 0, 1, (0, 0, 0, 0, 0)), (.getfield 31, 3, (12, 11, 2031, 0, 0)), (.sipush 301, 3, (0, 0, 0, 301, 0)), (.iload_n 1, 1, (1, 0, 0, 0, 0)), (.imul, 1, (0, 0, 0, 0, 0)), (.iload 5, 2, (5, 0, 0, 0, 0)), (.iadd, 1, (0, 0, 0, 0, 0)), (.iaload, 1, (0, 0, 0, 0, 0)), (.istore 5, 2, (5, 0, 0, 0, 0)), (.goto (-31), 3, (94, 0, 0, 0, 0)), (.aload_n 0, 1, (0, 0, 0, 0, 0)), (.getfield 31, 3, (12, 11, 2031, 0, 0)), (.sipush 301, 3, (0, 0, 0, 301, 0)), (.iload_n 1, 1, (1, 0, 0, 0, 0)), (.imul, 1, (0, 0, 0, 0, 0)), (.iload 5, 2, (5, 0, 0, 0, 0)), (.iadd, 1, (0, 0, 0, 0, 0)), (.iload 4, 2, (4, 0, 0, 0, 0)), (.iastore, 1, (0, 0, 0, 0, 0)), (.iload 4, 2, (4, 0, 0, 0, 0)), (.ireturn, 1, (0, 0, 0, 0, 0))]
theorem ao_ZMTapp : jokLG jtF lk_MT "ChessHouseModel$Texts" jcl jtb 6 prog_18_method_28_code 0 ak_ZMTapp = true := by decide +kernel
noncomputable def zm_MTapp : zM := (some .int, { frames := 1, cells := 0, slots := 0, locals := 21 }, ([(180, 1921, 0)], []), [(y_MT_clearNode, false, 2, 12, { frames := 0, cells := 0, slots := 0, locals := 0 }, zc_MTclN)], ak_ZMTapp)
noncomputable def zc_MTapp (vals : List zv) (W : zW) (post : zPo) : Prop := ∃ g u m : Int, vals = [.inr (.inr (some (.inl 90))), .inl (g), .inl (u), .inl (m)] ∧ ((0 ≤ g ∧ g ≤ 1) ∧ ∃ T, zRt W g T ∧ xTok T ∧ (0 ≤ u ∧ u ≤ T.2.1) ∧ T.2.1 < 300) ∧ ∀ r : Int, ∀ V : zW, ((∀ T, zRt W g T → xTok T → r = T.2.1 + 1 ∧ zRt V g (xApp T u m)) ∧ zFo g W V ∧ zFr [] [93, 94, 95, 96, 97, 98, 100] W V) → post (some (.inl r)) V
/-- the rows behind append's first part -/
noncomputable def zA0 (W V : zW) (g u m k : Int) : Prop := zAp W V g u m k ∧ (∀ i, zro V 96 g i = if i = k then -1 else zro W 96 g i) ∧ (∀ i, zro V 97 g i = if i = k then -1 else zro W 97 g i) ∧ zFo g W V ∧ zFr [] [93, 94, 95, 96, 97, 98, 100] W V
set_option maxRecDepth 8000 in
theorem zp_MTapp_0 {n K : Nat} {W : zW} {post : zPo} {g u m : Int} {u4 u5 : Option zv} (hK : 13 ≤ K) (hn : 142 ≤ n) (h : (0 ≤ g ∧ g < 2) ∧ (-2147483648 ≤ (W.2.1 93 g) + 1 ∧ (W.2.1 93 g) + 1 ≤ 2147483647) ∧ (0 ≤ g ∧ g < 2) ∧ (0 ≤ g ∧ g < 2) ∧ zwp jtb zsh n zm_MTapp post (K - 13) (lGo ak_ZMTapp 18) 18 [some (.inr (.inr (some (.inl 90)))), some (.inl (g)), some (.inl (u)), some (.inl (m)), some (.inl (zuI (W.2.1 93) g ((W.2.1 93 g) + 1) g)), u5] [] (zuR W 93 g ((W.2.1 93 g) + 1))) : zwp jtb zsh n zm_MTapp post K (lGo ak_ZMTapp 0) 0 [some (.inr (.inr (some (.inl 90)))), some (.inl (g)), some (.inl (u)), some (.inl (m)), u4, u5] [] W := by
  obtain ⟨kk__, rfl⟩ : ∃ kk__, K = kk__ + 13 := ⟨K - 13, by omega⟩
  exact (show 90 < n ∧ 12 = 12 ∧ 93 < n ∧ FieldType.int = FieldType.int ∧ (0 ≤ g ∧ g < 2) ∧ (-2147483648 ≤ (W.2.1 93 g) + 1 ∧ (W.2.1 93 g) + 1 ≤ 2147483647) ∧ 93 < n ∧ FieldType.int = FieldType.int ∧ (0 ≤ g ∧ g < 2) ∧ True ∧ 90 < n ∧ 12 = 12 ∧ 93 < n ∧ FieldType.int = FieldType.int ∧ (0 ≤ g ∧ g < 2) ∧ zwp jtb zsh n zm_MTapp post (kk__ + 0) (lGo ak_ZMTapp 18) 18 [some (.inr (.inr (some (.inl 90)))), some (.inl (g)), some (.inl (u)), some (.inl (m)), some (.inl (zuI (W.2.1 93) g ((W.2.1 93 g) + 1) g)), u5] [] (zuR W 93 g ((W.2.1 93 g) + 1)) from ⟨(Nat.lt_of_lt_of_le (by decide) hn), rfl, ⟨(Nat.lt_of_lt_of_le (by decide) hn), rfl, (h).1, ⟨((h).2).1, ⟨(Nat.lt_of_lt_of_le (by decide) hn), rfl, (((h).2).2).1, trivial, ⟨(Nat.lt_of_lt_of_le (by decide) hn), rfl, ⟨(Nat.lt_of_lt_of_le (by decide) hn), rfl, ((((h).2).2).2).1, ((((h).2).2).2).2⟩⟩⟩⟩⟩⟩)
set_option maxRecDepth 8000 in
theorem zp_MTapp_18 {n K : Nat} {V : zW} {post : zPo} {g u m k : Int} {u5 : Option zv} (hK : 34 ≤ K) (hn : 142 ≤ n) (h : (-2147483648 ≤ 301 * g ∧ 301 * g ≤ 2147483647) ∧ (-2147483648 ≤ (301 * g) + k ∧ (301 * g) + k ≤ 2147483647) ∧ (0 ≤ ((301 * g) + k) ∧ ((301 * g) + k) < 602) ∧ (-2147483648 ≤ 301 * g ∧ 301 * g ≤ 2147483647) ∧ (-2147483648 ≤ (301 * g) + k ∧ (301 * g) + k ≤ 2147483647) ∧ (0 ≤ ((301 * g) + k) ∧ ((301 * g) + k) < 602) ∧ (-2147483648 ≤ 301 * g ∧ 301 * g ≤ 2147483647) ∧ (-2147483648 ≤ (301 * g) + k ∧ (301 * g) + k ≤ 2147483647) ∧ (0 ≤ ((301 * g) + k) ∧ ((301 * g) + k) < 602) ∧ (-2147483648 ≤ 301 * g ∧ 301 * g ≤ 2147483647) ∧ (-2147483648 ≤ (301 * g) + u ∧ (301 * g) + u ≤ 2147483647) ∧ (0 ≤ ((301 * g) + u) ∧ ((301 * g) + u) < 602) ∧ zwp jtb zsh n zm_MTapp post (K - 34) (lGo ak_ZMTapp 72) 72 [some (.inr (.inr (some (.inl 90)))), some (.inl (g)), some (.inl (u)), some (.inl (m)), some (.inl (k)), some (.inl (zuI (V.2.1 96) (((301 * g) + k)) ((-1)) ((301 * g) + u)))] [] (zuR (zuR (zuR (zuR (zuR (zuR V 96 (((301 * g) + k)) ((-1))) 97 (((301 * g) + k)) ((-1))) 98 (((301 * g) + k)) 0) 100 (((301 * g) + k)) 0) 94 ((301 * g) + k) u) 95 ((301 * g) + k) m)) : zwp jtb zsh n zm_MTapp post K (lGo ak_ZMTapp 18) 18 [some (.inr (.inr (some (.inl 90)))), some (.inl (g)), some (.inl (u)), some (.inl (m)), some (.inl (k)), u5] [] V := by
  obtain ⟨kk__, rfl⟩ : ∃ kk__, K = kk__ + 34 := ⟨K - 34, by omega⟩
  exact (show (-2147483648 ≤ 301 * g ∧ 301 * g ≤ 2147483647) ∧ (-2147483648 ≤ (301 * g) + k ∧ (301 * g) + k ≤ 2147483647) ∧ 3 = 3 ∧ false = false ∧ jin3 180 1921 0 zm_MTapp.2.2.1.1 = true ∧ lRm zm_MTapp.2.1 { frames := 0, cells := 0, slots := 0, locals := 0 } 2 = true ∧ Nat.ble 2 2 = true ∧ Nat.ble 0 8 = true ∧ 90 < n ∧ 12 = 12 ∧ Nat.ble 1000 12 = false ∧ zc_MTclN [.inr (.inr (some (.inl 90))), .inl ((301 * g) + k)] V (fun vv__ WW__ => zwp jtb zsh n zm_MTapp post (kk__ + 27) (lGo ak_ZMTapp 30) 30 [some (.inr (.inr (some (.inl 90)))), some (.inl (g)), some (.inl (u)), some (.inl (m)), some (.inl (k)), u5] (vv__.toList ++ []) WW__) from ⟨(h).1, ⟨((h).2).1, ⟨rfl, rfl, rfl, rfl, rfl, rfl, (Nat.lt_of_lt_of_le (by decide) hn), rfl, rfl, (301 * g) + k, rfl, (((h).2).2).1, (show 90 < n ∧ 12 = 12 ∧ (-2147483648 ≤ 301 * g ∧ 301 * g ≤ 2147483647) ∧ (-2147483648 ≤ (301 * g) + k ∧ (301 * g) + k ≤ 2147483647) ∧ 94 < n ∧ FieldType.int = FieldType.int ∧ (0 ≤ ((301 * g) + k) ∧ ((301 * g) + k) < 602) ∧ True ∧ 90 < n ∧ 12 = 12 ∧ (-2147483648 ≤ 301 * g ∧ 301 * g ≤ 2147483647) ∧ (-2147483648 ≤ (301 * g) + k ∧ (301 * g) + k ≤ 2147483647) ∧ 95 < n ∧ FieldType.int = FieldType.int ∧ (0 ≤ ((301 * g) + k) ∧ ((301 * g) + k) < 602) ∧ True ∧ 90 < n ∧ 12 = 12 ∧ (-2147483648 ≤ 301 * g ∧ 301 * g ≤ 2147483647) ∧ (-2147483648 ≤ (301 * g) + u ∧ (301 * g) + u ≤ 2147483647) ∧ 96 < n ∧ FieldType.int = FieldType.int ∧ (0 ≤ ((301 * g) + u) ∧ ((301 * g) + u) < 602) ∧ zwp jtb zsh n zm_MTapp post (kk__ + 0) (lGo ak_ZMTapp 72) 72 [some (.inr (.inr (some (.inl 90)))), some (.inl (g)), some (.inl (u)), some (.inl (m)), some (.inl (k)), some (.inl (zuI (V.2.1 96) (((301 * g) + k)) ((-1)) ((301 * g) + u)))] [] (zuR (zuR (zuR (zuR (zuR (zuR V 96 (((301 * g) + k)) ((-1))) 97 (((301 * g) + k)) ((-1))) 98 (((301 * g) + k)) 0) 100 (((301 * g) + k)) 0) 94 ((301 * g) + k) u) 95 ((301 * g) + k) m) from ⟨(Nat.lt_of_lt_of_le (by decide) hn), rfl, ⟨(((((h).2).2).2)).1, ⟨((((((h).2).2).2)).2).1, ⟨(Nat.lt_of_lt_of_le (by decide) hn), rfl, (((((((h).2).2).2)).2).2).1, trivial, (have h := (((((((h).2).2).2)).2).2).2; ⟨(Nat.lt_of_lt_of_le (by decide) hn), rfl, ⟨(h).1, ⟨((h).2).1, ⟨(Nat.lt_of_lt_of_le (by decide) hn), rfl, (((h).2).2).1, trivial, ⟨(Nat.lt_of_lt_of_le (by decide) hn), rfl, ⟨((((h).2).2).2).1, ⟨(((((h).2).2).2).2).1, ⟨(Nat.lt_of_lt_of_le (by decide) hn), rfl, ((((((h).2).2).2).2).2).1, ((((((h).2).2).2).2).2).2⟩⟩⟩⟩⟩⟩⟩⟩)⟩⟩⟩⟩)⟩⟩⟩)
set_option maxRecDepth 8000 in
theorem zp_MTapp_72 {n K : Nat} {V : zW} {post : zPo} {g u m k x : Int}  (hK : 14 ≤ K) (hn : 142 ≤ n) (h : (0 ≤ x → zwp jtb zsh n zm_MTapp post (K - 2) (lGo ak_ZMTapp 94) 94 [some (.inr (.inr (some (.inl 90)))), some (.inl (g)), some (.inl (u)), some (.inl (m)), some (.inl (k)), some (.inl (x))] [] V) ∧ (¬ 0 ≤ x → (-2147483648 ≤ 301 * g ∧ 301 * g ≤ 2147483647) ∧ (-2147483648 ≤ (301 * g) + u ∧ (301 * g) + u ≤ 2147483647) ∧ (0 ≤ ((301 * g) + u) ∧ ((301 * g) + u) < 602) ∧ post (some (.inl (k))) (zuR V 96 ((301 * g) + u) k))) : zwp jtb zsh n zm_MTapp post K (lGo ak_ZMTapp 72) 72 [some (.inr (.inr (some (.inl 90)))), some (.inl (g)), some (.inl (u)), some (.inl (m)), some (.inl (k)), some (.inl (x))] [] V := by
  obtain ⟨kk__, rfl⟩ : ∃ kk__, K = kk__ + 14 := ⟨K - 14, by omega⟩
  exact (show (0 ≤ x → zwp jtb zsh n zm_MTapp post (kk__ + 12) (lGo ak_ZMTapp 94) 94 [some (.inr (.inr (some (.inl 90)))), some (.inl (g)), some (.inl (u)), some (.inl (m)), some (.inl (k)), some (.inl (x))] [] V) ∧ (¬ 0 ≤ x → 90 < n ∧ 12 = 12 ∧ (-2147483648 ≤ 301 * g ∧ 301 * g ≤ 2147483647) ∧ (-2147483648 ≤ (301 * g) + u ∧ (301 * g) + u ≤ 2147483647) ∧ 96 < n ∧ FieldType.int = FieldType.int ∧ (0 ≤ ((301 * g) + u) ∧ ((301 * g) + u) < 602) ∧ True ∧ 1 = 1 ∧ True ∧ post (some (.inl (k))) (zuR V 96 ((301 * g) + u) k)) from ⟨fun c74_1 => ((h).1 c74_1), fun c74_1 => ⟨(Nat.lt_of_lt_of_le (by decide) hn), rfl, ⟨(((h).2 c74_1)).1, ⟨((((h).2 c74_1)).2).1, ⟨(Nat.lt_of_lt_of_le (by decide) hn), rfl, (((((h).2 c74_1)).2).2).1, trivial, (have h := (((((h).2 c74_1)).2).2).2; ⟨rfl, trivial, h⟩)⟩⟩⟩⟩⟩)
set_option maxRecDepth 8000 in
theorem zp_MTapp_94 {n K : Nat} {V : zW} {post : zPo} {g u m k x : Int}  (hK : 20 ≤ K) (hn : 142 ≤ n) (h : (-2147483648 ≤ 301 * g ∧ 301 * g ≤ 2147483647) ∧ (-2147483648 ≤ (301 * g) + x ∧ (301 * g) + x ≤ 2147483647) ∧ (0 ≤ ((301 * g) + x) ∧ ((301 * g) + x) < 602) ∧ ((V.2.1 97 ((301 * g) + x)) < 0 → (-2147483648 ≤ 301 * g ∧ 301 * g ≤ 2147483647) ∧ (-2147483648 ≤ (301 * g) + x ∧ (301 * g) + x ≤ 2147483647) ∧ (0 ≤ ((301 * g) + x) ∧ ((301 * g) + x) < 602) ∧ post (some (.inl (k))) (zuR V 97 ((301 * g) + x) k)) ∧ (¬ (V.2.1 97 ((301 * g) + x)) < 0 → (-2147483648 ≤ 301 * g ∧ 301 * g ≤ 2147483647) ∧ (-2147483648 ≤ (301 * g) + x ∧ (301 * g) + x ≤ 2147483647) ∧ (0 ≤ ((301 * g) + x) ∧ ((301 * g) + x) < 602) ∧ zwp jtb zsh n zm_MTapp post (K - 19) (lGo ak_ZMTapp 94) 94 [some (.inr (.inr (some (.inl 90)))), some (.inl (g)), some (.inl (u)), some (.inl (m)), some (.inl (k)), some (.inl (V.2.1 97 ((301 * g) + x)))] [] V)) : zwp jtb zsh n zm_MTapp post K (lGo ak_ZMTapp 94) 94 [some (.inr (.inr (some (.inl 90)))), some (.inl (g)), some (.inl (u)), some (.inl (m)), some (.inl (k)), some (.inl (x))] [] V := by
  obtain ⟨kk__, rfl⟩ : ∃ kk__, K = kk__ + 20 := ⟨K - 20, by omega⟩
  exact (show 90 < n ∧ 12 = 12 ∧ (-2147483648 ≤ 301 * g ∧ 301 * g ≤ 2147483647) ∧ (-2147483648 ≤ (301 * g) + x ∧ (301 * g) + x ≤ 2147483647) ∧ 97 < n ∧ FieldType.int = FieldType.int ∧ (0 ≤ ((301 * g) + x) ∧ ((301 * g) + x) < 602) ∧ ((V.2.1 97 ((301 * g) + x)) < 0 → 90 < n ∧ 12 = 12 ∧ (-2147483648 ≤ 301 * g ∧ 301 * g ≤ 2147483647) ∧ (-2147483648 ≤ (301 * g) + x ∧ (301 * g) + x ≤ 2147483647) ∧ 97 < n ∧ FieldType.int = FieldType.int ∧ (0 ≤ ((301 * g) + x) ∧ ((301 * g) + x) < 602) ∧ True ∧ 1 = 1 ∧ True ∧ post (some (.inl (k))) (zuR V 97 ((301 * g) + x) k)) ∧ (¬ (V.2.1 97 ((301 * g) + x)) < 0 → 90 < n ∧ 12 = 12 ∧ (-2147483648 ≤ 301 * g ∧ 301 * g ≤ 2147483647) ∧ (-2147483648 ≤ (301 * g) + x ∧ (301 * g) + x ≤ 2147483647) ∧ 97 < n ∧ FieldType.int = FieldType.int ∧ (0 ≤ ((301 * g) + x) ∧ ((301 * g) + x) < 602) ∧ zwp jtb zsh n zm_MTapp post (kk__ + 1) (lGo ak_ZMTapp 94) 94 [some (.inr (.inr (some (.inl 90)))), some (.inl (g)), some (.inl (u)), some (.inl (m)), some (.inl (k)), some (.inl (V.2.1 97 ((301 * g) + x)))] [] V) from ⟨(Nat.lt_of_lt_of_le (by decide) hn), rfl, ⟨(h).1, ⟨((h).2).1, ⟨(Nat.lt_of_lt_of_le (by decide) hn), rfl, (((h).2).2).1, ⟨fun c107_8 => (have h := (((((h).2).2).2).1 c107_8); ⟨(Nat.lt_of_lt_of_le (by decide) hn), rfl, ⟨(h).1, ⟨((h).2).1, ⟨(Nat.lt_of_lt_of_le (by decide) hn), rfl, (((h).2).2).1, trivial, ⟨rfl, trivial, (((h).2).2).2⟩⟩⟩⟩⟩), fun c107_8 => (have h := (((((h).2).2).2).2 c107_8); ⟨(Nat.lt_of_lt_of_le (by decide) hn), rfl, ⟨(h).1, ⟨((h).2).1, ⟨(Nat.lt_of_lt_of_le (by decide) hn), rfl, (((h).2).2).1, (((h).2).2).2⟩⟩⟩⟩)⟩⟩⟩⟩⟩)
theorem zLen {N : Int} (h0 : 0 ≤ N) : ∀ {l : List Int}, l.Nodup → (∀ c ∈ l, 1 ≤ c ∧ c ≤ N) → l.length ≤ N.toNat := by
  suffices h : ∀ (k : Nat) (l : List Int), l.Nodup → (∀ c ∈ l, 1 ≤ c ∧ c ≤ (k : Int)) → l.length ≤ k by
    intro l h1 h2
    exact h N.toNat l h1 (fun c hc => by have := h2 c hc; omega)
  intro k
  induction k with
  | zero =>
    intro l h1 h2
    cases l with
    | nil => exact Nat.le_refl _
    | cons c l => have := h2 c (List.mem_cons_self ..); omega
  | succ k ih =>
    intro l h1 h2
    by_cases c : ((k + 1 : Nat) : Int) ∈ l
    · have e := List.length_erase_of_mem c
      have hp : 0 < l.length := List.length_pos_of_mem c
      have := ih (l.erase ((k + 1 : Nat) : Int)) (h1.erase _) (fun d hd => by
        have h3 := h2 d (List.mem_of_mem_erase hd)
        have h4 : ¬ d = ((k + 1 : Nat) : Int) := by
          intro e2
          rw [e2] at hd
          exact (List.Nodup.not_mem_erase h1) hd
        omega)
      omega
    · have := ih l h1 (fun d hd => by
        have h3 := h2 d hd
        have h4 : ¬ d = ((k + 1 : Nat) : Int) := by
          intro e2
          rw [e2] at hd
          exact c hd
        omega)
      omega
set_option maxRecDepth 100000 in
set_option maxHeartbeats 4000000 in
theorem zk_MTapp {l : Launch} {E : jE} {n : Nat} (hn : 142 ≤ n) : zHas l E jcl jtb lw_tbl zsh n (y_MT_append, false, 4, 12, { frames := 1, cells := 0, slots := 0, locals := 21 }, zc_MTapp) := by
  refine ⟨⟨rfl, rfl, ⟨show 1 ≤ 4 by decide, m_MT_append, i_MT_append, e_MT_append, fun _ => ⟨_, rfl, rfl⟩⟩⟩, ?_⟩
  rintro vz W po hO hW ⟨g, u, m, rfl, hq, hp⟩
  refine zmet (m := zm_MTapp) rfl (by decide) (fun _ _ => jtF_ok) lo_MT ao_ZMTapp jC (fun q h => by cases h) (aAllc (fun G h => by obtain rfl := Option.some.inj h; exact ql_MT_180) (fun q h => by cases h)) (aAllc (zk_MTclN hn) (fun q h => by cases h)) (Nat.le_of_ble_eq_true rfl) hO hW (20400) ?_
  obtain ⟨hg, T, hr, hT, hu, h3⟩ := hq
  have hN : W.2.1 93 g = T.2.1 := hr.1
  have hN0 := hT.1.1
  have kin : ∀ i, 0 ≤ i → i ≤ T.2.1 → ∀ c ∈ T.2.2.2.2.1 i, 1 ≤ c ∧ c ≤ T.2.1 ∧ T.2.2.1 c = i := fun i i0 i1 c hc => ((hT.2.2.1 i i0 i1).2 c).mp hc
  have hch := (hr.2.2.1 u hu.1 hu.2).1
  have uniq : ∀ T' : xT, zRt W g T' → xTok T' → T'.2.1 = T.2.1 ∧ T'.2.2.2.2.1 u = T.2.2.2.2.1 u := by
    intro T' hr' hT'
    have e : T'.2.1 = T.2.1 := hr'.1.symm.trans hr.1
    refine ⟨e, xCr_u (hr'.2.2.1 u hu.1 (by omega)).1 hch (fun x hx => ?_) (fun x hx => ?_)⟩
    · have := ((hT'.2.2.1 u hu.1 (by omega)).2 x).mp hx; omega
    · have := kin u hu.1 hu.2 x hx; omega
  have hk3 : 0 ≤ T.2.1 + 1 ∧ T.2.1 + 1 ≤ 300 := by omega
  have fin0 : ∀ V : zW, zA0 W V g u m (T.2.1 + 1) → zro W 96 g u < 0 → po (some (.inl (T.2.1 + 1))) (zuR V 96 (301 * g + u) (T.2.1 + 1)) := by
    intro V hA hneg
    have hnil : T.2.2.2.2.1 u = [] := by
      cases e : T.2.2.2.2.1 u with
      | nil => rfl
      | cons x l =>
        rw [e] at hch
        have := kin u hu.1 hu.2 x (by rw [e]; exact List.mem_cons_self ..)
        have := hch.1
        omega
    refine hp _ _ ⟨fun T' hr' hT' => ?_, ?_, zFr_R hA.2.2.2.2 (by decide)⟩
    · obtain ⟨e1, e2⟩ := uniq T' hr' hT'
      refine ⟨by rw [e1], zAp_T hT' hr' (by omega) (by omega) (by rw [e1]; exact hA.1) (Or.inl ⟨by rw [e2]; exact hnil, fun i => ?_, fun i => ?_⟩)⟩
      · rw [e1]
        show zuI (V.2.1 96) (301 * g + u) (T.2.1 + 1) (301 * g + i) = _
        by_cases c : i = u
        · rw [if_pos c, c, zuI_s]
        · rw [if_neg c, zuI_n (by omega)]; exact hA.2.1 i
      · rw [e1]; exact hA.2.2.1 i
    · refine ⟨fun a ha i hi => ?_, hA.2.2.2.1.2⟩
      rcases ha with rfl | rfl | rfl | rfl | rfl
      · exact hA.2.2.2.1.1 94 (by decide) i hi
      · exact hA.2.2.2.1.1 95 (by decide) i hi
      · show zuI (V.2.1 96) (301 * g + u) (T.2.1 + 1) i = _
        rw [zuI_n (by omega)]; exact hA.2.2.2.1.1 96 (by decide) i hi
      · exact hA.2.2.2.1.1 97 (by decide) i hi
      · exact hA.2.2.2.1.1 98 (by decide) i hi
  have fin1 : ∀ V : zW, zA0 W V g u m (T.2.1 + 1) → ∀ (pre : List Int) (x : Int) (l : List Int), T.2.2.2.2.1 u = pre ++ x :: l → V.2.1 97 (301 * g + x) < 0 → po (some (.inl (T.2.1 + 1))) (zuR V 97 (301 * g + x) (T.2.1 + 1)) := by
    intro V hA pre x l el hneg
    have hx := kin u hu.1 hu.2 x (by rw [el]; exact List.mem_append_right _ (List.mem_cons_self ..))
    have hl : l = [] := by
      have h2 : ∀ (pre : List Int) (a : Int), xCr (zro W 97 g) a (pre ++ x :: l) → xCr (zro W 97 g) (zro W 97 g x) l := by
        intro pre
        induction pre with
        | nil => exact fun a h => h.2
        | cons y p ih => exact fun a h => ih _ h.2
      rw [el] at hch
      have h4 := h2 _ _ hch
      have h5 : zro V 97 g x < 0 := hneg
      rw [hA.2.2.1 x, if_neg (by omega)] at h5
      cases e : l with
      | nil => rfl
      | cons y l' =>
        rw [e] at h4
        have := kin u hu.1 hu.2 y (by rw [el, e]; exact List.mem_append_right _ (List.mem_cons_of_mem _ (List.mem_cons_self ..)))
        have := h4.1
        omega
    subst hl
    refine hp _ _ ⟨fun T' hr' hT' => ?_, ?_, zFr_R hA.2.2.2.2 (by decide)⟩
    · obtain ⟨e1, e2⟩ := uniq T' hr' hT'
      refine ⟨by rw [e1], zAp_T hT' hr' (by omega) (by omega) (by rw [e1]; exact hA.1) (Or.inr ⟨pre, x, by rw [e2]; exact el, fun i => ?_, fun i => ?_⟩)⟩
      · rw [e1]; exact hA.2.1 i
      · rw [e1]
        show zuI (V.2.1 97) (301 * g + x) (T.2.1 + 1) (301 * g + i) = _
        by_cases c : i = x
        · rw [if_pos c, c, zuI_s]
        · rw [if_neg c, zuI_n (by omega)]; exact hA.2.2.1 i
    · refine ⟨fun a ha i hi => ?_, hA.2.2.2.1.2⟩
      rcases ha with rfl | rfl | rfl | rfl | rfl
      · exact hA.2.2.2.1.1 94 (by decide) i hi
      · exact hA.2.2.2.1.1 95 (by decide) i hi
      · exact hA.2.2.2.1.1 96 (by decide) i hi
      · show zuI (V.2.1 97) (301 * g + x) (T.2.1 + 1) i = _
        rw [zuI_n (by omega)]; exact hA.2.2.2.1.1 97 (by decide) i hi
      · exact hA.2.2.2.1.1 98 (by decide) i hi
  have lp94 : ∀ V : zW, zA0 W V g u m (T.2.1 + 1) → ∀ (l : List Int) (K : Nat) (pre : List Int) (x : Int), 60 * l.length + 60 ≤ K → T.2.2.2.2.1 u = pre ++ x :: l → xCr (zro W 97 g) (zro W 97 g x) l → zwp jtb zsh n zm_MTapp po K (lGo ak_ZMTapp 94) 94 [some (.inr (.inr (some (.inl 90)))), some (.inl g), some (.inl u), some (.inl m), some (.inl (T.2.1 + 1)), some (.inl x)] [] V := by
    intro V hA l
    induction l with
    | nil =>
      intro K pre x hK el hc
      have hx := kin u hu.1 hu.2 x (by rw [el]; exact List.mem_append_right _ (List.mem_cons_self ..))
      have e97 : V.2.1 97 (301 * g + x) = zro W 97 g x := by
        have := hA.2.2.1 x
        rwa [if_neg (by omega)] at this
      have hc : zro W 97 g x = -1 := hc
      exact zp_MTapp_94 (by omega) hn ⟨(by omega), ⟨(by omega), ⟨(by omega), ⟨fun c107 => ⟨(by omega), ⟨(by omega), ⟨(by omega), (fin1 V hA pre x [] el c107)⟩⟩⟩, fun c107 => ⟨(by omega), ⟨(by omega), ⟨(by omega), (absurd (by omega) c107)⟩⟩⟩⟩⟩⟩⟩
    | cons y l ih =>
      intro K pre x hK el hc
      rw [List.length_cons] at hK
      have hx := kin u hu.1 hu.2 x (by rw [el]; exact List.mem_append_right _ (List.mem_cons_self ..))
      have hy := kin u hu.1 hu.2 y (by rw [el]; exact List.mem_append_right _ (List.mem_cons_of_mem _ (List.mem_cons_self ..)))
      have e97 : V.2.1 97 (301 * g + x) = zro W 97 g x := by
        have := hA.2.2.1 x
        rwa [if_neg (by omega)] at this
      have ey : zro W 97 g x = y := hc.1
      have nxt94 : ¬ V.2.1 97 (301 * g + x) < 0 → ∀ K, 60 * l.length + 60 ≤ K → zwp jtb zsh n zm_MTapp po K (lGo ak_ZMTapp 94) 94 [some (.inr (.inr (some (.inl 90)))), some (.inl g), some (.inl u), some (.inl m), some (.inl (T.2.1 + 1)), some (.inl (V.2.1 97 (301 * g + x)))] [] V := by
        intro _ K hK
        rw [e97, ey]
        exact ih K (pre ++ [x]) y hK (by rw [el, List.append_assoc]; rfl) hc.2
      exact zp_MTapp_94 (by omega) hn ⟨(by omega), ⟨(by omega), ⟨(by omega), ⟨fun c107 => ⟨(by omega), ⟨(by omega), ⟨(by omega), (fin1 V hA pre x (y :: l) el c107)⟩⟩⟩, fun c107 => ⟨(by omega), ⟨(by omega), ⟨(by omega), (nxt94 c107 _ (by omega))⟩⟩⟩⟩⟩⟩⟩
  have go94 : ∀ V : zW, zA0 W V g u m (T.2.1 + 1) → ¬ zro W 96 g u < 0 → ∀ K : Nat, 20000 ≤ K → ∀ {x : Int}, x = zro W 96 g u → zwp jtb zsh n zm_MTapp po K (lGo ak_ZMTapp 94) 94 [some (.inr (.inr (some (.inl 90)))), some (.inl g), some (.inl u), some (.inl m), some (.inl (T.2.1 + 1)), some (.inl x)] [] V := by
    intro V hA hpos K hK x ex
    cases e : T.2.2.2.2.1 u with
    | nil =>
      rw [e] at hch
      have : zro W 96 g u = -1 := hch
      omega
    | cons y l =>
      rw [e] at hch
      have hlen : l.length ≤ 300 := by
        have hnd := (hT.2.2.1 u hu.1 hu.2).1
        rw [e] at hnd
        refine Nat.le_trans (zLen (N := T.2.1) (by omega) (List.nodup_cons.mp hnd).2 (fun c hc => by have := kin u hu.1 hu.2 c (by rw [e]; exact List.mem_cons_of_mem _ hc); omega)) (by omega)
      have hx : x = y := ex.trans hch.1
      rw [hx]
      exact lp94 V hA l K [] y (by omega) e hch.2
  have h72 : ∀ (K : Nat) (V : zW) (k x : Int), 20100 ≤ K → (k = T.2.1 + 1 ∧ zA0 W V g u m (T.2.1 + 1)) → x = zro W 96 g u → zwp jtb zsh n zm_MTapp po K (lGo ak_ZMTapp 72) 72 [some (.inr (.inr (some (.inl 90)))), some (.inl g), some (.inl u), some (.inl m), some (.inl k), some (.inl x)] [] V := by
    rintro K V k x hK ⟨rfl, hA⟩ ex
    exact zp_MTapp_72 (by omega) hn ⟨fun c74 => (go94 V hA (by rw [ex] at c74; omega) _ (by omega) ex), fun c74 => ⟨(by omega), ⟨(by omega), ⟨(by omega), (fin0 V hA (by rw [ex] at c74; omega))⟩⟩⟩⟩
  have h17 : ∀ (K : Nat) (k : Int) (V : zW) (u5 : Option zv), 20200 ≤ K → k = T.2.1 + 1 → V = zuR W 93 g (W.2.1 93 g + 1) → zwp jtb zsh n zm_MTapp po K (lGo ak_ZMTapp 18) 18 [some (.inr (.inr (some (.inl 90)))), some (.inl g), some (.inl u), some (.inl m), some (.inl k), u5] [] V := by
    intro K k V u5 hK ek hV
    have a0 : ∀ V, V = zuR W 93 g (W.2.1 93 g + 1) → k = T.2.1 + 1 ∧ zA0 W (zuR (zuR (zuR (zuR (zuR (zuR V 96 (((301 * g) + k)) ((-1))) 97 (((301 * g) + k)) ((-1))) 98 (((301 * g) + k)) 0) 100 (((301 * g) + k)) 0) 94 ((301 * g) + k) u) 95 ((301 * g) + k) m) g u m (T.2.1 + 1) := by
      intro V hV
      refine ⟨ek, ⟨?_, ?_, ?_, ?_, ?_, ?_⟩, fun i => ?_, fun i => ?_, ?_, ?_⟩
      · rw [hV]; show zuI (W.2.1 93) g (W.2.1 93 g + 1) = _; rw [hN]
      · rw [hV, ek]; rfl
      · rw [hV, ek]; rfl
      · rw [hV, ek]; rfl
      · rw [hV]; rfl
      · rw [hV]; rfl
      · rw [hV, ek]; exact zro_u rfl i
      · rw [hV, ek]; exact zro_u rfl i
      · refine ⟨fun a ha i hi => ?_, fun i hi => ?_, by rw [hV]; rfl, by rw [hV]; rfl⟩
        · rw [hV]
          rcases ha with rfl | rfl | rfl | rfl | rfl <;> exact zuI_n (by omega)
        · rw [hV]; exact zuI_n hi
      · rw [hV]; exact (zFr_R (zFr_R (zFr_R (zFr_R (zFr_R (zFr_R (zFr_R zFr_0 (by decide)) (by decide)) (by decide)) (by decide)) (by decide)) (by decide)) (by decide))
    exact zp_MTapp_18 (by omega) hn ⟨(by omega), ⟨(by omega), ⟨(by omega), ⟨(by omega), ⟨(by omega), ⟨(by omega), ⟨(by omega), ⟨(by omega), ⟨(by omega), ⟨(by omega), ⟨(by omega), ⟨(by omega), (h72 _ (zuR (zuR (zuR (zuR (zuR (zuR V 96 (((301 * g) + k)) ((-1))) 97 (((301 * g) + k)) ((-1))) 98 (((301 * g) + k)) 0) 100 (((301 * g) + k)) 0) 94 ((301 * g) + k) u) 95 ((301 * g) + k) m) _ _ (by omega) (a0 V hV) (by show zuI (V.2.1 96) _ _ _ = _; rw [hV]; show zuI (W.2.1 96) _ _ _ = _; rw [zuI_n (by omega)]; rfl))⟩⟩⟩⟩⟩⟩⟩⟩⟩⟩⟩⟩
  exact zp_MTapp_0 (by omega) hn ⟨(by omega), ⟨(by omega), ⟨(by omega), ⟨(by omega), (h17 _ (zuI (W.2.1 93) g ((W.2.1 93 g) + 1) g) (zuR W 93 g ((W.2.1 93 g) + 1)) _ (by omega) (by rw [zuI_s, hN]) rfl)⟩⟩⟩⟩
end
section
/-! trees: depth, and what is behind a node, by the abstract tree -/
theorem zHas_m {l : Launch} {E : jE} {n : Nat} {Y : jY} {st : Bool} {k f : Nat} {rm : Room} {P Q : List zv → zW → zPo → Prop} (h : zHas l E jcl jtb lw_tbl zsh n (Y, st, k, f, rm, P)) (hm : ∀ vz W po, Q vz W po → P vz W po) : zHas l E jcl jtb lw_tbl zsh n (Y, st, k, f, rm, Q) := ⟨h.1, fun vz W po a b c => h.2 vz W po a b (hm vz W po c)⟩
theorem trD_c {pa pa' ld ld' : Int → Int} {N : Int} (hP : trP pa N) (h1 : ∀ k, 1 ≤ k → k ≤ N → pa' k = pa k) (h2 : ∀ k, 1 ≤ k → k ≤ N → (ld' (pa k) = k ↔ ld (pa k) = k)) : ∀ (n : Nat) (k : Int), k ≤ N → trD pa' ld' n k = trD pa ld n k
  | 0, _, _ => rfl
  | n + 1, k, h => by
    show (if k ≤ 0 then 0 else trD pa' ld' n (pa' k) + (if ld' (pa' k) = k then 0 else 1)) = (if k ≤ 0 then 0 else trD pa ld n (pa k) + (if ld (pa k) = k then 0 else 1))
    by_cases c : k ≤ 0
    · rw [if_pos c, if_pos c]
    · have hh := hP k (by omega) h
      rw [if_neg c, if_neg c, h1 k (by omega) h, trD_c hP h1 h2 n (pa k) (by omega)]
      by_cases d : ld (pa k) = k
      · rw [if_pos d, if_pos ((h2 k (by omega) h).mpr d)]
      · rw [if_neg d, if_neg (fun z => d ((h2 k (by omega) h).mp z))]
theorem trB_c {pa pa' : Int → Int} {u N : Int} (u0 : 0 ≤ u) (hP : trP pa N) (h1 : ∀ k, 1 ≤ k → k ≤ N → pa' k = pa k) : ∀ (n : Nat) (k : Int), k ≤ N → (trB pa' u n k ↔ trB pa u n k)
  | 0, _, _ => Iff.rfl
  | n + 1, k, h => by
    show (k = u ∨ (u < k ∧ trB pa' u n (pa' k))) ↔ (k = u ∨ (u < k ∧ trB pa u n (pa k)))
    by_cases c : u < k
    · have hh := hP k (by omega) h
      rw [h1 k (by omega) h, trB_c u0 hP h1 n (pa k) (by omega)]
    · constructor
      · rintro (z | z)
        · exact Or.inl z
        · exact absurd z.1 c
      · rintro (z | z)
        · exact Or.inl z
        · exact absurd z.1 c
theorem zRt_P {W : zW} {g : Int} {T : xT} (hr : zRt W g T) (hT : xTok T) : trP (zro W 94 g) T.2.1 := by
  intro k k0 k1
  rw [(hr.2.1 k k0 k1).1]
  exact hT.2.1.2.1 k k0 k1
theorem zRt_L {W : zW} {g : Int} {T : xT} (hr : zRt W g T) (hT : xTok T) {i k : Int} (h0 : 0 ≤ i) (h1 : i ≤ T.2.1) (hk : 1 ≤ k) : zro W 96 g i = k ↔ xLd T.2.2.2.2.1 i = k := by
  have hc := (hr.2.2.1 i h0 h1).1
  unfold xLd
  cases e : T.2.2.2.2.1 i with
  | nil =>
    rw [e] at hc
    have hc : zro W 96 g i = -1 := hc
    rw [hc]
    show (-1 : Int) = k ↔ (0 : Int) = k
    omega
  | cons x l =>
    rw [e] at hc
    rw [hc.1]
    exact Iff.rfl
theorem zRt_D {W : zW} {g : Int} {T : xT} (hr : zRt W g T) (hT : xTok T) {k : Int} (h1 : k ≤ T.2.1) : trE (zro W 94 g) (zro W 96 g) k = trE T.2.2.1 (xLd T.2.2.2.2.1) k := trD_c (N := T.2.1) hT.2.1.2.1 (fun k k0 k1 => (hr.2.1 k k0 k1).1) (fun k k0 k1 => by have := hT.2.1.2.1 k k0 k1; exact zRt_L hr hT this.1 (by omega) k0) _ k h1
theorem zRt_W {W : zW} {g : Int} {T : xT} (hr : zRt W g T) (hT : xTok T) {u k : Int} (u0 : 0 ≤ u) (h1 : k ≤ T.2.1) : trW (zro W 94 g) u k ↔ trW T.2.2.1 u k := by
  constructor
  · rintro ⟨n, h⟩
    exact ⟨n, (trB_c u0 hT.2.1.2.1 (fun k k0 k1 => (hr.2.1 k k0 k1).1) n k h1).mp h⟩
  · rintro ⟨n, h⟩
    exact ⟨n, (trB_c u0 hT.2.1.2.1 (fun k k0 k1 => (hr.2.1 k k0 k1).1) n k h1).mpr h⟩
theorem zRt_O {W : zW} {g : Int} {T : xT} (hr : zRt W g T) (hT : xTok T) : xOk (zSt W g) (zro W 94 g) (zro W 95 g) T.2.1 ∧ ∀ k, k ≤ T.2.1 → xPo (zSt W g) (zro W 94 g) (zro W 95 g) k = xPo T.1 T.2.2.1 T.2.2.2.1 k := by
  have e : ∀ k, k ≤ T.2.1 → xPo (zSt W g) (zro W 94 g) (zro W 95 g) k = xPo T.1 T.2.2.1 T.2.2.2.1 k := by
    intro k hk
    rw [hr.2.2.2.1]
    exact xPo_c hT.2.1.2.1 (fun k k0 k1 => (hr.2.1 k k0 k1).1) (fun k k0 k1 => (hr.2.1 k k0 k1).2) hk
  refine ⟨⟨by rw [hr.2.2.2.1]; exact hT.2.1.1, zRt_P hr hT, fun k k0 k1 => ?_⟩, e⟩
  have h := hT.2.1.2.1 k k0 k1
  rw [(hr.2.1 k k0 k1).1, (hr.2.1 k k0 k1).2, e _ (by omega)]
  exact hT.2.1.2.2 k k0 k1
theorem xFr_c {mv mv' : Int → Int} {m : Int} : ∀ {l : List Int}, (∀ x ∈ l, mv' x = mv x) → xFr mv' m l = xFr mv m l
  | [], _ => rfl
  | x :: l, h => by
    show (if mv' x = m then x else xFr mv' m l) = (if mv x = m then x else xFr mv m l)
    rw [h x (List.mem_cons_self ..), xFr_c (l := l) (fun y hy => h y (List.mem_cons_of_mem _ hy))]
theorem xFr_m {mv : Int → Int} {m : Int} : ∀ {l : List Int}, 0 ≤ xFr mv m l → xFr mv m l ∈ l
  | [], h => absurd (show (0 : Int) ≤ -1 from h) (by decide)
  | x :: l, h => by
    show (if mv x = m then x else xFr mv m l) ∈ x :: l
    have h : 0 ≤ (if mv x = m then x else xFr mv m l) := h
    by_cases c : mv x = m
    · rw [if_pos c]; exact List.mem_cons_self ..
    · rw [if_neg c] at h ⊢; exact List.mem_cons_of_mem _ (xFr_m h)
/-- the node with a move behind another one, or -1 -/
noncomputable def xCw (T : xT) (u m : Int) : Int := xFr T.2.2.2.1 m (T.2.2.2.2.1 u)
theorem zRt_k {W : zW} {g : Int} {T : xT} (hr : zRt W g T) (hT : xTok T) {u : Int} (h0 : 0 ≤ u) (h1 : u ≤ T.2.1) : ∀ c ∈ T.2.2.2.2.1 u, 1 ≤ c ∧ c ≤ T.2.1 ∧ T.2.2.1 c = u := fun c hc => ((hT.2.2.1 u h0 h1).2 c).mp hc
theorem zRt_F {W : zW} {g : Int} {T : xT} (hr : zRt W g T) (hT : xTok T) {u m : Int} (h0 : 0 ≤ u) (h1 : u ≤ T.2.1) : xFr (zro W 95 g) m (T.2.2.2.2.1 u) = xCw T u m := xFr_c (fun x hx => by have := zRt_k hr hT h0 h1 x hx; exact (hr.2.1 x this.1 this.2.1).2)
/-- a node more keeps a tree good, if its move is legal there, is none of the others', and it is not too deep -/
theorem xApp_ok {T : xT} {u m : Int} (hT : xTok T) (h3 : T.2.1 < 300) (hu : 0 ≤ u ∧ u ≤ T.2.1) (hl : zLg (xPo T.1 T.2.2.1 T.2.2.2.1 u).1 m) (hd : trE T.2.2.1 (xLd T.2.2.2.2.1) u + (if T.2.2.2.2.1 u = [] then 0 else 1) ≤ 6) : xTok (xApp T u m) := by
  have hN := hT.1.1
  have pc : ∀ k, 1 ≤ k → k ≤ T.2.1 → zuI T.2.2.1 (T.2.1 + 1) u k = T.2.2.1 k := fun k k0 k1 => zuI_n (by omega)
  have mc : ∀ k, 1 ≤ k → k ≤ T.2.1 → zuI T.2.2.2.1 (T.2.1 + 1) m k = T.2.2.2.1 k := fun k k0 k1 => zuI_n (by omega)
  have hP : trP (zuI T.2.2.1 (T.2.1 + 1) u) (T.2.1 + 1) := by
    intro k k0 k1
    by_cases c : k = T.2.1 + 1
    · rw [c, zuI_s]; omega
    · rw [zuI_n c]; exact hT.2.1.2.1 k k0 (by omega)
  have ep : ∀ k, k ≤ T.2.1 → xPo T.1 (zuI T.2.2.1 (T.2.1 + 1) u) (zuI T.2.2.2.1 (T.2.1 + 1) m) k = xPo T.1 T.2.2.1 T.2.2.2.1 k := fun k hk => xPo_c hT.2.1.2.1 pc mc hk
  have hdc : ∀ k, k ≤ T.2.1 → trE (zuI T.2.2.1 (T.2.1 + 1) u) (xLd (xApp T u m).2.2.2.2.1) k = trE T.2.2.1 (xLd T.2.2.2.2.1) k := by
    intro k hk
    refine trD_c (N := T.2.1) hT.2.1.2.1 pc (fun j j0 j1 => ?_) _ k hk
    have hj := hT.2.1.2.1 j j0 j1
    unfold xLd xApp
    dsimp only
    by_cases c : T.2.2.1 j = u
    · rw [if_pos c, c]
      cases e : T.2.2.2.2.1 u with
      | nil =>
        exfalso
        have := ((hT.2.2.1 u hu.1 hu.2).2 j).mpr ⟨j0, j1, c⟩
        rw [e] at this
        cases this
      | cons x l => exact Iff.rfl
    · rw [if_neg c, if_neg (by omega)]
  refine ⟨⟨by show 0 ≤ T.2.1 + 1; omega, by show T.2.1 + 1 ≤ 300; omega⟩, ⟨hT.2.1.1, hP, fun k k0 k1 => ?_⟩, fun i i0 i1 => ?_, fun i i0 i1 => ?_, fun k k0 k1 => ?_⟩
  · have k1 : k ≤ T.2.1 + 1 := k1
    show zLg (xPo T.1 (zuI T.2.2.1 (T.2.1 + 1) u) (zuI T.2.2.2.1 (T.2.1 + 1) m) (zuI T.2.2.1 (T.2.1 + 1) u k)).1 (zuI T.2.2.2.1 (T.2.1 + 1) m k)
    by_cases c : k = T.2.1 + 1
    · rw [c, zuI_s, zuI_s, ep u hu.2]; exact hl
    · have hp := hT.2.1.2.1 k k0 (by omega)
      rw [zuI_n c, zuI_n c, ep _ (by omega)]
      exact hT.2.1.2.2 k k0 (by omega)
  · have i1 : i ≤ T.2.1 + 1 := i1
    show (if i = u then T.2.2.2.2.1 u ++ [T.2.1 + 1] else if i = T.2.1 + 1 then [] else T.2.2.2.2.1 i).Nodup ∧ ∀ c, c ∈ (if i = u then T.2.2.2.2.1 u ++ [T.2.1 + 1] else if i = T.2.1 + 1 then [] else T.2.2.2.2.1 i) ↔ (1 ≤ c ∧ c ≤ T.2.1 + 1 ∧ zuI T.2.2.1 (T.2.1 + 1) u c = i)
    by_cases c : i = u
    · rw [if_pos c, c]
      obtain ⟨n1, n2⟩ := hT.2.2.1 u hu.1 hu.2
      constructor
      · refine List.nodup_append.mpr ⟨n1, List.nodup_cons.mpr ⟨List.not_mem_nil, List.nodup_nil⟩, fun a ha b hb => ?_⟩
        have := (n2 a).mp ha
        rw [List.mem_singleton] at hb
        omega
      · intro d
        rw [List.mem_append, List.mem_singleton, n2 d]
        by_cases e : d = T.2.1 + 1
        · rw [e, zuI_s]
          constructor
          · intro _; exact ⟨by omega, by omega, rfl⟩
          · intro _; exact Or.inr rfl
        · rw [zuI_n e]
          constructor
          · rintro (z | z)
            · exact ⟨z.1, by omega, z.2.2⟩
            · exact absurd z e
          · intro z; exact Or.inl ⟨z.1, by omega, z.2.2⟩
    · rw [if_neg c]
      by_cases d : i = T.2.1 + 1
      · rw [if_pos d]
        refine ⟨List.nodup_nil, fun x => ⟨fun h => absurd h List.not_mem_nil, fun h => ?_⟩⟩
        exfalso
        have h3 := hP x h.1 h.2.1
        omega
      · rw [if_neg d]
        obtain ⟨n1, n2⟩ := hT.2.2.1 i i0 (by omega)
        refine ⟨n1, fun x => ?_⟩
        rw [n2 x]
        by_cases e : x = T.2.1 + 1
        · rw [e, zuI_s]
          constructor
          · intro z; omega
          · intro z; omega
        · rw [zuI_n e]
          constructor
          · intro z; exact ⟨z.1, by omega, z.2.2⟩
          · intro z; exact ⟨z.1, by omega, z.2.2⟩
  · have i1 : i ≤ T.2.1 + 1 := i1
    show 0 ≤ zuI T.2.2.2.2.2 (T.2.1 + 1) 0 i ∧ zuI T.2.2.2.2.2 (T.2.1 + 1) 0 i ≤ 4
    by_cases c : i = T.2.1 + 1
    · rw [c, zuI_s]; decide
    · rw [zuI_n c]; exact hT.2.2.2.1 i i0 (by omega)
  · have k1 : k ≤ T.2.1 + 1 := k1
    by_cases c : k = T.2.1 + 1
    · show trE (zuI T.2.2.1 (T.2.1 + 1) u) (xLd (xApp T u m).2.2.2.2.1) k ≤ 6
      rw [tr_1 hP k0 k1, c, zuI_s, hdc u hu.2]
      have el : xLd (xApp T u m).2.2.2.2.1 u = (T.2.2.2.2.1 u ++ [T.2.1 + 1]).headD 0 := by
        show (if u = u then T.2.2.2.2.1 u ++ [T.2.1 + 1] else _).headD 0 = _
        rw [if_pos rfl]
      rw [el]
      cases e : T.2.2.2.2.1 u with
      | nil =>
        rw [e, if_pos rfl] at hd
        show _ + (if T.2.1 + 1 = T.2.1 + 1 then 0 else 1) ≤ 6
        rw [if_pos rfl]; exact hd
      | cons x l =>
        rw [e, if_neg (by intro h; cases h)] at hd
        have hx := ((hT.2.2.1 u hu.1 hu.2).2 x).mp (by rw [e]; exact List.mem_cons_self ..)
        show _ + (if x = T.2.1 + 1 then 0 else 1) ≤ 6
        rw [if_neg (by omega)]; exact hd
    · show trE (zuI T.2.2.1 (T.2.1 + 1) u) (xLd (xApp T u m).2.2.2.2.1) k ≤ 6
      rw [hdc k (by omega)]
      exact hT.2.2.2.2 k k0 (by omega)
end
section
/-! the reference, Texts: add -/
noncomputable def y_MT_isLegal : jY := (⟨"ChessHouseModel$Texts", "isLegal", "(I)Z"⟩, prog_18_method_83_code, 4, (some .boolean))
theorem m_MT_isLegal : jmth lw_tbl y_MT_isLegal 1 := ⟨jTA_in (wi := 2793) (jtF_ok rfl) rfl, jTA_in (wi := 315) (jtF_ok rfl) rfl, by decide, by decide, by decide +kernel⟩
theorem i_MT_isLegal : Jvm.Cond.instanceMethod y_MT_isLegal.1 ∈ jTA lw_tbl := jTA_in (wi := 2792) (jtF_ok rfl) rfl
theorem e_MT_isLegal : Jvm.Cond.selects y_MT_isLegal.1.cls y_MT_isLegal.1 y_MT_isLegal.1 ∈ jTA lw_tbl := jTA_in (wi := 212) (jtF_ok rfl) rfl
noncomputable def ak_ZMTisL : List jI := [(.iconst 0, 1, (0, 0, 0, 0, 0)), (.istore_n 2, 1, (2, 0, 0, 0, 0)), (.iconst 0, 1, (0, 0, 0, 0, 0)), (.istore_n 3, 1, (3, 0, 0, 0, 0)), (.iload_n 3, 1, (3, 0, 0, 0, 0)), (.aload_n 0, 1, (0, 0, 0, 0, 0)), (.getfield 171, 3, (12, 33, 2071, 0, 0)), (.if_icmp .ge 29, 3, (38, 0, 0, 0, 0)), (.iload_n 2, 1, (2, 0, 0, 0, 0)), (.ifCond .ne 13, 3, (26, 0, 0, 0, 0)), (.aload_n 0, 1, (0, 0, 0, 0, 0)), (.getfield 80, 3, (12, 32, 2069, 0, 0)), (.iload_n 3, 1, (3, 0, 0, 0, 0)), (.iaload, 1, (0, 0, 0, 0, 0)), (.iload_n 1, 1, (1, 0, 0, 0, 0)), (.if_icmp .ne 7, 3, (30, 0, 0, 0, 0)), (.iconst 1, 1, (0, 0, 0, 1, 0)), (.goto 4, 3, (31, 0, 0, 0, 0)), (.iconst 0, 1, (0, 0, 0, 0, 0)), (.istore_n 2, 1, (2, 0, 0, 0, 0)), (.iinc 3 1, 3, (0, 0, 0, 1, 0)), (.goto (-31), 3, (4, 0, 0, 0, 0)), (.iload_n 2, 1, (2, 0, 0, 0, 0)), (.ireturn, 1, (0, 0, 0, 0, 0))]
theorem ao_ZMTisL : jokLG jtF lk_MT "ChessHouseModel$Texts" jcl jtb 4 prog_18_method_83_code 0 ak_ZMTisL = true := by decide +kernel
noncomputable def zm_MTisL : zM := (some .boolean, { frames := 0, cells := 0, slots := 0, locals := 0 }, ([], []), [], ak_ZMTisL)
noncomputable def zc_MTisL (vals : List zv) (W : zW) (post : zPo) : Prop := ∃ x : Int, vals = [.inr (.inr (some (.inl 90))), .inl (x)] ∧ (hqE (zLg (zQ W)) (W.2.1 113) 0 (W.1 90 33) ∧ W.1 90 33 ≤ 2048) ∧ ∀ r : Int, (xBl r (zLg (zQ W) x)) → post (some (.inl r)) W
set_option maxRecDepth 8000 in
theorem zp_MTisL_0 {n K : Nat} {W : zW} {post : zPo} {x : Int} {u2 u3 : Option zv} (hK : 4 ≤ K) (hn : 142 ≤ n) (h : zwp jtb zsh n zm_MTisL post (K - 4) (lGo ak_ZMTisL 4) 4 [some (.inr (.inr (some (.inl 90)))), some (.inl (x)), some (.inl (0)), some (.inl (0))] [] W) : zwp jtb zsh n zm_MTisL post K (lGo ak_ZMTisL 0) 0 [some (.inr (.inr (some (.inl 90)))), some (.inl (x)), u2, u3] [] W := by
  obtain ⟨kk__, rfl⟩ : ∃ kk__, K = kk__ + 4 := ⟨K - 4, by omega⟩
  exact (show zwp jtb zsh n zm_MTisL post (kk__ + 0) (lGo ak_ZMTisL 4) 4 [some (.inr (.inr (some (.inl 90)))), some (.inl (x)), some (.inl (0)), some (.inl (0))] [] W from h)
set_option maxRecDepth 8000 in
theorem zp_MTisL_4 {n K : Nat} {W : zW} {post : zPo} {x b i : Int}  (hK : 17 ≤ K) (hn : 142 ≤ n) (h : ((W.1 90 33) ≤ i → (b = 0 ∨ b = 1) ∧ post (some (.inl (b))) W) ∧ (¬ (W.1 90 33) ≤ i → (¬ b = 0 → (-2147483648 ≤ i + 1 ∧ i + 1 ≤ 2147483647) ∧ zwp jtb zsh n zm_MTisL post (K - 11) (lGo ak_ZMTisL 4) 4 [some (.inr (.inr (some (.inl 90)))), some (.inl (x)), some (.inl (1)), some (.inl (i + 1))] [] W) ∧ (b = 0 → (0 ≤ i ∧ i < 2048) ∧ (¬ (W.2.1 113 i) = x → (-2147483648 ≤ i + 1 ∧ i + 1 ≤ 2147483647) ∧ zwp jtb zsh n zm_MTisL post (K - 16) (lGo ak_ZMTisL 4) 4 [some (.inr (.inr (some (.inl 90)))), some (.inl (x)), some (.inl (0)), some (.inl (i + 1))] [] W) ∧ ((W.2.1 113 i) = x → (-2147483648 ≤ i + 1 ∧ i + 1 ≤ 2147483647) ∧ zwp jtb zsh n zm_MTisL post (K - 17) (lGo ak_ZMTisL 4) 4 [some (.inr (.inr (some (.inl 90)))), some (.inl (x)), some (.inl (1)), some (.inl (i + 1))] [] W)))) : zwp jtb zsh n zm_MTisL post K (lGo ak_ZMTisL 4) 4 [some (.inr (.inr (some (.inl 90)))), some (.inl (x)), some (.inl (b)), some (.inl (i))] [] W := by
  obtain ⟨kk__, rfl⟩ : ∃ kk__, K = kk__ + 17 := ⟨K - 17, by omega⟩
  exact (show 90 < n ∧ 12 = 12 ∧ ((W.1 90 33) ≤ i → 1 = 1 ∧ (b = 0 ∨ b = 1) ∧ post (some (.inl (b))) W) ∧ (¬ (W.1 90 33) ≤ i → (¬ b = 0 → (-2147483648 ≤ i + 1 ∧ i + 1 ≤ 2147483647) ∧ zwp jtb zsh n zm_MTisL post (kk__ + 6) (lGo ak_ZMTisL 4) 4 [some (.inr (.inr (some (.inl 90)))), some (.inl (x)), some (.inl (1)), some (.inl (i + 1))] [] W) ∧ (b = 0 → 90 < n ∧ 12 = 12 ∧ 113 < n ∧ FieldType.int = FieldType.int ∧ (0 ≤ i ∧ i < 2048) ∧ (¬ (W.2.1 113 i) = x → (-2147483648 ≤ i + 1 ∧ i + 1 ≤ 2147483647) ∧ zwp jtb zsh n zm_MTisL post (kk__ + 1) (lGo ak_ZMTisL 4) 4 [some (.inr (.inr (some (.inl 90)))), some (.inl (x)), some (.inl (0)), some (.inl (i + 1))] [] W) ∧ ((W.2.1 113 i) = x → (-2147483648 ≤ i + 1 ∧ i + 1 ≤ 2147483647) ∧ zwp jtb zsh n zm_MTisL post (kk__ + 0) (lGo ak_ZMTisL 4) 4 [some (.inr (.inr (some (.inl 90)))), some (.inl (x)), some (.inl (1)), some (.inl (i + 1))] [] W))) from ⟨(Nat.lt_of_lt_of_le (by decide) hn), rfl, ⟨fun c9_3 => ⟨rfl, ((h).1 c9_3)⟩, fun c9_3 => ⟨fun c13_5 => ⟨(((((h).2 c9_3)).1 c13_5)).1, (((((h).2 c9_3)).1 c13_5)).2⟩, fun c13_5 => ⟨(Nat.lt_of_lt_of_le (by decide) hn), rfl, ⟨(Nat.lt_of_lt_of_le (by decide) hn), rfl, (((((h).2 c9_3)).2 c13_5)).1, (have h := (((((h).2 c9_3)).2 c13_5)).2; ⟨fun c23_11 => ⟨(((h).1 c23_11)).1, (((h).1 c23_11)).2⟩, fun c23_11 => ⟨(((h).2 c23_11)).1, (((h).2 c23_11)).2⟩⟩)⟩⟩⟩⟩⟩)
theorem zSome {g : Int → Int} {x b d i : Int} (h : xBl b (∃ j, 0 ≤ j ∧ j < i ∧ g j = x)) (i0 : 0 ≤ i) (hd : (d = 1 ∧ (¬ b = 0 ∨ g i = x)) ∨ (d = 0 ∧ b = 0 ∧ ¬ g i = x)) : xBl d (∃ j, 0 ≤ j ∧ j < i + 1 ∧ g j = x) := by
  rcases hd with ⟨e, z | z⟩ | ⟨e, z1, z2⟩
  · obtain ⟨j, j0, j1, j2⟩ := xBl_1 h z
    exact Or.inl ⟨e, j, j0, by omega, j2⟩
  · exact Or.inl ⟨e, i, i0, by omega, z⟩
  · refine Or.inr ⟨e, ?_⟩
    rintro ⟨j, j0, j1, j2⟩
    by_cases c : j = i
    · rw [c] at j2; exact z2 j2
    · exact xBl_0 h z1 ⟨j, j0, by omega, j2⟩
set_option maxRecDepth 100000 in
theorem zk_MTisL {l : Launch} {E : jE} {n : Nat} (hn : 142 ≤ n) : zHas l E jcl jtb lw_tbl zsh n (y_MT_isLegal, false, 2, 12, { frames := 0, cells := 0, slots := 0, locals := 0 }, zc_MTisL) := by
  refine ⟨⟨rfl, rfl, ⟨show 1 ≤ 2 by decide, m_MT_isLegal, i_MT_isLegal, e_MT_isLegal, fun _ => ⟨_, rfl, rfl⟩⟩⟩, ?_⟩
  rintro vz W po hO hW ⟨x, rfl, hq, hp⟩
  refine zmet (m := zm_MTisL) rfl (by decide) (fun _ _ => jtF_ok) lo_MT ao_ZMTisL jC (fun q h => by cases h) (fun q h => by cases h) (fun q h => by cases h) (Nat.le_of_ble_eq_true rfl) hO hW (2048 * 40 + 200) ?_
  have hN := hq.1.1
  have fin : ∀ {b i : Int}, i = W.1 90 33 → xBl b (∃ j, 0 ≤ j ∧ j < i ∧ W.2.1 113 j = x) → xBl b (zLg (zQ W) x) := by
    rintro b i rfl h
    rcases h with ⟨e, j, j0, j1, j2⟩ | ⟨e, z⟩
    · exact Or.inl ⟨e, j2 ▸ hq.1.2.1 j j0 j1⟩
    · exact Or.inr ⟨e, fun y => z (hq.1.2.2.1 x y)⟩
  have lp : ∀ (m K : Nat) (b i : Int), 40 * m + 40 ≤ K → W.1 90 33 - i ≤ m → 0 ≤ i → i ≤ W.1 90 33 → xBl b (∃ j, 0 ≤ j ∧ j < i ∧ W.2.1 113 j = x) → zwp jtb zsh n zm_MTisL po K (lGo ak_ZMTisL 4) 4 [some (.inr (.inr (some (.inl 90)))), some (.inl x), some (.inl b), some (.inl i)] [] W := by
    intro m
    induction m with
    | zero =>
      intro K b i hK hm i0 i1 hI
      have c9 : W.1 90 33 ≤ i := by omega
      exact zp_MTisL_4 (by omega) hn ⟨fun _ => ⟨xBl_01 hI, hp b (fin (by omega) hI)⟩, fun z => absurd c9 z⟩
    | succ m ih =>
      intro K b i hK hm i0 i1 hI
      exact zp_MTisL_4 (by omega) hn ⟨fun c9 => ⟨(xBl_01 hI), (hp b (fin (by omega) hI))⟩, fun c9 => ⟨fun c13 => ⟨(by omega), (ih _ 1 (i + 1) (by omega) (by omega) (by omega) (by omega) (zSome hI i0 (by grind)))⟩, fun c13 => ⟨(by omega), ⟨fun c23 => ⟨(by omega), (ih _ 0 (i + 1) (by omega) (by omega) (by omega) (by omega) (zSome hI i0 (by grind)))⟩, fun c23 => ⟨(by omega), (ih _ 1 (i + 1) (by omega) (by omega) (by omega) (by omega) (zSome hI i0 (by grind)))⟩⟩⟩⟩⟩
  exact zp_MTisL_0 (by omega) hn (lp 2048 _ 0 0 (by omega) (by omega) (by omega) (by omega) (Or.inr ⟨rfl, fun ⟨i, i0, i1, _⟩ => by omega⟩))
noncomputable def zc_MTcw (vals : List zv) (W : zW) (post : zPo) : Prop := ∃ g u m : Int, vals = [.inr (.inr (some (.inl 90))), .inl (g), .inl (u), .inl (m)] ∧ ((0 ≤ g ∧ g ≤ 1) ∧ ∃ T, zRt W g T ∧ xTok T ∧ (0 ≤ u ∧ u ≤ T.2.1)) ∧ ∀ r : Int, (∀ T, zRt W g T → xTok T → r = xCw T u m) → post (some (.inl r)) W
theorem zk_MTcw {l : Launch} {E : jE} {n : Nat} (hn : 142 ≤ n) : zHas l E jcl jtb lw_tbl zsh n (y_MT_childWith, false, 4, 12, { frames := 0, cells := 0, slots := 0, locals := 0 }, zc_MTcw) := by
  refine zHas_m (zk_childWith hn) ?_
  rintro vz W po ⟨g, u, m, rfl, ⟨hg, T, hr, hT, hu⟩, hp⟩
  have hk := zRt_k hr hT hu.1 hu.2
  have h3 := hT.1.2
  refine ⟨g, u, m, T.2.2.2.2.1 u, rfl, hg.1, hg.2, hu.1, by omega, (hr.2.2.1 u hu.1 hu.2).1, fun x hx => by have := hk x hx; omega, ?_⟩
  rw [zRt_F hr hT hu.1 hu.2]
  refine hp _ (fun T' hr' hT' => ?_)
  have e : T'.2.1 = T.2.1 := hr'.1.symm.trans hr.1
  rw [← zRt_F hr hT hu.1 hu.2, ← zRt_F hr' hT' hu.1 (by omega)]
  rw [xCr_u (hr.2.2.1 u hu.1 hu.2).1 (hr'.2.2.1 u hu.1 (by omega)).1 (fun x hx => by have := hk x hx; omega) (fun x hx => by have := zRt_k hr' hT' hu.1 (by omega) x hx; omega)]
noncomputable def zc_MTdp (vals : List zv) (W : zW) (post : zPo) : Prop := ∃ g u : Int, vals = [.inr (.inr (some (.inl 90))), .inl (g), .inl (u)] ∧ ((0 ≤ g ∧ g ≤ 1) ∧ ∃ T, zRt W g T ∧ xTok T ∧ (0 ≤ u ∧ u ≤ T.2.1)) ∧ ∀ r : Int, (∀ T, zRt W g T → xTok T → r = trE T.2.2.1 (xLd T.2.2.2.2.1) u) → post (some (.inl r)) W
theorem zk_MTdp {l : Launch} {E : jE} {n : Nat} (hn : 142 ≤ n) : zHas l E jcl jtb lw_tbl zsh n (y_MT_deepOf, false, 3, 12, { frames := 1, cells := 0, slots := 0, locals := 22 }, zc_MTdp) := by
  refine zHas_m (zk_deepOf hn) ?_
  rintro vz W po ⟨g, u, rfl, ⟨hg, T, hr, hT, hu⟩, hp⟩
  refine ⟨g, u, T.2.1, rfl, hg.1, hg.2, hT.1.2, zRt_P hr hT, hu.1, hu.2, hp _ (fun T' hr' hT' => ?_)⟩
  have e : T'.2.1 = T.2.1 := hr'.1.symm.trans hr.1
  exact zRt_D hr' hT' (by omega)
noncomputable def zc_MTbh (vals : List zv) (W : zW) (post : zPo) : Prop := ∃ u k : Int, vals = [.inr (.inr (some (.inl 90))), .inl (u), .inl (k)] ∧ ((0 ≤ W.1 90 5 ∧ W.1 90 5 ≤ 1) ∧ 0 ≤ k ∧ ∃ T, zRt W (W.1 90 5) T ∧ xTok T ∧ (0 ≤ u ∧ u ≤ T.2.1)) ∧ ∀ r : Int, (∀ T, zRt W (W.1 90 5) T → xTok T → xBl r (trW T.2.2.1 k u)) → post (some (.inl r)) W
theorem zk_MTbh {l : Launch} {E : jE} {n : Nat} (hn : 142 ≤ n) : zHas l E jcl jtb lw_tbl zsh n (y_MT_isBehind, false, 3, 12, { frames := 0, cells := 0, slots := 0, locals := 0 }, zc_MTbh) := by
  refine zHas_m (zk_isBehind hn) ?_
  rintro vz W po ⟨u, k, rfl, ⟨hg, hk, T, hr, hT, hu⟩, hp⟩
  refine ⟨u, k, T.2.1, rfl, hg.1, hg.2, hk, hT.1.2, zRt_P hr hT, hu.1, hu.2, fun r hx => hp r (fun T' hr' hT' => ?_)⟩
  have e : T'.2.1 = T.2.1 := hr'.1.symm.trans hr.1
  rcases hx with ⟨a, b⟩ | ⟨a, b⟩
  · exact Or.inl ⟨a, (zRt_W hr' hT' hk (by omega)).mp b⟩
  · exact Or.inr ⟨a, fun z => b ((zRt_W hr' hT' hk (by omega)).mpr z)⟩
/-- a move is played from a node: the tree, the node, 1 if there is too much -/
noncomputable def xPl (T : xT) (h m : Int) : xT × Int × Int := if 0 ≤ xCw T h m then (T, xCw T h m, 0) else if T.2.1 = 300 ∨ 6 < trE T.2.2.1 (xLd T.2.2.2.2.1) h + (if T.2.2.2.2.1 h = [] then 0 else 1) then (T, h, 1) else (xApp T h m, T.2.1 + 1, 0)
/-- the reference stands at a node of its game -/
noncomputable def zHe (W : zW) (T : xT) (h : Int) : Prop := (0 ≤ W.1 90 5 ∧ W.1 90 5 ≤ 1) ∧ zRt W (W.1 90 5) T ∧ xTok T ∧ W.1 90 6 = h ∧ (0 ≤ h ∧ h ≤ T.2.1) ∧ zAt W (xPo T.1 T.2.2.1 T.2.2.2.1 h)
noncomputable def y_MT_add : jY := (⟨"ChessHouseModel$Texts", "add", "(I)I"⟩, prog_18_method_95_code, 4, (some .int))
theorem m_MT_add : jmth lw_tbl y_MT_add 1 := ⟨jTA_in (wi := 2789) (jtF_ok rfl) rfl, jTA_in (wi := 315) (jtF_ok rfl) rfl, by decide, by decide, by decide +kernel⟩
theorem i_MT_add : Jvm.Cond.instanceMethod y_MT_add.1 ∈ jTA lw_tbl := jTA_in (wi := 2787) (jtF_ok rfl) rfl
theorem e_MT_add : Jvm.Cond.selects y_MT_add.1.cls y_MT_add.1 y_MT_add.1 ∈ jTA lw_tbl := jTA_in (wi := 2788) (jtF_ok rfl) rfl
noncomputable def ak_ZMTadd : List jI := [(.aload_n 0, 1, (0, 0, 0, 0, 0)), (.aload_n 0, 1, (0, 0, 0, 0, 0)), (.iload_n 1, 1, (1, 0, 0, 0, 0)), (.invokevirtual 388, 3, (0, 0, 2790, 0, 0)), (.ifCond .eq 7, 3, (13, 0, 0, 0, 0)), (.iconst 0, 1, (0, 0, 0, 0, 0)), (.goto 4, 3, (14, 0, 0, 0, 0)), (.iconst 1, 1, (0, 0, 0, 1, 0)), (.putfield 100, 3, (12, 0, 2011, 0, 0)), (.aload_n 0, 1, (0, 0, 0, 0, 0)), (.getfield 100, 3, (12, 0, 2011, 0, 0)), (.ifCond .le 5, 3, (26, 0, 0, 0, 0)), (.iconst 0, 1, (0, 0, 0, 0, 0)), (.ireturn, 1, (0, 0, 0, 0, 0)), (.aload_n 0, 1, (0, 0, 0, 0, 0)), (.aload_n 0, 1, (0, 0, 0, 0, 0)), (.getfield 349, 3, (12, 5, 2020, 0, 0)), (.aload_n 0, 1, (0, 0, 0, 0, 0)), (.getfield 355, 3, (12, 6, 2022, 0, 0)), (.iload_n 1, 1, (1, 0, 0, 0, 0)), (.invokevirtual 312, 3, (1, 0, 2702, 0, 0)), (.istore_n 2, 1, (2, 0, 0, 0, 0)), (.iload_n 2, 1, (2, 0, 0, 0, 0)), (.ifCond .ge 96, 3, (137, 0, 0, 0, 0)), (.aload_n 0, 1, (0, 0, 0, 0, 0)), (.aload_n 0, 1, (0, 0, 0, 0, 0)), (.getfield 349, 3, (12, 5, 2020, 0, 0)), (.aload_n 0, 1, (0, 0, 0, 0, 0)), (.getfield 355, 3, (12, 6, 2022, 0, 0)), (.invokevirtual 394, 3, (2, 0, 2794, 0, 0)), (.aload_n 0, 1, (0, 0, 0, 0, 0)), (.getfield 28, 3, (12, 10, 2029, 0, 0)), (.sipush 301, 3, (0, 0, 0, 301, 0)), (.aload_n 0, 1, (0, 0, 0, 0, 0)), (.getfield 349, 3, (12, 5, 2020, 0, 0)), (.imul, 1, (0, 0, 0, 0, 0)), (.aload_n 0, 1, (0, 0, 0, 0, 0)), (.getfield 355, 3, (12, 6, 2022, 0, 0)), (.iadd, 1, (0, 0, 0, 0, 0)), (.iaload, 1, (0, 0, 0, 0, 0)), (.ifCond .lt 7, 3, (81, 0, 0, 0, 0)), (.iconst 1, 1, (0, 0, 0, 1, 0)), (.goto 4, 3, (82, 0, 0, 0, 0)), (.iconst 0, 1, (0, 0, 0, 0, 0)), (.iadd, 1, (0, 0, 0, 0, 0)), (.istore_n 3, 1, (3, 0, 0, 0, 0)), (.aload_n 0, 1, (0, 0, 0, 0, 0)), (.aload_n 0, 1, (0, 0, 0, 0, 0)), (.getfield 18, 3, (12, 7, 2023, 0, 0)), (.aload_n 0, 1, (0, 0, 0, 0, 0)), (.getfield 349, 3, (12, 5, 2020, 0, 0)), (.iaload, 1, (0, 0, 0, 0, 0)), (.sipush 300, 3, (0, 0, 0, 300, 0)), (.if_icmp .eq 9, 3, (106, 0, 0, 0, 0)), (.iload_n 3, 1, (3, 0, 0, 0, 0)), (.bipush 6, 2, (0, 0, 0, 6, 0)), (.if_icmp .le 7, 3, (110, 0, 0, 0, 0)), (.iconst 2, 1, (0, 0, 0, 2, 0)), (.goto 4, 3, (111, 0, 0, 0, 0)), (.iconst 0, 1, (0, 0, 0, 0, 0)), (.putfield 100, 3, (12, 0, 2011, 0, 0)), (.aload_n 0, 1, (0, 0, 0, 0, 0)), (.getfield 100, 3, (12, 0, 2011, 0, 0)), (.ifCond .le 5, 3, (123, 0, 0, 0, 0)), (.iconst 0, 1, (0, 0, 0, 0, 0)), (.ireturn, 1, (0, 0, 0, 0, 0)), (.aload_n 0, 1, (0, 0, 0, 0, 0)), (.aload_n 0, 1, (0, 0, 0, 0, 0)), (.getfield 349, 3, (12, 5, 2020, 0, 0)), (.aload_n 0, 1, (0, 0, 0, 0, 0)), (.getfield 355, 3, (12, 6, 2022, 0, 0)), (.iload_n 1, 1, (1, 0, 0, 0, 0)), (.invokevirtual 315, 3, (3, 0, 2706, 0, 0)), (.istore_n 2, 1, (2, 0, 0, 0, 0)), (.aload_n 0, 1, (0, 0, 0, 0, 0)), (.iload_n 2, 1, (2, 0, 0, 0, 0)), (.putfield 355, 3, (12, 6, 2022, 0, 0)), (.aload_n 0, 1, (0, 0, 0, 0, 0)), (.aload_n 0, 1, (0, 0, 0, 0, 0)), (.getfield 349, 3, (12, 5, 2020, 0, 0)), (.aload_n 0, 1, (0, 0, 0, 0, 0)), (.getfield 355, 3, (12, 6, 2022, 0, 0)), (.invokevirtual 96, 3, (4, 0, 1933, 0, 0)), (.iload_n 2, 1, (2, 0, 0, 0, 0)), (.ireturn, 1, (0, 0, 0, 0, 0))]
theorem ao_ZMTadd : jokLG jtF lk_MT "ChessHouseModel$Texts" jcl jtb 4 prog_18_method_95_code 0 ak_ZMTadd = true := by decide +kernel
noncomputable def zm_MTadd : zM := (some .int, { frames := 7, cells := 0, slots := 0, locals := 181 }, ([(388, 2790, 0), (312, 2702, 1), (394, 2794, 2), (315, 2706, 3), (96, 1933, 4)], []), [(y_MT_isLegal, false, 2, 12, { frames := 0, cells := 0, slots := 0, locals := 0 }, zc_MTisL), (y_MT_childWith, false, 4, 12, { frames := 0, cells := 0, slots := 0, locals := 0 }, zc_MTcw), (y_MT_deepOf, false, 3, 12, { frames := 1, cells := 0, slots := 0, locals := 22 }, zc_MTdp), (y_MT_append, false, 4, 12, { frames := 1, cells := 0, slots := 0, locals := 21 }, zc_MTapp), (y_MT_place, false, 3, 12, { frames := 6, cells := 0, slots := 0, locals := 157 }, zc_MTplace)], ak_ZMTadd)
noncomputable def zc_MTadd (vals : List zv) (W : zW) (post : zPo) : Prop := ∃ x : Int, vals = [.inr (.inr (some (.inl 90))), .inl (x)] ∧ (∃ T h, zHe W T h ∧ zLg (zQ W) x) ∧ ∀ r : Int, ∀ V : zW, ((∀ T h, zHe W T h → zHe V (xPl T h x).1 (xPl T h x).2.1 ∧ (0 < V.1 90 0 ↔ (xPl T h x).2.2 = 1)) ∧ zFo (W.1 90 5) W V ∧ zFr [(90, 0), (90, 6), (90, 25), (90, 26), (90, 27), (90, 28), (90, 29), (90, 33)] [93, 94, 95, 96, 97, 98, 100, 110, 111, 112, 113, 114] W V) → post (some (.inl r)) V
theorem zRt_fr {Fs : List (Nat × Nat)} {Rs : List Nat} {W V : zW} {g : Int} {T : xT} (h : zFr Fs Rs W V) (hd : (Rs.all (fun a => decide (¬ a ∈ [93, 94, 95, 96, 97, 98, 102, 103]))) = true) (hr : zRt W g T) : zRt V g T := by
  have e : ∀ a, a ∈ [93, 94, 95, 96, 97, 98, 102, 103] → V.2.1 a = W.2.1 a := by
    intro a ha
    refine h.2.1 a (fun z => ?_)
    have := List.all_eq_true.mp hd a z
    exact (of_decide_eq_true this) ha
  unfold zRt zSt zSb zro at *
  rw [e 93 (by decide), e 94 (by decide), e 95 (by decide), e 96 (by decide), e 97 (by decide), e 98 (by decide), e 102 (by decide), e 103 (by decide)]
  exact hr
theorem zFo_fr {Fs : List (Nat × Nat)} {Rs : List Nat} {W V U : zW} {g : Int} (h : zFo g W V) (hf : zFr Fs Rs V U) (hd : (Rs.all (fun a => decide (¬ a ∈ [93, 94, 95, 96, 97, 98, 102, 103]))) = true) : zFo g W U := by
  have e : ∀ a, a ∈ [93, 94, 95, 96, 97, 98, 102, 103] → U.2.1 a = V.2.1 a := by
    intro a ha
    refine hf.2.1 a (fun z => ?_)
    have := List.all_eq_true.mp hd a z
    exact (of_decide_eq_true this) ha
  refine ⟨fun a ha i hi => ?_, fun i hi => ?_, ?_, ?_⟩
  · rw [e a (by rcases ha with rfl | rfl | rfl | rfl | rfl <;> decide)]; exact h.1 a ha i hi
  · rw [e 93 (by decide)]; exact h.2.1 i hi
  · rw [e 102 (by decide)]; exact h.2.2.1
  · rw [e 103 (by decide)]; exact h.2.2.2
theorem zFo_0 {g : Int} {W : zW} : zFo g W W := ⟨fun _ _ _ _ => rfl, fun _ _ => rfl, rfl, rfl⟩
set_option maxRecDepth 8000 in
theorem zp_MTadd_0 {n K : Nat} {W : zW} {post : zPo} {x : Int} {u2 u3 : Option zv} (hK : 55 ≤ K) (hn : 142 ≤ n) (h : (hqE (zLg (zQ W)) (W.2.1 113) 0 (W.1 90 33) ∧ W.1 90 33 ≤ 2048) ∧ ∀ r3 : Int, (xBl r3 (zLg (zQ W) x)) → (r3 = 0 → post (some (.inl (0))) (zuF W 90 0 1)) ∧ (¬ r3 = 0 → ((0 ≤ (W.1 90 5) ∧ (W.1 90 5) ≤ 1) ∧ ∃ T, zRt (zuF W 90 0 0) (W.1 90 5) T ∧ xTok T ∧ (0 ≤ (W.1 90 6) ∧ (W.1 90 6) ≤ T.2.1)) ∧ ∀ r36 : Int, (∀ T, zRt (zuF W 90 0 0) (W.1 90 5) T → xTok T → r36 = xCw T (W.1 90 6) x) → (0 ≤ r36 → zwp jtb zsh n zm_MTadd post (K - 21) (lGo ak_ZMTadd 137) 137 [some (.inr (.inr (some (.inl 90)))), some (.inl (x)), some (.inl (r36)), u3] [] (zuF W 90 0 0)) ∧ (¬ 0 ≤ r36 → ((0 ≤ (W.1 90 5) ∧ (W.1 90 5) ≤ 1) ∧ ∃ T, zRt (zuF W 90 0 0) (W.1 90 5) T ∧ xTok T ∧ (0 ≤ (W.1 90 6) ∧ (W.1 90 6) ≤ T.2.1)) ∧ ∀ r53 : Int, (∀ T, zRt (zuF W 90 0 0) (W.1 90 5) T → xTok T → r53 = trE T.2.2.1 (xLd T.2.2.2.2.1) (W.1 90 6)) → (-2147483648 ≤ 301 * (W.1 90 5) ∧ 301 * (W.1 90 5) ≤ 2147483647) ∧ (-2147483648 ≤ (301 * (W.1 90 5)) + (W.1 90 6) ∧ (301 * (W.1 90 5)) + (W.1 90 6) ≤ 2147483647) ∧ (0 ≤ ((301 * (W.1 90 5)) + (W.1 90 6)) ∧ ((301 * (W.1 90 5)) + (W.1 90 6)) < 602) ∧ ((W.2.1 96 ((301 * (W.1 90 5)) + (W.1 90 6))) < 0 → (-2147483648 ≤ r53 + 0 ∧ r53 + 0 ≤ 2147483647) ∧ (0 ≤ (W.1 90 5) ∧ (W.1 90 5) < 2) ∧ ((W.2.1 93 (W.1 90 5)) = 300 → zwp jtb zsh n zm_MTadd post (K - 51) (lGo ak_ZMTadd 111) 111 [some (.inr (.inr (some (.inl 90)))), some (.inl (x)), some (.inl (r36)), some (.inl (r53 + 0))] [.inl (2), .inr (.inr (some (.inl 90)))] (zuF W 90 0 0)) ∧ (¬ (W.2.1 93 (W.1 90 5)) = 300 → ((r53 + 0) ≤ 6 → zwp jtb zsh n zm_MTadd post (K - 53) (lGo ak_ZMTadd 111) 111 [some (.inr (.inr (some (.inl 90)))), some (.inl (x)), some (.inl (r36)), some (.inl (r53 + 0))] [.inl (0), .inr (.inr (some (.inl 90)))] (zuF W 90 0 0)) ∧ (¬ (r53 + 0) ≤ 6 → zwp jtb zsh n zm_MTadd post (K - 54) (lGo ak_ZMTadd 111) 111 [some (.inr (.inr (some (.inl 90)))), some (.inl (x)), some (.inl (r36)), some (.inl (r53 + 0))] [.inl (2), .inr (.inr (some (.inl 90)))] (zuF W 90 0 0)))) ∧ (¬ (W.2.1 96 ((301 * (W.1 90 5)) + (W.1 90 6))) < 0 → (-2147483648 ≤ r53 + 1 ∧ r53 + 1 ≤ 2147483647) ∧ (0 ≤ (W.1 90 5) ∧ (W.1 90 5) < 2) ∧ ((W.2.1 93 (W.1 90 5)) = 300 → zwp jtb zsh n zm_MTadd post (K - 52) (lGo ak_ZMTadd 111) 111 [some (.inr (.inr (some (.inl 90)))), some (.inl (x)), some (.inl (r36)), some (.inl (r53 + 1))] [.inl (2), .inr (.inr (some (.inl 90)))] (zuF W 90 0 0)) ∧ (¬ (W.2.1 93 (W.1 90 5)) = 300 → ((r53 + 1) ≤ 6 → zwp jtb zsh n zm_MTadd post (K - 54) (lGo ak_ZMTadd 111) 111 [some (.inr (.inr (some (.inl 90)))), some (.inl (x)), some (.inl (r36)), some (.inl (r53 + 1))] [.inl (0), .inr (.inr (some (.inl 90)))] (zuF W 90 0 0)) ∧ (¬ (r53 + 1) ≤ 6 → zwp jtb zsh n zm_MTadd post (K - 55) (lGo ak_ZMTadd 111) 111 [some (.inr (.inr (some (.inl 90)))), some (.inl (x)), some (.inl (r36)), some (.inl (r53 + 1))] [.inl (2), .inr (.inr (some (.inl 90)))] (zuF W 90 0 0))))))) : zwp jtb zsh n zm_MTadd post K (lGo ak_ZMTadd 0) 0 [some (.inr (.inr (some (.inl 90)))), some (.inl (x)), u2, u3] [] W := by
  obtain ⟨kk__, rfl⟩ : ∃ kk__, K = kk__ + 55 := ⟨K - 55, by omega⟩
  exact (show 3 = 3 ∧ false = false ∧ jin3 388 2790 0 zm_MTadd.2.2.1.1 = true ∧ lRm zm_MTadd.2.1 { frames := 0, cells := 0, slots := 0, locals := 0 } 4 = true ∧ Nat.ble 2 3 = true ∧ Nat.ble 1 8 = true ∧ 90 < n ∧ 12 = 12 ∧ Nat.ble 1000 12 = false ∧ zc_MTisL [.inr (.inr (some (.inl 90))), .inl (x)] W (fun vv__ WW__ => zwp jtb zsh n zm_MTadd post (kk__ + 51) (lGo ak_ZMTadd 6) 6 [some (.inr (.inr (some (.inl 90)))), some (.inl (x)), u2, u3] (vv__.toList ++ [.inr (.inr (some (.inl 90)))]) WW__) from ⟨rfl, rfl, rfl, rfl, rfl, rfl, (Nat.lt_of_lt_of_le (by decide) hn), rfl, rfl, x, rfl, (h).1, fun r3 hr3 => (show (r3 = 0 → 90 < n ∧ 12 = 12 ∧ (some 0 : Option Nat) = some 0 ∧ ((0 : Nat) = 0 ∨ ((0 : Nat) = 1 ∧ ((1 : Int) = 0 ∨ (1 : Int) = 1))) ∧ 90 < n ∧ 12 = 12 ∧ ((1 : Int) ≤ 0 → zwp jtb zsh n zm_MTadd post (kk__ + 45) (lGo ak_ZMTadd 26) 26 [some (.inr (.inr (some (.inl 90)))), some (.inl (x)), u2, u3] [] (zuF W 90 0 1)) ∧ (¬ (1 : Int) ≤ 0 → 1 = 1 ∧ True ∧ post (some (.inl (0))) (zuF W 90 0 1))) ∧ (¬ r3 = 0 → 90 < n ∧ 12 = 12 ∧ (some 0 : Option Nat) = some 0 ∧ ((0 : Nat) = 0 ∨ ((0 : Nat) = 1 ∧ ((0 : Int) = 0 ∨ (0 : Int) = 1))) ∧ 90 < n ∧ 12 = 12 ∧ ((0 : Int) ≤ 0 → 90 < n ∧ 12 = 12 ∧ 90 < n ∧ 12 = 12 ∧ 3 = 3 ∧ false = false ∧ jin3 312 2702 1 zm_MTadd.2.2.1.1 = true ∧ lRm zm_MTadd.2.1 { frames := 0, cells := 0, slots := 0, locals := 0 } 5 = true ∧ Nat.ble 4 4 = true ∧ Nat.ble 0 8 = true ∧ 90 < n ∧ 12 = 12 ∧ Nat.ble 1000 12 = false ∧ zc_MTcw [.inr (.inr (some (.inl 90))), .inl (W.1 90 5), .inl (W.1 90 6), .inl (x)] (zuF W 90 0 0) (fun vv__ WW__ => zwp jtb zsh n zm_MTadd post (kk__ + 37) (lGo ak_ZMTadd 39) 39 [some (.inr (.inr (some (.inl 90)))), some (.inl (x)), u2, u3] (vv__.toList ++ []) WW__)) ∧ (¬ (0 : Int) ≤ 0 → zwp jtb zsh n zm_MTadd post (kk__ + 44) (lGo ak_ZMTadd 24) 24 [some (.inr (.inr (some (.inl 90)))), some (.inl (x)), u2, u3] [] (zuF W 90 0 0))) from ⟨fun c6_4 => (have h := ((((h).2 r3 hr3)).1 c6_4); ⟨(Nat.lt_of_lt_of_le (by decide) hn), rfl, rfl, (Or.inl rfl), ⟨(Nat.lt_of_lt_of_le (by decide) hn), rfl, ⟨fun hc9 => absurd hc9 (by decide), fun _ => ⟨rfl, trivial, h⟩⟩⟩⟩), fun c6_4 => (have h := ((((h).2 r3 hr3)).2 c6_4); ⟨(Nat.lt_of_lt_of_le (by decide) hn), rfl, rfl, (Or.inl rfl), ⟨(Nat.lt_of_lt_of_le (by decide) hn), rfl, ⟨fun _ => ⟨(Nat.lt_of_lt_of_le (by decide) hn), rfl, ⟨(Nat.lt_of_lt_of_le (by decide) hn), rfl, ⟨rfl, rfl, rfl, rfl, rfl, rfl, (Nat.lt_of_lt_of_le (by decide) hn), rfl, rfl, W.1 90 5, W.1 90 6, x, rfl, (h).1, fun r36 hr36 => (show (0 ≤ r36 → zwp jtb zsh n zm_MTadd post (kk__ + 34) (lGo ak_ZMTadd 137) 137 [some (.inr (.inr (some (.inl 90)))), some (.inl (x)), some (.inl (r36)), u3] [] (zuF W 90 0 0)) ∧ (¬ 0 ≤ r36 → 90 < n ∧ 12 = 12 ∧ 90 < n ∧ 12 = 12 ∧ 3 = 3 ∧ false = false ∧ jin3 394 2794 2 zm_MTadd.2.2.1.1 = true ∧ lRm zm_MTadd.2.1 { frames := 1, cells := 0, slots := 0, locals := 22 } 5 = true ∧ Nat.ble 3 3 = true ∧ Nat.ble 0 8 = true ∧ 90 < n ∧ 12 = 12 ∧ Nat.ble 1000 12 = false ∧ zc_MTdp [.inr (.inr (some (.inl 90))), .inl (W.1 90 5), .inl (W.1 90 6)] (zuF W 90 0 0) (fun vv__ WW__ => zwp jtb zsh n zm_MTadd post (kk__ + 28) (lGo ak_ZMTadd 56) 56 [some (.inr (.inr (some (.inl 90)))), some (.inl (x)), some (.inl (r36)), u3] (vv__.toList ++ []) WW__)) from ⟨fun c41_20 => ((((h).2 r36 hr36)).1 c41_20), fun c41_20 => (have h := ((((h).2 r36 hr36)).2 c41_20); ⟨(Nat.lt_of_lt_of_le (by decide) hn), rfl, ⟨(Nat.lt_of_lt_of_le (by decide) hn), rfl, ⟨rfl, rfl, rfl, rfl, rfl, rfl, (Nat.lt_of_lt_of_le (by decide) hn), rfl, rfl, W.1 90 5, W.1 90 6, rfl, (h).1, fun r53 hr53 => (show 90 < n ∧ 12 = 12 ∧ 90 < n ∧ 12 = 12 ∧ (-2147483648 ≤ 301 * (W.1 90 5) ∧ 301 * (W.1 90 5) ≤ 2147483647) ∧ 90 < n ∧ 12 = 12 ∧ (-2147483648 ≤ (301 * (W.1 90 5)) + (W.1 90 6) ∧ (301 * (W.1 90 5)) + (W.1 90 6) ≤ 2147483647) ∧ 96 < n ∧ FieldType.int = FieldType.int ∧ (0 ≤ ((301 * (W.1 90 5)) + (W.1 90 6)) ∧ ((301 * (W.1 90 5)) + (W.1 90 6)) < 602) ∧ ((W.2.1 96 ((301 * (W.1 90 5)) + (W.1 90 6))) < 0 → (-2147483648 ≤ r53 + 0 ∧ r53 + 0 ≤ 2147483647) ∧ 90 < n ∧ 12 = 12 ∧ 90 < n ∧ 12 = 12 ∧ 93 < n ∧ FieldType.int = FieldType.int ∧ (0 ≤ (W.1 90 5) ∧ (W.1 90 5) < 2) ∧ ((W.2.1 93 (W.1 90 5)) = 300 → zwp jtb zsh n zm_MTadd post (kk__ + 4) (lGo ak_ZMTadd 111) 111 [some (.inr (.inr (some (.inl 90)))), some (.inl (x)), some (.inl (r36)), some (.inl (r53 + 0))] [.inl (2), .inr (.inr (some (.inl 90)))] (zuF W 90 0 0)) ∧ (¬ (W.2.1 93 (W.1 90 5)) = 300 → ((r53 + 0) ≤ 6 → zwp jtb zsh n zm_MTadd post (kk__ + 2) (lGo ak_ZMTadd 111) 111 [some (.inr (.inr (some (.inl 90)))), some (.inl (x)), some (.inl (r36)), some (.inl (r53 + 0))] [.inl (0), .inr (.inr (some (.inl 90)))] (zuF W 90 0 0)) ∧ (¬ (r53 + 0) ≤ 6 → zwp jtb zsh n zm_MTadd post (kk__ + 1) (lGo ak_ZMTadd 111) 111 [some (.inr (.inr (some (.inl 90)))), some (.inl (x)), some (.inl (r36)), some (.inl (r53 + 0))] [.inl (2), .inr (.inr (some (.inl 90)))] (zuF W 90 0 0)))) ∧ (¬ (W.2.1 96 ((301 * (W.1 90 5)) + (W.1 90 6))) < 0 → (-2147483648 ≤ r53 + 1 ∧ r53 + 1 ≤ 2147483647) ∧ 90 < n ∧ 12 = 12 ∧ 90 < n ∧ 12 = 12 ∧ 93 < n ∧ FieldType.int = FieldType.int ∧ (0 ≤ (W.1 90 5) ∧ (W.1 90 5) < 2) ∧ ((W.2.1 93 (W.1 90 5)) = 300 → zwp jtb zsh n zm_MTadd post (kk__ + 3) (lGo ak_ZMTadd 111) 111 [some (.inr (.inr (some (.inl 90)))), some (.inl (x)), some (.inl (r36)), some (.inl (r53 + 1))] [.inl (2), .inr (.inr (some (.inl 90)))] (zuF W 90 0 0)) ∧ (¬ (W.2.1 93 (W.1 90 5)) = 300 → ((r53 + 1) ≤ 6 → zwp jtb zsh n zm_MTadd post (kk__ + 1) (lGo ak_ZMTadd 111) 111 [some (.inr (.inr (some (.inl 90)))), some (.inl (x)), some (.inl (r36)), some (.inl (r53 + 1))] [.inl (0), .inr (.inr (some (.inl 90)))] (zuF W 90 0 0)) ∧ (¬ (r53 + 1) ≤ 6 → zwp jtb zsh n zm_MTadd post (kk__ + 0) (lGo ak_ZMTadd 111) 111 [some (.inr (.inr (some (.inl 90)))), some (.inl (x)), some (.inl (r36)), some (.inl (r53 + 1))] [.inl (2), .inr (.inr (some (.inl 90)))] (zuF W 90 0 0)))) from ⟨(Nat.lt_of_lt_of_le (by decide) hn), rfl, ⟨(Nat.lt_of_lt_of_le (by decide) hn), rfl, ⟨(((h).2 r53 hr53)).1, ⟨(Nat.lt_of_lt_of_le (by decide) hn), rfl, ⟨((((h).2 r53 hr53)).2).1, ⟨(Nat.lt_of_lt_of_le (by decide) hn), rfl, (((((h).2 r53 hr53)).2).2).1, (have h := (((((h).2 r53 hr53)).2).2).2; ⟨fun c74_37 => ⟨(((h).1 c74_37)).1, ⟨(Nat.lt_of_lt_of_le (by decide) hn), rfl, ⟨(Nat.lt_of_lt_of_le (by decide) hn), rfl, ⟨(Nat.lt_of_lt_of_le (by decide) hn), rfl, ((((h).1 c74_37)).2).1, ⟨fun c97_48 => ((((((h).1 c74_37)).2).2).1 c97_48), fun c97_48 => (have h := ((((((h).1 c74_37)).2).2).2 c97_48); ⟨fun c103_51 => ((h).1 c103_51), fun c103_51 => ((h).2 c103_51)⟩)⟩⟩⟩⟩⟩, fun c74_37 => ⟨(((h).2 c74_37)).1, ⟨(Nat.lt_of_lt_of_le (by decide) hn), rfl, ⟨(Nat.lt_of_lt_of_le (by decide) hn), rfl, ⟨(Nat.lt_of_lt_of_le (by decide) hn), rfl, ((((h).2 c74_37)).2).1, ⟨fun c97_49 => ((((((h).2 c74_37)).2).2).1 c97_49), fun c97_49 => (have h := ((((((h).2 c74_37)).2).2).2 c97_49); ⟨fun c103_52 => ((h).1 c103_52), fun c103_52 => ((h).2 c103_52)⟩)⟩⟩⟩⟩⟩⟩)⟩⟩⟩⟩⟩⟩)⟩⟩⟩)⟩)⟩⟩⟩, fun hc10 => absurd hc10 (by decide)⟩⟩⟩)⟩)⟩)
set_option maxRecDepth 8000 in
theorem zp_MTadd_111 {n K : Nat} {V : zW} {post : zPo} {x k d t : Int}  (hK : 12 ≤ K) (hn : 142 ≤ n) (h : (t ≤ 0 → ((0 ≤ (V.1 90 5) ∧ (V.1 90 5) ≤ 1) ∧ ∃ T, zRt (zuF V 90 0 t) (V.1 90 5) T ∧ xTok T ∧ (0 ≤ (V.1 90 6) ∧ (V.1 90 6) ≤ T.2.1) ∧ T.2.1 < 300) ∧ ∀ r133 : Int, ∀ W133 : zW, ((∀ T, zRt (zuF V 90 0 t) (V.1 90 5) T → xTok T → r133 = T.2.1 + 1 ∧ zRt W133 (V.1 90 5) (xApp T (V.1 90 6) x)) ∧ zFo (V.1 90 5) (zuF V 90 0 t) W133 ∧ zFr [] [93, 94, 95, 96, 97, 98, 100] (zuF V 90 0 t) W133) → zwp jtb zsh n zm_MTadd post (K - 12) (lGo ak_ZMTadd 137) 137 [some (.inr (.inr (some (.inl 90)))), some (.inl (x)), some (.inl (r133)), some (.inl (d))] [] W133) ∧ (¬ t ≤ 0 → post (some (.inl (0))) (zuF V 90 0 t))) : zwp jtb zsh n zm_MTadd post K (lGo ak_ZMTadd 111) 111 [some (.inr (.inr (some (.inl 90)))), some (.inl (x)), some (.inl (k)), some (.inl (d))] [.inl (t), .inr (.inr (some (.inl 90)))] V := by
  obtain ⟨kk__, rfl⟩ : ∃ kk__, K = kk__ + 12 := ⟨K - 12, by omega⟩
  exact (show 90 < n ∧ 12 = 12 ∧ (some 0 : Option Nat) = some 0 ∧ ((0 : Nat) = 0 ∨ ((0 : Nat) = 1 ∧ (t = 0 ∨ t = 1))) ∧ 90 < n ∧ 12 = 12 ∧ (t ≤ 0 → 90 < n ∧ 12 = 12 ∧ 90 < n ∧ 12 = 12 ∧ 3 = 3 ∧ false = false ∧ jin3 315 2706 3 zm_MTadd.2.2.1.1 = true ∧ lRm zm_MTadd.2.1 { frames := 1, cells := 0, slots := 0, locals := 21 } 6 = true ∧ Nat.ble 4 4 = true ∧ Nat.ble 0 8 = true ∧ 90 < n ∧ 12 = 12 ∧ Nat.ble 1000 12 = false ∧ zc_MTapp [.inr (.inr (some (.inl 90))), .inl (V.1 90 5), .inl (V.1 90 6), .inl (x)] (zuF V 90 0 t) (fun vv__ WW__ => zwp jtb zsh n zm_MTadd post (kk__ + 1) (lGo ak_ZMTadd 136) 136 [some (.inr (.inr (some (.inl 90)))), some (.inl (x)), some (.inl (k)), some (.inl (d))] (vv__.toList ++ []) WW__)) ∧ (¬ t ≤ 0 → 1 = 1 ∧ True ∧ post (some (.inl (0))) (zuF V 90 0 t)) from ⟨(Nat.lt_of_lt_of_le (by decide) hn), rfl, rfl, (Or.inl rfl), ⟨(Nat.lt_of_lt_of_le (by decide) hn), rfl, ⟨fun c118_3 => ⟨(Nat.lt_of_lt_of_le (by decide) hn), rfl, ⟨(Nat.lt_of_lt_of_le (by decide) hn), rfl, ⟨rfl, rfl, rfl, rfl, rfl, rfl, (Nat.lt_of_lt_of_le (by decide) hn), rfl, rfl, V.1 90 5, V.1 90 6, x, rfl, (((h).1 c118_3)).1, fun r133 W133 hr133 => (show zwp jtb zsh n zm_MTadd post (kk__ + 0) (lGo ak_ZMTadd 137) 137 [some (.inr (.inr (some (.inl 90)))), some (.inl (x)), some (.inl (r133)), some (.inl (d))] [] W133 from ((((h).1 c118_3)).2 r133 W133 hr133))⟩⟩⟩, fun c118_3 => ⟨rfl, trivial, ((h).2 c118_3)⟩⟩⟩⟩)
set_option maxRecDepth 8000 in
theorem zp_MTadd_137 {n K : Nat} {V : zW} {post : zPo} {x k : Int} {u3 : Option zv} (hK : 11 ≤ K) (hn : 142 ≤ n) (h : ((0 ≤ (V.1 90 5) ∧ (V.1 90 5) ≤ 1) ∧ (∃ N, (0 ≤ k ∧ k ≤ N ∧ N ≤ 300) ∧ xOk (zSt (zuF V 90 6 k) (V.1 90 5)) (zro (zuF V 90 6 k) 94 (V.1 90 5)) (zro (zuF V 90 6 k) 95 (V.1 90 5)) N) ∧ zSb (zuF V 90 6 k) (V.1 90 5)) ∧ ∀ W151 : zW, (zAt W151 (xPo (zSt (zuF V 90 6 k) (V.1 90 5)) (zro (zuF V 90 6 k) 94 (V.1 90 5)) (zro (zuF V 90 6 k) 95 (V.1 90 5)) k) ∧ zFr [(90, 25), (90, 26), (90, 27), (90, 28), (90, 29), (90, 33)] [110, 111, 112, 113, 114] (zuF V 90 6 k) W151) → post (some (.inl (k))) W151) : zwp jtb zsh n zm_MTadd post K (lGo ak_ZMTadd 137) 137 [some (.inr (.inr (some (.inl 90)))), some (.inl (x)), some (.inl (k)), u3] [] V := by
  obtain ⟨kk__, rfl⟩ : ∃ kk__, K = kk__ + 11 := ⟨K - 11, by omega⟩
  exact (show 90 < n ∧ 12 = 12 ∧ (some 0 : Option Nat) = some 0 ∧ ((0 : Nat) = 0 ∨ ((0 : Nat) = 1 ∧ (k = 0 ∨ k = 1))) ∧ 90 < n ∧ 12 = 12 ∧ 90 < n ∧ 12 = 12 ∧ 3 = 3 ∧ false = false ∧ jin3 96 1933 4 zm_MTadd.2.2.1.1 = true ∧ lRm zm_MTadd.2.1 { frames := 6, cells := 0, slots := 0, locals := 157 } 5 = true ∧ Nat.ble 3 3 = true ∧ Nat.ble 0 8 = true ∧ 90 < n ∧ 12 = 12 ∧ Nat.ble 1000 12 = false ∧ zc_MTplace [.inr (.inr (some (.inl 90))), .inl (V.1 90 5), .inl (k)] (zuF V 90 6 k) (fun vv__ WW__ => zwp jtb zsh n zm_MTadd post (kk__ + 2) (lGo ak_ZMTadd 154) 154 [some (.inr (.inr (some (.inl 90)))), some (.inl (x)), some (.inl (k)), u3] (vv__.toList ++ []) WW__) from ⟨(Nat.lt_of_lt_of_le (by decide) hn), rfl, rfl, (Or.inl rfl), ⟨(Nat.lt_of_lt_of_le (by decide) hn), rfl, ⟨(Nat.lt_of_lt_of_le (by decide) hn), rfl, ⟨rfl, rfl, rfl, rfl, rfl, rfl, (Nat.lt_of_lt_of_le (by decide) hn), rfl, rfl, V.1 90 5, k, rfl, (h).1, fun W151 hr151 => (show 1 = 1 ∧ True ∧ post (some (.inl (k))) W151 from ⟨rfl, trivial, ((h).2 W151 hr151)⟩)⟩⟩⟩⟩)
set_option maxRecDepth 20000 in
set_option maxHeartbeats 4000000 in
theorem zk_MTadd {l : Launch} {E : jE} {n : Nat} (hn : 142 ≤ n) : zHas l E jcl jtb lw_tbl zsh n (y_MT_add, false, 2, 12, { frames := 7, cells := 0, slots := 0, locals := 181 }, zc_MTadd) := by
  refine ⟨⟨rfl, rfl, ⟨show 1 ≤ 2 by decide, m_MT_add, i_MT_add, e_MT_add, fun _ => ⟨_, rfl, rfl⟩⟩⟩, ?_⟩
  rintro vz W po hO hW ⟨x, rfl, hq, hp⟩
  refine zmet (m := zm_MTadd) rfl (by decide) (fun _ _ => jtF_ok) lo_MT ao_ZMTadd jC (fun q h => by cases h) (aAllc (fun G h => by obtain rfl := Option.some.inj h; exact ql_MT_388) (aAllc (fun G h => by obtain rfl := Option.some.inj h; exact ql_MT_312) (aAllc (fun G h => by obtain rfl := Option.some.inj h; exact ql_MT_394) (aAllc (fun G h => by obtain rfl := Option.some.inj h; exact ql_MT_315) (aAllc (fun G h => by obtain rfl := Option.some.inj h; exact ql_MT_96) (fun q h => by cases h)))))) (aAllc (zk_MTisL hn) (aAllc (zk_MTcw hn) (aAllc (zk_MTdp hn) (aAllc (zk_MTapp hn) (aAllc (zk_MTplace hn) (fun q h => by cases h)))))) (Nat.le_of_ble_eq_true rfl) hO hW (400) ?_
  obtain ⟨T, h, hh, hL⟩ := hq
  have eQ : ∀ T' h', zHe W T' h' → zQ W = (xPo T'.1 T'.2.2.1 T'.2.2.2.1 h').1 := fun T' h' z => congrArg Prod.fst z.2.2.2.2.2.1
  have dpb : ∀ r53, (∀ T, zRt (zuF W 90 0 0) (W.1 90 5) T → xTok T → r53 = trE T.2.2.1 (xLd T.2.2.2.2.1) (W.1 90 6)) → 0 ≤ r53 ∧ r53 ≤ 6 := by
    intro r53 h53
    have e := h53 T hh.2.1 hh.2.2.1
    rw [hh.2.2.2.1] at e
    have b := hh.2.2.2.2.1
    have nn : ∀ (n : Nat) (k : Int), 0 ≤ trD T.2.2.1 (xLd T.2.2.2.2.1) n k := by
      intro n
      induction n with
      | zero => exact fun k => Int.le_refl 0
      | succ n ih =>
        intro k
        show 0 ≤ (if k ≤ 0 then 0 else trD T.2.2.1 (xLd T.2.2.2.2.1) n (T.2.2.1 k) + (if xLd T.2.2.2.2.1 (T.2.2.1 k) = k then 0 else 1))
        have := ih (T.2.2.1 k)
        split
        · exact Int.le_refl 0
        · split <;> omega
    have n1 : 0 ≤ trE T.2.2.1 (xLd T.2.2.2.2.1) h := nn _ _
    have n2 : trE T.2.2.1 (xLd T.2.2.2.2.1) h ≤ 6 := by
      by_cases c : h ≤ 0
      · rw [tr_0 c]; decide
      · exact hh.2.2.1.2.2.2.2 h (by omega) b.2
    omega
  have child : ∀ r36, (∀ T, zRt (zuF W 90 0 0) (W.1 90 5) T → xTok T → r36 = xCw T (W.1 90 6) x) → 0 ≤ r36 → ∀ T h, zHe W T h → (xPl T h x).2.2 = 0 ∧ (xPl T h x).2.1 = r36 ∧ zRt (zuF W 90 0 0) (W.1 90 5) (xPl T h x).1 ∧ xTok (xPl T h x).1 ∧ (0 ≤ r36 ∧ r36 ≤ (xPl T h x).1.2.1) := by
    intro r36 h36 hc T h z
    have e := h36 T z.2.1 z.2.2.1
    rw [z.2.2.2.1] at e
    unfold xPl
    rw [if_pos (by omega)]
    have hm := xFr_m (mv := T.2.2.2.1) (m := x) (l := T.2.2.2.2.1 h) (show 0 ≤ xCw T h x by omega)
    have hk := zRt_k z.2.1 z.2.2.1 z.2.2.2.2.1.1 z.2.2.2.2.1.2 _ hm
    have hk2 : xCw T h x ≤ T.2.1 := hk.2.1
    exact ⟨rfl, e.symm, z.2.1, z.2.2.1, hc, by rw [e]; exact hk2⟩
  have kdn : ∀ T' h', zHe W T' h' → ((W.2.1 96 (301 * W.1 90 5 + W.1 90 6) < 0 ↔ T'.2.2.2.2.1 h' = [])) := by
    intro T' h' z
    rw [z.2.2.2.1]
    have hc := (z.2.1.2.2.1 h' z.2.2.2.2.1.1 z.2.2.2.2.1.2).1
    cases e : T'.2.2.2.2.1 h' with
    | nil =>
      rw [e] at hc
      have hc : W.2.1 96 (301 * W.1 90 5 + h') = -1 := hc
      exact ⟨fun _ => rfl, fun _ => by omega⟩
    | cons y l =>
      rw [e] at hc
      have hc1 : W.2.1 96 (301 * W.1 90 5 + h') = y := hc.1
      have := zRt_k z.2.1 z.2.2.1 z.2.2.2.2.1.1 z.2.2.2.2.1.2 y (by rw [e]; exact List.mem_cons_self ..)
      exact ⟨fun q => by omega, fun q => by cases q⟩
  have room : ∀ r36 r53 d, (∀ T, zRt (zuF W 90 0 0) (W.1 90 5) T → xTok T → r36 = xCw T (W.1 90 6) x) → (∀ T, zRt (zuF W 90 0 0) (W.1 90 5) T → xTok T → r53 = trE T.2.2.1 (xLd T.2.2.2.2.1) (W.1 90 6)) → ¬ 0 ≤ r36 → ((W.2.1 96 (301 * W.1 90 5 + W.1 90 6) < 0 ∧ d = r53 + 0) ∨ (¬ W.2.1 96 (301 * W.1 90 5 + W.1 90 6) < 0 ∧ d = r53 + 1)) → ∀ T' h', zHe W T' h' → (W.2.1 93 (W.1 90 5) = 300 ∨ 6 < d → xPl T' h' x = (T', h', 1)) ∧ (¬ W.2.1 93 (W.1 90 5) = 300 → d ≤ 6 → xPl T' h' x = (xApp T' h' x, T'.2.1 + 1, 0) ∧ T'.2.1 < 300 ∧ trE T'.2.2.1 (xLd T'.2.2.2.2.1) h' + (if T'.2.2.2.2.1 h' = [] then 0 else 1) ≤ 6) := by
    intro r36 r53 d h36 h53 hc hd T' h' z
    have e1 := h36 T' z.2.1 z.2.2.1
    have e2 := h53 T' z.2.1 z.2.2.1
    have e3 : W.2.1 93 (W.1 90 5) = T'.2.1 := z.2.1.1
    have b3 := z.2.2.1.1
    have kn := kdn T' h' z
    rw [z.2.2.2.1] at e1 e2 hd kn
    have ed : trE T'.2.2.1 (xLd T'.2.2.2.2.1) h' + (if T'.2.2.2.2.1 h' = [] then 0 else 1) = d := by
      rcases hd with ⟨c, e⟩ | ⟨c, e⟩
      · rw [if_pos (kn.mp c)]; omega
      · rw [if_neg (fun q => c (kn.mpr q))]; omega
    unfold xPl
    rw [if_neg (by omega), ed, ← e3]
    constructor
    · intro c; rw [if_pos c]
    · intro c1 c2; rw [if_neg (by omega)]; exact ⟨rfl, by omega, c2⟩
  have h137 : ∀ (K : Nat) (V : zW) (k : Int) (u3 : Option zv), 60 ≤ K → V.1 90 0 = 0 → V.1 90 5 = W.1 90 5 → (∀ T h, zHe W T h → (xPl T h x).2.2 = 0 ∧ (xPl T h x).2.1 = k ∧ zRt V (W.1 90 5) (xPl T h x).1 ∧ xTok (xPl T h x).1 ∧ (0 ≤ k ∧ k ≤ (xPl T h x).1.2.1)) → zFo (W.1 90 5) W V → zFr [(90, 0), (90, 6), (90, 25), (90, 26), (90, 27), (90, 28), (90, 29), (90, 33)] [93, 94, 95, 96, 97, 98, 100, 110, 111, 112, 113, 114] W V → zwp jtb zsh n zm_MTadd po K (lGo ak_ZMTadd 137) 137 [some (.inr (.inr (some (.inl 90)))), some (.inl x), some (.inl k), u3] [] V := by
    intro K V k u3 hK e0 e5 hG hfo hfr
    obtain ⟨g1, g2, g3, g4, g5⟩ := hG T h hh
    have gO := zRt_O g3 g4
    have fin : ∀ W151 : zW, (zAt W151 (xPo (zSt (zuF V 90 6 k) (V.1 90 5)) (zro (zuF V 90 6 k) 94 (V.1 90 5)) (zro (zuF V 90 6 k) 95 (V.1 90 5)) k) ∧ zFr [(90, 25), (90, 26), (90, 27), (90, 28), (90, 29), (90, 33)] [110, 111, 112, 113, 114] (zuF V 90 6 k) W151) → po (some (.inl k)) W151 := by
      rintro W151 ⟨r1, r2⟩
      refine hp k W151 ⟨fun T' h' z => ?_, ?_, ?_⟩
      · obtain ⟨q1, q2, q3, q4, q5⟩ := hG T' h' z
        have e5' : W151.1 90 5 = W.1 90 5 := (zFr_f r2 90 5).trans e5
        have qO := zRt_O q3 q4
        refine ⟨⟨by rw [e5']; exact hh.1, by rw [e5']; exact zRt_fr r2 (by decide) q3, q4, ?_, ?_, ?_⟩, ?_⟩
        · rw [q2]; exact zFr_f r2 90 6
        · rw [q2]; exact q5
        · rw [q2, ← qO.2 k q5.2]
          rw [e5] at r1
          exact r1
        · rw [zFr_f r2 90 0, q1]
          show 0 < V.1 90 0 ↔ _
          rw [e0]
          exact ⟨fun y => absurd y (by decide), fun y => absurd y (by decide)⟩
      · exact zFo_fr (show zFo (W.1 90 5) W (zuF V 90 6 k) from hfo) r2 (by decide)
      · exact zFr_t (zFr_F hfr (by decide)) (zFr_w r2 (by decide) (by decide))
    exact zp_MTadd_137 (by omega) hn ⟨⟨by rw [e5]; exact hh.1, ⟨(xPl T h x).1.2.1, ⟨g5.1, g5.2, g4.1.2⟩, by rw [e5]; exact gO.1⟩, by rw [e5]; exact g3.2.2.2.2⟩, fun W151 hr151 => (fin W151 hr151)⟩
  have h111 : ∀ (K : Nat) (V : zW) (t k d : Int), 150 ≤ K → V = zuF W 90 0 0 → ((t = 2 ∧ ∀ T' h', zHe W T' h' → xPl T' h' x = (T', h', 1)) ∨ (t = 0 ∧ ∀ T' h', zHe W T' h' → xPl T' h' x = (xApp T' h' x, T'.2.1 + 1, 0) ∧ T'.2.1 < 300 ∧ trE T'.2.2.1 (xLd T'.2.2.2.2.1) h' + (if T'.2.2.2.2.1 h' = [] then 0 else 1) ≤ 6)) → zwp jtb zsh n zm_MTadd po K (lGo ak_ZMTadd 111) 111 [some (.inr (.inr (some (.inl 90)))), some (.inl x), some (.inl k), some (.inl d)] [.inl t, .inr (.inr (some (.inl 90)))] V := by
    intro K V t k d hK eW ht
    have e5 : V.1 90 5 = W.1 90 5 := by rw [eW]; rfl
    have hfr : zFr [(90, 0), (90, 6), (90, 25), (90, 26), (90, 27), (90, 28), (90, 29), (90, 33)] [93, 94, 95, 96, 97, 98, 100, 110, 111, 112, 113, 114] W V := by rw [eW]; exact zFr_F zFr_0 (by decide)
    have z0 : ∀ {U : zW}, zFo (W.1 90 5) (zuF V 90 0 t) U → zFo (W.1 90 5) W U := by
      intro U z
      rw [eW] at z
      exact z
    have fault : ∀ (V : zW) (t : Int), ¬ t ≤ 0 → V = zuF W 90 0 0 → ((t = 2 ∧ ∀ T' h', zHe W T' h' → xPl T' h' x = (T', h', 1)) ∨ (t = 0 ∧ ∀ T' h', zHe W T' h' → xPl T' h' x = (xApp T' h' x, T'.2.1 + 1, 0) ∧ T'.2.1 < 300 ∧ trE T'.2.2.1 (xLd T'.2.2.2.2.1) h' + (if T'.2.2.2.2.1 h' = [] then 0 else 1) ≤ 6)) → po (some (.inl 0)) (zuF V 90 0 t) := by
      rintro V t ct rfl ht
      rcases ht with ⟨e, z⟩ | ⟨e, -⟩
      · refine hp _ _ ⟨fun T' h' y => ?_, zFo_0, zFr_F (zFr_F zFr_0 (by decide)) (by decide)⟩
        rw [z T' h' y]
        exact ⟨y, ⟨fun _ => rfl, fun _ => by show 0 < t; omega⟩⟩
      · omega
    have app : ∀ (W133 : zW) (r133 : Int), t ≤ 0 → (∀ T, zRt (zuF V 90 0 t) (V.1 90 5) T → xTok T → r133 = T.2.1 + 1 ∧ zRt W133 (V.1 90 5) (xApp T (V.1 90 6) x)) → ∀ T' h', zHe W T' h' → (xPl T' h' x).2.2 = 0 ∧ (xPl T' h' x).2.1 = r133 ∧ zRt W133 (W.1 90 5) (xPl T' h' x).1 ∧ xTok (xPl T' h' x).1 ∧ (0 ≤ r133 ∧ r133 ≤ (xPl T' h' x).1.2.1) := by
      intro W133 r133 ct hr T' h' z
      rcases ht with ⟨e, -⟩ | ⟨e, y⟩
      · omega
      · obtain ⟨y1, y2, y3⟩ := y T' h' z
        have e6 : V.1 90 6 = h' := by rw [eW]; exact z.2.2.2.1
        have a := hr T' (by rw [e5, eW]; exact z.2.1) z.2.2.1
        rw [e5, e6] at a
        rw [y1]
        have b := z.2.2.1.1.1
        refine ⟨rfl, a.1.symm, a.2, xApp_ok z.2.2.1 y2 z.2.2.2.2.1 (by rw [← eQ T' h' z]; exact hL) y3, by omega, ?_⟩
        show r133 ≤ T'.2.1 + 1
        omega
    exact zp_MTadd_111 (by omega) hn ⟨fun c118 => ⟨⟨by rw [e5]; exact hh.1, T, by rw [e5, eW]; exact hh.2.1, hh.2.2.1, by rw [eW]; show 0 ≤ W.1 90 6 ∧ W.1 90 6 ≤ T.2.1; rw [hh.2.2.2.1]; exact hh.2.2.2.2.1, by rcases ht with ⟨e, -⟩ | ⟨e, y⟩; omega; exact (y T h hh).2.1⟩, fun r133 W133 hr133 => (h137 _ W133 r133 _ (by omega) (by rw [zFr_f hr133.2.2 90 0]; show t = 0; omega) (by rw [zFr_f hr133.2.2 90 5]; exact e5) (fun T' h' z => app W133 r133 c118 hr133.1 T' h' z) (by have z := hr133.2.1; rw [e5] at z; exact z0 z) (zFr_t (zFr_F hfr (by decide)) (zFr_w hr133.2.2 (by decide) (by decide))))⟩, fun c118 => (fault V t c118 eW ht)⟩
  exact zp_MTadd_0 (by omega) hn ⟨⟨hh.2.2.2.2.2.2.2.2.1, hh.2.2.2.2.2.2.2.2.2.1⟩, fun r3 hr3 => ⟨fun c6 => (absurd hL (xBl_0 hr3 c6)), fun c6 => ⟨⟨hh.1, T, hh.2.1, hh.2.2.1, by rw [hh.2.2.2.1]; exact hh.2.2.2.2.1⟩, fun r36 hr36 => ⟨fun c41 => (h137 _ _ r36 _ (by omega) rfl rfl (fun T' h' z => child r36 hr36 c41 T' h' z) zFo_0 (zFr_F zFr_0 (by decide))), fun c41 => ⟨⟨hh.1, T, hh.2.1, hh.2.2.1, by rw [hh.2.2.2.1]; exact hh.2.2.2.2.1⟩, fun r53 hr53 => ⟨(by have z1 := hh.1; have z2 := hh.2.2.2.1; have z3 := hh.2.2.2.2.1; have z4 := hh.2.2.1.1; have z5 := dpb r53 hr53; omega), ⟨(by have z1 := hh.1; have z2 := hh.2.2.2.1; have z3 := hh.2.2.2.2.1; have z4 := hh.2.2.1.1; have z5 := dpb r53 hr53; omega), ⟨(by have z1 := hh.1; have z2 := hh.2.2.2.1; have z3 := hh.2.2.2.2.1; have z4 := hh.2.2.1.1; have z5 := dpb r53 hr53; omega), ⟨fun c74 => ⟨(by have z1 := hh.1; have z2 := hh.2.2.2.1; have z3 := hh.2.2.2.2.1; have z4 := hh.2.2.1.1; have z5 := dpb r53 hr53; omega), ⟨(by have z1 := hh.1; have z2 := hh.2.2.2.1; have z3 := hh.2.2.2.2.1; have z4 := hh.2.2.1.1; have z5 := dpb r53 hr53; omega), ⟨fun c97 => (h111 _ _ 2 r36 _ (by omega) rfl (Or.inl ⟨rfl, fun T' h' z => (room r36 r53 (r53 + 0) hr36 hr53 c41 (by omega) T' h' z).1 (by omega)⟩)), fun c97 => ⟨fun c103 => (h111 _ _ 0 r36 _ (by omega) rfl (Or.inr ⟨rfl, fun T' h' z => (room r36 r53 (r53 + 0) hr36 hr53 c41 (by omega) T' h' z).2 (by omega) (by omega)⟩)), fun c103 => (h111 _ _ 2 r36 _ (by omega) rfl (Or.inl ⟨rfl, fun T' h' z => (room r36 r53 (r53 + 0) hr36 hr53 c41 (by omega) T' h' z).1 (by omega)⟩))⟩⟩⟩⟩, fun c74 => ⟨(by have z1 := hh.1; have z2 := hh.2.2.2.1; have z3 := hh.2.2.2.2.1; have z4 := hh.2.2.1.1; have z5 := dpb r53 hr53; omega), ⟨(by have z1 := hh.1; have z2 := hh.2.2.2.1; have z3 := hh.2.2.2.2.1; have z4 := hh.2.2.1.1; have z5 := dpb r53 hr53; omega), ⟨fun c97 => (h111 _ _ 2 r36 _ (by omega) rfl (Or.inl ⟨rfl, fun T' h' z => (room r36 r53 (r53 + 1) hr36 hr53 c41 (by omega) T' h' z).1 (by omega)⟩)), fun c97 => ⟨fun c103 => (h111 _ _ 0 r36 _ (by omega) rfl (Or.inr ⟨rfl, fun T' h' z => (room r36 r53 (r53 + 1) hr36 hr53 c41 (by omega) T' h' z).2 (by omega) (by omega)⟩)), fun c103 => (h111 _ _ 2 r36 _ (by omega) rfl (Or.inl ⟨rfl, fun T' h' z => (room r36 r53 (r53 + 1) hr36 hr53 c41 (by omega) T' h' z).1 (by omega)⟩))⟩⟩⟩⟩⟩⟩⟩⟩⟩⟩⟩⟩⟩
end
section
/-! longs by their numbers -/
theorem z6_r (x : Int64) : -9223372036854775808 ≤ x.toInt ∧ x.toInt ≤ 9223372036854775807 := by
  have h1 := x.le_toInt
  have h2 := x.toInt_lt
  omega
theorem z6_mul {x y : Int64} (h : -9223372036854775808 ≤ x.toInt * y.toInt ∧ x.toInt * y.toInt ≤ 9223372036854775807) : (x * y).toInt = x.toInt * y.toInt := by
  rw [Int64.toInt_mul]
  exact Int.bmod_eq_of_le (by omega) (by omega)
theorem z6_add {x y : Int64} (h : -9223372036854775808 ≤ x.toInt + y.toInt ∧ x.toInt + y.toInt ≤ 9223372036854775807) : (x + y).toInt = x.toInt + y.toInt := by
  rw [Int64.toInt_add]
  exact Int.bmod_eq_of_le (by omega) (by omega)
theorem z6_sub {x y : Int64} (h : -9223372036854775808 ≤ x.toInt - y.toInt ∧ x.toInt - y.toInt ≤ 9223372036854775807) : (x - y).toInt = x.toInt - y.toInt := by
  rw [Int64.toInt_sub]
  exact Int.bmod_eq_of_le (by omega) (by omega)
theorem z6_neg {x : Int64} (h : -9223372036854775807 ≤ x.toInt) : (-x).toInt = -x.toInt := by
  have h2 := (z6_r x).2
  rw [Int64.toInt_neg]
  exact Int.bmod_eq_of_le (by omega) (by omega)
theorem z6_div {x y : Int64} (hx : 0 ≤ x.toInt) (hy : 0 < y.toInt) : (x / y).toInt = x.toInt / y.toInt := by
  have h1 := (z6_r x).2
  have h2 := Int.ediv_nonneg hx (Int.le_of_lt hy)
  have h3 := Int.ediv_le_self y.toInt hx
  rw [Int64.toInt_div, Int.tdiv_eq_ediv_of_nonneg hx]
  exact Int.bmod_eq_of_le (by omega) (by omega)
theorem z6_i {x : Int} (h : lRg x) : (lI x).toInt64.toInt = x := by
  rw [Int32.toInt_toInt64, lI_t h]
theorem z6_l {x : Int64} (h : lRg x.toInt) : x.toInt32.toInt = x.toInt := by
  unfold lRg at h
  rw [Int64.toInt_toInt32]
  exact Int.bmod_eq_of_le (by omega) (by omega)
theorem z6_c (x y : Int64) : ((lg_cmp x y).toInt = 1 ∧ y.toInt < x.toInt) ∨ ((lg_cmp x y).toInt = 0 ∧ x.toInt = y.toInt) ∨ ((lg_cmp x y).toInt = -1 ∧ x.toInt < y.toInt) := by
  unfold lg_cmp
  by_cases h1 : x > y
  · rw [if_pos h1]
    exact Or.inl ⟨by decide, Int64.lt_iff_toInt_lt.mp h1⟩
  · rw [if_neg h1]
    by_cases h2 : x = y
    · rw [if_pos h2, h2]
      exact Or.inr (Or.inl ⟨by decide, rfl⟩)
    · rw [if_neg h2]
      refine Or.inr (Or.inr ⟨by decide, ?_⟩)
      have h3 : ¬ y.toInt < x.toInt := fun z => h1 (Int64.lt_iff_toInt_lt.mpr z)
      have h4 : ¬ x.toInt = y.toInt := fun z => h2 (Int64.toInt_inj.mp z)
      omega
/-- a digit of a number -/
theorem z6_dg {a q : Int64} (ha : 0 ≤ a.toInt) (hq : 0 < q.toInt) : 0 ≤ (a / q - a / q / 10 * 10).toInt32.toInt ∧ (a / q - a / q / 10 * 10).toInt32.toInt ≤ 9 := by
  have e1 := z6_div ha hq
  have h0 := Int.ediv_nonneg ha (Int.le_of_lt hq)
  have e2 : (a / q / 10).toInt = (a / q).toInt / 10 := z6_div (y := 10) (by omega) (by decide)
  have h9 := z6_r (a / q)
  have e3 : (a / q / 10 * 10).toInt = (a / q / 10).toInt * 10 := z6_mul (y := 10) (by show _ ≤ _ * (10 : Int) ∧ _ * (10 : Int) ≤ _; omega)
  have e4 : (a / q - a / q / 10 * 10).toInt = (a / q).toInt - (a / q / 10 * 10).toInt := z6_sub (by omega)
  rw [z6_l (by unfold lRg; omega)]
  omega
end
section
/-! the reference: what it writes to OUT -/
/-- OUT is good -/
noncomputable def zOg (W : zW) : Prop := 0 ≤ W.1 87 3 ∧ W.1 87 3 ≤ 65536
noncomputable def zPt (W V : zW) : Prop := zFr [(87, 3)] [89] W V ∧ zOg V
theorem zPt_0 {W : zW} (h : zOg W) : zPt W W := ⟨zFr_0, h⟩
theorem zPt_t {W V U : zW} (h : zPt W V) (h2 : zPt V U) : zPt W U := ⟨zFr_t h.1 h2.1, h2.2⟩
theorem zOg_F {U : zW} {v : Int} (h : 0 ≤ v ∧ v ≤ 65536) : zOg (zuF U 87 3 v) := by
  unfold zOg
  rw [zuF_1, if_pos ⟨rfl, rfl⟩]
  exact h
theorem zOg_e {W V : zW} (h : zOg W) (e : V.1 87 3 = W.1 87 3) : zOg V := by
  unfold zOg
  rw [e]
  exact h
noncomputable def y_MM_put : jY := (⟨"ChessHouseModel", "put", "(C)V"⟩, prog_15_method_9_code, 2, none)
theorem m_MM_put : jmth lw_tbl y_MM_put 1 := ⟨jTA_in (wi := 2402) (jtF_ok rfl) rfl, jTA_in (wi := 314) (jtF_ok rfl) rfl, by decide, by decide, by decide +kernel⟩
theorem i_MM_put : Jvm.Cond.instanceMethod y_MM_put.1 ∈ jTA lw_tbl := jTA_in (wi := 2401) (jtF_ok rfl) rfl
theorem e_MM_put : Jvm.Cond.selects y_MM_put.1.cls y_MM_put.1 y_MM_put.1 ∈ jTA lw_tbl := jTA_in (wi := 133) (jtF_ok rfl) rfl
noncomputable def ak_ZMMput : List jI := [(.aload_n 0, 1, (0, 0, 0, 0, 0)), (.getfield 57, 3, (11, 3, 2305, 0, 0)), (.ldc 9, 2, (0, 0, 1907, 65536, 0)), (.if_icmp .ge 24, 3, (30, 0, 0, 0, 0)), (.aload_n 0, 1, (0, 0, 0, 0, 0)), (.getfield 14, 3, (11, 4, 2306, 0, 0)), (.aload_n 0, 1, (0, 0, 0, 0, 0)), (.getfield 57, 3, (11, 3, 2305, 0, 0)), (.iload_n 1, 1, (1, 0, 0, 0, 0)), (.i2b, 1, (0, 0, 0, 0, 0)), (.bastore, 1, (0, 0, 0, 0, 0)), (.aload_n 0, 1, (0, 0, 0, 0, 0)), (.dup, 1, (0, 0, 0, 0, 0)), (.getfield 57, 3, (11, 3, 2305, 0, 0)), (.iconst 1, 1, (0, 0, 0, 1, 0)), (.iadd, 1, (0, 0, 0, 0, 0)), (.putfield 57, 3, (11, 3, 2305, 0, 0)), (.return_, 1, (0, 0, 0, 0, 0))]
theorem ao_ZMMput : jokLG jtF lk_MM "ChessHouseModel" jcl jtb 2 prog_15_method_9_code 0 ak_ZMMput = true := by decide +kernel
noncomputable def zm_MMput : zM := (none, { frames := 0, cells := 0, slots := 0, locals := 0 }, ([], []), [], ak_ZMMput)
noncomputable def zc_MMput (vals : List zv) (W : zW) (post : zPo) : Prop := ∃ c : Int, vals = [.inr (.inr (some (.inl 87))), .inl (c)] ∧ (zOg W ∧ 0 ≤ c ∧ c ≤ 127) ∧ ∀ V : zW, (zPt W V) → post none V
set_option maxRecDepth 8000 in
theorem zp_MMput_0 {n K : Nat} {W : zW} {post : zPo} {c : Int}  (hK : 18 ≤ K) (hn : 142 ≤ n) (h : (65536 ≤ (W.1 87 3) → post none W) ∧ (¬ 65536 ≤ (W.1 87 3) → (-128 ≤ c ∧ c ≤ 127) ∧ ∀ t0 : Int, t0 = c → (0 ≤ (W.1 87 3) ∧ (W.1 87 3) < 65536) ∧ (-128 ≤ t0 ∧ t0 ≤ 127) ∧ (-2147483648 ≤ (W.1 87 3) + 1 ∧ (W.1 87 3) + 1 ≤ 2147483647) ∧ post none (zuF (zuR W 89 (W.1 87 3) t0) 87 3 ((W.1 87 3) + 1)))) : zwp jtb zsh n zm_MMput post K (lGo ak_ZMMput 0) 0 [some (.inr (.inr (some (.inl 87)))), some (.inl (c))] [] W := by
  obtain ⟨kk__, rfl⟩ : ∃ kk__, K = kk__ + 18 := ⟨K - 18, by omega⟩
  exact (show 87 < n ∧ 11 = 11 ∧ (65536 ≤ (W.1 87 3) → 1 = 1 ∧ (none : Option FieldType) = none ∧ post none W) ∧ (¬ 65536 ≤ (W.1 87 3) → 87 < n ∧ 11 = 11 ∧ 87 < n ∧ 11 = 11 ∧ 89 < n ∧ FieldType.byte = FieldType.byte ∧ (0 ≤ (W.1 87 3) ∧ (W.1 87 3) < 65536) ∧ (-128 ≤ ((lI c).toInt8.toInt32.toInt) ∧ ((lI c).toInt8.toInt32.toInt) ≤ 127) ∧ 87 < n ∧ 11 = 11 ∧ (-2147483648 ≤ (W.1 87 3) + 1 ∧ (W.1 87 3) + 1 ≤ 2147483647) ∧ 87 < n ∧ 11 = 11 ∧ (some 0 : Option Nat) = some 0 ∧ ((0 : Nat) = 0 ∨ ((0 : Nat) = 1 ∧ (((W.1 87 3) + 1) = 0 ∨ ((W.1 87 3) + 1) = 1))) ∧ 1 = 1 ∧ (none : Option FieldType) = none ∧ post none (zuF (zuR W 89 (W.1 87 3) ((lI c).toInt8.toInt32.toInt)) 87 3 ((W.1 87 3) + 1))) from ⟨(Nat.lt_of_lt_of_le (by decide) hn), rfl, ⟨fun c6_3 => ⟨rfl, rfl, ((h).1 c6_3)⟩, fun c6_3 => ⟨(Nat.lt_of_lt_of_le (by decide) hn), rfl, ⟨(Nat.lt_of_lt_of_le (by decide) hn), rfl, (have h := ((((h).2 c6_3)).2 _ (z_ib (((h).2 c6_3)).1)); ⟨(Nat.lt_of_lt_of_le (by decide) hn), rfl, (h).1, ((h).2).1, ⟨(Nat.lt_of_lt_of_le (by decide) hn), rfl, ⟨(((h).2).2).1, ⟨(Nat.lt_of_lt_of_le (by decide) hn), rfl, rfl, (Or.inl rfl), ⟨rfl, rfl, (((h).2).2).2⟩⟩⟩⟩⟩)⟩⟩⟩⟩)
theorem zk_MMput {l : Launch} {E : jE} {n : Nat} (hn : 142 ≤ n) : zHas l E jcl jtb lw_tbl zsh n (y_MM_put, false, 2, 11, { frames := 0, cells := 0, slots := 0, locals := 0 }, zc_MMput) := by
  refine ⟨⟨rfl, rfl, ⟨show 1 ≤ 2 by decide, m_MM_put, i_MM_put, e_MM_put, fun _ => ⟨_, rfl, rfl⟩⟩⟩, ?_⟩
  rintro vz W po hO hW ⟨c, rfl, hq, hp⟩
  refine zmet (m := zm_MMput) rfl (by decide) (fun _ _ => jtF_ok) lo_MM ao_ZMMput jC (fun q h => by cases h) (fun q h => by cases h) (fun q h => by cases h) (Nat.le_of_ble_eq_true rfl) hO hW (60) ?_
  exact zp_MMput_0 (by omega) hn ⟨fun c6 => (hp _ (zPt_0 hq.1)), fun c6 => ⟨(by have := hq.1; unfold zOg at this; omega), fun t0 e0 => ⟨(by have := hq.1; unfold zOg at this; omega), (by have := hq.1; unfold zOg at this; omega), ⟨(by have := hq.1; unfold zOg at this; omega), (hp _ ⟨(zFr_F (zFr_R zFr_0 (by decide)) (by decide)), zOg_F (by have := hq.1; unfold zOg at this; omega)⟩)⟩⟩⟩⟩
noncomputable def y_MM_begin : jY := (⟨"ChessHouseModel", "begin", "()V"⟩, prog_15_method_11_code, 1, none)
theorem m_MM_begin : jmth lw_tbl y_MM_begin 0 := ⟨jTA_in (wi := 2520) (jtF_ok rfl) rfl, jTA_in (wi := 314) (jtF_ok rfl) rfl, by decide, by decide, by decide +kernel⟩
theorem i_MM_begin : Jvm.Cond.instanceMethod y_MM_begin.1 ∈ jTA lw_tbl := jTA_in (wi := 2519) (jtF_ok rfl) rfl
theorem e_MM_begin : Jvm.Cond.selects y_MM_begin.1.cls y_MM_begin.1 y_MM_begin.1 ∈ jTA lw_tbl := jTA_in (wi := 156) (jtF_ok rfl) rfl
noncomputable def ak_ZMMbegin : List jI := [(.aload_n 0, 1, (0, 0, 0, 0, 0)), (.bipush 61, 2, (0, 0, 0, 61, 0)), (.invokevirtual 81, 3, (0, 0, 2399, 0, 0)), (.return_, 1, (0, 0, 0, 0, 0))]
theorem ao_ZMMbegin : jokLG jtF lk_MM "ChessHouseModel" jcl jtb 1 prog_15_method_11_code 0 ak_ZMMbegin = true := by decide +kernel
noncomputable def zm_MMbegin : zM := (none, { frames := 1, cells := 0, slots := 0, locals := 21 }, ([(81, 2399, 0)], []), [(y_MM_put, false, 2, 11, { frames := 0, cells := 0, slots := 0, locals := 0 }, zc_MMput)], ak_ZMMbegin)
noncomputable def zc_MMbegin (vals : List zv) (W : zW) (post : zPo) : Prop := vals = [.inr (.inr (some (.inl 87)))] ∧ (zOg W) ∧ ∀ V : zW, (zPt W V) → post none V
set_option maxRecDepth 8000 in
theorem zp_MMbegin_0 {n K : Nat} {W : zW} {post : zPo}  (hK : 4 ≤ K) (hn : 142 ≤ n) (h : (zOg W ∧ 0 ≤ (61 : Int) ∧ (61 : Int) ≤ 127) ∧ ∀ W3 : zW, (zPt W W3) → post none W3) : zwp jtb zsh n zm_MMbegin post K (lGo ak_ZMMbegin 0) 0 [some (.inr (.inr (some (.inl 87))))] [] W := by
  obtain ⟨kk__, rfl⟩ : ∃ kk__, K = kk__ + 4 := ⟨K - 4, by omega⟩
  exact (show 3 = 3 ∧ false = false ∧ jin3 81 2399 0 zm_MMbegin.2.2.1.1 = true ∧ lRm zm_MMbegin.2.1 { frames := 0, cells := 0, slots := 0, locals := 0 } 2 = true ∧ Nat.ble 2 2 = true ∧ Nat.ble 0 8 = true ∧ 87 < n ∧ 11 = 11 ∧ Nat.ble 1000 11 = false ∧ zc_MMput [.inr (.inr (some (.inl 87))), .inl (61)] W (fun vv__ WW__ => zwp jtb zsh n zm_MMbegin post (kk__ + 1) (lGo ak_ZMMbegin 6) 6 [some (.inr (.inr (some (.inl 87))))] (vv__.toList ++ []) WW__) from ⟨rfl, rfl, rfl, rfl, rfl, rfl, (Nat.lt_of_lt_of_le (by decide) hn), rfl, rfl, 61, rfl, (h).1, fun W3 hr3 => (show 1 = 1 ∧ (none : Option FieldType) = none ∧ post none W3 from ⟨rfl, rfl, ((h).2 W3 hr3)⟩)⟩)
theorem zk_MMbegin {l : Launch} {E : jE} {n : Nat} (hn : 142 ≤ n) : zHas l E jcl jtb lw_tbl zsh n (y_MM_begin, false, 1, 11, { frames := 1, cells := 0, slots := 0, locals := 21 }, zc_MMbegin) := by
  refine ⟨⟨rfl, rfl, ⟨show 1 ≤ 1 by decide, m_MM_begin, i_MM_begin, e_MM_begin, fun _ => ⟨_, rfl, rfl⟩⟩⟩, ?_⟩
  rintro vz W po hO hW ⟨rfl, hq, hp⟩
  refine zmet (m := zm_MMbegin) rfl (by decide) (fun _ _ => jtF_ok) lo_MM ao_ZMMbegin jC (fun q h => by cases h) (aAllc (fun G h => by obtain rfl := Option.some.inj h; exact ql_MM_81) (fun q h => by cases h)) (aAllc (zk_MMput hn) (fun q h => by cases h)) (Nat.le_of_ble_eq_true rfl) hO hW (60) ?_
  exact zp_MMbegin_0 (by omega) hn ⟨(⟨hq, by omega⟩), fun W3 hr3 => (hp _ hr3)⟩
noncomputable def y_MM_done : jY := (⟨"ChessHouseModel", "done", "()V"⟩, prog_15_method_14_code, 1, none)
theorem m_MM_done : jmth lw_tbl y_MM_done 0 := ⟨jTA_in (wi := 2415) (jtF_ok rfl) rfl, jTA_in (wi := 314) (jtF_ok rfl) rfl, by decide, by decide, by decide +kernel⟩
theorem i_MM_done : Jvm.Cond.instanceMethod y_MM_done.1 ∈ jTA lw_tbl := jTA_in (wi := 2414) (jtF_ok rfl) rfl
theorem e_MM_done : Jvm.Cond.selects y_MM_done.1.cls y_MM_done.1 y_MM_done.1 ∈ jTA lw_tbl := jTA_in (wi := 136) (jtF_ok rfl) rfl
noncomputable def ak_ZMMdone : List jI := [(.aload_n 0, 1, (0, 0, 0, 0, 0)), (.bipush 10, 2, (0, 0, 0, 10, 0)), (.invokevirtual 81, 3, (0, 0, 2399, 0, 0)), (.return_, 1, (0, 0, 0, 0, 0))]
theorem ao_ZMMdone : jokLG jtF lk_MM "ChessHouseModel" jcl jtb 1 prog_15_method_14_code 0 ak_ZMMdone = true := by decide +kernel
noncomputable def zm_MMdone : zM := (none, { frames := 1, cells := 0, slots := 0, locals := 21 }, ([(81, 2399, 0)], []), [(y_MM_put, false, 2, 11, { frames := 0, cells := 0, slots := 0, locals := 0 }, zc_MMput)], ak_ZMMdone)
noncomputable def zc_MMdone (vals : List zv) (W : zW) (post : zPo) : Prop := vals = [.inr (.inr (some (.inl 87)))] ∧ (zOg W) ∧ ∀ V : zW, (zPt W V) → post none V
set_option maxRecDepth 8000 in
theorem zp_MMdone_0 {n K : Nat} {W : zW} {post : zPo}  (hK : 4 ≤ K) (hn : 142 ≤ n) (h : (zOg W ∧ 0 ≤ (10 : Int) ∧ (10 : Int) ≤ 127) ∧ ∀ W3 : zW, (zPt W W3) → post none W3) : zwp jtb zsh n zm_MMdone post K (lGo ak_ZMMdone 0) 0 [some (.inr (.inr (some (.inl 87))))] [] W := by
  obtain ⟨kk__, rfl⟩ : ∃ kk__, K = kk__ + 4 := ⟨K - 4, by omega⟩
  exact (show 3 = 3 ∧ false = false ∧ jin3 81 2399 0 zm_MMdone.2.2.1.1 = true ∧ lRm zm_MMdone.2.1 { frames := 0, cells := 0, slots := 0, locals := 0 } 2 = true ∧ Nat.ble 2 2 = true ∧ Nat.ble 0 8 = true ∧ 87 < n ∧ 11 = 11 ∧ Nat.ble 1000 11 = false ∧ zc_MMput [.inr (.inr (some (.inl 87))), .inl (10)] W (fun vv__ WW__ => zwp jtb zsh n zm_MMdone post (kk__ + 1) (lGo ak_ZMMdone 6) 6 [some (.inr (.inr (some (.inl 87))))] (vv__.toList ++ []) WW__) from ⟨rfl, rfl, rfl, rfl, rfl, rfl, (Nat.lt_of_lt_of_le (by decide) hn), rfl, rfl, 10, rfl, (h).1, fun W3 hr3 => (show 1 = 1 ∧ (none : Option FieldType) = none ∧ post none W3 from ⟨rfl, rfl, ((h).2 W3 hr3)⟩)⟩)
theorem zk_MMdone {l : Launch} {E : jE} {n : Nat} (hn : 142 ≤ n) : zHas l E jcl jtb lw_tbl zsh n (y_MM_done, false, 1, 11, { frames := 1, cells := 0, slots := 0, locals := 21 }, zc_MMdone) := by
  refine ⟨⟨rfl, rfl, ⟨show 1 ≤ 1 by decide, m_MM_done, i_MM_done, e_MM_done, fun _ => ⟨_, rfl, rfl⟩⟩⟩, ?_⟩
  rintro vz W po hO hW ⟨rfl, hq, hp⟩
  refine zmet (m := zm_MMdone) rfl (by decide) (fun _ _ => jtF_ok) lo_MM ao_ZMMdone jC (fun q h => by cases h) (aAllc (fun G h => by obtain rfl := Option.some.inj h; exact ql_MM_81) (fun q h => by cases h)) (aAllc (zk_MMput hn) (fun q h => by cases h)) (Nat.le_of_ble_eq_true rfl) hO hW (60) ?_
  exact zp_MMdone_0 (by omega) hn ⟨(⟨hq, by omega⟩), fun W3 hr3 => (hp _ hr3)⟩
noncomputable def y_MM_sayChar : jY := (⟨"ChessHouseModel", "sayChar", "(C)V"⟩, prog_15_method_13_code, 2, none)
theorem m_MM_sayChar : jmth lw_tbl y_MM_sayChar 1 := ⟨jTA_in (wi := 3186) (jtF_ok rfl) rfl, jTA_in (wi := 314) (jtF_ok rfl) rfl, by decide, by decide, by decide +kernel⟩
theorem i_MM_sayChar : Jvm.Cond.instanceMethod y_MM_sayChar.1 ∈ jTA lw_tbl := jTA_in (wi := 3185) (jtF_ok rfl) rfl
theorem e_MM_sayChar : Jvm.Cond.selects y_MM_sayChar.1.cls y_MM_sayChar.1 y_MM_sayChar.1 ∈ jTA lw_tbl := jTA_in (wi := 280) (jtF_ok rfl) rfl
noncomputable def ak_ZMMsayC : List jI := [(.aload_n 0, 1, (0, 0, 0, 0, 0)), (.bipush 32, 2, (0, 0, 0, 32, 0)), (.invokevirtual 81, 3, (0, 0, 2399, 0, 0)), (.aload_n 0, 1, (0, 0, 0, 0, 0)), (.iload_n 1, 1, (1, 0, 0, 0, 0)), (.invokevirtual 81, 3, (0, 0, 2399, 0, 0)), (.return_, 1, (0, 0, 0, 0, 0))]
theorem ao_ZMMsayC : jokLG jtF lk_MM "ChessHouseModel" jcl jtb 2 prog_15_method_13_code 0 ak_ZMMsayC = true := by decide +kernel
noncomputable def zm_MMsayC : zM := (none, { frames := 1, cells := 0, slots := 0, locals := 21 }, ([(81, 2399, 0)], []), [(y_MM_put, false, 2, 11, { frames := 0, cells := 0, slots := 0, locals := 0 }, zc_MMput)], ak_ZMMsayC)
noncomputable def zc_MMsayC (vals : List zv) (W : zW) (post : zPo) : Prop := ∃ c : Int, vals = [.inr (.inr (some (.inl 87))), .inl (c)] ∧ (zOg W ∧ 0 ≤ c ∧ c ≤ 127) ∧ ∀ V : zW, (zPt W V) → post none V
set_option maxRecDepth 8000 in
theorem zp_MMsayC_0 {n K : Nat} {W : zW} {post : zPo} {c : Int}  (hK : 7 ≤ K) (hn : 142 ≤ n) (h : (zOg W ∧ 0 ≤ (32 : Int) ∧ (32 : Int) ≤ 127) ∧ ∀ W3 : zW, (zPt W W3) → (zOg W3 ∧ 0 ≤ c ∧ c ≤ 127) ∧ ∀ W8 : zW, (zPt W3 W8) → post none W8) : zwp jtb zsh n zm_MMsayC post K (lGo ak_ZMMsayC 0) 0 [some (.inr (.inr (some (.inl 87)))), some (.inl (c))] [] W := by
  obtain ⟨kk__, rfl⟩ : ∃ kk__, K = kk__ + 7 := ⟨K - 7, by omega⟩
  exact (show 3 = 3 ∧ false = false ∧ jin3 81 2399 0 zm_MMsayC.2.2.1.1 = true ∧ lRm zm_MMsayC.2.1 { frames := 0, cells := 0, slots := 0, locals := 0 } 2 = true ∧ Nat.ble 2 2 = true ∧ Nat.ble 0 8 = true ∧ 87 < n ∧ 11 = 11 ∧ Nat.ble 1000 11 = false ∧ zc_MMput [.inr (.inr (some (.inl 87))), .inl (32)] W (fun vv__ WW__ => zwp jtb zsh n zm_MMsayC post (kk__ + 4) (lGo ak_ZMMsayC 6) 6 [some (.inr (.inr (some (.inl 87)))), some (.inl (c))] (vv__.toList ++ []) WW__) from ⟨rfl, rfl, rfl, rfl, rfl, rfl, (Nat.lt_of_lt_of_le (by decide) hn), rfl, rfl, 32, rfl, (h).1, fun W3 hr3 => (show 3 = 3 ∧ false = false ∧ jin3 81 2399 0 zm_MMsayC.2.2.1.1 = true ∧ lRm zm_MMsayC.2.1 { frames := 0, cells := 0, slots := 0, locals := 0 } 2 = true ∧ Nat.ble 2 2 = true ∧ Nat.ble 0 8 = true ∧ 87 < n ∧ 11 = 11 ∧ Nat.ble 1000 11 = false ∧ zc_MMput [.inr (.inr (some (.inl 87))), .inl (c)] W3 (fun vv__ WW__ => zwp jtb zsh n zm_MMsayC post (kk__ + 1) (lGo ak_ZMMsayC 11) 11 [some (.inr (.inr (some (.inl 87)))), some (.inl (c))] (vv__.toList ++ []) WW__) from ⟨rfl, rfl, rfl, rfl, rfl, rfl, (Nat.lt_of_lt_of_le (by decide) hn), rfl, rfl, c, rfl, (((h).2 W3 hr3)).1, fun W8 hr8 => (show 1 = 1 ∧ (none : Option FieldType) = none ∧ post none W8 from (have h := ((((h).2 W3 hr3)).2 W8 hr8); ⟨rfl, rfl, h⟩))⟩)⟩)
theorem zk_MMsayC {l : Launch} {E : jE} {n : Nat} (hn : 142 ≤ n) : zHas l E jcl jtb lw_tbl zsh n (y_MM_sayChar, false, 2, 11, { frames := 1, cells := 0, slots := 0, locals := 21 }, zc_MMsayC) := by
  refine ⟨⟨rfl, rfl, ⟨show 1 ≤ 2 by decide, m_MM_sayChar, i_MM_sayChar, e_MM_sayChar, fun _ => ⟨_, rfl, rfl⟩⟩⟩, ?_⟩
  rintro vz W po hO hW ⟨c, rfl, hq, hp⟩
  refine zmet (m := zm_MMsayC) rfl (by decide) (fun _ _ => jtF_ok) lo_MM ao_ZMMsayC jC (fun q h => by cases h) (aAllc (fun G h => by obtain rfl := Option.some.inj h; exact ql_MM_81) (fun q h => by cases h)) (aAllc (zk_MMput hn) (fun q h => by cases h)) (Nat.le_of_ble_eq_true rfl) hO hW (60) ?_
  exact zp_MMsayC_0 (by omega) hn ⟨(⟨hq.1, by omega⟩), fun W3 hr3 => ⟨(⟨hr3.2, hq.2⟩), fun W8 hr8 => (hp _ (zPt_t hr3 hr8))⟩⟩
noncomputable def y_MM_nothing : jY := (⟨"ChessHouseModel", "nothing", "()V"⟩, prog_15_method_16_code, 1, none)
theorem m_MM_nothing : jmth lw_tbl y_MM_nothing 0 := ⟨jTA_in (wi := 2516) (jtF_ok rfl) rfl, jTA_in (wi := 314) (jtF_ok rfl) rfl, by decide, by decide, by decide +kernel⟩
theorem i_MM_nothing : Jvm.Cond.instanceMethod y_MM_nothing.1 ∈ jTA lw_tbl := jTA_in (wi := 2515) (jtF_ok rfl) rfl
theorem e_MM_nothing : Jvm.Cond.selects y_MM_nothing.1.cls y_MM_nothing.1 y_MM_nothing.1 ∈ jTA lw_tbl := jTA_in (wi := 155) (jtF_ok rfl) rfl
noncomputable def ak_ZMMnothing : List jI := [(.aload_n 0, 1, (0, 0, 0, 0, 0)), (.invokevirtual 91, 3, (0, 0, 2517, 0, 0)), (.aload_n 0, 1, (0, 0, 0, 0, 0)), (.invokevirtual 97, 3, (1, 0, 2412, 0, 0)), (.return_, 1, (0, 0, 0, 0, 0))]
theorem ao_ZMMnothing : jokLG jtF lk_MM "ChessHouseModel" jcl jtb 1 prog_15_method_16_code 0 ak_ZMMnothing = true := by decide +kernel
noncomputable def zm_MMnothing : zM := (none, { frames := 2, cells := 0, slots := 0, locals := 41 }, ([(91, 2517, 0), (97, 2412, 1)], []), [(y_MM_begin, false, 1, 11, { frames := 1, cells := 0, slots := 0, locals := 21 }, zc_MMbegin), (y_MM_done, false, 1, 11, { frames := 1, cells := 0, slots := 0, locals := 21 }, zc_MMdone)], ak_ZMMnothing)
noncomputable def zc_MMnothing (vals : List zv) (W : zW) (post : zPo) : Prop := vals = [.inr (.inr (some (.inl 87)))] ∧ (zOg W) ∧ ∀ V : zW, (zPt W V) → post none V
set_option maxRecDepth 8000 in
theorem zp_MMnothing_0 {n K : Nat} {W : zW} {post : zPo}  (hK : 5 ≤ K) (hn : 142 ≤ n) (h : (zOg W) ∧ ∀ W1 : zW, (zPt W W1) → (zOg W1) ∧ ∀ W5 : zW, (zPt W1 W5) → post none W5) : zwp jtb zsh n zm_MMnothing post K (lGo ak_ZMMnothing 0) 0 [some (.inr (.inr (some (.inl 87))))] [] W := by
  obtain ⟨kk__, rfl⟩ : ∃ kk__, K = kk__ + 5 := ⟨K - 5, by omega⟩
  exact (show 3 = 3 ∧ false = false ∧ jin3 91 2517 0 zm_MMnothing.2.2.1.1 = true ∧ lRm zm_MMnothing.2.1 { frames := 1, cells := 0, slots := 0, locals := 21 } 1 = true ∧ Nat.ble 1 1 = true ∧ Nat.ble 0 8 = true ∧ 87 < n ∧ 11 = 11 ∧ Nat.ble 1000 11 = false ∧ zc_MMbegin [.inr (.inr (some (.inl 87)))] W (fun vv__ WW__ => zwp jtb zsh n zm_MMnothing post (kk__ + 3) (lGo ak_ZMMnothing 4) 4 [some (.inr (.inr (some (.inl 87))))] (vv__.toList ++ []) WW__) from ⟨rfl, rfl, rfl, rfl, rfl, rfl, (Nat.lt_of_lt_of_le (by decide) hn), rfl, rfl, rfl, (h).1, fun W1 hr1 => (show 3 = 3 ∧ false = false ∧ jin3 97 2412 1 zm_MMnothing.2.2.1.1 = true ∧ lRm zm_MMnothing.2.1 { frames := 1, cells := 0, slots := 0, locals := 21 } 1 = true ∧ Nat.ble 1 1 = true ∧ Nat.ble 0 8 = true ∧ 87 < n ∧ 11 = 11 ∧ Nat.ble 1000 11 = false ∧ zc_MMdone [.inr (.inr (some (.inl 87)))] W1 (fun vv__ WW__ => zwp jtb zsh n zm_MMnothing post (kk__ + 1) (lGo ak_ZMMnothing 8) 8 [some (.inr (.inr (some (.inl 87))))] (vv__.toList ++ []) WW__) from ⟨rfl, rfl, rfl, rfl, rfl, rfl, (Nat.lt_of_lt_of_le (by decide) hn), rfl, rfl, rfl, (((h).2 W1 hr1)).1, fun W5 hr5 => (show 1 = 1 ∧ (none : Option FieldType) = none ∧ post none W5 from (have h := ((((h).2 W1 hr1)).2 W5 hr5); ⟨rfl, rfl, h⟩))⟩)⟩)
theorem zk_MMnothing {l : Launch} {E : jE} {n : Nat} (hn : 142 ≤ n) : zHas l E jcl jtb lw_tbl zsh n (y_MM_nothing, false, 1, 11, { frames := 2, cells := 0, slots := 0, locals := 41 }, zc_MMnothing) := by
  refine ⟨⟨rfl, rfl, ⟨show 1 ≤ 1 by decide, m_MM_nothing, i_MM_nothing, e_MM_nothing, fun _ => ⟨_, rfl, rfl⟩⟩⟩, ?_⟩
  rintro vz W po hO hW ⟨rfl, hq, hp⟩
  refine zmet (m := zm_MMnothing) rfl (by decide) (fun _ _ => jtF_ok) lo_MM ao_ZMMnothing jC (fun q h => by cases h) (aAllc (fun G h => by obtain rfl := Option.some.inj h; exact ql_MM_91) (aAllc (fun G h => by obtain rfl := Option.some.inj h; exact ql_MM_97) (fun q h => by cases h))) (aAllc (zk_MMbegin hn) (aAllc (zk_MMdone hn) (fun q h => by cases h))) (Nat.le_of_ble_eq_true rfl) hO hW (60) ?_
  exact zp_MMnothing_0 (by omega) hn ⟨hq, fun W1 hr1 => ⟨hr1.2, fun W5 hr5 => (hp _ (zPt_t hr1 hr5))⟩⟩
noncomputable def y_MM_putNumber : jY := (⟨"ChessHouseModel", "putNumber", "(J)V"⟩, prog_15_method_10_code, 7, none)
theorem m_MM_putNumber : jmth lw_tbl y_MM_putNumber 1 := ⟨jTA_in (wi := 2410) (jtF_ok rfl) rfl, jTA_in (wi := 314) (jtF_ok rfl) rfl, by decide, by decide, by decide +kernel⟩
theorem i_MM_putNumber : Jvm.Cond.instanceMethod y_MM_putNumber.1 ∈ jTA lw_tbl := jTA_in (wi := 2409) (jtF_ok rfl) rfl
theorem e_MM_putNumber : Jvm.Cond.selects y_MM_putNumber.1.cls y_MM_putNumber.1 y_MM_putNumber.1 ∈ jTA lw_tbl := jTA_in (wi := 135) (jtF_ok rfl) rfl
noncomputable def ak_ZMMputN : List jI := [(.lload_n 1, 1, (1, 0, 0, 0, 0)), (.lconst 0, 1, (0, 0, 0, 0, 0)), (.lcmp, 1, (0, 0, 0, 0, 0)), (.ifCond .ge 9, 3, (12, 0, 0, 0, 0)), (.aload_n 0, 1, (0, 0, 0, 0, 0)), (.bipush 45, 2, (0, 0, 0, 45, 0)), (.invokevirtual 81, 3, (0, 0, 2399, 0, 0)), (.lload_n 1, 1, (1, 0, 0, 0, 0)), (.lconst 0, 1, (0, 0, 0, 0, 0)), (.lcmp, 1, (0, 0, 0, 0, 0)), (.ifCond .ge 8, 3, (23, 0, 0, 0, 0)), (.lload_n 1, 1, (1, 0, 0, 0, 0)), (.lneg, 1, (0, 0, 0, 0, 0)), (.goto 4, 3, (24, 0, 0, 0, 0)), (.lload_n 1, 1, (1, 0, 0, 0, 0)), (.lstore_n 3, 1, (3, 0, 0, 0, 0)), (.lconst 1, 1, (0, 0, 0, 0, 1)), (.lstore 5, 2, (5, 0, 0, 0, 0)), (.lload 5, 2, (5, 0, 0, 0, 0)), (.ldc2_w 85, 3, (0, 0, 2411, 0, 10)), (.lmul, 1, (1, 0, 0, 0, 0)), (.lload_n 3, 1, (3, 0, 0, 0, 0)), (.lcmp, 1, (1, 0, 0, 0, 0)), (.ifCond .gt 14, 3, (50, 0, 0, 0, 0)), (.lload 5, 2, (5, 0, 0, 0, 0)), (.ldc2_w 85, 3, (0, 0, 2411, 0, 10)), (.lmul, 1, (1, 0, 0, 0, 0)), (.lstore 5, 2, (5, 0, 0, 0, 0)), (.goto (-19), 3, (28, 0, 0, 0, 0)), (.lload 5, 2, (5, 0, 0, 0, 0)), (.lconst 0, 1, (0, 0, 0, 0, 0)), (.lcmp, 1, (1, 0, 0, 0, 0)), (.ifCond .le 31, 3, (85, 0, 0, 0, 0)), (.aload_n 0, 1, (0, 0, 0, 0, 0)), (.bipush 48, 2, (0, 0, 0, 48, 0)), (.lload_n 3, 1, (3, 0, 0, 0, 0)), (.lload 5, 2, (5, 0, 0, 0, 0)), (.ldiv, 1, (0, 0, 0, 0, 0)), (.ldc2_w 85, 3, (0, 0, 2411, 0, 10)), (.lrem, 1, (0, 0, 0, 0, 0)), (.l2i, 1, (0, 0, 0, 0, 0)), (.iadd, 1, (0, 0, 0, 0, 0)), (.i2c, 1, (0, 0, 0, 0, 0)), (.invokevirtual 81, 3, (0, 0, 2399, 0, 0)), (.lload 5, 2, (5, 0, 0, 0, 0)), (.ldc2_w 85, 3, (0, 0, 2411, 0, 10)), (.ldiv, 1, (1, 0, 0, 0, 0)), (.lstore 5, 2, (5, 0, 0, 0, 0)), (.goto (-32), 3, (50, 0, 0, 0, 0)), (.return_, 1, (0, 0, 0, 0, 0))]
theorem ao_ZMMputN : jokLG jtF lk_MM "ChessHouseModel" jcl jtb 7 prog_15_method_10_code 0 ak_ZMMputN = true := by decide +kernel
noncomputable def zm_MMputN : zM := (none, { frames := 1, cells := 0, slots := 0, locals := 21 }, ([(81, 2399, 0)], []), [(y_MM_put, false, 2, 11, { frames := 0, cells := 0, slots := 0, locals := 0 }, zc_MMput)], ak_ZMMputN)
noncomputable def zc_MMputN (vals : List zv) (W : zW) (post : zPo) : Prop := ∃ x : Int64, vals = [.inr (.inr (some (.inl 87))), .inr (.inl (x))] ∧ (zOg W ∧ lRg (x : Int64).toInt) ∧ ∀ V : zW, (zPt W V) → post none V
set_option maxRecDepth 8000 in
theorem zp_MMputN_0 {n K : Nat} {W : zW} {post : zPo} {x : Int64} {u3 u4 u5 u6 : Option zv} (hK : 17 ≤ K) (hn : 142 ≤ n) (h : (0 ≤ ((lg_cmp x 0).toInt) → (0 ≤ ((lg_cmp x 0).toInt) → zwp jtb zsh n zm_MMputN post (K - 12) (lGo ak_ZMMputN 28) 28 [some (.inr (.inr (some (.inl 87)))), some (.inr (.inl (x))), none, some (.inr (.inl (x))), none, some (.inr (.inl (1))), none] [] W) ∧ (¬ 0 ≤ ((lg_cmp x 0).toInt) → zwp jtb zsh n zm_MMputN post (K - 14) (lGo ak_ZMMputN 28) 28 [some (.inr (.inr (some (.inl 87)))), some (.inr (.inl (x))), none, some (.inr (.inl (-x))), none, some (.inr (.inl (1))), none] [] W)) ∧ (¬ 0 ≤ ((lg_cmp x 0).toInt) → (zOg W ∧ 0 ≤ (45 : Int) ∧ (45 : Int) ≤ 127) ∧ ∀ W9 : zW, (zPt W W9) → (0 ≤ ((lg_cmp x 0).toInt) → zwp jtb zsh n zm_MMputN post (K - 15) (lGo ak_ZMMputN 28) 28 [some (.inr (.inr (some (.inl 87)))), some (.inr (.inl (x))), none, some (.inr (.inl (x))), none, some (.inr (.inl (1))), none] [] W9) ∧ (¬ 0 ≤ ((lg_cmp x 0).toInt) → zwp jtb zsh n zm_MMputN post (K - 17) (lGo ak_ZMMputN 28) 28 [some (.inr (.inr (some (.inl 87)))), some (.inr (.inl (x))), none, some (.inr (.inl (-x))), none, some (.inr (.inl (1))), none] [] W9))) : zwp jtb zsh n zm_MMputN post K (lGo ak_ZMMputN 0) 0 [some (.inr (.inr (some (.inl 87)))), some (.inr (.inl (x))), none, u3, u4, u5, u6] [] W := by
  obtain ⟨kk__, rfl⟩ : ∃ kk__, K = kk__ + 17 := ⟨K - 17, by omega⟩
  exact (show (0 ≤ ((lg_cmp x 0).toInt) → (0 ≤ ((lg_cmp x 0).toInt) → zwp jtb zsh n zm_MMputN post (kk__ + 5) (lGo ak_ZMMputN 28) 28 [some (.inr (.inr (some (.inl 87)))), some (.inr (.inl (x))), none, some (.inr (.inl (x))), none, some (.inr (.inl (1))), none] [] W) ∧ (¬ 0 ≤ ((lg_cmp x 0).toInt) → zwp jtb zsh n zm_MMputN post (kk__ + 3) (lGo ak_ZMMputN 28) 28 [some (.inr (.inr (some (.inl 87)))), some (.inr (.inl (x))), none, some (.inr (.inl (-x))), none, some (.inr (.inl (1))), none] [] W)) ∧ (¬ 0 ≤ ((lg_cmp x 0).toInt) → 3 = 3 ∧ false = false ∧ jin3 81 2399 0 zm_MMputN.2.2.1.1 = true ∧ lRm zm_MMputN.2.1 { frames := 0, cells := 0, slots := 0, locals := 0 } 2 = true ∧ Nat.ble 2 2 = true ∧ Nat.ble 0 8 = true ∧ 87 < n ∧ 11 = 11 ∧ Nat.ble 1000 11 = false ∧ zc_MMput [.inr (.inr (some (.inl 87))), .inl (45)] W (fun vv__ WW__ => zwp jtb zsh n zm_MMputN post (kk__ + 10) (lGo ak_ZMMputN 12) 12 [some (.inr (.inr (some (.inl 87)))), some (.inr (.inl (x))), none, u3, u4, u5, u6] (vv__.toList ++ []) WW__)) from ⟨fun c3_3 => ⟨fun c15_7 => ((((h).1 c3_3)).1 c15_7), fun c15_7 => ((((h).1 c3_3)).2 c15_7)⟩, fun c3_3 => ⟨rfl, rfl, rfl, rfl, rfl, rfl, (Nat.lt_of_lt_of_le (by decide) hn), rfl, rfl, 45, rfl, (((h).2 c3_3)).1, fun W9 hr9 => (show (0 ≤ ((lg_cmp x 0).toInt) → zwp jtb zsh n zm_MMputN post (kk__ + 2) (lGo ak_ZMMputN 28) 28 [some (.inr (.inr (some (.inl 87)))), some (.inr (.inl (x))), none, some (.inr (.inl (x))), none, some (.inr (.inl (1))), none] [] W9) ∧ (¬ 0 ≤ ((lg_cmp x 0).toInt) → zwp jtb zsh n zm_MMputN post (kk__ + 0) (lGo ak_ZMMputN 28) 28 [some (.inr (.inr (some (.inl 87)))), some (.inr (.inl (x))), none, some (.inr (.inl (-x))), none, some (.inr (.inl (1))), none] [] W9) from (have h := ((((h).2 c3_3)).2 W9 hr9); ⟨fun c15_10 => ((h).1 c15_10), fun c15_10 => ((h).2 c15_10)⟩))⟩⟩)
set_option maxRecDepth 8000 in
theorem zp_MMputN_28 {n K : Nat} {V : zW} {post : zPo} {x a q : Int64}  (hK : 11 ≤ K) (hn : 142 ≤ n) (h : (0 < ((lg_cmp (q * 10) a).toInt) → zwp jtb zsh n zm_MMputN post (K - 6) (lGo ak_ZMMputN 50) 50 [some (.inr (.inr (some (.inl 87)))), some (.inr (.inl (x))), none, some (.inr (.inl (a))), none, some (.inr (.inl (q))), none] [] V) ∧ (¬ 0 < ((lg_cmp (q * 10) a).toInt) → zwp jtb zsh n zm_MMputN post (K - 11) (lGo ak_ZMMputN 28) 28 [some (.inr (.inr (some (.inl 87)))), some (.inr (.inl (x))), none, some (.inr (.inl (a))), none, some (.inr (.inl (q * 10))), none] [] V)) : zwp jtb zsh n zm_MMputN post K (lGo ak_ZMMputN 28) 28 [some (.inr (.inr (some (.inl 87)))), some (.inr (.inl (x))), none, some (.inr (.inl (a))), none, some (.inr (.inl (q))), none] [] V := by
  obtain ⟨kk__, rfl⟩ : ∃ kk__, K = kk__ + 11 := ⟨K - 11, by omega⟩
  exact (show (0 < ((lg_cmp (q * 10) a).toInt) → zwp jtb zsh n zm_MMputN post (kk__ + 5) (lGo ak_ZMMputN 50) 50 [some (.inr (.inr (some (.inl 87)))), some (.inr (.inl (x))), none, some (.inr (.inl (a))), none, some (.inr (.inl (q))), none] [] V) ∧ (¬ 0 < ((lg_cmp (q * 10) a).toInt) → zwp jtb zsh n zm_MMputN post (kk__ + 0) (lGo ak_ZMMputN 28) 28 [some (.inr (.inr (some (.inl 87)))), some (.inr (.inl (x))), none, some (.inr (.inl (a))), none, some (.inr (.inl (q * 10))), none] [] V) from ⟨fun c36_5 => ((h).1 c36_5), fun c36_5 => ((h).2 c36_5)⟩)
set_option maxRecDepth 8000 in
theorem zp_MMputN_50 {n K : Nat} {V : zW} {post : zPo} {x a q : Int64}  (hK : 20 ≤ K) (hn : 142 ≤ n) (h : (((lg_cmp q 0).toInt) ≤ 0 → post none V) ∧ (¬ ((lg_cmp q 0).toInt) ≤ 0 → ¬ q = 0 ∧ (-2147483648 ≤ 48 + (((a / q) - (a / q) / 10 * 10).toInt32.toInt) ∧ 48 + (((a / q) - (a / q) / 10 * 10).toInt32.toInt) ≤ 2147483647) ∧ (0 ≤ (48 + (((a / q) - (a / q) / 10 * 10).toInt32.toInt)) ∧ (48 + (((a / q) - (a / q) / 10 * 10).toInt32.toInt)) ≤ 65535) ∧ ∀ t0 : Int, t0 = 48 + (((a / q) - (a / q) / 10 * 10).toInt32.toInt) → (zOg V ∧ 0 ≤ t0 ∧ t0 ≤ 127) ∧ ∀ W71 : zW, (zPt V W71) → zwp jtb zsh n zm_MMputN post (K - 20) (lGo ak_ZMMputN 50) 50 [some (.inr (.inr (some (.inl 87)))), some (.inr (.inl (x))), none, some (.inr (.inl (a))), none, some (.inr (.inl (q / 10))), none] [] W71)) : zwp jtb zsh n zm_MMputN post K (lGo ak_ZMMputN 50) 50 [some (.inr (.inr (some (.inl 87)))), some (.inr (.inl (x))), none, some (.inr (.inl (a))), none, some (.inr (.inl (q))), none] [] V := by
  obtain ⟨kk__, rfl⟩ : ∃ kk__, K = kk__ + 20 := ⟨K - 20, by omega⟩
  exact (show (((lg_cmp q 0).toInt) ≤ 0 → 1 = 1 ∧ (none : Option FieldType) = none ∧ post none V) ∧ (¬ ((lg_cmp q 0).toInt) ≤ 0 → ¬ q = 0 ∧ ¬ (10 : Int64) = 0 ∧ (-2147483648 ≤ 48 + (((a / q) - (a / q) / 10 * 10).toInt32.toInt) ∧ 48 + (((a / q) - (a / q) / 10 * 10).toInt32.toInt) ≤ 2147483647) ∧ 3 = 3 ∧ false = false ∧ jin3 81 2399 0 zm_MMputN.2.2.1.1 = true ∧ lRm zm_MMputN.2.1 { frames := 0, cells := 0, slots := 0, locals := 0 } 2 = true ∧ Nat.ble 2 2 = true ∧ Nat.ble 0 8 = true ∧ 87 < n ∧ 11 = 11 ∧ Nat.ble 1000 11 = false ∧ zc_MMput [.inr (.inr (some (.inl 87))), .inl ((((lI (48 + (((a / q) - (a / q) / 10 * 10).toInt32.toInt))).toUInt32 % 65536).toInt32.toInt))] V (fun vv__ WW__ => zwp jtb zsh n zm_MMputN post (kk__ + 5) (lGo ak_ZMMputN 74) 74 [some (.inr (.inr (some (.inl 87)))), some (.inr (.inl (x))), none, some (.inr (.inl (a))), none, some (.inr (.inl (q))), none] (vv__.toList ++ []) WW__)) from ⟨fun c54_3 => ⟨rfl, rfl, ((h).1 c54_3)⟩, fun c54_3 => ⟨(((h).2 c54_3)).1, ⟨(by decide), ⟨((((h).2 c54_3)).2).1, (have h := ((((((h).2 c54_3)).2).2).2 _ (z_ic (((((h).2 c54_3)).2).2).1)); ⟨rfl, rfl, rfl, rfl, rfl, rfl, (Nat.lt_of_lt_of_le (by decide) hn), rfl, rfl, (((lI (48 + (((a / q) - (a / q) / 10 * 10).toInt32.toInt))).toUInt32 % 65536).toInt32.toInt), rfl, (h).1, fun W71 hr71 => (show ¬ (10 : Int64) = 0 ∧ zwp jtb zsh n zm_MMputN post (kk__ + 0) (lGo ak_ZMMputN 50) 50 [some (.inr (.inr (some (.inl 87)))), some (.inr (.inl (x))), none, some (.inr (.inl (a))), none, some (.inr (.inl (q / 10))), none] [] W71 from ⟨(by decide), ((h).2 W71 hr71)⟩)⟩)⟩⟩⟩⟩)
theorem zk_MMputN {l : Launch} {E : jE} {n : Nat} (hn : 142 ≤ n) : zHas l E jcl jtb lw_tbl zsh n (y_MM_putNumber, false, 2, 11, { frames := 1, cells := 0, slots := 0, locals := 21 }, zc_MMputN) := by
  refine ⟨⟨rfl, rfl, ⟨show 1 ≤ 2 by decide, m_MM_putNumber, i_MM_putNumber, e_MM_putNumber, fun _ => ⟨_, rfl, rfl⟩⟩⟩, ?_⟩
  rintro vz W po hO hW ⟨x, rfl, hq, hp⟩
  refine zmet (m := zm_MMputN) rfl (by decide) (fun _ _ => jtF_ok) lo_MM ao_ZMMputN jC (fun q h => by cases h) (aAllc (fun G h => by obtain rfl := Option.some.inj h; exact ql_MM_81) (fun q h => by cases h)) (aAllc (zk_MMput hn) (fun q h => by cases h)) (Nat.le_of_ble_eq_true rfl) hO hW (2000) ?_
  have z0 : (0 : Int64).toInt = 0 := by decide
  have z10 : (10 : Int64).toInt = 10 := by decide
  have hx := hq.2
  unfold lRg at hx
  have h50 : ∀ (a : Int64), 0 ≤ a.toInt → ∀ (m K : Nat) (q : Int64) (V : zW), 30 * m + 30 ≤ K → zPt W V → 0 ≤ q.toInt → q.toInt < (10 : Int) ^ m → zwp jtb zsh n zm_MMputN po K (lGo ak_ZMMputN 50) 50 [some (.inr (.inr (some (.inl 87)))), some (.inr (.inl x)), none, some (.inr (.inl a)), none, some (.inr (.inl q)), none] [] V := by
    intro a hA m
    induction m with
    | zero =>
      intro K q V hK hV h0 h1
      refine zp_MMputN_50 (by omega) hn ⟨fun _ => hp _ hV, fun z => absurd ?_ z⟩
      have := z6_c q 0
      rw [Int.pow_zero] at h1
      omega
    | succ m ih =>
      intro K q V hK hV h0 h1
      rw [Int.pow_succ] at h1
      have pos : ¬ (lg_cmp q 0).toInt ≤ 0 → 0 < q.toInt := fun z => by have := z6_c q 0; omega
      have e10 : (q / 10).toInt = q.toInt / 10 := by rw [z6_div h0 (by decide), z10]
      exact zp_MMputN_50 (by omega) hn ⟨fun c54 => (hp _ hV), fun c54 => ⟨(fun z => by have := pos c54; rw [z] at this; exact absurd this (by decide)), ⟨(by have := z6_dg hA (pos c54); omega), ⟨(by have := z6_dg hA (pos c54); omega), fun t0 e0 => ⟨(⟨hV.2, by have := z6_dg hA (pos c54); omega⟩), fun W71 hr71 => (ih _ (q / 10) W71 (by omega) (zPt_t hV hr71) (by rw [e10]; omega) (by rw [e10]; omega))⟩⟩⟩⟩⟩
  have h28 : ∀ (a : Int64), (0 ≤ a.toInt ∧ a.toInt ≤ 2147483648) → ∀ (m K : Nat) (q : Int64) (V : zW), 20 * m + 400 ≤ K → zPt W V → 1 ≤ q.toInt → q.toInt ≤ 2147483648 → 2147483648 < q.toInt * (10 : Int) ^ m → zwp jtb zsh n zm_MMputN po K (lGo ak_ZMMputN 28) 28 [some (.inr (.inr (some (.inl 87)))), some (.inr (.inl x)), none, some (.inr (.inl a)), none, some (.inr (.inl q)), none] [] V := by
    intro a hA m
    induction m with
    | zero =>
      intro K q V hK hV h0 h1 h2
      rw [Int.pow_zero] at h2
      omega
    | succ m ih =>
      intro K q V hK hV h0 h1 h2
      rw [Int.pow_succ, Int.mul_comm ((10 : Int) ^ m) 10, ← Int.mul_assoc] at h2
      have e10 : (q * 10).toInt = q.toInt * 10 := by rw [z6_mul (by rw [z10]; omega), z10]
      have nb : ¬ 0 < (lg_cmp (q * 10) a).toInt → (q * 10).toInt ≤ a.toInt := fun z => by have := z6_c (q * 10) a; omega
      exact zp_MMputN_28 (by omega) hn ⟨fun c36 => (h50 a hA.1 10 _ q V (by omega) hV (by omega) (by omega)), fun c36 => (ih _ (q * 10) V (by omega) hV (by rw [e10]; omega) (by have := nb c36; omega) (by rw [e10]; omega))⟩
  have ps : 0 ≤ (lg_cmp x 0).toInt → 0 ≤ x.toInt ∧ x.toInt ≤ 2147483648 := fun z => by have := z6_c x 0; omega
  have ng : ¬ 0 ≤ (lg_cmp x 0).toInt → 0 ≤ (-x).toInt ∧ (-x).toInt ≤ 2147483648 := fun z => by have := z6_c x 0; rw [z6_neg (by omega)]; omega
  exact zp_MMputN_0 (by omega) hn ⟨fun c3 => ⟨fun c15 => (h28 x (ps c15) 10 _ 1 _ (by omega) (zPt_0 hq.1) (by decide) (by decide) (by decide)), fun c15 => (h28 (-x) (ng c15) 10 _ 1 _ (by omega) (zPt_0 hq.1) (by decide) (by decide) (by decide))⟩, fun c3 => ⟨(⟨hq.1, by omega⟩), fun W9 hr9 => ⟨fun c15 => (h28 x (ps c15) 10 _ 1 _ (by omega) (hr9) (by decide) (by decide) (by decide)), fun c15 => (h28 (-x) (ng c15) 10 _ 1 _ (by omega) (hr9) (by decide) (by decide) (by decide))⟩⟩⟩
noncomputable def y_MM_say : jY := (⟨"ChessHouseModel", "say", "(J)V"⟩, prog_15_method_12_code, 3, none)
theorem m_MM_say : jmth lw_tbl y_MM_say 1 := ⟨jTA_in (wi := 2406) (jtF_ok rfl) rfl, jTA_in (wi := 314) (jtF_ok rfl) rfl, by decide, by decide, by decide +kernel⟩
theorem i_MM_say : Jvm.Cond.instanceMethod y_MM_say.1 ∈ jTA lw_tbl := jTA_in (wi := 2405) (jtF_ok rfl) rfl
theorem e_MM_say : Jvm.Cond.selects y_MM_say.1.cls y_MM_say.1 y_MM_say.1 ∈ jTA lw_tbl := jTA_in (wi := 134) (jtF_ok rfl) rfl
noncomputable def ak_ZMMsay : List jI := [(.aload_n 0, 1, (0, 0, 0, 0, 0)), (.bipush 32, 2, (0, 0, 0, 32, 0)), (.invokevirtual 81, 3, (0, 0, 2399, 0, 0)), (.aload_n 0, 1, (0, 0, 0, 0, 0)), (.lload_n 1, 1, (1, 0, 0, 0, 0)), (.invokevirtual 87, 3, (1, 0, 2407, 0, 0)), (.return_, 1, (0, 0, 0, 0, 0))]
theorem ao_ZMMsay : jokLG jtF lk_MM "ChessHouseModel" jcl jtb 3 prog_15_method_12_code 0 ak_ZMMsay = true := by decide +kernel
noncomputable def zm_MMsay : zM := (none, { frames := 2, cells := 0, slots := 0, locals := 47 }, ([(81, 2399, 0), (87, 2407, 1)], []), [(y_MM_put, false, 2, 11, { frames := 0, cells := 0, slots := 0, locals := 0 }, zc_MMput), (y_MM_putNumber, false, 2, 11, { frames := 1, cells := 0, slots := 0, locals := 21 }, zc_MMputN)], ak_ZMMsay)
noncomputable def zc_MMsay (vals : List zv) (W : zW) (post : zPo) : Prop := ∃ x : Int64, vals = [.inr (.inr (some (.inl 87))), .inr (.inl (x))] ∧ (zOg W ∧ lRg (x : Int64).toInt) ∧ ∀ V : zW, (zPt W V) → post none V
set_option maxRecDepth 8000 in
theorem zp_MMsay_0 {n K : Nat} {W : zW} {post : zPo} {x : Int64}  (hK : 7 ≤ K) (hn : 142 ≤ n) (h : (zOg W ∧ 0 ≤ (32 : Int) ∧ (32 : Int) ≤ 127) ∧ ∀ W3 : zW, (zPt W W3) → (zOg W3 ∧ lRg ((x : Int64) : Int64).toInt) ∧ ∀ W8 : zW, (zPt W3 W8) → post none W8) : zwp jtb zsh n zm_MMsay post K (lGo ak_ZMMsay 0) 0 [some (.inr (.inr (some (.inl 87)))), some (.inr (.inl (x))), none] [] W := by
  obtain ⟨kk__, rfl⟩ : ∃ kk__, K = kk__ + 7 := ⟨K - 7, by omega⟩
  exact (show 3 = 3 ∧ false = false ∧ jin3 81 2399 0 zm_MMsay.2.2.1.1 = true ∧ lRm zm_MMsay.2.1 { frames := 0, cells := 0, slots := 0, locals := 0 } 2 = true ∧ Nat.ble 2 2 = true ∧ Nat.ble 0 8 = true ∧ 87 < n ∧ 11 = 11 ∧ Nat.ble 1000 11 = false ∧ zc_MMput [.inr (.inr (some (.inl 87))), .inl (32)] W (fun vv__ WW__ => zwp jtb zsh n zm_MMsay post (kk__ + 4) (lGo ak_ZMMsay 6) 6 [some (.inr (.inr (some (.inl 87)))), some (.inr (.inl (x))), none] (vv__.toList ++ []) WW__) from ⟨rfl, rfl, rfl, rfl, rfl, rfl, (Nat.lt_of_lt_of_le (by decide) hn), rfl, rfl, 32, rfl, (h).1, fun W3 hr3 => (show 3 = 3 ∧ false = false ∧ jin3 87 2407 1 zm_MMsay.2.2.1.1 = true ∧ lRm zm_MMsay.2.1 { frames := 1, cells := 0, slots := 0, locals := 21 } 7 = true ∧ Nat.ble 2 2 = true ∧ Nat.ble 0 8 = true ∧ 87 < n ∧ 11 = 11 ∧ Nat.ble 1000 11 = false ∧ zc_MMputN [.inr (.inr (some (.inl 87))), .inr (.inl (x))] W3 (fun vv__ WW__ => zwp jtb zsh n zm_MMsay post (kk__ + 1) (lGo ak_ZMMsay 11) 11 [some (.inr (.inr (some (.inl 87)))), some (.inr (.inl (x))), none] (vv__.toList ++ []) WW__) from ⟨rfl, rfl, rfl, rfl, rfl, rfl, (Nat.lt_of_lt_of_le (by decide) hn), rfl, rfl, x, rfl, (((h).2 W3 hr3)).1, fun W8 hr8 => (show 1 = 1 ∧ (none : Option FieldType) = none ∧ post none W8 from (have h := ((((h).2 W3 hr3)).2 W8 hr8); ⟨rfl, rfl, h⟩))⟩)⟩)
theorem zk_MMsay {l : Launch} {E : jE} {n : Nat} (hn : 142 ≤ n) : zHas l E jcl jtb lw_tbl zsh n (y_MM_say, false, 2, 11, { frames := 2, cells := 0, slots := 0, locals := 47 }, zc_MMsay) := by
  refine ⟨⟨rfl, rfl, ⟨show 1 ≤ 2 by decide, m_MM_say, i_MM_say, e_MM_say, fun _ => ⟨_, rfl, rfl⟩⟩⟩, ?_⟩
  rintro vz W po hO hW ⟨x, rfl, hq, hp⟩
  refine zmet (m := zm_MMsay) rfl (by decide) (fun _ _ => jtF_ok) lo_MM ao_ZMMsay jC (fun q h => by cases h) (aAllc (fun G h => by obtain rfl := Option.some.inj h; exact ql_MM_81) (aAllc (fun G h => by obtain rfl := Option.some.inj h; exact ql_MM_87) (fun q h => by cases h))) (aAllc (zk_MMput hn) (aAllc (zk_MMputN hn) (fun q h => by cases h))) (Nat.le_of_ble_eq_true rfl) hO hW (60) ?_
  exact zp_MMsay_0 (by omega) hn ⟨(⟨hq.1, by omega⟩), fun W3 hr3 => ⟨(⟨hr3.2, hq.2⟩), fun W8 hr8 => (hp _ (zPt_t hr3 hr8))⟩⟩
noncomputable def y_MM_answer : jY := (⟨"ChessHouseModel", "answer", "(J)V"⟩, prog_15_method_15_code, 3, none)
theorem m_MM_answer : jmth lw_tbl y_MM_answer 1 := ⟨jTA_in (wi := 2529) (jtF_ok rfl) rfl, jTA_in (wi := 314) (jtF_ok rfl) rfl, by decide, by decide, by decide +kernel⟩
theorem i_MM_answer : Jvm.Cond.instanceMethod y_MM_answer.1 ∈ jTA lw_tbl := jTA_in (wi := 2528) (jtF_ok rfl) rfl
theorem e_MM_answer : Jvm.Cond.selects y_MM_answer.1.cls y_MM_answer.1 y_MM_answer.1 ∈ jTA lw_tbl := jTA_in (wi := 158) (jtF_ok rfl) rfl
noncomputable def ak_ZMManswer : List jI := [(.aload_n 0, 1, (0, 0, 0, 0, 0)), (.invokevirtual 91, 3, (0, 0, 2517, 0, 0)), (.aload_n 0, 1, (0, 0, 0, 0, 0)), (.lload_n 1, 1, (1, 0, 0, 0, 0)), (.invokevirtual 94, 3, (1, 0, 2403, 0, 0)), (.aload_n 0, 1, (0, 0, 0, 0, 0)), (.invokevirtual 97, 3, (2, 0, 2412, 0, 0)), (.return_, 1, (0, 0, 0, 0, 0))]
theorem ao_ZMManswer : jokLG jtF lk_MM "ChessHouseModel" jcl jtb 3 prog_15_method_15_code 0 ak_ZMManswer = true := by decide +kernel
noncomputable def zm_MManswer : zM := (none, { frames := 3, cells := 0, slots := 0, locals := 69 }, ([(91, 2517, 0), (94, 2403, 1), (97, 2412, 2)], []), [(y_MM_begin, false, 1, 11, { frames := 1, cells := 0, slots := 0, locals := 21 }, zc_MMbegin), (y_MM_say, false, 2, 11, { frames := 2, cells := 0, slots := 0, locals := 47 }, zc_MMsay), (y_MM_done, false, 1, 11, { frames := 1, cells := 0, slots := 0, locals := 21 }, zc_MMdone)], ak_ZMManswer)
noncomputable def zc_MManswer (vals : List zv) (W : zW) (post : zPo) : Prop := ∃ x : Int64, vals = [.inr (.inr (some (.inl 87))), .inr (.inl (x))] ∧ (zOg W ∧ lRg (x : Int64).toInt) ∧ ∀ V : zW, (zPt W V) → post none V
set_option maxRecDepth 8000 in
theorem zp_MManswer_0 {n K : Nat} {W : zW} {post : zPo} {x : Int64}  (hK : 8 ≤ K) (hn : 142 ≤ n) (h : (zOg W) ∧ ∀ W1 : zW, (zPt W W1) → (zOg W1 ∧ lRg ((x : Int64) : Int64).toInt) ∧ ∀ W6 : zW, (zPt W1 W6) → (zOg W6) ∧ ∀ W10 : zW, (zPt W6 W10) → post none W10) : zwp jtb zsh n zm_MManswer post K (lGo ak_ZMManswer 0) 0 [some (.inr (.inr (some (.inl 87)))), some (.inr (.inl (x))), none] [] W := by
  obtain ⟨kk__, rfl⟩ : ∃ kk__, K = kk__ + 8 := ⟨K - 8, by omega⟩
  exact (show 3 = 3 ∧ false = false ∧ jin3 91 2517 0 zm_MManswer.2.2.1.1 = true ∧ lRm zm_MManswer.2.1 { frames := 1, cells := 0, slots := 0, locals := 21 } 1 = true ∧ Nat.ble 1 1 = true ∧ Nat.ble 0 8 = true ∧ 87 < n ∧ 11 = 11 ∧ Nat.ble 1000 11 = false ∧ zc_MMbegin [.inr (.inr (some (.inl 87)))] W (fun vv__ WW__ => zwp jtb zsh n zm_MManswer post (kk__ + 6) (lGo ak_ZMManswer 4) 4 [some (.inr (.inr (some (.inl 87)))), some (.inr (.inl (x))), none] (vv__.toList ++ []) WW__) from ⟨rfl, rfl, rfl, rfl, rfl, rfl, (Nat.lt_of_lt_of_le (by decide) hn), rfl, rfl, rfl, (h).1, fun W1 hr1 => (show 3 = 3 ∧ false = false ∧ jin3 94 2403 1 zm_MManswer.2.2.1.1 = true ∧ lRm zm_MManswer.2.1 { frames := 2, cells := 0, slots := 0, locals := 47 } 3 = true ∧ Nat.ble 2 2 = true ∧ Nat.ble 0 8 = true ∧ 87 < n ∧ 11 = 11 ∧ Nat.ble 1000 11 = false ∧ zc_MMsay [.inr (.inr (some (.inl 87))), .inr (.inl (x))] W1 (fun vv__ WW__ => zwp jtb zsh n zm_MManswer post (kk__ + 3) (lGo ak_ZMManswer 9) 9 [some (.inr (.inr (some (.inl 87)))), some (.inr (.inl (x))), none] (vv__.toList ++ []) WW__) from ⟨rfl, rfl, rfl, rfl, rfl, rfl, (Nat.lt_of_lt_of_le (by decide) hn), rfl, rfl, x, rfl, (((h).2 W1 hr1)).1, fun W6 hr6 => (show 3 = 3 ∧ false = false ∧ jin3 97 2412 2 zm_MManswer.2.2.1.1 = true ∧ lRm zm_MManswer.2.1 { frames := 1, cells := 0, slots := 0, locals := 21 } 1 = true ∧ Nat.ble 1 1 = true ∧ Nat.ble 0 8 = true ∧ 87 < n ∧ 11 = 11 ∧ Nat.ble 1000 11 = false ∧ zc_MMdone [.inr (.inr (some (.inl 87)))] W6 (fun vv__ WW__ => zwp jtb zsh n zm_MManswer post (kk__ + 1) (lGo ak_ZMManswer 13) 13 [some (.inr (.inr (some (.inl 87)))), some (.inr (.inl (x))), none] (vv__.toList ++ []) WW__) from (have h := ((((h).2 W1 hr1)).2 W6 hr6); ⟨rfl, rfl, rfl, rfl, rfl, rfl, (Nat.lt_of_lt_of_le (by decide) hn), rfl, rfl, rfl, (h).1, fun W10 hr10 => (show 1 = 1 ∧ (none : Option FieldType) = none ∧ post none W10 from ⟨rfl, rfl, ((h).2 W10 hr10)⟩)⟩))⟩)⟩)
theorem zk_MManswer {l : Launch} {E : jE} {n : Nat} (hn : 142 ≤ n) : zHas l E jcl jtb lw_tbl zsh n (y_MM_answer, false, 2, 11, { frames := 3, cells := 0, slots := 0, locals := 69 }, zc_MManswer) := by
  refine ⟨⟨rfl, rfl, ⟨show 1 ≤ 2 by decide, m_MM_answer, i_MM_answer, e_MM_answer, fun _ => ⟨_, rfl, rfl⟩⟩⟩, ?_⟩
  rintro vz W po hO hW ⟨x, rfl, hq, hp⟩
  refine zmet (m := zm_MManswer) rfl (by decide) (fun _ _ => jtF_ok) lo_MM ao_ZMManswer jC (fun q h => by cases h) (aAllc (fun G h => by obtain rfl := Option.some.inj h; exact ql_MM_91) (aAllc (fun G h => by obtain rfl := Option.some.inj h; exact ql_MM_94) (aAllc (fun G h => by obtain rfl := Option.some.inj h; exact ql_MM_97) (fun q h => by cases h)))) (aAllc (zk_MMbegin hn) (aAllc (zk_MMsay hn) (aAllc (zk_MMdone hn) (fun q h => by cases h)))) (Nat.le_of_ble_eq_true rfl) hO hW (60) ?_
  exact zp_MManswer_0 (by omega) hn ⟨hq.1, fun W1 hr1 => ⟨(⟨hr1.2, hq.2⟩), fun W6 hr6 => ⟨hr6.2, fun W10 hr10 => (hp _ (zPt_t (zPt_t hr1 hr6) hr10))⟩⟩⟩
/-- a fault more -/
noncomputable def zFt (W V : zW) : Prop := zFr [(87, 3), (87, 12)] [89] W V ∧ zOg V ∧ V.1 87 12 = W.1 87 12 + 1
theorem zFt_o {W U : zW} (h : zPt W U) : zFt W (zuF U 87 12 (U.1 87 12 + 1)) := ⟨zFr_F (zFr_w h.1 (by decide) (by decide)) (by decide), zOg_e h.2 (by rw [zuF_1, if_neg (by decide)]), by rw [zuF_1, if_pos ⟨rfl, rfl⟩, zFr_f h.1 87 12]⟩
theorem z6_y {x : Int} (h : lRg x) : lRg (lI x).toInt64.toInt := by rw [z6_i h]; exact h
noncomputable def y_MM_fault2 : jY := (⟨"ChessHouseModel", "fault", "(III)V"⟩, prog_15_method_17_code, 4, none)
theorem m_MM_fault2 : jmth lw_tbl y_MM_fault2 3 := ⟨jTA_in (wi := 2398) (jtF_ok rfl) rfl, jTA_in (wi := 314) (jtF_ok rfl) rfl, by decide, by decide, by decide +kernel⟩
theorem i_MM_fault2 : Jvm.Cond.instanceMethod y_MM_fault2.1 ∈ jTA lw_tbl := jTA_in (wi := 2397) (jtF_ok rfl) rfl
theorem e_MM_fault2 : Jvm.Cond.selects y_MM_fault2.1.cls y_MM_fault2.1 y_MM_fault2.1 ∈ jTA lw_tbl := jTA_in (wi := 132) (jtF_ok rfl) rfl
noncomputable def ak_ZMMfault3 : List jI := [(.aload_n 0, 1, (0, 0, 0, 0, 0)), (.bipush 63, 2, (0, 0, 0, 63, 0)), (.invokevirtual 81, 3, (0, 0, 2399, 0, 0)), (.aload_n 0, 1, (0, 0, 0, 0, 0)), (.iload_n 1, 1, (1, 0, 0, 0, 0)), (.i2l, 1, (0, 0, 0, 0, 0)), (.invokevirtual 94, 3, (1, 0, 2403, 0, 0)), (.iload_n 2, 1, (2, 0, 0, 0, 0)), (.ifCond .lt 9, 3, (22, 0, 0, 0, 0)), (.aload_n 0, 1, (0, 0, 0, 0, 0)), (.iload_n 2, 1, (2, 0, 0, 0, 0)), (.i2l, 1, (0, 0, 0, 0, 0)), (.invokevirtual 94, 3, (1, 0, 2403, 0, 0)), (.iload_n 3, 1, (3, 0, 0, 0, 0)), (.ifCond .lt 9, 3, (32, 0, 0, 0, 0)), (.aload_n 0, 1, (0, 0, 0, 0, 0)), (.iload_n 3, 1, (3, 0, 0, 0, 0)), (.i2l, 1, (0, 0, 0, 0, 0)), (.invokevirtual 94, 3, (1, 0, 2403, 0, 0)), (.aload_n 0, 1, (0, 0, 0, 0, 0)), (.invokevirtual 97, 3, (2, 0, 2412, 0, 0)), (.aload_n 0, 1, (0, 0, 0, 0, 0)), (.dup, 1, (0, 0, 0, 0, 0)), (.getfield 60, 3, (11, 12, 2314, 0, 0)), (.iconst 1, 1, (0, 0, 0, 1, 0)), (.iadd, 1, (0, 0, 0, 0, 0)), (.putfield 60, 3, (11, 12, 2314, 0, 0)), (.return_, 1, (0, 0, 0, 0, 0))]
theorem ao_ZMMfault3 : jokLG jtF lk_MM "ChessHouseModel" jcl jtb 4 prog_15_method_17_code 0 ak_ZMMfault3 = true := by decide +kernel
noncomputable def zm_MMfault3 : zM := (none, { frames := 3, cells := 0, slots := 0, locals := 69 }, ([(81, 2399, 0), (94, 2403, 1), (97, 2412, 2)], []), [(y_MM_put, false, 2, 11, { frames := 0, cells := 0, slots := 0, locals := 0 }, zc_MMput), (y_MM_say, false, 2, 11, { frames := 2, cells := 0, slots := 0, locals := 47 }, zc_MMsay), (y_MM_done, false, 1, 11, { frames := 1, cells := 0, slots := 0, locals := 21 }, zc_MMdone)], ak_ZMMfault3)
noncomputable def zc_MMfault3 (vals : List zv) (W : zW) (post : zPo) : Prop := ∃ a b d : Int, vals = [.inr (.inr (some (.inl 87))), .inl (a), .inl (b), .inl (d)] ∧ (zOg W ∧ lRg a ∧ lRg b ∧ lRg d ∧ W.1 87 12 ≤ 2147483646 ∧ 0 ≤ W.1 87 12) ∧ ∀ V : zW, (zFt W V) → post none V
set_option maxRecDepth 8000 in
theorem zp_MMfault3_0 {n K : Nat} {W : zW} {post : zPo} {a b d : Int}  (hK : 13 ≤ K) (hn : 142 ≤ n) (h : (zOg W ∧ 0 ≤ (63 : Int) ∧ (63 : Int) ≤ 127) ∧ ∀ W3 : zW, (zPt W W3) → (zOg W3 ∧ lRg (((lI a).toInt64 : Int64) : Int64).toInt) ∧ ∀ W9 : zW, (zPt W3 W9) → (b < 0 → zwp jtb zsh n zm_MMfault3 post (K - 9) (lGo ak_ZMMfault3 22) 22 [some (.inr (.inr (some (.inl 87)))), some (.inl (a)), some (.inl (b)), some (.inl (d))] [] W9) ∧ (¬ b < 0 → (zOg W9 ∧ lRg (((lI b).toInt64 : Int64) : Int64).toInt) ∧ ∀ W19 : zW, (zPt W9 W19) → zwp jtb zsh n zm_MMfault3 post (K - 13) (lGo ak_ZMMfault3 22) 22 [some (.inr (.inr (some (.inl 87)))), some (.inl (a)), some (.inl (b)), some (.inl (d))] [] W19)) : zwp jtb zsh n zm_MMfault3 post K (lGo ak_ZMMfault3 0) 0 [some (.inr (.inr (some (.inl 87)))), some (.inl (a)), some (.inl (b)), some (.inl (d))] [] W := by
  obtain ⟨kk__, rfl⟩ : ∃ kk__, K = kk__ + 13 := ⟨K - 13, by omega⟩
  exact (show 3 = 3 ∧ false = false ∧ jin3 81 2399 0 zm_MMfault3.2.2.1.1 = true ∧ lRm zm_MMfault3.2.1 { frames := 0, cells := 0, slots := 0, locals := 0 } 2 = true ∧ Nat.ble 2 2 = true ∧ Nat.ble 0 8 = true ∧ 87 < n ∧ 11 = 11 ∧ Nat.ble 1000 11 = false ∧ zc_MMput [.inr (.inr (some (.inl 87))), .inl (63)] W (fun vv__ WW__ => zwp jtb zsh n zm_MMfault3 post (kk__ + 10) (lGo ak_ZMMfault3 6) 6 [some (.inr (.inr (some (.inl 87)))), some (.inl (a)), some (.inl (b)), some (.inl (d))] (vv__.toList ++ []) WW__) from ⟨rfl, rfl, rfl, rfl, rfl, rfl, (Nat.lt_of_lt_of_le (by decide) hn), rfl, rfl, 63, rfl, (h).1, fun W3 hr3 => (show 3 = 3 ∧ false = false ∧ jin3 94 2403 1 zm_MMfault3.2.2.1.1 = true ∧ lRm zm_MMfault3.2.1 { frames := 2, cells := 0, slots := 0, locals := 47 } 3 = true ∧ Nat.ble 2 2 = true ∧ Nat.ble 0 8 = true ∧ 87 < n ∧ 11 = 11 ∧ Nat.ble 1000 11 = false ∧ zc_MMsay [.inr (.inr (some (.inl 87))), .inr (.inl ((lI a).toInt64))] W3 (fun vv__ WW__ => zwp jtb zsh n zm_MMfault3 post (kk__ + 6) (lGo ak_ZMMfault3 12) 12 [some (.inr (.inr (some (.inl 87)))), some (.inl (a)), some (.inl (b)), some (.inl (d))] (vv__.toList ++ []) WW__) from ⟨rfl, rfl, rfl, rfl, rfl, rfl, (Nat.lt_of_lt_of_le (by decide) hn), rfl, rfl, (lI a).toInt64, rfl, (((h).2 W3 hr3)).1, fun W9 hr9 => (show (b < 0 → zwp jtb zsh n zm_MMfault3 post (kk__ + 4) (lGo ak_ZMMfault3 22) 22 [some (.inr (.inr (some (.inl 87)))), some (.inl (a)), some (.inl (b)), some (.inl (d))] [] W9) ∧ (¬ b < 0 → 3 = 3 ∧ false = false ∧ jin3 94 2403 1 zm_MMfault3.2.2.1.1 = true ∧ lRm zm_MMfault3.2.1 { frames := 2, cells := 0, slots := 0, locals := 47 } 3 = true ∧ Nat.ble 2 2 = true ∧ Nat.ble 0 8 = true ∧ 87 < n ∧ 11 = 11 ∧ Nat.ble 1000 11 = false ∧ zc_MMsay [.inr (.inr (some (.inl 87))), .inr (.inl ((lI b).toInt64))] W9 (fun vv__ WW__ => zwp jtb zsh n zm_MMfault3 post (kk__ + 0) (lGo ak_ZMMfault3 22) 22 [some (.inr (.inr (some (.inl 87)))), some (.inl (a)), some (.inl (b)), some (.inl (d))] (vv__.toList ++ []) WW__)) from (have h := ((((h).2 W3 hr3)).2 W9 hr9); ⟨fun c13_8 => ((h).1 c13_8), fun c13_8 => ⟨rfl, rfl, rfl, rfl, rfl, rfl, (Nat.lt_of_lt_of_le (by decide) hn), rfl, rfl, (lI b).toInt64, rfl, (((h).2 c13_8)).1, fun W19 hr19 => (show zwp jtb zsh n zm_MMfault3 post (kk__ + 0) (lGo ak_ZMMfault3 22) 22 [some (.inr (.inr (some (.inl 87)))), some (.inl (a)), some (.inl (b)), some (.inl (d))] [] W19 from ((((h).2 c13_8)).2 W19 hr19))⟩⟩))⟩)⟩)
set_option maxRecDepth 8000 in
theorem zp_MMfault3_22 {n K : Nat} {V : zW} {post : zPo} {a b d : Int}  (hK : 6 ≤ K) (hn : 142 ≤ n) (h : (d < 0 → zwp jtb zsh n zm_MMfault3 post (K - 2) (lGo ak_ZMMfault3 32) 32 [some (.inr (.inr (some (.inl 87)))), some (.inl (a)), some (.inl (b)), some (.inl (d))] [] V) ∧ (¬ d < 0 → (zOg V ∧ lRg (((lI d).toInt64 : Int64) : Int64).toInt) ∧ ∀ W29 : zW, (zPt V W29) → zwp jtb zsh n zm_MMfault3 post (K - 6) (lGo ak_ZMMfault3 32) 32 [some (.inr (.inr (some (.inl 87)))), some (.inl (a)), some (.inl (b)), some (.inl (d))] [] W29)) : zwp jtb zsh n zm_MMfault3 post K (lGo ak_ZMMfault3 22) 22 [some (.inr (.inr (some (.inl 87)))), some (.inl (a)), some (.inl (b)), some (.inl (d))] [] V := by
  obtain ⟨kk__, rfl⟩ : ∃ kk__, K = kk__ + 6 := ⟨K - 6, by omega⟩
  exact (show (d < 0 → zwp jtb zsh n zm_MMfault3 post (kk__ + 4) (lGo ak_ZMMfault3 32) 32 [some (.inr (.inr (some (.inl 87)))), some (.inl (a)), some (.inl (b)), some (.inl (d))] [] V) ∧ (¬ d < 0 → 3 = 3 ∧ false = false ∧ jin3 94 2403 1 zm_MMfault3.2.2.1.1 = true ∧ lRm zm_MMfault3.2.1 { frames := 2, cells := 0, slots := 0, locals := 47 } 3 = true ∧ Nat.ble 2 2 = true ∧ Nat.ble 0 8 = true ∧ 87 < n ∧ 11 = 11 ∧ Nat.ble 1000 11 = false ∧ zc_MMsay [.inr (.inr (some (.inl 87))), .inr (.inl ((lI d).toInt64))] V (fun vv__ WW__ => zwp jtb zsh n zm_MMfault3 post (kk__ + 0) (lGo ak_ZMMfault3 32) 32 [some (.inr (.inr (some (.inl 87)))), some (.inl (a)), some (.inl (b)), some (.inl (d))] (vv__.toList ++ []) WW__)) from ⟨fun c23_1 => ((h).1 c23_1), fun c23_1 => ⟨rfl, rfl, rfl, rfl, rfl, rfl, (Nat.lt_of_lt_of_le (by decide) hn), rfl, rfl, (lI d).toInt64, rfl, (((h).2 c23_1)).1, fun W29 hr29 => (show zwp jtb zsh n zm_MMfault3 post (kk__ + 0) (lGo ak_ZMMfault3 32) 32 [some (.inr (.inr (some (.inl 87)))), some (.inl (a)), some (.inl (b)), some (.inl (d))] [] W29 from ((((h).2 c23_1)).2 W29 hr29))⟩⟩)
set_option maxRecDepth 8000 in
theorem zp_MMfault3_32 {n K : Nat} {V : zW} {post : zPo} {a b d : Int}  (hK : 9 ≤ K) (hn : 142 ≤ n) (h : (zOg V) ∧ ∀ W33 : zW, (zPt V W33) → (-2147483648 ≤ (W33.1 87 12) + 1 ∧ (W33.1 87 12) + 1 ≤ 2147483647) ∧ post none (zuF W33 87 12 ((W33.1 87 12) + 1))) : zwp jtb zsh n zm_MMfault3 post K (lGo ak_ZMMfault3 32) 32 [some (.inr (.inr (some (.inl 87)))), some (.inl (a)), some (.inl (b)), some (.inl (d))] [] V := by
  obtain ⟨kk__, rfl⟩ : ∃ kk__, K = kk__ + 9 := ⟨K - 9, by omega⟩
  exact (show 3 = 3 ∧ false = false ∧ jin3 97 2412 2 zm_MMfault3.2.2.1.1 = true ∧ lRm zm_MMfault3.2.1 { frames := 1, cells := 0, slots := 0, locals := 21 } 1 = true ∧ Nat.ble 1 1 = true ∧ Nat.ble 0 8 = true ∧ 87 < n ∧ 11 = 11 ∧ Nat.ble 1000 11 = false ∧ zc_MMdone [.inr (.inr (some (.inl 87)))] V (fun vv__ WW__ => zwp jtb zsh n zm_MMfault3 post (kk__ + 7) (lGo ak_ZMMfault3 36) 36 [some (.inr (.inr (some (.inl 87)))), some (.inl (a)), some (.inl (b)), some (.inl (d))] (vv__.toList ++ []) WW__) from ⟨rfl, rfl, rfl, rfl, rfl, rfl, (Nat.lt_of_lt_of_le (by decide) hn), rfl, rfl, rfl, (h).1, fun W33 hr33 => (show 87 < n ∧ 11 = 11 ∧ (-2147483648 ≤ (W33.1 87 12) + 1 ∧ (W33.1 87 12) + 1 ≤ 2147483647) ∧ 87 < n ∧ 11 = 11 ∧ (some 0 : Option Nat) = some 0 ∧ ((0 : Nat) = 0 ∨ ((0 : Nat) = 1 ∧ (((W33.1 87 12) + 1) = 0 ∨ ((W33.1 87 12) + 1) = 1))) ∧ 1 = 1 ∧ (none : Option FieldType) = none ∧ post none (zuF W33 87 12 ((W33.1 87 12) + 1)) from ⟨(Nat.lt_of_lt_of_le (by decide) hn), rfl, ⟨(((h).2 W33 hr33)).1, ⟨(Nat.lt_of_lt_of_le (by decide) hn), rfl, rfl, (Or.inl rfl), ⟨rfl, rfl, (((h).2 W33 hr33)).2⟩⟩⟩⟩)⟩)
theorem zk_MMfault3 {l : Launch} {E : jE} {n : Nat} (hn : 142 ≤ n) : zHas l E jcl jtb lw_tbl zsh n (y_MM_fault2, false, 4, 11, { frames := 3, cells := 0, slots := 0, locals := 69 }, zc_MMfault3) := by
  refine ⟨⟨rfl, rfl, ⟨show 1 ≤ 4 by decide, m_MM_fault2, i_MM_fault2, e_MM_fault2, fun _ => ⟨_, rfl, rfl⟩⟩⟩, ?_⟩
  rintro vz W po hO hW ⟨a, b, d, rfl, hq, hp⟩
  refine zmet (m := zm_MMfault3) rfl (by decide) (fun _ _ => jtF_ok) lo_MM ao_ZMMfault3 jC (fun q h => by cases h) (aAllc (fun G h => by obtain rfl := Option.some.inj h; exact ql_MM_81) (aAllc (fun G h => by obtain rfl := Option.some.inj h; exact ql_MM_94) (aAllc (fun G h => by obtain rfl := Option.some.inj h; exact ql_MM_97) (fun q h => by cases h)))) (aAllc (zk_MMput hn) (aAllc (zk_MMsay hn) (aAllc (zk_MMdone hn) (fun q h => by cases h)))) (Nat.le_of_ble_eq_true rfl) hO hW (200) ?_
  have h32 : ∀ (K : Nat) (V : zW), 60 ≤ K → zPt W V → zwp jtb zsh n zm_MMfault3 po K (lGo ak_ZMMfault3 32) 32 [some (.inr (.inr (some (.inl 87)))), some (.inl a), some (.inl b), some (.inl d)] [] V := by
    intro K V hK hV
    exact zp_MMfault3_32 (by omega) hn ⟨hV.2, fun W33 hr33 => ⟨(by have e := zFr_f (zPt_t hV hr33).1 87 12; omega), (hp _ (zFt_o (zPt_t hV hr33)))⟩⟩
  have h22 : ∀ (K : Nat) (V : zW), 100 ≤ K → zPt W V → zwp jtb zsh n zm_MMfault3 po K (lGo ak_ZMMfault3 22) 22 [some (.inr (.inr (some (.inl 87)))), some (.inl a), some (.inl b), some (.inl d)] [] V := by
    intro K V hK hV
    exact zp_MMfault3_22 (by omega) hn ⟨fun c23 => (h32 _ _ (by omega) hV), fun c23 => ⟨(⟨hV.2, z6_y hq.2.2.2.1⟩), fun W29 hr29 => (h32 _ _ (by omega) (zPt_t hV hr29))⟩⟩
  exact zp_MMfault3_0 (by omega) hn ⟨(⟨hq.1, by omega⟩), fun W3 hr3 => ⟨(⟨hr3.2, z6_y hq.2.1⟩), fun W9 hr9 => ⟨fun c13 => (h22 _ _ (by omega) (zPt_t hr3 hr9)), fun c13 => ⟨(⟨hr9.2, z6_y hq.2.2.1⟩), fun W19 hr19 => (h22 _ _ (by omega) (zPt_t (zPt_t hr3 hr9) hr19))⟩⟩⟩⟩
noncomputable def y_MM_fault : jY := (⟨"ChessHouseModel", "fault", "(I)V"⟩, prog_15_method_18_code, 2, none)
theorem m_MM_fault : jmth lw_tbl y_MM_fault 1 := ⟨jTA_in (wi := 2394) (jtF_ok rfl) rfl, jTA_in (wi := 314) (jtF_ok rfl) rfl, by decide, by decide, by decide +kernel⟩
theorem i_MM_fault : Jvm.Cond.instanceMethod y_MM_fault.1 ∈ jTA lw_tbl := jTA_in (wi := 2393) (jtF_ok rfl) rfl
theorem e_MM_fault : Jvm.Cond.selects y_MM_fault.1.cls y_MM_fault.1 y_MM_fault.1 ∈ jTA lw_tbl := jTA_in (wi := 131) (jtF_ok rfl) rfl
noncomputable def ak_ZMMfault1 : List jI := [(.aload_n 0, 1, (0, 0, 0, 0, 0)), (.iload_n 1, 1, (1, 0, 0, 0, 0)), (.iconst (-1), 1, (0, 0, 0, (-1), 0)), (.iconst (-1), 1, (0, 0, 0, (-1), 0)), (.invokevirtual 100, 3, (0, 0, 2395, 0, 0)), (.return_, 1, (0, 0, 0, 0, 0))]
theorem ao_ZMMfault1 : jokLG jtF lk_MM "ChessHouseModel" jcl jtb 2 prog_15_method_18_code 0 ak_ZMMfault1 = true := by decide +kernel
noncomputable def zm_MMfault1 : zM := (none, { frames := 4, cells := 0, slots := 0, locals := 92 }, ([(100, 2395, 0)], []), [(y_MM_fault2, false, 4, 11, { frames := 3, cells := 0, slots := 0, locals := 69 }, zc_MMfault3)], ak_ZMMfault1)
noncomputable def zc_MMfault1 (vals : List zv) (W : zW) (post : zPo) : Prop := ∃ a : Int, vals = [.inr (.inr (some (.inl 87))), .inl (a)] ∧ (zOg W ∧ lRg a ∧ W.1 87 12 ≤ 2147483646 ∧ 0 ≤ W.1 87 12) ∧ ∀ V : zW, (zFt W V) → post none V
set_option maxRecDepth 8000 in
theorem zp_MMfault1_0 {n K : Nat} {W : zW} {post : zPo} {a : Int}  (hK : 6 ≤ K) (hn : 142 ≤ n) (h : (zOg W ∧ lRg a ∧ lRg (-1 : Int) ∧ lRg (-1 : Int) ∧ W.1 87 12 ≤ 2147483646 ∧ 0 ≤ W.1 87 12) ∧ ∀ W4 : zW, (zFt W W4) → post none W4) : zwp jtb zsh n zm_MMfault1 post K (lGo ak_ZMMfault1 0) 0 [some (.inr (.inr (some (.inl 87)))), some (.inl (a))] [] W := by
  obtain ⟨kk__, rfl⟩ : ∃ kk__, K = kk__ + 6 := ⟨K - 6, by omega⟩
  exact (show 3 = 3 ∧ false = false ∧ jin3 100 2395 0 zm_MMfault1.2.2.1.1 = true ∧ lRm zm_MMfault1.2.1 { frames := 3, cells := 0, slots := 0, locals := 69 } 4 = true ∧ Nat.ble 4 4 = true ∧ Nat.ble 0 8 = true ∧ 87 < n ∧ 11 = 11 ∧ Nat.ble 1000 11 = false ∧ zc_MMfault3 [.inr (.inr (some (.inl 87))), .inl (a), .inl (-1), .inl (-1)] W (fun vv__ WW__ => zwp jtb zsh n zm_MMfault1 post (kk__ + 1) (lGo ak_ZMMfault1 7) 7 [some (.inr (.inr (some (.inl 87)))), some (.inl (a))] (vv__.toList ++ []) WW__) from ⟨rfl, rfl, rfl, rfl, rfl, rfl, (Nat.lt_of_lt_of_le (by decide) hn), rfl, rfl, a, -1, -1, rfl, (h).1, fun W4 hr4 => (show 1 = 1 ∧ (none : Option FieldType) = none ∧ post none W4 from ⟨rfl, rfl, ((h).2 W4 hr4)⟩)⟩)
theorem zk_MMfault1 {l : Launch} {E : jE} {n : Nat} (hn : 142 ≤ n) : zHas l E jcl jtb lw_tbl zsh n (y_MM_fault, false, 2, 11, { frames := 4, cells := 0, slots := 0, locals := 92 }, zc_MMfault1) := by
  refine ⟨⟨rfl, rfl, ⟨show 1 ≤ 2 by decide, m_MM_fault, i_MM_fault, e_MM_fault, fun _ => ⟨_, rfl, rfl⟩⟩⟩, ?_⟩
  rintro vz W po hO hW ⟨a, rfl, hq, hp⟩
  refine zmet (m := zm_MMfault1) rfl (by decide) (fun _ _ => jtF_ok) lo_MM ao_ZMMfault1 jC (fun q h => by cases h) (aAllc (fun G h => by obtain rfl := Option.some.inj h; exact ql_MM_100) (fun q h => by cases h)) (aAllc (zk_MMfault3 hn) (fun q h => by cases h)) (Nat.le_of_ble_eq_true rfl) hO hW (60) ?_
  exact zp_MMfault1_0 (by omega) hn ⟨(⟨hq.1, hq.2.1, by unfold lRg; omega, by unfold lRg; omega, hq.2.2⟩), fun W4 hr4 => (hp _ hr4)⟩
end
section
/-! the reference at a node: what is left alone, marks -/
theorem zAt_fr {Fs : List (Nat × Nat)} {Rs : List Nat} {W V : zW} {p : xP} (h : zFr Fs Rs W V) (hF : (Fs.all (fun x => decide (¬ x ∈ [(90, 25), (90, 26), (90, 27), (90, 28), (90, 29), (90, 33)]))) = true) (hR : (Rs.all (fun a => decide (¬ a ∈ [110, 113]))) = true) (ha : zAt W p) : zAt V p := by
  have e : ∀ a i, (a, i) ∈ [(90, 25), (90, 26), (90, 27), (90, 28), (90, 29), (90, 33)] → V.1 a i = W.1 a i := by
    intro a i hi
    refine h.1 a i (fun z => ?_)
    have := List.all_eq_true.mp hF _ z
    exact (of_decide_eq_true this) hi
  have r : ∀ a, a ∈ [110, 113] → V.2.1 a = W.2.1 a := by
    intro a hi
    refine h.2.1 a (fun z => ?_)
    have := List.all_eq_true.mp hR _ z
    exact (of_decide_eq_true this) hi
  have e1 : zMn V = zMn W := by unfold zMn; rw [r 110 (by decide)]
  unfold zAt zMk zQ at *
  rw [e1, e 90 25 (by decide), e 90 26 (by decide), e 90 27 (by decide), e 90 28 (by decide), e 90 29 (by decide), e 90 33 (by decide), r 110 (by decide), r 113 (by decide)]
  exact ha
theorem zHe_fr {Fs : List (Nat × Nat)} {Rs : List Nat} {W V : zW} {T : xT} {h : Int} (hf : zFr Fs Rs W V) (hF : (Fs.all (fun x => decide (¬ x ∈ [(90, 5), (90, 6), (90, 25), (90, 26), (90, 27), (90, 28), (90, 29), (90, 33)]))) = true) (hR : (Rs.all (fun a => decide (¬ a ∈ [93, 94, 95, 96, 97, 98, 102, 103, 110, 113]))) = true) (hh : zHe W T h) : zHe V T h := by
  have e : ∀ a i, (a, i) ∈ [(90, 5), (90, 6)] → V.1 a i = W.1 a i := by
    intro a i hi
    refine hf.1 a i (fun z => ?_)
    have := of_decide_eq_true (List.all_eq_true.mp hF _ z)
    exact this (by rcases List.mem_cons.mp hi with e | hi
                   · rw [e]; decide
                   · rcases List.mem_cons.mp hi with e | hi
                     · rw [e]; decide
                     · cases hi)
  have e5 := e 90 5 (by decide)
  refine ⟨by rw [e5]; exact hh.1, ?_, hh.2.2.1, by rw [e 90 6 (by decide)]; exact hh.2.2.2.1, hh.2.2.2.2.1, zAt_fr hf ?_ ?_ hh.2.2.2.2.2⟩
  · rw [e5]
    refine zRt_fr hf ?_ hh.2.1
    refine List.all_eq_true.mpr (fun a ha => decide_eq_true (fun z => ?_))
    have := of_decide_eq_true (List.all_eq_true.mp hR a ha)
    simp only [List.mem_cons, List.not_mem_nil, or_false] at z this
    omega
  · refine List.all_eq_true.mpr (fun a ha => decide_eq_true (fun z => ?_))
    have := of_decide_eq_true (List.all_eq_true.mp hF a ha)
    simp only [List.mem_cons, List.not_mem_nil, or_false] at z this
    grind
  · refine List.all_eq_true.mpr (fun a ha => decide_eq_true (fun z => ?_))
    have := of_decide_eq_true (List.all_eq_true.mp hR a ha)
    simp only [List.mem_cons, List.not_mem_nil, or_false] at z this
    omega
/-- a mark more at a node -/
noncomputable def xMa (T : xT) (h : Int) : xT := (T.1, T.2.1, T.2.2.1, T.2.2.2.1, T.2.2.2.2.1, zuI T.2.2.2.2.2 h (T.2.2.2.2.2 h + 1))
noncomputable def xMf (T : xT) (h m : Int) : Prop := m < 0 ∨ 255 < m ∨ h = 0 ∨ T.2.2.2.2.2 h = 4
theorem xMa_ok {T : xT} {h : Int} (hT : xTok T) (h4 : ¬ T.2.2.2.2.2 h = 4) : xTok (xMa T h) := by
  refine ⟨hT.1, hT.2.1, hT.2.2.1, fun i i0 i1 => ?_, hT.2.2.2.2⟩
  have := hT.2.2.2.1 i i0 i1
  show 0 ≤ zuI T.2.2.2.2.2 h (T.2.2.2.2.2 h + 1) i ∧ zuI T.2.2.2.2.2 h (T.2.2.2.2.2 h + 1) i ≤ 4
  unfold zuI
  by_cases c : i = h
  · subst c
    rw [if_pos rfl]
    omega
  · rw [if_neg c]
    exact this
theorem zRt_ma {W V : zW} {g h : Int} {T : xT} (hr : zRt W g T) (hf : zFr [(90, 0)] [98, 99] W V) (e : V.2.1 98 = zuI (W.2.1 98) (301 * g + h) (W.2.1 98 (301 * g + h) + 1)) (h0 : 0 ≤ h ∧ h ≤ T.2.1) : zRt V g (xMa T h) := by
  unfold zRt zSt zSb zro at *
  rw [zFr_r hf 93, zFr_r hf 94, zFr_r hf 95, zFr_r hf 96, zFr_r hf 97, zFr_r hf 102, zFr_r hf 103, e]
  refine ⟨hr.1, hr.2.1, fun i i0 i1 => ⟨(hr.2.2.1 i i0 i1).1, ?_⟩, hr.2.2.2⟩
  show zuI (W.2.1 98) (301 * g + h) (W.2.1 98 (301 * g + h) + 1) (301 * g + i) = zuI T.2.2.2.2.2 h (T.2.2.2.2.2 h + 1) i
  unfold zuI
  by_cases c : i = h
  · subst c
    rw [if_pos rfl, if_pos rfl, (hr.2.2.1 i i0 i1).2]
  · rw [if_neg c, if_neg (by omega)]
    exact (hr.2.2.1 i i0 i1).2
theorem zFo_ma {W V : zW} {g h x : Int} (hg : 0 ≤ g ∧ g ≤ 1) (hf : zFr [(90, 0)] [98, 99] W V) (e : V.2.1 98 = zuI (W.2.1 98) (301 * g + h) x) (h0 : 0 ≤ h ∧ h ≤ 300) : zFo g W V := by
  refine ⟨fun a ha i hi => ?_, fun i hi => by rw [zFr_r hf 93], zFr_r hf 102, zFr_r hf 103⟩
  rcases ha with rfl | rfl | rfl | rfl | rfl
  · rw [zFr_r hf 94]
  · rw [zFr_r hf 95]
  · rw [zFr_r hf 96]
  · rw [zFr_r hf 97]
  · rw [e]
    unfold zuI
    rw [if_neg (by omega)]
end
section
/-! the reference: a mark is added -/
noncomputable def y_MT_addMarkTo : jY := (⟨"ChessHouseModel$Texts", "addMarkTo", "(III)V"⟩, prog_18_method_64_code, 5, none)
theorem m_MT_addMarkTo : jmth lw_tbl y_MT_addMarkTo 3 := ⟨jTA_in (wi := 2717) (jtF_ok rfl) rfl, jTA_in (wi := 315) (jtF_ok rfl) rfl, by decide, by decide, by decide +kernel⟩
theorem i_MT_addMarkTo : Jvm.Cond.instanceMethod y_MT_addMarkTo.1 ∈ jTA lw_tbl := jTA_in (wi := 2716) (jtF_ok rfl) rfl
theorem e_MT_addMarkTo : Jvm.Cond.selects y_MT_addMarkTo.1.cls y_MT_addMarkTo.1 y_MT_addMarkTo.1 ∈ jTA lw_tbl := jTA_in (wi := 198) (jtF_ok rfl) rfl
noncomputable def ak_ZMTaddTo : List jI := [(.sipush 301, 3, (0, 0, 0, 301, 0)), (.iload_n 1, 1, (1, 0, 0, 0, 0)), (.imul, 1, (0, 0, 0, 0, 0)), (.iload_n 2, 1, (2, 0, 0, 0, 0)), (.iadd, 1, (0, 0, 0, 0, 0)), (.istore 4, 2, (4, 0, 0, 0, 0)), (.aload_n 0, 1, (0, 0, 0, 0, 0)), (.getfield 37, 3, (12, 13, 2034, 0, 0)), (.iconst 4, 1, (0, 0, 0, 4, 0)), (.iload 4, 2, (4, 0, 0, 0, 0)), (.imul, 1, (0, 0, 0, 0, 0)), (.aload_n 0, 1, (0, 0, 0, 0, 0)), (.getfield 34, 3, (12, 12, 2033, 0, 0)), (.iload 4, 2, (4, 0, 0, 0, 0)), (.iaload, 1, (0, 0, 0, 0, 0)), (.iadd, 1, (0, 0, 0, 0, 0)), (.iload_n 3, 1, (3, 0, 0, 0, 0)), (.iastore, 1, (0, 0, 0, 0, 0)), (.aload_n 0, 1, (0, 0, 0, 0, 0)), (.getfield 34, 3, (12, 12, 2033, 0, 0)), (.iload 4, 2, (4, 0, 0, 0, 0)), (.dup2, 1, (0, 0, 0, 0, 0)), (.iaload, 1, (0, 0, 0, 0, 0)), (.iconst 1, 1, (0, 0, 0, 1, 0)), (.iadd, 1, (0, 0, 0, 0, 0)), (.iastore, 1, (0, 0, 0, 0, 0)), (.return_, 1, (0, 0, 0, 0, 0))]
theorem ao_ZMTaddTo : jokLG jtF lk_MT "ChessHouseModel$Texts" jcl jtb 5 prog_18_method_64_code 0 ak_ZMTaddTo = true := by decide +kernel
noncomputable def zm_MTaddTo : zM := (none, { frames := 0, cells := 0, slots := 0, locals := 0 }, ([], []), [], ak_ZMTaddTo)
noncomputable def zc_MTaddTo (vals : List zv) (W : zW) (post : zPo) : Prop := ∃ g u m : Int, vals = [.inr (.inr (some (.inl 90))), .inl (g), .inl (u), .inl (m)] ∧ ((0 ≤ g ∧ g ≤ 1) ∧ (0 ≤ u ∧ u ≤ 300) ∧ 0 ≤ W.2.1 98 (301 * g + u) ∧ W.2.1 98 (301 * g + u) ≤ 3 ∧ 0 ≤ m ∧ m ≤ 255) ∧ ∀ V : zW, (zFr [] [98, 99] W V ∧ V.2.1 98 = zuI (W.2.1 98) (301 * g + u) (W.2.1 98 (301 * g + u) + 1)) → post none V
set_option maxRecDepth 8000 in
theorem zp_MTaddTo_0 {n K : Nat} {W : zW} {post : zPo} {g u m : Int} {u4 : Option zv} (hK : 27 ≤ K) (hn : 142 ≤ n) (h : (-2147483648 ≤ 301 * g ∧ 301 * g ≤ 2147483647) ∧ (-2147483648 ≤ (301 * g) + u ∧ (301 * g) + u ≤ 2147483647) ∧ (-2147483648 ≤ 4 * ((301 * g) + u) ∧ 4 * ((301 * g) + u) ≤ 2147483647) ∧ (0 ≤ ((301 * g) + u) ∧ ((301 * g) + u) < 602) ∧ (-2147483648 ≤ (4 * ((301 * g) + u)) + (W.2.1 98 ((301 * g) + u)) ∧ (4 * ((301 * g) + u)) + (W.2.1 98 ((301 * g) + u)) ≤ 2147483647) ∧ (0 ≤ ((4 * ((301 * g) + u)) + (W.2.1 98 ((301 * g) + u))) ∧ ((4 * ((301 * g) + u)) + (W.2.1 98 ((301 * g) + u))) < 2408) ∧ (0 ≤ m ∧ m ≤ 255) ∧ (0 ≤ ((301 * g) + u) ∧ ((301 * g) + u) < 602) ∧ (-2147483648 ≤ (W.2.1 98 ((301 * g) + u)) + 1 ∧ (W.2.1 98 ((301 * g) + u)) + 1 ≤ 2147483647) ∧ (0 ≤ ((301 * g) + u) ∧ ((301 * g) + u) < 602) ∧ post none (zuR (zuR W 99 ((4 * ((301 * g) + u)) + (W.2.1 98 ((301 * g) + u))) m) 98 ((301 * g) + u) ((W.2.1 98 ((301 * g) + u)) + 1))) : zwp jtb zsh n zm_MTaddTo post K (lGo ak_ZMTaddTo 0) 0 [some (.inr (.inr (some (.inl 90)))), some (.inl (g)), some (.inl (u)), some (.inl (m)), u4] [] W := by
  obtain ⟨kk__, rfl⟩ : ∃ kk__, K = kk__ + 27 := ⟨K - 27, by omega⟩
  exact (show (-2147483648 ≤ 301 * g ∧ 301 * g ≤ 2147483647) ∧ (-2147483648 ≤ (301 * g) + u ∧ (301 * g) + u ≤ 2147483647) ∧ 90 < n ∧ 12 = 12 ∧ (-2147483648 ≤ 4 * ((301 * g) + u) ∧ 4 * ((301 * g) + u) ≤ 2147483647) ∧ 90 < n ∧ 12 = 12 ∧ 98 < n ∧ FieldType.int = FieldType.int ∧ (0 ≤ ((301 * g) + u) ∧ ((301 * g) + u) < 602) ∧ (-2147483648 ≤ (4 * ((301 * g) + u)) + (W.2.1 98 ((301 * g) + u)) ∧ (4 * ((301 * g) + u)) + (W.2.1 98 ((301 * g) + u)) ≤ 2147483647) ∧ 99 < n ∧ FieldType.int = FieldType.int ∧ (0 ≤ ((4 * ((301 * g) + u)) + (W.2.1 98 ((301 * g) + u))) ∧ ((4 * ((301 * g) + u)) + (W.2.1 98 ((301 * g) + u))) < 2408) ∧ (0 ≤ m ∧ m ≤ 255) ∧ 90 < n ∧ 12 = 12 ∧ 98 < n ∧ FieldType.int = FieldType.int ∧ (0 ≤ ((301 * g) + u) ∧ ((301 * g) + u) < 602) ∧ (-2147483648 ≤ (W.2.1 98 ((301 * g) + u)) + 1 ∧ (W.2.1 98 ((301 * g) + u)) + 1 ≤ 2147483647) ∧ 98 < n ∧ FieldType.int = FieldType.int ∧ (0 ≤ ((301 * g) + u) ∧ ((301 * g) + u) < 602) ∧ True ∧ 1 = 1 ∧ (none : Option FieldType) = none ∧ post none (zuR (zuR W 99 ((4 * ((301 * g) + u)) + (W.2.1 98 ((301 * g) + u))) m) 98 ((301 * g) + u) ((W.2.1 98 ((301 * g) + u)) + 1)) from ⟨(h).1, ⟨((h).2).1, ⟨(Nat.lt_of_lt_of_le (by decide) hn), rfl, ⟨(((h).2).2).1, ⟨(Nat.lt_of_lt_of_le (by decide) hn), rfl, ⟨(Nat.lt_of_lt_of_le (by decide) hn), rfl, ((((h).2).2).2).1, ⟨(((((h).2).2).2).2).1, ⟨(Nat.lt_of_lt_of_le (by decide) hn), rfl, ((((((h).2).2).2).2).2).1, (((((((h).2).2).2).2).2).2).1, (have h := (((((((h).2).2).2).2).2).2).2; ⟨(Nat.lt_of_lt_of_le (by decide) hn), rfl, ⟨(Nat.lt_of_lt_of_le (by decide) hn), rfl, (h).1, ⟨((h).2).1, ⟨(Nat.lt_of_lt_of_le (by decide) hn), rfl, (((h).2).2).1, trivial, ⟨rfl, rfl, (((h).2).2).2⟩⟩⟩⟩⟩)⟩⟩⟩⟩⟩⟩⟩⟩)
theorem zk_MTaddTo {l : Launch} {E : jE} {n : Nat} (hn : 142 ≤ n) : zHas l E jcl jtb lw_tbl zsh n (y_MT_addMarkTo, false, 4, 12, { frames := 0, cells := 0, slots := 0, locals := 0 }, zc_MTaddTo) := by
  refine ⟨⟨rfl, rfl, ⟨show 1 ≤ 4 by decide, m_MT_addMarkTo, i_MT_addMarkTo, e_MT_addMarkTo, fun _ => ⟨_, rfl, rfl⟩⟩⟩, ?_⟩
  rintro vz W po hO hW ⟨g, u, m, rfl, hq, hp⟩
  refine zmet (m := zm_MTaddTo) rfl (by decide) (fun _ _ => jtF_ok) lo_MT ao_ZMTaddTo jC (fun q h => by cases h) (fun q h => by cases h) (fun q h => by cases h) (Nat.le_of_ble_eq_true rfl) hO hW (80) ?_
  exact zp_MTaddTo_0 (by omega) hn ⟨(by omega), ⟨(by omega), ⟨(by omega), ⟨(by omega), ⟨(by omega), ⟨(by omega), (by omega), ⟨(by omega), ⟨(by omega), ⟨(by omega), (hp _ ⟨(zFr_R (zFr_R zFr_0 (by decide)) (by decide)), rfl⟩)⟩⟩⟩⟩⟩⟩⟩⟩⟩
noncomputable def y_MT_addMark : jY := (⟨"ChessHouseModel$Texts", "addMark", "(I)I"⟩, prog_18_method_96_code, 2, (some .int))
theorem m_MT_addMark : jmth lw_tbl y_MT_addMark 1 := ⟨jTA_in (wi := 2824) (jtF_ok rfl) rfl, jTA_in (wi := 315) (jtF_ok rfl) rfl, by decide, by decide, by decide +kernel⟩
theorem i_MT_addMark : Jvm.Cond.instanceMethod y_MT_addMark.1 ∈ jTA lw_tbl := jTA_in (wi := 2822) (jtF_ok rfl) rfl
theorem e_MT_addMark : Jvm.Cond.selects y_MT_addMark.1.cls y_MT_addMark.1 y_MT_addMark.1 ∈ jTA lw_tbl := jTA_in (wi := 2823) (jtF_ok rfl) rfl
noncomputable def ak_ZMTaddM : List jI := [(.aload_n 0, 1, (0, 0, 0, 0, 0)), (.iload_n 1, 1, (1, 0, 0, 0, 0)), (.ifCond .lt 10, 3, (12, 0, 0, 0, 0)), (.iload_n 1, 1, (1, 0, 0, 0, 0)), (.sipush 255, 3, (0, 0, 0, 255, 0)), (.if_icmp .le 7, 3, (16, 0, 0, 0, 0)), (.iconst 1, 1, (0, 0, 0, 1, 0)), (.goto 37, 3, (50, 0, 0, 0, 0)), (.aload_n 0, 1, (0, 0, 0, 0, 0)), (.getfield 355, 3, (12, 6, 2022, 0, 0)), (.ifCond .eq 25, 3, (45, 0, 0, 0, 0)), (.aload_n 0, 1, (0, 0, 0, 0, 0)), (.getfield 34, 3, (12, 12, 2033, 0, 0)), (.sipush 301, 3, (0, 0, 0, 301, 0)), (.aload_n 0, 1, (0, 0, 0, 0, 0)), (.getfield 349, 3, (12, 5, 2020, 0, 0)), (.imul, 1, (0, 0, 0, 0, 0)), (.aload_n 0, 1, (0, 0, 0, 0, 0)), (.getfield 355, 3, (12, 6, 2022, 0, 0)), (.iadd, 1, (0, 0, 0, 0, 0)), (.iaload, 1, (0, 0, 0, 0, 0)), (.iconst 4, 1, (0, 0, 0, 4, 0)), (.if_icmp .ne 7, 3, (49, 0, 0, 0, 0)), (.iconst 2, 1, (0, 0, 0, 2, 0)), (.goto 4, 3, (50, 0, 0, 0, 0)), (.iconst 0, 1, (0, 0, 0, 0, 0)), (.putfield 100, 3, (12, 0, 2011, 0, 0)), (.aload_n 0, 1, (0, 0, 0, 0, 0)), (.getfield 100, 3, (12, 0, 2011, 0, 0)), (.ifCond .le 5, 3, (62, 0, 0, 0, 0)), (.iconst 0, 1, (0, 0, 0, 0, 0)), (.ireturn, 1, (0, 0, 0, 0, 0)), (.aload_n 0, 1, (0, 0, 0, 0, 0)), (.aload_n 0, 1, (0, 0, 0, 0, 0)), (.getfield 349, 3, (12, 5, 2020, 0, 0)), (.aload_n 0, 1, (0, 0, 0, 0, 0)), (.getfield 355, 3, (12, 6, 2022, 0, 0)), (.iload_n 1, 1, (1, 0, 0, 0, 0)), (.invokevirtual 305, 3, (0, 0, 2714, 0, 0)), (.aload_n 0, 1, (0, 0, 0, 0, 0)), (.getfield 34, 3, (12, 12, 2033, 0, 0)), (.sipush 301, 3, (0, 0, 0, 301, 0)), (.aload_n 0, 1, (0, 0, 0, 0, 0)), (.getfield 349, 3, (12, 5, 2020, 0, 0)), (.imul, 1, (0, 0, 0, 0, 0)), (.aload_n 0, 1, (0, 0, 0, 0, 0)), (.getfield 355, 3, (12, 6, 2022, 0, 0)), (.iadd, 1, (0, 0, 0, 0, 0)), (.iaload, 1, (0, 0, 0, 0, 0)), (.ireturn, 1, (0, 0, 0, 0, 0))]
theorem ao_ZMTaddM : jokLG jtF lk_MT "ChessHouseModel$Texts" jcl jtb 2 prog_18_method_96_code 0 ak_ZMTaddM = true := by decide +kernel
noncomputable def zm_MTaddM : zM := (some .int, { frames := 1, cells := 0, slots := 0, locals := 24 }, ([(305, 2714, 0)], []), [(y_MT_addMarkTo, false, 4, 12, { frames := 0, cells := 0, slots := 0, locals := 0 }, zc_MTaddTo)], ak_ZMTaddM)
noncomputable def zc_MTaddM (vals : List zv) (W : zW) (post : zPo) : Prop := ∃ m : Int, vals = [.inr (.inr (some (.inl 90))), .inl (m)] ∧ (∃ T h, zHe W T h) ∧ ∀ r : Int, ∀ V : zW, ((∀ T h, zHe W T h → (xMf T h m ∧ 0 < V.1 90 0 ∧ zHe V T h) ∨ (¬ xMf T h m ∧ ¬ 0 < V.1 90 0 ∧ zHe V (xMa T h) h)) ∧ zFo (W.1 90 5) W V ∧ zFr [(90, 0)] [98, 99] W V ∧ lRg r) → post (some (.inl r)) V
set_option maxRecDepth 8000 in
theorem zp_MTaddM_0 {n K : Nat} {W : zW} {post : zPo} {m : Int}  (hK : 44 ≤ K) (hn : 142 ≤ n) (h : (m < 0 → post (some (.inl (0))) (zuF W 90 0 1)) ∧ (¬ m < 0 → (m ≤ 255 → ((W.1 90 6) = 0 → post (some (.inl (0))) (zuF W 90 0 2)) ∧ (¬ (W.1 90 6) = 0 → (-2147483648 ≤ 301 * (W.1 90 5) ∧ 301 * (W.1 90 5) ≤ 2147483647) ∧ (-2147483648 ≤ (301 * (W.1 90 5)) + (W.1 90 6) ∧ (301 * (W.1 90 5)) + (W.1 90 6) ≤ 2147483647) ∧ (0 ≤ ((301 * (W.1 90 5)) + (W.1 90 6)) ∧ ((301 * (W.1 90 5)) + (W.1 90 6)) < 602) ∧ (¬ (W.2.1 98 ((301 * (W.1 90 5)) + (W.1 90 6))) = 4 → ((0 ≤ (W.1 90 5) ∧ (W.1 90 5) ≤ 1) ∧ (0 ≤ (W.1 90 6) ∧ (W.1 90 6) ≤ 300) ∧ 0 ≤ (zuF W 90 0 0).2.1 98 (301 * (W.1 90 5) + (W.1 90 6)) ∧ (zuF W 90 0 0).2.1 98 (301 * (W.1 90 5) + (W.1 90 6)) ≤ 3 ∧ 0 ≤ m ∧ m ≤ 255) ∧ ∀ W72 : zW, (zFr [] [98, 99] (zuF W 90 0 0) W72 ∧ W72.2.1 98 = zuI ((zuF W 90 0 0).2.1 98) (301 * (W.1 90 5) + (W.1 90 6)) ((zuF W 90 0 0).2.1 98 (301 * (W.1 90 5) + (W.1 90 6)) + 1)) → (-2147483648 ≤ 301 * (W72.1 90 5) ∧ 301 * (W72.1 90 5) ≤ 2147483647) ∧ (-2147483648 ≤ (301 * (W72.1 90 5)) + (W72.1 90 6) ∧ (301 * (W72.1 90 5)) + (W72.1 90 6) ≤ 2147483647) ∧ (0 ≤ ((301 * (W72.1 90 5)) + (W72.1 90 6)) ∧ ((301 * (W72.1 90 5)) + (W72.1 90 6)) < 602) ∧ post (some (.inl (W72.2.1 98 ((301 * (W72.1 90 5)) + (W72.1 90 6))))) W72) ∧ ((W.2.1 98 ((301 * (W.1 90 5)) + (W.1 90 6))) = 4 → post (some (.inl (0))) (zuF W 90 0 2)))) ∧ (¬ m ≤ 255 → post (some (.inl (0))) (zuF W 90 0 1)))) : zwp jtb zsh n zm_MTaddM post K (lGo ak_ZMTaddM 0) 0 [some (.inr (.inr (some (.inl 90)))), some (.inl (m))] [] W := by
  obtain ⟨kk__, rfl⟩ : ∃ kk__, K = kk__ + 44 := ⟨K - 44, by omega⟩
  exact (show (m < 0 → 90 < n ∧ 12 = 12 ∧ (some 0 : Option Nat) = some 0 ∧ ((0 : Nat) = 0 ∨ ((0 : Nat) = 1 ∧ ((1 : Int) = 0 ∨ (1 : Int) = 1))) ∧ 90 < n ∧ 12 = 12 ∧ ((1 : Int) ≤ 0 → zwp jtb zsh n zm_MTaddM post (kk__ + 35) (lGo ak_ZMTaddM 62) 62 [some (.inr (.inr (some (.inl 90)))), some (.inl (m))] [] (zuF W 90 0 1)) ∧ (¬ (1 : Int) ≤ 0 → 1 = 1 ∧ True ∧ post (some (.inl (0))) (zuF W 90 0 1))) ∧ (¬ m < 0 → (m ≤ 255 → 90 < n ∧ 12 = 12 ∧ ((W.1 90 6) = 0 → 90 < n ∧ 12 = 12 ∧ (some 0 : Option Nat) = some 0 ∧ ((0 : Nat) = 0 ∨ ((0 : Nat) = 1 ∧ ((2 : Int) = 0 ∨ (2 : Int) = 1))) ∧ 90 < n ∧ 12 = 12 ∧ ((2 : Int) ≤ 0 → zwp jtb zsh n zm_MTaddM post (kk__ + 29) (lGo ak_ZMTaddM 62) 62 [some (.inr (.inr (some (.inl 90)))), some (.inl (m))] [] (zuF W 90 0 2)) ∧ (¬ (2 : Int) ≤ 0 → 1 = 1 ∧ True ∧ post (some (.inl (0))) (zuF W 90 0 2))) ∧ (¬ (W.1 90 6) = 0 → 90 < n ∧ 12 = 12 ∧ 90 < n ∧ 12 = 12 ∧ (-2147483648 ≤ 301 * (W.1 90 5) ∧ 301 * (W.1 90 5) ≤ 2147483647) ∧ 90 < n ∧ 12 = 12 ∧ (-2147483648 ≤ (301 * (W.1 90 5)) + (W.1 90 6) ∧ (301 * (W.1 90 5)) + (W.1 90 6) ≤ 2147483647) ∧ 98 < n ∧ FieldType.int = FieldType.int ∧ (0 ≤ ((301 * (W.1 90 5)) + (W.1 90 6)) ∧ ((301 * (W.1 90 5)) + (W.1 90 6)) < 602) ∧ (¬ (W.2.1 98 ((301 * (W.1 90 5)) + (W.1 90 6))) = 4 → 90 < n ∧ 12 = 12 ∧ (some 0 : Option Nat) = some 0 ∧ ((0 : Nat) = 0 ∨ ((0 : Nat) = 1 ∧ ((0 : Int) = 0 ∨ (0 : Int) = 1))) ∧ 90 < n ∧ 12 = 12 ∧ ((0 : Int) ≤ 0 → 90 < n ∧ 12 = 12 ∧ 90 < n ∧ 12 = 12 ∧ 3 = 3 ∧ false = false ∧ jin3 305 2714 0 zm_MTaddM.2.2.1.1 = true ∧ lRm zm_MTaddM.2.1 { frames := 0, cells := 0, slots := 0, locals := 0 } 5 = true ∧ Nat.ble 4 4 = true ∧ Nat.ble 0 8 = true ∧ 90 < n ∧ 12 = 12 ∧ Nat.ble 1000 12 = false ∧ zc_MTaddTo [.inr (.inr (some (.inl 90))), .inl (W.1 90 5), .inl (W.1 90 6), .inl (m)] (zuF W 90 0 0) (fun vv__ WW__ => zwp jtb zsh n zm_MTaddM post (kk__ + 11) (lGo ak_ZMTaddM 75) 75 [some (.inr (.inr (some (.inl 90)))), some (.inl (m))] (vv__.toList ++ []) WW__)) ∧ (¬ (0 : Int) ≤ 0 → zwp jtb zsh n zm_MTaddM post (kk__ + 18) (lGo ak_ZMTaddM 60) 60 [some (.inr (.inr (some (.inl 90)))), some (.inl (m))] [] (zuF W 90 0 0))) ∧ ((W.2.1 98 ((301 * (W.1 90 5)) + (W.1 90 6))) = 4 → 90 < n ∧ 12 = 12 ∧ (some 0 : Option Nat) = some 0 ∧ ((0 : Nat) = 0 ∨ ((0 : Nat) = 1 ∧ ((2 : Int) = 0 ∨ (2 : Int) = 1))) ∧ 90 < n ∧ 12 = 12 ∧ ((2 : Int) ≤ 0 → zwp jtb zsh n zm_MTaddM post (kk__ + 17) (lGo ak_ZMTaddM 62) 62 [some (.inr (.inr (some (.inl 90)))), some (.inl (m))] [] (zuF W 90 0 2)) ∧ (¬ (2 : Int) ≤ 0 → 1 = 1 ∧ True ∧ post (some (.inl (0))) (zuF W 90 0 2))))) ∧ (¬ m ≤ 255 → 90 < n ∧ 12 = 12 ∧ (some 0 : Option Nat) = some 0 ∧ ((0 : Nat) = 0 ∨ ((0 : Nat) = 1 ∧ ((1 : Int) = 0 ∨ (1 : Int) = 1))) ∧ 90 < n ∧ 12 = 12 ∧ ((1 : Int) ≤ 0 → zwp jtb zsh n zm_MTaddM post (kk__ + 32) (lGo ak_ZMTaddM 62) 62 [some (.inr (.inr (some (.inl 90)))), some (.inl (m))] [] (zuF W 90 0 1)) ∧ (¬ (1 : Int) ≤ 0 → 1 = 1 ∧ True ∧ post (some (.inl (0))) (zuF W 90 0 1)))) from ⟨fun c2_2 => ⟨(Nat.lt_of_lt_of_le (by decide) hn), rfl, rfl, (Or.inl rfl), ⟨(Nat.lt_of_lt_of_le (by decide) hn), rfl, ⟨fun hc8 => absurd hc8 (by decide), fun _ => ⟨rfl, trivial, ((h).1 c2_2)⟩⟩⟩⟩, fun c2_2 => ⟨fun c9_5 => ⟨(Nat.lt_of_lt_of_le (by decide) hn), rfl, ⟨fun c20_8 => (have h := ((((((h).2 c2_2)).1 c9_5)).1 c20_8); ⟨(Nat.lt_of_lt_of_le (by decide) hn), rfl, rfl, (Or.inl rfl), ⟨(Nat.lt_of_lt_of_le (by decide) hn), rfl, ⟨fun hc14 => absurd hc14 (by decide), fun _ => ⟨rfl, trivial, h⟩⟩⟩⟩), fun c20_8 => (have h := ((((((h).2 c2_2)).1 c9_5)).2 c20_8); ⟨(Nat.lt_of_lt_of_le (by decide) hn), rfl, ⟨(Nat.lt_of_lt_of_le (by decide) hn), rfl, ⟨(h).1, ⟨(Nat.lt_of_lt_of_le (by decide) hn), rfl, ⟨((h).2).1, ⟨(Nat.lt_of_lt_of_le (by decide) hn), rfl, (((h).2).2).1, ⟨fun c42_20 => (have h := (((((h).2).2).2).1 c42_20); ⟨(Nat.lt_of_lt_of_le (by decide) hn), rfl, rfl, (Or.inl rfl), ⟨(Nat.lt_of_lt_of_le (by decide) hn), rfl, ⟨fun _ => ⟨(Nat.lt_of_lt_of_le (by decide) hn), rfl, ⟨(Nat.lt_of_lt_of_le (by decide) hn), rfl, ⟨rfl, rfl, rfl, rfl, rfl, rfl, (Nat.lt_of_lt_of_le (by decide) hn), rfl, rfl, W.1 90 5, W.1 90 6, m, rfl, (h).1, fun W72 hr72 => (show 90 < n ∧ 12 = 12 ∧ 90 < n ∧ 12 = 12 ∧ (-2147483648 ≤ 301 * (W72.1 90 5) ∧ 301 * (W72.1 90 5) ≤ 2147483647) ∧ 90 < n ∧ 12 = 12 ∧ (-2147483648 ≤ (301 * (W72.1 90 5)) + (W72.1 90 6) ∧ (301 * (W72.1 90 5)) + (W72.1 90 6) ≤ 2147483647) ∧ 98 < n ∧ FieldType.int = FieldType.int ∧ (0 ≤ ((301 * (W72.1 90 5)) + (W72.1 90 6)) ∧ ((301 * (W72.1 90 5)) + (W72.1 90 6)) < 602) ∧ 1 = 1 ∧ True ∧ post (some (.inl (W72.2.1 98 ((301 * (W72.1 90 5)) + (W72.1 90 6))))) W72 from ⟨(Nat.lt_of_lt_of_le (by decide) hn), rfl, ⟨(Nat.lt_of_lt_of_le (by decide) hn), rfl, ⟨(((h).2 W72 hr72)).1, ⟨(Nat.lt_of_lt_of_le (by decide) hn), rfl, ⟨((((h).2 W72 hr72)).2).1, ⟨(Nat.lt_of_lt_of_le (by decide) hn), rfl, (((((h).2 W72 hr72)).2).2).1, (have h := (((((h).2 W72 hr72)).2).2).2; ⟨rfl, trivial, h⟩)⟩⟩⟩⟩⟩⟩)⟩⟩⟩, fun hc25 => absurd hc25 (by decide)⟩⟩⟩), fun c42_20 => (have h := (((((h).2).2).2).2 c42_20); ⟨(Nat.lt_of_lt_of_le (by decide) hn), rfl, rfl, (Or.inl rfl), ⟨(Nat.lt_of_lt_of_le (by decide) hn), rfl, ⟨fun hc26 => absurd hc26 (by decide), fun _ => ⟨rfl, trivial, h⟩⟩⟩⟩)⟩⟩⟩⟩⟩⟩⟩)⟩⟩, fun c9_5 => ⟨(Nat.lt_of_lt_of_le (by decide) hn), rfl, rfl, (Or.inl rfl), ⟨(Nat.lt_of_lt_of_le (by decide) hn), rfl, ⟨fun hc11 => absurd hc11 (by decide), fun _ => ⟨rfl, trivial, ((((h).2 c2_2)).2 c9_5)⟩⟩⟩⟩⟩⟩)
theorem zk_MTaddM {l : Launch} {E : jE} {n : Nat} (hn : 142 ≤ n) : zHas l E jcl jtb lw_tbl zsh n (y_MT_addMark, false, 2, 12, { frames := 1, cells := 0, slots := 0, locals := 24 }, zc_MTaddM) := by
  refine ⟨⟨rfl, rfl, ⟨show 1 ≤ 2 by decide, m_MT_addMark, i_MT_addMark, e_MT_addMark, fun _ => ⟨_, rfl, rfl⟩⟩⟩, ?_⟩
  rintro vz W po hO hW ⟨m, rfl, hq, hp⟩
  refine zmet (m := zm_MTaddM) rfl (by decide) (fun _ _ => jtF_ok) lo_MT ao_ZMTaddM jC (fun q h => by cases h) (aAllc (fun G h => by obtain rfl := Option.some.inj h; exact ql_MT_305) (fun q h => by cases h)) (aAllc (zk_MTaddTo hn) (fun q h => by cases h)) (Nat.le_of_ble_eq_true rfl) hO hW (100) ?_
  obtain ⟨T, h, hh⟩ := hq
  have hg := hh.1
  have h6 := hh.2.2.2.1
  have hN := hh.2.2.1.1
  have hb := hh.2.2.2.2.1
  have hc : W.2.1 98 (301 * W.1 90 5 + W.1 90 6) = T.2.2.2.2.2 h := by rw [h6]; exact (hh.2.1.2.2.1 h hb.1 hb.2).2
  have hm := hh.2.2.1.2.2.2.1 h hb.1 hb.2
  have uq : ∀ T' h', zHe W T' h' → W.1 90 6 = h' ∧ W.2.1 98 (301 * W.1 90 5 + W.1 90 6) = T'.2.2.2.2.2 h' := fun T' h' z => ⟨z.2.2.2.1, by rw [z.2.2.2.1]; exact (z.2.1.2.2.1 h' z.2.2.2.2.1.1 z.2.2.2.2.1.2).2⟩
  have bad : ∀ (v : Int), 0 < v → (m < 0 ∨ 255 < m ∨ W.1 90 6 = 0 ∨ W.2.1 98 (301 * W.1 90 5 + W.1 90 6) = 4) → po (some (.inl 0)) (zuF W 90 0 v) := by
    intro v hv hx
    refine hp 0 _ ⟨fun T' h' z => Or.inl ⟨?_, by rw [zuF_1, if_pos ⟨rfl, rfl⟩]; exact hv, zHe_fr (zFr_F (zFr_0 (Fs := [(90, 0)]) (Rs := [])) (by decide)) (by decide) (by decide) z⟩, zFo_fr zFo_0 (zFr_F (zFr_0 (Fs := [(90, 0)]) (Rs := [])) (by decide)) (by decide), zFr_F zFr_0 (by decide), by unfold lRg; omega⟩
    obtain ⟨e1, e2⟩ := uq T' h' z
    rw [e2, e1] at hx
    exact hx
  have ee : ∀ U, zFr [] [98, 99] (zuF W 90 0 0) U → U.1 90 5 = W.1 90 5 ∧ U.1 90 6 = W.1 90 6 := by
    intro U hU
    rw [zFr_f hU 90 5, zFr_f hU 90 6, zuF_1, zuF_1, if_neg (by decide), if_neg (by decide)]
    exact ⟨rfl, rfl⟩
  have good : ∀ U, (¬ m < 0 ∧ m ≤ 255 ∧ ¬ W.1 90 6 = 0 ∧ ¬ W.2.1 98 (301 * W.1 90 5 + W.1 90 6) = 4) → (zFr [] [98, 99] (zuF W 90 0 0) U ∧ U.2.1 98 = zuI ((zuF W 90 0 0).2.1 98) (301 * W.1 90 5 + W.1 90 6) ((zuF W 90 0 0).2.1 98 (301 * W.1 90 5 + W.1 90 6) + 1)) → (∀ T h, zHe W T h → (xMf T h m ∧ 0 < U.1 90 0 ∧ zHe U T h) ∨ (¬ xMf T h m ∧ ¬ 0 < U.1 90 0 ∧ zHe U (xMa T h) h)) ∧ zFo (W.1 90 5) W U ∧ zFr [(90, 0)] [98, 99] W U ∧ lRg (U.2.1 98 (301 * U.1 90 5 + U.1 90 6)) := by
    intro U hx hU
    rw [zuF_2] at hU
    have hf : zFr [(90, 0)] [98, 99] W U := zFr_t (zFr_F zFr_0 (by decide)) (zFr_w hU.1 (by decide) (by decide))
    have e0 : U.1 90 0 = 0 := by rw [zFr_f hU.1 90 0, zuF_1, if_pos ⟨rfl, rfl⟩]
    obtain ⟨e5, e6⟩ := ee U hU.1
    refine ⟨fun T' h' z => Or.inr ?_, ?_, hf, ?_⟩
    · obtain ⟨y1, y2⟩ := uq T' h' z
      rw [y2, y1] at hx
      refine ⟨fun q => ?_, by omega, ?_⟩
      · unfold xMf at q
        omega
      · refine ⟨by rw [e5]; exact z.1, ?_, xMa_ok z.2.2.1 hx.2.2.2, by rw [e6]; exact y1, z.2.2.2.2.1, zAt_fr hf (by decide) (by decide) z.2.2.2.2.2⟩
        rw [e5]
        exact zRt_ma z.2.1 hf (by rw [hU.2, y1]) z.2.2.2.2.1
    · rw [h6] at hU
      exact zFo_ma hg hf hU.2 (by omega)
    · rw [e5, e6, hU.2]
      unfold zuI lRg
      rw [if_pos rfl]
      omega
  exact zp_MTaddM_0 (by omega) hn ⟨fun c2 => (bad _ (by decide) (by omega)), fun c2 => ⟨fun c9 => ⟨fun c20 => (bad _ (by decide) (by omega)), fun c20 => ⟨(by omega), ⟨(by omega), ⟨(by omega), ⟨fun c42 => ⟨(⟨hg, by omega, by rw [zuF_2]; omega, by rw [zuF_2]; omega, by omega, by omega⟩), fun W72 hr72 => ⟨(by have := ee _ hr72.1; omega), ⟨(by have := ee _ hr72.1; omega), ⟨(by have := ee _ hr72.1; omega), (hp _ _ (good _ (by omega) hr72))⟩⟩⟩⟩, fun c42 => (bad _ (by decide) (by omega))⟩⟩⟩⟩⟩, fun c9 => (bad _ (by decide) (by omega))⟩⟩
end
section
/-! a node is led: the first of its brothers -/
noncomputable def xLe (T : xT) (h : Int) : xT := (T.1, T.2.1, T.2.2.1, T.2.2.2.1, (fun i => if i = T.2.2.1 h then h :: (T.2.2.2.2.1 i).erase h else T.2.2.2.2.1 i), T.2.2.2.2.2)
noncomputable def xLb (T : xT) (h : Int) : Prop := h = 0 ∨ (¬ xLd T.2.2.2.2.1 (T.2.2.1 h) = h ∧ ∃ k, 1 ≤ k ∧ k ≤ T.2.1 ∧ trW T.2.2.1 (xLd T.2.2.2.2.1 (T.2.2.1 h)) k ∧ trE T.2.2.1 (xLd T.2.2.2.2.1) k = 6)
theorem xT_p {T : xT} (hT : xTok T) : trP T.2.2.1 T.2.1 := hT.2.1.2.1
theorem xLd_m {kd : Int → List Int} {i h : Int} (hm : h ∈ kd i) : xLd kd i ∈ kd i := by
  unfold xLd
  cases e : kd i with
  | nil => rw [e] at hm; cases hm
  | cons x l => exact List.mem_cons_self ..
theorem xT_k {T : xT} (hT : xTok T) {h : Int} (h1 : 1 ≤ h) (h2 : h ≤ T.2.1) : h ∈ T.2.2.2.2.1 (T.2.2.1 h) ∧ 0 ≤ T.2.2.1 h ∧ T.2.2.1 h ≤ T.2.1 := by
  have hp := xT_p hT h h1 h2
  exact ⟨((hT.2.2.1 (T.2.2.1 h) hp.1 (by omega)).2 h).mpr ⟨h1, h2, rfl⟩, hp.1, by omega⟩
theorem xLe_l {T : xT} {h : Int} : xLd (xLe T h).2.2.2.2.1 = trL T.2.2.1 (xLd T.2.2.2.2.1) h := by
  funext i
  show (if i = T.2.2.1 h then h :: (T.2.2.2.2.1 i).erase h else T.2.2.2.2.1 i).headD 0 = if i = T.2.2.1 h then h else (T.2.2.2.2.1 i).headD 0
  by_cases c : i = T.2.2.1 h
  · rw [if_pos c, if_pos c]; rfl
  · rw [if_neg c, if_neg c]
theorem xLe_ok {T : xT} {h : Int} (hT : xTok T) (h1 : 1 ≤ h) (h2 : h ≤ T.2.1) (hb : ¬ xLb T h) : xTok (xLe T h) := by
  obtain ⟨hm, p0, p1⟩ := xT_k hT h1 h2
  refine ⟨hT.1, hT.2.1, fun i i0 i1 => ?_, hT.2.2.2.1, fun k k1 k2 => ?_⟩
  · show (if i = T.2.2.1 h then h :: (T.2.2.2.2.1 i).erase h else T.2.2.2.2.1 i).Nodup ∧ ∀ c, c ∈ (if i = T.2.2.1 h then h :: (T.2.2.2.2.1 i).erase h else T.2.2.2.2.1 i) ↔ (1 ≤ c ∧ c ≤ T.2.1 ∧ T.2.2.1 c = i)
    have hk := hT.2.2.1 i i0 i1
    by_cases c : i = T.2.2.1 h
    · rw [if_pos c]
      refine ⟨List.nodup_cons.mpr ⟨fun z => ?_, hk.1.erase h⟩, fun x => ?_⟩
      · exact (hk.1.mem_erase_iff.mp z).1 rfl
      · rw [← hk.2 x, List.mem_cons, hk.1.mem_erase_iff]
        constructor
        · rintro (rfl | z)
          · rw [c]; exact hm
          · exact z.2
        · intro z
          by_cases e : x = h
          · exact Or.inl e
          · exact Or.inr ⟨e, z⟩
    · rw [if_neg c]
      exact hk
  · rw [xLe_l]
    show trE T.2.2.1 (trL T.2.2.1 (xLd T.2.2.2.2.1) h) k ≤ 6
    by_cases c : xLd T.2.2.2.2.1 (T.2.2.1 h) = h
    · have e : trL T.2.2.1 (xLd T.2.2.2.2.1) h = xLd T.2.2.2.2.1 := by
        funext i
        unfold trL
        by_cases d : i = T.2.2.1 h
        · rw [if_pos d, d, c]
        · rw [if_neg d]
      rw [e]
      exact hT.2.2.2.2 k k1 k2
    · have hf := ((hT.2.2.1 _ p0 p1).2 _).mp (xLd_m hm)
      have := tr_T (xT_p hT) ⟨h1, h2⟩ ⟨hf.1, hf.2.1⟩ rfl hf.2.2 c hT.2.2.2.2
      refine Int.not_lt.mp (fun z => hb (Or.inr ⟨c, this.mp ⟨k, k1, k2, z⟩⟩))
theorem xCr_l0 {nx nx' : Int → Int} {b h : Int} {B : List Int} (e1 : nx' b = nx h) (e3 : ∀ x, ¬ x = b → ¬ x = h → nx' x = nx x) : ∀ (A : List Int) (a : Int), (A ++ b :: h :: B).Nodup → xCr nx a (A ++ b :: h :: B) → xCr nx' a (A ++ b :: B)
  | [], a, hd, hc => by
    obtain ⟨rfl, hh, h3⟩ := hc
    refine ⟨rfl, ?_⟩
    rw [e1]
    refine xCr_c h3 (fun x hx => e3 x ?_ ?_)
    · rintro rfl
      have := (List.nodup_cons.mp hd).1
      exact this (List.mem_cons_of_mem _ hx)
    · rintro rfl
      exact (List.nodup_cons.mp (List.nodup_cons.mp hd).2).1 hx
  | x :: A, a, hd, hc => by
    obtain ⟨rfl, h3⟩ := hc
    have hd2 := List.nodup_cons.mp hd
    refine ⟨rfl, ?_⟩
    rw [e3 a (fun z => hd2.1 (by rw [z]; exact List.mem_append_right _ (List.mem_cons_self ..))) (fun z => hd2.1 (by rw [z]; exact List.mem_append_right _ (List.mem_cons_of_mem _ (List.mem_cons_self ..))))]
    exact xCr_l0 e1 e3 A _ hd2.2 h3
theorem xEr {b h : Int} {B : List Int} : ∀ (A : List Int), (A ++ b :: h :: B).Nodup → (A ++ b :: h :: B).erase h = A ++ b :: B
  | [], hd => by
    have := (List.nodup_cons.mp hd).1
    show (b :: h :: B).erase h = b :: B
    rw [List.erase_cons_tail (by simp; rintro rfl; exact this (List.mem_cons_self ..)), List.erase_cons_head]
  | x :: A, hd => by
    have hd2 := List.nodup_cons.mp hd
    show (x :: (A ++ b :: h :: B)).erase h = x :: (A ++ b :: B)
    rw [List.erase_cons_tail (by simp; rintro rfl; exact hd2.1 (List.mem_append_right _ (List.mem_cons_of_mem _ (List.mem_cons_self ..)))), xEr A hd2.2]
theorem xCr_s {nx : Int → Int} {i : Int} {R : List Int} : ∀ (A : List Int) (a : Int), xCr nx a (A ++ i :: R) → xCr nx i (i :: R)
  | [], a, h => by obtain ⟨rfl, h⟩ := h; exact ⟨rfl, h⟩
  | x :: A, a, h => xCr_s A _ h.2
/-- rows behind a lead -/
theorem zRt_le {W V : zW} {g h b f : Int} {T : xT} {A B : List Int} (hg : 0 ≤ g ∧ g ≤ 1) (hr : zRt W g T) (hT : xTok T) (h1 : 1 ≤ h) (h2 : h ≤ T.2.1) (hf : zFr [(90, 0)] [96, 97] W V) (ek : T.2.2.2.2.1 (T.2.2.1 h) = A ++ b :: h :: B) (ef : f = zro W 96 g (T.2.2.1 h)) (e7 : V.2.1 97 = zuI (zuI (W.2.1 97) (301 * g + b) (W.2.1 97 (301 * g + h))) (301 * g + h) f) (e6 : V.2.1 96 = zuI (W.2.1 96) (301 * g + T.2.2.1 h) h) : zRt V g (xLe T h) := by
  obtain ⟨hm, p0, p1⟩ := xT_k hT h1 h2
  have hk := hT.2.2.1 _ p0 p1
  have hd := hk.1
  rw [ek] at hd
  have hbh : ¬ b = h := by
    rintro rfl
    have := (List.nodup_append.mp hd).2.1
    exact (List.nodup_cons.mp this).1 (List.mem_cons_self ..)
  have n97 : ∀ x, zro V 97 g x = if x = h then f else if x = b then zro W 97 g h else zro W 97 g x := by
    intro x
    show V.2.1 97 (301 * g + x) = _
    rw [e7]
    unfold zuI zro
    by_cases c : x = h
    · rw [if_pos (by omega), if_pos c]
    · rw [if_neg (by omega), if_neg c]
      by_cases d : x = b
      · rw [if_pos (by omega), if_pos d]
      · rw [if_neg (by omega), if_neg d]
  have n96 : ∀ x, zro V 96 g x = if x = T.2.2.1 h then h else zro W 96 g x := by
    intro x
    show V.2.1 96 (301 * g + x) = _
    rw [e6]
    unfold zuI zro
    by_cases c : x = T.2.2.1 h
    · rw [if_pos (by omega), if_pos c]
    · rw [if_neg (by omega), if_neg c]
  refine ⟨by rw [zFr_r hf 93]; exact hr.1, fun i i0 i1 => ?_, fun i i0 i1 => ⟨?_, ?_⟩, ?_, ?_⟩
  · unfold zro
    rw [zFr_r hf 94, zFr_r hf 95]
    exact hr.2.1 i i0 i1
  · show xCr (zro V 97 g) (zro V 96 g i) (if i = T.2.2.1 h then h :: (T.2.2.2.2.1 i).erase h else T.2.2.2.2.1 i)
    rw [n96]
    by_cases c : i = T.2.2.1 h
    · rw [if_pos c, if_pos c, c, ek, xEr A hd]
      refine ⟨rfl, ?_⟩
      have h3 := (hr.2.2.1 _ p0 p1).1
      rw [ek] at h3
      rw [n97, if_pos rfl, ef]
      refine xCr_l0 ?_ (fun x x1 x2 => ?_) A _ hd h3
      · rw [n97, if_neg hbh, if_pos rfl]
      · rw [n97, if_neg x2, if_neg x1]
    · rw [if_neg c, if_neg c]
      refine xCr_c (hr.2.2.1 i i0 i1).1 (fun x hx => ?_)
      have hx2 := (((hT.2.2.1 i i0 i1).2 x).mp hx).2.2
      rw [n97, if_neg, if_neg]
      · rintro rfl
        have : x ∈ T.2.2.2.2.1 (T.2.2.1 h) := by rw [ek]; exact List.mem_append_right _ (List.mem_cons_self ..)
        have := ((hk.2 x).mp this).2.2
        omega
      · rintro rfl
        exact c hx2.symm
  · show zro V 98 g i = T.2.2.2.2.2 i
    unfold zro
    rw [zFr_r hf 98]
    exact (hr.2.2.1 i i0 i1).2
  · unfold zSt
    rw [zFr_r hf 102, zFr_r hf 103]
    exact hr.2.2.2.1
  · unfold zSb
    rw [zFr_r hf 102, zFr_r hf 103]
    exact hr.2.2.2.2
theorem zFo_le {W V : zW} {g h b p x y z : Int} (hg : 0 ≤ g ∧ g ≤ 1) (hf : zFr [(90, 0)] [96, 97] W V) (e7 : V.2.1 97 = zuI (zuI (W.2.1 97) (301 * g + b) x) (301 * g + h) y) (e6 : V.2.1 96 = zuI (W.2.1 96) (301 * g + p) z) (h0 : 0 ≤ h ∧ h ≤ 300) (h1 : 0 ≤ b ∧ b ≤ 300) (h2 : 0 ≤ p ∧ p ≤ 300) : zFo g W V := by
  refine ⟨fun a ha i hi => ?_, fun i hi => by rw [zFr_r hf 93], zFr_r hf 102, zFr_r hf 103⟩
  rcases ha with rfl | rfl | rfl | rfl | rfl
  · rw [zFr_r hf 94]
  · rw [zFr_r hf 95]
  · rw [e6]
    unfold zuI
    rw [if_neg (by omega)]
  · rw [e7]
    unfold zuI
    rw [if_neg (by omega), if_neg (by omega)]
  · rw [zFr_r hf 98]
end
section
/-! the reference: a node is led -/
noncomputable def y_MT_lead : jY := (⟨"ChessHouseModel$Texts", "lead", "()Z"⟩, prog_18_method_99_code, 4, (some .boolean))
theorem m_MT_lead : jmth lw_tbl y_MT_lead 0 := ⟨jTA_in (wi := 2833) (jtF_ok rfl) rfl, jTA_in (wi := 315) (jtF_ok rfl) rfl, by decide, by decide, by decide +kernel⟩
theorem i_MT_lead : Jvm.Cond.instanceMethod y_MT_lead.1 ∈ jTA lw_tbl := jTA_in (wi := 2831) (jtF_ok rfl) rfl
theorem e_MT_lead : Jvm.Cond.selects y_MT_lead.1.cls y_MT_lead.1 y_MT_lead.1 ∈ jTA lw_tbl := jTA_in (wi := 2832) (jtF_ok rfl) rfl
noncomputable def ak_ZMTlead : List jI := [(.aload_n 0, 1, (0, 0, 0, 0, 0)), (.aload_n 0, 1, (0, 0, 0, 0, 0)), (.getfield 355, 3, (12, 6, 2022, 0, 0)), (.ifCond .ne 7, 3, (12, 0, 0, 0, 0)), (.iconst 1, 1, (0, 0, 0, 1, 0)), (.goto 4, 3, (13, 0, 0, 0, 0)), (.iconst 0, 1, (0, 0, 0, 0, 0)), (.putfield 100, 3, (12, 0, 2011, 0, 0)), (.aload_n 0, 1, (0, 0, 0, 0, 0)), (.getfield 100, 3, (12, 0, 2011, 0, 0)), (.ifCond .le 5, 3, (25, 0, 0, 0, 0)), (.iconst 0, 1, (0, 0, 0, 0, 0)), (.ireturn, 1, (0, 0, 0, 0, 0)), (.aload_n 0, 1, (0, 0, 0, 0, 0)), (.getfield 22, 3, (12, 8, 2025, 0, 0)), (.sipush 301, 3, (0, 0, 0, 301, 0)), (.aload_n 0, 1, (0, 0, 0, 0, 0)), (.getfield 349, 3, (12, 5, 2020, 0, 0)), (.imul, 1, (0, 0, 0, 0, 0)), (.aload_n 0, 1, (0, 0, 0, 0, 0)), (.getfield 355, 3, (12, 6, 2022, 0, 0)), (.iadd, 1, (0, 0, 0, 0, 0)), (.iaload, 1, (0, 0, 0, 0, 0)), (.istore_n 1, 1, (1, 0, 0, 0, 0)), (.aload_n 0, 1, (0, 0, 0, 0, 0)), (.getfield 28, 3, (12, 10, 2029, 0, 0)), (.sipush 301, 3, (0, 0, 0, 301, 0)), (.aload_n 0, 1, (0, 0, 0, 0, 0)), (.getfield 349, 3, (12, 5, 2020, 0, 0)), (.imul, 1, (0, 0, 0, 0, 0)), (.iload_n 1, 1, (1, 0, 0, 0, 0)), (.iadd, 1, (0, 0, 0, 0, 0)), (.iaload, 1, (0, 0, 0, 0, 0)), (.istore_n 2, 1, (2, 0, 0, 0, 0)), (.iload_n 2, 1, (2, 0, 0, 0, 0)), (.aload_n 0, 1, (0, 0, 0, 0, 0)), (.getfield 355, 3, (12, 6, 2022, 0, 0)), (.if_icmp .ne 5, 3, (70, 0, 0, 0, 0)), (.iconst 0, 1, (0, 0, 0, 0, 0)), (.ireturn, 1, (0, 0, 0, 0, 0)), (.iconst 1, 1, (0, 0, 0, 1, 0)), (.istore_n 3, 1, (3, 0, 0, 0, 0)), (.iload_n 3, 1, (3, 0, 0, 0, 0)), (.aload_n 0, 1, (0, 0, 0, 0, 0)), (.getfield 18, 3, (12, 7, 2023, 0, 0)), (.aload_n 0, 1, (0, 0, 0, 0, 0)), (.getfield 349, 3, (12, 5, 2020, 0, 0)), (.iaload, 1, (0, 0, 0, 0, 0)), (.if_icmp .gt 39, 3, (121, 0, 0, 0, 0)), (.aload_n 0, 1, (0, 0, 0, 0, 0)), (.iload_n 3, 1, (3, 0, 0, 0, 0)), (.iload_n 2, 1, (2, 0, 0, 0, 0)), (.invokevirtual 397, 3, (0, 0, 2834, 0, 0)), (.ifCond .eq 24, 3, (115, 0, 0, 0, 0)), (.aload_n 0, 1, (0, 0, 0, 0, 0)), (.aload_n 0, 1, (0, 0, 0, 0, 0)), (.getfield 349, 3, (12, 5, 2020, 0, 0)), (.iload_n 3, 1, (3, 0, 0, 0, 0)), (.invokevirtual 394, 3, (1, 0, 2794, 0, 0)), (.bipush 6, 2, (0, 0, 0, 6, 0)), (.if_icmp .ne 10, 3, (115, 0, 0, 0, 0)), (.aload_n 0, 1, (0, 0, 0, 0, 0)), (.iconst 1, 1, (0, 0, 0, 1, 0)), (.putfield 100, 3, (12, 0, 2011, 0, 0)), (.iconst 0, 1, (0, 0, 0, 0, 0)), (.ireturn, 1, (0, 0, 0, 0, 0)), (.iinc 3 1, 3, (0, 0, 0, 1, 0)), (.goto (-46), 3, (72, 0, 0, 0, 0)), (.iload_n 2, 1, (2, 0, 0, 0, 0)), (.istore_n 3, 1, (3, 0, 0, 0, 0)), (.aload_n 0, 1, (0, 0, 0, 0, 0)), (.getfield 31, 3, (12, 11, 2031, 0, 0)), (.sipush 301, 3, (0, 0, 0, 301, 0)), (.aload_n 0, 1, (0, 0, 0, 0, 0)), (.getfield 349, 3, (12, 5, 2020, 0, 0)), (.imul, 1, (0, 0, 0, 0, 0)), (.iload_n 3, 1, (3, 0, 0, 0, 0)), (.iadd, 1, (0, 0, 0, 0, 0)), (.iaload, 1, (0, 0, 0, 0, 0)), (.aload_n 0, 1, (0, 0, 0, 0, 0)), (.getfield 355, 3, (12, 6, 2022, 0, 0)), (.if_icmp .eq 22, 3, (164, 0, 0, 0, 0)), (.aload_n 0, 1, (0, 0, 0, 0, 0)), (.getfield 31, 3, (12, 11, 2031, 0, 0)), (.sipush 301, 3, (0, 0, 0, 301, 0)), (.aload_n 0, 1, (0, 0, 0, 0, 0)), (.getfield 349, 3, (12, 5, 2020, 0, 0)), (.imul, 1, (0, 0, 0, 0, 0)), (.iload_n 3, 1, (3, 0, 0, 0, 0)), (.iadd, 1, (0, 0, 0, 0, 0)), (.iaload, 1, (0, 0, 0, 0, 0)), (.istore_n 3, 1, (3, 0, 0, 0, 0)), (.goto (-38), 3, (123, 0, 0, 0, 0)), (.aload_n 0, 1, (0, 0, 0, 0, 0)), (.getfield 31, 3, (12, 11, 2031, 0, 0)), (.sipush 301, 3, (0, 0, 0, 301, 0)), (.aload_n 0, 1, (0, 0, 0, 0, 0)), (.getfield 349, 3, (12, 5, 2020, 0, 0)), (.imul, 1, (0, 0, 0, 0, 0)), (.iload_n 3, 1, (3, 0, 0, 0, 0)), (.iadd, 1, (0, 0, 0, 0, 0)), (.aload_n 0, 1, (0, 0, 0, 0, 0)), (.getfield 31, 3, (12, 11, 2031, 0, 0)), (.sipush 301, 3, (0, 0, 0, 301, 0)), (.aload_n 0, 1, (0, 0, 0, 0, 0)), (.getfield 349, 3, (12, 5, 2020, 0, 0)), (.imul, 1, (0, 0, 0, 0, 0)), (.aload_n 0, 1, (0, 0, 0, 0, 0)), (.getfield 355, 3, (12, 6, 2022, 0, 0)), (.iadd, 1, (0, 0, 0, 0, 0)), (.iaload, 1, (0, 0, 0, 0, 0)), (.iastore, 1, (0, 0, 0, 0, 0)), (.aload_n 0, 1, (0, 0, 0, 0, 0)), (.getfield 31, 3, (12, 11, 2031, 0, 0)), (.sipush 301, 3, (0, 0, 0, 301, 0)), (.aload_n 0, 1, (0, 0, 0, 0, 0)), (.getfield 349, 3, (12, 5, 2020, 0, 0)), (.imul, 1, (0, 0, 0, 0, 0)), (.aload_n 0, 1, (0, 0, 0, 0, 0)), (.getfield 355, 3, (12, 6, 2022, 0, 0)), (.iadd, 1, (0, 0, 0, 0, 0)), (.iload_n 2, 1, (2, 0, 0, 0, 0)), (.iastore, 1, (0, 0, 0, 0, 0)), (.aload_n 0, 1, (0, 0, 0, 0, 0)), (.getfield 28, 3, (12, 10, 2029, 0, 0)), (.sipush 301, 3, (0, 0, 0, 301, 0)), (.aload_n 0, 1, (0, 0, 0, 0, 0)), (.getfield 349, 3, (12, 5, 2020, 0, 0)), (.imul, 1, (0, 0, 0, 0, 0)), (.iload_n 1, 1, (1, 0, 0, 0, 0)), (.iadd, 1, (0, 0, 0, 0, 0)), (.aload_n 0, 1, (0, 0, 0, 0, 0)), (.getfield 355, 3, (12, 6, 2022, 0, 0)), (.iastore, 1, (0, 0, 0, 0, 0)), (.iconst 1, 1, (0, 0, 0, 1, 0)), (.ireturn, 1, (0, 0, 0, 0, 0))]
theorem ao_ZMTlead : jokLG jtF lk_MT "ChessHouseModel$Texts" jcl jtb 4 prog_18_method_99_code 0 ak_ZMTlead = true := by decide +kernel
noncomputable def zm_MTlead : zM := (some .boolean, { frames := 2, cells := 0, slots := 0, locals := 46 }, ([(397, 2834, 0), (394, 2794, 1)], []), [(y_MT_isBehind, false, 3, 12, { frames := 0, cells := 0, slots := 0, locals := 0 }, zc_MTbh), (y_MT_deepOf, false, 3, 12, { frames := 1, cells := 0, slots := 0, locals := 22 }, zc_MTdp)], ak_ZMTlead)
noncomputable def zc_MTlead (vals : List zv) (W : zW) (post : zPo) : Prop := ∃ T : xT, ∃ h : Int, vals = [.inr (.inr (some (.inl 90)))] ∧ (zHe W T h) ∧ ∀ r : Int, ∀ V : zW, (((xLb T h ∧ 0 < V.1 90 0 ∧ zHe V T h) ∨ (¬ xLb T h ∧ ¬ 0 < V.1 90 0 ∧ zHe V (xLe T h) h)) ∧ zFo (W.1 90 5) W V ∧ zFr [(90, 0)] [96, 97] W V ∧ (r = 0 ∨ r = 1)) → post (some (.inl r)) V
theorem xLe_s {T : xT} {h : Int} (hm : h ∈ T.2.2.2.2.1 (T.2.2.1 h)) (e : xLd T.2.2.2.2.1 (T.2.2.1 h) = h) : xLe T h = T := by
  have : (fun i => if i = T.2.2.1 h then h :: (T.2.2.2.2.1 i).erase h else T.2.2.2.2.1 i) = T.2.2.2.2.1 := by
    funext i
    by_cases c : i = T.2.2.1 h
    · rw [if_pos c, c]
      unfold xLd at e
      cases k : T.2.2.2.2.1 (T.2.2.1 h) with
      | nil => rw [k] at hm; cases hm
      | cons x l =>
        rw [k] at e
        obtain rfl : x = h := e
        rw [List.erase_cons_head]
    · rw [if_neg c]
  unfold xLe
  rw [this]
set_option maxRecDepth 8000 in
theorem zp_MTlead_0 {n K : Nat} {W : zW} {post : zPo} {u1 u2 u3 : Option zv} (hK : 36 ≤ K) (hn : 142 ≤ n) (h : (¬ (W.1 90 6) = 0 → (-2147483648 ≤ 301 * (W.1 90 5) ∧ 301 * (W.1 90 5) ≤ 2147483647) ∧ (-2147483648 ≤ (301 * (W.1 90 5)) + (W.1 90 6) ∧ (301 * (W.1 90 5)) + (W.1 90 6) ≤ 2147483647) ∧ (0 ≤ ((301 * (W.1 90 5)) + (W.1 90 6)) ∧ ((301 * (W.1 90 5)) + (W.1 90 6)) < 602) ∧ (-2147483648 ≤ 301 * (W.1 90 5) ∧ 301 * (W.1 90 5) ≤ 2147483647) ∧ (-2147483648 ≤ (301 * (W.1 90 5)) + (W.2.1 94 ((301 * (W.1 90 5)) + (W.1 90 6))) ∧ (301 * (W.1 90 5)) + (W.2.1 94 ((301 * (W.1 90 5)) + (W.1 90 6))) ≤ 2147483647) ∧ (0 ≤ ((301 * (W.1 90 5)) + (W.2.1 94 ((301 * (W.1 90 5)) + (W.1 90 6)))) ∧ ((301 * (W.1 90 5)) + (W.2.1 94 ((301 * (W.1 90 5)) + (W.1 90 6)))) < 602) ∧ (¬ (W.2.1 96 ((301 * (W.1 90 5)) + (W.2.1 94 ((301 * (W.1 90 5)) + (W.1 90 6))))) = (W.1 90 6) → zwp jtb zsh n zm_MTlead post (K - 36) (lGo ak_ZMTlead 72) 72 [some (.inr (.inr (some (.inl 90)))), some (.inl (W.2.1 94 ((301 * (W.1 90 5)) + (W.1 90 6)))), some (.inl (W.2.1 96 ((301 * (W.1 90 5)) + (W.2.1 94 ((301 * (W.1 90 5)) + (W.1 90 6)))))), some (.inl (1))] [] (zuF W 90 0 0)) ∧ ((W.2.1 96 ((301 * (W.1 90 5)) + (W.2.1 94 ((301 * (W.1 90 5)) + (W.1 90 6))))) = (W.1 90 6) → post (some (.inl (0))) (zuF W 90 0 0))) ∧ ((W.1 90 6) = 0 → post (some (.inl (0))) (zuF W 90 0 1))) : zwp jtb zsh n zm_MTlead post K (lGo ak_ZMTlead 0) 0 [some (.inr (.inr (some (.inl 90)))), u1, u2, u3] [] W := by
  obtain ⟨kk__, rfl⟩ : ∃ kk__, K = kk__ + 36 := ⟨K - 36, by omega⟩
  exact (show 90 < n ∧ 12 = 12 ∧ (¬ (W.1 90 6) = 0 → 90 < n ∧ 12 = 12 ∧ (some 0 : Option Nat) = some 0 ∧ ((0 : Nat) = 0 ∨ ((0 : Nat) = 1 ∧ ((0 : Int) = 0 ∨ (0 : Int) = 1))) ∧ 90 < n ∧ 12 = 12 ∧ ((0 : Int) ≤ 0 → 90 < n ∧ 12 = 12 ∧ 90 < n ∧ 12 = 12 ∧ (-2147483648 ≤ 301 * (W.1 90 5) ∧ 301 * (W.1 90 5) ≤ 2147483647) ∧ 90 < n ∧ 12 = 12 ∧ (-2147483648 ≤ (301 * (W.1 90 5)) + (W.1 90 6) ∧ (301 * (W.1 90 5)) + (W.1 90 6) ≤ 2147483647) ∧ 94 < n ∧ FieldType.int = FieldType.int ∧ (0 ≤ ((301 * (W.1 90 5)) + (W.1 90 6)) ∧ ((301 * (W.1 90 5)) + (W.1 90 6)) < 602) ∧ 90 < n ∧ 12 = 12 ∧ 90 < n ∧ 12 = 12 ∧ (-2147483648 ≤ 301 * (W.1 90 5) ∧ 301 * (W.1 90 5) ≤ 2147483647) ∧ (-2147483648 ≤ (301 * (W.1 90 5)) + (W.2.1 94 ((301 * (W.1 90 5)) + (W.1 90 6))) ∧ (301 * (W.1 90 5)) + (W.2.1 94 ((301 * (W.1 90 5)) + (W.1 90 6))) ≤ 2147483647) ∧ 96 < n ∧ FieldType.int = FieldType.int ∧ (0 ≤ ((301 * (W.1 90 5)) + (W.2.1 94 ((301 * (W.1 90 5)) + (W.1 90 6)))) ∧ ((301 * (W.1 90 5)) + (W.2.1 94 ((301 * (W.1 90 5)) + (W.1 90 6)))) < 602) ∧ 90 < n ∧ 12 = 12 ∧ (¬ (W.2.1 96 ((301 * (W.1 90 5)) + (W.2.1 94 ((301 * (W.1 90 5)) + (W.1 90 6))))) = (W.1 90 6) → zwp jtb zsh n zm_MTlead post (kk__ + 0) (lGo ak_ZMTlead 72) 72 [some (.inr (.inr (some (.inl 90)))), some (.inl (W.2.1 94 ((301 * (W.1 90 5)) + (W.1 90 6)))), some (.inl (W.2.1 96 ((301 * (W.1 90 5)) + (W.2.1 94 ((301 * (W.1 90 5)) + (W.1 90 6)))))), some (.inl (1))] [] (zuF W 90 0 0)) ∧ ((W.2.1 96 ((301 * (W.1 90 5)) + (W.2.1 94 ((301 * (W.1 90 5)) + (W.1 90 6))))) = (W.1 90 6) → 1 = 1 ∧ ((0 : Int) = 0 ∨ (0 : Int) = 1) ∧ post (some (.inl (0))) (zuF W 90 0 0))) ∧ (¬ (0 : Int) ≤ 0 → zwp jtb zsh n zm_MTlead post (kk__ + 27) (lGo ak_ZMTlead 23) 23 [some (.inr (.inr (some (.inl 90)))), u1, u2, u3] [] (zuF W 90 0 0))) ∧ ((W.1 90 6) = 0 → 90 < n ∧ 12 = 12 ∧ (some 0 : Option Nat) = some 0 ∧ ((0 : Nat) = 0 ∨ ((0 : Nat) = 1 ∧ ((1 : Int) = 0 ∨ (1 : Int) = 1))) ∧ 90 < n ∧ 12 = 12 ∧ ((1 : Int) ≤ 0 → zwp jtb zsh n zm_MTlead post (kk__ + 26) (lGo ak_ZMTlead 25) 25 [some (.inr (.inr (some (.inl 90)))), u1, u2, u3] [] (zuF W 90 0 1)) ∧ (¬ (1 : Int) ≤ 0 → 1 = 1 ∧ ((0 : Int) = 0 ∨ (0 : Int) = 1) ∧ post (some (.inl (0))) (zuF W 90 0 1))) from ⟨(Nat.lt_of_lt_of_le (by decide) hn), rfl, ⟨fun c5_3 => ⟨(Nat.lt_of_lt_of_le (by decide) hn), rfl, rfl, (Or.inl rfl), ⟨(Nat.lt_of_lt_of_le (by decide) hn), rfl, ⟨fun _ => ⟨(Nat.lt_of_lt_of_le (by decide) hn), rfl, ⟨(Nat.lt_of_lt_of_le (by decide) hn), rfl, ⟨(((h).1 c5_3)).1, ⟨(Nat.lt_of_lt_of_le (by decide) hn), rfl, ⟨((((h).1 c5_3)).2).1, ⟨(Nat.lt_of_lt_of_le (by decide) hn), rfl, (((((h).1 c5_3)).2).2).1, ⟨(Nat.lt_of_lt_of_le (by decide) hn), rfl, ⟨(Nat.lt_of_lt_of_le (by decide) hn), rfl, ⟨((((((h).1 c5_3)).2).2).2).1, (have h := ((((((h).1 c5_3)).2).2).2).2; ⟨(h).1, ⟨(Nat.lt_of_lt_of_le (by decide) hn), rfl, ((h).2).1, ⟨(Nat.lt_of_lt_of_le (by decide) hn), rfl, ⟨fun c65_33 => ((((h).2).2).1 c65_33), fun c65_33 => ⟨rfl, Or.inl rfl, ((((h).2).2).2 c65_33)⟩⟩⟩⟩⟩)⟩⟩⟩⟩⟩⟩⟩⟩⟩, fun hc8 => absurd hc8 (by decide)⟩⟩⟩, fun c5_3 => ⟨(Nat.lt_of_lt_of_le (by decide) hn), rfl, rfl, (Or.inl rfl), ⟨(Nat.lt_of_lt_of_le (by decide) hn), rfl, ⟨fun hc9 => absurd hc9 (by decide), fun _ => ⟨rfl, Or.inl rfl, ((h).2 c5_3)⟩⟩⟩⟩⟩⟩)
set_option maxRecDepth 8000 in
theorem zp_MTlead_72 {n K : Nat} {V : zW} {post : zPo} {p f i : Int}  (hK : 24 ≤ K) (hn : 142 ≤ n) (h : (0 ≤ (V.1 90 5) ∧ (V.1 90 5) < 2) ∧ ((V.2.1 93 (V.1 90 5)) < i → zwp jtb zsh n zm_MTlead post (K - 9) (lGo ak_ZMTlead 123) 123 [some (.inr (.inr (some (.inl 90)))), some (.inl (p)), some (.inl (f)), some (.inl (f))] [] V) ∧ (¬ (V.2.1 93 (V.1 90 5)) < i → ((0 ≤ V.1 90 5 ∧ V.1 90 5 ≤ 1) ∧ 0 ≤ f ∧ ∃ T, zRt V (V.1 90 5) T ∧ xTok T ∧ (0 ≤ i ∧ i ≤ T.2.1)) ∧ ∀ r88 : Int, (∀ T, zRt V (V.1 90 5) T → xTok T → xBl r88 (trW T.2.2.1 f i)) → (r88 = 0 → (-2147483648 ≤ i + 1 ∧ i + 1 ≤ 2147483647) ∧ zwp jtb zsh n zm_MTlead post (K - 14) (lGo ak_ZMTlead 72) 72 [some (.inr (.inr (some (.inl 90)))), some (.inl (p)), some (.inl (f)), some (.inl (i + 1))] [] V) ∧ (¬ r88 = 0 → ((0 ≤ (V.1 90 5) ∧ (V.1 90 5) ≤ 1) ∧ ∃ T, zRt V (V.1 90 5) T ∧ xTok T ∧ (0 ≤ i ∧ i ≤ T.2.1)) ∧ ∀ r100 : Int, (∀ T, zRt V (V.1 90 5) T → xTok T → r100 = trE T.2.2.1 (xLd T.2.2.2.2.1) i) → (¬ r100 = 6 → (-2147483648 ≤ i + 1 ∧ i + 1 ≤ 2147483647) ∧ zwp jtb zsh n zm_MTlead post (K - 21) (lGo ak_ZMTlead 72) 72 [some (.inr (.inr (some (.inl 90)))), some (.inl (p)), some (.inl (f)), some (.inl (i + 1))] [] V) ∧ (r100 = 6 → post (some (.inl (0))) (zuF V 90 0 1))))) : zwp jtb zsh n zm_MTlead post K (lGo ak_ZMTlead 72) 72 [some (.inr (.inr (some (.inl 90)))), some (.inl (p)), some (.inl (f)), some (.inl (i))] [] V := by
  obtain ⟨kk__, rfl⟩ : ∃ kk__, K = kk__ + 24 := ⟨K - 24, by omega⟩
  exact (show 90 < n ∧ 12 = 12 ∧ 90 < n ∧ 12 = 12 ∧ 93 < n ∧ FieldType.int = FieldType.int ∧ (0 ≤ (V.1 90 5) ∧ (V.1 90 5) < 2) ∧ ((V.2.1 93 (V.1 90 5)) < i → zwp jtb zsh n zm_MTlead post (kk__ + 15) (lGo ak_ZMTlead 123) 123 [some (.inr (.inr (some (.inl 90)))), some (.inl (p)), some (.inl (f)), some (.inl (f))] [] V) ∧ (¬ (V.2.1 93 (V.1 90 5)) < i → 3 = 3 ∧ false = false ∧ jin3 397 2834 0 zm_MTlead.2.2.1.1 = true ∧ lRm zm_MTlead.2.1 { frames := 0, cells := 0, slots := 0, locals := 0 } 4 = true ∧ Nat.ble 3 3 = true ∧ Nat.ble 0 8 = true ∧ 90 < n ∧ 12 = 12 ∧ Nat.ble 1000 12 = false ∧ zc_MTbh [.inr (.inr (some (.inl 90))), .inl (i), .inl (f)] V (fun vv__ WW__ => zwp jtb zsh n zm_MTlead post (kk__ + 13) (lGo ak_ZMTlead 91) 91 [some (.inr (.inr (some (.inl 90)))), some (.inl (p)), some (.inl (f)), some (.inl (i))] (vv__.toList ++ []) WW__)) from ⟨(Nat.lt_of_lt_of_le (by decide) hn), rfl, ⟨(Nat.lt_of_lt_of_le (by decide) hn), rfl, ⟨(Nat.lt_of_lt_of_le (by decide) hn), rfl, (h).1, ⟨fun c82_6 => (((h).2).1 c82_6), fun c82_6 => ⟨rfl, rfl, rfl, rfl, rfl, rfl, (Nat.lt_of_lt_of_le (by decide) hn), rfl, rfl, i, f, rfl, ((((h).2).2 c82_6)).1, fun r88 hr88 => (show (r88 = 0 → (-2147483648 ≤ i + 1 ∧ i + 1 ≤ 2147483647) ∧ zwp jtb zsh n zm_MTlead post (kk__ + 10) (lGo ak_ZMTlead 72) 72 [some (.inr (.inr (some (.inl 90)))), some (.inl (p)), some (.inl (f)), some (.inl (i + 1))] [] V) ∧ (¬ r88 = 0 → 90 < n ∧ 12 = 12 ∧ 3 = 3 ∧ false = false ∧ jin3 394 2794 1 zm_MTlead.2.2.1.1 = true ∧ lRm zm_MTlead.2.1 { frames := 1, cells := 0, slots := 0, locals := 22 } 5 = true ∧ Nat.ble 3 3 = true ∧ Nat.ble 0 8 = true ∧ 90 < n ∧ 12 = 12 ∧ Nat.ble 1000 12 = false ∧ zc_MTdp [.inr (.inr (some (.inl 90))), .inl (V.1 90 5), .inl (i)] V (fun vv__ WW__ => zwp jtb zsh n zm_MTlead post (kk__ + 7) (lGo ak_ZMTlead 103) 103 [some (.inr (.inr (some (.inl 90)))), some (.inl (p)), some (.inl (f)), some (.inl (i))] (vv__.toList ++ []) WW__)) from (have h := (((((h).2).2 c82_6)).2 r88 hr88); ⟨fun c91_11 => ⟨(((h).1 c91_11)).1, (((h).1 c91_11)).2⟩, fun c91_11 => ⟨(Nat.lt_of_lt_of_le (by decide) hn), rfl, ⟨rfl, rfl, rfl, rfl, rfl, rfl, (Nat.lt_of_lt_of_le (by decide) hn), rfl, rfl, V.1 90 5, i, rfl, (((h).2 c91_11)).1, fun r100 hr100 => (show (¬ r100 = 6 → (-2147483648 ≤ i + 1 ∧ i + 1 ≤ 2147483647) ∧ zwp jtb zsh n zm_MTlead post (kk__ + 3) (lGo ak_ZMTlead 72) 72 [some (.inr (.inr (some (.inl 90)))), some (.inl (p)), some (.inl (f)), some (.inl (i + 1))] [] V) ∧ (r100 = 6 → 90 < n ∧ 12 = 12 ∧ (some 0 : Option Nat) = some 0 ∧ ((0 : Nat) = 0 ∨ ((0 : Nat) = 1 ∧ ((1 : Int) = 0 ∨ (1 : Int) = 1))) ∧ 1 = 1 ∧ ((0 : Int) = 0 ∨ (0 : Int) = 1) ∧ post (some (.inl (0))) (zuF V 90 0 1)) from (have h := ((((h).2 c91_11)).2 r100 hr100); ⟨fun c105_18 => ⟨(((h).1 c105_18)).1, (((h).1 c105_18)).2⟩, fun c105_18 => ⟨(Nat.lt_of_lt_of_le (by decide) hn), rfl, rfl, (Or.inl rfl), ⟨rfl, Or.inl rfl, ((h).2 c105_18)⟩⟩⟩))⟩⟩⟩))⟩⟩⟩⟩⟩)
set_option maxRecDepth 8000 in
theorem zp_MTlead_123 {n K : Nat} {V : zW} {post : zPo} {p f i : Int}  (hK : 55 ≤ K) (hn : 142 ≤ n) (h : (-2147483648 ≤ 301 * (V.1 90 5) ∧ 301 * (V.1 90 5) ≤ 2147483647) ∧ (-2147483648 ≤ (301 * (V.1 90 5)) + i ∧ (301 * (V.1 90 5)) + i ≤ 2147483647) ∧ (0 ≤ ((301 * (V.1 90 5)) + i) ∧ ((301 * (V.1 90 5)) + i) < 602) ∧ ((V.2.1 97 ((301 * (V.1 90 5)) + i)) = (V.1 90 6) → (-2147483648 ≤ 301 * (V.1 90 5) ∧ 301 * (V.1 90 5) ≤ 2147483647) ∧ (-2147483648 ≤ (301 * (V.1 90 5)) + i ∧ (301 * (V.1 90 5)) + i ≤ 2147483647) ∧ (-2147483648 ≤ 301 * (V.1 90 5) ∧ 301 * (V.1 90 5) ≤ 2147483647) ∧ (-2147483648 ≤ (301 * (V.1 90 5)) + (V.1 90 6) ∧ (301 * (V.1 90 5)) + (V.1 90 6) ≤ 2147483647) ∧ (0 ≤ ((301 * (V.1 90 5)) + (V.1 90 6)) ∧ ((301 * (V.1 90 5)) + (V.1 90 6)) < 602) ∧ (0 ≤ ((301 * (V.1 90 5)) + i) ∧ ((301 * (V.1 90 5)) + i) < 602) ∧ (-2147483648 ≤ 301 * (V.1 90 5) ∧ 301 * (V.1 90 5) ≤ 2147483647) ∧ (-2147483648 ≤ (301 * (V.1 90 5)) + (V.1 90 6) ∧ (301 * (V.1 90 5)) + (V.1 90 6) ≤ 2147483647) ∧ (0 ≤ ((301 * (V.1 90 5)) + (V.1 90 6)) ∧ ((301 * (V.1 90 5)) + (V.1 90 6)) < 602) ∧ (-2147483648 ≤ 301 * (V.1 90 5) ∧ 301 * (V.1 90 5) ≤ 2147483647) ∧ (-2147483648 ≤ (301 * (V.1 90 5)) + p ∧ (301 * (V.1 90 5)) + p ≤ 2147483647) ∧ (0 ≤ ((301 * (V.1 90 5)) + p) ∧ ((301 * (V.1 90 5)) + p) < 602) ∧ post (some (.inl (1))) (zuR (zuR (zuR V 97 ((301 * (V.1 90 5)) + i) (V.2.1 97 ((301 * (V.1 90 5)) + (V.1 90 6)))) 97 ((301 * (V.1 90 5)) + (V.1 90 6)) f) 96 ((301 * (V.1 90 5)) + p) (V.1 90 6))) ∧ (¬ (V.2.1 97 ((301 * (V.1 90 5)) + i)) = (V.1 90 6) → (-2147483648 ≤ 301 * (V.1 90 5) ∧ 301 * (V.1 90 5) ≤ 2147483647) ∧ (-2147483648 ≤ (301 * (V.1 90 5)) + i ∧ (301 * (V.1 90 5)) + i ≤ 2147483647) ∧ (0 ≤ ((301 * (V.1 90 5)) + i) ∧ ((301 * (V.1 90 5)) + i) < 602) ∧ zwp jtb zsh n zm_MTlead post (K - 23) (lGo ak_ZMTlead 123) 123 [some (.inr (.inr (some (.inl 90)))), some (.inl (p)), some (.inl (f)), some (.inl (V.2.1 97 ((301 * (V.1 90 5)) + i)))] [] V)) : zwp jtb zsh n zm_MTlead post K (lGo ak_ZMTlead 123) 123 [some (.inr (.inr (some (.inl 90)))), some (.inl (p)), some (.inl (f)), some (.inl (i))] [] V := by
  obtain ⟨kk__, rfl⟩ : ∃ kk__, K = kk__ + 55 := ⟨K - 55, by omega⟩
  exact (show 90 < n ∧ 12 = 12 ∧ 90 < n ∧ 12 = 12 ∧ (-2147483648 ≤ 301 * (V.1 90 5) ∧ 301 * (V.1 90 5) ≤ 2147483647) ∧ (-2147483648 ≤ (301 * (V.1 90 5)) + i ∧ (301 * (V.1 90 5)) + i ≤ 2147483647) ∧ 97 < n ∧ FieldType.int = FieldType.int ∧ (0 ≤ ((301 * (V.1 90 5)) + i) ∧ ((301 * (V.1 90 5)) + i) < 602) ∧ 90 < n ∧ 12 = 12 ∧ ((V.2.1 97 ((301 * (V.1 90 5)) + i)) = (V.1 90 6) → 90 < n ∧ 12 = 12 ∧ 90 < n ∧ 12 = 12 ∧ (-2147483648 ≤ 301 * (V.1 90 5) ∧ 301 * (V.1 90 5) ≤ 2147483647) ∧ (-2147483648 ≤ (301 * (V.1 90 5)) + i ∧ (301 * (V.1 90 5)) + i ≤ 2147483647) ∧ 90 < n ∧ 12 = 12 ∧ 90 < n ∧ 12 = 12 ∧ (-2147483648 ≤ 301 * (V.1 90 5) ∧ 301 * (V.1 90 5) ≤ 2147483647) ∧ 90 < n ∧ 12 = 12 ∧ (-2147483648 ≤ (301 * (V.1 90 5)) + (V.1 90 6) ∧ (301 * (V.1 90 5)) + (V.1 90 6) ≤ 2147483647) ∧ 97 < n ∧ FieldType.int = FieldType.int ∧ (0 ≤ ((301 * (V.1 90 5)) + (V.1 90 6)) ∧ ((301 * (V.1 90 5)) + (V.1 90 6)) < 602) ∧ 97 < n ∧ FieldType.int = FieldType.int ∧ (0 ≤ ((301 * (V.1 90 5)) + i) ∧ ((301 * (V.1 90 5)) + i) < 602) ∧ True ∧ 90 < n ∧ 12 = 12 ∧ 90 < n ∧ 12 = 12 ∧ (-2147483648 ≤ 301 * (V.1 90 5) ∧ 301 * (V.1 90 5) ≤ 2147483647) ∧ 90 < n ∧ 12 = 12 ∧ (-2147483648 ≤ (301 * (V.1 90 5)) + (V.1 90 6) ∧ (301 * (V.1 90 5)) + (V.1 90 6) ≤ 2147483647) ∧ 97 < n ∧ FieldType.int = FieldType.int ∧ (0 ≤ ((301 * (V.1 90 5)) + (V.1 90 6)) ∧ ((301 * (V.1 90 5)) + (V.1 90 6)) < 602) ∧ True ∧ 90 < n ∧ 12 = 12 ∧ 90 < n ∧ 12 = 12 ∧ (-2147483648 ≤ 301 * (V.1 90 5) ∧ 301 * (V.1 90 5) ≤ 2147483647) ∧ (-2147483648 ≤ (301 * (V.1 90 5)) + p ∧ (301 * (V.1 90 5)) + p ≤ 2147483647) ∧ 90 < n ∧ 12 = 12 ∧ 96 < n ∧ FieldType.int = FieldType.int ∧ (0 ≤ ((301 * (V.1 90 5)) + p) ∧ ((301 * (V.1 90 5)) + p) < 602) ∧ True ∧ 1 = 1 ∧ ((1 : Int) = 0 ∨ (1 : Int) = 1) ∧ post (some (.inl (1))) (zuR (zuR (zuR V 97 ((301 * (V.1 90 5)) + i) (V.2.1 97 ((301 * (V.1 90 5)) + (V.1 90 6)))) 97 ((301 * (V.1 90 5)) + (V.1 90 6)) f) 96 ((301 * (V.1 90 5)) + p) (V.1 90 6))) ∧ (¬ (V.2.1 97 ((301 * (V.1 90 5)) + i)) = (V.1 90 6) → 90 < n ∧ 12 = 12 ∧ 90 < n ∧ 12 = 12 ∧ (-2147483648 ≤ 301 * (V.1 90 5) ∧ 301 * (V.1 90 5) ≤ 2147483647) ∧ (-2147483648 ≤ (301 * (V.1 90 5)) + i ∧ (301 * (V.1 90 5)) + i ≤ 2147483647) ∧ 97 < n ∧ FieldType.int = FieldType.int ∧ (0 ≤ ((301 * (V.1 90 5)) + i) ∧ ((301 * (V.1 90 5)) + i) < 602) ∧ zwp jtb zsh n zm_MTlead post (kk__ + 32) (lGo ak_ZMTlead 123) 123 [some (.inr (.inr (some (.inl 90)))), some (.inl (p)), some (.inl (f)), some (.inl (V.2.1 97 ((301 * (V.1 90 5)) + i)))] [] V) from ⟨(Nat.lt_of_lt_of_le (by decide) hn), rfl, ⟨(Nat.lt_of_lt_of_le (by decide) hn), rfl, ⟨(h).1, ⟨((h).2).1, ⟨(Nat.lt_of_lt_of_le (by decide) hn), rfl, (((h).2).2).1, ⟨(Nat.lt_of_lt_of_le (by decide) hn), rfl, ⟨fun c142_11 => (have h := (((((h).2).2).2).1 c142_11); ⟨(Nat.lt_of_lt_of_le (by decide) hn), rfl, ⟨(Nat.lt_of_lt_of_le (by decide) hn), rfl, ⟨(h).1, ⟨((h).2).1, ⟨(Nat.lt_of_lt_of_le (by decide) hn), rfl, ⟨(Nat.lt_of_lt_of_le (by decide) hn), rfl, ⟨(((h).2).2).1, ⟨(Nat.lt_of_lt_of_le (by decide) hn), rfl, ⟨((((h).2).2).2).1, ⟨(Nat.lt_of_lt_of_le (by decide) hn), rfl, (((((h).2).2).2).2).1, ⟨(Nat.lt_of_lt_of_le (by decide) hn), rfl, ((((((h).2).2).2).2).2).1, trivial, (have h := ((((((h).2).2).2).2).2).2; ⟨(Nat.lt_of_lt_of_le (by decide) hn), rfl, ⟨(Nat.lt_of_lt_of_le (by decide) hn), rfl, ⟨(h).1, ⟨(Nat.lt_of_lt_of_le (by decide) hn), rfl, ⟨((h).2).1, ⟨(Nat.lt_of_lt_of_le (by decide) hn), rfl, (((h).2).2).1, trivial, ⟨(Nat.lt_of_lt_of_le (by decide) hn), rfl, ⟨(Nat.lt_of_lt_of_le (by decide) hn), rfl, ⟨((((h).2).2).2).1, ⟨(((((h).2).2).2).2).1, ⟨(Nat.lt_of_lt_of_le (by decide) hn), rfl, ⟨(Nat.lt_of_lt_of_le (by decide) hn), rfl, ((((((h).2).2).2).2).2).1, trivial, (have h := ((((((h).2).2).2).2).2).2; ⟨rfl, Or.inr rfl, h⟩)⟩⟩⟩⟩⟩⟩⟩⟩⟩⟩⟩⟩)⟩⟩⟩⟩⟩⟩⟩⟩⟩⟩⟩), fun c142_11 => (have h := (((((h).2).2).2).2 c142_11); ⟨(Nat.lt_of_lt_of_le (by decide) hn), rfl, ⟨(Nat.lt_of_lt_of_le (by decide) hn), rfl, ⟨(h).1, ⟨((h).2).1, ⟨(Nat.lt_of_lt_of_le (by decide) hn), rfl, (((h).2).2).1, (((h).2).2).2⟩⟩⟩⟩⟩)⟩⟩⟩⟩⟩⟩⟩)
set_option maxRecDepth 100000 in
theorem zk_MTlead {l : Launch} {E : jE} {n : Nat} (hn : 142 ≤ n) : zHas l E jcl jtb lw_tbl zsh n (y_MT_lead, false, 1, 12, { frames := 2, cells := 0, slots := 0, locals := 46 }, zc_MTlead) := by
  refine ⟨⟨rfl, rfl, ⟨show 1 ≤ 1 by decide, m_MT_lead, i_MT_lead, e_MT_lead, fun _ => ⟨_, rfl, rfl⟩⟩⟩, ?_⟩
  rintro vz W po hO hW ⟨T, h, rfl, hh, hp⟩
  refine zmet (m := zm_MTlead) rfl (by decide) (fun _ _ => jtF_ok) lo_MT ao_ZMTlead jC (fun q h => by cases h) (aAllc (fun G h => by obtain rfl := Option.some.inj h; exact ql_MT_397) (aAllc (fun G h => by obtain rfl := Option.some.inj h; exact ql_MT_394) (fun q h => by cases h))) (aAllc (zk_MTbh hn) (aAllc (zk_MTdp hn) (fun q h => by cases h))) (Nat.le_of_ble_eq_true rfl) hO hW (60000) ?_
  have hg := hh.1
  have hr := hh.2.1
  have hT := hh.2.2.1
  have h6 := hh.2.2.2.1
  have hb := hh.2.2.2.2.1
  have hN := hT.1
  have hk : 1 ≤ h → W.2.1 94 (301 * W.1 90 5 + W.1 90 6) = (T.2.2.1 h) ∧ h ∈ T.2.2.2.2.1 (T.2.2.1 h) ∧ (0 ≤ (T.2.2.1 h) ∧ (T.2.2.1 h) ≤ T.2.1) ∧ W.2.1 96 (301 * W.1 90 5 + (T.2.2.1 h)) = (xLd T.2.2.2.2.1 (T.2.2.1 h)) := by
    intro h1
    obtain ⟨hm, p0, p1⟩ := xT_k hT h1 hb.2
    have hf := ((hT.2.2.1 _ p0 p1).2 _).mp (xLd_m hm)
    exact ⟨by rw [h6]; exact (hr.2.1 h h1 hb.2).1, hm, ⟨p0, p1⟩, (zRt_L hr hT p0 p1 hf.1).mpr rfl⟩
  have bad : ∀ U, zFr [(90, 0)] [] W U → 0 < U.1 90 0 → xLb T h → po (some (.inl 0)) U := fun U hU h0 hx => hp 0 U ⟨Or.inl ⟨hx, h0, zHe_fr hU (by decide) (by decide) hh⟩, zFo_fr zFo_0 hU (by decide), zFr_w hU (by decide) (by decide), Or.inl rfl⟩
  have same : ∀ U, zFr [(90, 0)] [] W U → U.1 90 0 = 0 → 1 ≤ h → (xLd T.2.2.2.2.1 (T.2.2.1 h)) = h → po (some (.inl 0)) U := fun U hU h0 h1 e => hp 0 U ⟨Or.inr ⟨fun z => z.elim (fun z => by omega) (fun z => z.1 e), by omega, by rw [xLe_s (hk h1).2.1 e]; exact zHe_fr hU (by decide) (by decide) hh⟩, zFo_fr zFo_0 hU (by decide), zFr_w hU (by decide) (by decide), Or.inl rfl⟩
  have fin : 1 ≤ h → ¬ xLb T h → ∀ (V : zW) (A : List Int) (b : Int) (B : List Int), zFr [(90, 0)] [] W V → V.1 90 0 = 0 → T.2.2.2.2.1 (T.2.2.1 h) = A ++ b :: h :: B → po (some (.inl 1)) (zuR (zuR (zuR V 97 (301 * V.1 90 5 + b) (V.2.1 97 (301 * V.1 90 5 + V.1 90 6))) 97 (301 * V.1 90 5 + V.1 90 6) (xLd T.2.2.2.2.1 (T.2.2.1 h))) 96 (301 * V.1 90 5 + (T.2.2.1 h)) (V.1 90 6)) := by
    intro h1 nb V A b B hV h00 ek
    obtain ⟨k1, k2, k3, k4⟩ := hk h1
    have hbm := ((hT.2.2.1 _ k3.1 k3.2).2 b).mp (by rw [ek]; exact List.mem_append_right _ (List.mem_cons_self ..))
    rw [zFr_f hV 90 5, zFr_f hV 90 6, h6, zFr_r hV 97]
    obtain ⟨U, eU⟩ : ∃ U, U = zuR (zuR (zuR V 97 (301 * W.1 90 5 + b) (W.2.1 97 (301 * W.1 90 5 + h))) 97 (301 * W.1 90 5 + h) (xLd T.2.2.2.2.1 (T.2.2.1 h))) 96 (301 * W.1 90 5 + (T.2.2.1 h)) h := ⟨_, rfl⟩
    rw [← eU]
    have hf : zFr [(90, 0)] [96, 97] W U := by rw [eU]; exact zFr_R (zFr_R (zFr_R (zFr_w hV (by decide) (by decide)) (by decide)) (by decide)) (by decide)
    have e7 : U.2.1 97 = zuI (zuI (W.2.1 97) (301 * W.1 90 5 + b) (W.2.1 97 (301 * W.1 90 5 + h))) (301 * W.1 90 5 + h) (xLd T.2.2.2.2.1 (T.2.2.1 h)) := by
      rw [eU, ← zFr_r hV 97]
      rfl
    have e6 : U.2.1 96 = zuI (W.2.1 96) (301 * W.1 90 5 + (T.2.2.1 h)) h := by
      rw [eU, ← zFr_r hV 96]
      rfl
    have u0 : U.1 90 0 = 0 := by rw [eU]; exact h00
    refine hp 1 U ⟨Or.inr ⟨nb, by omega, ?_⟩, zFo_le hg hf e7 e6 (by omega) (by omega) (by omega), hf, Or.inr rfl⟩
    have u5 := zFr_f hf 90 5
    refine ⟨by rw [u5]; exact hg, by rw [u5]; exact zRt_le hg hr hT h1 hb.2 hf ek k4.symm e7 e6, xLe_ok hT h1 hb.2 nb, by rw [zFr_f hf 90 6]; exact h6, hb, zAt_fr hf (by decide) (by decide) hh.2.2.2.2.2⟩
  have h123 : 1 ≤ h → ¬ xLb T h → ∀ (R A : List Int) (i : Int) (K : Nat) (V : zW), 40 * R.length + 60 ≤ K → zFr [(90, 0)] [] W V → V.1 90 0 = 0 → T.2.2.2.2.1 (T.2.2.1 h) = A ++ i :: R → h ∈ R → zwp jtb zsh n zm_MTlead po K (lGo ak_ZMTlead 123) 123 [some (.inr (.inr (some (.inl 90)))), some (.inl (T.2.2.1 h)), some (.inl (xLd T.2.2.2.2.1 (T.2.2.1 h))), some (.inl i)] [] V := by
    intro h1 nb R
    obtain ⟨k1, k2, k3, k4⟩ := hk h1
    induction R with
    | nil => intro A i K V _ _ _ _ hm; cases hm
    | cons x R ih =>
      intro A i K V hK hV h00 ek hm
      rw [List.length_cons] at hK
      have hc := (hr.2.2.1 _ k3.1 k3.2).1
      rw [ek] at hc
      have hs := (xCr_s A _ hc).2.1
      have v5 := zFr_f hV 90 5
      have v6 : V.1 90 6 = h := (zFr_f hV 90 6).trans h6
      have ex : V.2.1 97 (301 * V.1 90 5 + i) = x := by rw [zFr_r hV 97, v5]; exact hs
      have him := ((hT.2.2.1 _ k3.1 k3.2).2 i).mp (by rw [ek]; exact List.mem_append_right _ (List.mem_cons_self ..))
      exact zp_MTlead_123 (by omega) hn ⟨(by omega), ⟨(by omega), ⟨(by omega), ⟨fun c142 => ⟨(by omega), ⟨(by omega), ⟨(by omega), ⟨(by omega), ⟨(by omega), ⟨(by omega), ⟨(by omega), ⟨(by omega), ⟨(by omega), ⟨(by omega), ⟨(by omega), ⟨(by omega), (fin h1 nb V A i R hV h00 (by rw [ek, ← ex, c142, v6]))⟩⟩⟩⟩⟩⟩⟩⟩⟩⟩⟩⟩, fun c142 => ⟨(by omega), ⟨(by omega), ⟨(by omega), (by rw [ex] at c142 ⊢; exact ih (A ++ [i]) x _ V (by omega) hV h00 (by rw [ek, List.append_assoc]; rfl) ((List.mem_cons.mp hm).elim (fun e => absurd e (by omega)) id))⟩⟩⟩⟩⟩⟩⟩
  have h72 : 1 ≤ h → ¬ (xLd T.2.2.2.2.1 (T.2.2.1 h)) = h → ∀ (m K : Nat) (V : zW) (i : Int), 40 * m + 13000 ≤ K → zFr [(90, 0)] [] W V → V.1 90 0 = 0 → 1 ≤ i → i ≤ T.2.1 + 1 → T.2.1 + 1 - i ≤ m → (∀ j, 1 ≤ j → j < i → trW T.2.2.1 (xLd T.2.2.2.2.1 (T.2.2.1 h)) j → ¬ trE T.2.2.1 (xLd T.2.2.2.2.1) j = 6) → zwp jtb zsh n zm_MTlead po K (lGo ak_ZMTlead 72) 72 [some (.inr (.inr (some (.inl 90)))), some (.inl (T.2.2.1 h)), some (.inl (xLd T.2.2.2.2.1 (T.2.2.1 h))), some (.inl i)] [] V := by
    intro h1 hne
    obtain ⟨k1, k2, k3, k4⟩ := hk h1
    have hfm := ((hT.2.2.1 _ k3.1 k3.2).2 _).mp (xLd_m k2)
    have ex123 : ∀ (K : Nat) (V : zW), 12900 ≤ K → zFr [(90, 0)] [] W V → V.1 90 0 = 0 → (¬ ∃ k, 1 ≤ k ∧ k ≤ T.2.1 ∧ trW T.2.2.1 (xLd T.2.2.2.2.1 (T.2.2.1 h)) k ∧ trE T.2.2.1 (xLd T.2.2.2.2.1) k = 6) → zwp jtb zsh n zm_MTlead po K (lGo ak_ZMTlead 123) 123 [some (.inr (.inr (some (.inl 90)))), some (.inl (T.2.2.1 h)), some (.inl (xLd T.2.2.2.2.1 (T.2.2.1 h))), some (.inl (xLd T.2.2.2.2.1 (T.2.2.1 h)))] [] V := by
      intro K V hK hV h00 hx
      have hl := zLen hN.1 (hT.2.2.1 _ k3.1 k3.2).1 (fun c hc => by have := ((hT.2.2.1 _ k3.1 k3.2).2 c).mp hc; omega)
      have nb : ¬ xLb T h := fun z => z.elim (fun z => by omega) (fun z => hx z.2)
      have hd : ∃ l, T.2.2.2.2.1 (T.2.2.1 h) = (xLd T.2.2.2.2.1 (T.2.2.1 h)) :: l := by
        unfold xLd
        cases e : T.2.2.2.2.1 (T.2.2.1 h) with
        | nil => rw [e] at k2; cases k2
        | cons y l => exact ⟨l, rfl⟩
      obtain ⟨l, el⟩ := hd
      have hm2 := k2
      rw [el] at hl hm2
      rw [List.length_cons] at hl
      exact h123 h1 nb l [] _ K V (by omega) hV h00 el ((List.mem_cons.mp hm2).elim (fun e => absurd e.symm hne) id)
    intro m
    induction m with
    | zero =>
      intro K V i hK hV h00 i1 i2 hm hI
      have v5 := zFr_f hV 90 5
      have vN : V.2.1 93 (V.1 90 5) = T.2.1 := by rw [zFr_r hV 93, v5]; exact hr.1
      exact zp_MTlead_72 (by omega) hn ⟨by omega, fun _ => ex123 _ V (by omega) hV h00 (fun ⟨k, k1, k2, k3, k4⟩ => hI k k1 (by omega) k3 k4), fun z => absurd (show V.2.1 93 (V.1 90 5) < i by omega) z⟩
    | succ m ih =>
      intro K V i hK hV h00 i1 i2 hm hI
      have v5 := zFr_f hV 90 5
      have vN : V.2.1 93 (V.1 90 5) = T.2.1 := by rw [zFr_r hV 93, v5]; exact hr.1
      exact zp_MTlead_72 (by omega) hn ⟨(by omega), ⟨fun c82 => (ex123 _ V (by omega) hV h00 (fun ⟨k, k1, k2, k3, k4⟩ => hI k k1 (by omega) k3 k4)), fun c82 => ⟨⟨by omega, by omega, T, (by rw [zFr_f hV 90 5]; exact zRt_fr hV (by decide) hr), hT, by omega⟩, fun r88 hr88 => ⟨fun c91 => ⟨(by omega), (ih _ V (i + 1) (by omega) hV h00 (by omega) (by omega) (by omega) (fun j j1 j2 z1 z2 => (if e : j = i then by subst e; exact xBl_0 (hr88 T (by rw [zFr_f hV 90 5]; exact zRt_fr hV (by decide) hr) hT) c91 z1 else hI j j1 (by omega) z1 z2)))⟩, fun c91 => ⟨⟨by omega, T, (by rw [zFr_f hV 90 5]; exact zRt_fr hV (by decide) hr), hT, by omega⟩, fun r100 hr100 => ⟨fun c105 => ⟨(by omega), (ih _ V (i + 1) (by omega) hV h00 (by omega) (by omega) (by omega) (fun j j1 j2 z1 z2 => (if e : j = i then by subst e; exact c105 ((hr100 T (by rw [zFr_f hV 90 5]; exact zRt_fr hV (by decide) hr) hT).trans z2) else hI j j1 (by omega) z1 z2)))⟩, fun c105 => (bad _ (zFr_F hV (by decide)) (by rw [zuF_1, if_pos ⟨rfl, rfl⟩]; decide) (Or.inr ⟨hne, i, by omega, by omega, xBl_1 (hr88 T (by rw [zFr_f hV 90 5]; exact zRt_fr hV (by decide) hr) hT) (by omega), (hr100 T (by rw [zFr_f hV 90 5]; exact zRt_fr hV (by decide) hr) hT).symm.trans c105⟩))⟩⟩⟩⟩⟩⟩
  exact zp_MTlead_0 (by omega) hn ⟨fun c5 => ⟨(by omega), ⟨(by omega), ⟨(by omega), ⟨(by omega), ⟨(by have := hk (by omega); rw [this.1]; omega), ⟨(by have := hk (by omega); rw [this.1]; omega), ⟨fun c65 => (by rw [(hk (by omega)).1] at c65 ⊢; rw [(hk (by omega)).2.2.2] at c65 ⊢; exact h72 (by omega) (by omega) 300 _ _ 1 (by omega) (zFr_F zFr_0 (by decide)) (by rw [zuF_1, if_pos ⟨rfl, rfl⟩]) (by omega) (by omega) (by omega) (fun j j1 j2 => by omega)), fun c65 => (same _ (zFr_F zFr_0 (by decide)) (by rw [zuF_1, if_pos ⟨rfl, rfl⟩]) (by omega) (by have := (hk (by omega)).2.2.2; rw [(hk (by omega)).1] at c65; omega))⟩⟩⟩⟩⟩⟩⟩, fun c5 => (bad _ (zFr_F zFr_0 (by decide)) (by rw [zuF_1, if_pos ⟨rfl, rfl⟩]; decide) (Or.inl (by omega)))⟩
end
section
/-! the reference: commands of the tree -/
/-- the reference is at a node of its tree, OUT is good, faults are counted -/
noncomputable def zRd (W : zW) (T : xT) (h : Int) : Prop := zHe W T h ∧ zOg W ∧ 0 ≤ W.1 87 12 ∧ W.1 87 12 ≤ 100000
/-- what a command has done: a fault or not, and the tree -/
noncomputable def zDn (Fs : List (Nat × Nat)) (Rs : List Nat) (W V : zW) : Prop := zFr Fs Rs W V ∧ zOg V ∧ zFo (W.1 90 5) W V
theorem zFo_t {g : Int} {W V U : zW} (h : zFo g W V) (h2 : zFo g V U) : zFo g W U := ⟨fun a ha i hi => (h2.1 a ha i hi).trans (h.1 a ha i hi), fun i hi => (h2.2.1 i hi).trans (h.2.1 i hi), h2.2.2.1.trans h.2.2.1, h2.2.2.2.trans h.2.2.2⟩
theorem zDn_f {Fs Gs : List (Nat × Nat)} {Rs Ss : List Nat} {W V U : zW} (h : zFr Fs Rs W V) (ho : zFo (W.1 90 5) W V) (h2 : zFt V U) (h3 : ∀ x ∈ Fs, x ∈ Gs) (h4 : ∀ x ∈ Rs, x ∈ Ss) (h5 : ∀ x ∈ [(87, 3), (87, 12)], x ∈ Gs) (h6 : ∀ x ∈ [89], x ∈ Ss) : zDn Gs Ss W U := ⟨zFr_t (zFr_w h h3 h4) (zFr_w h2.1 h5 h6), h2.2.1, zFo_fr ho h2.1 (by decide)⟩
theorem zDn_p {Fs Gs : List (Nat × Nat)} {Rs Ss : List Nat} {W V U : zW} (h : zFr Fs Rs W V) (ho : zFo (W.1 90 5) W V) (h2 : zPt V U) (h3 : ∀ x ∈ Fs, x ∈ Gs) (h4 : ∀ x ∈ Rs, x ∈ Ss) (h5 : ∀ x ∈ [(87, 3)], x ∈ Gs) (h6 : ∀ x ∈ [89], x ∈ Ss) : zDn Gs Ss W U := ⟨zFr_t (zFr_w h h3 h4) (zFr_w h2.1 h5 h6), h2.2, zFo_fr ho h2.1 (by decide)⟩
theorem zHe_ft {W V : zW} {T : xT} {h : Int} (hf : zFt W V) (hh : zHe W T h) : zHe V T h := zHe_fr hf.1 (by decide) (by decide) hh
theorem zHe_pt {W V : zW} {T : xT} {h : Int} (hf : zPt W V) (hh : zHe W T h) : zHe V T h := zHe_fr hf.1 (by decide) (by decide) hh
noncomputable def zc_MTaddMg (vals : List zv) (W : zW) (post : zPo) : Prop := ∃ m : Int, ∃ T : xT, ∃ h : Int, vals = [.inr (.inr (some (.inl 90))), .inl (m)] ∧ (zHe W T h) ∧ ∀ r : Int, ∀ V : zW, (((xMf T h m ∧ 0 < V.1 90 0 ∧ zHe V T h) ∨ (¬ xMf T h m ∧ ¬ 0 < V.1 90 0 ∧ zHe V (xMa T h) h)) ∧ zFo (W.1 90 5) W V ∧ zFr [(90, 0)] [98, 99] W V ∧ lRg r) → post (some (.inl r)) V
theorem zk_MTaddMg {l : Launch} {E : jE} {n : Nat} (hn : 142 ≤ n) : zHas l E jcl jtb lw_tbl zsh n (y_MT_addMark, false, 2, 12, { frames := 1, cells := 0, slots := 0, locals := 24 }, zc_MTaddMg) := by
  refine zHas_m (zk_MTaddM hn) ?_
  rintro vz W po ⟨m, T, h, rfl, hh, hp⟩
  exact ⟨m, rfl, ⟨T, h, hh⟩, fun r V hs => hp r V ⟨hs.1 T h hh, hs.2⟩⟩
noncomputable def zc_MTaddg (vals : List zv) (W : zW) (post : zPo) : Prop := ∃ x : Int, ∃ T : xT, ∃ h : Int, vals = [.inr (.inr (some (.inl 90))), .inl (x)] ∧ (zHe W T h ∧ zLg (zQ W) x) ∧ ∀ r : Int, ∀ V : zW, (zHe V (xPl T h x).1 (xPl T h x).2.1 ∧ (0 < V.1 90 0 ↔ (xPl T h x).2.2 = 1) ∧ zFo (W.1 90 5) W V ∧ zFr [(90, 0), (90, 6), (90, 25), (90, 26), (90, 27), (90, 28), (90, 29), (90, 33)] [93, 94, 95, 96, 97, 98, 100, 110, 111, 112, 113, 114] W V) → post (some (.inl r)) V
theorem zk_MTaddg {l : Launch} {E : jE} {n : Nat} (hn : 142 ≤ n) : zHas l E jcl jtb lw_tbl zsh n (y_MT_add, false, 2, 12, { frames := 7, cells := 0, slots := 0, locals := 181 }, zc_MTaddg) := by
  refine zHas_m (zk_MTadd hn) ?_
  rintro vz W po ⟨x, T, h, rfl, ⟨hh, hl⟩, hp⟩
  exact ⟨x, rfl, ⟨T, h, hh, hl⟩, fun r V hs => hp r V ⟨(hs.1 T h hh).1, (hs.1 T h hh).2, hs.2⟩⟩
noncomputable def y_MM_mark : jY := (⟨"ChessHouseModel", "mark", "(I)V"⟩, prog_15_method_37_code, 3, none)
theorem m_MM_mark : jmth lw_tbl y_MM_mark 1 := ⟨jTA_in (wi := 2820) (jtF_ok rfl) rfl, jTA_in (wi := 314) (jtF_ok rfl) rfl, by decide, by decide, by decide +kernel⟩
theorem i_MM_mark : Jvm.Cond.instanceMethod y_MM_mark.1 ∈ jTA lw_tbl := jTA_in (wi := 2819) (jtF_ok rfl) rfl
theorem e_MM_mark : Jvm.Cond.selects y_MM_mark.1.cls y_MM_mark.1 y_MM_mark.1 ∈ jTA lw_tbl := jTA_in (wi := 218) (jtF_ok rfl) rfl
noncomputable def ak_ZMMmark : List jI := [(.aload_n 0, 1, (0, 0, 0, 0, 0)), (.getfield 20, 3, (11, 5, 2307, 0, 0)), (.getfield 226, 3, (12, 6, 2021, 0, 0)), (.ifCond .ne 9, 3, (16, 0, 0, 0, 0)), (.aload_n 0, 1, (0, 0, 0, 0, 0)), (.iconst 5, 1, (0, 0, 0, 5, 0)), (.invokevirtual 137, 3, (0, 0, 2391, 0, 0)), (.return_, 1, (0, 0, 0, 0, 0)), (.aload_n 0, 1, (0, 0, 0, 0, 0)), (.getfield 20, 3, (11, 5, 2307, 0, 0)), (.iload_n 1, 1, (1, 0, 0, 0, 0)), (.invokevirtual 310, 3, (1, 0, 2821, 0, 0)), (.istore_n 2, 1, (2, 0, 0, 0, 0)), (.aload_n 0, 1, (0, 0, 0, 0, 0)), (.getfield 20, 3, (11, 5, 2307, 0, 0)), (.getfield 306, 3, (12, 0, 2010, 0, 0)), (.ifCond .le 11, 3, (43, 0, 0, 0, 0)), (.aload_n 0, 1, (0, 0, 0, 0, 0)), (.iconst 4, 1, (0, 0, 0, 4, 0)), (.invokevirtual 137, 3, (0, 0, 2391, 0, 0)), (.goto 9, 3, (49, 0, 0, 0, 0)), (.aload_n 0, 1, (0, 0, 0, 0, 0)), (.iload_n 2, 1, (2, 0, 0, 0, 0)), (.i2l, 1, (0, 0, 0, 0, 0)), (.invokevirtual 210, 3, (2, 0, 2526, 0, 0)), (.return_, 1, (0, 0, 0, 0, 0))]
theorem ao_ZMMmark : jokLG jtF lk_MM "ChessHouseModel" jcl jtb 3 prog_15_method_37_code 0 ak_ZMMmark = true := by decide +kernel
noncomputable def zm_MMmark : zM := (none, { frames := 5, cells := 0, slots := 0, locals := 113 }, ([(137, 2391, 0), (310, 2821, 1), (210, 2526, 2)], []), [(y_MM_fault, false, 2, 11, { frames := 4, cells := 0, slots := 0, locals := 92 }, zc_MMfault1), (y_MT_addMark, false, 2, 12, { frames := 1, cells := 0, slots := 0, locals := 24 }, zc_MTaddMg), (y_MM_answer, false, 2, 11, { frames := 3, cells := 0, slots := 0, locals := 69 }, zc_MManswer)], ak_ZMMmark)
noncomputable def zc_MMmark (vals : List zv) (W : zW) (post : zPo) : Prop := ∃ m : Int, ∃ T : xT, ∃ h : Int, vals = [.inr (.inr (some (.inl 87))), .inl (m)] ∧ (zRd W T h) ∧ ∀ V : zW, (zDn [(87, 3), (87, 12), (90, 0)] [89, 98, 99] W V ∧ ((xMf T h m ∧ V.1 87 12 = W.1 87 12 + 1 ∧ zHe V T h) ∨ (¬ xMf T h m ∧ V.1 87 12 = W.1 87 12 ∧ zHe V (xMa T h) h))) → post none V
set_option maxRecDepth 8000 in
theorem zp_MMmark_0 {n K : Nat} {W : zW} {post : zPo} {m : Int} {u2 : Option zv} (hK : 18 ≤ K) (hn : 142 ≤ n) (h : (¬ (W.1 90 6) = 0 → ∃ T21 : xT, ∃ h21 : Int, (zHe W T21 h21) ∧ ∀ r21 : Int, ∀ W21 : zW, (((xMf T21 h21 m ∧ 0 < W21.1 90 0 ∧ zHe W21 T21 h21) ∨ (¬ xMf T21 h21 m ∧ ¬ 0 < W21.1 90 0 ∧ zHe W21 (xMa T21 h21) h21)) ∧ zFo (W.1 90 5) W W21 ∧ zFr [(90, 0)] [98, 99] W W21 ∧ lRg r21) → ((W21.1 90 0) ≤ 0 → (zOg W21 ∧ lRg (((lI r21).toInt64 : Int64) : Int64).toInt) ∧ ∀ W46 : zW, (zPt W21 W46) → post none W46) ∧ (¬ (W21.1 90 0) ≤ 0 → (zOg W21 ∧ lRg (4 : Int) ∧ W21.1 87 12 ≤ 2147483646 ∧ 0 ≤ W21.1 87 12) ∧ ∀ W37 : zW, (zFt W21 W37) → post none W37)) ∧ ((W.1 90 6) = 0 → (zOg W ∧ lRg (5 : Int) ∧ W.1 87 12 ≤ 2147483646 ∧ 0 ≤ W.1 87 12) ∧ ∀ W12 : zW, (zFt W W12) → post none W12)) : zwp jtb zsh n zm_MMmark post K (lGo ak_ZMMmark 0) 0 [some (.inr (.inr (some (.inl 87)))), some (.inl (m)), u2] [] W := by
  obtain ⟨kk__, rfl⟩ : ∃ kk__, K = kk__ + 18 := ⟨K - 18, by omega⟩
  exact (show 87 < n ∧ 11 = 11 ∧ 90 < n ∧ 12 = 12 ∧ (¬ (W.1 90 6) = 0 → 87 < n ∧ 11 = 11 ∧ 3 = 3 ∧ false = false ∧ jin3 310 2821 1 zm_MMmark.2.2.1.1 = true ∧ lRm zm_MMmark.2.1 { frames := 1, cells := 0, slots := 0, locals := 24 } 2 = true ∧ Nat.ble 2 2 = true ∧ Nat.ble 0 8 = true ∧ 90 < n ∧ 12 = 12 ∧ Nat.ble 1000 12 = false ∧ zc_MTaddMg [.inr (.inr (some (.inl 90))), .inl (m)] W (fun vv__ WW__ => zwp jtb zsh n zm_MMmark post (kk__ + 10) (lGo ak_ZMMmark 24) 24 [some (.inr (.inr (some (.inl 87)))), some (.inl (m)), u2] (vv__.toList ++ []) WW__)) ∧ ((W.1 90 6) = 0 → 3 = 3 ∧ false = false ∧ jin3 137 2391 0 zm_MMmark.2.2.1.1 = true ∧ lRm zm_MMmark.2.1 { frames := 4, cells := 0, slots := 0, locals := 92 } 2 = true ∧ Nat.ble 2 2 = true ∧ Nat.ble 0 8 = true ∧ 87 < n ∧ 11 = 11 ∧ Nat.ble 1000 11 = false ∧ zc_MMfault1 [.inr (.inr (some (.inl 87))), .inl (5)] W (fun vv__ WW__ => zwp jtb zsh n zm_MMmark post (kk__ + 11) (lGo ak_ZMMmark 15) 15 [some (.inr (.inr (some (.inl 87)))), some (.inl (m)), u2] (vv__.toList ++ []) WW__)) from ⟨(Nat.lt_of_lt_of_le (by decide) hn), rfl, ⟨(Nat.lt_of_lt_of_le (by decide) hn), rfl, ⟨fun c7_3 => ⟨(Nat.lt_of_lt_of_le (by decide) hn), rfl, (Exists.elim (((h).1 c7_3)) (fun T21 gx21_0 => Exists.elim gx21_0  (fun h21 gh21 => ⟨rfl, rfl, rfl, rfl, rfl, rfl, (Nat.lt_of_lt_of_le (by decide) hn), rfl, rfl, m, T21, h21, rfl, (gh21).1, fun r21 W21 hr21 => (show 87 < n ∧ 11 = 11 ∧ 90 < n ∧ 12 = 12 ∧ ((W21.1 90 0) ≤ 0 → 3 = 3 ∧ false = false ∧ jin3 210 2526 2 zm_MMmark.2.2.1.1 = true ∧ lRm zm_MMmark.2.1 { frames := 3, cells := 0, slots := 0, locals := 69 } 3 = true ∧ Nat.ble 2 2 = true ∧ Nat.ble 0 8 = true ∧ 87 < n ∧ 11 = 11 ∧ Nat.ble 1000 11 = false ∧ zc_MManswer [.inr (.inr (some (.inl 87))), .inr (.inl ((lI r21).toInt64))] W21 (fun vv__ WW__ => zwp jtb zsh n zm_MMmark post (kk__ + 1) (lGo ak_ZMMmark 49) 49 [some (.inr (.inr (some (.inl 87)))), some (.inl (m)), some (.inl (r21))] (vv__.toList ++ []) WW__)) ∧ (¬ (W21.1 90 0) ≤ 0 → 3 = 3 ∧ false = false ∧ jin3 137 2391 0 zm_MMmark.2.2.1.1 = true ∧ lRm zm_MMmark.2.1 { frames := 4, cells := 0, slots := 0, locals := 92 } 2 = true ∧ Nat.ble 2 2 = true ∧ Nat.ble 0 8 = true ∧ 87 < n ∧ 11 = 11 ∧ Nat.ble 1000 11 = false ∧ zc_MMfault1 [.inr (.inr (some (.inl 87))), .inl (4)] W21 (fun vv__ WW__ => zwp jtb zsh n zm_MMmark post (kk__ + 2) (lGo ak_ZMMmark 40) 40 [some (.inr (.inr (some (.inl 87)))), some (.inl (m)), some (.inl (r21))] (vv__.toList ++ []) WW__)) from ⟨(Nat.lt_of_lt_of_le (by decide) hn), rfl, ⟨(Nat.lt_of_lt_of_le (by decide) hn), rfl, ⟨fun c32_12 => (have h := ((((gh21).2 r21 W21 hr21)).1 c32_12); ⟨rfl, rfl, rfl, rfl, rfl, rfl, (Nat.lt_of_lt_of_le (by decide) hn), rfl, rfl, (lI r21).toInt64, rfl, (h).1, fun W46 hr46 => (show 1 = 1 ∧ (none : Option FieldType) = none ∧ post none W46 from ⟨rfl, rfl, ((h).2 W46 hr46)⟩)⟩), fun c32_12 => (have h := ((((gh21).2 r21 W21 hr21)).2 c32_12); ⟨rfl, rfl, rfl, rfl, rfl, rfl, (Nat.lt_of_lt_of_le (by decide) hn), rfl, rfl, 4, rfl, (h).1, fun W37 hr37 => (show 1 = 1 ∧ (none : Option FieldType) = none ∧ post none W37 from ⟨rfl, rfl, ((h).2 W37 hr37)⟩)⟩)⟩⟩⟩)⟩)))⟩, fun c7_3 => ⟨rfl, rfl, rfl, rfl, rfl, rfl, (Nat.lt_of_lt_of_le (by decide) hn), rfl, rfl, 5, rfl, (((h).2 c7_3)).1, fun W12 hr12 => (show 1 = 1 ∧ (none : Option FieldType) = none ∧ post none W12 from (have h := ((((h).2 c7_3)).2 W12 hr12); ⟨rfl, rfl, h⟩))⟩⟩⟩⟩)
theorem zk_MMmark {l : Launch} {E : jE} {n : Nat} (hn : 142 ≤ n) : zHas l E jcl jtb lw_tbl zsh n (y_MM_mark, false, 2, 11, { frames := 5, cells := 0, slots := 0, locals := 113 }, zc_MMmark) := by
  refine ⟨⟨rfl, rfl, ⟨show 1 ≤ 2 by decide, m_MM_mark, i_MM_mark, e_MM_mark, fun _ => ⟨_, rfl, rfl⟩⟩⟩, ?_⟩
  rintro vz W po hO hW ⟨m, T, h, rfl, hq, hp⟩
  refine zmet (m := zm_MMmark) rfl (by decide) (fun _ _ => jtF_ok) lo_MM ao_ZMMmark jC (fun q h => by cases h) (aAllc (fun G h => by obtain rfl := Option.some.inj h; exact ql_MM_137) (aAllc (fun G h => by obtain rfl := Option.some.inj h; exact ql_MM_310) (aAllc (fun G h => by obtain rfl := Option.some.inj h; exact ql_MM_210) (fun q h => by cases h)))) (aAllc (zk_MMfault1 hn) (aAllc (zk_MTaddMg hn) (aAllc (zk_MManswer hn) (fun q h => by cases h)))) (Nat.le_of_ble_eq_true rfl) hO hW (100) ?_
  exact zp_MMmark_0 (by omega) hn ⟨fun c7 => ⟨T, h, hq.1, fun r21 W21 hr21 => ⟨fun c32 => ⟨⟨zOg_e hq.2.1 (zFr_f hr21.2.2.1 87 3), z6_y hr21.2.2.2⟩, fun W46 hr46 => (hp _ ⟨zDn_p hr21.2.2.1 hr21.2.1 hr46 (by decide) (by decide) (by decide) (by decide), Or.inr (hr21.1.elim (fun z => absurd z.2.1 (by omega)) (fun z => ⟨z.1, by rw [zFr_f hr46.1 87 12, zFr_f hr21.2.2.1 87 12], zHe_pt hr46 z.2.2⟩))⟩)⟩, fun c32 => ⟨⟨zOg_e hq.2.1 (zFr_f hr21.2.2.1 87 3), by unfold lRg; omega, by rw [zFr_f hr21.2.2.1 87 12]; have := hq.2.2; omega, by rw [zFr_f hr21.2.2.1 87 12]; exact hq.2.2.1⟩, fun W37 hr37 => (hp _ ⟨zDn_f hr21.2.2.1 hr21.2.1 hr37 (by decide) (by decide) (by decide) (by decide), Or.inl (hr21.1.elim (fun z => ⟨z.1, by rw [hr37.2.2, zFr_f hr21.2.2.1 87 12], zHe_ft hr37 z.2.2⟩) (fun z => absurd (show 0 < W21.1 90 0 by omega) z.2.1))⟩)⟩⟩⟩, fun c7 => ⟨⟨hq.2.1, by unfold lRg; omega, by have := hq.2.2; omega, hq.2.2.1⟩, fun W12 hr12 => (hp _ ⟨zDn_f (zFr_0 (Fs := []) (Rs := [])) zFo_0 hr12 (by decide) (by decide) (by decide) (by decide), Or.inl ⟨Or.inr (Or.inr (Or.inl (by have := hq.1.2.2.2.1; omega))), hr12.2.2, zHe_ft hr12 hq.1⟩⟩)⟩⟩
noncomputable def y_MM_lead : jY := (⟨"ChessHouseModel", "lead", "()V"⟩, prog_15_method_39_code, 2, none)
theorem m_MM_lead : jmth lw_tbl y_MM_lead 0 := ⟨jTA_in (wi := 2829) (jtF_ok rfl) rfl, jTA_in (wi := 314) (jtF_ok rfl) rfl, by decide, by decide, by decide +kernel⟩
theorem i_MM_lead : Jvm.Cond.instanceMethod y_MM_lead.1 ∈ jTA lw_tbl := jTA_in (wi := 2828) (jtF_ok rfl) rfl
theorem e_MM_lead : Jvm.Cond.selects y_MM_lead.1.cls y_MM_lead.1 y_MM_lead.1 ∈ jTA lw_tbl := jTA_in (wi := 219) (jtF_ok rfl) rfl
noncomputable def ak_ZMMlead : List jI := [(.aload_n 0, 1, (0, 0, 0, 0, 0)), (.getfield 20, 3, (11, 5, 2307, 0, 0)), (.getfield 226, 3, (12, 6, 2021, 0, 0)), (.ifCond .ne 9, 3, (16, 0, 0, 0, 0)), (.aload_n 0, 1, (0, 0, 0, 0, 0)), (.iconst 5, 1, (0, 0, 0, 5, 0)), (.invokevirtual 137, 3, (0, 0, 2391, 0, 0)), (.return_, 1, (0, 0, 0, 0, 0)), (.aload_n 0, 1, (0, 0, 0, 0, 0)), (.getfield 20, 3, (11, 5, 2307, 0, 0)), (.invokevirtual 319, 3, (1, 0, 2830, 0, 0)), (.istore_n 1, 1, (1, 0, 0, 0, 0)), (.aload_n 0, 1, (0, 0, 0, 0, 0)), (.getfield 20, 3, (11, 5, 2307, 0, 0)), (.getfield 306, 3, (12, 0, 2010, 0, 0)), (.ifCond .le 11, 3, (42, 0, 0, 0, 0)), (.aload_n 0, 1, (0, 0, 0, 0, 0)), (.iconst 4, 1, (0, 0, 0, 4, 0)), (.invokevirtual 137, 3, (0, 0, 2391, 0, 0)), (.goto 16, 3, (55, 0, 0, 0, 0)), (.aload_n 0, 1, (0, 0, 0, 0, 0)), (.iload_n 1, 1, (1, 0, 0, 0, 0)), (.ifCond .eq 7, 3, (51, 0, 0, 0, 0)), (.lconst 1, 1, (0, 0, 0, 0, 1)), (.goto 4, 3, (52, 0, 0, 0, 0)), (.lconst 0, 1, (0, 0, 0, 0, 0)), (.invokevirtual 210, 3, (2, 0, 2526, 0, 0)), (.return_, 1, (0, 0, 0, 0, 0))]
theorem ao_ZMMlead : jokLG jtF lk_MM "ChessHouseModel" jcl jtb 2 prog_15_method_39_code 0 ak_ZMMlead = true := by decide +kernel
noncomputable def zm_MMlead : zM := (none, { frames := 5, cells := 0, slots := 0, locals := 113 }, ([(137, 2391, 0), (319, 2830, 1), (210, 2526, 2)], []), [(y_MM_fault, false, 2, 11, { frames := 4, cells := 0, slots := 0, locals := 92 }, zc_MMfault1), (y_MT_lead, false, 1, 12, { frames := 2, cells := 0, slots := 0, locals := 46 }, zc_MTlead), (y_MM_answer, false, 2, 11, { frames := 3, cells := 0, slots := 0, locals := 69 }, zc_MManswer)], ak_ZMMlead)
noncomputable def zc_MMlead (vals : List zv) (W : zW) (post : zPo) : Prop := ∃ T : xT, ∃ h : Int, vals = [.inr (.inr (some (.inl 87)))] ∧ (zRd W T h) ∧ ∀ V : zW, (zDn [(87, 3), (87, 12), (90, 0)] [89, 96, 97] W V ∧ ((xLb T h ∧ V.1 87 12 = W.1 87 12 + 1 ∧ zHe V T h) ∨ (¬ xLb T h ∧ V.1 87 12 = W.1 87 12 ∧ zHe V (xLe T h) h))) → post none V
set_option maxRecDepth 8000 in
theorem zp_MMlead_0 {n K : Nat} {W : zW} {post : zPo} {u1 : Option zv} (hK : 19 ≤ K) (hn : 142 ≤ n) (h : (¬ (W.1 90 6) = 0 → ∃ T20 : xT, ∃ h20 : Int, (zHe W T20 h20) ∧ ∀ r20 : Int, ∀ W20 : zW, (((xLb T20 h20 ∧ 0 < W20.1 90 0 ∧ zHe W20 T20 h20) ∨ (¬ xLb T20 h20 ∧ ¬ 0 < W20.1 90 0 ∧ zHe W20 (xLe T20 h20) h20)) ∧ zFo (W.1 90 5) W W20 ∧ zFr [(90, 0)] [96, 97] W W20 ∧ (r20 = 0 ∨ r20 = 1)) → ((W20.1 90 0) ≤ 0 → (r20 = 0 → (zOg W20 ∧ lRg ((0 : Int64) : Int64).toInt) ∧ ∀ W52 : zW, (zPt W20 W52) → post none W52) ∧ (¬ r20 = 0 → (zOg W20 ∧ lRg ((1 : Int64) : Int64).toInt) ∧ ∀ W52 : zW, (zPt W20 W52) → post none W52)) ∧ (¬ (W20.1 90 0) ≤ 0 → (zOg W20 ∧ lRg (4 : Int) ∧ W20.1 87 12 ≤ 2147483646 ∧ 0 ≤ W20.1 87 12) ∧ ∀ W36 : zW, (zFt W20 W36) → post none W36)) ∧ ((W.1 90 6) = 0 → (zOg W ∧ lRg (5 : Int) ∧ W.1 87 12 ≤ 2147483646 ∧ 0 ≤ W.1 87 12) ∧ ∀ W12 : zW, (zFt W W12) → post none W12)) : zwp jtb zsh n zm_MMlead post K (lGo ak_ZMMlead 0) 0 [some (.inr (.inr (some (.inl 87)))), u1] [] W := by
  obtain ⟨kk__, rfl⟩ : ∃ kk__, K = kk__ + 19 := ⟨K - 19, by omega⟩
  exact (show 87 < n ∧ 11 = 11 ∧ 90 < n ∧ 12 = 12 ∧ (¬ (W.1 90 6) = 0 → 87 < n ∧ 11 = 11 ∧ 3 = 3 ∧ false = false ∧ jin3 319 2830 1 zm_MMlead.2.2.1.1 = true ∧ lRm zm_MMlead.2.1 { frames := 2, cells := 0, slots := 0, locals := 46 } 4 = true ∧ Nat.ble 1 1 = true ∧ Nat.ble 0 8 = true ∧ 90 < n ∧ 12 = 12 ∧ Nat.ble 1000 12 = false ∧ zc_MTlead [.inr (.inr (some (.inl 90)))] W (fun vv__ WW__ => zwp jtb zsh n zm_MMlead post (kk__ + 12) (lGo ak_ZMMlead 23) 23 [some (.inr (.inr (some (.inl 87)))), u1] (vv__.toList ++ []) WW__)) ∧ ((W.1 90 6) = 0 → 3 = 3 ∧ false = false ∧ jin3 137 2391 0 zm_MMlead.2.2.1.1 = true ∧ lRm zm_MMlead.2.1 { frames := 4, cells := 0, slots := 0, locals := 92 } 2 = true ∧ Nat.ble 2 2 = true ∧ Nat.ble 0 8 = true ∧ 87 < n ∧ 11 = 11 ∧ Nat.ble 1000 11 = false ∧ zc_MMfault1 [.inr (.inr (some (.inl 87))), .inl (5)] W (fun vv__ WW__ => zwp jtb zsh n zm_MMlead post (kk__ + 12) (lGo ak_ZMMlead 15) 15 [some (.inr (.inr (some (.inl 87)))), u1] (vv__.toList ++ []) WW__)) from ⟨(Nat.lt_of_lt_of_le (by decide) hn), rfl, ⟨(Nat.lt_of_lt_of_le (by decide) hn), rfl, ⟨fun c7_3 => ⟨(Nat.lt_of_lt_of_le (by decide) hn), rfl, (Exists.elim (((h).1 c7_3)) (fun T20 gx20_0 => Exists.elim gx20_0  (fun h20 gh20 => ⟨rfl, rfl, rfl, rfl, rfl, rfl, (Nat.lt_of_lt_of_le (by decide) hn), rfl, rfl, T20, h20, rfl, (gh20).1, fun r20 W20 hr20 => (show 87 < n ∧ 11 = 11 ∧ 90 < n ∧ 12 = 12 ∧ ((W20.1 90 0) ≤ 0 → (r20 = 0 → 3 = 3 ∧ false = false ∧ jin3 210 2526 2 zm_MMlead.2.2.1.1 = true ∧ lRm zm_MMlead.2.1 { frames := 3, cells := 0, slots := 0, locals := 69 } 3 = true ∧ Nat.ble 2 2 = true ∧ Nat.ble 0 8 = true ∧ 87 < n ∧ 11 = 11 ∧ Nat.ble 1000 11 = false ∧ zc_MManswer [.inr (.inr (some (.inl 87))), .inr (.inl (0))] W20 (fun vv__ WW__ => zwp jtb zsh n zm_MMlead post (kk__ + 2) (lGo ak_ZMMlead 55) 55 [some (.inr (.inr (some (.inl 87)))), some (.inl (r20))] (vv__.toList ++ []) WW__)) ∧ (¬ r20 = 0 → 3 = 3 ∧ false = false ∧ jin3 210 2526 2 zm_MMlead.2.2.1.1 = true ∧ lRm zm_MMlead.2.1 { frames := 3, cells := 0, slots := 0, locals := 69 } 3 = true ∧ Nat.ble 2 2 = true ∧ Nat.ble 0 8 = true ∧ 87 < n ∧ 11 = 11 ∧ Nat.ble 1000 11 = false ∧ zc_MManswer [.inr (.inr (some (.inl 87))), .inr (.inl (1))] W20 (fun vv__ WW__ => zwp jtb zsh n zm_MMlead post (kk__ + 1) (lGo ak_ZMMlead 55) 55 [some (.inr (.inr (some (.inl 87)))), some (.inl (r20))] (vv__.toList ++ []) WW__))) ∧ (¬ (W20.1 90 0) ≤ 0 → 3 = 3 ∧ false = false ∧ jin3 137 2391 0 zm_MMlead.2.2.1.1 = true ∧ lRm zm_MMlead.2.1 { frames := 4, cells := 0, slots := 0, locals := 92 } 2 = true ∧ Nat.ble 2 2 = true ∧ Nat.ble 0 8 = true ∧ 87 < n ∧ 11 = 11 ∧ Nat.ble 1000 11 = false ∧ zc_MMfault1 [.inr (.inr (some (.inl 87))), .inl (4)] W20 (fun vv__ WW__ => zwp jtb zsh n zm_MMlead post (kk__ + 4) (lGo ak_ZMMlead 39) 39 [some (.inr (.inr (some (.inl 87)))), some (.inl (r20))] (vv__.toList ++ []) WW__)) from ⟨(Nat.lt_of_lt_of_le (by decide) hn), rfl, ⟨(Nat.lt_of_lt_of_le (by decide) hn), rfl, ⟨fun c31_11 => (have h := ((((gh20).2 r20 W20 hr20)).1 c31_11); ⟨fun c44_14 => ⟨rfl, rfl, rfl, rfl, rfl, rfl, (Nat.lt_of_lt_of_le (by decide) hn), rfl, rfl, 0, rfl, (((h).1 c44_14)).1, fun W52 hr52 => (show 1 = 1 ∧ (none : Option FieldType) = none ∧ post none W52 from (have h := ((((h).1 c44_14)).2 W52 hr52); ⟨rfl, rfl, h⟩))⟩, fun c44_14 => ⟨rfl, rfl, rfl, rfl, rfl, rfl, (Nat.lt_of_lt_of_le (by decide) hn), rfl, rfl, 1, rfl, (((h).2 c44_14)).1, fun W52 hr52 => (show 1 = 1 ∧ (none : Option FieldType) = none ∧ post none W52 from (have h := ((((h).2 c44_14)).2 W52 hr52); ⟨rfl, rfl, h⟩))⟩⟩), fun c31_11 => (have h := ((((gh20).2 r20 W20 hr20)).2 c31_11); ⟨rfl, rfl, rfl, rfl, rfl, rfl, (Nat.lt_of_lt_of_le (by decide) hn), rfl, rfl, 4, rfl, (h).1, fun W36 hr36 => (show 1 = 1 ∧ (none : Option FieldType) = none ∧ post none W36 from ⟨rfl, rfl, ((h).2 W36 hr36)⟩)⟩)⟩⟩⟩)⟩)))⟩, fun c7_3 => ⟨rfl, rfl, rfl, rfl, rfl, rfl, (Nat.lt_of_lt_of_le (by decide) hn), rfl, rfl, 5, rfl, (((h).2 c7_3)).1, fun W12 hr12 => (show 1 = 1 ∧ (none : Option FieldType) = none ∧ post none W12 from (have h := ((((h).2 c7_3)).2 W12 hr12); ⟨rfl, rfl, h⟩))⟩⟩⟩⟩)
theorem zk_MMlead {l : Launch} {E : jE} {n : Nat} (hn : 142 ≤ n) : zHas l E jcl jtb lw_tbl zsh n (y_MM_lead, false, 1, 11, { frames := 5, cells := 0, slots := 0, locals := 113 }, zc_MMlead) := by
  refine ⟨⟨rfl, rfl, ⟨show 1 ≤ 1 by decide, m_MM_lead, i_MM_lead, e_MM_lead, fun _ => ⟨_, rfl, rfl⟩⟩⟩, ?_⟩
  rintro vz W po hO hW ⟨T, h, rfl, hq, hp⟩
  refine zmet (m := zm_MMlead) rfl (by decide) (fun _ _ => jtF_ok) lo_MM ao_ZMMlead jC (fun q h => by cases h) (aAllc (fun G h => by obtain rfl := Option.some.inj h; exact ql_MM_137) (aAllc (fun G h => by obtain rfl := Option.some.inj h; exact ql_MM_319) (aAllc (fun G h => by obtain rfl := Option.some.inj h; exact ql_MM_210) (fun q h => by cases h)))) (aAllc (zk_MMfault1 hn) (aAllc (zk_MTlead hn) (aAllc (zk_MManswer hn) (fun q h => by cases h)))) (Nat.le_of_ble_eq_true rfl) hO hW (100) ?_
  exact zp_MMlead_0 (by omega) hn ⟨fun c7 => ⟨T, h, hq.1, fun r20 W20 hr20 => ⟨fun c31 => ⟨fun c44 => ⟨⟨zOg_e hq.2.1 (zFr_f hr20.2.2.1 87 3), by unfold lRg; decide⟩, fun W52 hr52 => (hp _ ⟨zDn_p hr20.2.2.1 hr20.2.1 hr52 (by decide) (by decide) (by decide) (by decide), Or.inr (hr20.1.elim (fun z => absurd z.2.1 (by omega)) (fun z => ⟨z.1, by rw [zFr_f hr52.1 87 12, zFr_f hr20.2.2.1 87 12], zHe_pt hr52 z.2.2⟩))⟩)⟩, fun c44 => ⟨⟨zOg_e hq.2.1 (zFr_f hr20.2.2.1 87 3), by unfold lRg; decide⟩, fun W52 hr52 => (hp _ ⟨zDn_p hr20.2.2.1 hr20.2.1 hr52 (by decide) (by decide) (by decide) (by decide), Or.inr (hr20.1.elim (fun z => absurd z.2.1 (by omega)) (fun z => ⟨z.1, by rw [zFr_f hr52.1 87 12, zFr_f hr20.2.2.1 87 12], zHe_pt hr52 z.2.2⟩))⟩)⟩⟩, fun c31 => ⟨⟨zOg_e hq.2.1 (zFr_f hr20.2.2.1 87 3), by unfold lRg; omega, by rw [zFr_f hr20.2.2.1 87 12]; have := hq.2.2; omega, by rw [zFr_f hr20.2.2.1 87 12]; exact hq.2.2.1⟩, fun W36 hr36 => (hp _ ⟨zDn_f hr20.2.2.1 hr20.2.1 hr36 (by decide) (by decide) (by decide) (by decide), Or.inl (hr20.1.elim (fun z => ⟨z.1, by rw [hr36.2.2, zFr_f hr20.2.2.1 87 12], zHe_ft hr36 z.2.2⟩) (fun z => absurd (show 0 < W20.1 90 0 by omega) z.2.1))⟩)⟩⟩⟩, fun c7 => ⟨⟨hq.2.1, by unfold lRg; omega, by have := hq.2.2; omega, hq.2.2.1⟩, fun W12 hr12 => (hp _ ⟨zDn_f (zFr_0 (Fs := []) (Rs := [])) zFo_0 hr12 (by decide) (by decide) (by decide) (by decide), Or.inl ⟨Or.inl (by have := hq.1.2.2.2.1; omega), hr12.2.2, zHe_ft hr12 hq.1⟩⟩)⟩⟩
noncomputable def y_MM_goTo : jY := (⟨"ChessHouseModel", "goTo", "(I)V"⟩, prog_15_method_28_code, 2, none)
theorem m_MM_goTo : jmth lw_tbl y_MM_goTo 1 := ⟨jTA_in (wi := 2511) (jtF_ok rfl) rfl, jTA_in (wi := 314) (jtF_ok rfl) rfl, by decide, by decide, by decide +kernel⟩
theorem i_MM_goTo : Jvm.Cond.instanceMethod y_MM_goTo.1 ∈ jTA lw_tbl := jTA_in (wi := 2510) (jtF_ok rfl) rfl
theorem e_MM_goTo : Jvm.Cond.selects y_MM_goTo.1.cls y_MM_goTo.1 y_MM_goTo.1 ∈ jTA lw_tbl := jTA_in (wi := 154) (jtF_ok rfl) rfl
noncomputable def ak_ZMMgoTo : List jI := [(.aload_n 0, 1, (0, 0, 0, 0, 0)), (.getfield 20, 3, (11, 5, 2307, 0, 0)), (.iload_n 1, 1, (1, 0, 0, 0, 0)), (.putfield 226, 3, (12, 6, 2021, 0, 0)), (.aload_n 0, 1, (0, 0, 0, 0, 0)), (.getfield 20, 3, (11, 5, 2307, 0, 0)), (.aload_n 0, 1, (0, 0, 0, 0, 0)), (.getfield 20, 3, (11, 5, 2307, 0, 0)), (.getfield 165, 3, (12, 5, 2019, 0, 0)), (.iload_n 1, 1, (1, 0, 0, 0, 0)), (.invokevirtual 229, 3, (0, 0, 2512, 0, 0)), (.return_, 1, (0, 0, 0, 0, 0))]
theorem ao_ZMMgoTo : jokLG jtF lk_MM "ChessHouseModel" jcl jtb 2 prog_15_method_28_code 0 ak_ZMMgoTo = true := by decide +kernel
noncomputable def zm_MMgoTo : zM := (none, { frames := 7, cells := 0, slots := 0, locals := 181 }, ([(229, 2512, 0)], []), [(y_MT_place, false, 3, 12, { frames := 6, cells := 0, slots := 0, locals := 157 }, zc_MTplace)], ak_ZMMgoTo)
noncomputable def zc_MMgoTo (vals : List zv) (W : zW) (post : zPo) : Prop := ∃ k : Int, ∃ T : xT, vals = [.inr (.inr (some (.inl 87))), .inl (k)] ∧ ((0 ≤ W.1 90 5 ∧ W.1 90 5 ≤ 1) ∧ zRt W (W.1 90 5) T ∧ xTok T ∧ 0 ≤ k ∧ k ≤ T.2.1) ∧ ∀ V : zW, (zFr [(90, 6), (90, 25), (90, 26), (90, 27), (90, 28), (90, 29), (90, 33)] [110, 111, 112, 113, 114] W V ∧ zHe V T k) → post none V
set_option maxRecDepth 8000 in
theorem zp_MMgoTo_0 {n K : Nat} {W : zW} {post : zPo} {k : Int}  (hK : 12 ≤ K) (hn : 142 ≤ n) (h : ((0 ≤ (W.1 90 5) ∧ (W.1 90 5) ≤ 1) ∧ (∃ N, (0 ≤ k ∧ k ≤ N ∧ N ≤ 300) ∧ xOk (zSt (zuF W 90 6 k) (W.1 90 5)) (zro (zuF W 90 6 k) 94 (W.1 90 5)) (zro (zuF W 90 6 k) 95 (W.1 90 5)) N) ∧ zSb (zuF W 90 6 k) (W.1 90 5)) ∧ ∀ W20 : zW, (zAt W20 (xPo (zSt (zuF W 90 6 k) (W.1 90 5)) (zro (zuF W 90 6 k) 94 (W.1 90 5)) (zro (zuF W 90 6 k) 95 (W.1 90 5)) k) ∧ zFr [(90, 25), (90, 26), (90, 27), (90, 28), (90, 29), (90, 33)] [110, 111, 112, 113, 114] (zuF W 90 6 k) W20) → post none W20) : zwp jtb zsh n zm_MMgoTo post K (lGo ak_ZMMgoTo 0) 0 [some (.inr (.inr (some (.inl 87)))), some (.inl (k))] [] W := by
  obtain ⟨kk__, rfl⟩ : ∃ kk__, K = kk__ + 12 := ⟨K - 12, by omega⟩
  exact (show 87 < n ∧ 11 = 11 ∧ 90 < n ∧ 12 = 12 ∧ (some 0 : Option Nat) = some 0 ∧ ((0 : Nat) = 0 ∨ ((0 : Nat) = 1 ∧ (k = 0 ∨ k = 1))) ∧ 87 < n ∧ 11 = 11 ∧ 87 < n ∧ 11 = 11 ∧ 90 < n ∧ 12 = 12 ∧ 3 = 3 ∧ false = false ∧ jin3 229 2512 0 zm_MMgoTo.2.2.1.1 = true ∧ lRm zm_MMgoTo.2.1 { frames := 6, cells := 0, slots := 0, locals := 157 } 5 = true ∧ Nat.ble 3 3 = true ∧ Nat.ble 0 8 = true ∧ 90 < n ∧ 12 = 12 ∧ Nat.ble 1000 12 = false ∧ zc_MTplace [.inr (.inr (some (.inl 90))), .inl (W.1 90 5), .inl (k)] (zuF W 90 6 k) (fun vv__ WW__ => zwp jtb zsh n zm_MMgoTo post (kk__ + 1) (lGo ak_ZMMgoTo 23) 23 [some (.inr (.inr (some (.inl 87)))), some (.inl (k))] (vv__.toList ++ []) WW__) from ⟨(Nat.lt_of_lt_of_le (by decide) hn), rfl, ⟨(Nat.lt_of_lt_of_le (by decide) hn), rfl, rfl, (Or.inl rfl), ⟨(Nat.lt_of_lt_of_le (by decide) hn), rfl, ⟨(Nat.lt_of_lt_of_le (by decide) hn), rfl, ⟨(Nat.lt_of_lt_of_le (by decide) hn), rfl, ⟨rfl, rfl, rfl, rfl, rfl, rfl, (Nat.lt_of_lt_of_le (by decide) hn), rfl, rfl, W.1 90 5, k, rfl, (h).1, fun W20 hr20 => (show 1 = 1 ∧ (none : Option FieldType) = none ∧ post none W20 from ⟨rfl, rfl, ((h).2 W20 hr20)⟩)⟩⟩⟩⟩⟩⟩)
theorem zk_MMgoTo {l : Launch} {E : jE} {n : Nat} (hn : 142 ≤ n) : zHas l E jcl jtb lw_tbl zsh n (y_MM_goTo, false, 2, 11, { frames := 7, cells := 0, slots := 0, locals := 181 }, zc_MMgoTo) := by
  refine ⟨⟨rfl, rfl, ⟨show 1 ≤ 2 by decide, m_MM_goTo, i_MM_goTo, e_MM_goTo, fun _ => ⟨_, rfl, rfl⟩⟩⟩, ?_⟩
  rintro vz W po hO hW ⟨k, T, rfl, hq, hp⟩
  refine zmet (m := zm_MMgoTo) rfl (by decide) (fun _ _ => jtF_ok) lo_MM ao_ZMMgoTo jC (fun q h => by cases h) (aAllc (fun G h => by obtain rfl := Option.some.inj h; exact ql_MM_229) (fun q h => by cases h)) (aAllc (zk_MTplace hn) (fun q h => by cases h)) (Nat.le_of_ble_eq_true rfl) hO hW (60) ?_
  have fin : ∀ U, (zAt U (xPo (zSt (zuF W 90 6 k) (W.1 90 5)) (zro (zuF W 90 6 k) 94 (W.1 90 5)) (zro (zuF W 90 6 k) 95 (W.1 90 5)) k) ∧ zFr [(90, 25), (90, 26), (90, 27), (90, 28), (90, 29), (90, 33)] [110, 111, 112, 113, 114] (zuF W 90 6 k) U) → zFr [(90, 6), (90, 25), (90, 26), (90, 27), (90, 28), (90, 29), (90, 33)] [110, 111, 112, 113, 114] W U ∧ zHe U T k := by
    intro U hU
    have hf : zFr [(90, 6), (90, 25), (90, 26), (90, 27), (90, 28), (90, 29), (90, 33)] [110, 111, 112, 113, 114] W U := zFr_t (zFr_F zFr_0 (by decide)) (zFr_w hU.2 (by decide) (by decide))
    have h5 := zFr_f hf 90 5
    refine ⟨hf, by rw [h5]; exact hq.1, by rw [h5]; exact zRt_fr hf (by decide) hq.2.1, hq.2.2.1, ?_, hq.2.2.2, ?_⟩
    · rw [zFr_f hU.2 90 6, zuF_1, if_pos ⟨rfl, rfl⟩]
    · rw [← (zRt_O hq.2.1 hq.2.2.1).2 k hq.2.2.2.2]
      exact hU.1
  exact zp_MMgoTo_0 (by omega) hn ⟨⟨hq.1, ⟨T.2.1, ⟨hq.2.2.2.1, hq.2.2.2.2, hq.2.2.1.1.2⟩, (zRt_O hq.2.1 hq.2.2.1).1⟩, hq.2.1.2.2.2.2⟩, fun W20 hr20 => (hp _ (fin _ hr20))⟩
end
section
/-! the reference: back, play -/
/-- so many moves back -/
noncomputable def xBk (pa : Int → Int) : Nat → Int → Option Int
  | 0, k => some k
  | n + 1, k => if k ≤ 0 then none else xBk pa n (pa k)
theorem xBk_n {pa : Int → Int} {j k : Int} (hj : 0 < j) (hk : k ≤ 0) : xBk pa j.toNat k = none := by
  obtain ⟨m, hm⟩ : ∃ m, j.toNat = m + 1 := ⟨j.toNat - 1, by omega⟩
  rw [hm]
  show (if k ≤ 0 then none else _) = none
  rw [if_pos hk]
theorem xBk_s {pa : Int → Int} {j k : Int} (hj : j ≤ 0) : xBk pa j.toNat k = some k := by
  rw [show j.toNat = 0 by omega]
  rfl
theorem xBk_c {pa : Int → Int} {j k : Int} (hj : 0 < j) (hk : 0 < k) : xBk pa j.toNat k = xBk pa (j + (-1)).toNat (pa k) := by
  obtain ⟨m, hm⟩ : ∃ m, j.toNat = m + 1 := ⟨j.toNat - 1, by omega⟩
  rw [hm, show (j + (-1)).toNat = m by omega]
  show (if k ≤ 0 then none else _) = _
  rw [if_neg (by omega)]
noncomputable def y_MM_back : jY := (⟨"ChessHouseModel", "back", "(I)V"⟩, prog_15_method_36_code, 4, none)
theorem m_MM_back : jmth lw_tbl y_MM_back 1 := ⟨jTA_in (wi := 2810) (jtF_ok rfl) rfl, jTA_in (wi := 314) (jtF_ok rfl) rfl, by decide, by decide, by decide +kernel⟩
theorem i_MM_back : Jvm.Cond.instanceMethod y_MM_back.1 ∈ jTA lw_tbl := jTA_in (wi := 2809) (jtF_ok rfl) rfl
theorem e_MM_back : Jvm.Cond.selects y_MM_back.1.cls y_MM_back.1 y_MM_back.1 ∈ jTA lw_tbl := jTA_in (wi := 216) (jtF_ok rfl) rfl
noncomputable def ak_ZMMback : List jI := [(.aload_n 0, 1, (0, 0, 0, 0, 0)), (.getfield 20, 3, (11, 5, 2307, 0, 0)), (.getfield 226, 3, (12, 6, 2021, 0, 0)), (.istore_n 2, 1, (2, 0, 0, 0, 0)), (.iload_n 1, 1, (1, 0, 0, 0, 0)), (.istore_n 3, 1, (3, 0, 0, 0, 0)), (.iload_n 3, 1, (3, 0, 0, 0, 0)), (.ifCond .le 35, 3, (46, 0, 0, 0, 0)), (.iload_n 2, 1, (2, 0, 0, 0, 0)), (.ifCond .le 31, 3, (46, 0, 0, 0, 0)), (.aload_n 0, 1, (0, 0, 0, 0, 0)), (.getfield 20, 3, (11, 5, 2307, 0, 0)), (.getfield 307, 3, (12, 8, 2026, 0, 0)), (.sipush 301, 3, (0, 0, 0, 301, 0)), (.aload_n 0, 1, (0, 0, 0, 0, 0)), (.getfield 20, 3, (11, 5, 2307, 0, 0)), (.getfield 165, 3, (12, 5, 2019, 0, 0)), (.imul, 1, (0, 0, 0, 0, 0)), (.iload_n 2, 1, (2, 0, 0, 0, 0)), (.iadd, 1, (0, 0, 0, 0, 0)), (.iaload, 1, (0, 0, 0, 0, 0)), (.istore_n 2, 1, (2, 0, 0, 0, 0)), (.iinc 3 (-1), 3, (0, 0, 0, (-1), 0)), (.goto (-33), 3, (10, 0, 0, 0, 0)), (.iload_n 3, 1, (3, 0, 0, 0, 0)), (.ifCond .le 11, 3, (58, 0, 0, 0, 0)), (.aload_n 0, 1, (0, 0, 0, 0, 0)), (.iconst 5, 1, (0, 0, 0, 5, 0)), (.invokevirtual 137, 3, (0, 0, 2391, 0, 0)), (.goto 14, 3, (69, 0, 0, 0, 0)), (.aload_n 0, 1, (0, 0, 0, 0, 0)), (.iload_n 2, 1, (2, 0, 0, 0, 0)), (.invokevirtual 174, 3, (1, 0, 2508, 0, 0)), (.aload_n 0, 1, (0, 0, 0, 0, 0)), (.iload_n 2, 1, (2, 0, 0, 0, 0)), (.i2l, 1, (0, 0, 0, 0, 0)), (.invokevirtual 210, 3, (2, 0, 2526, 0, 0)), (.return_, 1, (0, 0, 0, 0, 0))]
theorem ao_ZMMback : jokLG jtF lk_MM "ChessHouseModel" jcl jtb 4 prog_15_method_36_code 0 ak_ZMMback = true := by decide +kernel
noncomputable def zm_MMback : zM := (none, { frames := 8, cells := 0, slots := 0, locals := 202 }, ([(137, 2391, 0), (174, 2508, 1), (210, 2526, 2)], []), [(y_MM_fault, false, 2, 11, { frames := 4, cells := 0, slots := 0, locals := 92 }, zc_MMfault1), (y_MM_goTo, false, 2, 11, { frames := 7, cells := 0, slots := 0, locals := 181 }, zc_MMgoTo), (y_MM_answer, false, 2, 11, { frames := 3, cells := 0, slots := 0, locals := 69 }, zc_MManswer)], ak_ZMMback)
noncomputable def zc_MMback (vals : List zv) (W : zW) (post : zPo) : Prop := ∃ a : Int, ∃ T : xT, ∃ h : Int, vals = [.inr (.inr (some (.inl 87))), .inl (a)] ∧ (zRd W T h ∧ 0 ≤ a) ∧ ∀ V : zW, (zDn [(87, 3), (87, 12), (90, 6), (90, 25), (90, 26), (90, 27), (90, 28), (90, 29), (90, 33)] [89, 110, 111, 112, 113, 114] W V ∧ ((xBk T.2.2.1 a.toNat h = none ∧ V.1 87 12 = W.1 87 12 + 1 ∧ zHe V T h) ∨ (∃ k, xBk T.2.2.1 a.toNat h = some k ∧ V.1 87 12 = W.1 87 12 ∧ zHe V T k))) → post none V
set_option maxRecDepth 8000 in
theorem zp_MMback_0 {n K : Nat} {W : zW} {post : zPo} {a : Int} {u2 u3 : Option zv} (hK : 6 ≤ K) (hn : 142 ≤ n) (h : zwp jtb zsh n zm_MMback post (K - 6) (lGo ak_ZMMback 10) 10 [some (.inr (.inr (some (.inl 87)))), some (.inl (a)), some (.inl (W.1 90 6)), some (.inl (a))] [] W) : zwp jtb zsh n zm_MMback post K (lGo ak_ZMMback 0) 0 [some (.inr (.inr (some (.inl 87)))), some (.inl (a)), u2, u3] [] W := by
  obtain ⟨kk__, rfl⟩ : ∃ kk__, K = kk__ + 6 := ⟨K - 6, by omega⟩
  exact (show 87 < n ∧ 11 = 11 ∧ 90 < n ∧ 12 = 12 ∧ zwp jtb zsh n zm_MMback post (kk__ + 0) (lGo ak_ZMMback 10) 10 [some (.inr (.inr (some (.inl 87)))), some (.inl (a)), some (.inl (W.1 90 6)), some (.inl (a))] [] W from ⟨(Nat.lt_of_lt_of_le (by decide) hn), rfl, ⟨(Nat.lt_of_lt_of_le (by decide) hn), rfl, h⟩⟩)
set_option maxRecDepth 8000 in
theorem zp_MMback_10 {n K : Nat} {W : zW} {post : zPo} {a k j : Int}  (hK : 18 ≤ K) (hn : 142 ≤ n) (h : (j ≤ 0 → (j ≤ 0 → ∃ T60 : xT, ((0 ≤ W.1 90 5 ∧ W.1 90 5 ≤ 1) ∧ zRt W (W.1 90 5) T60 ∧ xTok T60 ∧ 0 ≤ k ∧ k ≤ T60.2.1) ∧ ∀ W60 : zW, (zFr [(90, 6), (90, 25), (90, 26), (90, 27), (90, 28), (90, 29), (90, 33)] [110, 111, 112, 113, 114] W W60 ∧ zHe W60 T60 k) → (zOg W60 ∧ lRg (((lI k).toInt64 : Int64) : Int64).toInt) ∧ ∀ W66 : zW, (zPt W60 W66) → post none W66) ∧ (¬ j ≤ 0 → (zOg W ∧ lRg (5 : Int) ∧ W.1 87 12 ≤ 2147483646 ∧ 0 ≤ W.1 87 12) ∧ ∀ W52 : zW, (zFt W W52) → post none W52)) ∧ (¬ j ≤ 0 → (k ≤ 0 → (j ≤ 0 → ∃ T60 : xT, ((0 ≤ W.1 90 5 ∧ W.1 90 5 ≤ 1) ∧ zRt W (W.1 90 5) T60 ∧ xTok T60 ∧ 0 ≤ k ∧ k ≤ T60.2.1) ∧ ∀ W60 : zW, (zFr [(90, 6), (90, 25), (90, 26), (90, 27), (90, 28), (90, 29), (90, 33)] [110, 111, 112, 113, 114] W W60 ∧ zHe W60 T60 k) → (zOg W60 ∧ lRg (((lI k).toInt64 : Int64) : Int64).toInt) ∧ ∀ W66 : zW, (zPt W60 W66) → post none W66) ∧ (¬ j ≤ 0 → (zOg W ∧ lRg (5 : Int) ∧ W.1 87 12 ≤ 2147483646 ∧ 0 ≤ W.1 87 12) ∧ ∀ W52 : zW, (zFt W W52) → post none W52)) ∧ (¬ k ≤ 0 → (-2147483648 ≤ 301 * (W.1 90 5) ∧ 301 * (W.1 90 5) ≤ 2147483647) ∧ (-2147483648 ≤ (301 * (W.1 90 5)) + k ∧ (301 * (W.1 90 5)) + k ≤ 2147483647) ∧ (0 ≤ ((301 * (W.1 90 5)) + k) ∧ ((301 * (W.1 90 5)) + k) < 602) ∧ (-2147483648 ≤ j + (-1) ∧ j + (-1) ≤ 2147483647) ∧ zwp jtb zsh n zm_MMback post (K - 18) (lGo ak_ZMMback 10) 10 [some (.inr (.inr (some (.inl 87)))), some (.inl (a)), some (.inl (W.2.1 94 ((301 * (W.1 90 5)) + k))), some (.inl (j + (-1)))] [] W))) : zwp jtb zsh n zm_MMback post K (lGo ak_ZMMback 10) 10 [some (.inr (.inr (some (.inl 87)))), some (.inl (a)), some (.inl (k)), some (.inl (j))] [] W := by
  obtain ⟨kk__, rfl⟩ : ∃ kk__, K = kk__ + 18 := ⟨K - 18, by omega⟩
  exact (show (j ≤ 0 → (j ≤ 0 → 3 = 3 ∧ false = false ∧ jin3 174 2508 1 zm_MMback.2.2.1.1 = true ∧ lRm zm_MMback.2.1 { frames := 7, cells := 0, slots := 0, locals := 181 } 2 = true ∧ Nat.ble 2 2 = true ∧ Nat.ble 0 8 = true ∧ 87 < n ∧ 11 = 11 ∧ Nat.ble 1000 11 = false ∧ zc_MMgoTo [.inr (.inr (some (.inl 87))), .inl (k)] W (fun vv__ WW__ => zwp jtb zsh n zm_MMback post (kk__ + 11) (lGo ak_ZMMback 63) 63 [some (.inr (.inr (some (.inl 87)))), some (.inl (a)), some (.inl (k)), some (.inl (j))] (vv__.toList ++ []) WW__)) ∧ (¬ j ≤ 0 → 3 = 3 ∧ false = false ∧ jin3 137 2391 0 zm_MMback.2.2.1.1 = true ∧ lRm zm_MMback.2.1 { frames := 4, cells := 0, slots := 0, locals := 92 } 2 = true ∧ Nat.ble 2 2 = true ∧ Nat.ble 0 8 = true ∧ 87 < n ∧ 11 = 11 ∧ Nat.ble 1000 11 = false ∧ zc_MMfault1 [.inr (.inr (some (.inl 87))), .inl (5)] W (fun vv__ WW__ => zwp jtb zsh n zm_MMback post (kk__ + 11) (lGo ak_ZMMback 55) 55 [some (.inr (.inr (some (.inl 87)))), some (.inl (a)), some (.inl (k)), some (.inl (j))] (vv__.toList ++ []) WW__))) ∧ (¬ j ≤ 0 → (k ≤ 0 → (j ≤ 0 → 3 = 3 ∧ false = false ∧ jin3 174 2508 1 zm_MMback.2.2.1.1 = true ∧ lRm zm_MMback.2.1 { frames := 7, cells := 0, slots := 0, locals := 181 } 2 = true ∧ Nat.ble 2 2 = true ∧ Nat.ble 0 8 = true ∧ 87 < n ∧ 11 = 11 ∧ Nat.ble 1000 11 = false ∧ zc_MMgoTo [.inr (.inr (some (.inl 87))), .inl (k)] W (fun vv__ WW__ => zwp jtb zsh n zm_MMback post (kk__ + 9) (lGo ak_ZMMback 63) 63 [some (.inr (.inr (some (.inl 87)))), some (.inl (a)), some (.inl (k)), some (.inl (j))] (vv__.toList ++ []) WW__)) ∧ (¬ j ≤ 0 → 3 = 3 ∧ false = false ∧ jin3 137 2391 0 zm_MMback.2.2.1.1 = true ∧ lRm zm_MMback.2.1 { frames := 4, cells := 0, slots := 0, locals := 92 } 2 = true ∧ Nat.ble 2 2 = true ∧ Nat.ble 0 8 = true ∧ 87 < n ∧ 11 = 11 ∧ Nat.ble 1000 11 = false ∧ zc_MMfault1 [.inr (.inr (some (.inl 87))), .inl (5)] W (fun vv__ WW__ => zwp jtb zsh n zm_MMback post (kk__ + 9) (lGo ak_ZMMback 55) 55 [some (.inr (.inr (some (.inl 87)))), some (.inl (a)), some (.inl (k)), some (.inl (j))] (vv__.toList ++ []) WW__))) ∧ (¬ k ≤ 0 → 87 < n ∧ 11 = 11 ∧ 90 < n ∧ 12 = 12 ∧ 87 < n ∧ 11 = 11 ∧ 90 < n ∧ 12 = 12 ∧ (-2147483648 ≤ 301 * (W.1 90 5) ∧ 301 * (W.1 90 5) ≤ 2147483647) ∧ (-2147483648 ≤ (301 * (W.1 90 5)) + k ∧ (301 * (W.1 90 5)) + k ≤ 2147483647) ∧ 94 < n ∧ FieldType.int = FieldType.int ∧ (0 ≤ ((301 * (W.1 90 5)) + k) ∧ ((301 * (W.1 90 5)) + k) < 602) ∧ (-2147483648 ≤ j + (-1) ∧ j + (-1) ≤ 2147483647) ∧ zwp jtb zsh n zm_MMback post (kk__ + 0) (lGo ak_ZMMback 10) 10 [some (.inr (.inr (some (.inl 87)))), some (.inl (a)), some (.inl (W.2.1 94 ((301 * (W.1 90 5)) + k))), some (.inl (j + (-1)))] [] W)) from ⟨fun c11_1 => ⟨fun c47_3 => (have h := ((((h).1 c11_1)).1 c47_3); (Exists.elim (h) (fun T60 gh60 => ⟨rfl, rfl, rfl, rfl, rfl, rfl, (Nat.lt_of_lt_of_le (by decide) hn), rfl, rfl, k, T60, rfl, (gh60).1, fun W60 hr60 => (show 3 = 3 ∧ false = false ∧ jin3 210 2526 2 zm_MMback.2.2.1.1 = true ∧ lRm zm_MMback.2.1 { frames := 3, cells := 0, slots := 0, locals := 69 } 3 = true ∧ Nat.ble 2 2 = true ∧ Nat.ble 0 8 = true ∧ 87 < n ∧ 11 = 11 ∧ Nat.ble 1000 11 = false ∧ zc_MManswer [.inr (.inr (some (.inl 87))), .inr (.inl ((lI k).toInt64))] W60 (fun vv__ WW__ => zwp jtb zsh n zm_MMback post (kk__ + 7) (lGo ak_ZMMback 69) 69 [some (.inr (.inr (some (.inl 87)))), some (.inl (a)), some (.inl (k)), some (.inl (j))] (vv__.toList ++ []) WW__) from ⟨rfl, rfl, rfl, rfl, rfl, rfl, (Nat.lt_of_lt_of_le (by decide) hn), rfl, rfl, (lI k).toInt64, rfl, (((gh60).2 W60 hr60)).1, fun W66 hr66 => (show 1 = 1 ∧ (none : Option FieldType) = none ∧ post none W66 from (have h := ((((gh60).2 W60 hr60)).2 W66 hr66); ⟨rfl, rfl, h⟩))⟩)⟩))), fun c47_3 => (have h := ((((h).1 c11_1)).2 c47_3); ⟨rfl, rfl, rfl, rfl, rfl, rfl, (Nat.lt_of_lt_of_le (by decide) hn), rfl, rfl, 5, rfl, (h).1, fun W52 hr52 => (show 1 = 1 ∧ (none : Option FieldType) = none ∧ post none W52 from ⟨rfl, rfl, ((h).2 W52 hr52)⟩)⟩)⟩, fun c11_1 => ⟨fun c15_3 => (have h := ((((h).2 c11_1)).1 c15_3); ⟨fun c47_5 => (Exists.elim (((h).1 c47_5)) (fun T60 gh60 => ⟨rfl, rfl, rfl, rfl, rfl, rfl, (Nat.lt_of_lt_of_le (by decide) hn), rfl, rfl, k, T60, rfl, (gh60).1, fun W60 hr60 => (show 3 = 3 ∧ false = false ∧ jin3 210 2526 2 zm_MMback.2.2.1.1 = true ∧ lRm zm_MMback.2.1 { frames := 3, cells := 0, slots := 0, locals := 69 } 3 = true ∧ Nat.ble 2 2 = true ∧ Nat.ble 0 8 = true ∧ 87 < n ∧ 11 = 11 ∧ Nat.ble 1000 11 = false ∧ zc_MManswer [.inr (.inr (some (.inl 87))), .inr (.inl ((lI k).toInt64))] W60 (fun vv__ WW__ => zwp jtb zsh n zm_MMback post (kk__ + 5) (lGo ak_ZMMback 69) 69 [some (.inr (.inr (some (.inl 87)))), some (.inl (a)), some (.inl (k)), some (.inl (j))] (vv__.toList ++ []) WW__) from ⟨rfl, rfl, rfl, rfl, rfl, rfl, (Nat.lt_of_lt_of_le (by decide) hn), rfl, rfl, (lI k).toInt64, rfl, (((gh60).2 W60 hr60)).1, fun W66 hr66 => (show 1 = 1 ∧ (none : Option FieldType) = none ∧ post none W66 from (have h := ((((gh60).2 W60 hr60)).2 W66 hr66); ⟨rfl, rfl, h⟩))⟩)⟩)), fun c47_5 => ⟨rfl, rfl, rfl, rfl, rfl, rfl, (Nat.lt_of_lt_of_le (by decide) hn), rfl, rfl, 5, rfl, (((h).2 c47_5)).1, fun W52 hr52 => (show 1 = 1 ∧ (none : Option FieldType) = none ∧ post none W52 from (have h := ((((h).2 c47_5)).2 W52 hr52); ⟨rfl, rfl, h⟩))⟩⟩), fun c15_3 => (have h := ((((h).2 c11_1)).2 c15_3); ⟨(Nat.lt_of_lt_of_le (by decide) hn), rfl, ⟨(Nat.lt_of_lt_of_le (by decide) hn), rfl, ⟨(Nat.lt_of_lt_of_le (by decide) hn), rfl, ⟨(Nat.lt_of_lt_of_le (by decide) hn), rfl, ⟨(h).1, ⟨((h).2).1, ⟨(Nat.lt_of_lt_of_le (by decide) hn), rfl, (((h).2).2).1, ⟨((((h).2).2).2).1, ((((h).2).2).2).2⟩⟩⟩⟩⟩⟩⟩⟩)⟩⟩)
set_option maxRecDepth 100000 in
theorem zk_MMback {l : Launch} {E : jE} {n : Nat} (hn : 142 ≤ n) : zHas l E jcl jtb lw_tbl zsh n (y_MM_back, false, 2, 11, { frames := 8, cells := 0, slots := 0, locals := 202 }, zc_MMback) := by
  refine ⟨⟨rfl, rfl, ⟨show 1 ≤ 2 by decide, m_MM_back, i_MM_back, e_MM_back, fun _ => ⟨_, rfl, rfl⟩⟩⟩, ?_⟩
  rintro vz W po hO hW ⟨a, T, h, rfl, hq, hp⟩
  refine zmet (m := zm_MMback) rfl (by decide) (fun _ _ => jtF_ok) lo_MM ao_ZMMback jC (fun q h => by cases h) (aAllc (fun G h => by obtain rfl := Option.some.inj h; exact ql_MM_137) (aAllc (fun G h => by obtain rfl := Option.some.inj h; exact ql_MM_174) (aAllc (fun G h => by obtain rfl := Option.some.inj h; exact ql_MM_210) (fun q h => by cases h)))) (aAllc (zk_MMfault1 hn) (aAllc (zk_MMgoTo hn) (aAllc (zk_MManswer hn) (fun q h => by cases h)))) (Nat.le_of_ble_eq_true rfl) hO hW (14000) ?_
  have hh := hq.1.1
  have hg := hh.1
  have h6 := hh.2.2.2.1
  have hb := hh.2.2.2.2.1
  have hN := hh.2.2.1.1
  have hP := xT_p hh.2.2.1
  have lp : ∀ (m K : Nat) (k j : Int), 40 * m + 60 ≤ K → k ≤ m → 0 ≤ k → k ≤ T.2.1 → 0 ≤ j ∧ j ≤ a → xBk T.2.2.1 a.toNat h = xBk T.2.2.1 j.toNat k → zwp jtb zsh n zm_MMback po K (lGo ak_ZMMback 10) 10 [some (.inr (.inr (some (.inl 87)))), some (.inl a), some (.inl k), some (.inl j)] [] W := by
    intro m
    have ha := hO (.inl a) (by simp)
    have ha2 : a ≤ 2147483647 := ha.2
    induction m with
    | zero =>
      intro K k j hK hm k0 k1 hj e
      have pk : 0 < k → W.2.1 94 (301 * W.1 90 5 + k) = T.2.2.1 k := fun z => by omega
      have ih : ∀ (K : Nat) (k' j' : Int), False → zwp jtb zsh n zm_MMback po K (lGo ak_ZMMback 10) 10 [some (.inr (.inr (some (.inl 87)))), some (.inl a), some (.inl k'), some (.inl j')] [] W := fun _ _ _ z => z.elim
      exact zp_MMback_10 (by omega) hn ⟨fun c11 => ⟨fun c47 => ⟨T, ⟨hg, hh.2.1, hh.2.2.1, by omega, by omega⟩, fun W60 hr60 => ⟨⟨zOg_e hq.1.2.1 (zFr_f hr60.1 87 3), z6_y (by unfold lRg; omega)⟩, fun W66 hr66 => (hp _ ⟨zDn_p hr60.1 (zFo_fr zFo_0 hr60.1 (by decide)) hr66 (by decide) (by decide) (by decide) (by decide), Or.inr ⟨k, e.trans (xBk_s (by omega)), by rw [zFr_f hr66.1 87 12, zFr_f hr60.1 87 12], zHe_pt hr66 hr60.2⟩⟩)⟩⟩, fun c47 => ⟨⟨hq.1.2.1, by unfold lRg; omega, by have := hq.1.2.2; omega, hq.1.2.2.1⟩, fun W52 hr52 => (hp _ ⟨zDn_f (zFr_0 (Fs := []) (Rs := [])) zFo_0 hr52 (by decide) (by decide) (by decide) (by decide), Or.inl ⟨e.trans (xBk_n (by omega) (by omega)), hr52.2.2, zHe_ft hr52 hh⟩⟩)⟩⟩, fun c11 => ⟨fun c15 => ⟨fun c47 => ⟨T, ⟨hg, hh.2.1, hh.2.2.1, by omega, by omega⟩, fun W60 hr60 => ⟨⟨zOg_e hq.1.2.1 (zFr_f hr60.1 87 3), z6_y (by unfold lRg; omega)⟩, fun W66 hr66 => (hp _ ⟨zDn_p hr60.1 (zFo_fr zFo_0 hr60.1 (by decide)) hr66 (by decide) (by decide) (by decide) (by decide), Or.inr ⟨k, e.trans (xBk_s (by omega)), by rw [zFr_f hr66.1 87 12, zFr_f hr60.1 87 12], zHe_pt hr66 hr60.2⟩⟩)⟩⟩, fun c47 => ⟨⟨hq.1.2.1, by unfold lRg; omega, by have := hq.1.2.2; omega, hq.1.2.2.1⟩, fun W52 hr52 => (hp _ ⟨zDn_f (zFr_0 (Fs := []) (Rs := [])) zFo_0 hr52 (by decide) (by decide) (by decide) (by decide), Or.inl ⟨e.trans (xBk_n (by omega) (by omega)), hr52.2.2, zHe_ft hr52 hh⟩⟩)⟩⟩, fun c15 => ⟨(by omega), ⟨(by omega), ⟨(by omega), ⟨(by omega), (by rw [pk (by omega)]; have := hP k (by omega) (by omega); exact absurd hm (by omega))⟩⟩⟩⟩⟩⟩
    | succ m ih =>
      intro K k j hK hm k0 k1 hj e
      have pk : 0 < k → W.2.1 94 (301 * W.1 90 5 + k) = T.2.2.1 k := fun z => (hh.2.1.2.1 k (by omega) k1).1
      exact zp_MMback_10 (by omega) hn ⟨fun c11 => ⟨fun c47 => ⟨T, ⟨hg, hh.2.1, hh.2.2.1, by omega, by omega⟩, fun W60 hr60 => ⟨⟨zOg_e hq.1.2.1 (zFr_f hr60.1 87 3), z6_y (by unfold lRg; omega)⟩, fun W66 hr66 => (hp _ ⟨zDn_p hr60.1 (zFo_fr zFo_0 hr60.1 (by decide)) hr66 (by decide) (by decide) (by decide) (by decide), Or.inr ⟨k, e.trans (xBk_s (by omega)), by rw [zFr_f hr66.1 87 12, zFr_f hr60.1 87 12], zHe_pt hr66 hr60.2⟩⟩)⟩⟩, fun c47 => ⟨⟨hq.1.2.1, by unfold lRg; omega, by have := hq.1.2.2; omega, hq.1.2.2.1⟩, fun W52 hr52 => (hp _ ⟨zDn_f (zFr_0 (Fs := []) (Rs := [])) zFo_0 hr52 (by decide) (by decide) (by decide) (by decide), Or.inl ⟨e.trans (xBk_n (by omega) (by omega)), hr52.2.2, zHe_ft hr52 hh⟩⟩)⟩⟩, fun c11 => ⟨fun c15 => ⟨fun c47 => ⟨T, ⟨hg, hh.2.1, hh.2.2.1, by omega, by omega⟩, fun W60 hr60 => ⟨⟨zOg_e hq.1.2.1 (zFr_f hr60.1 87 3), z6_y (by unfold lRg; omega)⟩, fun W66 hr66 => (hp _ ⟨zDn_p hr60.1 (zFo_fr zFo_0 hr60.1 (by decide)) hr66 (by decide) (by decide) (by decide) (by decide), Or.inr ⟨k, e.trans (xBk_s (by omega)), by rw [zFr_f hr66.1 87 12, zFr_f hr60.1 87 12], zHe_pt hr66 hr60.2⟩⟩)⟩⟩, fun c47 => ⟨⟨hq.1.2.1, by unfold lRg; omega, by have := hq.1.2.2; omega, hq.1.2.2.1⟩, fun W52 hr52 => (hp _ ⟨zDn_f (zFr_0 (Fs := []) (Rs := [])) zFo_0 hr52 (by decide) (by decide) (by decide) (by decide), Or.inl ⟨e.trans (xBk_n (by omega) (by omega)), hr52.2.2, zHe_ft hr52 hh⟩⟩)⟩⟩, fun c15 => ⟨(by omega), ⟨(by omega), ⟨(by omega), ⟨(by omega), (by rw [pk (by omega)]; have := hP k (by omega) (by omega); exact ih _ _ _ (by omega) (by omega) (by omega) (by omega) (by omega) (e.trans (xBk_c (by omega) (by omega))))⟩⟩⟩⟩⟩⟩
  exact zp_MMback_0 (by omega) hn (lp 300 _ _ a (by omega) (by omega) (by omega) (by omega) (by omega) (by rw [h6]))
end
section
/-! the reference: play -/
/-- a word of the line: its signs, their count -/
noncomputable def zWw (W : zW) (i : Int) : (Int → Int) × Int := (fun j => W.2.1 88 (W.2.1 137 i + j), W.2.1 138 i - W.2.1 137 i)
noncomputable def zWd (W : zW) (i : Int) : Prop := (0 ≤ i ∧ i < 32768) ∧ 0 ≤ W.2.1 137 i ∧ W.2.1 137 i ≤ W.2.1 138 i ∧ W.2.1 138 i ≤ 65536 ∧ ∀ t, W.2.1 137 i ≤ t → t < W.2.1 138 i → 0 ≤ W.2.1 88 t ∧ W.2.1 88 t ≤ 127
theorem zWw_e {W V : zW} (h1 : V.2.1 88 = W.2.1 88) (h2 : V.2.1 137 = W.2.1 137) (h3 : V.2.1 138 = W.2.1 138) : zWw V = zWw W ∧ ∀ i, zWd W i → zWd V i := by
  unfold zWd
  refine ⟨?_, fun i h => ?_⟩
  · funext i
    unfold zWw
    rw [h1, h2, h3]
  · rw [h1, h2, h3]
    exact h
/-- what a word says at a position -/
noncomputable def xMe (q : rQ) (w : (Int → Int) × Int) (r : Int) : Prop := ∃ X : Int → Int, (∀ j, 0 ≤ j → j < w.2 → X j = w.1 j) ∧ zUn q X w.2 r
theorem zHe_u {V : zW} {T : xT} {h : Int} (hh : zHe V T h) : rGd (zQ V) ∧ zMk V ∧ (0 ≤ V.1 90 26 ∧ V.1 90 26 ≤ 15) ∧ (V.1 90 28 ≤ 50000 ∧ V.1 90 29 ≤ 50000) ∧ hqE (zLg (zQ V)) (V.2.1 113) 0 (V.1 90 33) ∧ V.1 90 33 ≤ 2048 := by
  have ha := hh.2.2.2.2.2
  have eQ : zQ V = (xPo T.1 T.2.2.1 T.2.2.2.1 h).1 := congrArg Prod.fst ha.1
  have hg := (xOk_g hh.2.2.1.2.1 h.toNat h (by omega) hh.2.2.2.2.1.2).1.1
  rw [← eQ] at hg
  exact ⟨hg, ha.2.1, ha.2.2.1, ha.2.2.2.2.2, ha.2.2.2.1, ha.2.2.2.2.1⟩
theorem zHe_q {V : zW} {T : xT} {h : Int} (hh : zHe V T h) : zQ V = (xPo T.1 T.2.2.1 T.2.2.2.1 h).1 := congrArg Prod.fst hh.2.2.2.2.2.1
theorem zHe_sq {W V : zW} {T : xT} {h : Int} (hs : zSq W V) (hh : zHe W T h) : zHe V T h := by
  obtain ⟨h1, h2⟩ := hs
  have h5 := zFr_f h2 90 5
  have ha := hh.2.2.2.2.2
  have eq : zQ V = zQ W := by unfold zQ; rw [h1, zFr_f h2 90 25, zFr_f h2 90 26, zFr_f h2 90 27]
  refine ⟨by rw [h5]; exact hh.1, by rw [h5]; exact zRt_fr h2 (by decide) hh.2.1, hh.2.2.1, by rw [zFr_f h2 90 6]; exact hh.2.2.2.1, hh.2.2.2.2.1, ?_⟩
  refine ⟨by rw [eq, zFr_f h2 90 29]; exact ha.1, ?_, by rw [zFr_f h2 90 26]; exact ha.2.2.1, by rw [eq, zFr_r h2 113, zFr_f h2 90 33]; exact ha.2.2.2.1, by rw [zFr_f h2 90 33, zFr_f h2 90 28, zFr_f h2 90 29]; exact ha.2.2.2.2⟩
  refine ⟨fun i i0 i1 => ?_, by rw [zFr_f h2 90 25]; exact ha.2.1.2.1, by rw [zFr_f h2 90 28]; exact ha.2.1.2.2.1, by rw [zFr_f h2 90 29]; exact ha.2.1.2.2.2⟩
  rw [← zMn_i ⟨i0, i1⟩, h1, zMn_i ⟨i0, i1⟩]
  exact ha.2.1.1 i i0 i1
noncomputable def y_MM_meant : jY := (⟨"ChessHouseModel", "meant", "(I)I"⟩, prog_15_method_34_code, 4, (some .int))
theorem m_MM_meant : jmth lw_tbl y_MM_meant 1 := ⟨jTA_in (wi := 2784) (jtF_ok rfl) rfl, jTA_in (wi := 314) (jtF_ok rfl) rfl, by decide, by decide, by decide +kernel⟩
theorem i_MM_meant : Jvm.Cond.instanceMethod y_MM_meant.1 ∈ jTA lw_tbl := jTA_in (wi := 2783) (jtF_ok rfl) rfl
theorem e_MM_meant : Jvm.Cond.selects y_MM_meant.1.cls y_MM_meant.1 y_MM_meant.1 ∈ jTA lw_tbl := jTA_in (wi := 211) (jtF_ok rfl) rfl
noncomputable def ak_ZMMmeant : List jI := [(.aload_n 0, 1, (0, 0, 0, 0, 0)), (.getfield 36, 3, (11, 15, 2317, 0, 0)), (.iload_n 1, 1, (1, 0, 0, 0, 0)), (.iaload, 1, (0, 0, 0, 0, 0)), (.aload_n 0, 1, (0, 0, 0, 0, 0)), (.getfield 32, 3, (11, 14, 2316, 0, 0)), (.iload_n 1, 1, (1, 0, 0, 0, 0)), (.iaload, 1, (0, 0, 0, 0, 0)), (.isub, 1, (0, 0, 0, 0, 0)), (.istore_n 2, 1, (2, 0, 0, 0, 0)), (.iconst 0, 1, (0, 0, 0, 0, 0)), (.istore_n 3, 1, (3, 0, 0, 0, 0)), (.iload_n 3, 1, (3, 0, 0, 0, 0)), (.iload_n 2, 1, (2, 0, 0, 0, 0)), (.if_icmp .ge 32, 3, (50, 0, 0, 0, 0)), (.aload_n 0, 1, (0, 0, 0, 0, 0)), (.getfield 20, 3, (11, 5, 2307, 0, 0)), (.getfield 262, 3, (12, 2, 2015, 0, 0)), (.iload_n 3, 1, (3, 0, 0, 0, 0)), (.aload_n 0, 1, (0, 0, 0, 0, 0)), (.getfield 10, 3, (11, 2, 2304, 0, 0)), (.aload_n 0, 1, (0, 0, 0, 0, 0)), (.getfield 32, 3, (11, 14, 2316, 0, 0)), (.iload_n 1, 1, (1, 0, 0, 0, 0)), (.iaload, 1, (0, 0, 0, 0, 0)), (.iload_n 3, 1, (3, 0, 0, 0, 0)), (.iadd, 1, (0, 0, 0, 0, 0)), (.baload, 1, (0, 0, 0, 0, 0)), (.i2c, 1, (0, 0, 0, 0, 0)), (.castore, 1, (0, 0, 0, 0, 0)), (.iinc 3 1, 3, (0, 0, 0, 1, 0)), (.goto (-31), 3, (16, 0, 0, 0, 0)), (.aload_n 0, 1, (0, 0, 0, 0, 0)), (.getfield 20, 3, (11, 5, 2307, 0, 0)), (.iconst 0, 1, (0, 0, 0, 0, 0)), (.iload_n 2, 1, (2, 0, 0, 0, 0)), (.invokevirtual 295, 3, (0, 0, 2785, 0, 0)), (.ireturn, 1, (0, 0, 0, 0, 0))]
theorem ao_ZMMmeant : jokLG jtF lk_MM "ChessHouseModel" jcl jtb 4 prog_15_method_34_code 0 ak_ZMMmeant = true := by decide +kernel
noncomputable def zm_MMmeant : zM := (some .int, { frames := 8, cells := 0, slots := 0, locals := 210 }, ([(295, 2785, 0)], []), [(y_MT_understood, false, 3, 12, { frames := 7, cells := 0, slots := 0, locals := 185 }, zc_MTund)], ak_ZMMmeant)
noncomputable def zc_MMmeant (vals : List zv) (W : zW) (post : zPo) : Prop := ∃ i : Int, ∃ T : xT, ∃ h : Int, vals = [.inr (.inr (some (.inl 87))), .inl (i)] ∧ (zHe W T h ∧ zWd W i) ∧ ∀ r : Int, ∀ V : zW, (xMe (zQ W) (zWw W i) r ∧ zHe V T h ∧ zFr [(90, 36)] [91, 110, 111, 112, 115] W V ∧ zQ V = zQ W) → post (some (.inl r)) V
set_option maxRecDepth 8000 in
theorem zp_MMmeant_0 {n K : Nat} {W : zW} {post : zPo} {i : Int} {u2 u3 : Option zv} (hK : 12 ≤ K) (hn : 142 ≤ n) (h : (0 ≤ i ∧ i < 32768) ∧ (0 ≤ i ∧ i < 32768) ∧ (-2147483648 ≤ (W.2.1 138 i) - (W.2.1 137 i) ∧ (W.2.1 138 i) - (W.2.1 137 i) ≤ 2147483647) ∧ zwp jtb zsh n zm_MMmeant post (K - 12) (lGo ak_ZMMmeant 16) 16 [some (.inr (.inr (some (.inl 87)))), some (.inl (i)), some (.inl ((W.2.1 138 i) - (W.2.1 137 i))), some (.inl (0))] [] W) : zwp jtb zsh n zm_MMmeant post K (lGo ak_ZMMmeant 0) 0 [some (.inr (.inr (some (.inl 87)))), some (.inl (i)), u2, u3] [] W := by
  obtain ⟨kk__, rfl⟩ : ∃ kk__, K = kk__ + 12 := ⟨K - 12, by omega⟩
  exact (show 87 < n ∧ 11 = 11 ∧ 138 < n ∧ FieldType.int = FieldType.int ∧ (0 ≤ i ∧ i < 32768) ∧ 87 < n ∧ 11 = 11 ∧ 137 < n ∧ FieldType.int = FieldType.int ∧ (0 ≤ i ∧ i < 32768) ∧ (-2147483648 ≤ (W.2.1 138 i) - (W.2.1 137 i) ∧ (W.2.1 138 i) - (W.2.1 137 i) ≤ 2147483647) ∧ zwp jtb zsh n zm_MMmeant post (kk__ + 0) (lGo ak_ZMMmeant 16) 16 [some (.inr (.inr (some (.inl 87)))), some (.inl (i)), some (.inl ((W.2.1 138 i) - (W.2.1 137 i))), some (.inl (0))] [] W from ⟨(Nat.lt_of_lt_of_le (by decide) hn), rfl, ⟨(Nat.lt_of_lt_of_le (by decide) hn), rfl, (h).1, ⟨(Nat.lt_of_lt_of_le (by decide) hn), rfl, ⟨(Nat.lt_of_lt_of_le (by decide) hn), rfl, ((h).2).1, ⟨(((h).2).2).1, (((h).2).2).2⟩⟩⟩⟩⟩)
set_option maxRecDepth 8000 in
theorem zp_MMmeant_16 {n K : Nat} {V : zW} {post : zPo} {i d j : Int}  (hK : 20 ≤ K) (hn : 142 ≤ n) (h : (d ≤ j → (rGd (zQ V) ∧ zMk V ∧ (0 ≤ V.1 90 26 ∧ V.1 90 26 ≤ 15) ∧ (V.1 90 28 ≤ 50000 ∧ V.1 90 29 ≤ 50000) ∧ hqE (zLg (zQ V)) (V.2.1 113) 0 (V.1 90 33) ∧ V.1 90 33 ≤ 2048 ∧ (0 ≤ (0 : Int) ∧ (0 : Int) ≤ d ∧ d ≤ 65536)) ∧ ∀ r56 : Int, ∀ W56 : zW, (zUn (zQ V) (zTx V (0 : Int)) (d - (0 : Int)) r56 ∧ zSq V W56) → post (some (.inl (r56))) W56) ∧ (¬ d ≤ j → (0 ≤ i ∧ i < 32768) ∧ (-2147483648 ≤ (V.2.1 137 i) + j ∧ (V.2.1 137 i) + j ≤ 2147483647) ∧ (0 ≤ ((V.2.1 137 i) + j) ∧ ((V.2.1 137 i) + j) < 65536) ∧ (0 ≤ (V.2.1 88 ((V.2.1 137 i) + j)) ∧ (V.2.1 88 ((V.2.1 137 i) + j)) ≤ 65535) ∧ ∀ t0 : Int, t0 = V.2.1 88 ((V.2.1 137 i) + j) → (0 ≤ j ∧ j < 65536) ∧ (0 ≤ t0 ∧ t0 ≤ 65535) ∧ (-2147483648 ≤ j + 1 ∧ j + 1 ≤ 2147483647) ∧ zwp jtb zsh n zm_MMmeant post (K - 20) (lGo ak_ZMMmeant 16) 16 [some (.inr (.inr (some (.inl 87)))), some (.inl (i)), some (.inl (d)), some (.inl (j + 1))] [] (zuR V 91 j t0))) : zwp jtb zsh n zm_MMmeant post K (lGo ak_ZMMmeant 16) 16 [some (.inr (.inr (some (.inl 87)))), some (.inl (i)), some (.inl (d)), some (.inl (j))] [] V := by
  obtain ⟨kk__, rfl⟩ : ∃ kk__, K = kk__ + 20 := ⟨K - 20, by omega⟩
  exact (show (d ≤ j → 87 < n ∧ 11 = 11 ∧ 3 = 3 ∧ false = false ∧ jin3 295 2785 0 zm_MMmeant.2.2.1.1 = true ∧ lRm zm_MMmeant.2.1 { frames := 7, cells := 0, slots := 0, locals := 185 } 6 = true ∧ Nat.ble 3 3 = true ∧ Nat.ble 0 8 = true ∧ 90 < n ∧ 12 = 12 ∧ Nat.ble 1000 12 = false ∧ zc_MTund [.inr (.inr (some (.inl 90))), .inl (0), .inl (d)] V (fun vv__ WW__ => zwp jtb zsh n zm_MMmeant post (kk__ + 12) (lGo ak_ZMMmeant 59) 59 [some (.inr (.inr (some (.inl 87)))), some (.inl (i)), some (.inl (d)), some (.inl (j))] (vv__.toList ++ []) WW__)) ∧ (¬ d ≤ j → 87 < n ∧ 11 = 11 ∧ 90 < n ∧ 12 = 12 ∧ 87 < n ∧ 11 = 11 ∧ 87 < n ∧ 11 = 11 ∧ 137 < n ∧ FieldType.int = FieldType.int ∧ (0 ≤ i ∧ i < 32768) ∧ (-2147483648 ≤ (V.2.1 137 i) + j ∧ (V.2.1 137 i) + j ≤ 2147483647) ∧ 88 < n ∧ FieldType.byte = FieldType.byte ∧ (0 ≤ ((V.2.1 137 i) + j) ∧ ((V.2.1 137 i) + j) < 65536) ∧ 91 < n ∧ FieldType.char = FieldType.char ∧ (0 ≤ j ∧ j < 65536) ∧ (0 ≤ (((lI (V.2.1 88 ((V.2.1 137 i) + j))).toUInt32 % 65536).toInt32.toInt) ∧ (((lI (V.2.1 88 ((V.2.1 137 i) + j))).toUInt32 % 65536).toInt32.toInt) ≤ 65535) ∧ (-2147483648 ≤ j + 1 ∧ j + 1 ≤ 2147483647) ∧ zwp jtb zsh n zm_MMmeant post (kk__ + 0) (lGo ak_ZMMmeant 16) 16 [some (.inr (.inr (some (.inl 87)))), some (.inl (i)), some (.inl (d)), some (.inl (j + 1))] [] (zuR V 91 j (((lI (V.2.1 88 ((V.2.1 137 i) + j))).toUInt32 % 65536).toInt32.toInt))) from ⟨fun c18_2 => ⟨(Nat.lt_of_lt_of_le (by decide) hn), rfl, ⟨rfl, rfl, rfl, rfl, rfl, rfl, (Nat.lt_of_lt_of_le (by decide) hn), rfl, rfl, 0, d, rfl, (((h).1 c18_2)).1, fun r56 W56 hr56 => (show 1 = 1 ∧ True ∧ post (some (.inl (r56))) W56 from (have h := ((((h).1 c18_2)).2 r56 W56 hr56); ⟨rfl, trivial, h⟩))⟩⟩, fun c18_2 => ⟨(Nat.lt_of_lt_of_le (by decide) hn), rfl, ⟨(Nat.lt_of_lt_of_le (by decide) hn), rfl, ⟨(Nat.lt_of_lt_of_le (by decide) hn), rfl, ⟨(Nat.lt_of_lt_of_le (by decide) hn), rfl, ⟨(Nat.lt_of_lt_of_le (by decide) hn), rfl, (((h).2 c18_2)).1, ⟨((((h).2 c18_2)).2).1, ⟨(Nat.lt_of_lt_of_le (by decide) hn), rfl, (((((h).2 c18_2)).2).2).1, (have h := (((((h).2 c18_2)).2).2).2; ⟨(Nat.lt_of_lt_of_le (by decide) hn), rfl, (((h).2 _ (z_ic (h).1))).1, ((((h).2 _ (z_ic (h).1))).2).1, (have h := ((((h).2 _ (z_ic (h).1))).2).2; ⟨(h).1, (h).2⟩)⟩)⟩⟩⟩⟩⟩⟩⟩⟩)
set_option maxRecDepth 100000 in
theorem zk_MMmeant {l : Launch} {E : jE} {n : Nat} (hn : 142 ≤ n) : zHas l E jcl jtb lw_tbl zsh n (y_MM_meant, false, 2, 11, { frames := 8, cells := 0, slots := 0, locals := 210 }, zc_MMmeant) := by
  refine ⟨⟨rfl, rfl, ⟨show 1 ≤ 2 by decide, m_MM_meant, i_MM_meant, e_MM_meant, fun _ => ⟨_, rfl, rfl⟩⟩⟩, ?_⟩
  rintro vz W po hO hW ⟨i, T, h, rfl, hq, hp⟩
  refine zmet (m := zm_MMmeant) rfl (by decide) (fun _ _ => jtF_ok) lo_MM ao_ZMMmeant jC (fun q h => by cases h) (aAllc (fun G h => by obtain rfl := Option.some.inj h; exact ql_MM_295) (fun q h => by cases h)) (aAllc (zk_MTund hn) (fun q h => by cases h)) (Nat.le_of_ble_eq_true rfl) hO hW (2700000) ?_
  have hh := hq.1
  obtain ⟨w1, w2, w3, w4⟩ := hq.2.2
  have by0 : ∀ j, 0 ≤ j → j < W.2.1 138 i - W.2.1 137 i → 0 ≤ W.2.1 88 (W.2.1 137 i + j) ∧ W.2.1 88 (W.2.1 137 i + j) ≤ 127 := fun j j0 j1 => w4 _ (by omega) (by omega)
  have pre : ∀ V, zFr [] [91] W V → rGd (zQ V) ∧ zMk V ∧ (0 ≤ V.1 90 26 ∧ V.1 90 26 ≤ 15) ∧ (V.1 90 28 ≤ 50000 ∧ V.1 90 29 ≤ 50000) ∧ hqE (zLg (zQ V)) (V.2.1 113) 0 (V.1 90 33) ∧ V.1 90 33 ≤ 2048 ∧ (0 ≤ (0 : Int) ∧ (0 : Int) ≤ W.2.1 138 i - W.2.1 137 i ∧ W.2.1 138 i - W.2.1 137 i ≤ 65536) := by
    intro V hV
    have u := zHe_u (zHe_fr hV (by decide) (by decide) hh)
    exact ⟨u.1, u.2.1, u.2.2.1, u.2.2.2.1, u.2.2.2.2.1, u.2.2.2.2.2, by omega⟩
  have fin : ∀ (V U : zW) (r : Int), zFr [] [91] W V → (∀ t, 0 ≤ t → t < W.2.1 138 i - W.2.1 137 i → V.2.1 91 t = W.2.1 88 (W.2.1 137 i + t)) → (zUn (zQ V) (zTx V 0) (W.2.1 138 i - W.2.1 137 i - 0) r ∧ zSq V U) → xMe (zQ W) (zWw W i) r ∧ zHe U T h ∧ zFr [(90, 36)] [91, 110, 111, 112, 115] W U ∧ zQ U = zQ W := by
    intro V U r hV hT hr
    have hv := zHe_fr hV (by decide) (by decide) hh
    have hu := zHe_sq hr.2 hv
    have eq : zQ V = zQ W := (zHe_q hv).trans (zHe_q hh).symm
    refine ⟨⟨zTx V 0, fun j j0 j1 => ?_, ?_⟩, hu, zFr_t (zFr_w hV (by decide) (by decide)) (zFr_w hr.2.2 (by decide) (by decide)), (zHe_q hu).trans (zHe_q hh).symm⟩
    · show V.2.1 91 (0 + j) = _
      rw [Int.zero_add]
      exact hT j j0 j1
    · have := hr.1
      rw [Int.sub_zero, eq] at this
      exact this
  have lp : ∀ (m K : Nat) (j : Int) (V : zW), 40 * m + 60 ≤ K → W.2.1 138 i - W.2.1 137 i - j ≤ m → 0 ≤ j → j ≤ W.2.1 138 i - W.2.1 137 i → zFr [] [91] W V → (∀ t, 0 ≤ t → t < j → V.2.1 91 t = W.2.1 88 (W.2.1 137 i + t)) → zwp jtb zsh n zm_MMmeant po K (lGo ak_ZMMmeant 16) 16 [some (.inr (.inr (some (.inl 87)))), some (.inl i), some (.inl (W.2.1 138 i - W.2.1 137 i)), some (.inl j)] [] V := by
    intro m
    induction m with
    | zero =>
      intro K j V hK hm j0 j1 hV hT
      have c18 : W.2.1 138 i - W.2.1 137 i ≤ j := by omega
      exact zp_MMmeant_16 (by omega) hn ⟨fun _ => ⟨pre V hV, fun r56 W56 hr56 => hp _ _ (fin V _ _ hV (fun t t0 t1 => hT t t0 (by omega)) hr56)⟩, fun z => absurd c18 z⟩
    | succ m ih =>
      intro K j V hK hm j0 j1 hV hT
      exact zp_MMmeant_16 (by omega) hn ⟨fun c18 => ⟨(pre V hV), fun r56 W56 hr56 => (hp _ _ (fin V _ _ hV (fun t t0 t1 => hT t t0 (by omega)) hr56))⟩, fun c18 => ⟨hq.2.1, ⟨(by rw [zFr_r hV 137]; omega), ⟨(by rw [zFr_r hV 137]; omega), ⟨(by have := by0 j (by omega) (by omega); rw [zFr_r hV 88, zFr_r hV 137]; omega), fun t0 e0 => ⟨(by omega), (by have := by0 j (by omega) (by omega); rw [zFr_r hV 88, zFr_r hV 137] at e0; omega), ⟨(by omega), (ih _ (j + 1) (zuR V 91 j t0) (by omega) (by omega) (by omega) (by omega) (zFr_R hV (by decide)) (fun s s0 s1 => by show zuI (V.2.1 91) j _ s = _; by_cases ct : s = j; (rw [ct, zuI_s, e0, zFr_r hV 88, zFr_r hV 137]); (rw [zuI_n ct]; exact hT s s0 (by omega))))⟩⟩⟩⟩⟩⟩⟩
  exact zp_MMmeant_0 (by omega) hn ⟨hq.2.1, ⟨hq.2.1, ⟨(by have := hq.2.2; omega), (lp 65536 _ 0 W (by omega) (by omega) (by omega) (by omega) zFr_0 (fun t t0 t1 => by omega))⟩⟩⟩
end
section
/-! the reference: play -/
/-- words are played, so many from the i-th on: the tree, the node, 1 at a fault -/
noncomputable def xPy (wd : Int → (Int → Int) × Int) : Nat → Int → xT → Int → xT → Int → Int → Prop
  | 0, _, T, h, T', h', e => T' = T ∧ h' = h ∧ e = 0
  | n + 1, i, T, h, T', h', e => ∃ r, xMe (xPo T.1 T.2.2.1 T.2.2.2.1 h).1 (wd i) r ∧ ((r < 0 ∧ T' = T ∧ h' = h ∧ e = 1) ∨ (0 ≤ r ∧ (xPl T h r).2.2 = 1 ∧ T' = (xPl T h r).1 ∧ h' = (xPl T h r).2.1 ∧ e = 1) ∨ (0 ≤ r ∧ ¬ (xPl T h r).2.2 = 1 ∧ xPy wd n (i + 1) (xPl T h r).1 (xPl T h r).2.1 T' h' e))
theorem xPy_0 {wd : Int → (Int → Int) × Int} {c i : Int} {T : xT} {h : Int} (hi : c ≤ i) : xPy wd (c - i).toNat i T h T h 0 := by
  rw [show (c - i).toNat = 0 by omega]
  exact ⟨rfl, rfl, rfl⟩
theorem xPy_b {wd : Int → (Int → Int) × Int} {c i r : Int} {T : xT} {h : Int} (hi : ¬ c ≤ i) (hs : xMe (xPo T.1 T.2.2.1 T.2.2.2.1 h).1 (wd i) r) (hr : r < 0) : xPy wd (c - i).toNat i T h T h 1 := by
  obtain ⟨m, hm⟩ : ∃ m, (c - i).toNat = m + 1 := ⟨(c - i).toNat - 1, by omega⟩
  rw [hm]
  exact ⟨r, hs, Or.inl ⟨hr, rfl, rfl, rfl⟩⟩
theorem xPy_f {wd : Int → (Int → Int) × Int} {c i r : Int} {T : xT} {h : Int} (hi : ¬ c ≤ i) (hs : xMe (xPo T.1 T.2.2.1 T.2.2.2.1 h).1 (wd i) r) (hr : 0 ≤ r) (hf : (xPl T h r).2.2 = 1) : xPy wd (c - i).toNat i T h (xPl T h r).1 (xPl T h r).2.1 1 := by
  obtain ⟨m, hm⟩ : ∃ m, (c - i).toNat = m + 1 := ⟨(c - i).toNat - 1, by omega⟩
  rw [hm]
  exact ⟨r, hs, Or.inr (Or.inl ⟨hr, hf, rfl, rfl, rfl⟩)⟩
theorem xPy_n {wd : Int → (Int → Int) × Int} {c i r : Int} {T T' : xT} {h h' e : Int} (hi : ¬ c ≤ i) (hs : xMe (xPo T.1 T.2.2.1 T.2.2.2.1 h).1 (wd i) r) (hr : 0 ≤ r) (hf : ¬ (xPl T h r).2.2 = 1) (hp : xPy wd (c - (i + 1)).toNat (i + 1) (xPl T h r).1 (xPl T h r).2.1 T' h' e) : xPy wd (c - i).toNat i T h T' h' e := by
  obtain ⟨m, hm⟩ : ∃ m, (c - i).toNat = m + 1 := ⟨(c - i).toNat - 1, by omega⟩
  rw [show (c - (i + 1)).toNat = m by omega] at hp
  rw [hm]
  exact ⟨r, hs, Or.inr (Or.inr ⟨hr, hf, hp⟩)⟩
theorem xMe_l {q : rQ} {w : (Int → Int) × Int} {r : Int} (h : xMe q w r) (hr : 0 ≤ r) : zLg q r := by
  obtain ⟨X, -, h2⟩ := h
  rcases h2 with h2 | h2
  · exact h2.2.1
  · omega
noncomputable def y_MM_play : jY := (⟨"ChessHouseModel", "play", "()V"⟩, prog_15_method_35_code, 4, none)
theorem m_MM_play : jmth lw_tbl y_MM_play 0 := ⟨jTA_in (wi := 2780) (jtF_ok rfl) rfl, jTA_in (wi := 314) (jtF_ok rfl) rfl, by decide, by decide, by decide +kernel⟩
theorem i_MM_play : Jvm.Cond.instanceMethod y_MM_play.1 ∈ jTA lw_tbl := jTA_in (wi := 2779) (jtF_ok rfl) rfl
theorem e_MM_play : Jvm.Cond.selects y_MM_play.1.cls y_MM_play.1 y_MM_play.1 ∈ jTA lw_tbl := jTA_in (wi := 210) (jtF_ok rfl) rfl
noncomputable def ak_ZMMplay : List jI := [(.iconst 1, 1, (0, 0, 0, 1, 0)), (.istore_n 1, 1, (1, 0, 0, 0, 0)), (.iload_n 1, 1, (1, 0, 0, 0, 0)), (.aload_n 0, 1, (0, 0, 0, 0, 0)), (.getfield 108, 3, (11, 13, 2315, 0, 0)), (.if_icmp .ge 64, 3, (71, 0, 0, 0, 0)), (.aload_n 0, 1, (0, 0, 0, 0, 0)), (.iload_n 1, 1, (1, 0, 0, 0, 0)), (.invokevirtual 299, 3, (0, 0, 2781, 0, 0)), (.istore_n 2, 1, (2, 0, 0, 0, 0)), (.iload_n 2, 1, (2, 0, 0, 0, 0)), (.ifCond .ge 21, 3, (38, 0, 0, 0, 0)), (.aload_n 0, 1, (0, 0, 0, 0, 0)), (.iload_n 2, 1, (2, 0, 0, 0, 0)), (.bipush (-2), 2, (0, 0, 0, (-2), 0)), (.if_icmp .ne 7, 3, (31, 0, 0, 0, 0)), (.iconst 3, 1, (0, 0, 0, 3, 0)), (.goto 4, 3, (32, 0, 0, 0, 0)), (.iconst 2, 1, (0, 0, 0, 2, 0)), (.iload_n 1, 1, (1, 0, 0, 0, 0)), (.iconst (-1), 1, (0, 0, 0, (-1), 0)), (.invokevirtual 100, 3, (1, 0, 2395, 0, 0)), (.return_, 1, (0, 0, 0, 0, 0)), (.aload_n 0, 1, (0, 0, 0, 0, 0)), (.getfield 20, 3, (11, 5, 2307, 0, 0)), (.iload_n 2, 1, (2, 0, 0, 0, 0)), (.invokevirtual 303, 3, (2, 0, 2786, 0, 0)), (.istore_n 3, 1, (3, 0, 0, 0, 0)), (.aload_n 0, 1, (0, 0, 0, 0, 0)), (.getfield 20, 3, (11, 5, 2307, 0, 0)), (.getfield 306, 3, (12, 0, 2010, 0, 0)), (.ifCond .le 11, 3, (65, 0, 0, 0, 0)), (.aload_n 0, 1, (0, 0, 0, 0, 0)), (.iconst 4, 1, (0, 0, 0, 4, 0)), (.iload_n 1, 1, (1, 0, 0, 0, 0)), (.iconst (-1), 1, (0, 0, 0, (-1), 0)), (.invokevirtual 100, 3, (1, 0, 2395, 0, 0)), (.return_, 1, (0, 0, 0, 0, 0)), (.iinc 1 1, 3, (0, 0, 0, 1, 0)), (.goto (-66), 3, (2, 0, 0, 0, 0)), (.aload_n 0, 1, (0, 0, 0, 0, 0)), (.aload_n 0, 1, (0, 0, 0, 0, 0)), (.getfield 20, 3, (11, 5, 2307, 0, 0)), (.getfield 226, 3, (12, 6, 2021, 0, 0)), (.i2l, 1, (0, 0, 0, 0, 0)), (.invokevirtual 210, 3, (3, 0, 2526, 0, 0)), (.return_, 1, (0, 0, 0, 0, 0))]
theorem ao_ZMMplay : jokLG jtF lk_MM "ChessHouseModel" jcl jtb 4 prog_15_method_35_code 0 ak_ZMMplay = true := by decide +kernel
noncomputable def zm_MMplay : zM := (none, { frames := 9, cells := 0, slots := 0, locals := 233 }, ([(299, 2781, 0), (100, 2395, 1), (303, 2786, 2), (210, 2526, 3)], []), [(y_MM_meant, false, 2, 11, { frames := 8, cells := 0, slots := 0, locals := 210 }, zc_MMmeant), (y_MM_fault2, false, 4, 11, { frames := 3, cells := 0, slots := 0, locals := 69 }, zc_MMfault3), (y_MT_add, false, 2, 12, { frames := 7, cells := 0, slots := 0, locals := 181 }, zc_MTaddg), (y_MM_answer, false, 2, 11, { frames := 3, cells := 0, slots := 0, locals := 69 }, zc_MManswer)], ak_ZMMplay)
noncomputable def zc_MMplay (vals : List zv) (W : zW) (post : zPo) : Prop := ∃ T : xT, ∃ h : Int, vals = [.inr (.inr (some (.inl 87)))] ∧ (zRd W T h ∧ (W.1 87 13 ≤ 32768) ∧ ∀ i, 1 ≤ i → i < W.1 87 13 → zWd W i) ∧ ∀ V : zW, (zDn [(87, 3), (87, 12), (90, 0), (90, 6), (90, 25), (90, 26), (90, 27), (90, 28), (90, 29), (90, 33), (90, 36)] [89, 91, 93, 94, 95, 96, 97, 98, 100, 110, 111, 112, 113, 114, 115] W V ∧ ∃ T2 h2 e, xPy (zWw W) (W.1 87 13 - 1).toNat 1 T h T2 h2 e ∧ V.1 87 12 = W.1 87 12 + e ∧ zHe V T2 h2) → post none V
set_option maxRecDepth 8000 in
theorem zp_MMplay_0 {n K : Nat} {W : zW} {post : zPo} {u1 u2 u3 : Option zv} (hK : 2 ≤ K) (hn : 142 ≤ n) (h : zwp jtb zsh n zm_MMplay post (K - 2) (lGo ak_ZMMplay 2) 2 [some (.inr (.inr (some (.inl 87)))), some (.inl (1)), u2, u3] [] W) : zwp jtb zsh n zm_MMplay post K (lGo ak_ZMMplay 0) 0 [some (.inr (.inr (some (.inl 87)))), u1, u2, u3] [] W := by
  obtain ⟨kk__, rfl⟩ : ∃ kk__, K = kk__ + 2 := ⟨K - 2, by omega⟩
  exact (show zwp jtb zsh n zm_MMplay post (kk__ + 0) (lGo ak_ZMMplay 2) 2 [some (.inr (.inr (some (.inl 87)))), some (.inl (1)), u2, u3] [] W from h)
set_option maxRecDepth 8000 in
theorem zp_MMplay_2 {n K : Nat} {V : zW} {post : zPo} {i : Int} {u2 u3 : Option zv} (hK : 25 ≤ K) (hn : 142 ≤ n) (h : ((V.1 87 13) ≤ i → (zOg V ∧ lRg (((lI (V.1 90 6)).toInt64 : Int64) : Int64).toInt) ∧ ∀ W80 : zW, (zPt V W80) → post none W80) ∧ (¬ (V.1 87 13) ≤ i → ∃ T12 : xT, ∃ h12 : Int, (zHe V T12 h12 ∧ zWd V i) ∧ ∀ r12 : Int, ∀ W12 : zW, (xMe (zQ V) (zWw V i) r12 ∧ zHe W12 T12 h12 ∧ zFr [(90, 36)] [91, 110, 111, 112, 115] V W12 ∧ zQ W12 = zQ V) → (0 ≤ r12 → ∃ T43 : xT, ∃ h43 : Int, (zHe W12 T43 h43 ∧ zLg (zQ W12) r12) ∧ ∀ r43 : Int, ∀ W43 : zW, (zHe W43 (xPl T43 h43 r12).1 (xPl T43 h43 r12).2.1 ∧ (0 < W43.1 90 0 ↔ (xPl T43 h43 r12).2.2 = 1) ∧ zFo (W12.1 90 5) W12 W43 ∧ zFr [(90, 0), (90, 6), (90, 25), (90, 26), (90, 27), (90, 28), (90, 29), (90, 33)] [93, 94, 95, 96, 97, 98, 100, 110, 111, 112, 113, 114] W12 W43) → ((W43.1 90 0) ≤ 0 → (-2147483648 ≤ i + 1 ∧ i + 1 ≤ 2147483647) ∧ zwp jtb zsh n zm_MMplay post (K - 21) (lGo ak_ZMMplay 2) 2 [some (.inr (.inr (some (.inl 87)))), some (.inl (i + 1)), some (.inl (r12)), some (.inl (r43))] [] W43) ∧ (¬ (W43.1 90 0) ≤ 0 → (zOg W43 ∧ lRg (4 : Int) ∧ lRg i ∧ lRg (-1 : Int) ∧ W43.1 87 12 ≤ 2147483646 ∧ 0 ≤ W43.1 87 12) ∧ ∀ W61 : zW, (zFt W43 W61) → post none W61)) ∧ (¬ 0 ≤ r12 → (¬ r12 = (-2) → (zOg W12 ∧ lRg (2 : Int) ∧ lRg i ∧ lRg (-1 : Int) ∧ W12.1 87 12 ≤ 2147483646 ∧ 0 ≤ W12.1 87 12) ∧ ∀ W34 : zW, (zFt W12 W34) → post none W34) ∧ (r12 = (-2) → (zOg W12 ∧ lRg (3 : Int) ∧ lRg i ∧ lRg (-1 : Int) ∧ W12.1 87 12 ≤ 2147483646 ∧ 0 ≤ W12.1 87 12) ∧ ∀ W34 : zW, (zFt W12 W34) → post none W34)))) : zwp jtb zsh n zm_MMplay post K (lGo ak_ZMMplay 2) 2 [some (.inr (.inr (some (.inl 87)))), some (.inl (i)), u2, u3] [] V := by
  obtain ⟨kk__, rfl⟩ : ∃ kk__, K = kk__ + 25 := ⟨K - 25, by omega⟩
  exact (show 87 < n ∧ 11 = 11 ∧ ((V.1 87 13) ≤ i → 87 < n ∧ 11 = 11 ∧ 90 < n ∧ 12 = 12 ∧ 3 = 3 ∧ false = false ∧ jin3 210 2526 3 zm_MMplay.2.2.1.1 = true ∧ lRm zm_MMplay.2.1 { frames := 3, cells := 0, slots := 0, locals := 69 } 3 = true ∧ Nat.ble 2 2 = true ∧ Nat.ble 0 8 = true ∧ 87 < n ∧ 11 = 11 ∧ Nat.ble 1000 11 = false ∧ zc_MManswer [.inr (.inr (some (.inl 87))), .inr (.inl ((lI (V.1 90 6)).toInt64))] V (fun vv__ WW__ => zwp jtb zsh n zm_MMplay post (kk__ + 15) (lGo ak_ZMMplay 83) 83 [some (.inr (.inr (some (.inl 87)))), some (.inl (i)), u2, u3] (vv__.toList ++ []) WW__)) ∧ (¬ (V.1 87 13) ≤ i → 3 = 3 ∧ false = false ∧ jin3 299 2781 0 zm_MMplay.2.2.1.1 = true ∧ lRm zm_MMplay.2.1 { frames := 8, cells := 0, slots := 0, locals := 210 } 4 = true ∧ Nat.ble 2 2 = true ∧ Nat.ble 0 8 = true ∧ 87 < n ∧ 11 = 11 ∧ Nat.ble 1000 11 = false ∧ zc_MMmeant [.inr (.inr (some (.inl 87))), .inl (i)] V (fun vv__ WW__ => zwp jtb zsh n zm_MMplay post (kk__ + 18) (lGo ak_ZMMplay 15) 15 [some (.inr (.inr (some (.inl 87)))), some (.inl (i)), u2, u3] (vv__.toList ++ []) WW__)) from ⟨(Nat.lt_of_lt_of_le (by decide) hn), rfl, ⟨fun c7_3 => ⟨(Nat.lt_of_lt_of_le (by decide) hn), rfl, ⟨(Nat.lt_of_lt_of_le (by decide) hn), rfl, ⟨rfl, rfl, rfl, rfl, rfl, rfl, (Nat.lt_of_lt_of_le (by decide) hn), rfl, rfl, (lI (V.1 90 6)).toInt64, rfl, (((h).1 c7_3)).1, fun W80 hr80 => (show 1 = 1 ∧ (none : Option FieldType) = none ∧ post none W80 from (have h := ((((h).1 c7_3)).2 W80 hr80); ⟨rfl, rfl, h⟩))⟩⟩⟩, fun c7_3 => (Exists.elim (((h).2 c7_3)) (fun T12 gx12_0 => Exists.elim gx12_0  (fun h12 gh12 => ⟨rfl, rfl, rfl, rfl, rfl, rfl, (Nat.lt_of_lt_of_le (by decide) hn), rfl, rfl, i, T12, h12, rfl, (gh12).1, fun r12 W12 hr12 => (show (0 ≤ r12 → 87 < n ∧ 11 = 11 ∧ 3 = 3 ∧ false = false ∧ jin3 303 2786 2 zm_MMplay.2.2.1.1 = true ∧ lRm zm_MMplay.2.1 { frames := 7, cells := 0, slots := 0, locals := 181 } 4 = true ∧ Nat.ble 2 2 = true ∧ Nat.ble 0 8 = true ∧ 90 < n ∧ 12 = 12 ∧ Nat.ble 1000 12 = false ∧ zc_MTaddg [.inr (.inr (some (.inl 90))), .inl (r12)] W12 (fun vv__ WW__ => zwp jtb zsh n zm_MMplay post (kk__ + 11) (lGo ak_ZMMplay 46) 46 [some (.inr (.inr (some (.inl 87)))), some (.inl (i)), some (.inl (r12)), u3] (vv__.toList ++ []) WW__)) ∧ (¬ 0 ≤ r12 → (¬ r12 = (-2) → 3 = 3 ∧ false = false ∧ jin3 100 2395 1 zm_MMplay.2.2.1.1 = true ∧ lRm zm_MMplay.2.1 { frames := 3, cells := 0, slots := 0, locals := 69 } 4 = true ∧ Nat.ble 4 4 = true ∧ Nat.ble 0 8 = true ∧ 87 < n ∧ 11 = 11 ∧ Nat.ble 1000 11 = false ∧ zc_MMfault3 [.inr (.inr (some (.inl 87))), .inl (2), .inl (i), .inl (-1)] W12 (fun vv__ WW__ => zwp jtb zsh n zm_MMplay post (kk__ + 7) (lGo ak_ZMMplay 37) 37 [some (.inr (.inr (some (.inl 87)))), some (.inl (i)), some (.inl (r12)), u3] (vv__.toList ++ []) WW__)) ∧ (r12 = (-2) → 3 = 3 ∧ false = false ∧ jin3 100 2395 1 zm_MMplay.2.2.1.1 = true ∧ lRm zm_MMplay.2.1 { frames := 3, cells := 0, slots := 0, locals := 69 } 4 = true ∧ Nat.ble 4 4 = true ∧ Nat.ble 0 8 = true ∧ 87 < n ∧ 11 = 11 ∧ Nat.ble 1000 11 = false ∧ zc_MMfault3 [.inr (.inr (some (.inl 87))), .inl (3), .inl (i), .inl (-1)] W12 (fun vv__ WW__ => zwp jtb zsh n zm_MMplay post (kk__ + 6) (lGo ak_ZMMplay 37) 37 [some (.inr (.inr (some (.inl 87)))), some (.inl (i)), some (.inl (r12)), u3] (vv__.toList ++ []) WW__))) from ⟨fun c17_9 => (have h := ((((gh12).2 r12 W12 hr12)).1 c17_9); ⟨(Nat.lt_of_lt_of_le (by decide) hn), rfl, (Exists.elim (h) (fun T43 gx43_0 => Exists.elim gx43_0  (fun h43 gh43 => ⟨rfl, rfl, rfl, rfl, rfl, rfl, (Nat.lt_of_lt_of_le (by decide) hn), rfl, rfl, r12, T43, h43, rfl, (gh43).1, fun r43 W43 hr43 => (show 87 < n ∧ 11 = 11 ∧ 90 < n ∧ 12 = 12 ∧ ((W43.1 90 0) ≤ 0 → (-2147483648 ≤ i + 1 ∧ i + 1 ≤ 2147483647) ∧ zwp jtb zsh n zm_MMplay post (kk__ + 4) (lGo ak_ZMMplay 2) 2 [some (.inr (.inr (some (.inl 87)))), some (.inl (i + 1)), some (.inl (r12)), some (.inl (r43))] [] W43) ∧ (¬ (W43.1 90 0) ≤ 0 → 3 = 3 ∧ false = false ∧ jin3 100 2395 1 zm_MMplay.2.2.1.1 = true ∧ lRm zm_MMplay.2.1 { frames := 3, cells := 0, slots := 0, locals := 69 } 4 = true ∧ Nat.ble 4 4 = true ∧ Nat.ble 0 8 = true ∧ 87 < n ∧ 11 = 11 ∧ Nat.ble 1000 11 = false ∧ zc_MMfault3 [.inr (.inr (some (.inl 87))), .inl (4), .inl (i), .inl (-1)] W43 (fun vv__ WW__ => zwp jtb zsh n zm_MMplay post (kk__ + 1) (lGo ak_ZMMplay 64) 64 [some (.inr (.inr (some (.inl 87)))), some (.inl (i)), some (.inl (r12)), some (.inl (r43))] (vv__.toList ++ []) WW__)) from ⟨(Nat.lt_of_lt_of_le (by decide) hn), rfl, ⟨(Nat.lt_of_lt_of_le (by decide) hn), rfl, ⟨fun c54_18 => (have h := ((((gh43).2 r43 W43 hr43)).1 c54_18); ⟨(h).1, (h).2⟩), fun c54_18 => (have h := ((((gh43).2 r43 W43 hr43)).2 c54_18); ⟨rfl, rfl, rfl, rfl, rfl, rfl, (Nat.lt_of_lt_of_le (by decide) hn), rfl, rfl, 4, i, -1, rfl, (h).1, fun W61 hr61 => (show 1 = 1 ∧ (none : Option FieldType) = none ∧ post none W61 from ⟨rfl, rfl, ((h).2 W61 hr61)⟩)⟩)⟩⟩⟩)⟩)))⟩), fun c17_9 => (have h := ((((gh12).2 r12 W12 hr12)).2 c17_9); ⟨fun c24_13 => ⟨rfl, rfl, rfl, rfl, rfl, rfl, (Nat.lt_of_lt_of_le (by decide) hn), rfl, rfl, 2, i, -1, rfl, (((h).1 c24_13)).1, fun W34 hr34 => (show 1 = 1 ∧ (none : Option FieldType) = none ∧ post none W34 from (have h := ((((h).1 c24_13)).2 W34 hr34); ⟨rfl, rfl, h⟩))⟩, fun c24_13 => ⟨rfl, rfl, rfl, rfl, rfl, rfl, (Nat.lt_of_lt_of_le (by decide) hn), rfl, rfl, 3, i, -1, rfl, (((h).2 c24_13)).1, fun W34 hr34 => (show 1 = 1 ∧ (none : Option FieldType) = none ∧ post none W34 from (have h := ((((h).2 c24_13)).2 W34 hr34); ⟨rfl, rfl, h⟩))⟩⟩)⟩)⟩)))⟩⟩)
set_option maxRecDepth 100000 in
theorem zk_MMplay {l : Launch} {E : jE} {n : Nat} (hn : 142 ≤ n) : zHas l E jcl jtb lw_tbl zsh n (y_MM_play, false, 1, 11, { frames := 9, cells := 0, slots := 0, locals := 233 }, zc_MMplay) := by
  refine ⟨⟨rfl, rfl, ⟨show 1 ≤ 1 by decide, m_MM_play, i_MM_play, e_MM_play, fun _ => ⟨_, rfl, rfl⟩⟩⟩, ?_⟩
  rintro vz W po hO hW ⟨T, h, rfl, hq, hp⟩
  refine zmet (m := zm_MMplay) rfl (by decide) (fun _ _ => jtF_ok) lo_MM ao_ZMMplay jC (fun q h => by cases h) (aAllc (fun G h => by obtain rfl := Option.some.inj h; exact ql_MM_299) (aAllc (fun G h => by obtain rfl := Option.some.inj h; exact ql_MM_100) (aAllc (fun G h => by obtain rfl := Option.some.inj h; exact ql_MM_303) (aAllc (fun G h => by obtain rfl := Option.some.inj h; exact ql_MM_210) (fun q h => by cases h))))) (aAllc (zk_MMmeant hn) (aAllc (zk_MMfault3 hn) (aAllc (zk_MTaddg hn) (aAllc (zk_MManswer hn) (fun q h => by cases h))))) (Nat.le_of_ble_eq_true rfl) hO hW (1400000) ?_
  have hf0 := hq.1.2.2
  have hc0 := hq.2.1
  have lp : ∀ (m K : Nat) (i : Int) (V : zW) (T1 : xT) (h1 : Int) (u2 u3 : Option zv), 40 * m + 60 ≤ K → W.1 87 13 - i ≤ m → 1 ≤ i → zDn [(87, 3), (87, 12), (90, 0), (90, 6), (90, 25), (90, 26), (90, 27), (90, 28), (90, 29), (90, 33), (90, 36)] [89, 91, 93, 94, 95, 96, 97, 98, 100, 110, 111, 112, 113, 114, 115] W V → V.1 87 12 = W.1 87 12 → zHe V T1 h1 → (∀ T' h' e, xPy (zWw W) (W.1 87 13 - i).toNat i T1 h1 T' h' e → xPy (zWw W) (W.1 87 13 - 1).toNat 1 T h T' h' e) → zwp jtb zsh n zm_MMplay po K (lGo ak_ZMMplay 2) 2 [some (.inr (.inr (some (.inl 87)))), some (.inl i), u2, u3] [] V := by
    intro m
    induction m with
    | zero =>
      intro K i V T1 h1 u2 u3 hK hm i1 hD hF hS hc
      have c13 : V.1 87 13 = W.1 87 13 := zFr_f hD.1 87 13
      have c9 : V.1 87 13 ≤ i := by omega
      exact zp_MMplay_2 (by omega) hn ⟨fun c7 => ⟨⟨hD.2.1, z6_y (by unfold lRg; have := hS.2.2.2.1; have := hS.2.2.2.2.1; have := hS.2.2.1.1; omega)⟩, fun W80 hr80 => (hp _ ⟨⟨zFr_t hD.1 (zFr_w hr80.1 (by decide) (by decide)), hr80.2, zFo_fr hD.2.2 hr80.1 (by decide)⟩, T1, h1, 0, hc _ _ _ (xPy_0 (by omega)), by rw [zFr_f hr80.1 87 12]; omega, zHe_pt hr80 hS⟩)⟩, fun z => absurd c9 z⟩
    | succ m ih =>
      intro K i V T1 h1 u2 u3 hK hm i1 hD hF hS hc
      have e5 : V.1 90 5 = W.1 90 5 := zFr_f hD.1 90 5
      have c13 : V.1 87 13 = W.1 87 13 := zFr_f hD.1 87 13
      have eW := zWw_e (zFr_r hD.1 88) (zFr_r hD.1 137) (zFr_r hD.1 138)
      have sd : ∀ r, xMe (zQ V) (zWw V i) r → xMe (xPo T1.1 T1.2.2.1 T1.2.2.2.1 h1).1 (zWw W i) r := fun r z => by rw [zHe_q hS, eW.1] at z; exact z
      have wdV : ∀ i, 1 ≤ i → i < W.1 87 13 → zWd V i := fun i i1 i2 => eW.2 i (hq.2.2 i i1 i2)
      exact zp_MMplay_2 (by omega) hn ⟨fun c7 => ⟨⟨hD.2.1, z6_y (by unfold lRg; have := hS.2.2.2.1; have := hS.2.2.2.2.1; have := hS.2.2.1.1; omega)⟩, fun W80 hr80 => (hp _ ⟨⟨zFr_t hD.1 (zFr_w hr80.1 (by decide) (by decide)), hr80.2, zFo_fr hD.2.2 hr80.1 (by decide)⟩, T1, h1, 0, hc _ _ _ (xPy_0 (by omega)), by rw [zFr_f hr80.1 87 12]; omega, zHe_pt hr80 hS⟩)⟩, fun c7 => ⟨T1, h1, ⟨hS, wdV i (by omega) (by omega)⟩, fun r12 W12 hr12 => ⟨fun c17 => ⟨T1, h1, ⟨hr12.2.1, by rw [hr12.2.2.2]; exact xMe_l hr12.1 (by omega)⟩, fun r43 W43 hr43 => ⟨fun c54 => ⟨(by omega), (ih _ (i + 1) W43 (xPl T1 h1 r12).1 (xPl T1 h1 r12).2.1 _ _ (by omega) (by omega) (by omega) (show zDn [(87, 3), (87, 12), (90, 0), (90, 6), (90, 25), (90, 26), (90, 27), (90, 28), (90, 29), (90, 33), (90, 36)] [89, 91, 93, 94, 95, 96, 97, 98, 100, 110, 111, 112, 113, 114, 115] W W43 from ⟨zFr_t (zFr_t hD.1 (zFr_w hr12.2.2.1 (by decide) (by decide))) (zFr_w hr43.2.2.2 (by decide) (by decide)), zOg_e hD.2.1 (by rw [zFr_f hr43.2.2.2 87 3, zFr_f hr12.2.2.1 87 3]), zFo_t (zFo_fr hD.2.2 hr12.2.2.1 (by decide)) (by have z9 := hr43.2.2.1; rw [zFr_f hr12.2.2.1 90 5, e5] at z9; exact z9)⟩) (by rw [zFr_f hr43.2.2.2 87 12, zFr_f hr12.2.2.1 87 12]; exact hF) hr43.1 (fun _ _ _ z => hc _ _ _ (xPy_n (by omega) (sd _ hr12.1) c17 (fun z9 => absurd (hr43.2.1.mpr z9) (by omega)) z)))⟩, fun c54 => ⟨⟨(show zDn [(87, 3), (87, 12), (90, 0), (90, 6), (90, 25), (90, 26), (90, 27), (90, 28), (90, 29), (90, 33), (90, 36)] [89, 91, 93, 94, 95, 96, 97, 98, 100, 110, 111, 112, 113, 114, 115] W W43 from ⟨zFr_t (zFr_t hD.1 (zFr_w hr12.2.2.1 (by decide) (by decide))) (zFr_w hr43.2.2.2 (by decide) (by decide)), zOg_e hD.2.1 (by rw [zFr_f hr43.2.2.2 87 3, zFr_f hr12.2.2.1 87 3]), zFo_t (zFo_fr hD.2.2 hr12.2.2.1 (by decide)) (by have z9 := hr43.2.2.1; rw [zFr_f hr12.2.2.1 90 5, e5] at z9; exact z9)⟩).2.1, by unfold lRg; omega, by unfold lRg; omega, by unfold lRg; omega, by rw [zFr_f hr43.2.2.2 87 12, zFr_f hr12.2.2.1 87 12]; omega, by rw [zFr_f hr43.2.2.2 87 12, zFr_f hr12.2.2.1 87 12]; omega⟩, fun W61 hr61 => (hp _ ⟨⟨zFr_t (show zDn [(87, 3), (87, 12), (90, 0), (90, 6), (90, 25), (90, 26), (90, 27), (90, 28), (90, 29), (90, 33), (90, 36)] [89, 91, 93, 94, 95, 96, 97, 98, 100, 110, 111, 112, 113, 114, 115] W W43 from ⟨zFr_t (zFr_t hD.1 (zFr_w hr12.2.2.1 (by decide) (by decide))) (zFr_w hr43.2.2.2 (by decide) (by decide)), zOg_e hD.2.1 (by rw [zFr_f hr43.2.2.2 87 3, zFr_f hr12.2.2.1 87 3]), zFo_t (zFo_fr hD.2.2 hr12.2.2.1 (by decide)) (by have z9 := hr43.2.2.1; rw [zFr_f hr12.2.2.1 90 5, e5] at z9; exact z9)⟩).1 (zFr_w hr61.1 (by decide) (by decide)), hr61.2.1, zFo_fr (show zDn [(87, 3), (87, 12), (90, 0), (90, 6), (90, 25), (90, 26), (90, 27), (90, 28), (90, 29), (90, 33), (90, 36)] [89, 91, 93, 94, 95, 96, 97, 98, 100, 110, 111, 112, 113, 114, 115] W W43 from ⟨zFr_t (zFr_t hD.1 (zFr_w hr12.2.2.1 (by decide) (by decide))) (zFr_w hr43.2.2.2 (by decide) (by decide)), zOg_e hD.2.1 (by rw [zFr_f hr43.2.2.2 87 3, zFr_f hr12.2.2.1 87 3]), zFo_t (zFo_fr hD.2.2 hr12.2.2.1 (by decide)) (by have z9 := hr43.2.2.1; rw [zFr_f hr12.2.2.1 90 5, e5] at z9; exact z9)⟩).2.2 hr61.1 (by decide)⟩, _, _, 1, hc _ _ _ (xPy_f (by omega) (sd _ hr12.1) c17 (hr43.2.1.mp (by omega))), by rw [hr61.2.2, zFr_f hr43.2.2.2 87 12, zFr_f hr12.2.2.1 87 12]; omega, zHe_ft hr61 hr43.1⟩)⟩⟩⟩, fun c17 => ⟨fun c24 => ⟨⟨zOg_e hD.2.1 (zFr_f hr12.2.2.1 87 3), by unfold lRg; omega, by unfold lRg; omega, by unfold lRg; omega, by rw [zFr_f hr12.2.2.1 87 12]; omega, by rw [zFr_f hr12.2.2.1 87 12]; omega⟩, fun W34 hr34 => (hp _ ⟨⟨zFr_t (zFr_t hD.1 (zFr_w hr12.2.2.1 (by decide) (by decide))) (zFr_w hr34.1 (by decide) (by decide)), hr34.2.1, zFo_fr (zFo_fr hD.2.2 hr12.2.2.1 (by decide)) hr34.1 (by decide)⟩, T1, h1, 1, hc _ _ _ (xPy_b (by omega) (sd _ hr12.1) (by omega)), by rw [hr34.2.2, zFr_f hr12.2.2.1 87 12]; omega, zHe_ft hr34 hr12.2.1⟩)⟩, fun c24 => ⟨⟨zOg_e hD.2.1 (zFr_f hr12.2.2.1 87 3), by unfold lRg; omega, by unfold lRg; omega, by unfold lRg; omega, by rw [zFr_f hr12.2.2.1 87 12]; omega, by rw [zFr_f hr12.2.2.1 87 12]; omega⟩, fun W34 hr34 => (hp _ ⟨⟨zFr_t (zFr_t hD.1 (zFr_w hr12.2.2.1 (by decide) (by decide))) (zFr_w hr34.1 (by decide) (by decide)), hr34.2.1, zFo_fr (zFo_fr hD.2.2 hr12.2.2.1 (by decide)) hr34.1 (by decide)⟩, T1, h1, 1, hc _ _ _ (xPy_b (by omega) (sd _ hr12.1) (by omega)), by rw [hr34.2.2, zFr_f hr12.2.2.1 87 12]; omega, zHe_ft hr34 hr12.2.1⟩)⟩⟩⟩⟩⟩
  exact zp_MMplay_0 (by omega) hn (lp 32768 _ 1 W T h _ _ (by omega) (by omega) (by omega) ⟨zFr_0, hq.1.2.1, zFo_0⟩ rfl hq.1.1 (fun _ _ _ z => z))
end
