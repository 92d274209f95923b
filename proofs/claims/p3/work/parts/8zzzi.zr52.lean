section
/-! the reference, Board: may a position stand; the fault of its text -/
noncomputable def zQb (W : zW) : rQ := (zMb W, W.1 116 3, W.1 116 4, W.1 116 5)
noncomputable def zKb (W : zW) : Prop := (∀ i, 0 ≤ i → i ≤ 63 → 0 ≤ W.2.1 118 i ∧ W.2.1 118 i ≤ 15) ∧ (0 ≤ W.1 116 3 ∧ W.1 116 3 ≤ 1) ∧ (0 ≤ W.1 116 4 ∧ W.1 116 4 ≤ 15) ∧ (-1 ≤ W.1 116 5 ∧ W.1 116 5 ≤ 63)
noncomputable def y_MB_countOf : jY := (⟨"ChessHouseModel$Board", "countOf", "(I)I"⟩, prog_16_method_58_code, 4, (some .int))
theorem m_MB_countOf : jmth lw_tbl y_MB_countOf 1 := ⟨jTA_in (wi := 2465) (jtF_ok rfl) rfl, jTA_in (wi := 316) (jtF_ok rfl) rfl, by decide, by decide, by decide +kernel⟩
theorem i_MB_countOf : Jvm.Cond.instanceMethod y_MB_countOf.1 ∈ jTA lw_tbl := jTA_in (wi := 2464) (jtF_ok rfl) rfl
theorem e_MB_countOf : Jvm.Cond.selects y_MB_countOf.1.cls y_MB_countOf.1 y_MB_countOf.1 ∈ jTA lw_tbl := jTA_in (wi := 144) (jtF_ok rfl) rfl
noncomputable def ak_ZMBcnt : List jI := [(.iconst 0, 1, (0, 0, 0, 0, 0)), (.istore_n 2, 1, (2, 0, 0, 0, 0)), (.iconst 0, 1, (0, 0, 0, 0, 0)), (.istore_n 3, 1, (3, 0, 0, 0, 0)), (.iload_n 3, 1, (3, 0, 0, 0, 0)), (.bipush 64, 2, (0, 0, 0, 64, 0)), (.if_icmp .ge 27, 3, (34, 0, 0, 0, 0)), (.aload_n 0, 1, (0, 0, 0, 0, 0)), (.getfield 16, 3, (13, 2, 2174, 0, 0)), (.iload_n 3, 1, (3, 0, 0, 0, 0)), (.iaload, 1, (0, 0, 0, 0, 0)), (.iload_n 1, 1, (1, 0, 0, 0, 0)), (.if_icmp .ne 9, 3, (26, 0, 0, 0, 0)), (.iload_n 2, 1, (2, 0, 0, 0, 0)), (.iconst 1, 1, (0, 0, 0, 1, 0)), (.iadd, 1, (0, 0, 0, 0, 0)), (.goto 4, 3, (27, 0, 0, 0, 0)), (.iload_n 2, 1, (2, 0, 0, 0, 0)), (.istore_n 2, 1, (2, 0, 0, 0, 0)), (.iinc 3 1, 3, (0, 0, 0, 1, 0)), (.goto (-27), 3, (4, 0, 0, 0, 0)), (.iload_n 2, 1, (2, 0, 0, 0, 0)), (.ireturn, 1, (0, 0, 0, 0, 0))]
theorem ao_ZMBcnt : jokLG jtF lk_MB "ChessHouseModel$Board" jcl jtb 4 prog_16_method_58_code 0 ak_ZMBcnt = true := by decide +kernel
noncomputable def zm_MBcnt : zM := (some .int, { frames := 0, cells := 0, slots := 0, locals := 0 }, ([], []), [], ak_ZMBcnt)
noncomputable def zc_MBcnt (vals : List zv) (W : zW) (post : zPo) : Prop := ∃ x : Int, vals = [.inr (.inr (some (.inl 116))), .inl (x)] ∧ (True) ∧ ∀ r : Int, (r = xCt (W.2.1 118) x 64) → post (some (.inl r)) W
set_option maxRecDepth 8000 in
theorem zp_MBcnt_0 {n K : Nat} {W : zW} {post : zPo} {x : Int} {u2 u3 : Option zv} (hK : 4 ≤ K) (hn : 142 ≤ n) (h : zwp jtb zsh n zm_MBcnt post (K - 4) (lGo ak_ZMBcnt 4) 4 [some (.inr (.inr (some (.inl 116)))), some (.inl (x)), some (.inl (0)), some (.inl (0))] [] W) : zwp jtb zsh n zm_MBcnt post K (lGo ak_ZMBcnt 0) 0 [some (.inr (.inr (some (.inl 116)))), some (.inl (x)), u2, u3] [] W := by
  obtain ⟨kk__, rfl⟩ : ∃ kk__, K = kk__ + 4 := ⟨K - 4, by omega⟩
  exact (show zwp jtb zsh n zm_MBcnt post (kk__ + 0) (lGo ak_ZMBcnt 4) 4 [some (.inr (.inr (some (.inl 116)))), some (.inl (x)), some (.inl (0)), some (.inl (0))] [] W from h)
set_option maxRecDepth 8000 in
theorem zp_MBcnt_4 {n K : Nat} {W : zW} {post : zPo} {x v i : Int}  (hK : 16 ≤ K) (hn : 142 ≤ n) (h : (64 ≤ i → post (some (.inl (v))) W) ∧ (¬ 64 ≤ i → (0 ≤ i ∧ i < 64) ∧ (¬ (W.2.1 118 i) = x → (-2147483648 ≤ i + 1 ∧ i + 1 ≤ 2147483647) ∧ zwp jtb zsh n zm_MBcnt post (K - 13) (lGo ak_ZMBcnt 4) 4 [some (.inr (.inr (some (.inl 116)))), some (.inl (x)), some (.inl (v)), some (.inl (i + 1))] [] W) ∧ ((W.2.1 118 i) = x → (-2147483648 ≤ v + 1 ∧ v + 1 ≤ 2147483647) ∧ (-2147483648 ≤ i + 1 ∧ i + 1 ≤ 2147483647) ∧ zwp jtb zsh n zm_MBcnt post (K - 16) (lGo ak_ZMBcnt 4) 4 [some (.inr (.inr (some (.inl 116)))), some (.inl (x)), some (.inl (v + 1)), some (.inl (i + 1))] [] W))) : zwp jtb zsh n zm_MBcnt post K (lGo ak_ZMBcnt 4) 4 [some (.inr (.inr (some (.inl 116)))), some (.inl (x)), some (.inl (v)), some (.inl (i))] [] W := by
  obtain ⟨kk__, rfl⟩ : ∃ kk__, K = kk__ + 16 := ⟨K - 16, by omega⟩
  exact (show (64 ≤ i → 1 = 1 ∧ True ∧ post (some (.inl (v))) W) ∧ (¬ 64 ≤ i → 116 < n ∧ 13 = 13 ∧ 118 < n ∧ FieldType.int = FieldType.int ∧ (0 ≤ i ∧ i < 64) ∧ (¬ (W.2.1 118 i) = x → (-2147483648 ≤ i + 1 ∧ i + 1 ≤ 2147483647) ∧ zwp jtb zsh n zm_MBcnt post (kk__ + 3) (lGo ak_ZMBcnt 4) 4 [some (.inr (.inr (some (.inl 116)))), some (.inl (x)), some (.inl (v)), some (.inl (i + 1))] [] W) ∧ ((W.2.1 118 i) = x → (-2147483648 ≤ v + 1 ∧ v + 1 ≤ 2147483647) ∧ (-2147483648 ≤ i + 1 ∧ i + 1 ≤ 2147483647) ∧ zwp jtb zsh n zm_MBcnt post (kk__ + 0) (lGo ak_ZMBcnt 4) 4 [some (.inr (.inr (some (.inl 116)))), some (.inl (x)), some (.inl (v + 1)), some (.inl (i + 1))] [] W)) from ⟨fun c7_2 => ⟨rfl, trivial, ((h).1 c7_2)⟩, fun c7_2 => ⟨(Nat.lt_of_lt_of_le (by decide) hn), rfl, ⟨(Nat.lt_of_lt_of_le (by decide) hn), rfl, (((h).2 c7_2)).1, ⟨fun c17_8 => (have h := (((((h).2 c7_2)).2).1 c17_8); ⟨(h).1, (h).2⟩), fun c17_8 => (have h := (((((h).2 c7_2)).2).2 c17_8); ⟨(h).1, ⟨((h).2).1, ((h).2).2⟩⟩)⟩⟩⟩⟩)
theorem zk_MBcnt {l : Launch} {E : jE} {n : Nat} (hn : 142 ≤ n) : zHas l E jcl jtb lw_tbl zsh n (y_MB_countOf, false, 2, 13, { frames := 0, cells := 0, slots := 0, locals := 0 }, zc_MBcnt) := by
  refine ⟨⟨rfl, rfl, ⟨show 1 ≤ 2 by decide, m_MB_countOf, i_MB_countOf, e_MB_countOf, fun _ => ⟨_, rfl, rfl⟩⟩⟩, ?_⟩
  rintro vz W po hO hW ⟨x, rfl, hq, hp⟩
  refine zmet (m := zm_MBcnt) rfl (by decide) (fun _ _ => jtF_ok) lo_MB ao_ZMBcnt jC (fun q h => by cases h) (fun q h => by cases h) (fun q h => by cases h) (Nat.le_of_ble_eq_true rfl) hO hW (4000) ?_
  have lp : ∀ (m k K : Nat) (v i : Int), 40 * m + 40 ≤ K → 65 ≤ m + k ∧ k ≤ 64 → i = k → v = xCt (W.2.1 118) x k → (0 ≤ v ∧ v ≤ k) → zwp jtb zsh n zm_MBcnt po K (lGo ak_ZMBcnt 4) 4 [some (.inr (.inr (some (.inl 116)))), some (.inl x), some (.inl v), some (.inl i)] [] W := by
    intro m
    induction m with
    | zero => intro k K v i hK hk; omega
    | succ m ih =>
      intro k K v i hK hk ei ev hv
      exact zp_MBcnt_4 (by omega) hn ⟨fun c7 => (hp _ (by rw [ev, show k = 64 by omega])), fun c7 => ⟨(by omega), ⟨fun c17 => ⟨(by omega), (ih (k + 1) _ v (i + 1) (by omega) (by omega) (by omega) (by show _ = xCt (W.2.1 118) x k + (if W.2.1 118 (k : Int) = x then 1 else 0); rw [← ei]; first | rw [if_pos (by omega)]; omega | rw [if_neg (by omega)]; omega) (by omega))⟩, fun c17 => ⟨(by omega), ⟨(by omega), (ih (k + 1) _ (v + 1) (i + 1) (by omega) (by omega) (by omega) (by show _ = xCt (W.2.1 118) x k + (if W.2.1 118 (k : Int) = x then 1 else 0); rw [← ei]; first | rw [if_pos (by omega)]; omega | rw [if_neg (by omega)]; omega) (by omega))⟩⟩⟩⟩⟩
  exact zp_MBcnt_0 (by omega) hn (lp 65 0 _ 0 0 (by omega) (by omega) rfl rfl (by omega))
noncomputable def y_MB_hasPawnAtEnd : jY := (⟨"ChessHouseModel$Board", "hasPawnAtEnd", "()Z"⟩, prog_16_method_59_code, 3, (some .boolean))
theorem m_MB_hasPawnAtEnd : jmth lw_tbl y_MB_hasPawnAtEnd 0 := ⟨jTA_in (wi := 2469) (jtF_ok rfl) rfl, jTA_in (wi := 316) (jtF_ok rfl) rfl, by decide, by decide, by decide +kernel⟩
theorem i_MB_hasPawnAtEnd : Jvm.Cond.instanceMethod y_MB_hasPawnAtEnd.1 ∈ jTA lw_tbl := jTA_in (wi := 2468) (jtF_ok rfl) rfl
theorem e_MB_hasPawnAtEnd : Jvm.Cond.selects y_MB_hasPawnAtEnd.1.cls y_MB_hasPawnAtEnd.1 y_MB_hasPawnAtEnd.1 ∈ jTA lw_tbl := jTA_in (wi := 145) (jtF_ok rfl) rfl
noncomputable def ak_ZMBpwn : List jI := [(.iconst 0, 1, (0, 0, 0, 0, 0)), (.istore_n 1, 1, (1, 0, 0, 0, 0)), (.iconst 0, 1, (0, 0, 0, 0, 0)), (.istore_n 2, 1, (2, 0, 0, 0, 0)), (.iload_n 2, 1, (2, 0, 0, 0, 0)), (.bipush 8, 2, (0, 0, 0, 8, 0)), (.if_icmp .ge 48, 3, (55, 0, 0, 0, 0)), (.iload_n 1, 1, (1, 0, 0, 0, 0)), (.ifCond .ne 32, 3, (43, 0, 0, 0, 0)), (.aload_n 0, 1, (0, 0, 0, 0, 0)), (.getfield 16, 3, (13, 2, 2174, 0, 0)), (.iload_n 2, 1, (2, 0, 0, 0, 0)), (.iaload, 1, (0, 0, 0, 0, 0)), (.invokestatic 103, 3, (0, 0, 2442, 0, 0)), (.iconst 1, 1, (0, 0, 0, 1, 0)), (.if_icmp .eq 19, 3, (43, 0, 0, 0, 0)), (.aload_n 0, 1, (0, 0, 0, 0, 0)), (.getfield 16, 3, (13, 2, 2174, 0, 0)), (.bipush 56, 2, (0, 0, 0, 56, 0)), (.iload_n 2, 1, (2, 0, 0, 0, 0)), (.iadd, 1, (0, 0, 0, 0, 0)), (.iaload, 1, (0, 0, 0, 0, 0)), (.invokestatic 103, 3, (0, 0, 2442, 0, 0)), (.iconst 1, 1, (0, 0, 0, 1, 0)), (.if_icmp .ne 7, 3, (47, 0, 0, 0, 0)), (.iconst 1, 1, (0, 0, 0, 1, 0)), (.goto 4, 3, (48, 0, 0, 0, 0)), (.iconst 0, 1, (0, 0, 0, 0, 0)), (.istore_n 1, 1, (1, 0, 0, 0, 0)), (.iinc 2 1, 3, (0, 0, 0, 1, 0)), (.goto (-48), 3, (4, 0, 0, 0, 0)), (.iload_n 1, 1, (1, 0, 0, 0, 0)), (.ireturn, 1, (0, 0, 0, 0, 0))]
theorem ao_ZMBpwn : jokLG jtF lk_MB "ChessHouseModel$Board" jcl jtb 3 prog_16_method_59_code 0 ak_ZMBpwn = true := by decide +kernel
noncomputable def zm_MBpwn : zM := (some .boolean, { frames := 1, cells := 0, slots := 0, locals := 20 }, ([(103, 2442, 0)], []), [(y_MB_kind, true, 1, 0, { frames := 0, cells := 0, slots := 0, locals := 0 }, zc_MBknd)], ak_ZMBpwn)
noncomputable def zc_MBpwn (vals : List zv) (W : zW) (post : zPo) : Prop := vals = [.inr (.inr (some (.inl 116)))] ∧ (zKb W) ∧ ∀ r : Int, (xBl r (¬ ∀ f, 0 ≤ f → f < 8 → ¬ zMb W f % 8 = 1 ∧ ¬ zMb W (56 + f) % 8 = 1)) → post (some (.inl r)) W
set_option maxRecDepth 8000 in
theorem zp_MBpwn_0 {n K : Nat} {W : zW} {post : zPo} {u1 u2 : Option zv} (hK : 4 ≤ K) (hn : 142 ≤ n) (h : zwp jtb zsh n zm_MBpwn post (K - 4) (lGo ak_ZMBpwn 4) 4 [some (.inr (.inr (some (.inl 116)))), some (.inl (0)), some (.inl (0))] [] W) : zwp jtb zsh n zm_MBpwn post K (lGo ak_ZMBpwn 0) 0 [some (.inr (.inr (some (.inl 116)))), u1, u2] [] W := by
  obtain ⟨kk__, rfl⟩ : ∃ kk__, K = kk__ + 4 := ⟨K - 4, by omega⟩
  exact (show zwp jtb zsh n zm_MBpwn post (kk__ + 0) (lGo ak_ZMBpwn 4) 4 [some (.inr (.inr (some (.inl 116)))), some (.inl (0)), some (.inl (0))] [] W from h)
set_option maxRecDepth 8000 in
theorem zp_MBpwn_4 {n K : Nat} {W : zW} {post : zPo} {b i : Int}  (hK : 26 ≤ K) (hn : 142 ≤ n) (h : (8 ≤ i → (b = 0 ∨ b = 1) ∧ post (some (.inl (b))) W) ∧ (¬ 8 ≤ i → (¬ b = 0 → (-2147483648 ≤ i + 1 ∧ i + 1 ≤ 2147483647) ∧ zwp jtb zsh n zm_MBpwn post (K - 10) (lGo ak_ZMBpwn 4) 4 [some (.inr (.inr (some (.inl 116)))), some (.inl (1)), some (.inl (i + 1))] [] W) ∧ (b = 0 → (0 ≤ i ∧ i < 64) ∧ (0 ≤ (W.2.1 118 i) ∧ (W.2.1 118 i) ≤ 2147483647) ∧ ∀ r20 : Int, (r20 = (W.2.1 118 i) % 8) → (r20 = 1 → (-2147483648 ≤ i + 1 ∧ i + 1 ≤ 2147483647) ∧ zwp jtb zsh n zm_MBpwn post (K - 17) (lGo ak_ZMBpwn 4) 4 [some (.inr (.inr (some (.inl 116)))), some (.inl (1)), some (.inl (i + 1))] [] W) ∧ (¬ r20 = 1 → (-2147483648 ≤ 56 + i ∧ 56 + i ≤ 2147483647) ∧ (0 ≤ (56 + i) ∧ (56 + i) < 64) ∧ (0 ≤ (W.2.1 118 (56 + i)) ∧ (W.2.1 118 (56 + i)) ≤ 2147483647) ∧ ∀ r36 : Int, (r36 = (W.2.1 118 (56 + i)) % 8) → (¬ r36 = 1 → (-2147483648 ≤ i + 1 ∧ i + 1 ≤ 2147483647) ∧ zwp jtb zsh n zm_MBpwn post (K - 25) (lGo ak_ZMBpwn 4) 4 [some (.inr (.inr (some (.inl 116)))), some (.inl (0)), some (.inl (i + 1))] [] W) ∧ (r36 = 1 → (-2147483648 ≤ i + 1 ∧ i + 1 ≤ 2147483647) ∧ zwp jtb zsh n zm_MBpwn post (K - 26) (lGo ak_ZMBpwn 4) 4 [some (.inr (.inr (some (.inl 116)))), some (.inl (1)), some (.inl (i + 1))] [] W))))) : zwp jtb zsh n zm_MBpwn post K (lGo ak_ZMBpwn 4) 4 [some (.inr (.inr (some (.inl 116)))), some (.inl (b)), some (.inl (i))] [] W := by
  obtain ⟨kk__, rfl⟩ : ∃ kk__, K = kk__ + 26 := ⟨K - 26, by omega⟩
  exact (show (8 ≤ i → 1 = 1 ∧ (b = 0 ∨ b = 1) ∧ post (some (.inl (b))) W) ∧ (¬ 8 ≤ i → (¬ b = 0 → (-2147483648 ≤ i + 1 ∧ i + 1 ≤ 2147483647) ∧ zwp jtb zsh n zm_MBpwn post (kk__ + 16) (lGo ak_ZMBpwn 4) 4 [some (.inr (.inr (some (.inl 116)))), some (.inl (1)), some (.inl (i + 1))] [] W) ∧ (b = 0 → 116 < n ∧ 13 = 13 ∧ 118 < n ∧ FieldType.int = FieldType.int ∧ (0 ≤ i ∧ i < 64) ∧ 3 = 3 ∧ true = true ∧ jin3 103 2442 0 zm_MBpwn.2.2.1.1 = true ∧ lRm zm_MBpwn.2.1 { frames := 0, cells := 0, slots := 0, locals := 0 } 1 = true ∧ Nat.ble 1 1 = true ∧ Nat.ble 0 8 = true ∧ zc_MBknd [.inl (W.2.1 118 i)] W (fun vv__ WW__ => zwp jtb zsh n zm_MBpwn post (kk__ + 16) (lGo ak_ZMBpwn 23) 23 [some (.inr (.inr (some (.inl 116)))), some (.inl (b)), some (.inl (i))] (vv__.toList ++ []) WW__))) from ⟨fun c7_2 => ⟨rfl, ((h).1 c7_2)⟩, fun c7_2 => ⟨fun c11_4 => ⟨(((((h).2 c7_2)).1 c11_4)).1, (((((h).2 c7_2)).1 c11_4)).2⟩, fun c11_4 => ⟨(Nat.lt_of_lt_of_le (by decide) hn), rfl, ⟨(Nat.lt_of_lt_of_le (by decide) hn), rfl, (((((h).2 c7_2)).2 c11_4)).1, (have h := (((((h).2 c7_2)).2 c11_4)).2; ⟨rfl, rfl, rfl, rfl, rfl, rfl, W.2.1 118 i, rfl, (h).1, fun r20 hr20 => (show (r20 = 1 → (-2147483648 ≤ i + 1 ∧ i + 1 ≤ 2147483647) ∧ zwp jtb zsh n zm_MBpwn post (kk__ + 9) (lGo ak_ZMBpwn 4) 4 [some (.inr (.inr (some (.inl 116)))), some (.inl (1)), some (.inl (i + 1))] [] W) ∧ (¬ r20 = 1 → 116 < n ∧ 13 = 13 ∧ (-2147483648 ≤ 56 + i ∧ 56 + i ≤ 2147483647) ∧ 118 < n ∧ FieldType.int = FieldType.int ∧ (0 ≤ (56 + i) ∧ (56 + i) < 64) ∧ 3 = 3 ∧ true = true ∧ jin3 103 2442 0 zm_MBpwn.2.2.1.1 = true ∧ lRm zm_MBpwn.2.1 { frames := 0, cells := 0, slots := 0, locals := 0 } 1 = true ∧ Nat.ble 1 1 = true ∧ Nat.ble 0 8 = true ∧ zc_MBknd [.inl (W.2.1 118 (56 + i))] W (fun vv__ WW__ => zwp jtb zsh n zm_MBpwn post (kk__ + 7) (lGo ak_ZMBpwn 39) 39 [some (.inr (.inr (some (.inl 116)))), some (.inl (b)), some (.inl (i))] (vv__.toList ++ []) WW__)) from ⟨fun c24_11 => (have h := ((((h).2 r20 hr20)).1 c24_11); ⟨(h).1, (h).2⟩), fun c24_11 => (have h := ((((h).2 r20 hr20)).2 c24_11); ⟨(Nat.lt_of_lt_of_le (by decide) hn), rfl, ⟨(h).1, ⟨(Nat.lt_of_lt_of_le (by decide) hn), rfl, ((h).2).1, ⟨rfl, rfl, rfl, rfl, rfl, rfl, W.2.1 118 (56 + i), rfl, (((h).2).2).1, fun r36 hr36 => (show (¬ r36 = 1 → (-2147483648 ≤ i + 1 ∧ i + 1 ≤ 2147483647) ∧ zwp jtb zsh n zm_MBpwn post (kk__ + 1) (lGo ak_ZMBpwn 4) 4 [some (.inr (.inr (some (.inl 116)))), some (.inl (0)), some (.inl (i + 1))] [] W) ∧ (r36 = 1 → (-2147483648 ≤ i + 1 ∧ i + 1 ≤ 2147483647) ∧ zwp jtb zsh n zm_MBpwn post (kk__ + 0) (lGo ak_ZMBpwn 4) 4 [some (.inr (.inr (some (.inl 116)))), some (.inl (1)), some (.inl (i + 1))] [] W) from ⟨fun c40_20 => (have h := ((((((h).2).2).2 r36 hr36)).1 c40_20); ⟨(h).1, (h).2⟩), fun c40_20 => (have h := ((((((h).2).2).2 r36 hr36)).2 c40_20); ⟨(h).1, (h).2⟩)⟩)⟩⟩⟩⟩)⟩)⟩)⟩⟩⟩⟩)
theorem zk_MBpwn {l : Launch} {E : jE} {n : Nat} (hn : 142 ≤ n) : zHas l E jcl jtb lw_tbl zsh n (y_MB_hasPawnAtEnd, false, 1, 13, { frames := 1, cells := 0, slots := 0, locals := 20 }, zc_MBpwn) := by
  refine ⟨⟨rfl, rfl, ⟨show 1 ≤ 1 by decide, m_MB_hasPawnAtEnd, i_MB_hasPawnAtEnd, e_MB_hasPawnAtEnd, fun _ => ⟨_, rfl, rfl⟩⟩⟩, ?_⟩
  rintro vz W po hO hW ⟨rfl, hq, hp⟩
  refine zmet (m := zm_MBpwn) rfl (by decide) (fun _ _ => jtF_ok) lo_MB ao_ZMBpwn jC (fun q h => by cases h) (aAllc (fun G h => by obtain rfl := Option.some.inj h; exact ql_MB_103) (fun q h => by cases h)) (aAllc (zk_MBknd hn) (fun q h => by cases h)) (Nat.le_of_ble_eq_true rfl) hO hW (1000) ?_
  have lp : ∀ (m K : Nat) (b i : Int), 60 * m + 60 ≤ K → (8 - i < m ∧ 0 ≤ i ∧ i ≤ 8) → xBl b (¬ ∀ f, 0 ≤ f → f < i → ¬ zMb W f % 8 = 1 ∧ ¬ zMb W (56 + f) % 8 = 1) → zwp jtb zsh n zm_MBpwn po K (lGo ak_ZMBpwn 4) 4 [some (.inr (.inr (some (.inl 116)))), some (.inl b), some (.inl i)] [] W := by
    intro m
    induction m with
    | zero => intro K b i hK hm; omega
    | succ m ih =>
      intro K b i hK hm hb
      exact zp_MBpwn_4 (by omega) hn ⟨fun c7 => ⟨(by have := xBl_01 hb; omega), (hp _ (by rw [show i = 8 by omega] at hb; exact hb))⟩, fun c7 => ⟨fun c11 => ⟨(by have := xBl_01 hb; omega), (ih _ 1 (i + 1) (by omega) (by omega) (Or.inl ⟨rfl, fun z => by first | exact xBl_1 hb (by omega) (fun f a d => z f a (by omega)) | (have y := z i (by omega) (by omega); rw [zMb_i (by omega), zMb_i (by omega)] at y; omega)⟩))⟩, fun c11 => ⟨(by have := xBl_01 hb; omega), ⟨(by have := hq.1 i (by omega) (by omega); omega), fun r20 hr20 => ⟨fun c24 => ⟨(by have := xBl_01 hb; omega), (ih _ 1 (i + 1) (by omega) (by omega) (Or.inl ⟨rfl, fun z => by first | exact xBl_1 hb (by omega) (fun f a d => z f a (by omega)) | (have y := z i (by omega) (by omega); rw [zMb_i (by omega), zMb_i (by omega)] at y; omega)⟩))⟩, fun c24 => ⟨(by have := xBl_01 hb; omega), ⟨(by have := xBl_01 hb; omega), ⟨(by have := hq.1 (56 + i) (by omega) (by omega); omega), fun r36 hr36 => ⟨fun c40 => ⟨(by have := xBl_01 hb; omega), (ih _ 0 (i + 1) (by omega) (by omega) (Or.inr ⟨rfl, fun z => z (fun f a d => if ef : f = i then (by rw [ef, zMb_i (by omega), zMb_i (by omega)]; omega) else Classical.byContradiction (fun y => xBl_0 hb (by omega) (fun w => y (w f a (by omega)))))⟩))⟩, fun c40 => ⟨(by have := xBl_01 hb; omega), (ih _ 1 (i + 1) (by omega) (by omega) (Or.inl ⟨rfl, fun z => by first | exact xBl_1 hb (by omega) (fun f a d => z f a (by omega)) | (have y := z i (by omega) (by omega); rw [zMb_i (by omega), zMb_i (by omega)] at y; omega)⟩))⟩⟩⟩⟩⟩⟩⟩⟩⟩⟩
  exact zp_MBpwn_0 (by omega) hn (lp 9 _ 0 0 (by omega) (by omega) (Or.inr ⟨rfl, fun z => z (fun f a d => by omega)⟩))
noncomputable def y_MB_isRightWrong : jY := (⟨"ChessHouseModel$Board", "isRightWrong", "()Z"⟩, prog_16_method_60_code, 7, (some .boolean))
theorem m_MB_isRightWrong : jmth lw_tbl y_MB_isRightWrong 0 := ⟨jTA_in (wi := 2496) (jtF_ok rfl) rfl, jTA_in (wi := 316) (jtF_ok rfl) rfl, by decide, by decide, by decide +kernel⟩
theorem i_MB_isRightWrong : Jvm.Cond.instanceMethod y_MB_isRightWrong.1 ∈ jTA lw_tbl := jTA_in (wi := 2495) (jtF_ok rfl) rfl
theorem e_MB_isRightWrong : Jvm.Cond.selects y_MB_isRightWrong.1.cls y_MB_isRightWrong.1 y_MB_isRightWrong.1 ∈ jTA lw_tbl := jTA_in (wi := 151) (jtF_ok rfl) rfl
noncomputable def ak_ZMBrgt : List jI := [(.iconst 0, 1, (0, 0, 0, 0, 0)), (.istore_n 1, 1, (1, 0, 0, 0, 0)), (.iconst 0, 1, (0, 0, 0, 0, 0)), (.istore_n 2, 1, (2, 0, 0, 0, 0)), (.iload_n 2, 1, (2, 0, 0, 0, 0)), (.iconst 4, 1, (0, 0, 0, 4, 0)), (.if_icmp .ge 107, 3, (113, 0, 0, 0, 0)), (.iload_n 2, 1, (2, 0, 0, 0, 0)), (.iconst 2, 1, (0, 0, 0, 2, 0)), (.idiv, 1, (0, 0, 0, 0, 0)), (.istore_n 3, 1, (3, 0, 0, 0, 0)), (.bipush 56, 2, (0, 0, 0, 56, 0)), (.iload_n 3, 1, (3, 0, 0, 0, 0)), (.imul, 1, (0, 0, 0, 0, 0)), (.iconst 4, 1, (0, 0, 0, 4, 0)), (.iadd, 1, (0, 0, 0, 0, 0)), (.istore 4, 2, (4, 0, 0, 0, 0)), (.bipush 56, 2, (0, 0, 0, 56, 0)), (.iload_n 3, 1, (3, 0, 0, 0, 0)), (.imul, 1, (0, 0, 0, 0, 0)), (.iload_n 2, 1, (2, 0, 0, 0, 0)), (.iconst 2, 1, (0, 0, 0, 2, 0)), (.irem, 1, (0, 0, 0, 0, 0)), (.ifCond .ne 8, 3, (36, 0, 0, 0, 0)), (.bipush 7, 2, (0, 0, 0, 7, 0)), (.goto 4, 3, (37, 0, 0, 0, 0)), (.iconst 0, 1, (0, 0, 0, 0, 0)), (.iadd, 1, (0, 0, 0, 0, 0)), (.istore 5, 2, (5, 0, 0, 0, 0)), (.aload_n 0, 1, (0, 0, 0, 0, 0)), (.getfield 16, 3, (13, 2, 2174, 0, 0)), (.iload 4, 2, (4, 0, 0, 0, 0)), (.iaload, 1, (0, 0, 0, 0, 0)), (.bipush 6, 2, (0, 0, 0, 6, 0)), (.bipush 8, 2, (0, 0, 0, 8, 0)), (.iload_n 3, 1, (3, 0, 0, 0, 0)), (.imul, 1, (0, 0, 0, 0, 0)), (.iadd, 1, (0, 0, 0, 0, 0)), (.if_icmp .ne 23, 3, (77, 0, 0, 0, 0)), (.aload_n 0, 1, (0, 0, 0, 0, 0)), (.getfield 16, 3, (13, 2, 2174, 0, 0)), (.iload 5, 2, (5, 0, 0, 0, 0)), (.iaload, 1, (0, 0, 0, 0, 0)), (.iconst 4, 1, (0, 0, 0, 4, 0)), (.bipush 8, 2, (0, 0, 0, 8, 0)), (.iload_n 3, 1, (3, 0, 0, 0, 0)), (.imul, 1, (0, 0, 0, 0, 0)), (.iadd, 1, (0, 0, 0, 0, 0)), (.if_icmp .ne 7, 3, (77, 0, 0, 0, 0)), (.iconst 1, 1, (0, 0, 0, 1, 0)), (.goto 4, 3, (78, 0, 0, 0, 0)), (.iconst 0, 1, (0, 0, 0, 0, 0)), (.istore 6, 2, (6, 0, 0, 0, 0)), (.iload_n 1, 1, (1, 0, 0, 0, 0)), (.ifCond .ne 20, 3, (101, 0, 0, 0, 0)), (.aload_n 0, 1, (0, 0, 0, 0, 0)), (.getfield 116, 3, (13, 4, 2178, 0, 0)), (.iload_n 2, 1, (2, 0, 0, 0, 0)), (.ishr, 1, (0, 0, 0, 0, 0)), (.iconst 1, 1, (0, 0, 0, 1, 0)), (.iand, 1, (0, 0, 0, 0, 0)), (.iconst 1, 1, (0, 0, 0, 1, 0)), (.if_icmp .ne 12, 3, (105, 0, 0, 0, 0)), (.iload 6, 2, (6, 0, 0, 0, 0)), (.ifCond .ne 7, 3, (105, 0, 0, 0, 0)), (.iconst 1, 1, (0, 0, 0, 1, 0)), (.goto 4, 3, (106, 0, 0, 0, 0)), (.iconst 0, 1, (0, 0, 0, 0, 0)), (.istore_n 1, 1, (1, 0, 0, 0, 0)), (.iinc 2 1, 3, (0, 0, 0, 1, 0)), (.goto (-106), 3, (4, 0, 0, 0, 0)), (.iload_n 1, 1, (1, 0, 0, 0, 0)), (.ireturn, 1, (0, 0, 0, 0, 0))]
theorem ao_ZMBrgt : jokLG jtF lk_MB "ChessHouseModel$Board" jcl jtb 7 prog_16_method_60_code 0 ak_ZMBrgt = true := by decide +kernel
noncomputable def zm_MBrgt : zM := (some .boolean, { frames := 0, cells := 0, slots := 0, locals := 0 }, ([], []), [], ak_ZMBrgt)
noncomputable def zc_MBrgt (vals : List zv) (W : zW) (post : zPo) : Prop := vals = [.inr (.inr (some (.inl 116)))] ∧ (zKb W) ∧ ∀ r : Int, (xBl r (¬ ∀ k, 0 ≤ k → k < 4 → pRo (zQb W) k)) → post (some (.inl r)) W
set_option maxRecDepth 8000 in
theorem zp_MBrgt_0 {n K : Nat} {W : zW} {post : zPo} {u1 u2 u3 u4 u5 u6 : Option zv} (hK : 4 ≤ K) (hn : 142 ≤ n) (h : zwp jtb zsh n zm_MBrgt post (K - 4) (lGo ak_ZMBrgt 4) 4 [some (.inr (.inr (some (.inl 116)))), some (.inl (0)), some (.inl (0)), u3, u4, u5, u6] [] W) : zwp jtb zsh n zm_MBrgt post K (lGo ak_ZMBrgt 0) 0 [some (.inr (.inr (some (.inl 116)))), u1, u2, u3, u4, u5, u6] [] W := by
  obtain ⟨kk__, rfl⟩ : ∃ kk__, K = kk__ + 4 := ⟨K - 4, by omega⟩
  exact (show zwp jtb zsh n zm_MBrgt post (kk__ + 0) (lGo ak_ZMBrgt 4) 4 [some (.inr (.inr (some (.inl 116)))), some (.inl (0)), some (.inl (0)), u3, u4, u5, u6] [] W from h)
set_option maxRecDepth 8000 in
theorem zp_MBrgt_4 {n K : Nat} {W : zW} {post : zPo} {b i : Int} {u3 u4 u5 u6 : Option zv} (hK : 46 ≤ K) (hn : 142 ≤ n) (h : (4 ≤ i → (b = 0 ∨ b = 1) ∧ post (some (.inl (b))) W) ∧ (¬ 4 ≤ i → (0 ≤ i ∧ i ≤ 2147483647) ∧ ∀ t0 : Int, t0 = i / 2 → (-2147483648 ≤ 56 * t0 ∧ 56 * t0 ≤ 2147483647) ∧ (-2147483648 ≤ (56 * t0) + 4 ∧ (56 * t0) + 4 ≤ 2147483647) ∧ (-2147483648 ≤ 56 * t0 ∧ 56 * t0 ≤ 2147483647) ∧ (0 ≤ i ∧ i ≤ 2147483647) ∧ ∀ t1 : Int, t1 = i % 2 → (¬ t1 = 0 → (-2147483648 ≤ (56 * t0) + 0 ∧ (56 * t0) + 0 ≤ 2147483647) ∧ (0 ≤ ((56 * t0) + 4) ∧ ((56 * t0) + 4) < 64) ∧ (-2147483648 ≤ 8 * t0 ∧ 8 * t0 ≤ 2147483647) ∧ (-2147483648 ≤ 6 + (8 * t0) ∧ 6 + (8 * t0) ≤ 2147483647) ∧ (¬ (W.2.1 118 ((56 * t0) + 4)) = (6 + (8 * t0)) → zwp jtb zsh n zm_MBrgt post (K - 34) (lGo ak_ZMBrgt 78) 78 [some (.inr (.inr (some (.inl 116)))), some (.inl (b)), some (.inl (i)), some (.inl (t0)), some (.inl ((56 * t0) + 4)), some (.inl ((56 * t0) + 0)), u6] [.inl (0)] W) ∧ ((W.2.1 118 ((56 * t0) + 4)) = (6 + (8 * t0)) → (0 ≤ ((56 * t0) + 0) ∧ ((56 * t0) + 0) < 64) ∧ (-2147483648 ≤ 8 * t0 ∧ 8 * t0 ≤ 2147483647) ∧ (-2147483648 ≤ 4 + (8 * t0) ∧ 4 + (8 * t0) ≤ 2147483647) ∧ (¬ (W.2.1 118 ((56 * t0) + 0)) = (4 + (8 * t0)) → zwp jtb zsh n zm_MBrgt post (K - 44) (lGo ak_ZMBrgt 78) 78 [some (.inr (.inr (some (.inl 116)))), some (.inl (b)), some (.inl (i)), some (.inl (t0)), some (.inl ((56 * t0) + 4)), some (.inl ((56 * t0) + 0)), u6] [.inl (0)] W) ∧ ((W.2.1 118 ((56 * t0) + 0)) = (4 + (8 * t0)) → zwp jtb zsh n zm_MBrgt post (K - 45) (lGo ak_ZMBrgt 78) 78 [some (.inr (.inr (some (.inl 116)))), some (.inl (b)), some (.inl (i)), some (.inl (t0)), some (.inl ((56 * t0) + 4)), some (.inl ((56 * t0) + 0)), u6] [.inl (1)] W))) ∧ (t1 = 0 → (-2147483648 ≤ (56 * t0) + 7 ∧ (56 * t0) + 7 ≤ 2147483647) ∧ (0 ≤ ((56 * t0) + 4) ∧ ((56 * t0) + 4) < 64) ∧ (-2147483648 ≤ 8 * t0 ∧ 8 * t0 ≤ 2147483647) ∧ (-2147483648 ≤ 6 + (8 * t0) ∧ 6 + (8 * t0) ≤ 2147483647) ∧ (¬ (W.2.1 118 ((56 * t0) + 4)) = (6 + (8 * t0)) → zwp jtb zsh n zm_MBrgt post (K - 35) (lGo ak_ZMBrgt 78) 78 [some (.inr (.inr (some (.inl 116)))), some (.inl (b)), some (.inl (i)), some (.inl (t0)), some (.inl ((56 * t0) + 4)), some (.inl ((56 * t0) + 7)), u6] [.inl (0)] W) ∧ ((W.2.1 118 ((56 * t0) + 4)) = (6 + (8 * t0)) → (0 ≤ ((56 * t0) + 7) ∧ ((56 * t0) + 7) < 64) ∧ (-2147483648 ≤ 8 * t0 ∧ 8 * t0 ≤ 2147483647) ∧ (-2147483648 ≤ 4 + (8 * t0) ∧ 4 + (8 * t0) ≤ 2147483647) ∧ (¬ (W.2.1 118 ((56 * t0) + 7)) = (4 + (8 * t0)) → zwp jtb zsh n zm_MBrgt post (K - 45) (lGo ak_ZMBrgt 78) 78 [some (.inr (.inr (some (.inl 116)))), some (.inl (b)), some (.inl (i)), some (.inl (t0)), some (.inl ((56 * t0) + 4)), some (.inl ((56 * t0) + 7)), u6] [.inl (0)] W) ∧ ((W.2.1 118 ((56 * t0) + 7)) = (4 + (8 * t0)) → zwp jtb zsh n zm_MBrgt post (K - 46) (lGo ak_ZMBrgt 78) 78 [some (.inr (.inr (some (.inl 116)))), some (.inl (b)), some (.inl (i)), some (.inl (t0)), some (.inl ((56 * t0) + 4)), some (.inl ((56 * t0) + 7)), u6] [.inl (1)] W))))) : zwp jtb zsh n zm_MBrgt post K (lGo ak_ZMBrgt 4) 4 [some (.inr (.inr (some (.inl 116)))), some (.inl (b)), some (.inl (i)), u3, u4, u5, u6] [] W := by
  obtain ⟨kk__, rfl⟩ : ∃ kk__, K = kk__ + 46 := ⟨K - 46, by omega⟩
  exact (show (4 ≤ i → 1 = 1 ∧ (b = 0 ∨ b = 1) ∧ post (some (.inl (b))) W) ∧ (¬ 4 ≤ i → ¬ (2 : Int) = 0 ∧ (-2147483648 ≤ 56 * ((lI i / lI 2).toInt) ∧ 56 * ((lI i / lI 2).toInt) ≤ 2147483647) ∧ (-2147483648 ≤ (56 * ((lI i / lI 2).toInt)) + 4 ∧ (56 * ((lI i / lI 2).toInt)) + 4 ≤ 2147483647) ∧ (-2147483648 ≤ 56 * ((lI i / lI 2).toInt) ∧ 56 * ((lI i / lI 2).toInt) ≤ 2147483647) ∧ ¬ (2 : Int) = 0 ∧ (¬ ((lI i - lI i / lI 2 * lI 2).toInt) = 0 → (-2147483648 ≤ (56 * ((lI i / lI 2).toInt)) + 0 ∧ (56 * ((lI i / lI 2).toInt)) + 0 ≤ 2147483647) ∧ 116 < n ∧ 13 = 13 ∧ 118 < n ∧ FieldType.int = FieldType.int ∧ (0 ≤ ((56 * ((lI i / lI 2).toInt)) + 4) ∧ ((56 * ((lI i / lI 2).toInt)) + 4) < 64) ∧ (-2147483648 ≤ 8 * ((lI i / lI 2).toInt) ∧ 8 * ((lI i / lI 2).toInt) ≤ 2147483647) ∧ (-2147483648 ≤ 6 + (8 * ((lI i / lI 2).toInt)) ∧ 6 + (8 * ((lI i / lI 2).toInt)) ≤ 2147483647) ∧ (¬ (W.2.1 118 ((56 * ((lI i / lI 2).toInt)) + 4)) = (6 + (8 * ((lI i / lI 2).toInt))) → zwp jtb zsh n zm_MBrgt post (kk__ + 12) (lGo ak_ZMBrgt 78) 78 [some (.inr (.inr (some (.inl 116)))), some (.inl (b)), some (.inl (i)), some (.inl (((lI i / lI 2).toInt))), some (.inl ((56 * ((lI i / lI 2).toInt)) + 4)), some (.inl ((56 * ((lI i / lI 2).toInt)) + 0)), u6] [.inl (0)] W) ∧ ((W.2.1 118 ((56 * ((lI i / lI 2).toInt)) + 4)) = (6 + (8 * ((lI i / lI 2).toInt))) → 116 < n ∧ 13 = 13 ∧ 118 < n ∧ FieldType.int = FieldType.int ∧ (0 ≤ ((56 * ((lI i / lI 2).toInt)) + 0) ∧ ((56 * ((lI i / lI 2).toInt)) + 0) < 64) ∧ (-2147483648 ≤ 8 * ((lI i / lI 2).toInt) ∧ 8 * ((lI i / lI 2).toInt) ≤ 2147483647) ∧ (-2147483648 ≤ 4 + (8 * ((lI i / lI 2).toInt)) ∧ 4 + (8 * ((lI i / lI 2).toInt)) ≤ 2147483647) ∧ (¬ (W.2.1 118 ((56 * ((lI i / lI 2).toInt)) + 0)) = (4 + (8 * ((lI i / lI 2).toInt))) → zwp jtb zsh n zm_MBrgt post (kk__ + 2) (lGo ak_ZMBrgt 78) 78 [some (.inr (.inr (some (.inl 116)))), some (.inl (b)), some (.inl (i)), some (.inl (((lI i / lI 2).toInt))), some (.inl ((56 * ((lI i / lI 2).toInt)) + 4)), some (.inl ((56 * ((lI i / lI 2).toInt)) + 0)), u6] [.inl (0)] W) ∧ ((W.2.1 118 ((56 * ((lI i / lI 2).toInt)) + 0)) = (4 + (8 * ((lI i / lI 2).toInt))) → zwp jtb zsh n zm_MBrgt post (kk__ + 1) (lGo ak_ZMBrgt 78) 78 [some (.inr (.inr (some (.inl 116)))), some (.inl (b)), some (.inl (i)), some (.inl (((lI i / lI 2).toInt))), some (.inl ((56 * ((lI i / lI 2).toInt)) + 4)), some (.inl ((56 * ((lI i / lI 2).toInt)) + 0)), u6] [.inl (1)] W))) ∧ (((lI i - lI i / lI 2 * lI 2).toInt) = 0 → (-2147483648 ≤ (56 * ((lI i / lI 2).toInt)) + 7 ∧ (56 * ((lI i / lI 2).toInt)) + 7 ≤ 2147483647) ∧ 116 < n ∧ 13 = 13 ∧ 118 < n ∧ FieldType.int = FieldType.int ∧ (0 ≤ ((56 * ((lI i / lI 2).toInt)) + 4) ∧ ((56 * ((lI i / lI 2).toInt)) + 4) < 64) ∧ (-2147483648 ≤ 8 * ((lI i / lI 2).toInt) ∧ 8 * ((lI i / lI 2).toInt) ≤ 2147483647) ∧ (-2147483648 ≤ 6 + (8 * ((lI i / lI 2).toInt)) ∧ 6 + (8 * ((lI i / lI 2).toInt)) ≤ 2147483647) ∧ (¬ (W.2.1 118 ((56 * ((lI i / lI 2).toInt)) + 4)) = (6 + (8 * ((lI i / lI 2).toInt))) → zwp jtb zsh n zm_MBrgt post (kk__ + 11) (lGo ak_ZMBrgt 78) 78 [some (.inr (.inr (some (.inl 116)))), some (.inl (b)), some (.inl (i)), some (.inl (((lI i / lI 2).toInt))), some (.inl ((56 * ((lI i / lI 2).toInt)) + 4)), some (.inl ((56 * ((lI i / lI 2).toInt)) + 7)), u6] [.inl (0)] W) ∧ ((W.2.1 118 ((56 * ((lI i / lI 2).toInt)) + 4)) = (6 + (8 * ((lI i / lI 2).toInt))) → 116 < n ∧ 13 = 13 ∧ 118 < n ∧ FieldType.int = FieldType.int ∧ (0 ≤ ((56 * ((lI i / lI 2).toInt)) + 7) ∧ ((56 * ((lI i / lI 2).toInt)) + 7) < 64) ∧ (-2147483648 ≤ 8 * ((lI i / lI 2).toInt) ∧ 8 * ((lI i / lI 2).toInt) ≤ 2147483647) ∧ (-2147483648 ≤ 4 + (8 * ((lI i / lI 2).toInt)) ∧ 4 + (8 * ((lI i / lI 2).toInt)) ≤ 2147483647) ∧ (¬ (W.2.1 118 ((56 * ((lI i / lI 2).toInt)) + 7)) = (4 + (8 * ((lI i / lI 2).toInt))) → zwp jtb zsh n zm_MBrgt post (kk__ + 1) (lGo ak_ZMBrgt 78) 78 [some (.inr (.inr (some (.inl 116)))), some (.inl (b)), some (.inl (i)), some (.inl (((lI i / lI 2).toInt))), some (.inl ((56 * ((lI i / lI 2).toInt)) + 4)), some (.inl ((56 * ((lI i / lI 2).toInt)) + 7)), u6] [.inl (0)] W) ∧ ((W.2.1 118 ((56 * ((lI i / lI 2).toInt)) + 7)) = (4 + (8 * ((lI i / lI 2).toInt))) → zwp jtb zsh n zm_MBrgt post (kk__ + 0) (lGo ak_ZMBrgt 78) 78 [some (.inr (.inr (some (.inl 116)))), some (.inl (b)), some (.inl (i)), some (.inl (((lI i / lI 2).toInt))), some (.inl ((56 * ((lI i / lI 2).toInt)) + 4)), some (.inl ((56 * ((lI i / lI 2).toInt)) + 7)), u6] [.inl (1)] W)))) from ⟨fun c6_2 => ⟨rfl, ((h).1 c6_2)⟩, fun c6_2 => ⟨(by decide), (have h := ((((h).2 c6_2)).2 _ (z_dv (by decide) (((h).2 c6_2)).1)); ⟨(h).1, ⟨((h).2).1, ⟨(((h).2).2).1, ⟨(by decide), (have h := (((((h).2).2).2).2 _ (z_rm (by decide) ((((h).2).2).2).1)); ⟨fun c28_19 => ⟨(((h).1 c28_19)).1, ⟨(Nat.lt_of_lt_of_le (by decide) hn), rfl, ⟨(Nat.lt_of_lt_of_le (by decide) hn), rfl, ((((h).1 c28_19)).2).1, ⟨(((((h).1 c28_19)).2).2).1, (have h := (((((h).1 c28_19)).2).2).2; ⟨(h).1, ⟨fun c54_32 => (((h).2).1 c54_32), fun c54_32 => ⟨(Nat.lt_of_lt_of_le (by decide) hn), rfl, ⟨(Nat.lt_of_lt_of_le (by decide) hn), rfl, ((((h).2).2 c54_32)).1, ⟨(((((h).2).2 c54_32)).2).1, (have h := (((((h).2).2 c54_32)).2).2; ⟨(h).1, ⟨fun c70_42 => (((h).2).1 c70_42), fun c70_42 => (((h).2).2 c70_42)⟩⟩)⟩⟩⟩⟩⟩)⟩⟩⟩⟩, fun c28_19 => ⟨(((h).2 c28_19)).1, ⟨(Nat.lt_of_lt_of_le (by decide) hn), rfl, ⟨(Nat.lt_of_lt_of_le (by decide) hn), rfl, ((((h).2 c28_19)).2).1, ⟨(((((h).2 c28_19)).2).2).1, (have h := (((((h).2 c28_19)).2).2).2; ⟨(h).1, ⟨fun c54_33 => (((h).2).1 c54_33), fun c54_33 => ⟨(Nat.lt_of_lt_of_le (by decide) hn), rfl, ⟨(Nat.lt_of_lt_of_le (by decide) hn), rfl, ((((h).2).2 c54_33)).1, ⟨(((((h).2).2 c54_33)).2).1, (have h := (((((h).2).2 c54_33)).2).2; ⟨(h).1, ⟨fun c70_43 => (((h).2).1 c70_43), fun c70_43 => (((h).2).2 c70_43)⟩⟩)⟩⟩⟩⟩⟩)⟩⟩⟩⟩⟩)⟩⟩⟩⟩)⟩⟩)
set_option maxRecDepth 8000 in
theorem zp_MBrgt_78 {n K : Nat} {W : zW} {post : zPo} {b i x y z t : Int} {u6 : Option zv} (hK : 18 ≤ K) (hn : 142 ≤ n) (h : (¬ b = 0 → (-2147483648 ≤ i + 1 ∧ i + 1 ≤ 2147483647) ∧ zwp jtb zsh n zm_MBrgt post (K - 8) (lGo ak_ZMBrgt 4) 4 [some (.inr (.inr (some (.inl 116)))), some (.inl (1)), some (.inl (i + 1)), some (.inl (x)), some (.inl (y)), some (.inl (z)), some (.inl (t))] [] W) ∧ (b = 0 → ((-2147483648 ≤ (W.1 116 4) ∧ (W.1 116 4) ≤ 2147483647) ∧ 0 ≤ i ∧ i ≤ 31) ∧ ∀ t0 : Int, t0 = (W.1 116 4) / 2 ^ i.toNat → (0 ≤ t0 ∧ t0 ≤ 2147483647) ∧ ∀ t1 : Int, t1 = t0 % 2 → (¬ t1 = 1 → (-2147483648 ≤ i + 1 ∧ i + 1 ≤ 2147483647) ∧ zwp jtb zsh n zm_MBrgt post (K - 15) (lGo ak_ZMBrgt 4) 4 [some (.inr (.inr (some (.inl 116)))), some (.inl (0)), some (.inl (i + 1)), some (.inl (x)), some (.inl (y)), some (.inl (z)), some (.inl (t))] [] W) ∧ (t1 = 1 → (¬ t = 0 → (-2147483648 ≤ i + 1 ∧ i + 1 ≤ 2147483647) ∧ zwp jtb zsh n zm_MBrgt post (K - 17) (lGo ak_ZMBrgt 4) 4 [some (.inr (.inr (some (.inl 116)))), some (.inl (0)), some (.inl (i + 1)), some (.inl (x)), some (.inl (y)), some (.inl (z)), some (.inl (t))] [] W) ∧ (t = 0 → (-2147483648 ≤ i + 1 ∧ i + 1 ≤ 2147483647) ∧ zwp jtb zsh n zm_MBrgt post (K - 18) (lGo ak_ZMBrgt 4) 4 [some (.inr (.inr (some (.inl 116)))), some (.inl (1)), some (.inl (i + 1)), some (.inl (x)), some (.inl (y)), some (.inl (z)), some (.inl (t))] [] W)))) : zwp jtb zsh n zm_MBrgt post K (lGo ak_ZMBrgt 78) 78 [some (.inr (.inr (some (.inl 116)))), some (.inl (b)), some (.inl (i)), some (.inl (x)), some (.inl (y)), some (.inl (z)), u6] [.inl (t)] W := by
  obtain ⟨kk__, rfl⟩ : ∃ kk__, K = kk__ + 18 := ⟨K - 18, by omega⟩
  exact (show (¬ b = 0 → (-2147483648 ≤ i + 1 ∧ i + 1 ≤ 2147483647) ∧ zwp jtb zsh n zm_MBrgt post (kk__ + 10) (lGo ak_ZMBrgt 4) 4 [some (.inr (.inr (some (.inl 116)))), some (.inl (1)), some (.inl (i + 1)), some (.inl (x)), some (.inl (y)), some (.inl (z)), some (.inl (t))] [] W) ∧ (b = 0 → 116 < n ∧ 13 = 13 ∧ (¬ ((lI ((lI (W.1 116 4) >>> (lI i &&& 31)).toInt) &&& lI 1).toInt) = 1 → (-2147483648 ≤ i + 1 ∧ i + 1 ≤ 2147483647) ∧ zwp jtb zsh n zm_MBrgt post (kk__ + 3) (lGo ak_ZMBrgt 4) 4 [some (.inr (.inr (some (.inl 116)))), some (.inl (0)), some (.inl (i + 1)), some (.inl (x)), some (.inl (y)), some (.inl (z)), some (.inl (t))] [] W) ∧ (((lI ((lI (W.1 116 4) >>> (lI i &&& 31)).toInt) &&& lI 1).toInt) = 1 → (¬ t = 0 → (-2147483648 ≤ i + 1 ∧ i + 1 ≤ 2147483647) ∧ zwp jtb zsh n zm_MBrgt post (kk__ + 1) (lGo ak_ZMBrgt 4) 4 [some (.inr (.inr (some (.inl 116)))), some (.inl (0)), some (.inl (i + 1)), some (.inl (x)), some (.inl (y)), some (.inl (z)), some (.inl (t))] [] W) ∧ (t = 0 → (-2147483648 ≤ i + 1 ∧ i + 1 ≤ 2147483647) ∧ zwp jtb zsh n zm_MBrgt post (kk__ + 0) (lGo ak_ZMBrgt 4) 4 [some (.inr (.inr (some (.inl 116)))), some (.inl (1)), some (.inl (i + 1)), some (.inl (x)), some (.inl (y)), some (.inl (z)), some (.inl (t))] [] W))) from ⟨fun c81_2 => ⟨(((h).1 c81_2)).1, (((h).1 c81_2)).2⟩, fun c81_2 => ⟨(Nat.lt_of_lt_of_le (by decide) hn), rfl, (have h := ((((h).2 c81_2)).2 _ (z_sr (((h).2 c81_2)).1)); ⟨fun c93_10 => (have h := ((((h).2 _ (z_an1 (h).1))).1 c93_10); ⟨(h).1, (h).2⟩), fun c93_10 => (have h := ((((h).2 _ (z_an1 (h).1))).2 c93_10); ⟨fun c98_12 => ⟨(((h).1 c98_12)).1, (((h).1 c98_12)).2⟩, fun c98_12 => ⟨(((h).2 c98_12)).1, (((h).2 c98_12)).2⟩⟩)⟩)⟩⟩)
theorem zk_MBrgt {l : Launch} {E : jE} {n : Nat} (hn : 142 ≤ n) : zHas l E jcl jtb lw_tbl zsh n (y_MB_isRightWrong, false, 1, 13, { frames := 0, cells := 0, slots := 0, locals := 0 }, zc_MBrgt) := by
  refine ⟨⟨rfl, rfl, ⟨show 1 ≤ 1 by decide, m_MB_isRightWrong, i_MB_isRightWrong, e_MB_isRightWrong, fun _ => ⟨_, rfl, rfl⟩⟩⟩, ?_⟩
  rintro vz W po hO hW ⟨rfl, hq, hp⟩
  refine zmet (m := zm_MBrgt) rfl (by decide) (fun _ _ => jtF_ok) lo_MB ao_ZMBrgt jC (fun q h => by cases h) (fun q h => by cases h) (fun q h => by cases h) (Nat.le_of_ble_eq_true rfl) hO hW (1000) ?_
  have hR := hq.2.2.1
  have lp : ∀ (m k K : Nat) (b i : Int) (u3 u4 u5 u6 : Option zv), 100 * m + 60 ≤ K → (5 ≤ m + k ∧ k ≤ 4) → i = k → xBl b (¬ ∀ k, 0 ≤ k → k < i → pRo (zQb W) k) → zwp jtb zsh n zm_MBrgt po K (lGo ak_ZMBrgt 4) 4 [some (.inr (.inr (some (.inl 116)))), some (.inl b), some (.inl i), u3, u4, u5, u6] [] W := by
    intro m
    induction m with
    | zero => intro k K b i u3 u4 u5 u6 hK hk; omega
    | succ m ih =>
      intro k K b i u3 u4 u5 u6 hK hk ei hb
      have dp := z_dp hR.1 i.toNat
      obtain ⟨TH, eTH⟩ : ∃ TH : Prop, TH = (zMb W (56 * (i / 2) + 4) = 6 + 8 * (i / 2) ∧ zMb W (56 * (i / 2) + (if i % 2 = 0 then 7 else 0)) = 4 + 8 * (i / 2)) := ⟨_, rfl⟩
      have th : ∀ t0 : Int, t0 = i / 2 → i < 4 → (TH ↔ (W.2.1 118 (56 * t0 + 4) = 6 + 8 * t0 ∧ ((i % 2 = 0 ∧ W.2.1 118 (56 * t0 + 7) = 4 + 8 * t0) ∨ (¬ i % 2 = 0 ∧ W.2.1 118 (56 * t0 + 0) = 4 + 8 * t0)))) := by
        intro t0 e0 i4
        rw [eTH, ← e0, zMb_i (i := 56 * t0 + 4) (by omega)]
        by_cases c : i % 2 = 0
        · rw [if_pos c, zMb_i (i := 56 * t0 + 7) (by omega)]; omega
        · rw [if_neg c, zMb_i (i := 56 * t0 + 0) (by omega)]; omega
      have h78 : ∀ t : Int, xBl t TH ∧ i < 4 → ∀ (K : Nat) (x y z : Int) (u6 : Option zv), 100 * m + 90 ≤ K → zwp jtb zsh n zm_MBrgt po K (lGo ak_ZMBrgt 78) 78 [some (.inr (.inr (some (.inl 116)))), some (.inl b), some (.inl i), some (.inl x), some (.inl y), some (.inl z), u6] [.inl t] W := by
        intro t ht4 K x y z u6 hK
        obtain ⟨ht, i4⟩ := ht4
        have hb01 := xBl_01 hb
        have ht01 := xBl_01 ht
        have rw9 : pRo (zQb W) i ↔ (W.1 116 4 / 2 ^ i.toNat % 2 = 0 ∨ TH) := by
          rw [eTH]
          exact Iff.rfl
        have ro0 : W.1 116 4 / 2 ^ i.toNat % 2 = 1 → t = 0 → ¬ pRo (zQb W) i := by
          intro h1 h2 h3
          rcases rw9.mp h3 with z | z
          · omega
          · exact xBl_0 ht h2 z
        have ro1 : (¬ W.1 116 4 / 2 ^ i.toNat % 2 = 1 ∨ ¬ t = 0) → pRo (zQb W) i := by
          intro h
          refine rw9.mpr ?_
          rcases h with z | z
          · exact Or.inl (by omega)
          · exact Or.inr (xBl_1 ht z)
        exact zp_MBrgt_78 (by omega) hn ⟨fun c81 => ⟨(by omega), (ih (k + 1) _ 1 (i + 1) _ _ _ _ (by omega) (by omega) (by omega) (Or.inl ⟨rfl, fun z9 => by first | exact xBl_1 hb (by omega) (fun f a d => z9 f a (by omega)) | exact ro0 (by omega) (by omega) (z9 i (by omega) (by omega))⟩))⟩, fun c81 => ⟨(by omega), fun t0 e0 => ⟨(by omega), fun t1 e1 => ⟨fun c93 => ⟨(by omega), (ih (k + 1) _ 0 (i + 1) _ _ _ _ (by omega) (by omega) (by omega) (Or.inr ⟨rfl, fun z9 => z9 (fun f a d => if ef : f = i then (by rw [ef]; exact ro1 (by omega)) else Classical.byContradiction (fun y9 => xBl_0 hb (by omega) (fun w9 => y9 (w9 f a (by omega)))))⟩))⟩, fun c93 => ⟨fun c98 => ⟨(by omega), (ih (k + 1) _ 0 (i + 1) _ _ _ _ (by omega) (by omega) (by omega) (Or.inr ⟨rfl, fun z9 => z9 (fun f a d => if ef : f = i then (by rw [ef]; exact ro1 (by omega)) else Classical.byContradiction (fun y9 => xBl_0 hb (by omega) (fun w9 => y9 (w9 f a (by omega)))))⟩))⟩, fun c98 => ⟨(by omega), (ih (k + 1) _ 1 (i + 1) _ _ _ _ (by omega) (by omega) (by omega) (Or.inl ⟨rfl, fun z9 => by first | exact xBl_1 hb (by omega) (fun f a d => z9 f a (by omega)) | exact ro0 (by omega) (by omega) (z9 i (by omega) (by omega))⟩))⟩⟩⟩⟩⟩⟩
      exact zp_MBrgt_4 (by omega) hn ⟨fun c6 => ⟨(by have := xBl_01 hb; omega), (hp _ (by rw [show i = 4 by omega] at hb; exact hb))⟩, fun c6 => ⟨(by have := xBl_01 hb; omega), fun t0 e0 => ⟨(by have := xBl_01 hb; omega), ⟨(by have := xBl_01 hb; omega), ⟨(by have := xBl_01 hb; omega), ⟨(by have := xBl_01 hb; omega), fun t1 e1 => ⟨fun c28 => ⟨(by have := xBl_01 hb; omega), ⟨(by have := xBl_01 hb; omega), ⟨(by have := xBl_01 hb; omega), ⟨(by have := xBl_01 hb; omega), ⟨fun c54 => (h78 (0) ⟨(by first | exact Or.inl ⟨rfl, (th t0 e0 (by omega)).mpr (by omega)⟩ | exact Or.inr ⟨rfl, fun w9 => by have := (th t0 e0 (by omega)).mp w9; omega⟩), by omega⟩ _ _ _ _ _ (by omega)), fun c54 => ⟨(by have := xBl_01 hb; omega), ⟨(by have := xBl_01 hb; omega), ⟨(by have := xBl_01 hb; omega), ⟨fun c70 => (h78 (0) ⟨(by first | exact Or.inl ⟨rfl, (th t0 e0 (by omega)).mpr (by omega)⟩ | exact Or.inr ⟨rfl, fun w9 => by have := (th t0 e0 (by omega)).mp w9; omega⟩), by omega⟩ _ _ _ _ _ (by omega)), fun c70 => (h78 (1) ⟨(by first | exact Or.inl ⟨rfl, (th t0 e0 (by omega)).mpr (by omega)⟩ | exact Or.inr ⟨rfl, fun w9 => by have := (th t0 e0 (by omega)).mp w9; omega⟩), by omega⟩ _ _ _ _ _ (by omega))⟩⟩⟩⟩⟩⟩⟩⟩⟩, fun c28 => ⟨(by have := xBl_01 hb; omega), ⟨(by have := xBl_01 hb; omega), ⟨(by have := xBl_01 hb; omega), ⟨(by have := xBl_01 hb; omega), ⟨fun c54 => (h78 (0) ⟨(by first | exact Or.inl ⟨rfl, (th t0 e0 (by omega)).mpr (by omega)⟩ | exact Or.inr ⟨rfl, fun w9 => by have := (th t0 e0 (by omega)).mp w9; omega⟩), by omega⟩ _ _ _ _ _ (by omega)), fun c54 => ⟨(by have := xBl_01 hb; omega), ⟨(by have := xBl_01 hb; omega), ⟨(by have := xBl_01 hb; omega), ⟨fun c70 => (h78 (0) ⟨(by first | exact Or.inl ⟨rfl, (th t0 e0 (by omega)).mpr (by omega)⟩ | exact Or.inr ⟨rfl, fun w9 => by have := (th t0 e0 (by omega)).mp w9; omega⟩), by omega⟩ _ _ _ _ _ (by omega)), fun c70 => (h78 (1) ⟨(by first | exact Or.inl ⟨rfl, (th t0 e0 (by omega)).mpr (by omega)⟩ | exact Or.inr ⟨rfl, fun w9 => by have := (th t0 e0 (by omega)).mp w9; omega⟩), by omega⟩ _ _ _ _ _ (by omega))⟩⟩⟩⟩⟩⟩⟩⟩⟩⟩⟩⟩⟩⟩⟩⟩
  exact zp_MBrgt_0 (by omega) hn (lp 5 0 _ 0 0 _ _ _ _ (by omega) (by omega) rfl (Or.inr ⟨rfl, fun z => z (fun f a d => by omega)⟩))
noncomputable def y_MB_isPassedWrong : jY := (⟨"ChessHouseModel$Board", "isPassedWrong", "()Z"⟩, prog_16_method_61_code, 3, (some .boolean))
theorem m_MB_isPassedWrong : jmth lw_tbl y_MB_isPassedWrong 0 := ⟨jTA_in (wi := 2500) (jtF_ok rfl) rfl, jTA_in (wi := 316) (jtF_ok rfl) rfl, by decide, by decide, by decide +kernel⟩
theorem i_MB_isPassedWrong : Jvm.Cond.instanceMethod y_MB_isPassedWrong.1 ∈ jTA lw_tbl := jTA_in (wi := 2499) (jtF_ok rfl) rfl
theorem e_MB_isPassedWrong : Jvm.Cond.selects y_MB_isPassedWrong.1.cls y_MB_isPassedWrong.1 y_MB_isPassedWrong.1 ∈ jTA lw_tbl := jTA_in (wi := 152) (jtF_ok rfl) rfl
noncomputable def ak_ZMBpsw : List jI := [(.aload_n 0, 1, (0, 0, 0, 0, 0)), (.getfield 20, 3, (13, 5, 2180, 0, 0)), (.ifCond .ge 5, 3, (9, 0, 0, 0, 0)), (.iconst 0, 1, (0, 0, 0, 0, 0)), (.ireturn, 1, (0, 0, 0, 0, 0)), (.aload_n 0, 1, (0, 0, 0, 0, 0)), (.getfield 16, 3, (13, 2, 2174, 0, 0)), (.aload_n 0, 1, (0, 0, 0, 0, 0)), (.getfield 20, 3, (13, 5, 2180, 0, 0)), (.iaload, 1, (0, 0, 0, 0, 0)), (.ifCond .ne 25, 3, (43, 0, 0, 0, 0)), (.aload_n 0, 1, (0, 0, 0, 0, 0)), (.getfield 20, 3, (13, 5, 2180, 0, 0)), (.bipush 8, 2, (0, 0, 0, 8, 0)), (.idiv, 1, (0, 0, 0, 0, 0)), (.aload_n 0, 1, (0, 0, 0, 0, 0)), (.getfield 110, 3, (13, 3, 2176, 0, 0)), (.ifCond .ne 7, 3, (39, 0, 0, 0, 0)), (.iconst 5, 1, (0, 0, 0, 5, 0)), (.goto 4, 3, (40, 0, 0, 0, 0)), (.iconst 2, 1, (0, 0, 0, 2, 0)), (.if_icmp .eq 5, 3, (45, 0, 0, 0, 0)), (.iconst 1, 1, (0, 0, 0, 1, 0)), (.ireturn, 1, (0, 0, 0, 0, 0)), (.aload_n 0, 1, (0, 0, 0, 0, 0)), (.getfield 110, 3, (13, 3, 2176, 0, 0)), (.ifCond .ne 8, 3, (57, 0, 0, 0, 0)), (.bipush 8, 2, (0, 0, 0, 8, 0)), (.goto 5, 3, (59, 0, 0, 0, 0)), (.bipush (-8), 2, (0, 0, 0, (-8), 0)), (.istore_n 1, 1, (1, 0, 0, 0, 0)), (.aload_n 0, 1, (0, 0, 0, 0, 0)), (.getfield 16, 3, (13, 2, 2174, 0, 0)), (.aload_n 0, 1, (0, 0, 0, 0, 0)), (.getfield 20, 3, (13, 5, 2180, 0, 0)), (.iload_n 1, 1, (1, 0, 0, 0, 0)), (.isub, 1, (0, 0, 0, 0, 0)), (.iaload, 1, (0, 0, 0, 0, 0)), (.iconst 1, 1, (0, 0, 0, 1, 0)), (.bipush 8, 2, (0, 0, 0, 8, 0)), (.iconst 1, 1, (0, 0, 0, 1, 0)), (.aload_n 0, 1, (0, 0, 0, 0, 0)), (.getfield 110, 3, (13, 3, 2176, 0, 0)), (.isub, 1, (0, 0, 0, 0, 0)), (.imul, 1, (0, 0, 0, 0, 0)), (.iadd, 1, (0, 0, 0, 0, 0)), (.if_icmp .ne 17, 3, (99, 0, 0, 0, 0)), (.aload_n 0, 1, (0, 0, 0, 0, 0)), (.getfield 16, 3, (13, 2, 2174, 0, 0)), (.aload_n 0, 1, (0, 0, 0, 0, 0)), (.getfield 20, 3, (13, 5, 2180, 0, 0)), (.iload_n 1, 1, (1, 0, 0, 0, 0)), (.iadd, 1, (0, 0, 0, 0, 0)), (.iaload, 1, (0, 0, 0, 0, 0)), (.ifCond .eq 5, 3, (101, 0, 0, 0, 0)), (.iconst 1, 1, (0, 0, 0, 1, 0)), (.ireturn, 1, (0, 0, 0, 0, 0)), (.aload_n 0, 1, (0, 0, 0, 0, 0)), (.getfield 110, 3, (13, 3, 2176, 0, 0)), (.ifCond .ne 7, 3, (112, 0, 0, 0, 0)), (.iconst (-1), 1, (0, 0, 0, (-1), 0)), (.goto 4, 3, (113, 0, 0, 0, 0)), (.iconst 1, 1, (0, 0, 0, 1, 0)), (.istore_n 2, 1, (2, 0, 0, 0, 0)), (.aload_n 0, 1, (0, 0, 0, 0, 0)), (.aload_n 0, 1, (0, 0, 0, 0, 0)), (.getfield 20, 3, (13, 5, 2180, 0, 0)), (.iconst (-1), 1, (0, 0, 0, (-1), 0)), (.iload_n 2, 1, (2, 0, 0, 0, 0)), (.invokestatic 82, 3, (0, 0, 2482, 0, 0)), (.iconst 1, 1, (0, 0, 0, 1, 0)), (.bipush 8, 2, (0, 0, 0, 8, 0)), (.aload_n 0, 1, (0, 0, 0, 0, 0)), (.getfield 110, 3, (13, 3, 2176, 0, 0)), (.imul, 1, (0, 0, 0, 0, 0)), (.iadd, 1, (0, 0, 0, 0, 0)), (.invokevirtual 86, 3, (1, 0, 2485, 0, 0)), (.ifCond .ne 32, 3, (168, 0, 0, 0, 0)), (.aload_n 0, 1, (0, 0, 0, 0, 0)), (.aload_n 0, 1, (0, 0, 0, 0, 0)), (.getfield 20, 3, (13, 5, 2180, 0, 0)), (.iconst 1, 1, (0, 0, 0, 1, 0)), (.iload_n 2, 1, (2, 0, 0, 0, 0)), (.invokestatic 82, 3, (0, 0, 2482, 0, 0)), (.iconst 1, 1, (0, 0, 0, 1, 0)), (.bipush 8, 2, (0, 0, 0, 8, 0)), (.aload_n 0, 1, (0, 0, 0, 0, 0)), (.getfield 110, 3, (13, 3, 2176, 0, 0)), (.imul, 1, (0, 0, 0, 0, 0)), (.iadd, 1, (0, 0, 0, 0, 0)), (.invokevirtual 86, 3, (1, 0, 2485, 0, 0)), (.ifCond .ne 7, 3, (168, 0, 0, 0, 0)), (.iconst 1, 1, (0, 0, 0, 1, 0)), (.goto 4, 3, (169, 0, 0, 0, 0)), (.iconst 0, 1, (0, 0, 0, 0, 0)), (.ireturn, 1, (0, 0, 0, 0, 0))]
theorem ao_ZMBpsw : jokLG jtF lk_MB "ChessHouseModel$Board" jcl jtb 3 prog_16_method_61_code 0 ak_ZMBpsw = true := by decide +kernel
noncomputable def zm_MBpsw : zM := (some .boolean, { frames := 2, cells := 0, slots := 0, locals := 45 }, ([(82, 2482, 0), (86, 2485, 1)], []), [(y_MB_step, true, 3, 0, { frames := 1, cells := 0, slots := 0, locals := 21 }, zc_MBstp), (y_MB_hasMan, false, 3, 13, { frames := 0, cells := 0, slots := 0, locals := 0 }, zc_MBhas)], ak_ZMBpsw)
noncomputable def zc_MBpsw (vals : List zv) (W : zW) (post : zPo) : Prop := vals = [.inr (.inr (some (.inl 116)))] ∧ (zKb W) ∧ ∀ r : Int, (xBl r (¬ (W.1 116 5 < 0 ∨ pPw (zQb W)))) → post (some (.inl r)) W
set_option maxRecDepth 8000 in
theorem zp_MBpsw_0 {n K : Nat} {W : zW} {post : zPo} {u1 u2 : Option zv} (hK : 21 ≤ K) (hn : 142 ≤ n) (h : (0 ≤ (W.1 116 5) → (0 ≤ (W.1 116 5) ∧ (W.1 116 5) < 64) ∧ (¬ (W.2.1 118 (W.1 116 5)) = 0 → post (some (.inl (1))) W) ∧ ((W.2.1 118 (W.1 116 5)) = 0 → (0 ≤ (W.1 116 5) ∧ (W.1 116 5) ≤ 2147483647) ∧ ∀ t0 : Int, t0 = (W.1 116 5) / 8 → (¬ (W.1 116 3) = 0 → (t0 = 2 → zwp jtb zsh n zm_MBpsw post (K - 18) (lGo ak_ZMBpsw 45) 45 [some (.inr (.inr (some (.inl 116)))), u1, u2] [] W) ∧ (¬ t0 = 2 → post (some (.inl (1))) W)) ∧ ((W.1 116 3) = 0 → (t0 = 5 → zwp jtb zsh n zm_MBpsw post (K - 19) (lGo ak_ZMBpsw 45) 45 [some (.inr (.inr (some (.inl 116)))), u1, u2] [] W) ∧ (¬ t0 = 5 → post (some (.inl (1))) W)))) ∧ (¬ 0 ≤ (W.1 116 5) → post (some (.inl (0))) W)) : zwp jtb zsh n zm_MBpsw post K (lGo ak_ZMBpsw 0) 0 [some (.inr (.inr (some (.inl 116)))), u1, u2] [] W := by
  obtain ⟨kk__, rfl⟩ : ∃ kk__, K = kk__ + 21 := ⟨K - 21, by omega⟩
  exact (show 116 < n ∧ 13 = 13 ∧ (0 ≤ (W.1 116 5) → 116 < n ∧ 13 = 13 ∧ 116 < n ∧ 13 = 13 ∧ 118 < n ∧ FieldType.int = FieldType.int ∧ (0 ≤ (W.1 116 5) ∧ (W.1 116 5) < 64) ∧ (¬ (W.2.1 118 (W.1 116 5)) = 0 → 1 = 1 ∧ ((1 : Int) = 0 ∨ (1 : Int) = 1) ∧ post (some (.inl (1))) W) ∧ ((W.2.1 118 (W.1 116 5)) = 0 → 116 < n ∧ 13 = 13 ∧ ¬ (8 : Int) = 0 ∧ 116 < n ∧ 13 = 13 ∧ (¬ (W.1 116 3) = 0 → (((lI (W.1 116 5) / lI 8).toInt) = 2 → zwp jtb zsh n zm_MBpsw post (kk__ + 3) (lGo ak_ZMBpsw 45) 45 [some (.inr (.inr (some (.inl 116)))), u1, u2] [] W) ∧ (¬ ((lI (W.1 116 5) / lI 8).toInt) = 2 → 1 = 1 ∧ ((1 : Int) = 0 ∨ (1 : Int) = 1) ∧ post (some (.inl (1))) W)) ∧ ((W.1 116 3) = 0 → (((lI (W.1 116 5) / lI 8).toInt) = 5 → zwp jtb zsh n zm_MBpsw post (kk__ + 2) (lGo ak_ZMBpsw 45) 45 [some (.inr (.inr (some (.inl 116)))), u1, u2] [] W) ∧ (¬ ((lI (W.1 116 5) / lI 8).toInt) = 5 → 1 = 1 ∧ ((1 : Int) = 0 ∨ (1 : Int) = 1) ∧ post (some (.inl (1))) W)))) ∧ (¬ 0 ≤ (W.1 116 5) → 1 = 1 ∧ ((0 : Int) = 0 ∨ (0 : Int) = 1) ∧ post (some (.inl (0))) W) from ⟨(Nat.lt_of_lt_of_le (by decide) hn), rfl, ⟨fun c4_2 => ⟨(Nat.lt_of_lt_of_le (by decide) hn), rfl, ⟨(Nat.lt_of_lt_of_le (by decide) hn), rfl, ⟨(Nat.lt_of_lt_of_le (by decide) hn), rfl, (((h).1 c4_2)).1, ⟨fun c18_8 => (have h := (((((h).1 c4_2)).2).1 c18_8); ⟨rfl, Or.inr rfl, h⟩), fun c18_8 => (have h := (((((h).1 c4_2)).2).2 c18_8); ⟨(Nat.lt_of_lt_of_le (by decide) hn), rfl, ⟨(by decide), (have h := ((h).2 _ (z_dv (by decide) (h).1)); ⟨(Nat.lt_of_lt_of_le (by decide) hn), rfl, ⟨fun c32_15 => ⟨fun c40_17 => ((((h).1 c32_15)).1 c40_17), fun c40_17 => (have h := ((((h).1 c32_15)).2 c40_17); ⟨rfl, Or.inr rfl, h⟩)⟩, fun c32_15 => ⟨fun c40_18 => ((((h).2 c32_15)).1 c40_18), fun c40_18 => (have h := ((((h).2 c32_15)).2 c40_18); ⟨rfl, Or.inr rfl, h⟩)⟩⟩⟩)⟩⟩)⟩⟩⟩⟩, fun c4_2 => ⟨rfl, Or.inl rfl, ((h).2 c4_2)⟩⟩⟩)
set_option maxRecDepth 8000 in
theorem zp_MBpsw_45 {n K : Nat} {W : zW} {post : zPo} {u1 u2 : Option zv} (hK : 5 ≤ K) (hn : 142 ≤ n) (h : (¬ (W.1 116 3) = 0 → zwp jtb zsh n zm_MBpsw post (K - 4) (lGo ak_ZMBpsw 59) 59 [some (.inr (.inr (some (.inl 116)))), u1, u2] [.inl (-8)] W) ∧ ((W.1 116 3) = 0 → zwp jtb zsh n zm_MBpsw post (K - 5) (lGo ak_ZMBpsw 59) 59 [some (.inr (.inr (some (.inl 116)))), u1, u2] [.inl (8)] W)) : zwp jtb zsh n zm_MBpsw post K (lGo ak_ZMBpsw 45) 45 [some (.inr (.inr (some (.inl 116)))), u1, u2] [] W := by
  obtain ⟨kk__, rfl⟩ : ∃ kk__, K = kk__ + 5 := ⟨K - 5, by omega⟩
  exact (show 116 < n ∧ 13 = 13 ∧ (¬ (W.1 116 3) = 0 → zwp jtb zsh n zm_MBpsw post (kk__ + 1) (lGo ak_ZMBpsw 59) 59 [some (.inr (.inr (some (.inl 116)))), u1, u2] [.inl (-8)] W) ∧ ((W.1 116 3) = 0 → zwp jtb zsh n zm_MBpsw post (kk__ + 0) (lGo ak_ZMBpsw 59) 59 [some (.inr (.inr (some (.inl 116)))), u1, u2] [.inl (8)] W) from ⟨(Nat.lt_of_lt_of_le (by decide) hn), rfl, ⟨fun c49_2 => ((h).1 c49_2), fun c49_2 => ((h).2 c49_2)⟩⟩)
set_option maxRecDepth 8000 in
theorem zp_MBpsw_59 {n K : Nat} {W : zW} {post : zPo} {a : Int} {u1 u2 : Option zv} (hK : 27 ≤ K) (hn : 142 ≤ n) (h : (-2147483648 ≤ (W.1 116 5) - a ∧ (W.1 116 5) - a ≤ 2147483647) ∧ (0 ≤ ((W.1 116 5) - a) ∧ ((W.1 116 5) - a) < 64) ∧ (-2147483648 ≤ 1 - (W.1 116 3) ∧ 1 - (W.1 116 3) ≤ 2147483647) ∧ (-2147483648 ≤ 8 * (1 - (W.1 116 3)) ∧ 8 * (1 - (W.1 116 3)) ≤ 2147483647) ∧ (-2147483648 ≤ 1 + (8 * (1 - (W.1 116 3))) ∧ 1 + (8 * (1 - (W.1 116 3))) ≤ 2147483647) ∧ (¬ (W.2.1 118 ((W.1 116 5) - a)) = (1 + (8 * (1 - (W.1 116 3)))) → post (some (.inl (1))) W) ∧ ((W.2.1 118 ((W.1 116 5) - a)) = (1 + (8 * (1 - (W.1 116 3)))) → (-2147483648 ≤ (W.1 116 5) + a ∧ (W.1 116 5) + a ≤ 2147483647) ∧ (0 ≤ ((W.1 116 5) + a) ∧ ((W.1 116 5) + a) < 64) ∧ ((W.2.1 118 ((W.1 116 5) + a)) = 0 → zwp jtb zsh n zm_MBpsw post (K - 25) (lGo ak_ZMBpsw 101) 101 [some (.inr (.inr (some (.inl 116)))), some (.inl (a)), u2] [] W) ∧ (¬ (W.2.1 118 ((W.1 116 5) + a)) = 0 → post (some (.inl (1))) W))) : zwp jtb zsh n zm_MBpsw post K (lGo ak_ZMBpsw 59) 59 [some (.inr (.inr (some (.inl 116)))), u1, u2] [.inl (a)] W := by
  obtain ⟨kk__, rfl⟩ : ∃ kk__, K = kk__ + 27 := ⟨K - 27, by omega⟩
  exact (show 116 < n ∧ 13 = 13 ∧ 116 < n ∧ 13 = 13 ∧ (-2147483648 ≤ (W.1 116 5) - a ∧ (W.1 116 5) - a ≤ 2147483647) ∧ 118 < n ∧ FieldType.int = FieldType.int ∧ (0 ≤ ((W.1 116 5) - a) ∧ ((W.1 116 5) - a) < 64) ∧ 116 < n ∧ 13 = 13 ∧ (-2147483648 ≤ 1 - (W.1 116 3) ∧ 1 - (W.1 116 3) ≤ 2147483647) ∧ (-2147483648 ≤ 8 * (1 - (W.1 116 3)) ∧ 8 * (1 - (W.1 116 3)) ≤ 2147483647) ∧ (-2147483648 ≤ 1 + (8 * (1 - (W.1 116 3))) ∧ 1 + (8 * (1 - (W.1 116 3))) ≤ 2147483647) ∧ (¬ (W.2.1 118 ((W.1 116 5) - a)) = (1 + (8 * (1 - (W.1 116 3)))) → 1 = 1 ∧ ((1 : Int) = 0 ∨ (1 : Int) = 1) ∧ post (some (.inl (1))) W) ∧ ((W.2.1 118 ((W.1 116 5) - a)) = (1 + (8 * (1 - (W.1 116 3)))) → 116 < n ∧ 13 = 13 ∧ 116 < n ∧ 13 = 13 ∧ (-2147483648 ≤ (W.1 116 5) + a ∧ (W.1 116 5) + a ≤ 2147483647) ∧ 118 < n ∧ FieldType.int = FieldType.int ∧ (0 ≤ ((W.1 116 5) + a) ∧ ((W.1 116 5) + a) < 64) ∧ ((W.2.1 118 ((W.1 116 5) + a)) = 0 → zwp jtb zsh n zm_MBpsw post (kk__ + 2) (lGo ak_ZMBpsw 101) 101 [some (.inr (.inr (some (.inl 116)))), some (.inl (a)), u2] [] W) ∧ (¬ (W.2.1 118 ((W.1 116 5) + a)) = 0 → 1 = 1 ∧ ((1 : Int) = 0 ∨ (1 : Int) = 1) ∧ post (some (.inl (1))) W)) from ⟨(Nat.lt_of_lt_of_le (by decide) hn), rfl, ⟨(Nat.lt_of_lt_of_le (by decide) hn), rfl, ⟨(h).1, ⟨(Nat.lt_of_lt_of_le (by decide) hn), rfl, ((h).2).1, ⟨(Nat.lt_of_lt_of_le (by decide) hn), rfl, ⟨(((h).2).2).1, ⟨((((h).2).2).2).1, ⟨(((((h).2).2).2).2).1, ⟨fun c82_16 => (have h := (((((((h).2).2).2).2).2).1 c82_16); ⟨rfl, Or.inr rfl, h⟩), fun c82_16 => (have h := (((((((h).2).2).2).2).2).2 c82_16); ⟨(Nat.lt_of_lt_of_le (by decide) hn), rfl, ⟨(Nat.lt_of_lt_of_le (by decide) hn), rfl, ⟨(h).1, ⟨(Nat.lt_of_lt_of_le (by decide) hn), rfl, ((h).2).1, ⟨fun c96_24 => ((((h).2).2).1 c96_24), fun c96_24 => ⟨rfl, Or.inr rfl, ((((h).2).2).2 c96_24)⟩⟩⟩⟩⟩⟩)⟩⟩⟩⟩⟩⟩⟩⟩⟩)
set_option maxRecDepth 8000 in
theorem zp_MBpsw_101 {n K : Nat} {W : zW} {post : zPo} {a : Int} {u2 : Option zv} (hK : 5 ≤ K) (hn : 142 ≤ n) (h : (¬ (W.1 116 3) = 0 → zwp jtb zsh n zm_MBpsw post (K - 4) (lGo ak_ZMBpsw 113) 113 [some (.inr (.inr (some (.inl 116)))), some (.inl (a)), u2] [.inl (1)] W) ∧ ((W.1 116 3) = 0 → zwp jtb zsh n zm_MBpsw post (K - 5) (lGo ak_ZMBpsw 113) 113 [some (.inr (.inr (some (.inl 116)))), some (.inl (a)), u2] [.inl (-1)] W)) : zwp jtb zsh n zm_MBpsw post K (lGo ak_ZMBpsw 101) 101 [some (.inr (.inr (some (.inl 116)))), some (.inl (a)), u2] [] W := by
  obtain ⟨kk__, rfl⟩ : ∃ kk__, K = kk__ + 5 := ⟨K - 5, by omega⟩
  exact (show 116 < n ∧ 13 = 13 ∧ (¬ (W.1 116 3) = 0 → zwp jtb zsh n zm_MBpsw post (kk__ + 1) (lGo ak_ZMBpsw 113) 113 [some (.inr (.inr (some (.inl 116)))), some (.inl (a)), u2] [.inl (1)] W) ∧ ((W.1 116 3) = 0 → zwp jtb zsh n zm_MBpsw post (kk__ + 0) (lGo ak_ZMBpsw 113) 113 [some (.inr (.inr (some (.inl 116)))), some (.inl (a)), u2] [.inl (-1)] W) from ⟨(Nat.lt_of_lt_of_le (by decide) hn), rfl, ⟨fun c105_2 => ((h).1 c105_2), fun c105_2 => ((h).2 c105_2)⟩⟩)
set_option maxRecDepth 8000 in
theorem zp_MBpsw_113 {n K : Nat} {W : zW} {post : zPo} {a x : Int} {u2 : Option zv} (hK : 32 ≤ K) (hn : 142 ≤ n) (h : (0 ≤ (W.1 116 5) ∧ (W.1 116 5) ≤ 63 ∧ -2 ≤ (-1 : Int) ∧ (-1 : Int) ≤ 2 ∧ -2 ≤ x ∧ x ≤ 2) ∧ ∀ r121 : Int, (r121 = rSp (W.1 116 5) (-1 : Int) x) → (-2147483648 ≤ 8 * (W.1 116 3) ∧ 8 * (W.1 116 3) ≤ 2147483647) ∧ (-2147483648 ≤ 1 + (8 * (W.1 116 3)) ∧ 1 + (8 * (W.1 116 3)) ≤ 2147483647) ∧ (-1 ≤ r121 ∧ r121 ≤ 63) ∧ ∀ r133 : Int, (xBl r133 (0 ≤ r121 ∧ zMb W r121 = (1 + (8 * (W.1 116 3))))) → (¬ r133 = 0 → post (some (.inl (0))) W) ∧ (r133 = 0 → (0 ≤ (W.1 116 5) ∧ (W.1 116 5) ≤ 63 ∧ -2 ≤ (1 : Int) ∧ (1 : Int) ≤ 2 ∧ -2 ≤ x ∧ x ≤ 2) ∧ ∀ r146 : Int, (r146 = rSp (W.1 116 5) (1 : Int) x) → (-2147483648 ≤ 8 * (W.1 116 3) ∧ 8 * (W.1 116 3) ≤ 2147483647) ∧ (-2147483648 ≤ 1 + (8 * (W.1 116 3)) ∧ 1 + (8 * (W.1 116 3)) ≤ 2147483647) ∧ (-1 ≤ r146 ∧ r146 ≤ 63) ∧ ∀ r158 : Int, (xBl r158 (0 ≤ r146 ∧ zMb W r146 = (1 + (8 * (W.1 116 3))))) → (¬ r158 = 0 → post (some (.inl (0))) W) ∧ (r158 = 0 → post (some (.inl (1))) W))) : zwp jtb zsh n zm_MBpsw post K (lGo ak_ZMBpsw 113) 113 [some (.inr (.inr (some (.inl 116)))), some (.inl (a)), u2] [.inl (x)] W := by
  obtain ⟨kk__, rfl⟩ : ∃ kk__, K = kk__ + 32 := ⟨K - 32, by omega⟩
  exact (show 116 < n ∧ 13 = 13 ∧ 3 = 3 ∧ true = true ∧ jin3 82 2482 0 zm_MBpsw.2.2.1.1 = true ∧ lRm zm_MBpsw.2.1 { frames := 1, cells := 0, slots := 0, locals := 21 } 5 = true ∧ Nat.ble 3 4 = true ∧ Nat.ble 1 8 = true ∧ zc_MBstp [.inl (W.1 116 5), .inl (-1), .inl (x)] W (fun vv__ WW__ => zwp jtb zsh n zm_MBpsw post (kk__ + 25) (lGo ak_ZMBpsw 124) 124 [some (.inr (.inr (some (.inl 116)))), some (.inl (a)), some (.inl (x))] (vv__.toList ++ [.inr (.inr (some (.inl 116)))]) WW__) from ⟨(Nat.lt_of_lt_of_le (by decide) hn), rfl, ⟨rfl, rfl, rfl, rfl, rfl, rfl, W.1 116 5, -1, x, rfl, (h).1, fun r121 hr121 => (show 116 < n ∧ 13 = 13 ∧ (-2147483648 ≤ 8 * (W.1 116 3) ∧ 8 * (W.1 116 3) ≤ 2147483647) ∧ (-2147483648 ≤ 1 + (8 * (W.1 116 3)) ∧ 1 + (8 * (W.1 116 3)) ≤ 2147483647) ∧ 3 = 3 ∧ false = false ∧ jin3 86 2485 1 zm_MBpsw.2.2.1.1 = true ∧ lRm zm_MBpsw.2.1 { frames := 0, cells := 0, slots := 0, locals := 0 } 3 = true ∧ Nat.ble 3 3 = true ∧ Nat.ble 0 8 = true ∧ 116 < n ∧ 13 = 13 ∧ Nat.ble 1000 13 = false ∧ zc_MBhas [.inr (.inr (some (.inl 116))), .inl (r121), .inl (1 + (8 * (W.1 116 3)))] W (fun vv__ WW__ => zwp jtb zsh n zm_MBpsw post (kk__ + 18) (lGo ak_ZMBpsw 136) 136 [some (.inr (.inr (some (.inl 116)))), some (.inl (a)), some (.inl (x))] (vv__.toList ++ []) WW__) from ⟨(Nat.lt_of_lt_of_le (by decide) hn), rfl, ⟨(((h).2 r121 hr121)).1, ⟨((((h).2 r121 hr121)).2).1, (have h := ((((h).2 r121 hr121)).2).2; ⟨rfl, rfl, rfl, rfl, rfl, rfl, (Nat.lt_of_lt_of_le (by decide) hn), rfl, rfl, r121, 1 + (8 * (W.1 116 3)), rfl, (h).1, fun r133 hr133 => (show (¬ r133 = 0 → 1 = 1 ∧ ((0 : Int) = 0 ∨ (0 : Int) = 1) ∧ post (some (.inl (0))) W) ∧ (r133 = 0 → 116 < n ∧ 13 = 13 ∧ 3 = 3 ∧ true = true ∧ jin3 82 2482 0 zm_MBpsw.2.2.1.1 = true ∧ lRm zm_MBpsw.2.1 { frames := 1, cells := 0, slots := 0, locals := 21 } 5 = true ∧ Nat.ble 3 4 = true ∧ Nat.ble 1 8 = true ∧ zc_MBstp [.inl (W.1 116 5), .inl (1), .inl (x)] W (fun vv__ WW__ => zwp jtb zsh n zm_MBpsw post (kk__ + 11) (lGo ak_ZMBpsw 149) 149 [some (.inr (.inr (some (.inl 116)))), some (.inl (a)), some (.inl (x))] (vv__.toList ++ [.inr (.inr (some (.inl 116)))]) WW__)) from ⟨fun c136_14 => (have h := ((((h).2 r133 hr133)).1 c136_14); ⟨rfl, Or.inl rfl, h⟩), fun c136_14 => (have h := ((((h).2 r133 hr133)).2 c136_14); ⟨(Nat.lt_of_lt_of_le (by decide) hn), rfl, ⟨rfl, rfl, rfl, rfl, rfl, rfl, W.1 116 5, 1, x, rfl, (h).1, fun r146 hr146 => (show 116 < n ∧ 13 = 13 ∧ (-2147483648 ≤ 8 * (W.1 116 3) ∧ 8 * (W.1 116 3) ≤ 2147483647) ∧ (-2147483648 ≤ 1 + (8 * (W.1 116 3)) ∧ 1 + (8 * (W.1 116 3)) ≤ 2147483647) ∧ 3 = 3 ∧ false = false ∧ jin3 86 2485 1 zm_MBpsw.2.2.1.1 = true ∧ lRm zm_MBpsw.2.1 { frames := 0, cells := 0, slots := 0, locals := 0 } 3 = true ∧ Nat.ble 3 3 = true ∧ Nat.ble 0 8 = true ∧ 116 < n ∧ 13 = 13 ∧ Nat.ble 1000 13 = false ∧ zc_MBhas [.inr (.inr (some (.inl 116))), .inl (r146), .inl (1 + (8 * (W.1 116 3)))] W (fun vv__ WW__ => zwp jtb zsh n zm_MBpsw post (kk__ + 4) (lGo ak_ZMBpsw 161) 161 [some (.inr (.inr (some (.inl 116)))), some (.inl (a)), some (.inl (x))] (vv__.toList ++ []) WW__) from ⟨(Nat.lt_of_lt_of_le (by decide) hn), rfl, ⟨(((h).2 r146 hr146)).1, ⟨((((h).2 r146 hr146)).2).1, (have h := ((((h).2 r146 hr146)).2).2; ⟨rfl, rfl, rfl, rfl, rfl, rfl, (Nat.lt_of_lt_of_le (by decide) hn), rfl, rfl, r146, 1 + (8 * (W.1 116 3)), rfl, (h).1, fun r158 hr158 => (show (¬ r158 = 0 → 1 = 1 ∧ ((0 : Int) = 0 ∨ (0 : Int) = 1) ∧ post (some (.inl (0))) W) ∧ (r158 = 0 → 1 = 1 ∧ ((1 : Int) = 0 ∨ (1 : Int) = 1) ∧ post (some (.inl (1))) W) from ⟨fun c161_28 => (have h := ((((h).2 r158 hr158)).1 c161_28); ⟨rfl, Or.inl rfl, h⟩), fun c161_28 => (have h := ((((h).2 r158 hr158)).2 c161_28); ⟨rfl, Or.inr rfl, h⟩)⟩)⟩)⟩⟩⟩)⟩⟩)⟩)⟩)⟩⟩⟩)⟩⟩)
theorem zk_MBpsw {l : Launch} {E : jE} {n : Nat} (hn : 142 ≤ n) : zHas l E jcl jtb lw_tbl zsh n (y_MB_isPassedWrong, false, 1, 13, { frames := 2, cells := 0, slots := 0, locals := 45 }, zc_MBpsw) := by
  refine ⟨⟨rfl, rfl, ⟨show 1 ≤ 1 by decide, m_MB_isPassedWrong, i_MB_isPassedWrong, e_MB_isPassedWrong, fun _ => ⟨_, rfl, rfl⟩⟩⟩, ?_⟩
  rintro vz W po hO hW ⟨rfl, hq, hp⟩
  refine zmet (m := zm_MBpsw) rfl (by decide) (fun _ _ => jtF_ok) lo_MB ao_ZMBpsw jC (fun q h => by cases h) (aAllc (fun G h => by obtain rfl := Option.some.inj h; exact ql_MB_82) (aAllc (fun G h => by obtain rfl := Option.some.inj h; exact ql_MB_86) (fun q h => by cases h))) (aAllc (zk_MBstp hn) (aAllc (zk_MBhas hn) (fun q h => by cases h))) (Nat.le_of_ble_eq_true rfl) hO hW (400) ?_
  have hs := hq.2.1
  have h5 := hq.2.2.2
  have h45 : 0 ≤ W.1 116 5 → (W.1 116 5 / 8 = (if W.1 116 3 = 0 then (5 : Int) else 2) ∧ zMb W (W.1 116 5) = 0) → ∀ (K : Nat) (u1 u2 : Option zv), 200 ≤ K → zwp jtb zsh n zm_MBpsw po K (lGo ak_ZMBpsw 45) 45 [some (.inr (.inr (some (.inl 116)))), u1, u2] [] W := by
    intro h0 q1 K u1 u2 hK
    have pl : W.1 116 5 / 8 = 5 ∨ W.1 116 5 / 8 = 2 := by
      have z := q1.1
      split at z <;> omega
    have h101 : ((W.1 116 5 / 8 = (if W.1 116 3 = 0 then (5 : Int) else 2) ∧ zMb W (W.1 116 5) = 0) ∧ zMb W (W.1 116 5 + (if W.1 116 3 = 0 then (8 : Int) else -8)) = 0 ∧ zMb W (W.1 116 5 - (if W.1 116 3 = 0 then (8 : Int) else -8)) = 1 + 8 * (1 - W.1 116 3)) → ∀ (a : Int) (K : Nat) (u2 : Option zv), 100 ≤ K → zwp jtb zsh n zm_MBpsw po K (lGo ak_ZMBpsw 101) 101 [some (.inr (.inr (some (.inl 116)))), some (.inl (a)), u2] [] W := by
      intro q2 a K u2 hK
      have h113 : ∀ x : Int, x = (if W.1 116 3 = 0 then (-1 : Int) else 1) → ∀ (K : Nat) (u2 : Option zv), 60 ≤ K → zwp jtb zsh n zm_MBpsw po K (lGo ak_ZMBpsw 113) 113 [some (.inr (.inr (some (.inl 116)))), some (.inl (a)), u2] [.inl x] W := by
        intro x hx K u2 hK
        have hxb : x = -1 ∨ x = 1 := by rw [hx]; split <;> omega
        have pw : pPw (zQb W) ↔ (((W.1 116 5 / 8 = (if W.1 116 3 = 0 then (5 : Int) else 2) ∧ zMb W (W.1 116 5) = 0) ∧ zMb W (W.1 116 5 + (if W.1 116 3 = 0 then (8 : Int) else -8)) = 0 ∧ zMb W (W.1 116 5 - (if W.1 116 3 = 0 then (8 : Int) else -8)) = 1 + 8 * (1 - W.1 116 3)) ∧ ((0 ≤ rSp (W.1 116 5) (-1) x ∧ zMb W (rSp (W.1 116 5) (-1) x) = 1 + 8 * W.1 116 3) ∨ (0 ≤ rSp (W.1 116 5) 1 x ∧ zMb W (rSp (W.1 116 5) 1 x) = 1 + 8 * W.1 116 3))) := by
          rw [hx]
          exact ⟨fun h => ⟨⟨⟨h.1, h.2.1⟩, h.2.2.1, h.2.2.2.1⟩, h.2.2.2.2⟩, fun h => ⟨h.1.1.1, h.1.1.2, h.1.2.1, h.1.2.2, h.2⟩⟩
        exact zp_MBpsw_113 (by omega) hn ⟨(by omega), fun r121 hr121 => ⟨(by omega), ⟨(by omega), ⟨(by rw [hr121]; have := rSp_r (f := -1) (r := x) (s := W.1 116 5) (by omega) (by omega); omega), fun r133 hr133 => ⟨fun c136 => (hp _ (Or.inr ⟨rfl, fun z => z (Or.inr (pw.mpr ⟨q2, by first | exact Or.inl (by rw [← hr121]; exact xBl_1 hr133 (by omega)) | exact Or.inr (by rw [← hr146]; exact xBl_1 hr158 (by omega))⟩))⟩)), fun c136 => ⟨(by omega), fun r146 hr146 => ⟨(by omega), ⟨(by omega), ⟨(by rw [hr146]; have := rSp_r (f := 1) (r := x) (s := W.1 116 5) (by omega) (by omega); omega), fun r158 hr158 => ⟨fun c161 => (hp _ (Or.inr ⟨rfl, fun z => z (Or.inr (pw.mpr ⟨q2, by first | exact Or.inl (by rw [← hr121]; exact xBl_1 hr133 (by omega)) | exact Or.inr (by rw [← hr146]; exact xBl_1 hr158 (by omega))⟩))⟩)), fun c161 => (hp _ (Or.inl ⟨rfl, fun z => z.elim (fun y => by omega) (fun y => (pw.mp y).2.elim (fun w => xBl_0 hr133 (by omega) (by rw [hr121]; exact w)) (fun w => xBl_0 hr158 (by omega) (by rw [hr146]; exact w)))⟩))⟩⟩⟩⟩⟩⟩⟩⟩⟩⟩
      exact zp_MBpsw_101 (by omega) hn ⟨fun c105 => (h113 (1) (by first | rw [if_pos (by omega)] | rw [if_neg (by omega)]) _ _ (by omega)), fun c105 => (h113 (-1) (by first | rw [if_pos (by omega)] | rw [if_neg (by omega)]) _ _ (by omega))⟩
    have h59 : ∀ a : Int, a = (if W.1 116 3 = 0 then (8 : Int) else -8) → (a = 8 ∨ a = -8) → ∀ (K : Nat) (u1 u2 : Option zv), 150 ≤ K → zwp jtb zsh n zm_MBpsw po K (lGo ak_ZMBpsw 59) 59 [some (.inr (.inr (some (.inl 116)))), u1, u2] [.inl a] W := by
      intro a ha ha8 K u1 u2 hK
      exact zp_MBpsw_59 (by omega) hn ⟨(by omega), ⟨(by omega), ⟨(by omega), ⟨(by omega), ⟨(by omega), ⟨fun c82 => (hp _ (Or.inl ⟨rfl, fun z => z.elim (fun y => by omega) (fun y => by have y3 : zMb W (W.1 116 5 + (if W.1 116 3 = 0 then (8 : Int) else -8)) = 0 := y.2.2.1; have y4 : zMb W (W.1 116 5 - (if W.1 116 3 = 0 then (8 : Int) else -8)) = 1 + 8 * (1 - W.1 116 3) := y.2.2.2.1; rw [← ha] at y3 y4; rw [zMb_i (by omega)] at y3 y4; omega)⟩)), fun c82 => ⟨(by omega), ⟨(by omega), ⟨fun c96 => (h101 ⟨q1, by rw [← ha, zMb_i (by omega)]; omega, by rw [← ha, zMb_i (by omega)]; omega⟩ a _ _ (by omega)), fun c96 => (hp _ (Or.inl ⟨rfl, fun z => z.elim (fun y => by omega) (fun y => by have y3 : zMb W (W.1 116 5 + (if W.1 116 3 = 0 then (8 : Int) else -8)) = 0 := y.2.2.1; have y4 : zMb W (W.1 116 5 - (if W.1 116 3 = 0 then (8 : Int) else -8)) = 1 + 8 * (1 - W.1 116 3) := y.2.2.2.1; rw [← ha] at y3 y4; rw [zMb_i (by omega)] at y3 y4; omega)⟩))⟩⟩⟩⟩⟩⟩⟩⟩⟩
    exact zp_MBpsw_45 (by omega) hn ⟨fun c49 => (h59 (-8) (by first | rw [if_pos (by omega)] | rw [if_neg (by omega)]) (by omega) _ _ _ (by omega)), fun c49 => (h59 (8) (by first | rw [if_pos (by omega)] | rw [if_neg (by omega)]) (by omega) _ _ _ (by omega))⟩
  exact zp_MBpsw_0 (by omega) hn ⟨fun c4 => ⟨(by omega), ⟨fun c18 => (hp _ (Or.inl ⟨rfl, fun z => z.elim (fun y => by omega) (fun y => by have y1 : W.1 116 5 / 8 = (if W.1 116 3 = 0 then (5 : Int) else 2) := y.1; have y2 : zMb W (W.1 116 5) = 0 := y.2.1; rw [zMb_i (by omega)] at y2; split at y1 <;> omega)⟩)), fun c18 => ⟨(by omega), fun t0 e0 => ⟨fun c32 => ⟨fun c40 => (h45 (by omega) ⟨by rw [← e0]; first | (rw [if_pos (by omega)]; omega) | (rw [if_neg (by omega)]; omega), by rw [zMb_i (by omega)]; omega⟩ _ _ _ (by omega)), fun c40 => (hp _ (Or.inl ⟨rfl, fun z => z.elim (fun y => by omega) (fun y => by have y1 : W.1 116 5 / 8 = (if W.1 116 3 = 0 then (5 : Int) else 2) := y.1; have y2 : zMb W (W.1 116 5) = 0 := y.2.1; rw [zMb_i (by omega)] at y2; split at y1 <;> omega)⟩))⟩, fun c32 => ⟨fun c40 => (h45 (by omega) ⟨by rw [← e0]; first | (rw [if_pos (by omega)]; omega) | (rw [if_neg (by omega)]; omega), by rw [zMb_i (by omega)]; omega⟩ _ _ _ (by omega)), fun c40 => (hp _ (Or.inl ⟨rfl, fun z => z.elim (fun y => by omega) (fun y => by have y1 : W.1 116 5 / 8 = (if W.1 116 3 = 0 then (5 : Int) else 2) := y.1; have y2 : zMb W (W.1 116 5) = 0 := y.2.1; rw [zMb_i (by omega)] at y2; split at y1 <;> omega)⟩))⟩⟩⟩⟩⟩, fun c4 => (hp _ (Or.inr ⟨rfl, fun z => z (Or.inl (by omega))⟩))⟩
end
section
/-! the reference: the fault of a position's text; what stands on the board goes to the game -/
theorem pRk_l {c : Int → Int} {r : Int} : ∀ (k : Nat) (p f d : Int) (M : Int → Int) (x : Int × (Int → Int)), pRk c r k p f d M = some x → 0 ≤ f → x.1 ≤ p + (8 - f) ∧ f ≤ 8
  | 0, _, _, _, _, x, h, _ => by unfold pRk at h; cases h
  | k + 1, p, f, d, M, x, h, f0 => by
    unfold pRk at h
    by_cases c1 : 8 ≤ f
    · rw [if_pos c1] at h
      by_cases c2 : f = 8
      · rw [if_pos c2] at h; cases h; exact ⟨by show p ≤ p + (8 - f); omega, by omega⟩
      · rw [if_neg c2] at h; cases h
    · rw [if_neg c1] at h
      by_cases c2 : 49 ≤ c p ∧ c p ≤ 56 ∧ d = 0
      · rw [if_pos c2] at h
        have := pRk_l k _ _ _ _ x h (by omega); omega
      · rw [if_neg c2] at h
        by_cases c3 : 0 < pMn (c p)
        · rw [if_pos c3] at h
          have := pRk_l k _ _ _ _ x h (by omega); omega
        · rw [if_neg c3] at h; cases h
theorem pRs_l {c : Int → Int} : ∀ (n : Nat) (p : Int) (M : Int → Int) (x : Int × (Int → Int)), pRs c n p M = some x → x.1 ≤ p + 9 * n
  | 0, p, M, x, h => by unfold pRs at h; cases h; show p ≤ p + 9 * ((0 : Nat) : Int); omega
  | n + 1, p, M, x, h => by
    unfold pRs at h
    cases e : pRk c n 9 p 0 0 M with
    | none => rw [e] at h; cases h
    | some y =>
      rw [e] at h
      dsimp only at h
      have := pRk_l 9 p 0 0 M y e (by omega)
      by_cases c1 : c y.1 = (if n = 0 then 32 else 47)
      · rw [if_pos c1] at h
        have := pRs_l n _ _ x h; omega
      · rw [if_neg c1] at h; cases h
theorem pTx_l {c : Int → Int} {n : Int} {q : rQ} {k m : Int} (h : pTx c 0 n q k m) : n ≤ 96 := by
  obtain ⟨e, M, h1, h2, h3, h4, p1, h5, h6, p2, h7, h8, p3, h9, h10, h11, h12⟩ := h
  have a := pRs_l 8 0 _ _ h1
  have a : e ≤ 0 + 9 * ((8 : Nat) : Int) := a
  have b : p1 ≤ e + 2 + 4 := by
    rcases h5 with z | ⟨_, x, y, w, u, g1, g2, g3, g4, g5, g6, _⟩
    · omega
    · have b1 := @pB1_b c 75 (e + 2)
      have b2 := @pB1_b c 81 (e + 2 + x)
      have b3 := @pB1_b c 107 (e + 2 + x + y)
      have b4 := @pB1_b c 113 (e + 2 + x + y + w)
      omega
  have d : p2 ≤ p1 + 1 + 2 := by unfold pPp at h7; omega
  obtain ⟨k1, f1, f2, _⟩ := h9
  obtain ⟨k2, f3, f4, _⟩ := h11
  omega
theorem xCt_e {M : Int → Int} {v : Int} (h : xCt M v 64 = 1) : ∃ j, 0 ≤ j ∧ j ≤ 63 ∧ M j = v := by
  obtain ⟨s, h1, h2, _⟩ := (xCt_1 64).mp h
  exact ⟨s, h1.1, by omega, h2⟩
noncomputable def y_MB_fault : jY := (⟨"ChessHouseModel$Board", "fault", "()I"⟩, prog_16_method_62_code, 2, (some .int))
theorem m_MB_fault : jmth lw_tbl y_MB_fault 0 := ⟨jTA_in (wi := 2430) (jtF_ok rfl) rfl, jTA_in (wi := 316) (jtF_ok rfl) rfl, by decide, by decide, by decide +kernel⟩
theorem i_MB_fault : Jvm.Cond.instanceMethod y_MB_fault.1 ∈ jTA lw_tbl := jTA_in (wi := 2429) (jtF_ok rfl) rfl
theorem e_MB_fault : Jvm.Cond.selects y_MB_fault.1.cls y_MB_fault.1 y_MB_fault.1 ∈ jTA lw_tbl := jTA_in (wi := 139) (jtF_ok rfl) rfl
noncomputable def ak_ZMBflt : List jI := [(.aload_n 0, 1, (0, 0, 0, 0, 0)), (.invokevirtual 287, 3, (0, 0, 2431, 0, 0)), (.istore_n 1, 1, (1, 0, 0, 0, 0)), (.iload_n 1, 1, (1, 0, 0, 0, 0)), (.ifCond .lt 11, 3, (17, 0, 0, 0, 0)), (.aload_n 0, 1, (0, 0, 0, 0, 0)), (.iload_n 1, 1, (1, 0, 0, 0, 0)), (.invokevirtual 290, 3, (1, 0, 2448, 0, 0)), (.ifCond .ne 5, 3, (19, 0, 0, 0, 0)), (.iconst 1, 1, (0, 0, 0, 1, 0)), (.ireturn, 1, (0, 0, 0, 0, 0)), (.aload_n 0, 1, (0, 0, 0, 0, 0)), (.bipush 6, 2, (0, 0, 0, 6, 0)), (.invokevirtual 293, 3, (2, 0, 2462, 0, 0)), (.iconst 1, 1, (0, 0, 0, 1, 0)), (.if_icmp .ne 13, 3, (39, 0, 0, 0, 0)), (.aload_n 0, 1, (0, 0, 0, 0, 0)), (.bipush 14, 2, (0, 0, 0, 14, 0)), (.invokevirtual 293, 3, (2, 0, 2462, 0, 0)), (.iconst 1, 1, (0, 0, 0, 1, 0)), (.if_icmp .eq 5, 3, (41, 0, 0, 0, 0)), (.iconst 2, 1, (0, 0, 0, 2, 0)), (.ireturn, 1, (0, 0, 0, 0, 0)), (.aload_n 0, 1, (0, 0, 0, 0, 0)), (.invokevirtual 296, 3, (3, 0, 2466, 0, 0)), (.ifCond .eq 5, 3, (50, 0, 0, 0, 0)), (.iconst 3, 1, (0, 0, 0, 3, 0)), (.ireturn, 1, (0, 0, 0, 0, 0)), (.aload_n 0, 1, (0, 0, 0, 0, 0)), (.iconst 1, 1, (0, 0, 0, 1, 0)), (.aload_n 0, 1, (0, 0, 0, 0, 0)), (.getfield 110, 3, (13, 3, 2176, 0, 0)), (.isub, 1, (0, 0, 0, 0, 0)), (.invokevirtual 119, 3, (4, 0, 2470, 0, 0)), (.ifCond .eq 7, 3, (67, 0, 0, 0, 0)), (.iconst 4, 1, (0, 0, 0, 4, 0)), (.goto 27, 3, (91, 0, 0, 0, 0)), (.aload_n 0, 1, (0, 0, 0, 0, 0)), (.invokevirtual 299, 3, (5, 0, 2493, 0, 0)), (.ifCond .eq 7, 3, (78, 0, 0, 0, 0)), (.iconst 5, 1, (0, 0, 0, 5, 0)), (.goto 16, 3, (91, 0, 0, 0, 0)), (.aload_n 0, 1, (0, 0, 0, 0, 0)), (.invokevirtual 302, 3, (6, 0, 2497, 0, 0)), (.ifCond .eq 8, 3, (90, 0, 0, 0, 0)), (.bipush 6, 2, (0, 0, 0, 6, 0)), (.goto 4, 3, (91, 0, 0, 0, 0)), (.iconst 0, 1, (0, 0, 0, 0, 0)), (.ireturn, 1, (0, 0, 0, 0, 0))]
theorem ao_ZMBflt : jokLG jtF lk_MB "ChessHouseModel$Board" jcl jtb 2 prog_16_method_62_code 0 ak_ZMBflt = true := by decide +kernel
noncomputable def zm_MBflt : zM := (some .int, { frames := 5, cells := 0, slots := 0, locals := 118 }, ([(287, 2431, 0), (290, 2448, 1), (293, 2462, 2), (296, 2466, 3), (119, 2470, 4), (299, 2493, 5), (302, 2497, 6)], []), [(y_MB_readMen, false, 1, 13, { frames := 3, cells := 0, slots := 0, locals := 63 }, zc_MBrdm), (y_MB_readRest, false, 2, 13, { frames := 2, cells := 0, slots := 0, locals := 44 }, zc_MBrdr), (y_MB_countOf, false, 2, 13, { frames := 0, cells := 0, slots := 0, locals := 0 }, zc_MBcnt), (y_MB_hasPawnAtEnd, false, 1, 13, { frames := 1, cells := 0, slots := 0, locals := 20 }, zc_MBpwn), (y_MB_inCheck, false, 2, 13, { frames := 4, cells := 0, slots := 0, locals := 97 }, zc_MBchk), (y_MB_isRightWrong, false, 1, 13, { frames := 0, cells := 0, slots := 0, locals := 0 }, zc_MBrgt), (y_MB_isPassedWrong, false, 1, 13, { frames := 2, cells := 0, slots := 0, locals := 45 }, zc_MBpsw)], ak_ZMBflt)
noncomputable def zc_MBflt (vals : List zv) (W : zW) (post : zPo) : Prop := vals = [.inr (.inr (some (.inl 116)))] ∧ (zBp W) ∧ ∀ r : Int, ∀ V : zW, (zFr [(116, 3), (116, 4), (116, 5), (116, 6), (116, 7)] [118] W V ∧ ((r = 0 ∧ ∃ q k m, pTx (zBk W) 0 (W.1 116 0) q k m ∧ pSd q ∧ zQb V = q ∧ V.1 116 6 = k ∧ V.1 116 7 = m ∧ (0 ≤ k ∧ k ≤ 999 ∧ 0 ≤ m ∧ m ≤ 999) ∧ zKb V) ∨ ((0 < r ∧ r ≤ 6) ∧ ¬ ∃ q k m, pTx (zBk W) 0 (W.1 116 0) q k m ∧ pSd q))) → post (some (.inl r)) V
set_option maxRecDepth 8000 in
theorem zp_MBflt_0 {n K : Nat} {W : zW} {post : zPo} {u1 : Option zv} (hK : 7 ≤ K) (hn : 142 ≤ n) (h : (zBp W) ∧ ∀ r1 : Int, ∀ W1 : zW, (zFr [] [118] W W1 ∧ ((0 ≤ r1 ∧ r1 ≤ 100 ∧ ∃ M, pRs (zBk W) 8 0 (fun _ => 0) = some (r1 + 1, M) ∧ ∀ i, 0 ≤ i → i ≤ 63 → W1.2.1 118 i = M i) ∨ (r1 = -1 ∧ pRs (zBk W) 8 0 (fun _ => 0) = none))) → (r1 < 0 → post (some (.inl (1))) W1) ∧ (¬ r1 < 0 → zwp jtb zsh n zm_MBflt post (K - 5) (lGo ak_ZMBflt 9) 9 [some (.inr (.inr (some (.inl 116)))), some (.inl (r1))] [] W1)) : zwp jtb zsh n zm_MBflt post K (lGo ak_ZMBflt 0) 0 [some (.inr (.inr (some (.inl 116)))), u1] [] W := by
  obtain ⟨kk__, rfl⟩ : ∃ kk__, K = kk__ + 7 := ⟨K - 7, by omega⟩
  exact (show 3 = 3 ∧ false = false ∧ jin3 287 2431 0 zm_MBflt.2.2.1.1 = true ∧ lRm zm_MBflt.2.1 { frames := 3, cells := 0, slots := 0, locals := 63 } 7 = true ∧ Nat.ble 1 1 = true ∧ Nat.ble 0 8 = true ∧ 116 < n ∧ 13 = 13 ∧ Nat.ble 1000 13 = false ∧ zc_MBrdm [.inr (.inr (some (.inl 116)))] W (fun vv__ WW__ => zwp jtb zsh n zm_MBflt post (kk__ + 5) (lGo ak_ZMBflt 4) 4 [some (.inr (.inr (some (.inl 116)))), u1] (vv__.toList ++ []) WW__) from ⟨rfl, rfl, rfl, rfl, rfl, rfl, (Nat.lt_of_lt_of_le (by decide) hn), rfl, rfl, rfl, (h).1, fun r1 W1 hr1 => (show (r1 < 0 → 1 = 1 ∧ True ∧ post (some (.inl (1))) W1) ∧ (¬ r1 < 0 → zwp jtb zsh n zm_MBflt post (kk__ + 2) (lGo ak_ZMBflt 9) 9 [some (.inr (.inr (some (.inl 116)))), some (.inl (r1))] [] W1) from ⟨fun c6_4 => (have h := ((((h).2 r1 W1 hr1)).1 c6_4); ⟨rfl, trivial, h⟩), fun c6_4 => ((((h).2 r1 W1 hr1)).2 c6_4)⟩)⟩)
set_option maxRecDepth 8000 in
theorem zp_MBflt_9 {n K : Nat} {V : zW} {post : zPo} {a : Int}  (hK : 6 ≤ K) (hn : 142 ≤ n) (h : (zBp V ∧ 0 ≤ a ∧ a ≤ 100) ∧ ∀ r11 : Int, ∀ W11 : zW, (zFr [(116, 3), (116, 4), (116, 5), (116, 6), (116, 7)] [] V W11 ∧ ((r11 = 1 ∧ ∃ q k m, pTr (zBk V) (a + 1) (V.1 116 0) q k m ∧ q.2 = (W11.1 116 3, W11.1 116 4, W11.1 116 5) ∧ W11.1 116 6 = k ∧ W11.1 116 7 = m ∧ (0 ≤ k ∧ k ≤ 999 ∧ 0 ≤ m ∧ m ≤ 999)) ∨ (r11 = 0 ∧ ∀ q k m, ¬ pTr (zBk V) (a + 1) (V.1 116 0) q k m))) → (¬ r11 = 0 → zwp jtb zsh n zm_MBflt post (K - 4) (lGo ak_ZMBflt 19) 19 [some (.inr (.inr (some (.inl 116)))), some (.inl (a))] [] W11) ∧ (r11 = 0 → post (some (.inl (1))) W11)) : zwp jtb zsh n zm_MBflt post K (lGo ak_ZMBflt 9) 9 [some (.inr (.inr (some (.inl 116)))), some (.inl (a))] [] V := by
  obtain ⟨kk__, rfl⟩ : ∃ kk__, K = kk__ + 6 := ⟨K - 6, by omega⟩
  exact (show 3 = 3 ∧ false = false ∧ jin3 290 2448 1 zm_MBflt.2.2.1.1 = true ∧ lRm zm_MBflt.2.1 { frames := 2, cells := 0, slots := 0, locals := 44 } 6 = true ∧ Nat.ble 2 2 = true ∧ Nat.ble 0 8 = true ∧ 116 < n ∧ 13 = 13 ∧ Nat.ble 1000 13 = false ∧ zc_MBrdr [.inr (.inr (some (.inl 116))), .inl (a)] V (fun vv__ WW__ => zwp jtb zsh n zm_MBflt post (kk__ + 3) (lGo ak_ZMBflt 14) 14 [some (.inr (.inr (some (.inl 116)))), some (.inl (a))] (vv__.toList ++ []) WW__) from ⟨rfl, rfl, rfl, rfl, rfl, rfl, (Nat.lt_of_lt_of_le (by decide) hn), rfl, rfl, a, rfl, (h).1, fun r11 W11 hr11 => (show (¬ r11 = 0 → zwp jtb zsh n zm_MBflt post (kk__ + 2) (lGo ak_ZMBflt 19) 19 [some (.inr (.inr (some (.inl 116)))), some (.inl (a))] [] W11) ∧ (r11 = 0 → 1 = 1 ∧ True ∧ post (some (.inl (1))) W11) from ⟨fun c14_3 => ((((h).2 r11 W11 hr11)).1 c14_3), fun c14_3 => (have h := ((((h).2 r11 W11 hr11)).2 c14_3); ⟨rfl, trivial, h⟩)⟩)⟩)
set_option maxRecDepth 8000 in
theorem zp_MBflt_19 {n K : Nat} {V : zW} {post : zPo} {a : Int}  (hK : 12 ≤ K) (hn : 142 ≤ n) (h : (True) ∧ ∀ r22 : Int, (r22 = xCt (V.2.1 118) (6 : Int) 64) → (¬ r22 = 1 → post (some (.inl (2))) V) ∧ (r22 = 1 → (True) ∧ ∀ r32 : Int, (r32 = xCt (V.2.1 118) (14 : Int) 64) → (r32 = 1 → zwp jtb zsh n zm_MBflt post (K - 10) (lGo ak_ZMBflt 41) 41 [some (.inr (.inr (some (.inl 116)))), some (.inl (a))] [] V) ∧ (¬ r32 = 1 → post (some (.inl (2))) V))) : zwp jtb zsh n zm_MBflt post K (lGo ak_ZMBflt 19) 19 [some (.inr (.inr (some (.inl 116)))), some (.inl (a))] [] V := by
  obtain ⟨kk__, rfl⟩ : ∃ kk__, K = kk__ + 12 := ⟨K - 12, by omega⟩
  exact (show 3 = 3 ∧ false = false ∧ jin3 293 2462 2 zm_MBflt.2.2.1.1 = true ∧ lRm zm_MBflt.2.1 { frames := 0, cells := 0, slots := 0, locals := 0 } 4 = true ∧ Nat.ble 2 2 = true ∧ Nat.ble 0 8 = true ∧ 116 < n ∧ 13 = 13 ∧ Nat.ble 1000 13 = false ∧ zc_MBcnt [.inr (.inr (some (.inl 116))), .inl (6)] V (fun vv__ WW__ => zwp jtb zsh n zm_MBflt post (kk__ + 9) (lGo ak_ZMBflt 25) 25 [some (.inr (.inr (some (.inl 116)))), some (.inl (a))] (vv__.toList ++ []) WW__) from ⟨rfl, rfl, rfl, rfl, rfl, rfl, (Nat.lt_of_lt_of_le (by decide) hn), rfl, rfl, 6, rfl, (h).1, fun r22 hr22 => (show (¬ r22 = 1 → 1 = 1 ∧ True ∧ post (some (.inl (2))) V) ∧ (r22 = 1 → 3 = 3 ∧ false = false ∧ jin3 293 2462 2 zm_MBflt.2.2.1.1 = true ∧ lRm zm_MBflt.2.1 { frames := 0, cells := 0, slots := 0, locals := 0 } 4 = true ∧ Nat.ble 2 2 = true ∧ Nat.ble 0 8 = true ∧ 116 < n ∧ 13 = 13 ∧ Nat.ble 1000 13 = false ∧ zc_MBcnt [.inr (.inr (some (.inl 116))), .inl (14)] V (fun vv__ WW__ => zwp jtb zsh n zm_MBflt post (kk__ + 4) (lGo ak_ZMBflt 35) 35 [some (.inr (.inr (some (.inl 116)))), some (.inl (a))] (vv__.toList ++ []) WW__)) from ⟨fun c26_4 => (have h := ((((h).2 r22 hr22)).1 c26_4); ⟨rfl, trivial, h⟩), fun c26_4 => (have h := ((((h).2 r22 hr22)).2 c26_4); ⟨rfl, rfl, rfl, rfl, rfl, rfl, (Nat.lt_of_lt_of_le (by decide) hn), rfl, rfl, 14, rfl, (h).1, fun r32 hr32 => (show (r32 = 1 → zwp jtb zsh n zm_MBflt post (kk__ + 2) (lGo ak_ZMBflt 41) 41 [some (.inr (.inr (some (.inl 116)))), some (.inl (a))] [] V) ∧ (¬ r32 = 1 → 1 = 1 ∧ True ∧ post (some (.inl (2))) V) from ⟨fun c36_9 => ((((h).2 r32 hr32)).1 c36_9), fun c36_9 => (have h := ((((h).2 r32 hr32)).2 c36_9); ⟨rfl, trivial, h⟩)⟩)⟩)⟩)⟩)
set_option maxRecDepth 8000 in
theorem zp_MBflt_41 {n K : Nat} {V : zW} {post : zPo} {a : Int}  (hK : 5 ≤ K) (hn : 142 ≤ n) (h : (zKb V) ∧ ∀ r42 : Int, (xBl r42 (¬ ∀ f, 0 ≤ f → f < 8 → ¬ zMb V f % 8 = 1 ∧ ¬ zMb V (56 + f) % 8 = 1)) → (r42 = 0 → zwp jtb zsh n zm_MBflt post (K - 3) (lGo ak_ZMBflt 50) 50 [some (.inr (.inr (some (.inl 116)))), some (.inl (a))] [] V) ∧ (¬ r42 = 0 → post (some (.inl (3))) V)) : zwp jtb zsh n zm_MBflt post K (lGo ak_ZMBflt 41) 41 [some (.inr (.inr (some (.inl 116)))), some (.inl (a))] [] V := by
  obtain ⟨kk__, rfl⟩ : ∃ kk__, K = kk__ + 5 := ⟨K - 5, by omega⟩
  exact (show 3 = 3 ∧ false = false ∧ jin3 296 2466 3 zm_MBflt.2.2.1.1 = true ∧ lRm zm_MBflt.2.1 { frames := 1, cells := 0, slots := 0, locals := 20 } 3 = true ∧ Nat.ble 1 1 = true ∧ Nat.ble 0 8 = true ∧ 116 < n ∧ 13 = 13 ∧ Nat.ble 1000 13 = false ∧ zc_MBpwn [.inr (.inr (some (.inl 116)))] V (fun vv__ WW__ => zwp jtb zsh n zm_MBflt post (kk__ + 3) (lGo ak_ZMBflt 45) 45 [some (.inr (.inr (some (.inl 116)))), some (.inl (a))] (vv__.toList ++ []) WW__) from ⟨rfl, rfl, rfl, rfl, rfl, rfl, (Nat.lt_of_lt_of_le (by decide) hn), rfl, rfl, rfl, (h).1, fun r42 hr42 => (show (r42 = 0 → zwp jtb zsh n zm_MBflt post (kk__ + 2) (lGo ak_ZMBflt 50) 50 [some (.inr (.inr (some (.inl 116)))), some (.inl (a))] [] V) ∧ (¬ r42 = 0 → 1 = 1 ∧ True ∧ post (some (.inl (3))) V) from ⟨fun c45_2 => ((((h).2 r42 hr42)).1 c45_2), fun c45_2 => (have h := ((((h).2 r42 hr42)).2 c45_2); ⟨rfl, trivial, h⟩)⟩)⟩)
set_option maxRecDepth 8000 in
theorem zp_MBflt_50 {n K : Nat} {V : zW} {post : zPo} {a : Int}  (hK : 10 ≤ K) (hn : 142 ≤ n) (h : (-2147483648 ≤ 1 - (V.1 116 3) ∧ 1 - (V.1 116 3) ≤ 2147483647) ∧ ((0 ≤ (1 - (V.1 116 3)) ∧ (1 - (V.1 116 3)) ≤ 1) ∧ ∃ j, 0 ≤ j ∧ j ≤ 63 ∧ zMb V j = 8 * (1 - (V.1 116 3)) + 6) ∧ ∀ r57 : Int, (∃ k, zKi (zMb V) (1 - (V.1 116 3)) k ∧ xBl r57 (rAk (zMb V) k (1 - (1 - (V.1 116 3))))) → (r57 = 0 → zwp jtb zsh n zm_MBflt post (K - 7) (lGo ak_ZMBflt 67) 67 [some (.inr (.inr (some (.inl 116)))), some (.inl (a))] [] V) ∧ (¬ r57 = 0 → post (some (.inl (4))) V)) : zwp jtb zsh n zm_MBflt post K (lGo ak_ZMBflt 50) 50 [some (.inr (.inr (some (.inl 116)))), some (.inl (a))] [] V := by
  obtain ⟨kk__, rfl⟩ : ∃ kk__, K = kk__ + 10 := ⟨K - 10, by omega⟩
  exact (show 116 < n ∧ 13 = 13 ∧ (-2147483648 ≤ 1 - (V.1 116 3) ∧ 1 - (V.1 116 3) ≤ 2147483647) ∧ 3 = 3 ∧ false = false ∧ jin3 119 2470 4 zm_MBflt.2.2.1.1 = true ∧ lRm zm_MBflt.2.1 { frames := 4, cells := 0, slots := 0, locals := 97 } 2 = true ∧ Nat.ble 2 2 = true ∧ Nat.ble 0 8 = true ∧ 116 < n ∧ 13 = 13 ∧ Nat.ble 1000 13 = false ∧ zc_MBchk [.inr (.inr (some (.inl 116))), .inl (1 - (V.1 116 3))] V (fun vv__ WW__ => zwp jtb zsh n zm_MBflt post (kk__ + 4) (lGo ak_ZMBflt 60) 60 [some (.inr (.inr (some (.inl 116)))), some (.inl (a))] (vv__.toList ++ []) WW__) from ⟨(Nat.lt_of_lt_of_le (by decide) hn), rfl, ⟨(h).1, ⟨rfl, rfl, rfl, rfl, rfl, rfl, (Nat.lt_of_lt_of_le (by decide) hn), rfl, rfl, 1 - (V.1 116 3), rfl, ((h).2).1, fun r57 hr57 => (show (r57 = 0 → zwp jtb zsh n zm_MBflt post (kk__ + 3) (lGo ak_ZMBflt 67) 67 [some (.inr (.inr (some (.inl 116)))), some (.inl (a))] [] V) ∧ (¬ r57 = 0 → 1 = 1 ∧ True ∧ post (some (.inl (4))) V) from ⟨fun c60_6 => (((((h).2).2 r57 hr57)).1 c60_6), fun c60_6 => (have h := (((((h).2).2 r57 hr57)).2 c60_6); ⟨rfl, trivial, h⟩)⟩)⟩⟩⟩)
set_option maxRecDepth 8000 in
theorem zp_MBflt_67 {n K : Nat} {V : zW} {post : zPo} {a : Int}  (hK : 6 ≤ K) (hn : 142 ≤ n) (h : (zKb V) ∧ ∀ r68 : Int, (xBl r68 (¬ ∀ k, 0 ≤ k → k < 4 → pRo (zQb V) k)) → (r68 = 0 → zwp jtb zsh n zm_MBflt post (K - 3) (lGo ak_ZMBflt 78) 78 [some (.inr (.inr (some (.inl 116)))), some (.inl (a))] [] V) ∧ (¬ r68 = 0 → post (some (.inl (5))) V)) : zwp jtb zsh n zm_MBflt post K (lGo ak_ZMBflt 67) 67 [some (.inr (.inr (some (.inl 116)))), some (.inl (a))] [] V := by
  obtain ⟨kk__, rfl⟩ : ∃ kk__, K = kk__ + 6 := ⟨K - 6, by omega⟩
  exact (show 3 = 3 ∧ false = false ∧ jin3 299 2493 5 zm_MBflt.2.2.1.1 = true ∧ lRm zm_MBflt.2.1 { frames := 0, cells := 0, slots := 0, locals := 0 } 7 = true ∧ Nat.ble 1 1 = true ∧ Nat.ble 0 8 = true ∧ 116 < n ∧ 13 = 13 ∧ Nat.ble 1000 13 = false ∧ zc_MBrgt [.inr (.inr (some (.inl 116)))] V (fun vv__ WW__ => zwp jtb zsh n zm_MBflt post (kk__ + 4) (lGo ak_ZMBflt 71) 71 [some (.inr (.inr (some (.inl 116)))), some (.inl (a))] (vv__.toList ++ []) WW__) from ⟨rfl, rfl, rfl, rfl, rfl, rfl, (Nat.lt_of_lt_of_le (by decide) hn), rfl, rfl, rfl, (h).1, fun r68 hr68 => (show (r68 = 0 → zwp jtb zsh n zm_MBflt post (kk__ + 3) (lGo ak_ZMBflt 78) 78 [some (.inr (.inr (some (.inl 116)))), some (.inl (a))] [] V) ∧ (¬ r68 = 0 → 1 = 1 ∧ True ∧ post (some (.inl (5))) V) from ⟨fun c71_2 => ((((h).2 r68 hr68)).1 c71_2), fun c71_2 => (have h := ((((h).2 r68 hr68)).2 c71_2); ⟨rfl, trivial, h⟩)⟩)⟩)
set_option maxRecDepth 8000 in
theorem zp_MBflt_78 {n K : Nat} {V : zW} {post : zPo} {a : Int}  (hK : 6 ≤ K) (hn : 142 ≤ n) (h : (zKb V) ∧ ∀ r79 : Int, (xBl r79 (¬ (V.1 116 5 < 0 ∨ pPw (zQb V)))) → (r79 = 0 → post (some (.inl (0))) V) ∧ (¬ r79 = 0 → post (some (.inl (6))) V)) : zwp jtb zsh n zm_MBflt post K (lGo ak_ZMBflt 78) 78 [some (.inr (.inr (some (.inl 116)))), some (.inl (a))] [] V := by
  obtain ⟨kk__, rfl⟩ : ∃ kk__, K = kk__ + 6 := ⟨K - 6, by omega⟩
  exact (show 3 = 3 ∧ false = false ∧ jin3 302 2497 6 zm_MBflt.2.2.1.1 = true ∧ lRm zm_MBflt.2.1 { frames := 2, cells := 0, slots := 0, locals := 45 } 3 = true ∧ Nat.ble 1 1 = true ∧ Nat.ble 0 8 = true ∧ 116 < n ∧ 13 = 13 ∧ Nat.ble 1000 13 = false ∧ zc_MBpsw [.inr (.inr (some (.inl 116)))] V (fun vv__ WW__ => zwp jtb zsh n zm_MBflt post (kk__ + 4) (lGo ak_ZMBflt 82) 82 [some (.inr (.inr (some (.inl 116)))), some (.inl (a))] (vv__.toList ++ []) WW__) from ⟨rfl, rfl, rfl, rfl, rfl, rfl, (Nat.lt_of_lt_of_le (by decide) hn), rfl, rfl, rfl, (h).1, fun r79 hr79 => (show (r79 = 0 → 1 = 1 ∧ True ∧ post (some (.inl (0))) V) ∧ (¬ r79 = 0 → 1 = 1 ∧ True ∧ post (some (.inl (6))) V) from ⟨fun c82_2 => (have h := ((((h).2 r79 hr79)).1 c82_2); ⟨rfl, trivial, h⟩), fun c82_2 => (have h := ((((h).2 r79 hr79)).2 c82_2); ⟨rfl, trivial, h⟩)⟩)⟩)
set_option maxHeartbeats 4000000 in
theorem zk_MBflt {l : Launch} {E : jE} {n : Nat} (hn : 142 ≤ n) : zHas l E jcl jtb lw_tbl zsh n (y_MB_fault, false, 1, 13, { frames := 5, cells := 0, slots := 0, locals := 118 }, zc_MBflt) := by
  refine ⟨⟨rfl, rfl, ⟨show 1 ≤ 1 by decide, m_MB_fault, i_MB_fault, e_MB_fault, fun _ => ⟨_, rfl, rfl⟩⟩⟩, ?_⟩
  rintro vz W po hO hW ⟨rfl, hq, hp⟩
  refine zmet (m := zm_MBflt) rfl (by decide) (fun _ _ => jtF_ok) lo_MB ao_ZMBflt jC (fun q h => by cases h) (aAllc (fun G h => by obtain rfl := Option.some.inj h; exact ql_MB_287) (aAllc (fun G h => by obtain rfl := Option.some.inj h; exact ql_MB_290) (aAllc (fun G h => by obtain rfl := Option.some.inj h; exact ql_MB_293) (aAllc (fun G h => by obtain rfl := Option.some.inj h; exact ql_MB_296) (aAllc (fun G h => by obtain rfl := Option.some.inj h; exact ql_MB_119) (aAllc (fun G h => by obtain rfl := Option.some.inj h; exact ql_MB_299) (aAllc (fun G h => by obtain rfl := Option.some.inj h; exact ql_MB_302) (fun q h => by cases h)))))))) (aAllc (zk_MBrdm hn) (aAllc (zk_MBrdr hn) (aAllc (zk_MBcnt hn) (aAllc (zk_MBpwn hn) (aAllc (zk_MBchk hn) (aAllc (zk_MBrgt hn) (aAllc (zk_MBpsw hn) (fun q h => by cases h)))))))) (Nat.le_of_ble_eq_true rfl) hO hW (600) ?_
  have no : ∀ (V : zW) (r : Int), zFr [(116, 3), (116, 4), (116, 5), (116, 6), (116, 7)] [118] W V → (0 < r ∧ r ≤ 6) → (¬ ∃ q k m, pTx (zBk W) 0 (W.1 116 0) q k m ∧ pSd q) → po (some (.inl r)) V := fun V r h1 h2 h3 => hp _ _ ⟨h1, Or.inr ⟨h2, h3⟩⟩
  have h9 : ∀ (V : zW) (a : Int), zFr [] [118] W V → (0 ≤ a ∧ a ≤ 100 ∧ ∃ M, pRs (zBk W) 8 0 (fun _ => 0) = some (a + 1, M) ∧ ∀ i, 0 ≤ i → i ≤ 63 → V.2.1 118 i = M i) → ∀ K : Nat, 500 ≤ K → zwp jtb zsh n zm_MBflt po K (lGo ak_ZMBflt 9) 9 [some (.inr (.inr (some (.inl 116)))), some (.inl a)] [] V := by
    rintro V a hV ⟨a0, a1, M, hM, hA⟩ K hK
    obtain ⟨hT, e1⟩ := zBp_f hV hq
    have e0 := zFr_f hV 116 0
    have px : ∀ q k m, pTx (zBk W) 0 (W.1 116 0) q k m ↔ (q.1 = zMo M ∧ pTr (zBk W) (a + 1) (W.1 116 0) q k m) := fun q k m => pTx_r (M0 := fun _ => 0) (fun _ _ _ => rfl) hM
    have fr2 : ∀ W3, zFr [(116, 3), (116, 4), (116, 5), (116, 6), (116, 7)] [] V W3 → zFr [(116, 3), (116, 4), (116, 5), (116, 6), (116, 7)] [118] W W3 := fun W3 h => zFr_t (zFr_w hV (by decide) (by decide)) (zFr_w h (by decide) (by decide))
    have nrest : ∀ (W3 : zW) (r : Int), (zFr [(116, 3), (116, 4), (116, 5), (116, 6), (116, 7)] [] V W3 ∧ ((r = 1 ∧ ∃ q k m, pTr (zBk V) (a + 1) (V.1 116 0) q k m ∧ q.2 = (W3.1 116 3, W3.1 116 4, W3.1 116 5) ∧ W3.1 116 6 = k ∧ W3.1 116 7 = m ∧ (0 ≤ k ∧ k ≤ 999 ∧ 0 ≤ m ∧ m ≤ 999)) ∨ (r = 0 ∧ ∀ q k m, ¬ pTr (zBk V) (a + 1) (V.1 116 0) q k m))) → r = 0 → (¬ ∃ q k m, pTx (zBk W) 0 (W.1 116 0) q k m ∧ pSd q) := by
      rintro W3 r h r0 ⟨q, k, m, t, _⟩
      have z := (h.2.resolve_left (fun z => by have := z.1; omega)).2 q k m
      rw [e1, e0] at z
      exact z ((px q k m).mp t).2
    have h19 : ∀ (V2 : zW) (r : Int), (zFr [(116, 3), (116, 4), (116, 5), (116, 6), (116, 7)] [] V V2 ∧ ((r = 1 ∧ ∃ q k m, pTr (zBk V) (a + 1) (V.1 116 0) q k m ∧ q.2 = (V2.1 116 3, V2.1 116 4, V2.1 116 5) ∧ V2.1 116 6 = k ∧ V2.1 116 7 = m ∧ (0 ≤ k ∧ k ≤ 999 ∧ 0 ≤ m ∧ m ≤ 999)) ∨ (r = 0 ∧ ∀ q k m, ¬ pTr (zBk V) (a + 1) (V.1 116 0) q k m))) → ¬ r = 0 → ∀ K : Nat, 400 ≤ K → zwp jtb zsh n zm_MBflt po K (lGo ak_ZMBflt 19) 19 [some (.inr (.inr (some (.inl 116)))), some (.inl a)] [] V2 := by
      intro V2 r h r0 K hK
      obtain ⟨_, q0, k0, m0, t1, t2, t3, t4, t5⟩ := h.2.resolve_right (fun z => r0 z.1)
      rw [e1, e0] at t1
      have hV2 := fr2 V2 h.1
      have r118 : V2.2.1 118 = V.2.1 118 := zFr_r h.1 118
      have eM : zMb V2 = zMo M := by
        unfold zMb
        rw [r118]
        exact zMo_e hA
      have tq : pTr (zBk W) (a + 1) (W.1 116 0) (zQb V2) k0 m0 := by
        have e3 : (zQb V2).2 = q0.2 := by rw [t2]; rfl
        unfold pTr at *
        rw [e3]
        exact t1
      have tx : pTx (zBk W) 0 (W.1 116 0) (zQb V2) k0 m0 := (px _ _ _).mpr ⟨eM, tq⟩
      have nsd : ¬ pSd (zQb V2) → (¬ ∃ q k m, pTx (zBk W) 0 (W.1 116 0) q k m ∧ pSd q) := by
        rintro hn0 ⟨q, k, m, t, ts⟩
        rw [(pTx_u t tx).1] at ts
        exact hn0 ts
      have hK2 : zKb V2 := by
        have hv := pRs_v 8 0 (fun _ => 0) _ (fun i => Or.inl rfl) hM
        obtain ⟨s1, _, p1, s3, _, p2, s5, _⟩ := tq
        refine ⟨fun i a b => ?_, ?_, ?_, ?_⟩
        · rw [r118, hA i a b]
          have z : M i = 0 ∨ (1 ≤ M i ∧ M i ≤ 6) ∨ (9 ≤ M i ∧ M i ≤ 14) := hv i
          omega
        · have s1 : pSi (zBk W (a + 1)) (V2.1 116 3) := s1
          unfold pSi at s1
          omega
        · have s3 : pRg (zBk W) (a + 1 + 2) (V2.1 116 4) p1 := s3
          rcases s3 with z | ⟨_, x, y, w, u, g1, g2, g3, g4, g5, _⟩
          · omega
          · have b1 := @pB1_b (zBk W) 75 (a + 1 + 2)
            have b2 := @pB1_b (zBk W) 81 (a + 1 + 2 + x)
            have b3 := @pB1_b (zBk W) 107 (a + 1 + 2 + x + y)
            have b4 := @pB1_b (zBk W) 113 (a + 1 + 2 + x + y + w)
            omega
        · have s5 : pPp (zBk W) (p1 + 1) (V2.1 116 5) p2 := s5
          unfold pPp at s5
          omega
      have hs := hK2.2.1
      have ct : ∀ v, xCt (V2.2.1 118) v 64 = xCt (zMb V2) v 64 := fun v => xCt_c 64 (fun t a b => (zMb_i (by omega)).symm)
      have h41 : (xCt (zMb V2) 6 64 = 1 ∧ xCt (zMb V2) 14 64 = 1) → ∀ K : Nat, 300 ≤ K → zwp jtb zsh n zm_MBflt po K (lGo ak_ZMBflt 41) 41 [some (.inr (.inr (some (.inl 116)))), some (.inl a)] [] V2 := by
        intro hk K hK
        have hex : ∃ j, 0 ≤ j ∧ j ≤ 63 ∧ zMb V2 j = 8 * (1 - V2.1 116 3) + 6 := by
          have hcs : V2.1 116 3 = 0 ∨ V2.1 116 3 = 1 := by omega
          rcases hcs with h | h
          · obtain ⟨z, z1, z2, z3⟩ := xCt_e hk.2
            exact ⟨z, z1, z2, by rw [z3, h]; rfl⟩
          · obtain ⟨z, z1, z2, z3⟩ := xCt_e hk.1
            exact ⟨z, z1, z2, by rw [z3, h]; rfl⟩
        have ck1 : ∀ r : Int, (∃ k, zKi (zMb V2) (1 - V2.1 116 3) k ∧ xBl r (rAk (zMb V2) k (1 - (1 - V2.1 116 3)))) → r = 0 → ∀ s, 0 ≤ s → s ≤ 63 → zMb V2 s = 8 * (1 - V2.1 116 3) + 6 → ¬ rAk (zMb V2) s (V2.1 116 3) := by
          rintro r ⟨k, h1, h2⟩ r0 s s0 s1 es
          have h9 := xBl_0 h2 r0
          have hk9 := h1.2.2 ⟨s, s0, s1, es⟩
          have e : k = s := by
            have hcs : V2.1 116 3 = 0 ∨ V2.1 116 3 = 1 := by omega
            rcases hcs with h | h
            · obtain ⟨z, z1, z2, z3⟩ := (xCt_1 64).mp hk.2
              have a := z3 k h1.1 (by have := h1.2.1; omega) (by rw [hk9, h]; rfl)
              have b := z3 s s0 (by omega) (by rw [es, h]; rfl)
              omega
            · obtain ⟨z, z1, z2, z3⟩ := (xCt_1 64).mp hk.1
              have a := z3 k h1.1 (by have := h1.2.1; omega) (by rw [hk9, h]; rfl)
              have b := z3 s s0 (by omega) (by rw [es, h]; rfl)
              omega
          rw [← e, show V2.1 116 3 = 1 - (1 - V2.1 116 3) by omega]
          exact h9
        have ck0 : ∀ r : Int, (∃ k, zKi (zMb V2) (1 - V2.1 116 3) k ∧ xBl r (rAk (zMb V2) k (1 - (1 - V2.1 116 3)))) → ¬ r = 0 → ¬ (∀ s, 0 ≤ s → s ≤ 63 → zMb V2 s = 8 * (1 - V2.1 116 3) + 6 → ¬ rAk (zMb V2) s (V2.1 116 3)) := by
          rintro r ⟨k, h1, h2⟩ r0 h
          have h9 := xBl_1 h2 r0
          rw [show 1 - (1 - V2.1 116 3) = V2.1 116 3 by omega] at h9
          exact h k h1.1 h1.2.1 (h1.2.2 hex) h9
        have h50 : (∀ f, 0 ≤ f → f < 8 → ¬ zMb V2 f % 8 = 1 ∧ ¬ zMb V2 (56 + f) % 8 = 1) → ∀ K : Nat, 200 ≤ K → zwp jtb zsh n zm_MBflt po K (lGo ak_ZMBflt 50) 50 [some (.inr (.inr (some (.inl 116)))), some (.inl a)] [] V2 := by
          intro hpw K hK
          have h67 : (∀ s, 0 ≤ s → s ≤ 63 → zMb V2 s = 8 * (1 - V2.1 116 3) + 6 → ¬ rAk (zMb V2) s (V2.1 116 3)) → ∀ K : Nat, 150 ≤ K → zwp jtb zsh n zm_MBflt po K (lGo ak_ZMBflt 67) 67 [some (.inr (.inr (some (.inl 116)))), some (.inl a)] [] V2 := by
            intro hck K hK
            have h78 : (∀ k, 0 ≤ k → k < 4 → pRo (zQb V2) k) → ∀ K : Nat, 100 ≤ K → zwp jtb zsh n zm_MBflt po K (lGo ak_ZMBflt 78) 78 [some (.inr (.inr (some (.inl 116)))), some (.inl a)] [] V2 := by
              intro hro K hK
              have yes : (V2.1 116 5 < 0 ∨ pPw (zQb V2)) → po (some (.inl 0)) V2 := fun hpp => hp _ _ ⟨hV2, Or.inl ⟨rfl, zQb V2, k0, m0, tx, ⟨hk, hpw, hck, hro, hpp⟩, rfl, t3, t4, t5, hK2⟩⟩
              clear h
              have hV := hV2
              exact zp_MBflt_78 (by omega) hn ⟨hK2, fun r79 hr79 => ⟨fun c82 => (yes (Classical.byContradiction (fun z => xBl_0 hr79 (by omega) z))), fun c82 => (no V2 6 hV (by omega) (nsd (fun z => xBl_1 hr79 (by omega) z.2.2.2.2)))⟩⟩
            have hV := hV2
            exact zp_MBflt_67 (by omega) hn ⟨hK2, fun r68 hr68 => ⟨fun c71 => (h78 (Classical.byContradiction (fun z => xBl_0 hr68 (by omega) z)) _ (by omega)), fun c71 => (no V2 5 hV (by omega) (nsd (fun z => xBl_1 hr68 (by omega) z.2.2.2.1)))⟩⟩
          have hV := hV2
          exact zp_MBflt_50 (by omega) hn ⟨(by omega), ⟨⟨by omega, hex⟩, fun r57 hr57 => ⟨fun c60 => (h67 (ck1 r57 hr57 (by omega)) _ (by omega)), fun c60 => (no V2 4 hV (by omega) (nsd (fun z => ck0 r57 hr57 (by omega) z.2.2.1)))⟩⟩⟩
        have hV := hV2
        exact zp_MBflt_41 (by omega) hn ⟨hK2, fun r42 hr42 => ⟨fun c45 => (h50 (Classical.byContradiction (fun z => xBl_0 hr42 (by omega) z)) _ (by omega)), fun c45 => (no V2 3 hV (by omega) (nsd (fun z => xBl_1 hr42 (by omega) z.2.1)))⟩⟩
      have hV := hV2
      exact zp_MBflt_19 (by omega) hn ⟨trivial, fun r22 hr22 => ⟨fun c26 => (no V2 2 hV (by omega) (nsd (fun z => by have q1 : xCt (zMb V2) 6 64 = 1 := z.1.1; have q2 : xCt (zMb V2) 14 64 = 1 := z.1.2; rw [← ct 6] at q1; rw [← ct 14] at q2; first | (exact absurd (hr22.trans q1) (by omega)) | (exact absurd (hr32.trans q2) (by omega))))), fun c26 => ⟨trivial, fun r32 hr32 => ⟨fun c36 => (h41 ⟨by rw [← ct 6]; omega, by rw [← ct 14]; omega⟩ _ (by omega)), fun c36 => (no V2 2 hV (by omega) (nsd (fun z => by have q1 : xCt (zMb V2) 6 64 = 1 := z.1.1; have q2 : xCt (zMb V2) 14 64 = 1 := z.1.2; rw [← ct 6] at q1; rw [← ct 14] at q2; first | (exact absurd (hr22.trans q1) (by omega)) | (exact absurd (hr32.trans q2) (by omega)))))⟩⟩⟩⟩
    exact zp_MBflt_9 (by omega) hn ⟨⟨hT, by omega, by omega⟩, fun r11 W11 hr11 => ⟨fun c14 => (h19 W11 r11 hr11 (by omega) _ (by omega)), fun c14 => (no W11 1 (fr2 W11 hr11.1) (by omega) (nrest W11 r11 hr11 (by omega)))⟩⟩
  exact zp_MBflt_0 (by omega) hn ⟨hq, fun r1 W1 hr1 => ⟨fun c6 => (no W1 1 (zFr_w hr1.1 (by decide) (by decide)) (by omega) (fun ⟨q, k, m, h, _⟩ => pTx_n (fun _ _ _ => rfl) (hr1.2.resolve_left (fun z => by have := z.1; omega)).2 h)), fun c6 => (h9 W1 r1 hr1.1 (hr1.2.resolve_right (fun z => by have := z.1; omega)) _ (by omega))⟩⟩
end
section
/-! the reference: the command set -/
theorem zlk (W A U : zW) (f6 : zFr [(90, 25), (90, 26), (90, 27), (90, 28), (90, 29)] [110] W A) (hz : zSp A U) (q6 : zQ A = zQb W) (k6 : zMk A) (e6 : A.1 90 28 = W.1 116 6) (e7 : A.1 90 29 = W.1 116 7) : zFr [(90, 25), (90, 26), (90, 27), (90, 28), (90, 29), (90, 33)] [110, 111, 112, 113, 114] W U ∧ zQ U = zQb W ∧ U.1 90 28 = W.1 116 6 ∧ U.1 90 29 = W.1 116 7 ∧ zMk U := by
  refine ⟨zFr_t (zFr_w f6 (by decide) (by decide)) (zFr_w hz.2 (by decide) (by decide)), ?_, by rw [zFr_f hz.2 90 28]; exact e6, by rw [zFr_f hz.2 90 29]; exact e7, fun i a d => ?_, ?_, ?_, ?_⟩
  · rw [← q6]
    unfold zQ
    rw [hz.1, zFr_f hz.2 90 25, zFr_f hz.2 90 26, zFr_f hz.2 90 27]
  · rw [← zMn_i (W := U) ⟨a, d⟩, hz.1, zMn_i ⟨a, d⟩]
    exact k6.1 i a d
  · rw [zFr_f hz.2 90 25]; exact k6.2.1
  · rw [zFr_f hz.2 90 28]; exact k6.2.2.1
  · rw [zFr_f hz.2 90 29]; exact k6.2.2.2
noncomputable def y_MM_lookAtBoard : jY := (⟨"ChessHouseModel", "lookAtBoard", "()V"⟩, prog_15_method_44_code, 2, none)
theorem m_MM_lookAtBoard : jmth lw_tbl y_MM_lookAtBoard 0 := ⟨jTA_in (wi := 2505) (jtF_ok rfl) rfl, jTA_in (wi := 314) (jtF_ok rfl) rfl, by decide, by decide, by decide +kernel⟩
theorem i_MM_lookAtBoard : Jvm.Cond.instanceMethod y_MM_lookAtBoard.1 ∈ jTA lw_tbl := jTA_in (wi := 2504) (jtF_ok rfl) rfl
theorem e_MM_lookAtBoard : Jvm.Cond.selects y_MM_lookAtBoard.1.cls y_MM_lookAtBoard.1 y_MM_lookAtBoard.1 ∈ jTA lw_tbl := jTA_in (wi := 153) (jtF_ok rfl) rfl
noncomputable def ak_ZMMlook : List jI := [(.iconst 0, 1, (0, 0, 0, 0, 0)), (.istore_n 1, 1, (1, 0, 0, 0, 0)), (.iload_n 1, 1, (1, 0, 0, 0, 0)), (.bipush 64, 2, (0, 0, 0, 64, 0)), (.if_icmp .ge 27, 3, (32, 0, 0, 0, 0)), (.aload_n 0, 1, (0, 0, 0, 0, 0)), (.getfield 20, 3, (11, 5, 2307, 0, 0)), (.getfield 340, 3, (12, 24, 2056, 0, 0)), (.iload_n 1, 1, (1, 0, 0, 0, 0)), (.aload_n 0, 1, (0, 0, 0, 0, 0)), (.getfield 27, 3, (11, 6, 2308, 0, 0)), (.getfield 343, 3, (13, 2, 2175, 0, 0)), (.iload_n 1, 1, (1, 0, 0, 0, 0)), (.iaload, 1, (0, 0, 0, 0, 0)), (.iastore, 1, (0, 0, 0, 0, 0)), (.iinc 1 1, 3, (0, 0, 0, 1, 0)), (.goto (-27), 3, (2, 0, 0, 0, 0)), (.aload_n 0, 1, (0, 0, 0, 0, 0)), (.getfield 20, 3, (11, 5, 2307, 0, 0)), (.aload_n 0, 1, (0, 0, 0, 0, 0)), (.getfield 27, 3, (11, 6, 2308, 0, 0)), (.getfield 344, 3, (13, 3, 2177, 0, 0)), (.putfield 347, 3, (12, 25, 2058, 0, 0)), (.aload_n 0, 1, (0, 0, 0, 0, 0)), (.getfield 20, 3, (11, 5, 2307, 0, 0)), (.aload_n 0, 1, (0, 0, 0, 0, 0)), (.getfield 27, 3, (11, 6, 2308, 0, 0)), (.getfield 348, 3, (13, 4, 2179, 0, 0)), (.putfield 351, 3, (12, 26, 2060, 0, 0)), (.aload_n 0, 1, (0, 0, 0, 0, 0)), (.getfield 20, 3, (11, 5, 2307, 0, 0)), (.aload_n 0, 1, (0, 0, 0, 0, 0)), (.getfield 27, 3, (11, 6, 2308, 0, 0)), (.getfield 352, 3, (13, 5, 2181, 0, 0)), (.putfield 355, 3, (12, 27, 2062, 0, 0)), (.aload_n 0, 1, (0, 0, 0, 0, 0)), (.getfield 20, 3, (11, 5, 2307, 0, 0)), (.aload_n 0, 1, (0, 0, 0, 0, 0)), (.getfield 27, 3, (11, 6, 2308, 0, 0)), (.getfield 356, 3, (13, 6, 2183, 0, 0)), (.putfield 359, 3, (12, 28, 2064, 0, 0)), (.aload_n 0, 1, (0, 0, 0, 0, 0)), (.getfield 20, 3, (11, 5, 2307, 0, 0)), (.aload_n 0, 1, (0, 0, 0, 0, 0)), (.getfield 27, 3, (11, 6, 2308, 0, 0)), (.getfield 360, 3, (13, 7, 2185, 0, 0)), (.putfield 362, 3, (12, 29, 2066, 0, 0)), (.aload_n 0, 1, (0, 0, 0, 0, 0)), (.getfield 20, 3, (11, 5, 2307, 0, 0)), (.invokevirtual 363, 3, (0, 0, 2506, 0, 0)), (.return_, 1, (0, 0, 0, 0, 0))]
theorem ao_ZMMlook : jokLG jtF lk_MM "ChessHouseModel" jcl jtb 2 prog_15_method_44_code 0 ak_ZMMlook = true := by decide +kernel
noncomputable def zm_MMlook : zM := (none, { frames := 6, cells := 0, slots := 0, locals := 157 }, ([(363, 2506, 0)], []), [(y_MT_findMoves, false, 1, 12, { frames := 5, cells := 0, slots := 0, locals := 132 }, zc_MTfind)], ak_ZMMlook)
noncomputable def zc_MMlook (vals : List zv) (W : zW) (post : zPo) : Prop := vals = [.inr (.inr (some (.inl 87)))] ∧ (zKb W ∧ (0 ≤ W.1 116 6 ∧ W.1 116 6 ≤ 999) ∧ (0 ≤ W.1 116 7 ∧ W.1 116 7 ≤ 999) ∧ rGd (zQb W)) ∧ ∀ V : zW, (zFr [(90, 25), (90, 26), (90, 27), (90, 28), (90, 29), (90, 33)] [110, 111, 112, 113, 114] W V ∧ zQ V = zQb W ∧ V.1 90 28 = W.1 116 6 ∧ V.1 90 29 = W.1 116 7 ∧ zMk V) → post none V
set_option maxRecDepth 8000 in
theorem zp_MMlook_0 {n K : Nat} {W : zW} {post : zPo} {u1 : Option zv} (hK : 2 ≤ K) (hn : 142 ≤ n) (h : zwp jtb zsh n zm_MMlook post (K - 2) (lGo ak_ZMMlook 2) 2 [some (.inr (.inr (some (.inl 87)))), some (.inl (0))] [] W) : zwp jtb zsh n zm_MMlook post K (lGo ak_ZMMlook 0) 0 [some (.inr (.inr (some (.inl 87)))), u1] [] W := by
  obtain ⟨kk__, rfl⟩ : ∃ kk__, K = kk__ + 2 := ⟨K - 2, by omega⟩
  exact (show zwp jtb zsh n zm_MMlook post (kk__ + 0) (lGo ak_ZMMlook 2) 2 [some (.inr (.inr (some (.inl 87)))), some (.inl (0))] [] W from h)
set_option maxRecDepth 8000 in
theorem zp_MMlook_2 {n K : Nat} {V : zW} {post : zPo} {i : Int}  (hK : 37 ≤ K) (hn : 142 ≤ n) (h : (64 ≤ i → (rGd (zQ (zuF (zuF (zuF (zuF (zuF V 90 25 (V.1 116 3)) 90 26 (V.1 116 4)) 90 27 (V.1 116 5)) 90 28 (V.1 116 6)) 90 29 (V.1 116 7))) ∧ zMk (zuF (zuF (zuF (zuF (zuF V 90 25 (V.1 116 3)) 90 26 (V.1 116 4)) 90 27 (V.1 116 5)) 90 28 (V.1 116 6)) 90 29 (V.1 116 7)) ∧ (0 ≤ (zuF (zuF (zuF (zuF (zuF V 90 25 (V.1 116 3)) 90 26 (V.1 116 4)) 90 27 (V.1 116 5)) 90 28 (V.1 116 6)) 90 29 (V.1 116 7)).1 90 26 ∧ (zuF (zuF (zuF (zuF (zuF V 90 25 (V.1 116 3)) 90 26 (V.1 116 4)) 90 27 (V.1 116 5)) 90 28 (V.1 116 6)) 90 29 (V.1 116 7)).1 90 26 ≤ 15)) ∧ ∀ W106 : zW, (zSp (zuF (zuF (zuF (zuF (zuF V 90 25 (V.1 116 3)) 90 26 (V.1 116 4)) 90 27 (V.1 116 5)) 90 28 (V.1 116 6)) 90 29 (V.1 116 7)) W106 ∧ hqE (zLg (zQ (zuF (zuF (zuF (zuF (zuF V 90 25 (V.1 116 3)) 90 26 (V.1 116 4)) 90 27 (V.1 116 5)) 90 28 (V.1 116 6)) 90 29 (V.1 116 7)))) (W106.2.1 113) 0 (W106.1 90 33) ∧ W106.1 90 33 ≤ 2048) → post none W106) ∧ (¬ 64 ≤ i → (0 ≤ i ∧ i < 64) ∧ (0 ≤ i ∧ i < 64) ∧ (-2147483648 ≤ i + 1 ∧ i + 1 ≤ 2147483647) ∧ zwp jtb zsh n zm_MMlook post (K - 15) (lGo ak_ZMMlook 2) 2 [some (.inr (.inr (some (.inl 87)))), some (.inl (i + 1))] [] (zuR V 110 i (V.2.1 118 i)))) : zwp jtb zsh n zm_MMlook post K (lGo ak_ZMMlook 2) 2 [some (.inr (.inr (some (.inl 87)))), some (.inl (i))] [] V := by
  obtain ⟨kk__, rfl⟩ : ∃ kk__, K = kk__ + 37 := ⟨K - 37, by omega⟩
  exact (show (64 ≤ i → 87 < n ∧ 11 = 11 ∧ 87 < n ∧ 11 = 11 ∧ 116 < n ∧ 13 = 13 ∧ 90 < n ∧ 12 = 12 ∧ (some 0 : Option Nat) = some 0 ∧ ((0 : Nat) = 0 ∨ ((0 : Nat) = 1 ∧ ((V.1 116 3) = 0 ∨ (V.1 116 3) = 1))) ∧ 87 < n ∧ 11 = 11 ∧ 87 < n ∧ 11 = 11 ∧ 116 < n ∧ 13 = 13 ∧ 90 < n ∧ 12 = 12 ∧ (some 0 : Option Nat) = some 0 ∧ ((0 : Nat) = 0 ∨ ((0 : Nat) = 1 ∧ ((V.1 116 4) = 0 ∨ (V.1 116 4) = 1))) ∧ 87 < n ∧ 11 = 11 ∧ 87 < n ∧ 11 = 11 ∧ 116 < n ∧ 13 = 13 ∧ 90 < n ∧ 12 = 12 ∧ (some 0 : Option Nat) = some 0 ∧ ((0 : Nat) = 0 ∨ ((0 : Nat) = 1 ∧ ((V.1 116 5) = 0 ∨ (V.1 116 5) = 1))) ∧ 87 < n ∧ 11 = 11 ∧ 87 < n ∧ 11 = 11 ∧ 116 < n ∧ 13 = 13 ∧ 90 < n ∧ 12 = 12 ∧ (some 0 : Option Nat) = some 0 ∧ ((0 : Nat) = 0 ∨ ((0 : Nat) = 1 ∧ ((V.1 116 6) = 0 ∨ (V.1 116 6) = 1))) ∧ 87 < n ∧ 11 = 11 ∧ 87 < n ∧ 11 = 11 ∧ 116 < n ∧ 13 = 13 ∧ 90 < n ∧ 12 = 12 ∧ (some 0 : Option Nat) = some 0 ∧ ((0 : Nat) = 0 ∨ ((0 : Nat) = 1 ∧ ((V.1 116 7) = 0 ∨ (V.1 116 7) = 1))) ∧ 87 < n ∧ 11 = 11 ∧ 3 = 3 ∧ false = false ∧ jin3 363 2506 0 zm_MMlook.2.2.1.1 = true ∧ lRm zm_MMlook.2.1 { frames := 5, cells := 0, slots := 0, locals := 132 } 6 = true ∧ Nat.ble 1 1 = true ∧ Nat.ble 0 8 = true ∧ 90 < n ∧ 12 = 12 ∧ Nat.ble 1000 12 = false ∧ zc_MTfind [.inr (.inr (some (.inl 90)))] (zuF (zuF (zuF (zuF (zuF V 90 25 (V.1 116 3)) 90 26 (V.1 116 4)) 90 27 (V.1 116 5)) 90 28 (V.1 116 6)) 90 29 (V.1 116 7)) (fun vv__ WW__ => zwp jtb zsh n zm_MMlook post (kk__ + 1) (lGo ak_ZMMlook 109) 109 [some (.inr (.inr (some (.inl 87)))), some (.inl (i))] (vv__.toList ++ []) WW__)) ∧ (¬ 64 ≤ i → 87 < n ∧ 11 = 11 ∧ 90 < n ∧ 12 = 12 ∧ 87 < n ∧ 11 = 11 ∧ 116 < n ∧ 13 = 13 ∧ 118 < n ∧ FieldType.int = FieldType.int ∧ (0 ≤ i ∧ i < 64) ∧ 110 < n ∧ FieldType.int = FieldType.int ∧ (0 ≤ i ∧ i < 64) ∧ True ∧ (-2147483648 ≤ i + 1 ∧ i + 1 ≤ 2147483647) ∧ zwp jtb zsh n zm_MMlook post (kk__ + 22) (lGo ak_ZMMlook 2) 2 [some (.inr (.inr (some (.inl 87)))), some (.inl (i + 1))] [] (zuR V 110 i (V.2.1 118 i))) from ⟨fun c5_2 => ⟨(Nat.lt_of_lt_of_le (by decide) hn), rfl, ⟨(Nat.lt_of_lt_of_le (by decide) hn), rfl, ⟨(Nat.lt_of_lt_of_le (by decide) hn), rfl, ⟨(Nat.lt_of_lt_of_le (by decide) hn), rfl, rfl, (Or.inl rfl), ⟨(Nat.lt_of_lt_of_le (by decide) hn), rfl, ⟨(Nat.lt_of_lt_of_le (by decide) hn), rfl, ⟨(Nat.lt_of_lt_of_le (by decide) hn), rfl, ⟨(Nat.lt_of_lt_of_le (by decide) hn), rfl, rfl, (Or.inl rfl), ⟨(Nat.lt_of_lt_of_le (by decide) hn), rfl, ⟨(Nat.lt_of_lt_of_le (by decide) hn), rfl, ⟨(Nat.lt_of_lt_of_le (by decide) hn), rfl, ⟨(Nat.lt_of_lt_of_le (by decide) hn), rfl, rfl, (Or.inl rfl), ⟨(Nat.lt_of_lt_of_le (by decide) hn), rfl, ⟨(Nat.lt_of_lt_of_le (by decide) hn), rfl, ⟨(Nat.lt_of_lt_of_le (by decide) hn), rfl, ⟨(Nat.lt_of_lt_of_le (by decide) hn), rfl, rfl, (Or.inl rfl), ⟨(Nat.lt_of_lt_of_le (by decide) hn), rfl, ⟨(Nat.lt_of_lt_of_le (by decide) hn), rfl, ⟨(Nat.lt_of_lt_of_le (by decide) hn), rfl, ⟨(Nat.lt_of_lt_of_le (by decide) hn), rfl, rfl, (Or.inl rfl), ⟨(Nat.lt_of_lt_of_le (by decide) hn), rfl, ⟨rfl, rfl, rfl, rfl, rfl, rfl, (Nat.lt_of_lt_of_le (by decide) hn), rfl, rfl, rfl, (((h).1 c5_2)).1, fun W106 hr106 => (show 1 = 1 ∧ (none : Option FieldType) = none ∧ post none W106 from (have h := ((((h).1 c5_2)).2 W106 hr106); ⟨rfl, rfl, h⟩))⟩⟩⟩⟩⟩⟩⟩⟩⟩⟩⟩⟩⟩⟩⟩⟩⟩⟩⟩⟩⟩⟩, fun c5_2 => ⟨(Nat.lt_of_lt_of_le (by decide) hn), rfl, ⟨(Nat.lt_of_lt_of_le (by decide) hn), rfl, ⟨(Nat.lt_of_lt_of_le (by decide) hn), rfl, ⟨(Nat.lt_of_lt_of_le (by decide) hn), rfl, ⟨(Nat.lt_of_lt_of_le (by decide) hn), rfl, (((h).2 c5_2)).1, ⟨(Nat.lt_of_lt_of_le (by decide) hn), rfl, ((((h).2 c5_2)).2).1, trivial, ⟨(((((h).2 c5_2)).2).2).1, (((((h).2 c5_2)).2).2).2⟩⟩⟩⟩⟩⟩⟩⟩)
theorem zk_MMlook {l : Launch} {E : jE} {n : Nat} (hn : 142 ≤ n) : zHas l E jcl jtb lw_tbl zsh n (y_MM_lookAtBoard, false, 1, 11, { frames := 6, cells := 0, slots := 0, locals := 157 }, zc_MMlook) := by
  refine ⟨⟨rfl, rfl, ⟨show 1 ≤ 1 by decide, m_MM_lookAtBoard, i_MM_lookAtBoard, e_MM_lookAtBoard, fun _ => ⟨_, rfl, rfl⟩⟩⟩, ?_⟩
  rintro vz W po hO hW ⟨rfl, hq, hp⟩
  refine zmet (m := zm_MMlook) rfl (by decide) (fun _ _ => jtF_ok) lo_MM ao_ZMMlook jC (fun q h => by cases h) (aAllc (fun G h => by obtain rfl := Option.some.inj h; exact ql_MM_363) (fun q h => by cases h)) (aAllc (zk_MTfind hn) (fun q h => by cases h)) (Nat.le_of_ble_eq_true rfl) hO hW (6000) ?_
  have hk := hq.1
  have lp : ∀ (m K : Nat) (V : zW) (i : Int), 40 * m + 100 ≤ K → (64 - i < m ∧ 0 ≤ i ∧ i ≤ 64) → zFr [] [110] W V → (∀ t, 0 ≤ t → t < i → V.2.1 110 t = W.2.1 118 t) → zwp jtb zsh n zm_MMlook po K (lGo ak_ZMMlook 2) 2 [some (.inr (.inr (some (.inl 87)))), some (.inl i)] [] V := by
    intro m
    induction m with
    | zero => intro K V i hK hm; omega
    | succ m ih =>
      intro K V i hK hm hV hA
      have f6 : zFr [(90, 25), (90, 26), (90, 27), (90, 28), (90, 29)] [110] W (zuF (zuF (zuF (zuF (zuF V 90 25 (V.1 116 3)) 90 26 (V.1 116 4)) 90 27 (V.1 116 5)) 90 28 (V.1 116 6)) 90 29 (V.1 116 7)) := zFr_F (zFr_F (zFr_F (zFr_F (zFr_F (zFr_w hV (by decide) (by decide)) (by decide)) (by decide)) (by decide)) (by decide)) (by decide)
      have e3 := zFr_f hV 116 3
      have e4 := zFr_f hV 116 4
      have e5 := zFr_f hV 116 5
      have e6 := zFr_f hV 116 6
      have e7 := zFr_f hV 116 7
      have q6 : 64 ≤ i → zQ (zuF (zuF (zuF (zuF (zuF V 90 25 (V.1 116 3)) 90 26 (V.1 116 4)) 90 27 (V.1 116 5)) 90 28 (V.1 116 6)) 90 29 (V.1 116 7)) = zQb W := by
        intro i64
        have em : zMn (zuF (zuF (zuF (zuF (zuF V 90 25 (V.1 116 3)) 90 26 (V.1 116 4)) 90 27 (V.1 116 5)) 90 28 (V.1 116 6)) 90 29 (V.1 116 7)) = zMb W := zMo_e (fun t a d => hA t a (by omega))
        unfold zQ zQb
        rw [em]
        show (zMb W, V.1 116 3, V.1 116 4, V.1 116 5) = _
        rw [e3, e4, e5]
      have k6 : 64 ≤ i → zMk (zuF (zuF (zuF (zuF (zuF V 90 25 (V.1 116 3)) 90 26 (V.1 116 4)) 90 27 (V.1 116 5)) 90 28 (V.1 116 6)) 90 29 (V.1 116 7)) := by
        intro i64
        refine ⟨fun t a d => ?_, ?_, ?_, ?_⟩
        · show 0 ≤ V.2.1 110 t ∧ V.2.1 110 t ≤ 15
          rw [hA t a (by omega)]
          exact hk.1 t a d
        · show 0 ≤ V.1 116 3 ∧ V.1 116 3 ≤ 1
          rw [e3]; exact hk.2.1
        · show 0 ≤ V.1 116 6 ∧ V.1 116 6 ≤ 100000
          rw [e6]; have := hq.2.1; omega
        · show 0 ≤ V.1 116 7 ∧ V.1 116 7 ≤ 100000
          rw [e7]; have := hq.2.2.1; omega
      have pre : 64 ≤ i → rGd (zQ (zuF (zuF (zuF (zuF (zuF V 90 25 (V.1 116 3)) 90 26 (V.1 116 4)) 90 27 (V.1 116 5)) 90 28 (V.1 116 6)) 90 29 (V.1 116 7))) ∧ zMk (zuF (zuF (zuF (zuF (zuF V 90 25 (V.1 116 3)) 90 26 (V.1 116 4)) 90 27 (V.1 116 5)) 90 28 (V.1 116 6)) 90 29 (V.1 116 7)) ∧ (0 ≤ (zuF (zuF (zuF (zuF (zuF V 90 25 (V.1 116 3)) 90 26 (V.1 116 4)) 90 27 (V.1 116 5)) 90 28 (V.1 116 6)) 90 29 (V.1 116 7)).1 90 26 ∧ (zuF (zuF (zuF (zuF (zuF V 90 25 (V.1 116 3)) 90 26 (V.1 116 4)) 90 27 (V.1 116 5)) 90 28 (V.1 116 6)) 90 29 (V.1 116 7)).1 90 26 ≤ 15) := fun h => ⟨by rw [q6 h]; exact hq.2.2.2, k6 h, by show 0 ≤ V.1 116 4 ∧ V.1 116 4 ≤ 15; rw [e4]; exact hk.2.2.1⟩
      have fin : ∀ U, 64 ≤ i → (zSp (zuF (zuF (zuF (zuF (zuF V 90 25 (V.1 116 3)) 90 26 (V.1 116 4)) 90 27 (V.1 116 5)) 90 28 (V.1 116 6)) 90 29 (V.1 116 7)) U ∧ hqE (zLg (zQ (zuF (zuF (zuF (zuF (zuF V 90 25 (V.1 116 3)) 90 26 (V.1 116 4)) 90 27 (V.1 116 5)) 90 28 (V.1 116 6)) 90 29 (V.1 116 7)))) (U.2.1 113) 0 (U.1 90 33) ∧ U.1 90 33 ≤ 2048) → po none U := by
        intro U i64 h
        have hz := h.1
        exact hp _ (zlk W _ U f6 hz (q6 i64) (k6 i64) e6 e7)
      exact zp_MMlook_2 (by omega) hn ⟨fun c5 => ⟨(pre (by omega)), fun W106 hr106 => (fin W106 (by omega) hr106)⟩, fun c5 => ⟨(by omega), ⟨(by omega), ⟨(by omega), (ih _ _ (i + 1) (by omega) (by omega) (zFr_R hV (by decide)) (fun t a d => by show zuI (V.2.1 110) i (V.2.1 118 i) t = _; by_cases ct : t = i; (rw [ct, zuI_s, zFr_r hV 118]); (rw [zuI_n ct]; exact hA t a (by omega))))⟩⟩⟩⟩
  exact zp_MMlook_0 (by omega) hn (lp 65 _ W 0 (by omega) (by omega) zFr_0 (fun t a d => by omega))
/-- the text behind a place of the line is a position's -/
noncomputable def zSx (W : zW) (a : Int) (q : rQ) (k m : Int) : Prop := pTx (xLk (fun i => W.2.1 88 (a + 1 + i)) (W.1 87 9 - a - 1)) 0 (W.1 87 9 - a - 1) q k m ∧ pSd q
noncomputable def gGf (f : Int → Int) (n : Int) : xG := (1, fun _ => 3, fun _ j => xNc 0 j, fun _ => n, fun _ j => f j)
noncomputable def y_MM_set : jY := (⟨"ChessHouseModel", "set", "(I)V"⟩, prog_15_method_29_code, 6, none)
theorem m_MM_set : jmth lw_tbl y_MM_set 1 := ⟨jTA_in (wi := 2426) (jtF_ok rfl) rfl, jTA_in (wi := 314) (jtF_ok rfl) rfl, by decide, by decide, by decide +kernel⟩
theorem i_MM_set : Jvm.Cond.instanceMethod y_MM_set.1 ∈ jTA lw_tbl := jTA_in (wi := 2425) (jtF_ok rfl) rfl
theorem e_MM_set : Jvm.Cond.selects y_MM_set.1.cls y_MM_set.1 y_MM_set.1 ∈ jTA lw_tbl := jTA_in (wi := 138) (jtF_ok rfl) rfl
noncomputable def ak_ZMMset : List jI := [(.iload_n 1, 1, (1, 0, 0, 0, 0)), (.aload_n 0, 1, (0, 0, 0, 0, 0)), (.getfield 72, 3, (11, 9, 2311, 0, 0)), (.if_icmp .ne 9, 3, (14, 0, 0, 0, 0)), (.aload_n 0, 1, (0, 0, 0, 0, 0)), (.iconst 1, 1, (0, 0, 0, 1, 0)), (.invokevirtual 137, 3, (0, 0, 2391, 0, 0)), (.return_, 1, (0, 0, 0, 0, 0)), (.aload_n 0, 1, (0, 0, 0, 0, 0)), (.getfield 72, 3, (11, 9, 2311, 0, 0)), (.iload_n 1, 1, (1, 0, 0, 0, 0)), (.isub, 1, (0, 0, 0, 0, 0)), (.iconst 1, 1, (0, 0, 0, 1, 0)), (.isub, 1, (0, 0, 0, 0, 0)), (.istore_n 2, 1, (2, 0, 0, 0, 0)), (.iconst 0, 1, (0, 0, 0, 0, 0)), (.istore_n 3, 1, (3, 0, 0, 0, 0)), (.iload_n 3, 1, (3, 0, 0, 0, 0)), (.iload_n 2, 1, (2, 0, 0, 0, 0)), (.if_icmp .ge 29, 3, (56, 0, 0, 0, 0)), (.aload_n 0, 1, (0, 0, 0, 0, 0)), (.getfield 27, 3, (11, 6, 2308, 0, 0)), (.getfield 233, 3, (13, 1, 2173, 0, 0)), (.iload_n 3, 1, (3, 0, 0, 0, 0)), (.aload_n 0, 1, (0, 0, 0, 0, 0)), (.getfield 10, 3, (11, 2, 2304, 0, 0)), (.iload_n 1, 1, (1, 0, 0, 0, 0)), (.iconst 1, 1, (0, 0, 0, 1, 0)), (.iadd, 1, (0, 0, 0, 0, 0)), (.iload_n 3, 1, (3, 0, 0, 0, 0)), (.iadd, 1, (0, 0, 0, 0, 0)), (.baload, 1, (0, 0, 0, 0, 0)), (.i2c, 1, (0, 0, 0, 0, 0)), (.castore, 1, (0, 0, 0, 0, 0)), (.iinc 3 1, 3, (0, 0, 0, 1, 0)), (.goto (-28), 3, (25, 0, 0, 0, 0)), (.aload_n 0, 1, (0, 0, 0, 0, 0)), (.getfield 27, 3, (11, 6, 2308, 0, 0)), (.iload_n 2, 1, (2, 0, 0, 0, 0)), (.putfield 236, 3, (13, 0, 2170, 0, 0)), (.aload_n 0, 1, (0, 0, 0, 0, 0)), (.getfield 27, 3, (11, 6, 2308, 0, 0)), (.invokevirtual 239, 3, (1, 0, 2427, 0, 0)), (.istore_n 3, 1, (3, 0, 0, 0, 0)), (.iload_n 3, 1, (3, 0, 0, 0, 0)), (.ifCond .le 12, 3, (85, 0, 0, 0, 0)), (.aload_n 0, 1, (0, 0, 0, 0, 0)), (.bipush 7, 2, (0, 0, 0, 7, 0)), (.iload_n 3, 1, (3, 0, 0, 0, 0)), (.iconst (-1), 1, (0, 0, 0, (-1), 0)), (.invokevirtual 100, 3, (2, 0, 2395, 0, 0)), (.return_, 1, (0, 0, 0, 0, 0)), (.aload_n 0, 1, (0, 0, 0, 0, 0)), (.getfield 20, 3, (11, 5, 2307, 0, 0)), (.getfield 165, 3, (12, 5, 2019, 0, 0)), (.istore 4, 2, (4, 0, 0, 0, 0)), (.aload_n 0, 1, (0, 0, 0, 0, 0)), (.getfield 20, 3, (11, 5, 2307, 0, 0)), (.iload 4, 2, (4, 0, 0, 0, 0)), (.invokevirtual 168, 3, (3, 0, 2501, 0, 0)), (.aload_n 0, 1, (0, 0, 0, 0, 0)), (.invokevirtual 241, 3, (4, 0, 2502, 0, 0)), (.aload_n 0, 1, (0, 0, 0, 0, 0)), (.getfield 20, 3, (11, 5, 2307, 0, 0)), (.iload 4, 2, (4, 0, 0, 0, 0)), (.invokevirtual 244, 3, (5, 0, 2507, 0, 0)), (.aload_n 0, 1, (0, 0, 0, 0, 0)), (.getfield 20, 3, (11, 5, 2307, 0, 0)), (.getfield 247, 3, (12, 18, 2044, 0, 0)), (.iload 4, 2, (4, 0, 0, 0, 0)), (.iconst 1, 1, (0, 0, 0, 1, 0)), (.iastore, 1, (0, 0, 0, 0, 0)), (.aload_n 0, 1, (0, 0, 0, 0, 0)), (.getfield 20, 3, (11, 5, 2307, 0, 0)), (.getfield 250, 3, (12, 19, 2046, 0, 0)), (.bipush 8, 2, (0, 0, 0, 8, 0)), (.iload 4, 2, (4, 0, 0, 0, 0)), (.imul, 1, (0, 0, 0, 0, 0)), (.iconst 3, 1, (0, 0, 0, 3, 0)), (.iastore, 1, (0, 0, 0, 0, 0)), (.aload_n 0, 1, (0, 0, 0, 0, 0)), (.getfield 20, 3, (11, 5, 2307, 0, 0)), (.getfield 253, 3, (12, 20, 2048, 0, 0)), (.bipush 96, 2, (0, 0, 0, 96, 0)), (.iload 4, 2, (4, 0, 0, 0, 0)), (.imul, 1, (0, 0, 0, 0, 0)), (.bipush 70, 2, (0, 0, 0, 70, 0)), (.castore, 1, (0, 0, 0, 0, 0)), (.aload_n 0, 1, (0, 0, 0, 0, 0)), (.getfield 20, 3, (11, 5, 2307, 0, 0)), (.getfield 253, 3, (12, 20, 2048, 0, 0)), (.bipush 96, 2, (0, 0, 0, 96, 0)), (.iload 4, 2, (4, 0, 0, 0, 0)), (.imul, 1, (0, 0, 0, 0, 0)), (.iconst 1, 1, (0, 0, 0, 1, 0)), (.iadd, 1, (0, 0, 0, 0, 0)), (.bipush 69, 2, (0, 0, 0, 69, 0)), (.castore, 1, (0, 0, 0, 0, 0)), (.aload_n 0, 1, (0, 0, 0, 0, 0)), (.getfield 20, 3, (11, 5, 2307, 0, 0)), (.getfield 253, 3, (12, 20, 2048, 0, 0)), (.bipush 96, 2, (0, 0, 0, 96, 0)), (.iload 4, 2, (4, 0, 0, 0, 0)), (.imul, 1, (0, 0, 0, 0, 0)), (.iconst 2, 1, (0, 0, 0, 2, 0)), (.iadd, 1, (0, 0, 0, 0, 0)), (.bipush 78, 2, (0, 0, 0, 78, 0)), (.castore, 1, (0, 0, 0, 0, 0)), (.aload_n 0, 1, (0, 0, 0, 0, 0)), (.getfield 20, 3, (11, 5, 2307, 0, 0)), (.getfield 256, 3, (12, 21, 2050, 0, 0)), (.bipush 8, 2, (0, 0, 0, 8, 0)), (.iload 4, 2, (4, 0, 0, 0, 0)), (.imul, 1, (0, 0, 0, 0, 0)), (.iload_n 2, 1, (2, 0, 0, 0, 0)), (.iastore, 1, (0, 0, 0, 0, 0)), (.iconst 0, 1, (0, 0, 0, 0, 0)), (.istore 5, 2, (5, 0, 0, 0, 0)), (.iload 5, 2, (5, 0, 0, 0, 0)), (.iload_n 2, 1, (2, 0, 0, 0, 0)), (.if_icmp .ge 38, 3, (248, 0, 0, 0, 0)), (.aload_n 0, 1, (0, 0, 0, 0, 0)), (.getfield 20, 3, (11, 5, 2307, 0, 0)), (.getfield 259, 3, (12, 22, 2052, 0, 0)), (.sipush 768, 3, (0, 0, 0, 768, 0)), (.iload 4, 2, (4, 0, 0, 0, 0)), (.imul, 1, (0, 0, 0, 0, 0)), (.iload 5, 2, (5, 0, 0, 0, 0)), (.iadd, 1, (0, 0, 0, 0, 0)), (.aload_n 0, 1, (0, 0, 0, 0, 0)), (.getfield 10, 3, (11, 2, 2304, 0, 0)), (.iload_n 1, 1, (1, 0, 0, 0, 0)), (.iconst 1, 1, (0, 0, 0, 1, 0)), (.iadd, 1, (0, 0, 0, 0, 0)), (.iload 5, 2, (5, 0, 0, 0, 0)), (.iadd, 1, (0, 0, 0, 0, 0)), (.baload, 1, (0, 0, 0, 0, 0)), (.i2c, 1, (0, 0, 0, 0, 0)), (.castore, 1, (0, 0, 0, 0, 0)), (.iinc 5 1, 3, (0, 0, 0, 1, 0)), (.goto (-38), 3, (207, 0, 0, 0, 0)), (.aload_n 0, 1, (0, 0, 0, 0, 0)), (.iconst 0, 1, (0, 0, 0, 0, 0)), (.invokevirtual 174, 3, (6, 0, 2508, 0, 0)), (.aload_n 0, 1, (0, 0, 0, 0, 0)), (.invokevirtual 177, 3, (7, 0, 2513, 0, 0)), (.return_, 1, (0, 0, 0, 0, 0))]
theorem ao_ZMMset : jokLG jtF lk_MM "ChessHouseModel" jcl jtb 6 prog_15_method_29_code 0 ak_ZMMset = true := by decide +kernel
noncomputable def zm_MMset : zM := (none, { frames := 8, cells := 0, slots := 0, locals := 202 }, ([(137, 2391, 0), (239, 2427, 1), (100, 2395, 2), (168, 2501, 3), (241, 2502, 4), (244, 2507, 5), (174, 2508, 6), (177, 2513, 7)], []), [(y_MM_fault, false, 2, 11, { frames := 4, cells := 0, slots := 0, locals := 92 }, zc_MMfault1), (y_MB_fault, false, 1, 13, { frames := 5, cells := 0, slots := 0, locals := 118 }, zc_MBflt), (y_MM_fault2, false, 4, 11, { frames := 3, cells := 0, slots := 0, locals := 69 }, zc_MMfault3), (y_MT_clearGame, false, 2, 12, { frames := 1, cells := 0, slots := 0, locals := 21 }, zc_MTclG), (y_MM_lookAtBoard, false, 1, 11, { frames := 6, cells := 0, slots := 0, locals := 157 }, zc_MMlook), (y_MT_start, false, 2, 12, { frames := 0, cells := 0, slots := 0, locals := 0 }, zc_MTstart), (y_MM_goTo, false, 2, 11, { frames := 7, cells := 0, slots := 0, locals := 181 }, zc_MMgoTo), (y_MM_nothing, false, 1, 11, { frames := 2, cells := 0, slots := 0, locals := 41 }, zc_MMnothing)], ak_ZMMset)
noncomputable def zc_MMset (vals : List zv) (W : zW) (post : zPo) : Prop := ∃ a : Int, ∃ T : xT, ∃ h : Int, ∃ G : xG, vals = [.inr (.inr (some (.inl 87))), .inl (a)] ∧ (zRd W T h ∧ zTg W (W.1 90 5) G ∧ zVr W ∧ zLs W ∧ W.1 87 8 ≤ a ∧ a ≤ W.1 87 9) ∧ ∀ V : zW, (zFr [(87, 3), (87, 12), (90, 6), (90, 25), (90, 26), (90, 27), (90, 28), (90, 29), (90, 33), (116, 0), (116, 3), (116, 4), (116, 5), (116, 6), (116, 7)] [89, 93, 94, 95, 96, 97, 98, 100, 102, 103, 104, 105, 106, 107, 108, 109, 110, 111, 112, 113, 114, 117, 118] W V ∧ zOg V ∧ zVr V ∧ (((a = W.1 87 9 ∨ ¬ ∃ q k m, zSx W a q k m) ∧ zHe V T h ∧ zTg V (V.1 90 5) G ∧ V.1 87 12 = W.1 87 12 + 1) ∨ (¬ a = W.1 87 9 ∧ ∃ q k m, zSx W a q k m ∧ zHe V (xNw (q, m)) 0 ∧ zTg V (V.1 90 5) (gGf (fun i => W.2.1 88 (a + 1 + i)) (W.1 87 9 - a - 1)) ∧ V.1 87 12 = W.1 87 12))) → post none V
set_option maxRecDepth 8000 in
theorem zp_MMset_0 {n K : Nat} {W : zW} {post : zPo} {a : Int} {u2 u3 u4 u5 : Option zv} (hK : 13 ≤ K) (hn : 142 ≤ n) (h : (¬ a = (W.1 87 9) → (-2147483648 ≤ (W.1 87 9) - a ∧ (W.1 87 9) - a ≤ 2147483647) ∧ (-2147483648 ≤ ((W.1 87 9) - a) - 1 ∧ ((W.1 87 9) - a) - 1 ≤ 2147483647) ∧ zwp jtb zsh n zm_MMset post (K - 13) (lGo ak_ZMMset 25) 25 [some (.inr (.inr (some (.inl 87)))), some (.inl (a)), some (.inl (((W.1 87 9) - a) - 1)), some (.inl (0)), u4, u5] [] W) ∧ (a = (W.1 87 9) → (zOg W ∧ lRg (1 : Int) ∧ W.1 87 12 ≤ 2147483646 ∧ 0 ≤ W.1 87 12) ∧ ∀ W10 : zW, (zFt W W10) → post none W10)) : zwp jtb zsh n zm_MMset post K (lGo ak_ZMMset 0) 0 [some (.inr (.inr (some (.inl 87)))), some (.inl (a)), u2, u3, u4, u5] [] W := by
  obtain ⟨kk__, rfl⟩ : ∃ kk__, K = kk__ + 13 := ⟨K - 13, by omega⟩
  exact (show 87 < n ∧ 11 = 11 ∧ (¬ a = (W.1 87 9) → 87 < n ∧ 11 = 11 ∧ (-2147483648 ≤ (W.1 87 9) - a ∧ (W.1 87 9) - a ≤ 2147483647) ∧ (-2147483648 ≤ ((W.1 87 9) - a) - 1 ∧ ((W.1 87 9) - a) - 1 ≤ 2147483647) ∧ zwp jtb zsh n zm_MMset post (kk__ + 0) (lGo ak_ZMMset 25) 25 [some (.inr (.inr (some (.inl 87)))), some (.inl (a)), some (.inl (((W.1 87 9) - a) - 1)), some (.inl (0)), u4, u5] [] W) ∧ (a = (W.1 87 9) → 3 = 3 ∧ false = false ∧ jin3 137 2391 0 zm_MMset.2.2.1.1 = true ∧ lRm zm_MMset.2.1 { frames := 4, cells := 0, slots := 0, locals := 92 } 2 = true ∧ Nat.ble 2 2 = true ∧ Nat.ble 0 8 = true ∧ 87 < n ∧ 11 = 11 ∧ Nat.ble 1000 11 = false ∧ zc_MMfault1 [.inr (.inr (some (.inl 87))), .inl (1)] W (fun vv__ WW__ => zwp jtb zsh n zm_MMset post (kk__ + 6) (lGo ak_ZMMset 13) 13 [some (.inr (.inr (some (.inl 87)))), some (.inl (a)), u2, u3, u4, u5] (vv__.toList ++ []) WW__)) from ⟨(Nat.lt_of_lt_of_le (by decide) hn), rfl, ⟨fun c5_3 => ⟨(Nat.lt_of_lt_of_le (by decide) hn), rfl, ⟨(((h).1 c5_3)).1, ⟨((((h).1 c5_3)).2).1, ((((h).1 c5_3)).2).2⟩⟩⟩, fun c5_3 => ⟨rfl, rfl, rfl, rfl, rfl, rfl, (Nat.lt_of_lt_of_le (by decide) hn), rfl, rfl, 1, rfl, (((h).2 c5_3)).1, fun W10 hr10 => (show 1 = 1 ∧ (none : Option FieldType) = none ∧ post none W10 from (have h := ((((h).2 c5_3)).2 W10 hr10); ⟨rfl, rfl, h⟩))⟩⟩⟩)
set_option maxRecDepth 8000 in
theorem zp_MMset_25 {n K : Nat} {V : zW} {post : zPo} {a z i : Int} {u4 u5 : Option zv} (hK : 19 ≤ K) (hn : 142 ≤ n) (h : (z ≤ i → zwp jtb zsh n zm_MMset post (K - 3) (lGo ak_ZMMset 56) 56 [some (.inr (.inr (some (.inl 87)))), some (.inl (a)), some (.inl (z)), some (.inl (i)), u4, u5] [] V) ∧ (¬ z ≤ i → (-2147483648 ≤ a + 1 ∧ a + 1 ≤ 2147483647) ∧ (-2147483648 ≤ (a + 1) + i ∧ (a + 1) + i ≤ 2147483647) ∧ (0 ≤ ((a + 1) + i) ∧ ((a + 1) + i) < 65536) ∧ (0 ≤ (V.2.1 88 ((a + 1) + i)) ∧ (V.2.1 88 ((a + 1) + i)) ≤ 65535) ∧ ∀ t0 : Int, t0 = V.2.1 88 ((a + 1) + i) → (0 ≤ i ∧ i < 65536) ∧ (0 ≤ t0 ∧ t0 ≤ 65535) ∧ (-2147483648 ≤ i + 1 ∧ i + 1 ≤ 2147483647) ∧ zwp jtb zsh n zm_MMset post (K - 19) (lGo ak_ZMMset 25) 25 [some (.inr (.inr (some (.inl 87)))), some (.inl (a)), some (.inl (z)), some (.inl (i + 1)), u4, u5] [] (zuR V 117 i t0))) : zwp jtb zsh n zm_MMset post K (lGo ak_ZMMset 25) 25 [some (.inr (.inr (some (.inl 87)))), some (.inl (a)), some (.inl (z)), some (.inl (i)), u4, u5] [] V := by
  obtain ⟨kk__, rfl⟩ : ∃ kk__, K = kk__ + 19 := ⟨K - 19, by omega⟩
  exact (show (z ≤ i → zwp jtb zsh n zm_MMset post (kk__ + 16) (lGo ak_ZMMset 56) 56 [some (.inr (.inr (some (.inl 87)))), some (.inl (a)), some (.inl (z)), some (.inl (i)), u4, u5] [] V) ∧ (¬ z ≤ i → 87 < n ∧ 11 = 11 ∧ 116 < n ∧ 13 = 13 ∧ 87 < n ∧ 11 = 11 ∧ (-2147483648 ≤ a + 1 ∧ a + 1 ≤ 2147483647) ∧ (-2147483648 ≤ (a + 1) + i ∧ (a + 1) + i ≤ 2147483647) ∧ 88 < n ∧ FieldType.byte = FieldType.byte ∧ (0 ≤ ((a + 1) + i) ∧ ((a + 1) + i) < 65536) ∧ 117 < n ∧ FieldType.char = FieldType.char ∧ (0 ≤ i ∧ i < 65536) ∧ (0 ≤ (((lI (V.2.1 88 ((a + 1) + i))).toUInt32 % 65536).toInt32.toInt) ∧ (((lI (V.2.1 88 ((a + 1) + i))).toUInt32 % 65536).toInt32.toInt) ≤ 65535) ∧ (-2147483648 ≤ i + 1 ∧ i + 1 ≤ 2147483647) ∧ zwp jtb zsh n zm_MMset post (kk__ + 0) (lGo ak_ZMMset 25) 25 [some (.inr (.inr (some (.inl 87)))), some (.inl (a)), some (.inl (z)), some (.inl (i + 1)), u4, u5] [] (zuR V 117 i (((lI (V.2.1 88 ((a + 1) + i))).toUInt32 % 65536).toInt32.toInt))) from ⟨fun c27_2 => ((h).1 c27_2), fun c27_2 => ⟨(Nat.lt_of_lt_of_le (by decide) hn), rfl, ⟨(Nat.lt_of_lt_of_le (by decide) hn), rfl, ⟨(Nat.lt_of_lt_of_le (by decide) hn), rfl, ⟨(((h).2 c27_2)).1, ⟨((((h).2 c27_2)).2).1, ⟨(Nat.lt_of_lt_of_le (by decide) hn), rfl, (((((h).2 c27_2)).2).2).1, (have h := (((((h).2 c27_2)).2).2).2; ⟨(Nat.lt_of_lt_of_le (by decide) hn), rfl, (((h).2 _ (z_ic (h).1))).1, ((((h).2 _ (z_ic (h).1))).2).1, (have h := ((((h).2 _ (z_ic (h).1))).2).2; ⟨(h).1, (h).2⟩)⟩)⟩⟩⟩⟩⟩⟩⟩)
set_option maxRecDepth 8000 in
theorem zp_MMset_56 {n K : Nat} {V : zW} {post : zPo} {a z i : Int} {u4 u5 : Option zv} (hK : 16 ≤ K) (hn : 142 ≤ n) (h : (zBp (zuF V 116 0 z)) ∧ ∀ r68 : Int, ∀ W68 : zW, (zFr [(116, 3), (116, 4), (116, 5), (116, 6), (116, 7)] [118] (zuF V 116 0 z) W68 ∧ ((r68 = 0 ∧ ∃ q k m, pTx (zBk (zuF V 116 0 z)) 0 ((zuF V 116 0 z).1 116 0) q k m ∧ pSd q ∧ zQb W68 = q ∧ W68.1 116 6 = k ∧ W68.1 116 7 = m ∧ (0 ≤ k ∧ k ≤ 999 ∧ 0 ≤ m ∧ m ≤ 999) ∧ zKb W68) ∨ ((0 < r68 ∧ r68 ≤ 6) ∧ ¬ ∃ q k m, pTx (zBk (zuF V 116 0 z)) 0 ((zuF V 116 0 z).1 116 0) q k m ∧ pSd q))) → (r68 ≤ 0 → zwp jtb zsh n zm_MMset post (K - 10) (lGo ak_ZMMset 85) 85 [some (.inr (.inr (some (.inl 87)))), some (.inl (a)), some (.inl (z)), some (.inl (r68)), u4, u5] [] W68) ∧ (¬ r68 ≤ 0 → (zOg W68 ∧ lRg (7 : Int) ∧ lRg r68 ∧ lRg (-1 : Int) ∧ W68.1 87 12 ≤ 2147483646 ∧ 0 ≤ W68.1 87 12) ∧ ∀ W81 : zW, (zFt W68 W81) → post none W81)) : zwp jtb zsh n zm_MMset post K (lGo ak_ZMMset 56) 56 [some (.inr (.inr (some (.inl 87)))), some (.inl (a)), some (.inl (z)), some (.inl (i)), u4, u5] [] V := by
  obtain ⟨kk__, rfl⟩ : ∃ kk__, K = kk__ + 16 := ⟨K - 16, by omega⟩
  exact (show 87 < n ∧ 11 = 11 ∧ 116 < n ∧ 13 = 13 ∧ (some 0 : Option Nat) = some 0 ∧ ((0 : Nat) = 0 ∨ ((0 : Nat) = 1 ∧ (z = 0 ∨ z = 1))) ∧ 87 < n ∧ 11 = 11 ∧ 3 = 3 ∧ false = false ∧ jin3 239 2427 1 zm_MMset.2.2.1.1 = true ∧ lRm zm_MMset.2.1 { frames := 5, cells := 0, slots := 0, locals := 118 } 2 = true ∧ Nat.ble 1 1 = true ∧ Nat.ble 0 8 = true ∧ 116 < n ∧ 13 = 13 ∧ Nat.ble 1000 13 = false ∧ zc_MBflt [.inr (.inr (some (.inl 116)))] (zuF V 116 0 z) (fun vv__ WW__ => zwp jtb zsh n zm_MMset post (kk__ + 9) (lGo ak_ZMMset 71) 71 [some (.inr (.inr (some (.inl 87)))), some (.inl (a)), some (.inl (z)), some (.inl (i)), u4, u5] (vv__.toList ++ []) WW__) from ⟨(Nat.lt_of_lt_of_le (by decide) hn), rfl, ⟨(Nat.lt_of_lt_of_le (by decide) hn), rfl, rfl, (Or.inl rfl), ⟨(Nat.lt_of_lt_of_le (by decide) hn), rfl, ⟨rfl, rfl, rfl, rfl, rfl, rfl, (Nat.lt_of_lt_of_le (by decide) hn), rfl, rfl, rfl, (h).1, fun r68 W68 hr68 => (show (r68 ≤ 0 → zwp jtb zsh n zm_MMset post (kk__ + 6) (lGo ak_ZMMset 85) 85 [some (.inr (.inr (some (.inl 87)))), some (.inl (a)), some (.inl (z)), some (.inl (r68)), u4, u5] [] W68) ∧ (¬ r68 ≤ 0 → 3 = 3 ∧ false = false ∧ jin3 100 2395 2 zm_MMset.2.2.1.1 = true ∧ lRm zm_MMset.2.1 { frames := 3, cells := 0, slots := 0, locals := 69 } 4 = true ∧ Nat.ble 4 4 = true ∧ Nat.ble 0 8 = true ∧ 87 < n ∧ 11 = 11 ∧ Nat.ble 1000 11 = false ∧ zc_MMfault3 [.inr (.inr (some (.inl 87))), .inl (7), .inl (r68), .inl (-1)] W68 (fun vv__ WW__ => zwp jtb zsh n zm_MMset post (kk__ + 1) (lGo ak_ZMMset 84) 84 [some (.inr (.inr (some (.inl 87)))), some (.inl (a)), some (.inl (z)), some (.inl (r68)), u4, u5] (vv__.toList ++ []) WW__)) from ⟨fun c73_9 => ((((h).2 r68 W68 hr68)).1 c73_9), fun c73_9 => (have h := ((((h).2 r68 W68 hr68)).2 c73_9); ⟨rfl, rfl, rfl, rfl, rfl, rfl, (Nat.lt_of_lt_of_le (by decide) hn), rfl, rfl, 7, r68, -1, rfl, (h).1, fun W81 hr81 => (show 1 = 1 ∧ (none : Option FieldType) = none ∧ post none W81 from ⟨rfl, rfl, ((h).2 W81 hr81)⟩)⟩)⟩)⟩⟩⟩⟩)
set_option maxRecDepth 8000 in
theorem zp_MMset_85 {n K : Nat} {V : zW} {post : zPo} {a z i : Int} {u4 u5 : Option zv} (hK : 66 ≤ K) (hn : 142 ≤ n) (h : (0 ≤ (V.1 90 5) ∧ (V.1 90 5) ≤ 1) ∧ ∀ W100 : zW, (zClr V W100 (V.1 90 5)) → (zKb W100 ∧ (0 ≤ W100.1 116 6 ∧ W100.1 116 6 ≤ 999) ∧ (0 ≤ W100.1 116 7 ∧ W100.1 116 7 ≤ 999) ∧ rGd (zQb W100)) ∧ ∀ W104 : zW, (zFr [(90, 25), (90, 26), (90, 27), (90, 28), (90, 29), (90, 33)] [110, 111, 112, 113, 114] W100 W104 ∧ zQ W104 = zQb W100 ∧ W104.1 90 28 = W100.1 116 6 ∧ W104.1 90 29 = W100.1 116 7 ∧ zMk W104) → (0 ≤ (V.1 90 5) ∧ (V.1 90 5) ≤ 1) ∧ ∀ W113 : zW, (zSs W104 W113 (V.1 90 5)) → (0 ≤ (V.1 90 5) ∧ (V.1 90 5) < 2) ∧ (0 ≤ (1 : Int) ∧ (1 : Int) ≤ 8) ∧ (-2147483648 ≤ 8 * (V.1 90 5) ∧ 8 * (V.1 90 5) ≤ 2147483647) ∧ (0 ≤ (8 * (V.1 90 5)) ∧ (8 * (V.1 90 5)) < 16) ∧ (0 ≤ (3 : Int) ∧ (3 : Int) ≤ 12) ∧ (-2147483648 ≤ 96 * (V.1 90 5) ∧ 96 * (V.1 90 5) ≤ 2147483647) ∧ (0 ≤ (96 * (V.1 90 5)) ∧ (96 * (V.1 90 5)) < 192) ∧ (0 ≤ (70 : Int) ∧ (70 : Int) ≤ 65535) ∧ (-2147483648 ≤ 96 * (V.1 90 5) ∧ 96 * (V.1 90 5) ≤ 2147483647) ∧ (-2147483648 ≤ (96 * (V.1 90 5)) + 1 ∧ (96 * (V.1 90 5)) + 1 ≤ 2147483647) ∧ (0 ≤ ((96 * (V.1 90 5)) + 1) ∧ ((96 * (V.1 90 5)) + 1) < 192) ∧ (0 ≤ (69 : Int) ∧ (69 : Int) ≤ 65535) ∧ (-2147483648 ≤ 96 * (V.1 90 5) ∧ 96 * (V.1 90 5) ≤ 2147483647) ∧ (-2147483648 ≤ (96 * (V.1 90 5)) + 2 ∧ (96 * (V.1 90 5)) + 2 ≤ 2147483647) ∧ (0 ≤ ((96 * (V.1 90 5)) + 2) ∧ ((96 * (V.1 90 5)) + 2) < 192) ∧ (0 ≤ (78 : Int) ∧ (78 : Int) ≤ 65535) ∧ (-2147483648 ≤ 8 * (V.1 90 5) ∧ 8 * (V.1 90 5) ≤ 2147483647) ∧ (0 ≤ (8 * (V.1 90 5)) ∧ (8 * (V.1 90 5)) < 16) ∧ (0 ≤ z ∧ z ≤ 96) ∧ zwp jtb zsh n zm_MMset post (K - 66) (lGo ak_ZMMset 207) 207 [some (.inr (.inr (some (.inl 87)))), some (.inl (a)), some (.inl (z)), some (.inl (i)), some (.inl (V.1 90 5)), some (.inl (0))] [] (zuR (zuR (zuR (zuR (zuR (zuR W113 104 (V.1 90 5) 1) 105 (8 * (V.1 90 5)) 3) 106 (96 * (V.1 90 5)) 70) 106 ((96 * (V.1 90 5)) + 1) 69) 106 ((96 * (V.1 90 5)) + 2) 78) 107 (8 * (V.1 90 5)) z)) : zwp jtb zsh n zm_MMset post K (lGo ak_ZMMset 85) 85 [some (.inr (.inr (some (.inl 87)))), some (.inl (a)), some (.inl (z)), some (.inl (i)), u4, u5] [] V := by
  obtain ⟨kk__, rfl⟩ : ∃ kk__, K = kk__ + 66 := ⟨K - 66, by omega⟩
  exact (show 87 < n ∧ 11 = 11 ∧ 90 < n ∧ 12 = 12 ∧ 87 < n ∧ 11 = 11 ∧ 3 = 3 ∧ false = false ∧ jin3 168 2501 3 zm_MMset.2.2.1.1 = true ∧ lRm zm_MMset.2.1 { frames := 1, cells := 0, slots := 0, locals := 21 } 2 = true ∧ Nat.ble 2 2 = true ∧ Nat.ble 0 8 = true ∧ 90 < n ∧ 12 = 12 ∧ Nat.ble 1000 12 = false ∧ zc_MTclG [.inr (.inr (some (.inl 90))), .inl (V.1 90 5)] V (fun vv__ WW__ => zwp jtb zsh n zm_MMset post (kk__ + 58) (lGo ak_ZMMset 103) 103 [some (.inr (.inr (some (.inl 87)))), some (.inl (a)), some (.inl (z)), some (.inl (i)), some (.inl (V.1 90 5)), u5] (vv__.toList ++ []) WW__) from ⟨(Nat.lt_of_lt_of_le (by decide) hn), rfl, ⟨(Nat.lt_of_lt_of_le (by decide) hn), rfl, ⟨(Nat.lt_of_lt_of_le (by decide) hn), rfl, ⟨rfl, rfl, rfl, rfl, rfl, rfl, (Nat.lt_of_lt_of_le (by decide) hn), rfl, rfl, V.1 90 5, rfl, (h).1, fun W100 hr100 => (show 3 = 3 ∧ false = false ∧ jin3 241 2502 4 zm_MMset.2.2.1.1 = true ∧ lRm zm_MMset.2.1 { frames := 6, cells := 0, slots := 0, locals := 157 } 2 = true ∧ Nat.ble 1 1 = true ∧ Nat.ble 0 8 = true ∧ 87 < n ∧ 11 = 11 ∧ Nat.ble 1000 11 = false ∧ zc_MMlook [.inr (.inr (some (.inl 87)))] W100 (fun vv__ WW__ => zwp jtb zsh n zm_MMset post (kk__ + 56) (lGo ak_ZMMset 107) 107 [some (.inr (.inr (some (.inl 87)))), some (.inl (a)), some (.inl (z)), some (.inl (i)), some (.inl (V.1 90 5)), u5] (vv__.toList ++ []) WW__) from ⟨rfl, rfl, rfl, rfl, rfl, rfl, (Nat.lt_of_lt_of_le (by decide) hn), rfl, rfl, rfl, (((h).2 W100 hr100)).1, fun W104 hr104 => (show 87 < n ∧ 11 = 11 ∧ 3 = 3 ∧ false = false ∧ jin3 244 2507 5 zm_MMset.2.2.1.1 = true ∧ lRm zm_MMset.2.1 { frames := 0, cells := 0, slots := 0, locals := 0 } 3 = true ∧ Nat.ble 2 2 = true ∧ Nat.ble 0 8 = true ∧ 90 < n ∧ 12 = 12 ∧ Nat.ble 1000 12 = false ∧ zc_MTstart [.inr (.inr (some (.inl 90))), .inl (V.1 90 5)] W104 (fun vv__ WW__ => zwp jtb zsh n zm_MMset post (kk__ + 52) (lGo ak_ZMMset 116) 116 [some (.inr (.inr (some (.inl 87)))), some (.inl (a)), some (.inl (z)), some (.inl (i)), some (.inl (V.1 90 5)), u5] (vv__.toList ++ []) WW__) from (have h := ((((h).2 W100 hr100)).2 W104 hr104); ⟨(Nat.lt_of_lt_of_le (by decide) hn), rfl, ⟨rfl, rfl, rfl, rfl, rfl, rfl, (Nat.lt_of_lt_of_le (by decide) hn), rfl, rfl, V.1 90 5, rfl, (h).1, fun W113 hr113 => (show 87 < n ∧ 11 = 11 ∧ 90 < n ∧ 12 = 12 ∧ 104 < n ∧ FieldType.int = FieldType.int ∧ (0 ≤ (V.1 90 5) ∧ (V.1 90 5) < 2) ∧ (0 ≤ (1 : Int) ∧ (1 : Int) ≤ 8) ∧ 87 < n ∧ 11 = 11 ∧ 90 < n ∧ 12 = 12 ∧ (-2147483648 ≤ 8 * (V.1 90 5) ∧ 8 * (V.1 90 5) ≤ 2147483647) ∧ 105 < n ∧ FieldType.int = FieldType.int ∧ (0 ≤ (8 * (V.1 90 5)) ∧ (8 * (V.1 90 5)) < 16) ∧ (0 ≤ (3 : Int) ∧ (3 : Int) ≤ 12) ∧ 87 < n ∧ 11 = 11 ∧ 90 < n ∧ 12 = 12 ∧ (-2147483648 ≤ 96 * (V.1 90 5) ∧ 96 * (V.1 90 5) ≤ 2147483647) ∧ 106 < n ∧ FieldType.char = FieldType.char ∧ (0 ≤ (96 * (V.1 90 5)) ∧ (96 * (V.1 90 5)) < 192) ∧ (0 ≤ (70 : Int) ∧ (70 : Int) ≤ 65535) ∧ 87 < n ∧ 11 = 11 ∧ 90 < n ∧ 12 = 12 ∧ (-2147483648 ≤ 96 * (V.1 90 5) ∧ 96 * (V.1 90 5) ≤ 2147483647) ∧ (-2147483648 ≤ (96 * (V.1 90 5)) + 1 ∧ (96 * (V.1 90 5)) + 1 ≤ 2147483647) ∧ 106 < n ∧ FieldType.char = FieldType.char ∧ (0 ≤ ((96 * (V.1 90 5)) + 1) ∧ ((96 * (V.1 90 5)) + 1) < 192) ∧ (0 ≤ (69 : Int) ∧ (69 : Int) ≤ 65535) ∧ 87 < n ∧ 11 = 11 ∧ 90 < n ∧ 12 = 12 ∧ (-2147483648 ≤ 96 * (V.1 90 5) ∧ 96 * (V.1 90 5) ≤ 2147483647) ∧ (-2147483648 ≤ (96 * (V.1 90 5)) + 2 ∧ (96 * (V.1 90 5)) + 2 ≤ 2147483647) ∧ 106 < n ∧ FieldType.char = FieldType.char ∧ (0 ≤ ((96 * (V.1 90 5)) + 2) ∧ ((96 * (V.1 90 5)) + 2) < 192) ∧ (0 ≤ (78 : Int) ∧ (78 : Int) ≤ 65535) ∧ 87 < n ∧ 11 = 11 ∧ 90 < n ∧ 12 = 12 ∧ (-2147483648 ≤ 8 * (V.1 90 5) ∧ 8 * (V.1 90 5) ≤ 2147483647) ∧ 107 < n ∧ FieldType.int = FieldType.int ∧ (0 ≤ (8 * (V.1 90 5)) ∧ (8 * (V.1 90 5)) < 16) ∧ (0 ≤ z ∧ z ≤ 96) ∧ zwp jtb zsh n zm_MMset post (kk__ + 0) (lGo ak_ZMMset 207) 207 [some (.inr (.inr (some (.inl 87)))), some (.inl (a)), some (.inl (z)), some (.inl (i)), some (.inl (V.1 90 5)), some (.inl (0))] [] (zuR (zuR (zuR (zuR (zuR (zuR W113 104 (V.1 90 5) 1) 105 (8 * (V.1 90 5)) 3) 106 (96 * (V.1 90 5)) 70) 106 ((96 * (V.1 90 5)) + 1) 69) 106 ((96 * (V.1 90 5)) + 2) 78) 107 (8 * (V.1 90 5)) z) from ⟨(Nat.lt_of_lt_of_le (by decide) hn), rfl, ⟨(Nat.lt_of_lt_of_le (by decide) hn), rfl, ⟨(Nat.lt_of_lt_of_le (by decide) hn), rfl, (((h).2 W113 hr113)).1, ((((h).2 W113 hr113)).2).1, (have h := ((((h).2 W113 hr113)).2).2; ⟨(Nat.lt_of_lt_of_le (by decide) hn), rfl, ⟨(Nat.lt_of_lt_of_le (by decide) hn), rfl, ⟨(h).1, ⟨(Nat.lt_of_lt_of_le (by decide) hn), rfl, ((h).2).1, (((h).2).2).1, ⟨(Nat.lt_of_lt_of_le (by decide) hn), rfl, ⟨(Nat.lt_of_lt_of_le (by decide) hn), rfl, ⟨((((h).2).2).2).1, ⟨(Nat.lt_of_lt_of_le (by decide) hn), rfl, (((((h).2).2).2).2).1, ((((((h).2).2).2).2).2).1, (have h := ((((((h).2).2).2).2).2).2; ⟨(Nat.lt_of_lt_of_le (by decide) hn), rfl, ⟨(Nat.lt_of_lt_of_le (by decide) hn), rfl, ⟨(h).1, ⟨((h).2).1, ⟨(Nat.lt_of_lt_of_le (by decide) hn), rfl, (((h).2).2).1, ((((h).2).2).2).1, ⟨(Nat.lt_of_lt_of_le (by decide) hn), rfl, ⟨(Nat.lt_of_lt_of_le (by decide) hn), rfl, ⟨(((((h).2).2).2).2).1, ⟨((((((h).2).2).2).2).2).1, (have h := ((((((h).2).2).2).2).2).2; ⟨(Nat.lt_of_lt_of_le (by decide) hn), rfl, (h).1, ((h).2).1, ⟨(Nat.lt_of_lt_of_le (by decide) hn), rfl, ⟨(Nat.lt_of_lt_of_le (by decide) hn), rfl, ⟨(((h).2).2).1, ⟨(Nat.lt_of_lt_of_le (by decide) hn), rfl, ((((h).2).2).2).1, (((((h).2).2).2).2).1, (((((h).2).2).2).2).2⟩⟩⟩⟩⟩)⟩⟩⟩⟩⟩⟩⟩⟩⟩)⟩⟩⟩⟩⟩⟩⟩⟩)⟩⟩⟩)⟩⟩))⟩)⟩⟩⟩⟩)
set_option maxRecDepth 8000 in
theorem zp_MMset_207 {n K : Nat} {V : zW} {post : zPo} {a z i g j : Int}  (hK : 23 ≤ K) (hn : 142 ≤ n) (h : (z ≤ j → zwp jtb zsh n zm_MMset post (K - 3) (lGo ak_ZMMset 248) 248 [some (.inr (.inr (some (.inl 87)))), some (.inl (a)), some (.inl (z)), some (.inl (i)), some (.inl (g)), some (.inl (j))] [] V) ∧ (¬ z ≤ j → (-2147483648 ≤ 768 * g ∧ 768 * g ≤ 2147483647) ∧ (-2147483648 ≤ (768 * g) + j ∧ (768 * g) + j ≤ 2147483647) ∧ (-2147483648 ≤ a + 1 ∧ a + 1 ≤ 2147483647) ∧ (-2147483648 ≤ (a + 1) + j ∧ (a + 1) + j ≤ 2147483647) ∧ (0 ≤ ((a + 1) + j) ∧ ((a + 1) + j) < 65536) ∧ (0 ≤ (V.2.1 88 ((a + 1) + j)) ∧ (V.2.1 88 ((a + 1) + j)) ≤ 65535) ∧ ∀ t0 : Int, t0 = V.2.1 88 ((a + 1) + j) → (0 ≤ ((768 * g) + j) ∧ ((768 * g) + j) < 1536) ∧ (0 ≤ t0 ∧ t0 ≤ 65535) ∧ (-2147483648 ≤ j + 1 ∧ j + 1 ≤ 2147483647) ∧ zwp jtb zsh n zm_MMset post (K - 23) (lGo ak_ZMMset 207) 207 [some (.inr (.inr (some (.inl 87)))), some (.inl (a)), some (.inl (z)), some (.inl (i)), some (.inl (g)), some (.inl (j + 1))] [] (zuR V 108 ((768 * g) + j) t0))) : zwp jtb zsh n zm_MMset post K (lGo ak_ZMMset 207) 207 [some (.inr (.inr (some (.inl 87)))), some (.inl (a)), some (.inl (z)), some (.inl (i)), some (.inl (g)), some (.inl (j))] [] V := by
  obtain ⟨kk__, rfl⟩ : ∃ kk__, K = kk__ + 23 := ⟨K - 23, by omega⟩
  exact (show (z ≤ j → zwp jtb zsh n zm_MMset post (kk__ + 20) (lGo ak_ZMMset 248) 248 [some (.inr (.inr (some (.inl 87)))), some (.inl (a)), some (.inl (z)), some (.inl (i)), some (.inl (g)), some (.inl (j))] [] V) ∧ (¬ z ≤ j → 87 < n ∧ 11 = 11 ∧ 90 < n ∧ 12 = 12 ∧ (-2147483648 ≤ 768 * g ∧ 768 * g ≤ 2147483647) ∧ (-2147483648 ≤ (768 * g) + j ∧ (768 * g) + j ≤ 2147483647) ∧ 87 < n ∧ 11 = 11 ∧ (-2147483648 ≤ a + 1 ∧ a + 1 ≤ 2147483647) ∧ (-2147483648 ≤ (a + 1) + j ∧ (a + 1) + j ≤ 2147483647) ∧ 88 < n ∧ FieldType.byte = FieldType.byte ∧ (0 ≤ ((a + 1) + j) ∧ ((a + 1) + j) < 65536) ∧ 108 < n ∧ FieldType.char = FieldType.char ∧ (0 ≤ ((768 * g) + j) ∧ ((768 * g) + j) < 1536) ∧ (0 ≤ (((lI (V.2.1 88 ((a + 1) + j))).toUInt32 % 65536).toInt32.toInt) ∧ (((lI (V.2.1 88 ((a + 1) + j))).toUInt32 % 65536).toInt32.toInt) ≤ 65535) ∧ (-2147483648 ≤ j + 1 ∧ j + 1 ≤ 2147483647) ∧ zwp jtb zsh n zm_MMset post (kk__ + 0) (lGo ak_ZMMset 207) 207 [some (.inr (.inr (some (.inl 87)))), some (.inl (a)), some (.inl (z)), some (.inl (i)), some (.inl (g)), some (.inl (j + 1))] [] (zuR V 108 ((768 * g) + j) (((lI (V.2.1 88 ((a + 1) + j))).toUInt32 % 65536).toInt32.toInt))) from ⟨fun c210_2 => ((h).1 c210_2), fun c210_2 => ⟨(Nat.lt_of_lt_of_le (by decide) hn), rfl, ⟨(Nat.lt_of_lt_of_le (by decide) hn), rfl, ⟨(((h).2 c210_2)).1, ⟨((((h).2 c210_2)).2).1, ⟨(Nat.lt_of_lt_of_le (by decide) hn), rfl, ⟨(((((h).2 c210_2)).2).2).1, (have h := (((((h).2 c210_2)).2).2).2; ⟨(h).1, ⟨(Nat.lt_of_lt_of_le (by decide) hn), rfl, ((h).2).1, (have h := ((((h).2).2).2 _ (z_ic (((h).2).2).1)); ⟨(Nat.lt_of_lt_of_le (by decide) hn), rfl, (h).1, ((h).2).1, ⟨(((h).2).2).1, (((h).2).2).2⟩⟩)⟩⟩)⟩⟩⟩⟩⟩⟩⟩)
set_option maxRecDepth 8000 in
theorem zp_MMset_248 {n K : Nat} {V : zW} {post : zPo} {a z i g j : Int}  (hK : 6 ≤ K) (hn : 142 ≤ n) (h : ∃ T250 : xT, ((0 ≤ V.1 90 5 ∧ V.1 90 5 ≤ 1) ∧ zRt V (V.1 90 5) T250 ∧ xTok T250 ∧ 0 ≤ (0 : Int) ∧ (0 : Int) ≤ T250.2.1) ∧ ∀ W250 : zW, (zFr [(90, 6), (90, 25), (90, 26), (90, 27), (90, 28), (90, 29), (90, 33)] [110, 111, 112, 113, 114] V W250 ∧ zHe W250 T250 (0 : Int)) → (zOg W250) ∧ ∀ W254 : zW, (zPt W250 W254) → post none W254) : zwp jtb zsh n zm_MMset post K (lGo ak_ZMMset 248) 248 [some (.inr (.inr (some (.inl 87)))), some (.inl (a)), some (.inl (z)), some (.inl (i)), some (.inl (g)), some (.inl (j))] [] V := by
  obtain ⟨kk__, rfl⟩ : ∃ kk__, K = kk__ + 6 := ⟨K - 6, by omega⟩
  exact (show 3 = 3 ∧ false = false ∧ jin3 174 2508 6 zm_MMset.2.2.1.1 = true ∧ lRm zm_MMset.2.1 { frames := 7, cells := 0, slots := 0, locals := 181 } 2 = true ∧ Nat.ble 2 2 = true ∧ Nat.ble 0 8 = true ∧ 87 < n ∧ 11 = 11 ∧ Nat.ble 1000 11 = false ∧ zc_MMgoTo [.inr (.inr (some (.inl 87))), .inl (0)] V (fun vv__ WW__ => zwp jtb zsh n zm_MMset post (kk__ + 3) (lGo ak_ZMMset 253) 253 [some (.inr (.inr (some (.inl 87)))), some (.inl (a)), some (.inl (z)), some (.inl (i)), some (.inl (g)), some (.inl (j))] (vv__.toList ++ []) WW__) from (Exists.elim (h) (fun T250 gh250 => ⟨rfl, rfl, rfl, rfl, rfl, rfl, (Nat.lt_of_lt_of_le (by decide) hn), rfl, rfl, 0, T250, rfl, (gh250).1, fun W250 hr250 => (show 3 = 3 ∧ false = false ∧ jin3 177 2513 7 zm_MMset.2.2.1.1 = true ∧ lRm zm_MMset.2.1 { frames := 2, cells := 0, slots := 0, locals := 41 } 1 = true ∧ Nat.ble 1 1 = true ∧ Nat.ble 0 8 = true ∧ 87 < n ∧ 11 = 11 ∧ Nat.ble 1000 11 = false ∧ zc_MMnothing [.inr (.inr (some (.inl 87)))] W250 (fun vv__ WW__ => zwp jtb zsh n zm_MMset post (kk__ + 1) (lGo ak_ZMMset 257) 257 [some (.inr (.inr (some (.inl 87)))), some (.inl (a)), some (.inl (z)), some (.inl (i)), some (.inl (g)), some (.inl (j))] (vv__.toList ++ []) WW__) from ⟨rfl, rfl, rfl, rfl, rfl, rfl, (Nat.lt_of_lt_of_le (by decide) hn), rfl, rfl, rfl, (((gh250).2 W250 hr250)).1, fun W254 hr254 => (show 1 = 1 ∧ (none : Option FieldType) = none ∧ post none W254 from (have h := ((((gh250).2 W250 hr250)).2 W254 hr254); ⟨rfl, rfl, h⟩))⟩)⟩)))
noncomputable def zJt (V : zW) (g n : Int) (p : xP) : Prop := V.2.1 104 g = 1 ∧ V.2.1 105 (8 * g) = 3 ∧ (V.2.1 106 (96 * g) = 70 ∧ V.2.1 106 (96 * g + 1) = 69 ∧ V.2.1 106 (96 * g + 2) = 78) ∧ V.2.1 107 (8 * g) = n ∧ zNe V g ∧ zSt V g = p ∧ zSb V g
theorem zJt_f {W V : zW} {g n : Int} {p : xP} {Fs : List (Nat × Nat)} {Rs : List Nat} (h : zFr Fs Rs W V) (hj : zJt W g n p) (hd : (Rs.all (fun a => decide (¬ a ∈ [93, 96, 98, 102, 103, 104, 105, 106, 107]))) = true := by decide) : zJt V g n p := by
  have e : ∀ a, a ∈ [93, 96, 98, 102, 103, 104, 105, 106, 107] → V.2.1 a = W.2.1 a := by
    intro a ha
    refine h.2.1 a (fun z => ?_)
    have := List.all_eq_true.mp hd a z
    exact (of_decide_eq_true this) ha
  unfold zJt zNe zSt zSb at *
  rw [e 93 (by decide), e 96 (by decide), e 98 (by decide), e 102 (by decide), e 103 (by decide), e 104 (by decide), e 105 (by decide), e 106 (by decide), e 107 (by decide)]
  exact hj
set_option maxRecDepth 100000 in
set_option maxHeartbeats 4000000 in
theorem zk_MMset {l : Launch} {E : jE} {n : Nat} (hn : 142 ≤ n) : zHas l E jcl jtb lw_tbl zsh n (y_MM_set, false, 2, 11, { frames := 8, cells := 0, slots := 0, locals := 202 }, zc_MMset) := by
  refine ⟨⟨rfl, rfl, ⟨show 1 ≤ 2 by decide, m_MM_set, i_MM_set, e_MM_set, fun _ => ⟨_, rfl, rfl⟩⟩⟩, ?_⟩
  rintro vz W po hO hW ⟨a, T, h, G, rfl, hq, hp⟩
  refine zmet (m := zm_MMset) rfl (by decide) (fun _ _ => jtF_ok) lo_MM ao_ZMMset jC (fun q h => by cases h) (aAllc (fun G h => by obtain rfl := Option.some.inj h; exact ql_MM_137) (aAllc (fun G h => by obtain rfl := Option.some.inj h; exact ql_MM_239) (aAllc (fun G h => by obtain rfl := Option.some.inj h; exact ql_MM_100) (aAllc (fun G h => by obtain rfl := Option.some.inj h; exact ql_MM_168) (aAllc (fun G h => by obtain rfl := Option.some.inj h; exact ql_MM_241) (aAllc (fun G h => by obtain rfl := Option.some.inj h; exact ql_MM_244) (aAllc (fun G h => by obtain rfl := Option.some.inj h; exact ql_MM_174) (aAllc (fun G h => by obtain rfl := Option.some.inj h; exact ql_MM_177) (fun q h => by cases h))))))))) (aAllc (zk_MMfault1 hn) (aAllc (zk_MBflt hn) (aAllc (zk_MMfault3 hn) (aAllc (zk_MTclG hn) (aAllc (zk_MMlook hn) (aAllc (zk_MTstart hn) (aAllc (zk_MMgoTo hn) (aAllc (zk_MMnothing hn) (fun q h => by cases h))))))))) (Nat.le_of_ble_eq_true rfl) hO hW (9000000) ?_
  have hh := hq.1.1
  have hg := hh.1
  have h12 := hq.1.2.2
  have hl := hq.2.2.2.1
  have ha := hq.2.2.2.2
  have hl1 := hl.1
  have bad0 : ∀ U, a = W.1 87 9 → zFt W U → po none U := by
    intro U e hU
    exact hp _ ⟨zFr_w hU.1 (by decide) (by decide), hU.2.1, zVr_f hU.1 hq.2.2.1, Or.inl ⟨Or.inl e, zHe_ft hU hh, by rw [zFr_f hU.1 90 5]; exact zTg_f hU.1 hq.2.1, hU.2.2⟩⟩
  have by88 : ∀ V, zFr [] [117] W V → ∀ i, 0 ≤ i → i < (W.1 87 9 - a - 1) → 0 ≤ V.2.1 88 (a + 1 + i) ∧ V.2.1 88 (a + 1 + i) ≤ 127 := by
    intro V h i i0 i1
    rw [zFr_r h 88]
    exact hl.2 _ (by omega) (by omega)
  have h56 : ∀ (K : Nat) (V : zW) (i : Int) (u4 u5 : Option zv), 20000 ≤ K → ¬ a = W.1 87 9 → zFr [] [117] W V → (∀ t, 0 ≤ t → t < (W.1 87 9 - a - 1) → V.2.1 117 t = W.2.1 88 (a + 1 + t)) → zwp jtb zsh n zm_MMset po K (lGo ak_ZMMset 56) 56 [some (.inr (.inr (some (.inl 87)))), some (.inl a), some (.inl (W.1 87 9 - a - 1)), some (.inl (i)), u4, u5] [] V := by
    intro K V i u4 u5 hK hne hV hA
    have fZ : zFr [(116, 0)] [117] W (zuF V 116 0 (W.1 87 9 - a - 1)) := zFr_F (zFr_w hV (by decide) (by decide)) (by decide)
    have z0 : (zuF V 116 0 (W.1 87 9 - a - 1)).1 116 0 = (W.1 87 9 - a - 1) := by rw [zuF_1, if_pos ⟨rfl, rfl⟩]
    have z117 : (zuF V 116 0 (W.1 87 9 - a - 1)).2.1 117 = V.2.1 117 := rfl
    have pre68 : zBp (zuF V 116 0 (W.1 87 9 - a - 1)) := by
      unfold zBp
      rw [z0, z117]
      refine ⟨by omega, fun t s0 s1 => ?_⟩
      rw [hA t s0 s1]
      exact hl.2 _ (by omega) (by omega)
    have sx : ∀ q k m, pTx (zBk (zuF V 116 0 (W.1 87 9 - a - 1))) 0 ((zuF V 116 0 (W.1 87 9 - a - 1)).1 116 0) q k m ↔ pTx (xLk (fun i => W.2.1 88 (a + 1 + i)) (W.1 87 9 - a - 1)) 0 (W.1 87 9 - a - 1) q k m := by
      intro q k m
      have z := pTx_s (c := zBk (zuF V 116 0 (W.1 87 9 - a - 1))) (c' := xLk (fun i => W.2.1 88 (a + 1 + i)) (W.1 87 9 - a - 1)) (a := 0) (z := (W.1 87 9 - a - 1)) (q := q) (k := k) (m := m) (fun t ht => by
        unfold zBk xLk
        rw [z0, z117, Int.zero_add]
        by_cases c : t < (W.1 87 9 - a - 1)
        · rw [if_pos c, if_pos c, hA t ht c]
        · rw [if_neg c, if_neg c])
      rw [Int.zero_add] at z
      rw [z0]
      exact z
    have F6 : ∀ W3, zFr [(116, 3), (116, 4), (116, 5), (116, 6), (116, 7)] [118] (zuF V 116 0 (W.1 87 9 - a - 1)) W3 → zFr [(116, 0), (116, 3), (116, 4), (116, 5), (116, 6), (116, 7)] [117, 118] W W3 := fun W3 h => zFr_t (zFr_w fZ (by decide) (by decide)) (zFr_w h (by decide) (by decide))
    have og68 : ∀ W3, zFr [(116, 3), (116, 4), (116, 5), (116, 6), (116, 7)] [118] (zuF V 116 0 (W.1 87 9 - a - 1)) W3 → zOg W3 := fun W3 h => zOg_e hq.1.2.1 (zFr_f (F6 W3 h) 87 3)
    have f12 : ∀ W3, zFr [(116, 3), (116, 4), (116, 5), (116, 6), (116, 7)] [118] (zuF V 116 0 (W.1 87 9 - a - 1)) W3 → W3.1 87 12 = W.1 87 12 := fun W3 h => zFr_f (F6 W3 h) 87 12
    have r6 : ∀ (W3 : zW) (r : Int), (zFr [(116, 3), (116, 4), (116, 5), (116, 6), (116, 7)] [118] (zuF V 116 0 (W.1 87 9 - a - 1)) W3 ∧ ((r = 0 ∧ ∃ q k m, pTx (zBk (zuF V 116 0 (W.1 87 9 - a - 1))) 0 ((zuF V 116 0 (W.1 87 9 - a - 1)).1 116 0) q k m ∧ pSd q ∧ zQb W3 = q ∧ W3.1 116 6 = k ∧ W3.1 116 7 = m ∧ (0 ≤ k ∧ k ≤ 999 ∧ 0 ≤ m ∧ m ≤ 999) ∧ zKb W3) ∨ ((0 < r ∧ r ≤ 6) ∧ ¬ ∃ q k m, pTx (zBk (zuF V 116 0 (W.1 87 9 - a - 1))) 0 ((zuF V 116 0 (W.1 87 9 - a - 1)).1 116 0) q k m ∧ pSd q))) → 0 ≤ r ∧ r ≤ 6 := by
      intro W3 r h
      rcases h.2 with z | z <;> omega
    have bad1 : ∀ (W3 : zW) (r : Int), (zFr [(116, 3), (116, 4), (116, 5), (116, 6), (116, 7)] [118] (zuF V 116 0 (W.1 87 9 - a - 1)) W3 ∧ ((r = 0 ∧ ∃ q k m, pTx (zBk (zuF V 116 0 (W.1 87 9 - a - 1))) 0 ((zuF V 116 0 (W.1 87 9 - a - 1)).1 116 0) q k m ∧ pSd q ∧ zQb W3 = q ∧ W3.1 116 6 = k ∧ W3.1 116 7 = m ∧ (0 ≤ k ∧ k ≤ 999 ∧ 0 ≤ m ∧ m ≤ 999) ∧ zKb W3) ∨ ((0 < r ∧ r ≤ 6) ∧ ¬ ∃ q k m, pTx (zBk (zuF V 116 0 (W.1 87 9 - a - 1))) 0 ((zuF V 116 0 (W.1 87 9 - a - 1)).1 116 0) q k m ∧ pSd q))) → 0 < r → ∀ U, zFt W3 U → po none U := by
      intro W3 r h r0 U hU
      have f3 := F6 W3 h.1
      have z := h.2.resolve_left (fun z => by have := z.1; omega)
      refine hp _ ⟨zFr_t (zFr_w f3 (by decide) (by decide)) (zFr_w hU.1 (by decide) (by decide)), hU.2.1, zVr_f hU.1 (zVr_f f3 hq.2.2.1), Or.inl ⟨Or.inr (fun ⟨q, k, m, t, ts⟩ => z.2 ⟨q, k, m, (sx q k m).mpr t, ts⟩), zHe_ft hU (zHe_fr f3 (by decide) (by decide) hh), ?_, by rw [hU.2.2, zFr_f f3 87 12]⟩⟩
      rw [zFr_f hU.1 90 5, zFr_f f3 90 5]
      exact zTg_f hU.1 (zTg_f f3 hq.2.1)
    have h85 : ∀ (W3 : zW) (r : Int), (zFr [(116, 3), (116, 4), (116, 5), (116, 6), (116, 7)] [118] (zuF V 116 0 (W.1 87 9 - a - 1)) W3 ∧ ((r = 0 ∧ ∃ q k m, pTx (zBk (zuF V 116 0 (W.1 87 9 - a - 1))) 0 ((zuF V 116 0 (W.1 87 9 - a - 1)).1 116 0) q k m ∧ pSd q ∧ zQb W3 = q ∧ W3.1 116 6 = k ∧ W3.1 116 7 = m ∧ (0 ≤ k ∧ k ≤ 999 ∧ 0 ≤ m ∧ m ≤ 999) ∧ zKb W3) ∨ ((0 < r ∧ r ≤ 6) ∧ ¬ ∃ q k m, pTx (zBk (zuF V 116 0 (W.1 87 9 - a - 1))) 0 ((zuF V 116 0 (W.1 87 9 - a - 1)).1 116 0) q k m ∧ pSd q))) → r ≤ 0 → ∀ (K : Nat) (u4 u5 : Option zv), 15000 ≤ K → zwp jtb zsh n zm_MMset po K (lGo ak_ZMMset 85) 85 [some (.inr (.inr (some (.inl 87)))), some (.inl a), some (.inl (W.1 87 9 - a - 1)), some (.inl (r)), u4, u5] [] W3 := by
      intro W3 r h r0 K u4 u5 hK
      obtain ⟨_, q, k, m, t1, t2, t3, t4, t5, t6, t7⟩ := h.2.resolve_right (fun z => by have := z.1; omega)
      have t1 := (sx q k m).mp t1
      have n96 := pTx_l t1
      have gd := pTx_g t1 t2
      have f3 := F6 W3 h.1
      have e5 := zFr_f f3 90 5
      have pre104 : ∀ A, zClr W3 A (W3.1 90 5) → zKb A ∧ (0 ≤ A.1 116 6 ∧ A.1 116 6 ≤ 999) ∧ (0 ≤ A.1 116 7 ∧ A.1 116 7 ≤ 999) ∧ rGd (zQb A) := by
        intro A hA
        have f := hA.1
        have ek : zKb A := by
          unfold zKb
          rw [zFr_r f 118, zFr_f f 116 3, zFr_f f 116 4, zFr_f f 116 5]
          exact t7
        have eq : zQb A = q := by
          rw [← t3]
          unfold zQb zMb
          rw [zFr_r f 118, zFr_f f 116 3, zFr_f f 116 4, zFr_f f 116 5]
        refine ⟨ek, ?_, ?_, by rw [eq]; exact gd.1⟩
        · rw [zFr_f f 116 6, t4]; omega
        · rw [zFr_f f 116 7, t5]; omega
      have by88b : ∀ V, zFr [(90, 25), (90, 26), (90, 27), (90, 28), (90, 29), (90, 33), (116, 0), (116, 3), (116, 4), (116, 5), (116, 6), (116, 7)] [93, 94, 95, 96, 97, 98, 100, 102, 103, 104, 105, 106, 107, 108, 109, 110, 111, 112, 113, 114, 117, 118] W V → ∀ i, 0 ≤ i → i < (W.1 87 9 - a - 1) → 0 ≤ V.2.1 88 (a + 1 + i) ∧ V.2.1 88 (a + 1 + i) ≤ 127 := by
        intro V h i i0 i1
        rw [zFr_r h 88]
        exact hl.2 _ (by omega) (by omega)
      have r88 : ∀ V, zFr [(90, 25), (90, 26), (90, 27), (90, 28), (90, 29), (90, 33), (116, 0), (116, 3), (116, 4), (116, 5), (116, 6), (116, 7)] [93, 94, 95, 96, 97, 98, 100, 102, 103, 104, 105, 106, 107, 108, 109, 110, 111, 112, 113, 114, 117, 118] W V → ∀ i, V.2.1 88 (a + 1 + i) = W.2.1 88 (a + 1 + i) := fun V h i => by rw [zFr_r h 88]
      have h248 : ∀ (V : zW) (j : Int), zFr [(90, 25), (90, 26), (90, 27), (90, 28), (90, 29), (90, 33), (116, 0), (116, 3), (116, 4), (116, 5), (116, 6), (116, 7)] [93, 94, 95, 96, 97, 98, 100, 102, 103, 104, 105, 106, 107, 108, 109, 110, 111, 112, 113, 114, 117, 118] W V → zJt V (W3.1 90 5) (W.1 87 9 - a - 1) (q, m) → (∀ t, 0 ≤ t → t < (W.1 87 9 - a - 1) → V.2.1 108 (768 * W3.1 90 5 + t) = W.2.1 88 (a + 1 + t)) → zVr V → ∀ K : Nat, 100 ≤ K → zwp jtb zsh n zm_MMset po K (lGo ak_ZMMset 248) 248 [some (.inr (.inr (some (.inl 87)))), some (.inl a), some (.inl (W.1 87 9 - a - 1)), some (.inl (r)), some (.inl (W3.1 90 5)), some (.inl (j))] [] V := by
        intro V j hV hJ hA hR K hK
        have v5 : V.1 90 5 = W3.1 90 5 := by rw [e5]; exact zFr_f hV 90 5
        have sq : zSt V (W3.1 90 5) = (q, m) := hJ.2.2.2.2.2.1
        have tok : xTok (xNw (zSt V (W3.1 90 5))) := by rw [sq]; exact xNw_ok gd
        have pre250 : (0 ≤ V.1 90 5 ∧ V.1 90 5 ≤ 1) ∧ zRt V (V.1 90 5) (xNw (zSt V (W3.1 90 5))) ∧ xTok (xNw (zSt V (W3.1 90 5))) ∧ 0 ≤ (0 : Int) ∧ (0 : Int) ≤ (xNw (zSt V (W3.1 90 5))).2.1 := ⟨by omega, by rw [v5]; exact zNe_t hJ.2.2.2.2.1 hJ.2.2.2.2.2.2, tok, Int.le_refl _, Int.le_refl _⟩
        have og250 : ∀ U, zFr [(90, 6), (90, 25), (90, 26), (90, 27), (90, 28), (90, 29), (90, 33)] [110, 111, 112, 113, 114] V U → zOg U := fun U h => zOg_e hq.1.2.1 (by rw [zFr_f h 87 3]; exact zFr_f hV 87 3)
        have fin : ∀ A, (zFr [(90, 6), (90, 25), (90, 26), (90, 27), (90, 28), (90, 29), (90, 33)] [110, 111, 112, 113, 114] V A ∧ zHe A (xNw (zSt V (W3.1 90 5))) 0) → ∀ B, zPt A B → po none B := by
          intro A hA1 B hB
          have fA := hA1.1
          have heB := zHe_pt hB hA1.2
          rw [sq] at heB
          refine hp _ ⟨zFr_t (zFr_w hV (by decide) (by decide)) (zFr_t (zFr_w fA (by decide) (by decide)) (zFr_w hB.1 (by decide) (by decide))), hB.2, zVr_f hB.1 (zVr_f fA hR), Or.inr ⟨hne, q, k, m, ⟨t1, t2⟩, heB, ?_, ?_⟩⟩
          · rw [zFr_f hB.1 90 5, zFr_f fA 90 5, v5]
            refine zTg_f hB.1 (zTg_f fA ⟨hJ.1, ⟨by show (0 : Int) ≤ 1; decide, by show (1 : Int) ≤ 8; decide⟩, fun x x0 x1 => ?_⟩)
            have x1 : x < 1 := x1
            have ex : x = 0 := by omega
            subst ex
            refine ⟨⟨by rw [Int.add_zero]; exact hJ.2.1, ⟨by show (1 : Int) ≤ 3; decide, by show (3 : Int) ≤ 12; decide⟩, fun i i0 i1 => ?_⟩, by rw [Int.add_zero]; exact hJ.2.2.2.1, ⟨by show 0 ≤ (W.1 87 9 - a - 1); omega, n96⟩, fun i i0 i1 => ?_⟩
            · have i1 : i < 3 := i1
              have hi : i = 0 ∨ i = 1 ∨ i = 2 := by omega
              show V.2.1 106 (96 * W3.1 90 5 + 12 * 0 + i) = xNc 0 i
              rcases hi with rfl | rfl | rfl
              · rw [show 96 * W3.1 90 5 + 12 * 0 + 0 = 96 * W3.1 90 5 by omega]; exact hJ.2.2.1.1
              · rw [show 96 * W3.1 90 5 + 12 * 0 + 1 = 96 * W3.1 90 5 + 1 by omega]; exact hJ.2.2.1.2.1
              · rw [show 96 * W3.1 90 5 + 12 * 0 + 2 = 96 * W3.1 90 5 + 2 by omega]; exact hJ.2.2.1.2.2
            · have i1 : i < (W.1 87 9 - a - 1) := i1
              show V.2.1 108 (768 * W3.1 90 5 + 96 * 0 + i) = W.2.1 88 (a + 1 + i)
              rw [show 768 * W3.1 90 5 + 96 * 0 + i = 768 * W3.1 90 5 + i by omega]
              exact hA i i0 i1
          · rw [zFr_f hB.1 87 12, zFr_f fA 87 12, zFr_f hV 87 12]
        exact zp_MMset_248 (by omega) hn ⟨(xNw (zSt V (W3.1 90 5))), pre250, fun W250 hr250 => ⟨og250 W250 hr250.1, fun W254 hr254 => (fin W250 hr250 W254 hr254)⟩⟩
      have lp207 : ∀ (m2 K : Nat) (V : zW) (j : Int), 100 * m2 + 200 ≤ K → ((W.1 87 9 - a - 1) - j < m2 ∧ 0 ≤ j ∧ j ≤ (W.1 87 9 - a - 1)) → zFr [(90, 25), (90, 26), (90, 27), (90, 28), (90, 29), (90, 33), (116, 0), (116, 3), (116, 4), (116, 5), (116, 6), (116, 7)] [93, 94, 95, 96, 97, 98, 100, 102, 103, 104, 105, 106, 107, 108, 109, 110, 111, 112, 113, 114, 117, 118] W V → zJt V (W3.1 90 5) (W.1 87 9 - a - 1) (q, m) → (∀ t, 0 ≤ t → t < j → V.2.1 108 (768 * W3.1 90 5 + t) = W.2.1 88 (a + 1 + t)) → zVr V → zwp jtb zsh n zm_MMset po K (lGo ak_ZMMset 207) 207 [some (.inr (.inr (some (.inl 87)))), some (.inl a), some (.inl (W.1 87 9 - a - 1)), some (.inl (r)), some (.inl (W3.1 90 5)), some (.inl (j))] [] V := by
        intro m2
        induction m2 with
        | zero => intro K V j hK hm; omega
        | succ m2 ih =>
          intro K V j hK hm hV hJ hA hR
          have hJ1 : ∀ t0, zJt (zuR V 108 (768 * W3.1 90 5 + j) t0) (W3.1 90 5) (W.1 87 9 - a - 1) (q, m) := fun t0 => zJt_f (Fs := []) (Rs := [108]) (zFr_R zFr_0 (by decide)) hJ
          have hr1 : ∀ t0 : Int, (0 ≤ t0 ∧ t0 ≤ 127) → zVr (zuR V 108 (768 * W3.1 90 5 + j) t0) := by
            intro t0 ht t s0 s1
            show 0 ≤ zuI (V.2.1 108) (768 * W3.1 90 5 + j) t0 t ∧ zuI (V.2.1 108) (768 * W3.1 90 5 + j) t0 t ≤ 127
            by_cases c : t = 768 * W3.1 90 5 + j
            · rw [c, zuI_s]; exact ht
            · rw [zuI_n c]; exact hR t s0 s1
          exact zp_MMset_207 (by omega) hn ⟨fun c210 => (h248 V j hV hJ (fun t s0 s1 => hA t s0 (by omega)) hR _ (by omega)), fun c210 => ⟨(by omega), ⟨(by omega), ⟨(by omega), ⟨(by omega), ⟨(by omega), ⟨(by have := by88b V hV j (by omega) (by omega); omega), fun t0 e0 => ⟨(by omega), (by have := by88b V hV j (by omega) (by omega); omega), ⟨(by omega), (ih _ _ (j + 1) (by omega) (by omega) (zFr_R hV (by decide)) (hJ1 t0) (fun t s0 s1 => by show zuI (V.2.1 108) (768 * W3.1 90 5 + j) t0 (768 * W3.1 90 5 + t) = _; by_cases ct : t = j; (rw [ct, zuI_s, e0]; exact r88 V hV j); (rw [zuI_n (by omega)]; exact hA t s0 (by omega))) (hr1 t0 (by have := by88b V hV j (by omega) (by omega); omega)))⟩⟩⟩⟩⟩⟩⟩⟩⟩
      have h207 : ∀ A B D, zClr W3 A (W3.1 90 5) → (zFr [(90, 25), (90, 26), (90, 27), (90, 28), (90, 29), (90, 33)] [110, 111, 112, 113, 114] A B ∧ zQ B = zQb A ∧ B.1 90 28 = A.1 116 6 ∧ B.1 90 29 = A.1 116 7 ∧ zMk B) → zSs B D (W3.1 90 5) → ∀ K : Nat, 12000 ≤ K → zwp jtb zsh n zm_MMset po K (lGo ak_ZMMset 207) 207 [some (.inr (.inr (some (.inl 87)))), some (.inl a), some (.inl (W.1 87 9 - a - 1)), some (.inl (r)), some (.inl (W3.1 90 5)), some (.inl (0))] [] (zuR (zuR (zuR (zuR (zuR (zuR D 104 (W3.1 90 5) 1) 105 (8 * W3.1 90 5) 3) 106 (96 * W3.1 90 5) 70) 106 (96 * W3.1 90 5 + 1) 69) 106 (96 * W3.1 90 5 + 2) 78) 107 (8 * W3.1 90 5) (W.1 87 9 - a - 1)) := by
        intro A B D hA hB hD K hK
        have fD : zFr [(90, 25), (90, 26), (90, 27), (90, 28), (90, 29), (90, 33), (116, 0), (116, 3), (116, 4), (116, 5), (116, 6), (116, 7)] [93, 94, 95, 96, 97, 98, 100, 102, 103, 104, 105, 106, 107, 108, 109, 110, 111, 112, 113, 114, 117, 118] W D := zFr_t (zFr_w f3 (by decide) (by decide)) (zFr_t (zFr_w hA.1 (by decide) (by decide)) (zFr_t (zFr_w hB.1 (by decide) (by decide)) (zFr_w hD.1 (by decide) (by decide))))
        have vD : zVr D := zVr_f hD.1 (zVr_f hB.1 (zVr_f hA.1 (zVr_f f3 hq.2.2.1)))
        have qA : zQb A = q := by
          rw [← t3]
          unfold zQb zMb
          rw [zFr_r hA.1 118, zFr_f hA.1 116 3, zFr_f hA.1 116 4, zFr_f hA.1 116 5]
        have mA : A.1 116 7 = m := by rw [zFr_f hA.1 116 7]; exact t5
        have kA : A.1 116 6 = k := by rw [zFr_f hA.1 116 6]; exact t4
        have sD : zSt D (W3.1 90 5) = (q, m) := by rw [zSs_t hD, hB.2.1, hB.2.2.2.1, qA, mA]
        have bD : zSb D (W3.1 90 5) := zSs_b hD hB.2.2.2.2.1 (by rw [hB.2.2.1, kA]; omega) (by rw [hB.2.2.2.1, mA]; omega)
        have nD : zNe D (W3.1 90 5) := zNe_f hD.1 (by decide) (zNe_f hB.1 (by decide) (zNe_c hA))
        have fE : zFr [] [104, 105, 106, 107] D (zuR (zuR (zuR (zuR (zuR (zuR D 104 (W3.1 90 5) 1) 105 (8 * W3.1 90 5) 3) 106 (96 * W3.1 90 5) 70) 106 (96 * W3.1 90 5 + 1) 69) 106 (96 * W3.1 90 5 + 2) 78) 107 (8 * W3.1 90 5) (W.1 87 9 - a - 1)) := zFr_R (zFr_R (zFr_R (zFr_R (zFr_R (zFr_R zFr_0 (by decide)) (by decide)) (by decide)) (by decide)) (by decide)) (by decide)
        refine lp207 100 K _ 0 (by omega) (by omega) (zFr_t fD (zFr_w fE (by decide) (by decide))) ⟨zuI_s, zuI_s, ⟨?_, ?_, zuI_s⟩, zuI_s, nD, ?_, ?_⟩ (fun t s0 s1 => by omega) vD
        · show zuI (zuI (zuI (D.2.1 106) (96 * W3.1 90 5) 70) (96 * W3.1 90 5 + 1) 69) (96 * W3.1 90 5 + 2) 78 (96 * W3.1 90 5) = 70
          rw [zuI_n (by omega), zuI_n (by omega), zuI_s]
        · show zuI (zuI (zuI (D.2.1 106) (96 * W3.1 90 5) 70) (96 * W3.1 90 5 + 1) 69) (96 * W3.1 90 5 + 2) 78 (96 * W3.1 90 5 + 1) = 69
          rw [zuI_n (by omega), zuI_s]
        · rw [← sD]; rfl
        · exact bD
      exact zp_MMset_85 (by omega) hn ⟨(by omega), fun W100 hr100 => ⟨(pre104 W100 hr100), fun W104 hr104 => ⟨(by omega), fun W113 hr113 => ⟨(by omega), (by omega), ⟨(by omega), ⟨(by omega), (by omega), ⟨(by omega), ⟨(by omega), (by omega), ⟨(by omega), ⟨(by omega), ⟨(by omega), (by omega), ⟨(by omega), ⟨(by omega), ⟨(by omega), (by omega), ⟨(by omega), ⟨(by omega), (by omega), (h207 W100 W104 W113 hr100 hr104 hr113 _ (by omega))⟩⟩⟩⟩⟩⟩⟩⟩⟩⟩⟩⟩⟩⟩⟩⟩
    exact zp_MMset_56 (by omega) hn ⟨pre68, fun r68 W68 hr68 => ⟨fun c73 => (h85 W68 r68 hr68 (by omega) _ _ _ (by omega)), fun c73 => ⟨⟨og68 W68 hr68.1, by unfold lRg; omega, by have := r6 W68 r68 hr68; unfold lRg; omega, by unfold lRg; omega, by rw [f12 W68 hr68.1]; omega, by rw [f12 W68 hr68.1]; omega⟩, fun W81 hr81 => (bad1 W68 r68 hr68 (by omega) W81 hr81)⟩⟩⟩
  have lp25 : ∀ (m K : Nat) (V : zW) (i : Int) (u4 u5 : Option zv), 100 * m + 30000 ≤ K → ((W.1 87 9 - a - 1) - i < m ∧ 0 ≤ i ∧ i ≤ (W.1 87 9 - a - 1)) → ¬ a = W.1 87 9 → zFr [] [117] W V → (∀ t, 0 ≤ t → t < i → V.2.1 117 t = W.2.1 88 (a + 1 + t)) → zwp jtb zsh n zm_MMset po K (lGo ak_ZMMset 25) 25 [some (.inr (.inr (some (.inl 87)))), some (.inl a), some (.inl (W.1 87 9 - a - 1)), some (.inl (i)), u4, u5] [] V := by
    intro m
    induction m with
    | zero => intro K V i u4 u5 hK hm; omega
    | succ m ih =>
      intro K V i u4 u5 hK hm hne hV hA
      exact zp_MMset_25 (by omega) hn ⟨fun c27 => (h56 _ V i _ _ (by omega) hne hV (fun t s0 s1 => hA t s0 (by omega))), fun c27 => ⟨(by omega), ⟨(by omega), ⟨(by omega), ⟨(by have := by88 V hV i (by omega) (by omega); omega), fun t0 e0 => ⟨(by omega), (by have := by88 V hV i (by omega) (by omega); omega), ⟨(by omega), (ih _ _ (i + 1) _ _ (by omega) (by omega) hne (zFr_R hV (by decide)) (fun t s0 s1 => by show zuI (V.2.1 117) i t0 t = _; by_cases ct : t = i; (rw [ct, zuI_s, e0, zFr_r hV 88]); (rw [zuI_n ct]; exact hA t s0 (by omega))))⟩⟩⟩⟩⟩⟩⟩
  exact zp_MMset_0 (by omega) hn ⟨fun c5 => ⟨(by omega), ⟨(by omega), (lp25 65537 _ W 0 _ _ (by omega) (by omega) (by omega) zFr_0 (fun t s0 s1 => by omega))⟩⟩, fun c5 => ⟨⟨hq.1.2.1, by unfold lRg; omega, by omega, by omega⟩, fun W10 hr10 => (bad0 W10 (by omega) hr10)⟩⟩
end
section
/-! a text is read in one way only -/
theorem gRe_u {X : Int → Int} {N p e e' : Int} (h : gRe X N p e) (h' : gRe X N p e') : e = e' := by
  rcases Int.lt_trichotomy e e' with z | z | z
  · have q := h'.2.1 e h.1.1 z
    rcases h.2.2 with w | w | w
    · have := h'.1.2; omega
    · exact absurd w q.1
    · exact absurd w.2 (q.2 w.1)
  · exact z
  · have q := h.2.1 e' h'.1.1 z
    rcases h'.2.2 with w | w | w
    · have := h.1.2; omega
    · exact absurd w q.1
    · exact absurd w.2 (q.2 w.1)
theorem xNd_u {X : Int → Int} {N : Int} {m : Nat} {p q v q' v' : Int} (h : xNd X N m p q v) (h' : xNd X N m p q' v') : q = q' ∧ v = v' := by
  obtain ⟨k, h1, h2, h3, h4, h5⟩ := h
  obtain ⟨k', g1, g2, g3, g4, g5⟩ := h'
  have e : k = k' := by
    rcases Nat.lt_trichotomy k k' with z | z | z
    · exfalso
      have w := g3 q (by omega) (by omega)
      rcases h5 with y | y
      · omega
      · apply y; unfold xLk; rw [if_pos w.1]; exact w.2
    · exact z
    · exfalso
      have w := h3 q' (by omega) (by omega)
      rcases g5 with y | y
      · omega
      · apply y; unfold xLk; rw [if_pos w.1]; exact w.2
  subst e
  exact ⟨by omega, by rw [h4, g4]⟩
theorem xDt_u {X : Int → Int} {N q d d' : Int} (h : xDt X N q d) (h' : xDt X N q d') : d = d' := by
  rcases Int.lt_trichotomy d d' with z | z | z
  · exfalso
    have w := h'.2.1 d h.1 z
    apply h.2.2; unfold xLk; rw [if_pos w.1]; exact w.2
  · exact z
  · exfalso
    have w := h.2.1 d' h'.1 z
    apply h'.2.2; unfold xLk; rw [if_pos w.1]; exact w.2
theorem xWd_u {X : Int → Int} {N p e e' : Int} (h : xWd X N p e) (h' : xWd X N p e') : e = e' := by
  rcases Int.lt_trichotomy e e' with c | c | c
  · exact absurd (h'.2.1 e h.1.1 c) (h.2.2.resolve_left (by have := h'.1.2; omega))
  · exact c
  · exact absurd (h.2.1 e' h'.1.1 c) (h'.2.2.resolve_left (by have := h.1.2; omega))
theorem zUn_d {q : rQ} {T : Int → Int} {n r r' : Int} (h : zUn q T n r) (h' : zUn q T n r') : r = r' ∨ (r < 0 ∧ r' < 0) := by
  rcases h with ⟨h1, h2, h3, h4⟩ | ⟨h1, h2⟩
  · rcases h' with ⟨g1, g2, g3, g4⟩ | ⟨g1, g2⟩
    · exact Or.inl (g4 r h2 h3)
    · exact absurd ⟨r, h2, h3, h4⟩ g2
  · rcases h' with ⟨g1, g2, g3, g4⟩ | ⟨g1, g2⟩
    · exact absurd ⟨r', g2, g3, g4⟩ h2
    · exact Or.inr ⟨h1, g1⟩
theorem gSr_u {X : Int → Int} {N : Int} {s : gSt} {o o' : Option gSt} (h : gSr X N s o) (h' : gSr X N s o') : o = o' := by
  obtain ⟨e, h1, h2⟩ := h
  obtain ⟨e', g1, g2⟩ := h'
  have ee := gRe_u h1 g1
  subst ee
  rcases h2 with ⟨a, b⟩ | ⟨a, b, q, c, d⟩
  · rcases g2 with ⟨a', b'⟩ | ⟨a', b', q', c', d'⟩
    · rw [b, b']
    · rcases a with a | a
      · exact absurd a a'
      · omega
  · rcases g2 with ⟨a', b'⟩ | ⟨a', b', q', c', d'⟩
    · rcases a' with a' | a'
      · exact absurd a' a
      · omega
    · rw [d, d', xBs_u c c']
theorem gSm_u {X : Int → Int} {N : Int} {s : gSt} {o o' : Option gSt} (h : gSm X N s o) (h' : gSm X N s o') : o = o' := by
  rcases h with ⟨a, b, h⟩ | ⟨a, b, h⟩ | ⟨a, h⟩
  · have g := h'.resolve_right (by omega)
    obtain ⟨q, v, h1, h2⟩ := h
    obtain ⟨_, _, q', v', g1, g2⟩ := g
    obtain ⟨e1, e2⟩ := xNd_u h1 g1
    subst e1; subst e2
    rcases h2 with ⟨x, y⟩ | ⟨x, q2, y, z⟩
    · rcases g2 with ⟨x', y'⟩ | ⟨x', _⟩
      · rw [y, y']
      · exact absurd x x'
    · rcases g2 with ⟨x', y'⟩ | ⟨x', q2', y', z'⟩
      · exact absurd x' x
      · rw [z, z', xBs_u y y']
  · have g := (h'.resolve_left (by omega)).resolve_right (by omega)
    rcases h with ⟨x, y⟩ | ⟨x, q2, y, z⟩
    · rcases g.2.2 with ⟨x', y'⟩ | ⟨x', _⟩
      · rw [y, y']
      · exact absurd x x'
    · rcases g.2.2 with ⟨x', y'⟩ | ⟨x', q2', y', z'⟩
      · exact absurd x' x
      · rw [z, z', xBs_u y y']
  · have g := (h'.resolve_left (by omega)).resolve_left (by omega)
    rw [h, g.2]
theorem gSb_u {X : Int → Int} {N : Int} {s : gSt} {o o' : Option gSt} (h : gSb X N s o) (h' : gSb X N s o') : o = o' := by
  rcases h with ⟨a, b⟩ | ⟨a, h⟩
  · have g := h'.resolve_right (by omega)
    rw [b, g.2]
  · have g := h'.resolve_left (by omega)
    rcases h with ⟨x, h⟩ | ⟨x, h⟩
    · have g := g.2.resolve_right (by omega)
      rcases h with ⟨y, z⟩ | ⟨y, q, z, w⟩
      · have g := g.2.resolve_right (by omega)
        rw [z, g.2]
      · obtain ⟨_, q', z', w'⟩ := g.2.resolve_left (by omega)
        rw [w, w', xBs_u z z']
    · have g := g.2.resolve_left (by omega)
      rcases h with ⟨y, z⟩ | ⟨a1, l, y, q, z, w⟩
      · rcases g.2 with ⟨y', z'⟩ | ⟨a1', l', y', _⟩
        · rw [z, z']
        · rw [y] at y'; cases y'
      · rcases g.2 with ⟨y', z'⟩ | ⟨a1', l', y', q', z', w'⟩
        · rw [y'] at y; cases y
        · rw [y] at y'
          cases y'
          rw [w, w', xBs_u z z']
theorem gSv_u {X : Int → Int} {N : Int} {s : gSt} {o o' : Option gSt} (h : gSv X N s o) (h' : gSv X N s o') : o = o' := by
  obtain ⟨p1, b, h1, h2⟩ := h
  obtain ⟨p1', b', g1, g2⟩ := h'
  have e : p1 = p1' ∧ b = b' := by
    rcases h1 with ⟨x, y, z⟩ | ⟨x, q, v, d, y1, y2, y3⟩
    · rcases g1 with ⟨x', y', z'⟩ | ⟨x', _⟩
      · omega
      · exact absurd x' x
    · rcases g1 with ⟨x', y', z'⟩ | ⟨x', q', v', d', y1', y2', y3'⟩
      · exact absurd x x'
      · obtain ⟨e1, e2⟩ := xNd_u y1 y1'
        subst e1; subst e2
        have e3 := xDt_u y2 y2'
        subst e3
        rcases y3 with y3 | y3
        · rcases y3' with y3' | y3'
          · omega
          · exact absurd y3'.1 y3.1
        · rcases y3' with y3' | y3'
          · exact absurd y3.1 y3'.1
          · exact ⟨xBs_u y3.2.2 y3'.2.2, by omega⟩
  obtain ⟨e1, e2⟩ := e
  subst e1; subst e2
  rcases h2 with ⟨x, y⟩ | ⟨x, h2⟩
  · rcases g2 with ⟨x', y'⟩ | ⟨x', _⟩
    · rw [y, y']
    · omega
  · rcases g2 with ⟨x', y'⟩ | ⟨x', g2⟩
    · omega
    · rcases h2 with ⟨y, z⟩ | ⟨y, e, r, z1, z2, z3⟩
      · rcases g2 with ⟨y', z'⟩ | ⟨y', _⟩
        · rw [z, z']
        · exact absurd y' y
      · rcases g2 with ⟨y', z'⟩ | ⟨y', e', r', z1', z2', z3'⟩
        · exact absurd y y'
        · have e1 := xWd_u z1 z1'
          subst e1
          rcases zUn_d z2 z2' with er | er
          · subst er
            rcases z3 with ⟨w1, w2⟩ | ⟨w1, q, w2, w3⟩
            · rcases z3' with ⟨w1', w2'⟩ | ⟨w1', _⟩
              · rw [w2, w2']
              · exact absurd w1 w1'
            · rcases z3' with ⟨w1', w2'⟩ | ⟨w1', q', w2', w3'⟩
              · exact absurd w1' w1
              · rw [w3, w3', xBs_u w2 w2']
          · have b1 : gMb s r := Or.inl er.1
            have b2 : gMb s r' := Or.inl er.2
            rcases z3 with ⟨w1, w2⟩ | ⟨w1, _⟩
            · rcases z3' with ⟨w1', w2'⟩ | ⟨w1', _⟩
              · rw [w2, w2']
              · exact absurd b2 w1'
            · exact absurd b1 w1
theorem gS_u {X : Int → Int} {N : Int} {s : gSt} {o o' : Option gSt} (h : gS X N s o) (h' : gS X N s o') : o = o' := by
  rcases h with ⟨c, h⟩ | ⟨c, h⟩ | ⟨c, h⟩ | ⟨c1, c2, c3, c4, h⟩
  · have g := h'.resolve_right (by
      rintro (⟨g, _⟩ | ⟨g, _⟩ | ⟨g, _⟩)
      · unfold gcR at c; unfold gcM at g; omega
      · unfold gcR at c; unfold gcB at g; omega
      · exact g c)
    rcases h with ⟨x, y⟩ | ⟨x, y⟩
    · rcases g.2 with ⟨x', y'⟩ | ⟨x', _⟩
      · rw [y, y']
      · exact absurd x x'
    · rcases g.2 with ⟨x', y'⟩ | ⟨x', y'⟩
      · exact absurd x' x
      · exact gSr_u y y'
  · have g := (h'.resolve_left (by rintro ⟨g, _⟩; unfold gcM at c; unfold gcR at g; omega)).resolve_right (by
      rintro (⟨g, _⟩ | ⟨_, g, _⟩)
      · unfold gcM at c; unfold gcB at g; omega
      · exact g c)
    exact gSm_u h g.2
  · have g := ((h'.resolve_left (by rintro ⟨g, _⟩; unfold gcB at c; unfold gcR at g; omega)).resolve_left (by rintro ⟨g, _⟩; unfold gcB at c; unfold gcM at g; omega)).resolve_right (by rintro ⟨_, _, g, _⟩; exact g c)
    exact gSb_u h g.2
  · have g := ((h'.resolve_left (fun g => c1 g.1)).resolve_left (fun g => c2 g.1)).resolve_left (fun g => c3 g.1)
    exact gSv_u h g.2.2.2.2
theorem gOv_s {X : Int → Int} {N : Int} {s : gSt} {o : Option gSt} (h : gOv X N s) (h' : gS X N s o) : False := by
  have hc : xLk X N s.1 = 42 ∨ xLk X N s.1 = 49 ∨ xLk X N s.1 = 48 := by
    obtain ⟨_, r, r0, hr⟩ := h
    unfold xRh xG3 at hr
    unfold xLk at *
    rcases hr with z | ⟨_, z | ⟨_, z | ⟨_, z | z⟩⟩⟩
    · exact Or.inl z.2
    · rw [if_pos (by omega)]; omega
    · rw [if_pos (by omega)]; omega
    · rw [if_pos (by omega)]; omega
    · omega
  rcases h' with ⟨c, _⟩ | ⟨c, _⟩ | ⟨c, _⟩ | ⟨_, _, _, c, _⟩
  · unfold gcR at c; omega
  · unfold gcM at c; omega
  · unfold gcB at c; omega
  · exact c h
/-- two ways from one state: the shorter is a part of the longer -/
theorem gPk_d {X : Int → Int} {N : Int} : ∀ (k k' : Nat) (s u u' : gSt), gPk X N k s u → gPk X N k' s u' → (∀ v, ¬ gS X N u (some v)) → (∀ v, ¬ gS X N u' (some v)) → u = u'
  | 0, 0, s, u, u', h, h', _, _ => by
    have h : s = u := h
    have h' : s = u' := h'
    rw [← h, ← h']
  | 0, k' + 1, s, u, u', h, h', n, _ => by
    have h : s = u := h
    obtain ⟨v, g, _⟩ := h'
    rw [h] at g
    exact absurd g (n v)
  | k + 1, 0, s, u, u', h, h', _, n => by
    have h' : s = u' := h'
    obtain ⟨v, g, _⟩ := h
    rw [h'] at g
    exact absurd g (n v)
  | k + 1, k' + 1, s, u, u', h, h', n, n' => by
    obtain ⟨v, g, hk⟩ := h
    obtain ⟨v', g', hk'⟩ := h'
    have e := gS_u g g'
    cases e
    exact gPk_d k k' v u u' hk hk' n n'
theorem gP_d {X : Int → Int} {N : Int} {s u u' : gSt} (h : gP X N s u) (h' : gP X N s u') (n : ∀ v, ¬ gS X N u (some v)) (n' : ∀ v, ¬ gS X N u' (some v)) : u = u' := by
  obtain ⟨k, hk⟩ := h
  obtain ⟨k', hk'⟩ := h'
  exact gPk_d k k' s u u' hk hk' n n'
theorem gN_s {X : Int → Int} {N : Int} {u : gSt} (h : gS X N u none) : ∀ v, ¬ gS X N u (some v) := fun v g => by have := gS_u h g; cases this
theorem gO_s {X : Int → Int} {N : Int} {u : gSt} (h : gOv X N u) : ∀ v, ¬ gS X N u (some v) := fun v g => gOv_s h g
/-- tags: one way -/
theorem gTq_u {m : Int → Int} {n v : Int} {f : Int → Int} {q q1 q2 : xP} (h : gTq m n f v q q1) (h' : gTq m n f v q q2) : q1 = q2 := by
  rcases h with ⟨a, _, k, h⟩ | ⟨a, h⟩
  · rcases h' with ⟨_, _, k', h'⟩ | ⟨a', _⟩
    · obtain ⟨e1, _, e2⟩ := pTx_u h h'
      exact Prod.ext e1 e2
    · exact absurd a a'
  · rcases h' with ⟨a', _⟩ | ⟨_, h'⟩
    · exact absurd a' a
    · rw [h, h']
theorem gA_u {X : Int → Int} {N : Int} {s : gTt} {o o' : Option gTt} (h : gA X N s o) (h' : gA X N s o') : o = o' := by
  obtain ⟨c, h⟩ := h
  obtain ⟨_, h'⟩ := h'
  rcases h with ⟨a, b⟩ | ⟨p1, n, f, v, e, q, p', t1, t2, t3, t4, t5⟩
  · rcases h' with ⟨a', b'⟩ | ⟨p1, n, f, v, e, q, p', t1, t2, t3, t4, t5⟩
    · rw [b, b']
    · exact absurd (a _ _ _ _ _ t1) t2
  · rcases h' with ⟨a', b'⟩ | ⟨p1', n', f', v', e', q', p'', g1, g2, g3, g4, g5⟩
    · exact absurd (a' _ _ _ _ _ t1) t2
    · obtain ⟨rfl, rfl, rfl, rfl, rfl⟩ := gTs_u t1 g1
      have eq := gTq_u t3 g3
      subst eq
      rw [t5, g5, xBs_u t4 g4]
theorem gAk_d {X : Int → Int} {N : Int} : ∀ (k k' : Nat) (s u u' : gTt), gAk X N k s u → gAk X N k' s u' → k ≤ k' → (∀ v, ¬ gA X N u (some v)) → u = u' ∧ k = k' := by
  have pre : ∀ (k j : Nat) (s u : gTt), gAk X N (k + j) s u → ∃ w, gAk X N k s w ∧ gAk X N j w u := by
    intro k j
    induction j with
    | zero => exact fun s u h => ⟨u, h, rfl⟩
    | succ j ih =>
      rintro s u ⟨v, h1, h2⟩
      obtain ⟨w, g1, g2⟩ := ih s v h1
      exact ⟨w, g1, v, g2, h2⟩
  have same : ∀ (k : Nat) (s u u' : gTt), gAk X N k s u → gAk X N k s u' → u = u' := by
    intro k
    induction k with
    | zero =>
      intro s u u' h h'
      have h : s = u := h
      have h' : s = u' := h'
      rw [← h, ← h']
    | succ k ih =>
      rintro s u u' ⟨v, h1, h2⟩ ⟨v', g1, g2⟩
      have e := ih s v v' h1 g1
      subst e
      have := gA_u h2 g2
      cases this
      rfl
  intro k k' s u u' h h' hk n
  obtain ⟨j, rfl⟩ : ∃ j, k' = k + j := ⟨k' - k, by omega⟩
  obtain ⟨w, g1, g2⟩ := pre k j s u' h'
  have e := same k s u w h g1
  subst e
  cases j with
  | zero => exact ⟨g2, rfl⟩
  | succ j =>
    exfalso
    have : ∀ (j : Nat) (u u' : gTt), gAk X N (j + 1) u u' → ∃ v, gA X N u (some v) := by
      intro j
      induction j with
      | zero =>
        rintro u u' ⟨v, h1, h2⟩
        have h1 : u = v := h1
        rw [h1]
        exact ⟨_, h2⟩
      | succ j ih =>
        rintro u u' ⟨v, h1, h2⟩
        exact ih u v h1
    obtain ⟨v, hv⟩ := this j u u' g2
    exact n v hv
theorem gAp_d {X : Int → Int} {N : Int} {s u u' : gTt} (h : gAp X N s u) (h' : gAp X N s u') (n : ∀ v, ¬ gA X N u (some v)) (n' : ∀ v, ¬ gA X N u' (some v)) : u = u' := by
  obtain ⟨k, hk⟩ := h
  obtain ⟨k', hk'⟩ := h'
  rcases Nat.le_total k k' with z | z
  · exact (gAk_d k k' s u u' hk hk' z n).1
  · exact (gAk_d k' k s u' u hk' hk z n').1.symm
theorem gRd_u {X : Int → Int} {N : Int} {o o' : Option (xT × xG)} (h : gRd X N o) (h' : gRd X N o') : o = o' := by
  obtain ⟨p0, h0, h⟩ := h
  obtain ⟨p0', g0, h'⟩ := h'
  have e0 := xBs_u h0 g0
  subst e0
  have nA : ∀ {u : gTt}, gA X N u none → ∀ v, ¬ gA X N u (some v) := fun a v b => by have := gA_u a b; cases this
  have n9 : ∀ {u : gTt}, ¬ xLk X N u.1 = 91 → ∀ (o : Option gTt), ¬ gA X N u o := fun a v b => a b.1
  rcases h with ⟨u, a, b, c⟩ | ⟨s, a, b, c⟩
  · rcases h' with ⟨u', a', b', c'⟩ | ⟨s', a', b', c'⟩
    · rw [c, c']
    · have e := gAp_d a a' (nA b) (fun v => n9 b' _)
      subst e
      exact absurd b (n9 b' _)
  · rcases h' with ⟨u', a', b', c'⟩ | ⟨s', a', b', c'⟩
    · have e := gAp_d a a' (fun v => n9 b _) (nA b')
      subst e
      exact absurd b' (n9 b _)
    · have e := gAp_d a a' (fun v => n9 b _) (fun v => n9 b' _)
      subst e
      rcases c with ⟨⟨u, c1, c2⟩, c3⟩ | ⟨m, r, c1, c2, c3, c4, c5⟩
      · rcases c' with ⟨_, d3⟩ | ⟨m', r', d1, d2, d3, d4, d5⟩
        · rw [c3, d3]
        · have e := gP_d c1 d1 (gN_s c2) (gO_s ⟨d2, r', d3, d4⟩)
          subst e
          exact (gOv_s ⟨d2, r', d3, d4⟩ c2).elim
      · rcases c' with ⟨⟨u, d1, d2⟩, d3⟩ | ⟨m', r', d1, d2, d3, d4, d5⟩
        · have e := gP_d c1 d1 (gO_s ⟨c2, r, c3, c4⟩) (gN_s d2)
          subst e
          exact (gOv_s ⟨c2, r, c3, c4⟩ d2).elim
        · have e := gP_d c1 d1 (gO_s ⟨c2, r, c3, c4⟩) (gO_s ⟨d2, r', d3, d4⟩)
          subst e
          have er := xRh_u c4 d4
          subst er
          rcases c5 with ⟨x, y⟩ | ⟨x, p', y, z⟩
          · rcases d5 with ⟨x', y'⟩ | ⟨x', _⟩
            · rw [y, y']
            · exact absurd x x'
          · rcases d5 with ⟨x', y'⟩ | ⟨x', p'', y', z'⟩
            · exact absurd x' x
            · have ep := xBs_u y y'
              subst ep
              rcases z with z | z
              · rcases z' with z' | z'
                · rw [z.2, z'.2]
                · omega
              · rcases z' with z' | z'
                · omega
                · rw [z.2, z'.2]
end
section
/-! only what stands in the text counts -/
theorem sgX_c {r r' : Int → Int} {n mk mf mt mb mc ap : Int} {P : Prop} (e : ∀ i, 0 ≤ i → i < n → r' i = r i) (h : sgX r n mk mf mt mb mc ap P) : sgX r' n mk mf mt mb mc ap P := by
  rcases h with ⟨a, b, c⟩ | ⟨a, b, c⟩ | ⟨a, b, c, d, p, q, s, x, h1, h2, h3, h4, h5, h6, h7⟩
  · have c0 := c.1
    refine Or.inl ⟨a, b, c0, ?_, ?_, ?_⟩
    · rw [e 0 (by omega) (by omega)]; exact c.2.1
    · rw [e 1 (by omega) (by omega)]; exact c.2.2.1
    · rw [e 2 (by omega) (by omega)]; exact c.2.2.2
  · have c0 := c.1
    refine Or.inr (Or.inl ⟨a, b, c0, ?_, ?_, ?_, ?_, ?_⟩)
    · rw [e 0 (by omega) (by omega)]; exact c.2.1
    · rw [e 1 (by omega) (by omega)]; exact c.2.2.1
    · rw [e 2 (by omega) (by omega)]; exact c.2.2.2.1
    · rw [e 3 (by omega) (by omega)]; exact c.2.2.2.2.1
    · rw [e 4 (by omega) (by omega)]; exact c.2.2.2.2.2
  · have hp : 0 ≤ p := by omega
    have hq : p ≤ q := by omega
    have hs : q ≤ s := by omega
    have hx : s ≤ x := by omega
    have hn : x + 2 ≤ n := by omega
    refine Or.inr (Or.inr ⟨a, b, c, d, p, q, s, x, ?_, ?_, ?_, ?_, ?_, ?_, ?_⟩)
    · rw [e 0 (by omega) (by omega)]; exact h1
    · rcases h2 with z | z
      · exact Or.inl ⟨z.1, z.2.1, by rw [e p (by omega) (by omega)]; exact z.2.2⟩
      · exact Or.inr z
    · rcases h3 with z | z
      · exact Or.inl ⟨z.1, z.2.1, by rw [e q (by omega) (by omega)]; exact z.2.2⟩
      · exact Or.inr z
    · rcases h4 with z | z
      · exact Or.inl ⟨z.1, z.2.1, by rw [e s (by omega) (by omega)]; exact z.2.2⟩
      · exact Or.inr z
    · rw [e x (by omega) (by omega)]; exact h5
    · rw [e (x + 1) (by omega) (by omega)]; exact h6
    · rcases h7 with z | z
      · exact Or.inl ⟨z.1, z.2.1, by rw [e (x + 2) (by omega) (by omega)]; exact z.2.2.1, by rw [e (x + 3) (by omega) (by omega)]; exact z.2.2.2⟩
      · exact Or.inr z
theorem zFit_c {q : rQ} {m n : Int} {r r' : Int → Int} (e : ∀ i, 0 ≤ i → i < n → r' i = r i) (h : zFit q m r n) : zFit q m r' n := by
  obtain ⟨ap, h | ⟨h1, h2, h3⟩⟩ := h
  · exact ⟨ap, Or.inl (sgX_c e h)⟩
  · have n0 := h1.1
    have en := e (n - 1) (by omega) (by omega)
    refine ⟨ap, Or.inr ⟨⟨n0, by rw [en]; exact h1.2⟩, by rw [en]; exact h2, sgX_c (fun i a b => e i a (by omega)) h3⟩⟩
theorem zUn_c {q : rQ} {n x : Int} {r r' : Int → Int} (e : ∀ i, 0 ≤ i → i < n → r' i = r i) (h : zUn q r n x) : zUn q r' n x := by
  have f : ∀ m, zFit q m r n ↔ zFit q m r' n := fun m => ⟨zFit_c e, zFit_c (fun i a b => (e i a b).symm)⟩
  rcases h with ⟨h1, h2, h3, h4⟩ | ⟨h1, h2⟩
  · exact Or.inl ⟨h1, h2, (f x).mp h3, fun m a b => h4 m a ((f m).mpr b)⟩
  · refine Or.inr ⟨h1, fun ⟨m, a, b, d⟩ => h2 ⟨m, a, (f m).mpr b, fun m' a' b' => d m' a' ((f m').mp b')⟩⟩
theorem xLk_c {X X' : Int → Int} {N p : Int} (hX : ∀ i, 0 ≤ i → i < N → X' i = X i) (h : 0 ≤ p) : xLk X' N p = xLk X N p := by
  unfold xLk
  by_cases c : p < N
  · rw [if_pos c, if_pos c, hX p h c]
  · rw [if_neg c, if_neg c]
theorem xBs_c {X X' : Int → Int} {N p q : Int} (hX : ∀ i, 0 ≤ i → i < N → X' i = X i) (h0 : 0 ≤ p) (h : xBs X N p q) : xBs X' N p q := by
  refine ⟨h.1, fun t a b => ?_, ?_⟩
  · rw [hX t (by omega) (by have := h.1; omega)]; exact h.2.1 t a b
  · by_cases c : q = N
    · exact Or.inl c
    · rw [hX q (by have := h.1; omega) (by have := h.1; omega)]; exact h.2.2
theorem gRe_c {X X' : Int → Int} {N p e : Int} (hX : ∀ i, 0 ≤ i → i < N → X' i = X i) (h0 : 0 ≤ p) (h : gRe X N p e) : gRe X' N p e := by
  have h1 := h.1
  have ep := hX p h0 (by omega)
  refine ⟨h.1, fun t a b => ?_, ?_⟩
  · rw [hX t (by omega) (by omega), ep]; exact h.2.1 t a b
  · by_cases c : e = N
    · exact Or.inl c
    · rw [hX e (by omega) (by omega), ep]; exact h.2.2
theorem gRx_c {X X' : Int → Int} {N p e : Int} (hX : ∀ i, 0 ≤ i → i < N → X' i = X i) (h0 : 0 ≤ p) (h1 : p < e ∧ e ≤ N) : gRx X' N p e ↔ gRx X N p e := by
  unfold gRx
  rw [hX p h0 (by omega)]
  by_cases c : e < N
  · rw [hX e (by omega) c]
  · constructor
    · rintro (z | z)
      · exact Or.inl z
      · omega
    · rintro (z | z)
      · exact Or.inl z
      · omega
theorem zNm_c {X X' : Int → Int} {p : Int} : ∀ n : Nat, (∀ t, p ≤ t → t < p + n → X' t = X t) → zNm X' p n = zNm X p n
  | 0, _ => rfl
  | n + 1, h => by
    unfold zNm
    rw [zNm_c n (fun t a b => h t a (by omega)), h (p + n) (by omega) (by omega)]
theorem xNd_c {X X' : Int → Int} {N : Int} {m : Nat} {p q v : Int} (hX : ∀ i, 0 ≤ i → i < N → X' i = X i) (h0 : 0 ≤ p) (h : xNd X N m p q v) : xNd X' N m p q v := by
  obtain ⟨k, h1, h2, h3, h4, h5⟩ := h
  refine ⟨k, h1, h2, fun t a b => ?_, ?_, ?_⟩
  · have z := h3 t a b
    exact ⟨z.1, by rw [hX t (by omega) z.1]; exact z.2⟩
  · rw [zNm_c k (fun t a b => hX t (by omega) (h3 t a (by omega)).1)]; exact h4
  · rw [xLk_c hX (by omega)]; exact h5
theorem xDt_c {X X' : Int → Int} {N q d : Int} (hX : ∀ i, 0 ≤ i → i < N → X' i = X i) (h0 : 0 ≤ q) (h : xDt X N q d) : xDt X' N q d := by
  refine ⟨h.1, fun t a b => ?_, ?_⟩
  · have z := h.2.1 t a b
    exact ⟨z.1, by rw [hX t (by omega) z.1]; exact z.2⟩
  · rw [xLk_c hX (by have := h.1; omega)]; exact h.2.2
theorem xWd_c {X X' : Int → Int} {N p q : Int} (hX : ∀ i, 0 ≤ i → i < N → X' i = X i) (h0 : 0 ≤ p) (h : xWd X N p q) : xWd X' N p q := by
  refine ⟨h.1, fun t a b => ?_, ?_⟩
  · rw [hX t (by omega) (by have := h.1; omega)]; exact h.2.1 t a b
  · by_cases c : q = N
    · exact Or.inl c
    · rw [hX q (by have := h.1; omega) (by have := h.1; omega)]; exact h.2.2
theorem xRu_c {X X' : Int → Int} {N p q : Int} (hX : ∀ i, 0 ≤ i → i < N → X' i = X i) (h0 : 0 ≤ p) (h : xRu X N p q) : xRu X' N p q := by
  refine ⟨h.1, fun t a b => ?_, ?_⟩
  · rw [hX t (by omega) (by have := h.1; omega)]; exact h.2.1 t a b
  · by_cases c : q = N
    · exact Or.inl c
    · rw [hX q (by have := h.1; omega) (by have := h.1; omega)]; exact h.2.2
theorem xG3_c {X X' : Int → Int} {N p x y z : Int} (hX : ∀ i, 0 ≤ i → i < N → X' i = X i) (h0 : 0 ≤ p) : xG3 X' N p x y z ↔ xG3 X N p x y z := by
  unfold xG3
  by_cases c : p + 2 < N
  · rw [hX p h0 (by omega), hX (p + 1) (by omega) (by omega), hX (p + 2) (by omega) (by omega)]
  · constructor
    · intro h; omega
    · intro h; omega
theorem xRh_c {X X' : Int → Int} {N p r : Int} (hX : ∀ i, 0 ≤ i → i < N → X' i = X i) (h0 : 0 ≤ p) : xRh X' N p r ↔ xRh X N p r := by
  have hh : (xG3 X' N p 49 47 50 ∧ p + 6 < N ∧ X' (p + 3) = 45 ∧ X' (p + 4) = 49 ∧ X' (p + 5) = 47 ∧ X' (p + 6) = 50) ↔ (xG3 X N p 49 47 50 ∧ p + 6 < N ∧ X (p + 3) = 45 ∧ X (p + 4) = 49 ∧ X (p + 5) = 47 ∧ X (p + 6) = 50) := by
    rw [xG3_c hX h0]
    by_cases c : p + 6 < N
    · rw [hX (p + 3) (by omega) (by omega), hX (p + 4) (by omega) (by omega), hX (p + 5) (by omega) (by omega), hX (p + 6) (by omega) c]
    · constructor
      · intro h; exact absurd h.2.1 c
      · intro h; exact absurd h.2.1 c
  unfold xRh
  rw [xLk_c hX h0, xG3_c hX h0, xG3_c hX h0, hh]
theorem gOv_c {X X' : Int → Int} {N : Int} {s : gSt} (hX : ∀ i, 0 ≤ i → i < N → X' i = X i) (h0 : 0 ≤ s.1) : gOv X' N s ↔ gOv X N s := by
  unfold gOv
  constructor
  · rintro ⟨a, r, b, c⟩; exact ⟨a, r, b, (xRh_c hX h0).mp c⟩
  · rintro ⟨a, r, b, c⟩; exact ⟨a, r, b, (xRh_c hX h0).mpr c⟩
theorem gS_c {X X' : Int → Int} {N : Int} {s : gSt} {o : Option gSt} (hX : ∀ i, 0 ≤ i → i < N → X' i = X i) (h0 : 0 ≤ s.1) (h : gS X N s o) : gS X' N s o := by
  have el := xLk_c hX h0
  have ex : ¬ xLk X N s.1 = 0 → X' s.1 = X s.1 := fun z => hX s.1 h0 (xLk_i z).1
  unfold gS
  rw [el, gOv_c hX h0]
  rcases h with ⟨c, h⟩ | ⟨c, h⟩ | ⟨c, h⟩ | ⟨c1, c2, c3, c4, h⟩
  · refine Or.inl ⟨c, ?_⟩
    have ex := ex (by unfold gcR at c; omega)
    rcases h with h | ⟨h1, e, h2, h3⟩
    · exact Or.inl h
    · refine Or.inr ⟨h1, e, gRe_c hX h0 h2, ?_⟩
      rw [gRx_c hX h0 h2.1, ex]
      rcases h3 with h3 | ⟨a, b, q, d, f⟩
      · exact Or.inl h3
      · refine Or.inr ⟨a, b, q, xBs_c hX ?_ d, f⟩
        have := h2.1
        split <;> omega
  · refine Or.inr (Or.inl ⟨c, ?_⟩)
    have ex := ex (by unfold gcM at c; omega)
    unfold gSm
    rw [ex]
    rcases h with ⟨a, b, q, v, d, e⟩ | ⟨a, b, d⟩ | h
    · refine Or.inl ⟨a, b, q, v, xNd_c hX (by omega) d, ?_⟩
      have hq : s.1 + 1 ≤ q := by obtain ⟨k, _, e1, _⟩ := d; omega
      rw [xLk_c hX (show 0 ≤ q by omega)]
      rcases e with e | ⟨e1, q', e2, e3⟩
      · exact Or.inl e
      · exact Or.inr ⟨e1, q', xBs_c hX (by omega) e2, e3⟩
    · refine Or.inr (Or.inl ⟨a, b, ?_⟩)
      unfold gSe
      rw [xLk_c hX (show 0 ≤ s.1 + 1 by omega)]
      rcases d with d | ⟨d1, q', d2, d3⟩
      · exact Or.inl d
      · exact Or.inr ⟨d1, q', xBs_c hX (by split <;> omega) d2, d3⟩
    · exact Or.inr (Or.inr h)
  · refine Or.inr (Or.inr (Or.inl ⟨c, ?_⟩))
    have ex := ex (by unfold gcB at c; omega)
    unfold gSb
    rw [ex]
    rcases h with h | ⟨a, ⟨b, d | ⟨d, q, e, f⟩⟩ | ⟨b, d | ⟨a1, l, d, q, e, f⟩⟩⟩
    · exact Or.inl h
    · exact Or.inr ⟨a, Or.inl ⟨b, Or.inl d⟩⟩
    · exact Or.inr ⟨a, Or.inl ⟨b, Or.inr ⟨d, q, xBs_c hX (by omega) e, f⟩⟩⟩
    · exact Or.inr ⟨a, Or.inr ⟨b, Or.inl d⟩⟩
    · exact Or.inr ⟨a, Or.inr ⟨b, Or.inr ⟨a1, l, d, q, xBs_c hX (by omega) e, f⟩⟩⟩
  · refine Or.inr (Or.inr (Or.inr ⟨c1, c2, c3, c4, ?_⟩))
    obtain ⟨p1, b, h1, h2⟩ := h
    have hp1 : s.1 ≤ p1 := by
      rcases h1 with z | ⟨_, q, v, d, ⟨k, _, e1, _⟩, y, z | z⟩
      · omega
      · omega
      · have := z.2.2.1; have := y.1; omega
    refine ⟨p1, b, ?_, ?_⟩
    · unfold gNu
      rw [el]
      rcases h1 with z | ⟨z, q, v, d, y1, y2, y3⟩
      · exact Or.inl z
      · have hq : s.1 ≤ q := by obtain ⟨k, _, e1, _⟩ := y1; omega
        refine Or.inr ⟨z, q, v, d, xNd_c hX h0 y1, xDt_c hX (by omega) y2, ?_⟩
        rcases y3 with y3 | y3
        · exact Or.inl y3
        · exact Or.inr ⟨y3.1, y3.2.1, xBs_c hX (by have := y2.1; omega) y3.2.2⟩
    · rcases h2 with z | ⟨z, h2⟩
      · exact Or.inl z
      · refine Or.inr ⟨z, ?_⟩
        unfold gMv
        rw [xLk_c hX (show 0 ≤ p1 by omega)]
        rcases h2 with y | ⟨y, e, r, y1, y2, y3⟩
        · exact Or.inl y
        · have hw := y1.1
          refine Or.inr ⟨y, e, r, xWd_c hX (by omega) y1, zUn_c (fun i a b => hX (p1 + i) (by omega) (by omega)) y2, ?_⟩
          rcases y3 with y3 | ⟨w1, q, w2, w3⟩
          · exact Or.inl y3
          · exact Or.inr ⟨w1, q, xBs_c hX (by omega) w2, w3⟩
theorem gS_p {X : Int → Int} {N : Int} {s v : gSt} (h : gS X N s (some v)) : s.1 ≤ v.1 := by
  rcases h with ⟨c1, hs⟩ | ⟨c1, hs⟩ | ⟨c1, hs⟩ | ⟨c1, c2, c3, c4, hs⟩
  · rcases hs with ⟨_, e⟩ | ⟨n1, e, he, ⟨_, hs⟩ | ⟨_, h2, q, hq, hv⟩⟩
    · cases e
    · cases hs
    · cases hv
      have a := hq.1.1
      have b := he.1
      show s.1 ≤ q
      split at a <;> omega
  · rcases hs with ⟨_, hst, q, w, ⟨k, _, en, _⟩, ⟨_, e⟩ | ⟨hb, q', hq', e⟩⟩ | ⟨_, hst, ⟨_, e⟩ | ⟨h4, q', hq', e⟩⟩ | ⟨_, e⟩
    · cases e
    · cases e
      have a := hq'.1.1
      show s.1 ≤ q'
      omega
    · cases e
    · cases e
      have a := hq'.1.1
      show s.1 ≤ q'
      split at a <;> omega
    · cases e
  · rcases hs with ⟨_, e⟩ | ⟨hst, ⟨_, ⟨_, e⟩ | ⟨hl, q, hq, e⟩⟩ | ⟨_, ⟨_, e⟩ | ⟨a, l, el, q, hq, e⟩⟩⟩
    · cases e
    · cases e
    · cases e
      have a := hq.1.1
      show s.1 ≤ q
      omega
    · cases e
    · cases e
      have a := hq.1.1
      show s.1 ≤ q
      omega
  · obtain ⟨p1, b, hnu, ⟨_, e⟩ | ⟨_, ⟨_, e⟩ | ⟨hl, e', r, hw, hU, ⟨_, e⟩ | ⟨hb, q, hq, e⟩⟩⟩⟩ := hs
    · cases e
    · cases e
    · cases e
    · cases e
      have hp1 : s.1 ≤ p1 := by
        rcases hnu with z | ⟨_, q, v, d, ⟨k, _, e1, _⟩, y, z | z⟩
        · omega
        · omega
        · have := z.2.2.1; have := y.1; omega
      have a := hq.1.1
      have b := hw.1.1
      show s.1 ≤ q
      omega
theorem gPk_c {X X' : Int → Int} {N : Int} (hX : ∀ i, 0 ≤ i → i < N → X' i = X i) : ∀ (k : Nat) (s u : gSt), 0 ≤ s.1 → gPk X N k s u → gPk X' N k s u ∧ 0 ≤ u.1
  | 0, s, u, h0, h => by
    have h : s = u := h
    subst h
    exact ⟨rfl, h0⟩
  | k + 1, s, u, h0, ⟨v, a, b⟩ => by
    have hv : 0 ≤ v.1 := by have := gS_p a; omega
    obtain ⟨c, d⟩ := gPk_c hX k v u hv b
    exact ⟨⟨v, gS_c hX h0 a, c⟩, d⟩
theorem gP_x {X X' : Int → Int} {N : Int} (hX : ∀ i, 0 ≤ i → i < N → X' i = X i) {s u : gSt} (h0 : 0 ≤ s.1) (h : gP X N s u) : gP X' N s u ∧ 0 ≤ u.1 := by
  obtain ⟨k, hk⟩ := h
  obtain ⟨a, b⟩ := gPk_c hX k s u h0 hk
  exact ⟨⟨k, a⟩, b⟩
theorem gF_c {X X' : Int → Int} {N : Int} (hX : ∀ i, 0 ≤ i → i < N → X' i = X i) {s : gSt} (h0 : 0 ≤ s.1) (h : gF X N s) : gF X' N s := by
  obtain ⟨u, a, b⟩ := h
  obtain ⟨c, d⟩ := gP_x hX h0 a
  exact ⟨u, c, gS_c hX d b⟩
end
section
/-! only what stands in the text counts: tags, the whole -/
noncomputable def gGe (G G' : xG) : Prop := G'.1 = G.1 ∧ ∀ k, 0 ≤ k → k < G.1 → (G'.2.1 k = G.2.1 k ∧ ∀ j, 0 ≤ j → j < G.2.1 k → G'.2.2.1 k j = G.2.2.1 k j) ∧ (G'.2.2.2.1 k = G.2.2.2.1 k ∧ ∀ j, 0 ≤ j → j < G.2.2.2.1 k → G'.2.2.2.2 k j = G.2.2.2.2 k j)
theorem gGe_0 {G : xG} : gGe G G := ⟨rfl, fun _ _ _ => ⟨⟨rfl, fun _ _ _ => rfl⟩, rfl, fun _ _ _ => rfl⟩⟩
theorem gGe_s {G G' : xG} (h : gGe G G') : gGe G' G := ⟨h.1.symm, fun k a b => by
  have z := h.2 k a (by have := h.1; omega)
  exact ⟨⟨z.1.1.symm, fun j c d => (z.1.2 j c (by have := z.1.1; omega)).symm⟩, z.2.1.symm, fun j c d => (z.2.2 j c (by have := z.2.1; omega)).symm⟩⟩
theorem gVl_c {X X' : Int → Int} {N : Int} (hX : ∀ i, 0 ≤ i → i < N → X' i = X i) : ∀ (k : Nat) (p v : Int) (f : Int → Int), 0 ≤ p → gVl X' N k p v f = gVl X N k p v f
  | 0, _, _, _, _ => rfl
  | k + 1, p, v, f, h0 => by
    unfold gVl
    have a := xLk_c (X := X) (X' := X') hX h0
    have b := xLk_c (X := X) (X' := X') hX (show 0 ≤ p + 1 by omega)
    have hp : 0 ≤ (if xLk X N p = 92 then p + 1 else p) := by split <;> omega
    rw [a, b]
    have c := xLk_c (X := X) (X' := X') hX hp
    rw [c, gVl_c hX k _ _ _ (by omega)]
theorem gTs_c {X X' : Int → Int} {N p p1 n v e : Int} {f : Int → Int} (hX : ∀ i, 0 ≤ i → i < N → X' i = X i) (h0 : 0 ≤ p) (h : gTs X N p p1 n f v e) : gTs X' N p p1 n f v e := by
  obtain ⟨e1, p2, q1, p3, h1, h2, h3, h4, h5, h6, h7, h8, h9, h10⟩ := h
  have a1 := h1.1.1
  have a2 := h5.1.1
  have a3 := gVl_p _ _ _ _ _ h7
  have a3 : p2 + 1 ≤ q1 := a3
  have a4 := h8.1.1
  exact ⟨e1, p2, q1, p3, xBs_c hX (by omega) h1, xRu_c hX (by omega) h2, h3, h4, xBs_c hX (by omega) h5, by rw [xLk_c hX (by omega)]; exact h6, by rw [gVl_c hX _ _ _ _ (by omega)]; exact h7, xBs_c hX (by omega) h8, by rw [xLk_c hX (by omega)]; exact h9, h10⟩
theorem gTs_p {X : Int → Int} {N p p1 n v e : Int} {f : Int → Int} (h : gTs X N p p1 n f v e) : p < p1 ∧ p1 + n ≤ N ∧ 0 < n ∧ p < e ∧ 0 ≤ v := by
  obtain ⟨e1, p2, q1, p3, h1, h2, h3, h4, h5, h6, h7, h8, h9, h10⟩ := h
  have a1 := h1.1
  have a2 := h5.1
  have a3 := gVl_p _ _ _ _ _ h7
  have a3 : p2 + 1 ≤ q1 := a3
  have a4 := h8.1
  have a5 := h2.1
  have hv : ∀ (k : Nat) (p v : Int) (f : Int → Int) (x : Int × Int × (Int → Int)), gVl X N k p v f = some x → v ≤ x.2.1 := by
    intro k
    induction k with
    | zero => intro p v f x h; unfold gVl at h; cases h
    | succ k ih =>
      intro p v f x h
      unfold gVl at h
      by_cases c1 : xLk X N p = 34
      · rw [if_pos c1] at h; cases h; exact Int.le_refl _
      · rw [if_neg c1] at h
        by_cases c2 : xLk X N p = 92 ∧ ¬ xLk X N (p + 1) = 34 ∧ ¬ xLk X N (p + 1) = 92
        · rw [if_pos c2] at h; cases h
        · rw [if_neg c2] at h
          by_cases c3 : N ≤ (if xLk X N p = 92 then p + 1 else p) ∨ xLk X N (if xLk X N p = 92 then p + 1 else p) = 10
          · rw [if_pos c3] at h; cases h
          · rw [if_neg c3] at h
            have z := ih _ _ _ _ h
            omega
  have a6 := hv _ _ _ _ _ h7
  have a6 : 0 ≤ v := a6
  omega
theorem gTb_c {G G' : xG} {m m' : Int → Int} {n v : Int} {f : Int → Int} (hG : gGe G G') (hm : ∀ j, 0 ≤ j → j < n → m' j = m j) (h : gTb G m n f v) : gTb G' m' n f v := by
  rcases h with h | h | h | ⟨i, a, b, c1, c2⟩ | ⟨a, b⟩
  · exact Or.inl (by rw [hG.1]; exact h)
  · exact Or.inr (Or.inl h)
  · exact Or.inr (Or.inr (Or.inl h))
  · have z := hG.2 i a b
    exact Or.inr (Or.inr (Or.inr (Or.inl ⟨i, a, by rw [hG.1]; exact b, by rw [z.1.1]; exact c1, fun j x y => by rw [z.1.2 j x (by omega), hm j x y]; exact c2 j x y⟩)))
  · exact Or.inr (Or.inr (Or.inr (Or.inr ⟨(xNa_c (fun j x y => (hm j x y).symm)).mp a, b⟩)))
theorem gTq_c {m m' : Int → Int} {n v : Int} {f : Int → Int} {q q' : xP} (hm : ∀ j, 0 ≤ j → j < n → m' j = m j) (h : gTq m n f v q q') : gTq m' n f v q q' := by
  rcases h with ⟨a, b⟩ | ⟨a, b⟩
  · exact Or.inl ⟨(xNa_c (fun j x y => (hm j x y).symm)).mp a, b⟩
  · exact Or.inr ⟨fun z => a ((xNa_c hm).mp z), b⟩
theorem gGe_a {G G' : xG} {m m' : Int → Int} {n v : Int} {f : Int → Int} (hG : gGe G G') (hm : ∀ j, 0 ≤ j → j < n → m' j = m j) : gGe (xGa G m n f v) (xGa G' m' n f v) := by
  refine ⟨by show G'.1 + 1 = G.1 + 1; rw [hG.1], fun k a b => ?_⟩
  have b : k < G.1 + 1 := b
  show (zuI G'.2.1 G'.1 n k = zuI G.2.1 G.1 n k ∧ ∀ j, 0 ≤ j → j < zuI G.2.1 G.1 n k → (if k = G'.1 then m' else G'.2.2.1 k) j = (if k = G.1 then m else G.2.2.1 k) j) ∧ (zuI G'.2.2.2.1 G'.1 v k = zuI G.2.2.2.1 G.1 v k ∧ ∀ j, 0 ≤ j → j < zuI G.2.2.2.1 G.1 v k → (if k = G'.1 then f else G'.2.2.2.2 k) j = (if k = G.1 then f else G.2.2.2.2 k) j)
  rw [hG.1]
  by_cases c : k = G.1
  · rw [if_pos c, if_pos c, if_pos c, if_pos c, c, zuI_s, zuI_s, zuI_s, zuI_s]
    exact ⟨⟨rfl, hm⟩, rfl, fun _ _ _ => rfl⟩
  · rw [if_neg c, if_neg c, if_neg c, if_neg c, zuI_n c, zuI_n c, zuI_n c, zuI_n c]
    exact hG.2 k a (by omega)
theorem gTf_c {X X' : Int → Int} {N p : Int} {G G' : xG} (hX : ∀ i, 0 ≤ i → i < N → X' i = X i) (h0 : 0 ≤ p) (hG : gGe G G') (h : gTf X N p G) : gTf X' N p G' := by
  intro p1 n f v e t
  have t' := gTs_c (X := X') (X' := X) (fun i a b => (hX i a b).symm) h0 t
  have q := gTs_p t
  exact gTb_c hG (fun j a b => hX (p1 + j) (by omega) (by omega)) (h p1 n f v e t')
/-- two states of tags that count alike -/
noncomputable def gTe2 (s s' : gTt) : Prop := s'.1 = s.1 ∧ gGe s.2.1 s'.2.1 ∧ s'.2.2 = s.2.2
theorem gA_n {X X' : Int → Int} {N : Int} {s s' : gTt} (hX : ∀ i, 0 ≤ i → i < N → X' i = X i) (h0 : 0 ≤ s.1) (e : gTe2 s s') (h : gA X N s none) : gA X' N s' none := by
  obtain ⟨c, h⟩ := h
  refine ⟨by rw [e.1, xLk_c hX h0]; exact c, ?_⟩
  rcases h with ⟨a, _⟩ | ⟨p1, n, f, v, e', q, p', _, _, _, _, t⟩
  · exact Or.inl ⟨by rw [e.1]; exact gTf_c hX h0 e.2.1 a, rfl⟩
  · cases t
theorem gA_c {X X' : Int → Int} {N : Int} {s s' u : gTt} (hX : ∀ i, 0 ≤ i → i < N → X' i = X i) (h0 : 0 ≤ s.1) (e : gTe2 s s') (h : gA X N s (some u)) : ∃ u', gA X' N s' (some u') ∧ gTe2 u u' ∧ 0 ≤ u.1 := by
  obtain ⟨c, h⟩ := h
  rcases h with ⟨_, b⟩ | ⟨p1, n, f, v, e', q, p', t1, t2, t3, t4, t5⟩
  · cases b
  · cases t5
    have z := gTs_p t1
    have hm : ∀ j, 0 ≤ j → j < n → X' (p1 + j) = X (p1 + j) := fun j a b => hX (p1 + j) (by omega) (by omega)
    have hp := t4.1.1
    refine ⟨(p', xGa s'.2.1 (fun i => X' (p1 + i)) n f v, q), ⟨by rw [e.1, xLk_c hX h0]; exact c, Or.inr ⟨p1, n, f, v, e', q, p', ?_, ?_, ?_, xBs_c hX (by omega) t4, rfl⟩⟩, ⟨rfl, gGe_a e.2.1 hm, rfl⟩, by show 0 ≤ p'; omega⟩
    · rw [e.1]; exact gTs_c hX h0 t1
    · exact fun y => t2 (gTb_c (gGe_s e.2.1) (fun j a b => (hm j a b).symm) y)
    · rw [e.2.2]; exact gTq_c hm t3
theorem gAk_c {X X' : Int → Int} {N : Int} (hX : ∀ i, 0 ≤ i → i < N → X' i = X i) : ∀ (k : Nat) (s u s' : gTt), 0 ≤ s.1 → gTe2 s s' → gAk X N k s u → ∃ u', gAk X' N k s' u' ∧ gTe2 u u' ∧ 0 ≤ u.1
  | 0, s, u, s', h0, e, h => by
    have h : s = u := h
    subst h
    exact ⟨s', rfl, e, h0⟩
  | k + 1, s, u, s', h0, e, ⟨v, a, b⟩ => by
    obtain ⟨v', c1, c2, c3⟩ := gAk_c hX k s v s' h0 e a
    obtain ⟨u', d1, d2, d3⟩ := gA_c hX c3 c2 b
    exact ⟨u', ⟨v', c1, d1⟩, d2, d3⟩
theorem gGb_c {G G' : xG} {r : Int} (h : gGe G G') : gGb G' r ↔ gGb G r := by
  have key : ∀ {G G' : xG}, gGe G G' → gGb G r → gGb G' r := by
    rintro G G' h ⟨k, a, b, c, d⟩
    have z := h.2 k a b
    refine ⟨k, a, by rw [h.1]; exact b, ?_, fun y => d ?_⟩
    · rw [z.1.1]
      exact (xNa_c (fun j x y => (z.1.2 j x y).symm)).mp c
    · rw [z.2.1] at y
      exact (xRv_c (fun j x w => z.2.2 j x w)).mp y
  exact ⟨key (gGe_s h), key h⟩
theorem gRd_x {X X' : Int → Int} {N : Int} {o : Option (xT × xG)} (hX : ∀ i, 0 ≤ i → i < N → X' i = X i) (h : gRd X N o) : (o = none → gRd X' N none) ∧ ∀ T G, o = some (T, G) → ∃ G', gRd X' N (some (T, G')) ∧ gGe G G' := by
  obtain ⟨p0, h0, h⟩ := h
  have b0 := xBs_c hX (Int.le_refl 0) h0
  have p00 := h0.1.1
  rcases h with ⟨u, ⟨k, a⟩, b, c⟩ | ⟨s, ⟨k, a⟩, b, c⟩
  · obtain ⟨u', d1, d2, d3⟩ := gAk_c hX k _ _ (p0, gG0, gQ0) p00 ⟨rfl, gGe_0, rfl⟩ a
    refine ⟨fun _ => ⟨p0, b0, Or.inl ⟨u', ⟨k, d1⟩, gA_n hX d3 d2 b, rfl⟩⟩, fun T G e => ?_⟩
    rw [c] at e; cases e
  · obtain ⟨s', d1, d2, d3⟩ := gAk_c hX k _ _ (p0, gG0, gQ0) p00 ⟨rfl, gGe_0, rfl⟩ a
    have b' : ¬ xLk X' N s'.1 = 91 := by rw [d2.1, xLk_c hX d3]; exact b
    have em : gM0 s' = gM0 s := by unfold gM0; rw [d2.1, d2.2.2]
    have m0 : 0 ≤ (gM0 s).1 := d3
    rcases c with ⟨c1, c2⟩ | ⟨m, r, c1, c2, c3, c4, c5⟩
    · refine ⟨fun _ => ⟨p0, b0, Or.inr ⟨s', ⟨k, d1⟩, b', Or.inl ⟨by rw [em]; exact gF_c hX m0 c1, rfl⟩⟩⟩, fun T G e => ?_⟩
      rw [c2] at e; cases e
    · obtain ⟨f1, f2⟩ := gP_x hX m0 c1
      have f3 := (xRh_c hX f2).mpr c4
      rcases c5 with ⟨x, y⟩ | ⟨x, p', y, z⟩
      · refine ⟨fun _ => ⟨p0, b0, Or.inr ⟨s', ⟨k, d1⟩, b', Or.inr ⟨m, r, by rw [em]; exact f1, c2, c3, f3, Or.inl ⟨(gGb_c d2.2.1).mpr x, rfl⟩⟩⟩⟩, fun T G e => ?_⟩
        rw [y] at e; cases e
      · have hz : 0 ≤ m.1 + xRz r := by
          have : 0 ≤ xRz r := by unfold xRz; (repeat' split) <;> omega
          omega
        have x' : ¬ gGb s'.2.1 r := fun w => x ((gGb_c d2.2.1).mp w)
        have y' := xBs_c hX hz y
        rcases z with ⟨z1, z2⟩ | ⟨z1, z2⟩
        · refine ⟨fun _ => ⟨p0, b0, Or.inr ⟨s', ⟨k, d1⟩, b', Or.inr ⟨m, r, by rw [em]; exact f1, c2, c3, f3, Or.inr ⟨x', p', y', Or.inl ⟨z1, rfl⟩⟩⟩⟩⟩, fun T G e => ?_⟩
          rw [z2] at e; cases e
        · refine ⟨fun e => ?_, fun T G e => ?_⟩
          · rw [z2] at e; cases e
          · rw [z2] at e
            cases e
            exact ⟨s'.2.1, ⟨p0, b0, Or.inr ⟨s', ⟨k, d1⟩, b', Or.inr ⟨m, r, by rw [em]; exact f1, c2, c3, f3, Or.inr ⟨x', p', y', Or.inr ⟨z1, rfl⟩⟩⟩⟩⟩, d2.2.1⟩
end
section
/-! the class's GameReader: its game is at place G, its text is the tape -/
noncomputable def zTr (G : Nat) (W : zW) : zW := zuQ (zuQ W 9 4 (some (.inl G))) 9 5 (some (.inl 1))
noncomputable def zTrq (G : Nat) (W : zW) : Prop := W.2.2.2.1 9 4 = some (.inl G) ∧ W.2.2.2.1 9 5 = some (.inl 1)
theorem zuQ_e {W : zW} {a i : Nat} {v : Option (Nat ⊕ Nat)} (h : W.2.2.2.1 a i = v) : zuQ W a i v = W := by
  obtain ⟨F, R, L, Q, E⟩ := W
  have h : Q a i = v := h
  unfold zuQ
  have e : va_up Q a (va_up (Q a) i v) = Q := by
    funext x y
    unfold va_up
    by_cases c : x = a
    · rw [if_pos c]
      by_cases d : y = i
      · rw [if_pos d, c, d, h]
      · rw [if_neg d, c]
    · rw [if_neg c]
  show (F, R, L, va_up Q a (va_up (Q a) i v), E) = (F, R, L, Q, E)
  rw [e]
theorem zTr_e {G : Nat} {W : zW} (h : zTrq G W) : zTr G W = W := by
  unfold zTr
  rw [zuQ_e h.1, zuQ_e h.2]
theorem zTrq_f {G : Nat} {W V : zW} {Fs : List (Nat × Nat)} {Rs : List Nat} (h : zFr Fs Rs W V) (q : zTrq G W) : zTrq G V := by
  unfold zTrq
  rw [h.2.2]
  exact q
/-- the reader's text: from begin to stop, at a place in it -/
noncomputable def zGp (W : zW) : Prop := (0 ≤ W.1 9 6 ∧ W.1 9 6 ≤ W.1 9 8 ∧ W.1 9 8 ≤ W.1 9 7) ∧ W.1 9 7 ≤ 65537
noncomputable def zGX (W : zW) : Int → Int := fun i => W.2.1 1 (W.1 9 6 + i)
noncomputable def zGN (W : zW) : Int := W.1 9 7 - W.1 9 6
noncomputable def zGa (W : zW) : Int := W.1 9 8 - W.1 9 6
noncomputable def y_GR_isDigit : jY := (⟨"ChessHouse$GameReader", "isDigit", "(I)Z"⟩, prog_8_method_15_code, 1, (some .boolean))
theorem m_GR_isDigit : jmth lw_tbl y_GR_isDigit 1 := ⟨jTA_in (wi := 1265) (jtF_ok rfl) rfl, jTA_in (wi := 306) (jtF_ok rfl) rfl, by decide, by decide, by decide +kernel⟩
theorem s_GR_isDigit : Jvm.Cond.static y_GR_isDigit.1 ∈ jTA lw_tbl := jTA_in (wi := 1264) (jtF_ok rfl) rfl
noncomputable def ak_ZGRdig : List jI := [(.iload_n 0, 1, (0, 0, 0, 0, 0)), (.bipush 48, 2, (0, 0, 0, 48, 0)), (.if_icmp .lt 13, 3, (16, 0, 0, 0, 0)), (.iload_n 0, 1, (0, 0, 0, 0, 0)), (.bipush 57, 2, (0, 0, 0, 57, 0)), (.if_icmp .gt 7, 3, (16, 0, 0, 0, 0)), (.iconst 1, 1, (0, 0, 0, 1, 0)), (.goto 4, 3, (17, 0, 0, 0, 0)), (.iconst 0, 1, (0, 0, 0, 0, 0)), (.ireturn, 1, (0, 0, 0, 0, 0))]
theorem ao_ZGRdig : jokLG jtF lk_GR "ChessHouse$GameReader" jcl jtb 1 prog_8_method_15_code 0 ak_ZGRdig = true := by decide +kernel
noncomputable def zm_GRdig : zM := (some .boolean, { frames := 0, cells := 0, slots := 0, locals := 0 }, ([], []), [], ak_ZGRdig)
noncomputable def zc_GRdig (vals : List zv) (W : zW) (post : zPo) : Prop := ∃ x : Int, vals = [.inl (x)] ∧ (True) ∧ ∀ r : Int, (xBl r (xDg x)) → post (some (.inl r)) W
set_option maxRecDepth 8000 in
theorem zp_GRdig_0 {n K : Nat} {W : zW} {post : zPo} {x : Int}  (hK : 9 ≤ K) (hn : 142 ≤ n) (h : (x < 48 → post (some (.inl (0))) W) ∧ (¬ x < 48 → (57 < x → post (some (.inl (0))) W) ∧ (¬ 57 < x → post (some (.inl (1))) W))) : zwp jtb zsh n zm_GRdig post K (lGo ak_ZGRdig 0) 0 [some (.inl (x))] [] W := by
  obtain ⟨kk__, rfl⟩ : ∃ kk__, K = kk__ + 9 := ⟨K - 9, by omega⟩
  exact (show (x < 48 → 1 = 1 ∧ ((0 : Int) = 0 ∨ (0 : Int) = 1) ∧ post (some (.inl (0))) W) ∧ (¬ x < 48 → (57 < x → 1 = 1 ∧ ((0 : Int) = 0 ∨ (0 : Int) = 1) ∧ post (some (.inl (0))) W) ∧ (¬ 57 < x → 1 = 1 ∧ ((1 : Int) = 0 ∨ (1 : Int) = 1) ∧ post (some (.inl (1))) W)) from ⟨fun c3_2 => ⟨rfl, Or.inl rfl, ((h).1 c3_2)⟩, fun c3_2 => ⟨fun c9_5 => ⟨rfl, Or.inl rfl, ((((h).2 c3_2)).1 c9_5)⟩, fun c9_5 => ⟨rfl, Or.inr rfl, ((((h).2 c3_2)).2 c9_5)⟩⟩⟩)
theorem zk_GRdig {l : Launch} {E : jE} {n : Nat} (hn : 142 ≤ n) : zHas l E jcl jtb lw_tbl zsh n (y_GR_isDigit, true, 1, 0, { frames := 0, cells := 0, slots := 0, locals := 0 }, zc_GRdig) := by
  refine ⟨⟨rfl, rfl, ⟨m_GR_isDigit, s_GR_isDigit⟩⟩, ?_⟩
  rintro vz W po hO hW ⟨x, rfl, hq, hp⟩
  refine zmet (m := zm_GRdig) rfl (by decide) (fun _ _ => jtF_ok) lo_GR ao_ZGRdig jC (fun q h => by cases h) (fun q h => by cases h) (fun q h => by cases h) (Nat.le_of_ble_eq_true rfl) hO hW (60) ?_
  exact zp_GRdig_0 (by omega) hn ⟨fun c3 => (hp _ (by unfold xBl xDg; omega)), fun c3 => ⟨fun c9 => (hp _ (by unfold xBl xDg; omega)), fun c9 => (hp _ (by unfold xBl xDg; omega))⟩⟩
noncomputable def y_GR_fail : jY := (⟨"ChessHouse$GameReader", "fail", "(II)V"⟩, prog_8_method_3_code, 3, none)
theorem m_GR_fail : jmth lw_tbl y_GR_fail 2 := ⟨jTA_in (wi := 1220) (jtF_ok rfl) rfl, jTA_in (wi := 306) (jtF_ok rfl) rfl, by decide, by decide, by decide +kernel⟩
theorem i_GR_fail : Jvm.Cond.instanceMethod y_GR_fail.1 ∈ jTA lw_tbl := jTA_in (wi := 1219) (jtF_ok rfl) rfl
theorem e_GR_fail : Jvm.Cond.selects y_GR_fail.1.cls y_GR_fail.1 y_GR_fail.1 ∈ jTA lw_tbl := jTA_in (wi := 22) (jtF_ok rfl) rfl
noncomputable def ak_ZGRfail : List jI := [(.aload_n 0, 1, (0, 0, 0, 0, 0)), (.getfield 45, 3, (4, 9, 446, 0, 0)), (.ifCond .ne 18, 3, (22, 0, 0, 0, 0)), (.aload_n 0, 1, (0, 0, 0, 0, 0)), (.iload_n 1, 1, (1, 0, 0, 0, 0)), (.putfield 45, 3, (4, 9, 446, 0, 0)), (.aload_n 0, 1, (0, 0, 0, 0, 0)), (.iload_n 2, 1, (2, 0, 0, 0, 0)), (.aload_n 0, 1, (0, 0, 0, 0, 0)), (.getfield 35, 3, (4, 6, 443, 0, 0)), (.isub, 1, (0, 0, 0, 0, 0)), (.putfield 94, 3, (4, 0, 436, 0, 0)), (.return_, 1, (0, 0, 0, 0, 0))]
theorem ao_ZGRfail : jokLG jtF lk_GR "ChessHouse$GameReader" jcl jtb 3 prog_8_method_3_code 0 ak_ZGRfail = true := by decide +kernel
noncomputable def zm_GRfail : zM := (none, { frames := 0, cells := 0, slots := 0, locals := 0 }, ([], []), [], ak_ZGRfail)
noncomputable def zc_GRfail (vals : List zv) (W : zW) (post : zPo) : Prop := ∃ x y : Int, vals = [.inr (.inr (some (.inl 9))), .inl (x), .inl (y)] ∧ (1 ≤ x ∧ x ≤ 9 ∧ (0 ≤ y ∧ y ≤ 100000) ∧ (0 ≤ W.1 9 6 ∧ W.1 9 6 ≤ 100000)) ∧ ∀ V : zW, (zFr [(9, 0), (9, 9)] [] W V ∧ ¬ V.1 9 9 = 0 ∧ (¬ W.1 9 9 = 0 → V.1 9 9 = W.1 9 9) ∧ (W.1 9 9 = 0 → V.1 9 9 = x)) → post none V
set_option maxRecDepth 8000 in
theorem zp_GRfail_0 {n K : Nat} {W : zW} {post : zPo} {x y : Int}  (hK : 13 ≤ K) (hn : 142 ≤ n) (h : (¬ (W.1 9 9) = 0 → post none W) ∧ ((W.1 9 9) = 0 → (-2147483648 ≤ y - (W.1 9 6) ∧ y - (W.1 9 6) ≤ 2147483647) ∧ post none (zuF (zuF W 9 9 x) 9 0 (y - (W.1 9 6))))) : zwp jtb zsh n zm_GRfail post K (lGo ak_ZGRfail 0) 0 [some (.inr (.inr (some (.inl 9)))), some (.inl (x)), some (.inl (y))] [] W := by
  obtain ⟨kk__, rfl⟩ : ∃ kk__, K = kk__ + 13 := ⟨K - 13, by omega⟩
  exact (show 9 < n ∧ 4 = 4 ∧ (¬ (W.1 9 9) = 0 → 1 = 1 ∧ (none : Option FieldType) = none ∧ post none W) ∧ ((W.1 9 9) = 0 → 9 < n ∧ 4 = 4 ∧ (some 0 : Option Nat) = some 0 ∧ ((0 : Nat) = 0 ∨ ((0 : Nat) = 1 ∧ (x = 0 ∨ x = 1))) ∧ 9 < n ∧ 4 = 4 ∧ (-2147483648 ≤ y - (W.1 9 6) ∧ y - (W.1 9 6) ≤ 2147483647) ∧ 9 < n ∧ 4 = 4 ∧ (some 0 : Option Nat) = some 0 ∧ ((0 : Nat) = 0 ∨ ((0 : Nat) = 1 ∧ ((y - (W.1 9 6)) = 0 ∨ (y - (W.1 9 6)) = 1))) ∧ 1 = 1 ∧ (none : Option FieldType) = none ∧ post none (zuF (zuF W 9 9 x) 9 0 (y - (W.1 9 6)))) from ⟨(Nat.lt_of_lt_of_le (by decide) hn), rfl, ⟨fun c4_2 => ⟨rfl, rfl, ((h).1 c4_2)⟩, fun c4_2 => ⟨(Nat.lt_of_lt_of_le (by decide) hn), rfl, rfl, (Or.inl rfl), ⟨(Nat.lt_of_lt_of_le (by decide) hn), rfl, ⟨(((h).2 c4_2)).1, ⟨(Nat.lt_of_lt_of_le (by decide) hn), rfl, rfl, (Or.inl rfl), ⟨rfl, rfl, (((h).2 c4_2)).2⟩⟩⟩⟩⟩⟩⟩)
theorem zk_GRfail {l : Launch} {E : jE} {n : Nat} (hn : 142 ≤ n) : zHas l E jcl jtb lw_tbl zsh n (y_GR_fail, false, 3, 4, { frames := 0, cells := 0, slots := 0, locals := 0 }, zc_GRfail) := by
  refine ⟨⟨rfl, rfl, ⟨show 1 ≤ 3 by decide, m_GR_fail, i_GR_fail, e_GR_fail, fun _ => ⟨_, rfl, rfl⟩⟩⟩, ?_⟩
  rintro vz W po hO hW ⟨x, y, rfl, hq, hp⟩
  refine zmet (m := zm_GRfail) rfl (by decide) (fun _ _ => jtF_ok) lo_GR ao_ZGRfail jC (fun q h => by cases h) (fun q h => by cases h) (fun q h => by cases h) (Nat.le_of_ble_eq_true rfl) hO hW (60) ?_
  exact zp_GRfail_0 (by omega) hn ⟨fun c4 => (hp _ ⟨zFr_0, c4, fun _ => rfl, fun z => absurd z c4⟩), fun c4 => ⟨(by omega), (hp _ ⟨(zFr_F (zFr_F zFr_0 (by decide)) (by decide)), (by rw [zuF_1, if_neg (by decide), zuF_1, if_pos ⟨rfl, rfl⟩]; omega), (fun z => absurd c4 z), (fun _ => by rw [zuF_1, if_neg (by decide), zuF_1, if_pos ⟨rfl, rfl⟩])⟩)⟩⟩
noncomputable def y_GR_current : jY := (⟨"ChessHouse$GameReader", "current", "()I"⟩, prog_8_method_5_code, 1, (some .int))
theorem m_GR_current : jmth lw_tbl y_GR_current 0 := ⟨jTA_in (wi := 1228) (jtF_ok rfl) rfl, jTA_in (wi := 306) (jtF_ok rfl) rfl, by decide, by decide, by decide +kernel⟩
theorem i_GR_current : Jvm.Cond.instanceMethod y_GR_current.1 ∈ jTA lw_tbl := jTA_in (wi := 1227) (jtF_ok rfl) rfl
theorem e_GR_current : Jvm.Cond.selects y_GR_current.1.cls y_GR_current.1 y_GR_current.1 ∈ jTA lw_tbl := jTA_in (wi := 24) (jtF_ok rfl) rfl
noncomputable def ak_ZGRcur33 : List jI := [(.aload_n 0, 1, (0, 0, 0, 0, 0)), (.getfield 42, 3, (4, 8, 445, 0, 0)), (.aload_n 0, 1, (0, 0, 0, 0, 0)), (.getfield 39, 3, (4, 7, 444, 0, 0)), (.if_icmp .ge 15, 3, (23, 0, 0, 0, 0)), (.aload_n 0, 1, (0, 0, 0, 0, 0)), (.getfield 32, 3, (4, 5, 442, 0, 0)), (.aload_n 0, 1, (0, 0, 0, 0, 0)), (.getfield 42, 3, (4, 8, 445, 0, 0)), (.baload, 1, (0, 0, 0, 0, 0)), (.goto 4, 3, (24, 0, 0, 0, 0)), (.iconst (-1), 1, (0, 0, 0, (-1), 0)), (.ireturn, 1, (0, 0, 0, 0, 0))]
theorem ao_ZGRcur33 : jokLG jtF lk_GR "ChessHouse$GameReader" jcl jtb 1 prog_8_method_5_code 0 ak_ZGRcur33 = true := by decide +kernel
noncomputable def zm_GRcur33 : zM := (some .int, { frames := 0, cells := 0, slots := 0, locals := 0 }, ([], []), [], ak_ZGRcur33)
noncomputable def zc_GRcur33 (vals : List zv) (W : zW) (post : zPo) : Prop := vals = [.inr (.inr (some (.inl 9)))] ∧ (zTrq 33 W ∧ zGp W) ∧ ∀ r : Int, ((zGa W < zGN W ∧ r = zGX W (zGa W)) ∨ (zGN W ≤ zGa W ∧ r = -1)) → post (some (.inl r)) W
set_option maxRecDepth 8000 in
theorem zp_GRcur33_0 {n K : Nat} {W : zW} {post : zPo}  (hK : 12 ≤ K) (hn : 142 ≤ n) (h : (((zTr 33 W).1 9 7) ≤ ((zTr 33 W).1 9 8) → post (some (.inl (-1))) (zTr 33 W)) ∧ (¬ ((zTr 33 W).1 9 7) ≤ ((zTr 33 W).1 9 8) → (0 ≤ ((zTr 33 W).1 9 8) ∧ ((zTr 33 W).1 9 8) < 65537) ∧ post (some (.inl ((zTr 33 W).2.1 1 ((zTr 33 W).1 9 8)))) (zTr 33 W))) : zwp jtb zsh n zm_GRcur33 post K (lGo ak_ZGRcur33 0) 0 [some (.inr (.inr (some (.inl 9))))] [] (zTr 33 W) := by
  obtain ⟨kk__, rfl⟩ : ∃ kk__, K = kk__ + 12 := ⟨K - 12, by omega⟩
  exact (show 9 < n ∧ 4 = 4 ∧ 9 < n ∧ 4 = 4 ∧ (((zTr 33 W).1 9 7) ≤ ((zTr 33 W).1 9 8) → 1 = 1 ∧ True ∧ post (some (.inl (-1))) (zTr 33 W)) ∧ (¬ ((zTr 33 W).1 9 7) ≤ ((zTr 33 W).1 9 8) → 9 < n ∧ 4 = 4 ∧ 9 < n ∧ 4 = 4 ∧ 1 < n ∧ FieldType.byte = FieldType.byte ∧ (0 ≤ ((zTr 33 W).1 9 8) ∧ ((zTr 33 W).1 9 8) < 65537) ∧ 1 = 1 ∧ True ∧ post (some (.inl ((zTr 33 W).2.1 1 ((zTr 33 W).1 9 8)))) (zTr 33 W)) from ⟨(Nat.lt_of_lt_of_le (by decide) hn), rfl, ⟨(Nat.lt_of_lt_of_le (by decide) hn), rfl, ⟨fun c8_4 => ⟨rfl, trivial, ((h).1 c8_4)⟩, fun c8_4 => ⟨(Nat.lt_of_lt_of_le (by decide) hn), rfl, ⟨(Nat.lt_of_lt_of_le (by decide) hn), rfl, ⟨(Nat.lt_of_lt_of_le (by decide) hn), rfl, (((h).2 c8_4)).1, ⟨rfl, trivial, (((h).2 c8_4)).2⟩⟩⟩⟩⟩⟩⟩)
theorem zk_GRcur33 {l : Launch} {E : jE} {n : Nat} (hn : 142 ≤ n) : zHas l E jcl jtb lw_tbl zsh n (y_GR_current, false, 1, 4, { frames := 0, cells := 0, slots := 0, locals := 0 }, zc_GRcur33) := by
  refine ⟨⟨rfl, rfl, ⟨show 1 ≤ 1 by decide, m_GR_current, i_GR_current, e_GR_current, fun _ => ⟨_, rfl, rfl⟩⟩⟩, ?_⟩
  rintro vz W po hO hW ⟨rfl, hq, hp⟩
  refine zmet (m := zm_GRcur33) rfl (by decide) (fun _ _ => jtF_ok) lo_GR ao_ZGRcur33 jC (fun q h => by cases h) (fun q h => by cases h) (fun q h => by cases h) (Nat.le_of_ble_eq_true rfl) hO hW (60) ?_
  rw [← zTr_e hq.1] at hp ⊢
  have hq2 : zGp (zTr 33 W) := hq.2
  have h1 := hq2.1
  have h2 := hq2.2
  exact zp_GRcur33_0 (by omega) hn ⟨fun c8 => (hp _ (by unfold zGa zGN zGX; first | exact Or.inr ⟨by omega, rfl⟩ | exact Or.inl ⟨by omega, by show (zTr 33 W).2.1 1 ((zTr 33 W).1 9 8) = (zTr 33 W).2.1 1 ((zTr 33 W).1 9 6 + ((zTr 33 W).1 9 8 - (zTr 33 W).1 9 6)); rw [show (zTr 33 W).1 9 6 + ((zTr 33 W).1 9 8 - (zTr 33 W).1 9 6) = (zTr 33 W).1 9 8 by omega]⟩)), fun c8 => ⟨(by omega), (hp _ (by unfold zGa zGN zGX; first | exact Or.inr ⟨by omega, rfl⟩ | exact Or.inl ⟨by omega, by show (zTr 33 W).2.1 1 ((zTr 33 W).1 9 8) = (zTr 33 W).2.1 1 ((zTr 33 W).1 9 6 + ((zTr 33 W).1 9 8 - (zTr 33 W).1 9 6)); rw [show (zTr 33 W).1 9 6 + ((zTr 33 W).1 9 8 - (zTr 33 W).1 9 6) = (zTr 33 W).1 9 8 by omega]⟩))⟩⟩
noncomputable def y_GR_skipBlanks : jY := (⟨"ChessHouse$GameReader", "skipBlanks", "()V"⟩, prog_8_method_6_code, 1, none)
theorem m_GR_skipBlanks : jmth lw_tbl y_GR_skipBlanks 0 := ⟨jTA_in (wi := 1224) (jtF_ok rfl) rfl, jTA_in (wi := 306) (jtF_ok rfl) rfl, by decide, by decide, by decide +kernel⟩
theorem i_GR_skipBlanks : Jvm.Cond.instanceMethod y_GR_skipBlanks.1 ∈ jTA lw_tbl := jTA_in (wi := 1223) (jtF_ok rfl) rfl
theorem e_GR_skipBlanks : Jvm.Cond.selects y_GR_skipBlanks.1.cls y_GR_skipBlanks.1 y_GR_skipBlanks.1 ∈ jTA lw_tbl := jTA_in (wi := 23) (jtF_ok rfl) rfl
noncomputable def ak_ZGRskp33 : List jI := [(.aload_n 0, 1, (0, 0, 0, 0, 0)), (.getfield 42, 3, (4, 8, 445, 0, 0)), (.aload_n 0, 1, (0, 0, 0, 0, 0)), (.getfield 39, 3, (4, 7, 444, 0, 0)), (.if_icmp .ge 44, 3, (52, 0, 0, 0, 0)), (.aload_n 0, 1, (0, 0, 0, 0, 0)), (.getfield 32, 3, (4, 5, 442, 0, 0)), (.aload_n 0, 1, (0, 0, 0, 0, 0)), (.getfield 42, 3, (4, 8, 445, 0, 0)), (.baload, 1, (0, 0, 0, 0, 0)), (.bipush 32, 2, (0, 0, 0, 32, 0)), (.if_icmp .eq 17, 3, (39, 0, 0, 0, 0)), (.aload_n 0, 1, (0, 0, 0, 0, 0)), (.getfield 32, 3, (4, 5, 442, 0, 0)), (.aload_n 0, 1, (0, 0, 0, 0, 0)), (.getfield 42, 3, (4, 8, 445, 0, 0)), (.baload, 1, (0, 0, 0, 0, 0)), (.bipush 10, 2, (0, 0, 0, 10, 0)), (.if_icmp .ne 16, 3, (52, 0, 0, 0, 0)), (.aload_n 0, 1, (0, 0, 0, 0, 0)), (.dup, 1, (0, 0, 0, 0, 0)), (.getfield 42, 3, (4, 8, 445, 0, 0)), (.iconst 1, 1, (0, 0, 0, 1, 0)), (.iadd, 1, (0, 0, 0, 0, 0)), (.putfield 42, 3, (4, 8, 445, 0, 0)), (.goto (-49), 3, (0, 0, 0, 0, 0)), (.return_, 1, (0, 0, 0, 0, 0))]
theorem ao_ZGRskp33 : jokLG jtF lk_GR "ChessHouse$GameReader" jcl jtb 1 prog_8_method_6_code 0 ak_ZGRskp33 = true := by decide +kernel
noncomputable def zm_GRskp33 : zM := (none, { frames := 0, cells := 0, slots := 0, locals := 0 }, ([], []), [], ak_ZGRskp33)
noncomputable def zc_GRskp33 (vals : List zv) (W : zW) (post : zPo) : Prop := vals = [.inr (.inr (some (.inl 9)))] ∧ (zTrq 33 W ∧ zGp W) ∧ ∀ V : zW, (zFr [(9, 8)] [] W V ∧ zGp V ∧ xBs (zGX W) (zGN W) (zGa W) (zGa V)) → post none V
set_option maxRecDepth 8000 in
theorem zp_GRskp33_0 {n K : Nat} {V : zW} {post : zPo}  (hK : 26 ≤ K) (hn : 142 ≤ n) (h : (((zTr 33 V).1 9 7) ≤ ((zTr 33 V).1 9 8) → post none (zTr 33 V)) ∧ (¬ ((zTr 33 V).1 9 7) ≤ ((zTr 33 V).1 9 8) → (0 ≤ ((zTr 33 V).1 9 8) ∧ ((zTr 33 V).1 9 8) < 65537) ∧ (((zTr 33 V).2.1 1 ((zTr 33 V).1 9 8)) = 32 → (-2147483648 ≤ ((zTr 33 V).1 9 8) + 1 ∧ ((zTr 33 V).1 9 8) + 1 ≤ 2147483647) ∧ zwp jtb zsh n zm_GRskp33 post (K - 19) (lGo ak_ZGRskp33 0) 0 [some (.inr (.inr (some (.inl 9))))] [] (zuF (zTr 33 V) 9 8 (((zTr 33 V).1 9 8) + 1))) ∧ (¬ ((zTr 33 V).2.1 1 ((zTr 33 V).1 9 8)) = 32 → (0 ≤ ((zTr 33 V).1 9 8) ∧ ((zTr 33 V).1 9 8) < 65537) ∧ (¬ ((zTr 33 V).2.1 1 ((zTr 33 V).1 9 8)) = 10 → post none (zTr 33 V)) ∧ (((zTr 33 V).2.1 1 ((zTr 33 V).1 9 8)) = 10 → (-2147483648 ≤ ((zTr 33 V).1 9 8) + 1 ∧ ((zTr 33 V).1 9 8) + 1 ≤ 2147483647) ∧ zwp jtb zsh n zm_GRskp33 post (K - 26) (lGo ak_ZGRskp33 0) 0 [some (.inr (.inr (some (.inl 9))))] [] (zuF (zTr 33 V) 9 8 (((zTr 33 V).1 9 8) + 1)))))) : zwp jtb zsh n zm_GRskp33 post K (lGo ak_ZGRskp33 0) 0 [some (.inr (.inr (some (.inl 9))))] [] (zTr 33 V) := by
  obtain ⟨kk__, rfl⟩ : ∃ kk__, K = kk__ + 26 := ⟨K - 26, by omega⟩
  exact (show 9 < n ∧ 4 = 4 ∧ 9 < n ∧ 4 = 4 ∧ (((zTr 33 V).1 9 7) ≤ ((zTr 33 V).1 9 8) → 1 = 1 ∧ (none : Option FieldType) = none ∧ post none (zTr 33 V)) ∧ (¬ ((zTr 33 V).1 9 7) ≤ ((zTr 33 V).1 9 8) → 9 < n ∧ 4 = 4 ∧ 9 < n ∧ 4 = 4 ∧ 1 < n ∧ FieldType.byte = FieldType.byte ∧ (0 ≤ ((zTr 33 V).1 9 8) ∧ ((zTr 33 V).1 9 8) < 65537) ∧ (((zTr 33 V).2.1 1 ((zTr 33 V).1 9 8)) = 32 → 9 < n ∧ 4 = 4 ∧ (-2147483648 ≤ ((zTr 33 V).1 9 8) + 1 ∧ ((zTr 33 V).1 9 8) + 1 ≤ 2147483647) ∧ 9 < n ∧ 4 = 4 ∧ (some 0 : Option Nat) = some 0 ∧ ((0 : Nat) = 0 ∨ ((0 : Nat) = 1 ∧ ((((zTr 33 V).1 9 8) + 1) = 0 ∨ (((zTr 33 V).1 9 8) + 1) = 1))) ∧ zwp jtb zsh n zm_GRskp33 post (kk__ + 7) (lGo ak_ZGRskp33 0) 0 [some (.inr (.inr (some (.inl 9))))] [] (zuF (zTr 33 V) 9 8 (((zTr 33 V).1 9 8) + 1))) ∧ (¬ ((zTr 33 V).2.1 1 ((zTr 33 V).1 9 8)) = 32 → 9 < n ∧ 4 = 4 ∧ 9 < n ∧ 4 = 4 ∧ 1 < n ∧ FieldType.byte = FieldType.byte ∧ (0 ≤ ((zTr 33 V).1 9 8) ∧ ((zTr 33 V).1 9 8) < 65537) ∧ (¬ ((zTr 33 V).2.1 1 ((zTr 33 V).1 9 8)) = 10 → 1 = 1 ∧ (none : Option FieldType) = none ∧ post none (zTr 33 V)) ∧ (((zTr 33 V).2.1 1 ((zTr 33 V).1 9 8)) = 10 → 9 < n ∧ 4 = 4 ∧ (-2147483648 ≤ ((zTr 33 V).1 9 8) + 1 ∧ ((zTr 33 V).1 9 8) + 1 ≤ 2147483647) ∧ 9 < n ∧ 4 = 4 ∧ (some 0 : Option Nat) = some 0 ∧ ((0 : Nat) = 0 ∨ ((0 : Nat) = 1 ∧ ((((zTr 33 V).1 9 8) + 1) = 0 ∨ (((zTr 33 V).1 9 8) + 1) = 1))) ∧ zwp jtb zsh n zm_GRskp33 post (kk__ + 0) (lGo ak_ZGRskp33 0) 0 [some (.inr (.inr (some (.inl 9))))] [] (zuF (zTr 33 V) 9 8 (((zTr 33 V).1 9 8) + 1))))) from ⟨(Nat.lt_of_lt_of_le (by decide) hn), rfl, ⟨(Nat.lt_of_lt_of_le (by decide) hn), rfl, ⟨fun c8_4 => ⟨rfl, rfl, ((h).1 c8_4)⟩, fun c8_4 => ⟨(Nat.lt_of_lt_of_le (by decide) hn), rfl, ⟨(Nat.lt_of_lt_of_le (by decide) hn), rfl, ⟨(Nat.lt_of_lt_of_le (by decide) hn), rfl, (((h).2 c8_4)).1, ⟨fun c22_11 => (have h := (((((h).2 c8_4)).2).1 c22_11); ⟨(Nat.lt_of_lt_of_le (by decide) hn), rfl, ⟨(h).1, ⟨(Nat.lt_of_lt_of_le (by decide) hn), rfl, rfl, (Or.inl rfl), (h).2⟩⟩⟩), fun c22_11 => (have h := (((((h).2 c8_4)).2).2 c22_11); ⟨(Nat.lt_of_lt_of_le (by decide) hn), rfl, ⟨(Nat.lt_of_lt_of_le (by decide) hn), rfl, ⟨(Nat.lt_of_lt_of_le (by decide) hn), rfl, (h).1, ⟨fun c36_18 => ⟨rfl, rfl, (((h).2).1 c36_18)⟩, fun c36_18 => ⟨(Nat.lt_of_lt_of_le (by decide) hn), rfl, ⟨((((h).2).2 c36_18)).1, ⟨(Nat.lt_of_lt_of_le (by decide) hn), rfl, rfl, (Or.inl rfl), ((((h).2).2 c36_18)).2⟩⟩⟩⟩⟩⟩⟩)⟩⟩⟩⟩⟩⟩⟩)
set_option maxRecDepth 100000 in
theorem zk_GRskp33 {l : Launch} {E : jE} {n : Nat} (hn : 142 ≤ n) : zHas l E jcl jtb lw_tbl zsh n (y_GR_skipBlanks, false, 1, 4, { frames := 0, cells := 0, slots := 0, locals := 0 }, zc_GRskp33) := by
  refine ⟨⟨rfl, rfl, ⟨show 1 ≤ 1 by decide, m_GR_skipBlanks, i_GR_skipBlanks, e_GR_skipBlanks, fun _ => ⟨_, rfl, rfl⟩⟩⟩, ?_⟩
  rintro vz W po hO hW ⟨rfl, hq, hp⟩
  refine zmet (m := zm_GRskp33) rfl (by decide) (fun _ _ => jtF_ok) lo_GR ao_ZGRskp33 jC (fun q h => by cases h) (fun q h => by cases h) (fun q h => by cases h) (Nat.le_of_ble_eq_true rfl) hO hW (8000000) ?_
  have q0 := hq.1
  have hG0 : zGp W := hq.2
  have b0 := hG0.1
  have lp : ∀ (m K : Nat) (V : zW), 60 * m + 60 ≤ K → W.1 9 7 - V.1 9 8 < m → zFr [(9, 8)] [] W V → zGp V → W.1 9 8 ≤ V.1 9 8 → (∀ t, W.1 9 8 ≤ t → t < V.1 9 8 → xBn (W.2.1 1 t)) → zwp jtb zsh n zm_GRskp33 po K (lGo ak_ZGRskp33 0) 0 [some (.inr (.inr (some (.inl 9))))] [] V := by
    intro m
    induction m with
    | zero =>
      intro K V hK hm hV hG h0 hI
      have := hG.1
      have := zFr_f hV 9 7
      omega
    | succ m ih =>
      intro K V hK hm hV hG h0 hI
      have eV : zTr 33 V = V := zTr_e (zTrq_f hV q0)
      rw [← eV] at hV hG h0 hI hm ⊢
      have e7 := zFr_f hV 9 7
      have e6 := zFr_f hV 9 6
      have g1 := hG.1
      have g2 := hG.2
      have fin : (W.1 9 7 ≤ (zTr 33 V).1 9 8 ∨ ¬ xBn ((zTr 33 V).2.1 1 ((zTr 33 V).1 9 8))) → xBs (zGX W) (zGN W) (zGa W) (zGa (zTr 33 V)) := by
        intro hor
        unfold zGX zGN zGa
        refine ⟨by omega, fun t a d => hI (W.1 9 6 + t) (by omega) (by omega), ?_⟩
        rcases hor with z | z
        · exact Or.inl (by omega)
        · right
          rw [zFr_r hV 1] at z
          show ¬ xBn (W.2.1 1 (W.1 9 6 + ((zTr 33 V).1 9 8 - (zTr 33 V).1 9 6)))
          rw [show W.1 9 6 + ((zTr 33 V).1 9 8 - (zTr 33 V).1 9 6) = (zTr 33 V).1 9 8 by omega]
          exact z
      exact zp_GRskp33_0 (by omega) hn ⟨fun c8 => (hp _ ⟨hV, hG, fin (by first | exact Or.inl (by omega) | exact Or.inr (by unfold xBn; omega))⟩), fun c8 => ⟨(by omega), ⟨fun c22 => ⟨(by omega), (ih _ (zuF (zTr 33 V) 9 8 ((zTr 33 V).1 9 8 + 1)) (by omega) (by rw [zuF_1, if_pos ⟨rfl, rfl⟩]; omega) (zFr_F hV (by decide)) ⟨⟨by show 0 ≤ (zTr 33 V).1 9 6; omega, by show (zTr 33 V).1 9 6 ≤ (zTr 33 V).1 9 8 + 1; omega, by show (zTr 33 V).1 9 8 + 1 ≤ (zTr 33 V).1 9 7; omega⟩, by show (zTr 33 V).1 9 7 ≤ 65537; omega⟩ (by rw [zuF_1, if_pos ⟨rfl, rfl⟩]; omega) (fun t a d => if et : t = (zTr 33 V).1 9 8 then (by rw [et, ← zFr_r hV 1]; unfold xBn; omega) else hI t a (by rw [zuF_1, if_pos ⟨rfl, rfl⟩] at d; omega)))⟩, fun c22 => ⟨(by omega), ⟨fun c36 => (hp _ ⟨hV, hG, fin (by first | exact Or.inl (by omega) | exact Or.inr (by unfold xBn; omega))⟩), fun c36 => ⟨(by omega), (ih _ (zuF (zTr 33 V) 9 8 ((zTr 33 V).1 9 8 + 1)) (by omega) (by rw [zuF_1, if_pos ⟨rfl, rfl⟩]; omega) (zFr_F hV (by decide)) ⟨⟨by show 0 ≤ (zTr 33 V).1 9 6; omega, by show (zTr 33 V).1 9 6 ≤ (zTr 33 V).1 9 8 + 1; omega, by show (zTr 33 V).1 9 8 + 1 ≤ (zTr 33 V).1 9 7; omega⟩, by show (zTr 33 V).1 9 7 ≤ 65537; omega⟩ (by rw [zuF_1, if_pos ⟨rfl, rfl⟩]; omega) (fun t a d => if et : t = (zTr 33 V).1 9 8 then (by rw [et, ← zFr_r hV 1]; unfold xBn; omega) else hI t a (by rw [zuF_1, if_pos ⟨rfl, rfl⟩] at d; omega)))⟩⟩⟩⟩⟩⟩
  exact lp 65538 _ W (by omega) (by have := hG0.2; omega) zFr_0 hG0 (by omega) (fun t a d => by omega)
noncomputable def y_GR_pass : jY := (⟨"ChessHouse$GameReader", "pass", "(I)Z"⟩, prog_8_method_7_code, 2, (some .boolean))
theorem m_GR_pass : jmth lw_tbl y_GR_pass 1 := ⟨jTA_in (wi := 1239) (jtF_ok rfl) rfl, jTA_in (wi := 306) (jtF_ok rfl) rfl, by decide, by decide, by decide +kernel⟩
theorem i_GR_pass : Jvm.Cond.instanceMethod y_GR_pass.1 ∈ jTA lw_tbl := jTA_in (wi := 1238) (jtF_ok rfl) rfl
theorem e_GR_pass : Jvm.Cond.selects y_GR_pass.1.cls y_GR_pass.1 y_GR_pass.1 ∈ jTA lw_tbl := jTA_in (wi := 26) (jtF_ok rfl) rfl
noncomputable def ak_ZGRpas33 : List jI := [(.aload_n 0, 1, (0, 0, 0, 0, 0)), (.invokevirtual 63, 3, (0, 0, 1225, 0, 0)), (.iload_n 1, 1, (1, 0, 0, 0, 0)), (.if_icmp .eq 14, 3, (19, 0, 0, 0, 0)), (.aload_n 0, 1, (0, 0, 0, 0, 0)), (.iconst 1, 1, (0, 0, 0, 1, 0)), (.aload_n 0, 1, (0, 0, 0, 0, 0)), (.getfield 42, 3, (4, 8, 445, 0, 0)), (.invokevirtual 86, 3, (1, 0, 1217, 0, 0)), (.iconst 0, 1, (0, 0, 0, 0, 0)), (.ireturn, 1, (0, 0, 0, 0, 0)), (.aload_n 0, 1, (0, 0, 0, 0, 0)), (.dup, 1, (0, 0, 0, 0, 0)), (.getfield 42, 3, (4, 8, 445, 0, 0)), (.iconst 1, 1, (0, 0, 0, 1, 0)), (.iadd, 1, (0, 0, 0, 0, 0)), (.putfield 42, 3, (4, 8, 445, 0, 0)), (.iconst 1, 1, (0, 0, 0, 1, 0)), (.ireturn, 1, (0, 0, 0, 0, 0))]
theorem ao_ZGRpas33 : jokLG jtF lk_GR "ChessHouse$GameReader" jcl jtb 2 prog_8_method_7_code 0 ak_ZGRpas33 = true := by decide +kernel
noncomputable def zm_GRpas33 : zM := (some .boolean, { frames := 1, cells := 0, slots := 0, locals := 22 }, ([(63, 1225, 0), (86, 1217, 1)], []), [(y_GR_current, false, 1, 4, { frames := 0, cells := 0, slots := 0, locals := 0 }, zc_GRcur33), (y_GR_fail, false, 3, 4, { frames := 0, cells := 0, slots := 0, locals := 0 }, zc_GRfail)], ak_ZGRpas33)
noncomputable def zc_GRpas33 (vals : List zv) (W : zW) (post : zPo) : Prop := ∃ x : Int, vals = [.inr (.inr (some (.inl 9))), .inl (x)] ∧ (zTrq 33 W ∧ zGp W ∧ 1 ≤ x) ∧ ∀ r : Int, ∀ V : zW, (zFr [(9, 0), (9, 8), (9, 9)] [] W V ∧ ((r = 1 ∧ (zGa W < zGN W ∧ zGX W (zGa W) = x) ∧ V.1 9 8 = W.1 9 8 + 1 ∧ V.1 9 9 = W.1 9 9) ∨ (r = 0 ∧ ¬ (zGa W < zGN W ∧ zGX W (zGa W) = x) ∧ ¬ V.1 9 9 = 0 ∧ V.1 9 8 = W.1 9 8))) → post (some (.inl r)) V
set_option maxRecDepth 8000 in
theorem zp_GRpas33_0 {n K : Nat} {W : zW} {post : zPo} {x : Int}  (hK : 12 ≤ K) (hn : 142 ≤ n) (h : (zTrq 33 (zTr 33 W) ∧ zGp (zTr 33 W)) ∧ ∀ r1 : Int, ((zGa (zTr 33 W) < zGN (zTr 33 W) ∧ r1 = zGX (zTr 33 W) (zGa (zTr 33 W))) ∨ (zGN (zTr 33 W) ≤ zGa (zTr 33 W) ∧ r1 = -1)) → (r1 = x → (-2147483648 ≤ ((zTr 33 W).1 9 8) + 1 ∧ ((zTr 33 W).1 9 8) + 1 ≤ 2147483647) ∧ post (some (.inl (1))) (zuF (zTr 33 W) 9 8 (((zTr 33 W).1 9 8) + 1))) ∧ (¬ r1 = x → (1 ≤ (1 : Int) ∧ (1 : Int) ≤ 9 ∧ (0 ≤ ((zTr 33 W).1 9 8) ∧ ((zTr 33 W).1 9 8) ≤ 100000) ∧ (0 ≤ (zTr 33 W).1 9 6 ∧ (zTr 33 W).1 9 6 ≤ 100000)) ∧ ∀ W14 : zW, (zFr [(9, 0), (9, 9)] [] (zTr 33 W) W14 ∧ ¬ W14.1 9 9 = 0 ∧ (¬ (zTr 33 W).1 9 9 = 0 → W14.1 9 9 = (zTr 33 W).1 9 9) ∧ ((zTr 33 W).1 9 9 = 0 → W14.1 9 9 = (1 : Int))) → ((zTr 33 W14) = W14) ∧ post (some (.inl (0))) (zTr 33 W14))) : zwp jtb zsh n zm_GRpas33 post K (lGo ak_ZGRpas33 0) 0 [some (.inr (.inr (some (.inl 9)))), some (.inl (x))] [] (zTr 33 W) := by
  obtain ⟨kk__, rfl⟩ : ∃ kk__, K = kk__ + 12 := ⟨K - 12, by omega⟩
  exact (show 3 = 3 ∧ false = false ∧ jin3 63 1225 0 zm_GRpas33.2.2.1.1 = true ∧ lRm zm_GRpas33.2.1 { frames := 0, cells := 0, slots := 0, locals := 0 } 1 = true ∧ Nat.ble 1 1 = true ∧ Nat.ble 0 8 = true ∧ 9 < n ∧ 4 = 4 ∧ Nat.ble 1000 4 = false ∧ zc_GRcur33 [.inr (.inr (some (.inl 9)))] (zTr 33 W) (fun vv__ WW__ => zwp jtb zsh n zm_GRpas33 post (kk__ + 10) (lGo ak_ZGRpas33 4) 4 [some (.inr (.inr (some (.inl 9)))), some (.inl (x))] (vv__.toList ++ []) WW__) from ⟨rfl, rfl, rfl, rfl, rfl, rfl, (Nat.lt_of_lt_of_le (by decide) hn), rfl, rfl, rfl, (h).1, fun r1 hr1 => (show (r1 = x → 9 < n ∧ 4 = 4 ∧ (-2147483648 ≤ ((zTr 33 W).1 9 8) + 1 ∧ ((zTr 33 W).1 9 8) + 1 ≤ 2147483647) ∧ 9 < n ∧ 4 = 4 ∧ (some 0 : Option Nat) = some 0 ∧ ((0 : Nat) = 0 ∨ ((0 : Nat) = 1 ∧ ((((zTr 33 W).1 9 8) + 1) = 0 ∨ (((zTr 33 W).1 9 8) + 1) = 1))) ∧ 1 = 1 ∧ ((1 : Int) = 0 ∨ (1 : Int) = 1) ∧ post (some (.inl (1))) (zuF (zTr 33 W) 9 8 (((zTr 33 W).1 9 8) + 1))) ∧ (¬ r1 = x → 9 < n ∧ 4 = 4 ∧ 3 = 3 ∧ false = false ∧ jin3 86 1217 1 zm_GRpas33.2.2.1.1 = true ∧ lRm zm_GRpas33.2.1 { frames := 0, cells := 0, slots := 0, locals := 0 } 3 = true ∧ Nat.ble 3 3 = true ∧ Nat.ble 0 8 = true ∧ 9 < n ∧ 4 = 4 ∧ Nat.ble 1000 4 = false ∧ zc_GRfail [.inr (.inr (some (.inl 9))), .inl (1), .inl ((zTr 33 W).1 9 8)] (zTr 33 W) (fun vv__ WW__ => zwp jtb zsh n zm_GRpas33 post (kk__ + 3) (lGo ak_ZGRpas33 17) 17 [some (.inr (.inr (some (.inl 9)))), some (.inl (x))] (vv__.toList ++ []) WW__)) from ⟨fun c5_3 => (have h := ((((h).2 r1 hr1)).1 c5_3); ⟨(Nat.lt_of_lt_of_le (by decide) hn), rfl, ⟨(h).1, ⟨(Nat.lt_of_lt_of_le (by decide) hn), rfl, rfl, (Or.inl rfl), ⟨rfl, Or.inr rfl, (h).2⟩⟩⟩⟩), fun c5_3 => (have h := ((((h).2 r1 hr1)).2 c5_3); ⟨(Nat.lt_of_lt_of_le (by decide) hn), rfl, ⟨rfl, rfl, rfl, rfl, rfl, rfl, (Nat.lt_of_lt_of_le (by decide) hn), rfl, rfl, 1, (zTr 33 W).1 9 8, rfl, (h).1, fun W14 hr14 => (show zwp jtb zsh n zm_GRpas33 post (kk__ + 3) (lGo ak_ZGRpas33 17) 17 [some (.inr (.inr (some (.inl 9)))), some (.inl (x))] [] W14 from (Eq.mp (congrArg (fun X__ => zwp jtb zsh n zm_GRpas33 post (kk__ + 3) (lGo ak_ZGRpas33 17) 17 [some (.inr (.inr (some (.inl 9)))), some (.inl (x))] [] X__) (((h).2 W14 hr14)).1) (show 1 = 1 ∧ ((0 : Int) = 0 ∨ (0 : Int) = 1) ∧ post (some (.inl (0))) (zTr 33 W14) from ⟨rfl, Or.inl rfl, (((h).2 W14 hr14)).2⟩)))⟩⟩)⟩)⟩)
theorem zk_GRpas33 {l : Launch} {E : jE} {n : Nat} (hn : 142 ≤ n) : zHas l E jcl jtb lw_tbl zsh n (y_GR_pass, false, 2, 4, { frames := 1, cells := 0, slots := 0, locals := 22 }, zc_GRpas33) := by
  refine ⟨⟨rfl, rfl, ⟨show 1 ≤ 2 by decide, m_GR_pass, i_GR_pass, e_GR_pass, fun _ => ⟨_, rfl, rfl⟩⟩⟩, ?_⟩
  rintro vz W po hO hW ⟨x, rfl, hq, hp⟩
  refine zmet (m := zm_GRpas33) rfl (by decide) (fun _ _ => jtF_ok) lo_GR ao_ZGRpas33 jC (fun q h => by cases h) (aAllc (fun G h => by obtain rfl := Option.some.inj h; exact ql_GR_63) (aAllc (fun G h => by obtain rfl := Option.some.inj h; exact ql_GR_86) (fun q h => by cases h))) (aAllc (zk_GRcur33 hn) (aAllc (zk_GRfail hn) (fun q h => by cases h))) (Nat.le_of_ble_eq_true rfl) hO hW (60) ?_
  rw [← zTr_e hq.1] at hp ⊢
  have hq2 : zGp (zTr 33 W) := hq.2.1
  have h1 := hq2.1
  have h2 := hq2.2
  have h3 := hq.2.2
  have q9 : zTrq 33 (zTr 33 W) := by rw [zTr_e hq.1]; exact hq.1
  have fr9 : ∀ U, zFr [(9, 0), (9, 9)] [] (zTr 33 W) U → zFr [(9, 0), (9, 8), (9, 9)] [] (zTr 33 W) (zTr 33 U) := fun U h => by rw [zTr_e (zTrq_f h q9)]; exact zFr_w h (by decide) (by decide)
  have n9 : ∀ U, zFr [(9, 0), (9, 9)] [] (zTr 33 W) U → ¬ U.1 9 9 = 0 → ¬ (zTr 33 U).1 9 9 = 0 := fun U h z => by rw [zTr_e (zTrq_f h q9)]; exact z
  have f9 : ∀ U, zFr [(9, 0), (9, 9)] [] (zTr 33 W) U → (zTr 33 U).1 9 8 = (zTr 33 W).1 9 8 := fun U h => by rw [zTr_e (zTrq_f h q9)]; exact zFr_f h 9 8
  exact zp_GRpas33_0 (by omega) hn ⟨⟨q9, hq2⟩, fun r1 hr1 => ⟨fun c5 => ⟨(by omega), (hp _ _ ⟨zFr_F zFr_0 (by decide), Or.inl ⟨rfl, (by omega), (by rw [zuF_1, if_pos ⟨rfl, rfl⟩]), rfl⟩⟩)⟩, fun c5 => ⟨⟨by omega, by omega, by omega, by omega⟩, fun W14 hr14 => ⟨(zTr_e (zTrq_f hr14.1 q9)), (hp _ _ ⟨fr9 W14 hr14.1, Or.inr ⟨rfl, (by omega), n9 W14 hr14.1 hr14.2.1, f9 W14 hr14.1⟩⟩)⟩⟩⟩⟩
noncomputable def ak_ZGRcur60 : List jI := ak_ZGRcur33
theorem ao_ZGRcur60 : jokLG jtF lk_GR "ChessHouse$GameReader" jcl jtb 1 prog_8_method_5_code 0 ak_ZGRcur60 = true := ao_ZGRcur33
noncomputable def zm_GRcur60 : zM := (some .int, { frames := 0, cells := 0, slots := 0, locals := 0 }, ([], []), [], ak_ZGRcur60)
noncomputable def zc_GRcur60 (vals : List zv) (W : zW) (post : zPo) : Prop := vals = [.inr (.inr (some (.inl 9)))] ∧ (zTrq 60 W ∧ zGp W) ∧ ∀ r : Int, ((zGa W < zGN W ∧ r = zGX W (zGa W)) ∨ (zGN W ≤ zGa W ∧ r = -1)) → post (some (.inl r)) W
set_option maxRecDepth 8000 in
theorem zp_GRcur60_0 {n K : Nat} {W : zW} {post : zPo}  (hK : 12 ≤ K) (hn : 142 ≤ n) (h : (((zTr 60 W).1 9 7) ≤ ((zTr 60 W).1 9 8) → post (some (.inl (-1))) (zTr 60 W)) ∧ (¬ ((zTr 60 W).1 9 7) ≤ ((zTr 60 W).1 9 8) → (0 ≤ ((zTr 60 W).1 9 8) ∧ ((zTr 60 W).1 9 8) < 65537) ∧ post (some (.inl ((zTr 60 W).2.1 1 ((zTr 60 W).1 9 8)))) (zTr 60 W))) : zwp jtb zsh n zm_GRcur60 post K (lGo ak_ZGRcur60 0) 0 [some (.inr (.inr (some (.inl 9))))] [] (zTr 60 W) := by
  obtain ⟨kk__, rfl⟩ : ∃ kk__, K = kk__ + 12 := ⟨K - 12, by omega⟩
  exact (show 9 < n ∧ 4 = 4 ∧ 9 < n ∧ 4 = 4 ∧ (((zTr 60 W).1 9 7) ≤ ((zTr 60 W).1 9 8) → 1 = 1 ∧ True ∧ post (some (.inl (-1))) (zTr 60 W)) ∧ (¬ ((zTr 60 W).1 9 7) ≤ ((zTr 60 W).1 9 8) → 9 < n ∧ 4 = 4 ∧ 9 < n ∧ 4 = 4 ∧ 1 < n ∧ FieldType.byte = FieldType.byte ∧ (0 ≤ ((zTr 60 W).1 9 8) ∧ ((zTr 60 W).1 9 8) < 65537) ∧ 1 = 1 ∧ True ∧ post (some (.inl ((zTr 60 W).2.1 1 ((zTr 60 W).1 9 8)))) (zTr 60 W)) from ⟨(Nat.lt_of_lt_of_le (by decide) hn), rfl, ⟨(Nat.lt_of_lt_of_le (by decide) hn), rfl, ⟨fun c8_4 => ⟨rfl, trivial, ((h).1 c8_4)⟩, fun c8_4 => ⟨(Nat.lt_of_lt_of_le (by decide) hn), rfl, ⟨(Nat.lt_of_lt_of_le (by decide) hn), rfl, ⟨(Nat.lt_of_lt_of_le (by decide) hn), rfl, (((h).2 c8_4)).1, ⟨rfl, trivial, (((h).2 c8_4)).2⟩⟩⟩⟩⟩⟩⟩)
theorem zk_GRcur60 {l : Launch} {E : jE} {n : Nat} (hn : 142 ≤ n) : zHas l E jcl jtb lw_tbl zsh n (y_GR_current, false, 1, 4, { frames := 0, cells := 0, slots := 0, locals := 0 }, zc_GRcur60) := by
  refine ⟨⟨rfl, rfl, ⟨show 1 ≤ 1 by decide, m_GR_current, i_GR_current, e_GR_current, fun _ => ⟨_, rfl, rfl⟩⟩⟩, ?_⟩
  rintro vz W po hO hW ⟨rfl, hq, hp⟩
  refine zmet (m := zm_GRcur60) rfl (by decide) (fun _ _ => jtF_ok) lo_GR ao_ZGRcur60 jC (fun q h => by cases h) (fun q h => by cases h) (fun q h => by cases h) (Nat.le_of_ble_eq_true rfl) hO hW (60) ?_
  rw [← zTr_e hq.1] at hp ⊢
  have hq2 : zGp (zTr 60 W) := hq.2
  have h1 := hq2.1
  have h2 := hq2.2
  exact zp_GRcur60_0 (by omega) hn ⟨fun c8 => (hp _ (by unfold zGa zGN zGX; first | exact Or.inr ⟨by omega, rfl⟩ | exact Or.inl ⟨by omega, by show (zTr 60 W).2.1 1 ((zTr 60 W).1 9 8) = (zTr 60 W).2.1 1 ((zTr 60 W).1 9 6 + ((zTr 60 W).1 9 8 - (zTr 60 W).1 9 6)); rw [show (zTr 60 W).1 9 6 + ((zTr 60 W).1 9 8 - (zTr 60 W).1 9 6) = (zTr 60 W).1 9 8 by omega]⟩)), fun c8 => ⟨(by omega), (hp _ (by unfold zGa zGN zGX; first | exact Or.inr ⟨by omega, rfl⟩ | exact Or.inl ⟨by omega, by show (zTr 60 W).2.1 1 ((zTr 60 W).1 9 8) = (zTr 60 W).2.1 1 ((zTr 60 W).1 9 6 + ((zTr 60 W).1 9 8 - (zTr 60 W).1 9 6)); rw [show (zTr 60 W).1 9 6 + ((zTr 60 W).1 9 8 - (zTr 60 W).1 9 6) = (zTr 60 W).1 9 8 by omega]⟩))⟩⟩
noncomputable def ak_ZGRskp60 : List jI := ak_ZGRskp33
theorem ao_ZGRskp60 : jokLG jtF lk_GR "ChessHouse$GameReader" jcl jtb 1 prog_8_method_6_code 0 ak_ZGRskp60 = true := ao_ZGRskp33
noncomputable def zm_GRskp60 : zM := (none, { frames := 0, cells := 0, slots := 0, locals := 0 }, ([], []), [], ak_ZGRskp60)
noncomputable def zc_GRskp60 (vals : List zv) (W : zW) (post : zPo) : Prop := vals = [.inr (.inr (some (.inl 9)))] ∧ (zTrq 60 W ∧ zGp W) ∧ ∀ V : zW, (zFr [(9, 8)] [] W V ∧ zGp V ∧ xBs (zGX W) (zGN W) (zGa W) (zGa V)) → post none V
set_option maxRecDepth 8000 in
theorem zp_GRskp60_0 {n K : Nat} {V : zW} {post : zPo}  (hK : 26 ≤ K) (hn : 142 ≤ n) (h : (((zTr 60 V).1 9 7) ≤ ((zTr 60 V).1 9 8) → post none (zTr 60 V)) ∧ (¬ ((zTr 60 V).1 9 7) ≤ ((zTr 60 V).1 9 8) → (0 ≤ ((zTr 60 V).1 9 8) ∧ ((zTr 60 V).1 9 8) < 65537) ∧ (((zTr 60 V).2.1 1 ((zTr 60 V).1 9 8)) = 32 → (-2147483648 ≤ ((zTr 60 V).1 9 8) + 1 ∧ ((zTr 60 V).1 9 8) + 1 ≤ 2147483647) ∧ zwp jtb zsh n zm_GRskp60 post (K - 19) (lGo ak_ZGRskp60 0) 0 [some (.inr (.inr (some (.inl 9))))] [] (zuF (zTr 60 V) 9 8 (((zTr 60 V).1 9 8) + 1))) ∧ (¬ ((zTr 60 V).2.1 1 ((zTr 60 V).1 9 8)) = 32 → (0 ≤ ((zTr 60 V).1 9 8) ∧ ((zTr 60 V).1 9 8) < 65537) ∧ (¬ ((zTr 60 V).2.1 1 ((zTr 60 V).1 9 8)) = 10 → post none (zTr 60 V)) ∧ (((zTr 60 V).2.1 1 ((zTr 60 V).1 9 8)) = 10 → (-2147483648 ≤ ((zTr 60 V).1 9 8) + 1 ∧ ((zTr 60 V).1 9 8) + 1 ≤ 2147483647) ∧ zwp jtb zsh n zm_GRskp60 post (K - 26) (lGo ak_ZGRskp60 0) 0 [some (.inr (.inr (some (.inl 9))))] [] (zuF (zTr 60 V) 9 8 (((zTr 60 V).1 9 8) + 1)))))) : zwp jtb zsh n zm_GRskp60 post K (lGo ak_ZGRskp60 0) 0 [some (.inr (.inr (some (.inl 9))))] [] (zTr 60 V) := by
  obtain ⟨kk__, rfl⟩ : ∃ kk__, K = kk__ + 26 := ⟨K - 26, by omega⟩
  exact (show 9 < n ∧ 4 = 4 ∧ 9 < n ∧ 4 = 4 ∧ (((zTr 60 V).1 9 7) ≤ ((zTr 60 V).1 9 8) → 1 = 1 ∧ (none : Option FieldType) = none ∧ post none (zTr 60 V)) ∧ (¬ ((zTr 60 V).1 9 7) ≤ ((zTr 60 V).1 9 8) → 9 < n ∧ 4 = 4 ∧ 9 < n ∧ 4 = 4 ∧ 1 < n ∧ FieldType.byte = FieldType.byte ∧ (0 ≤ ((zTr 60 V).1 9 8) ∧ ((zTr 60 V).1 9 8) < 65537) ∧ (((zTr 60 V).2.1 1 ((zTr 60 V).1 9 8)) = 32 → 9 < n ∧ 4 = 4 ∧ (-2147483648 ≤ ((zTr 60 V).1 9 8) + 1 ∧ ((zTr 60 V).1 9 8) + 1 ≤ 2147483647) ∧ 9 < n ∧ 4 = 4 ∧ (some 0 : Option Nat) = some 0 ∧ ((0 : Nat) = 0 ∨ ((0 : Nat) = 1 ∧ ((((zTr 60 V).1 9 8) + 1) = 0 ∨ (((zTr 60 V).1 9 8) + 1) = 1))) ∧ zwp jtb zsh n zm_GRskp60 post (kk__ + 7) (lGo ak_ZGRskp60 0) 0 [some (.inr (.inr (some (.inl 9))))] [] (zuF (zTr 60 V) 9 8 (((zTr 60 V).1 9 8) + 1))) ∧ (¬ ((zTr 60 V).2.1 1 ((zTr 60 V).1 9 8)) = 32 → 9 < n ∧ 4 = 4 ∧ 9 < n ∧ 4 = 4 ∧ 1 < n ∧ FieldType.byte = FieldType.byte ∧ (0 ≤ ((zTr 60 V).1 9 8) ∧ ((zTr 60 V).1 9 8) < 65537) ∧ (¬ ((zTr 60 V).2.1 1 ((zTr 60 V).1 9 8)) = 10 → 1 = 1 ∧ (none : Option FieldType) = none ∧ post none (zTr 60 V)) ∧ (((zTr 60 V).2.1 1 ((zTr 60 V).1 9 8)) = 10 → 9 < n ∧ 4 = 4 ∧ (-2147483648 ≤ ((zTr 60 V).1 9 8) + 1 ∧ ((zTr 60 V).1 9 8) + 1 ≤ 2147483647) ∧ 9 < n ∧ 4 = 4 ∧ (some 0 : Option Nat) = some 0 ∧ ((0 : Nat) = 0 ∨ ((0 : Nat) = 1 ∧ ((((zTr 60 V).1 9 8) + 1) = 0 ∨ (((zTr 60 V).1 9 8) + 1) = 1))) ∧ zwp jtb zsh n zm_GRskp60 post (kk__ + 0) (lGo ak_ZGRskp60 0) 0 [some (.inr (.inr (some (.inl 9))))] [] (zuF (zTr 60 V) 9 8 (((zTr 60 V).1 9 8) + 1))))) from ⟨(Nat.lt_of_lt_of_le (by decide) hn), rfl, ⟨(Nat.lt_of_lt_of_le (by decide) hn), rfl, ⟨fun c8_4 => ⟨rfl, rfl, ((h).1 c8_4)⟩, fun c8_4 => ⟨(Nat.lt_of_lt_of_le (by decide) hn), rfl, ⟨(Nat.lt_of_lt_of_le (by decide) hn), rfl, ⟨(Nat.lt_of_lt_of_le (by decide) hn), rfl, (((h).2 c8_4)).1, ⟨fun c22_11 => (have h := (((((h).2 c8_4)).2).1 c22_11); ⟨(Nat.lt_of_lt_of_le (by decide) hn), rfl, ⟨(h).1, ⟨(Nat.lt_of_lt_of_le (by decide) hn), rfl, rfl, (Or.inl rfl), (h).2⟩⟩⟩), fun c22_11 => (have h := (((((h).2 c8_4)).2).2 c22_11); ⟨(Nat.lt_of_lt_of_le (by decide) hn), rfl, ⟨(Nat.lt_of_lt_of_le (by decide) hn), rfl, ⟨(Nat.lt_of_lt_of_le (by decide) hn), rfl, (h).1, ⟨fun c36_18 => ⟨rfl, rfl, (((h).2).1 c36_18)⟩, fun c36_18 => ⟨(Nat.lt_of_lt_of_le (by decide) hn), rfl, ⟨((((h).2).2 c36_18)).1, ⟨(Nat.lt_of_lt_of_le (by decide) hn), rfl, rfl, (Or.inl rfl), ((((h).2).2 c36_18)).2⟩⟩⟩⟩⟩⟩⟩)⟩⟩⟩⟩⟩⟩⟩)
set_option maxRecDepth 100000 in
theorem zk_GRskp60 {l : Launch} {E : jE} {n : Nat} (hn : 142 ≤ n) : zHas l E jcl jtb lw_tbl zsh n (y_GR_skipBlanks, false, 1, 4, { frames := 0, cells := 0, slots := 0, locals := 0 }, zc_GRskp60) := by
  refine ⟨⟨rfl, rfl, ⟨show 1 ≤ 1 by decide, m_GR_skipBlanks, i_GR_skipBlanks, e_GR_skipBlanks, fun _ => ⟨_, rfl, rfl⟩⟩⟩, ?_⟩
  rintro vz W po hO hW ⟨rfl, hq, hp⟩
  refine zmet (m := zm_GRskp60) rfl (by decide) (fun _ _ => jtF_ok) lo_GR ao_ZGRskp60 jC (fun q h => by cases h) (fun q h => by cases h) (fun q h => by cases h) (Nat.le_of_ble_eq_true rfl) hO hW (8000000) ?_
  have q0 := hq.1
  have hG0 : zGp W := hq.2
  have b0 := hG0.1
  have lp : ∀ (m K : Nat) (V : zW), 60 * m + 60 ≤ K → W.1 9 7 - V.1 9 8 < m → zFr [(9, 8)] [] W V → zGp V → W.1 9 8 ≤ V.1 9 8 → (∀ t, W.1 9 8 ≤ t → t < V.1 9 8 → xBn (W.2.1 1 t)) → zwp jtb zsh n zm_GRskp60 po K (lGo ak_ZGRskp60 0) 0 [some (.inr (.inr (some (.inl 9))))] [] V := by
    intro m
    induction m with
    | zero =>
      intro K V hK hm hV hG h0 hI
      have := hG.1
      have := zFr_f hV 9 7
      omega
    | succ m ih =>
      intro K V hK hm hV hG h0 hI
      have eV : zTr 60 V = V := zTr_e (zTrq_f hV q0)
      rw [← eV] at hV hG h0 hI hm ⊢
      have e7 := zFr_f hV 9 7
      have e6 := zFr_f hV 9 6
      have g1 := hG.1
      have g2 := hG.2
      have fin : (W.1 9 7 ≤ (zTr 60 V).1 9 8 ∨ ¬ xBn ((zTr 60 V).2.1 1 ((zTr 60 V).1 9 8))) → xBs (zGX W) (zGN W) (zGa W) (zGa (zTr 60 V)) := by
        intro hor
        unfold zGX zGN zGa
        refine ⟨by omega, fun t a d => hI (W.1 9 6 + t) (by omega) (by omega), ?_⟩
        rcases hor with z | z
        · exact Or.inl (by omega)
        · right
          rw [zFr_r hV 1] at z
          show ¬ xBn (W.2.1 1 (W.1 9 6 + ((zTr 60 V).1 9 8 - (zTr 60 V).1 9 6)))
          rw [show W.1 9 6 + ((zTr 60 V).1 9 8 - (zTr 60 V).1 9 6) = (zTr 60 V).1 9 8 by omega]
          exact z
      exact zp_GRskp60_0 (by omega) hn ⟨fun c8 => (hp _ ⟨hV, hG, fin (by first | exact Or.inl (by omega) | exact Or.inr (by unfold xBn; omega))⟩), fun c8 => ⟨(by omega), ⟨fun c22 => ⟨(by omega), (ih _ (zuF (zTr 60 V) 9 8 ((zTr 60 V).1 9 8 + 1)) (by omega) (by rw [zuF_1, if_pos ⟨rfl, rfl⟩]; omega) (zFr_F hV (by decide)) ⟨⟨by show 0 ≤ (zTr 60 V).1 9 6; omega, by show (zTr 60 V).1 9 6 ≤ (zTr 60 V).1 9 8 + 1; omega, by show (zTr 60 V).1 9 8 + 1 ≤ (zTr 60 V).1 9 7; omega⟩, by show (zTr 60 V).1 9 7 ≤ 65537; omega⟩ (by rw [zuF_1, if_pos ⟨rfl, rfl⟩]; omega) (fun t a d => if et : t = (zTr 60 V).1 9 8 then (by rw [et, ← zFr_r hV 1]; unfold xBn; omega) else hI t a (by rw [zuF_1, if_pos ⟨rfl, rfl⟩] at d; omega)))⟩, fun c22 => ⟨(by omega), ⟨fun c36 => (hp _ ⟨hV, hG, fin (by first | exact Or.inl (by omega) | exact Or.inr (by unfold xBn; omega))⟩), fun c36 => ⟨(by omega), (ih _ (zuF (zTr 60 V) 9 8 ((zTr 60 V).1 9 8 + 1)) (by omega) (by rw [zuF_1, if_pos ⟨rfl, rfl⟩]; omega) (zFr_F hV (by decide)) ⟨⟨by show 0 ≤ (zTr 60 V).1 9 6; omega, by show (zTr 60 V).1 9 6 ≤ (zTr 60 V).1 9 8 + 1; omega, by show (zTr 60 V).1 9 8 + 1 ≤ (zTr 60 V).1 9 7; omega⟩, by show (zTr 60 V).1 9 7 ≤ 65537; omega⟩ (by rw [zuF_1, if_pos ⟨rfl, rfl⟩]; omega) (fun t a d => if et : t = (zTr 60 V).1 9 8 then (by rw [et, ← zFr_r hV 1]; unfold xBn; omega) else hI t a (by rw [zuF_1, if_pos ⟨rfl, rfl⟩] at d; omega)))⟩⟩⟩⟩⟩⟩
  exact lp 65538 _ W (by omega) (by have := hG0.2; omega) zFr_0 hG0 (by omega) (fun t a d => by omega)
noncomputable def ak_ZGRpas60 : List jI := ak_ZGRpas33
theorem ao_ZGRpas60 : jokLG jtF lk_GR "ChessHouse$GameReader" jcl jtb 2 prog_8_method_7_code 0 ak_ZGRpas60 = true := ao_ZGRpas33
noncomputable def zm_GRpas60 : zM := (some .boolean, { frames := 1, cells := 0, slots := 0, locals := 22 }, ([(63, 1225, 0), (86, 1217, 1)], []), [(y_GR_current, false, 1, 4, { frames := 0, cells := 0, slots := 0, locals := 0 }, zc_GRcur60), (y_GR_fail, false, 3, 4, { frames := 0, cells := 0, slots := 0, locals := 0 }, zc_GRfail)], ak_ZGRpas60)
noncomputable def zc_GRpas60 (vals : List zv) (W : zW) (post : zPo) : Prop := ∃ x : Int, vals = [.inr (.inr (some (.inl 9))), .inl (x)] ∧ (zTrq 60 W ∧ zGp W ∧ 1 ≤ x) ∧ ∀ r : Int, ∀ V : zW, (zFr [(9, 0), (9, 8), (9, 9)] [] W V ∧ ((r = 1 ∧ (zGa W < zGN W ∧ zGX W (zGa W) = x) ∧ V.1 9 8 = W.1 9 8 + 1 ∧ V.1 9 9 = W.1 9 9) ∨ (r = 0 ∧ ¬ (zGa W < zGN W ∧ zGX W (zGa W) = x) ∧ ¬ V.1 9 9 = 0 ∧ V.1 9 8 = W.1 9 8))) → post (some (.inl r)) V
set_option maxRecDepth 8000 in
theorem zp_GRpas60_0 {n K : Nat} {W : zW} {post : zPo} {x : Int}  (hK : 12 ≤ K) (hn : 142 ≤ n) (h : (zTrq 60 (zTr 60 W) ∧ zGp (zTr 60 W)) ∧ ∀ r1 : Int, ((zGa (zTr 60 W) < zGN (zTr 60 W) ∧ r1 = zGX (zTr 60 W) (zGa (zTr 60 W))) ∨ (zGN (zTr 60 W) ≤ zGa (zTr 60 W) ∧ r1 = -1)) → (r1 = x → (-2147483648 ≤ ((zTr 60 W).1 9 8) + 1 ∧ ((zTr 60 W).1 9 8) + 1 ≤ 2147483647) ∧ post (some (.inl (1))) (zuF (zTr 60 W) 9 8 (((zTr 60 W).1 9 8) + 1))) ∧ (¬ r1 = x → (1 ≤ (1 : Int) ∧ (1 : Int) ≤ 9 ∧ (0 ≤ ((zTr 60 W).1 9 8) ∧ ((zTr 60 W).1 9 8) ≤ 100000) ∧ (0 ≤ (zTr 60 W).1 9 6 ∧ (zTr 60 W).1 9 6 ≤ 100000)) ∧ ∀ W14 : zW, (zFr [(9, 0), (9, 9)] [] (zTr 60 W) W14 ∧ ¬ W14.1 9 9 = 0 ∧ (¬ (zTr 60 W).1 9 9 = 0 → W14.1 9 9 = (zTr 60 W).1 9 9) ∧ ((zTr 60 W).1 9 9 = 0 → W14.1 9 9 = (1 : Int))) → ((zTr 60 W14) = W14) ∧ post (some (.inl (0))) (zTr 60 W14))) : zwp jtb zsh n zm_GRpas60 post K (lGo ak_ZGRpas60 0) 0 [some (.inr (.inr (some (.inl 9)))), some (.inl (x))] [] (zTr 60 W) := by
  obtain ⟨kk__, rfl⟩ : ∃ kk__, K = kk__ + 12 := ⟨K - 12, by omega⟩
  exact (show 3 = 3 ∧ false = false ∧ jin3 63 1225 0 zm_GRpas60.2.2.1.1 = true ∧ lRm zm_GRpas60.2.1 { frames := 0, cells := 0, slots := 0, locals := 0 } 1 = true ∧ Nat.ble 1 1 = true ∧ Nat.ble 0 8 = true ∧ 9 < n ∧ 4 = 4 ∧ Nat.ble 1000 4 = false ∧ zc_GRcur60 [.inr (.inr (some (.inl 9)))] (zTr 60 W) (fun vv__ WW__ => zwp jtb zsh n zm_GRpas60 post (kk__ + 10) (lGo ak_ZGRpas60 4) 4 [some (.inr (.inr (some (.inl 9)))), some (.inl (x))] (vv__.toList ++ []) WW__) from ⟨rfl, rfl, rfl, rfl, rfl, rfl, (Nat.lt_of_lt_of_le (by decide) hn), rfl, rfl, rfl, (h).1, fun r1 hr1 => (show (r1 = x → 9 < n ∧ 4 = 4 ∧ (-2147483648 ≤ ((zTr 60 W).1 9 8) + 1 ∧ ((zTr 60 W).1 9 8) + 1 ≤ 2147483647) ∧ 9 < n ∧ 4 = 4 ∧ (some 0 : Option Nat) = some 0 ∧ ((0 : Nat) = 0 ∨ ((0 : Nat) = 1 ∧ ((((zTr 60 W).1 9 8) + 1) = 0 ∨ (((zTr 60 W).1 9 8) + 1) = 1))) ∧ 1 = 1 ∧ ((1 : Int) = 0 ∨ (1 : Int) = 1) ∧ post (some (.inl (1))) (zuF (zTr 60 W) 9 8 (((zTr 60 W).1 9 8) + 1))) ∧ (¬ r1 = x → 9 < n ∧ 4 = 4 ∧ 3 = 3 ∧ false = false ∧ jin3 86 1217 1 zm_GRpas60.2.2.1.1 = true ∧ lRm zm_GRpas60.2.1 { frames := 0, cells := 0, slots := 0, locals := 0 } 3 = true ∧ Nat.ble 3 3 = true ∧ Nat.ble 0 8 = true ∧ 9 < n ∧ 4 = 4 ∧ Nat.ble 1000 4 = false ∧ zc_GRfail [.inr (.inr (some (.inl 9))), .inl (1), .inl ((zTr 60 W).1 9 8)] (zTr 60 W) (fun vv__ WW__ => zwp jtb zsh n zm_GRpas60 post (kk__ + 3) (lGo ak_ZGRpas60 17) 17 [some (.inr (.inr (some (.inl 9)))), some (.inl (x))] (vv__.toList ++ []) WW__)) from ⟨fun c5_3 => (have h := ((((h).2 r1 hr1)).1 c5_3); ⟨(Nat.lt_of_lt_of_le (by decide) hn), rfl, ⟨(h).1, ⟨(Nat.lt_of_lt_of_le (by decide) hn), rfl, rfl, (Or.inl rfl), ⟨rfl, Or.inr rfl, (h).2⟩⟩⟩⟩), fun c5_3 => (have h := ((((h).2 r1 hr1)).2 c5_3); ⟨(Nat.lt_of_lt_of_le (by decide) hn), rfl, ⟨rfl, rfl, rfl, rfl, rfl, rfl, (Nat.lt_of_lt_of_le (by decide) hn), rfl, rfl, 1, (zTr 60 W).1 9 8, rfl, (h).1, fun W14 hr14 => (show zwp jtb zsh n zm_GRpas60 post (kk__ + 3) (lGo ak_ZGRpas60 17) 17 [some (.inr (.inr (some (.inl 9)))), some (.inl (x))] [] W14 from (Eq.mp (congrArg (fun X__ => zwp jtb zsh n zm_GRpas60 post (kk__ + 3) (lGo ak_ZGRpas60 17) 17 [some (.inr (.inr (some (.inl 9)))), some (.inl (x))] [] X__) (((h).2 W14 hr14)).1) (show 1 = 1 ∧ ((0 : Int) = 0 ∨ (0 : Int) = 1) ∧ post (some (.inl (0))) (zTr 60 W14) from ⟨rfl, Or.inl rfl, (((h).2 W14 hr14)).2⟩)))⟩⟩)⟩)⟩)
theorem zk_GRpas60 {l : Launch} {E : jE} {n : Nat} (hn : 142 ≤ n) : zHas l E jcl jtb lw_tbl zsh n (y_GR_pass, false, 2, 4, { frames := 1, cells := 0, slots := 0, locals := 22 }, zc_GRpas60) := by
  refine ⟨⟨rfl, rfl, ⟨show 1 ≤ 2 by decide, m_GR_pass, i_GR_pass, e_GR_pass, fun _ => ⟨_, rfl, rfl⟩⟩⟩, ?_⟩
  rintro vz W po hO hW ⟨x, rfl, hq, hp⟩
  refine zmet (m := zm_GRpas60) rfl (by decide) (fun _ _ => jtF_ok) lo_GR ao_ZGRpas60 jC (fun q h => by cases h) (aAllc (fun G h => by obtain rfl := Option.some.inj h; exact ql_GR_63) (aAllc (fun G h => by obtain rfl := Option.some.inj h; exact ql_GR_86) (fun q h => by cases h))) (aAllc (zk_GRcur60 hn) (aAllc (zk_GRfail hn) (fun q h => by cases h))) (Nat.le_of_ble_eq_true rfl) hO hW (60) ?_
  rw [← zTr_e hq.1] at hp ⊢
  have hq2 : zGp (zTr 60 W) := hq.2.1
  have h1 := hq2.1
  have h2 := hq2.2
  have h3 := hq.2.2
  have q9 : zTrq 60 (zTr 60 W) := by rw [zTr_e hq.1]; exact hq.1
  have fr9 : ∀ U, zFr [(9, 0), (9, 9)] [] (zTr 60 W) U → zFr [(9, 0), (9, 8), (9, 9)] [] (zTr 60 W) (zTr 60 U) := fun U h => by rw [zTr_e (zTrq_f h q9)]; exact zFr_w h (by decide) (by decide)
  have n9 : ∀ U, zFr [(9, 0), (9, 9)] [] (zTr 60 W) U → ¬ U.1 9 9 = 0 → ¬ (zTr 60 U).1 9 9 = 0 := fun U h z => by rw [zTr_e (zTrq_f h q9)]; exact z
  have f9 : ∀ U, zFr [(9, 0), (9, 9)] [] (zTr 60 W) U → (zTr 60 U).1 9 8 = (zTr 60 W).1 9 8 := fun U h => by rw [zTr_e (zTrq_f h q9)]; exact zFr_f h 9 8
  exact zp_GRpas60_0 (by omega) hn ⟨⟨q9, hq2⟩, fun r1 hr1 => ⟨fun c5 => ⟨(by omega), (hp _ _ ⟨zFr_F zFr_0 (by decide), Or.inl ⟨rfl, (by omega), (by rw [zuF_1, if_pos ⟨rfl, rfl⟩]), rfl⟩⟩)⟩, fun c5 => ⟨⟨by omega, by omega, by omega, by omega⟩, fun W14 hr14 => ⟨(zTr_e (zTrq_f hr14.1 q9)), (hp _ _ ⟨fr9 W14 hr14.1, Or.inr ⟨rfl, (by omega), n9 W14 hr14.1 hr14.2.1, f9 W14 hr14.1⟩⟩)⟩⟩⟩⟩
end
