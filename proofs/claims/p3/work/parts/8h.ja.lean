section
/-! a method runs one way: two contracts of it hold together -/
end
section
/-! two pictures of one heap -/
section JB
variable {E : jE} {cl : List vw_C} {σ1 σ2 : Nat → jcell} {n k : Nat} {H : Heap}
end JB
end
section
noncomputable def y_CH_lineStop : jY := (⟨"ChessHouse", "lineStop", "(I)I"⟩, prog_1_method_7_code, 3, (some .int))
theorem m_CH_lineStop : jmth lw_tbl y_CH_lineStop 1 := ⟨jTA_in (wi := 968) (jtF_ok rfl) rfl, jTA_in (wi := 302) (jtF_ok rfl) rfl, by decide, by decide, by decide +kernel⟩
theorem i_CH_lineStop : Jvm.Cond.instanceMethod y_CH_lineStop.1 ∈ jTA lw_tbl := jTA_in (wi := 967) (jtF_ok rfl) rfl
theorem e_CH_lineStop : Jvm.Cond.selects y_CH_lineStop.1.cls y_CH_lineStop.1 y_CH_lineStop.1 ∈ jTA lw_tbl := jTA_in (wi := 4) (jtF_ok rfl) rfl
noncomputable def ak_CHlineStop : List jI := [(.iload_n 1, 1, (1, 0, 0, 0, 0)), (.istore_n 2, 1, (2, 0, 0, 0, 0)), (.iload_n 2, 1, (2, 0, 0, 0, 0)), (.ldc 16, 2, (0, 0, 345, 65536, 0)), (.if_icmp .ge 20, 3, (25, 0, 0, 0, 0)), (.aload_n 0, 1, (0, 0, 0, 0, 0)), (.getfield 10, 3, (0, 0, 813, 0, 0)), (.iload_n 2, 1, (2, 0, 0, 0, 0)), (.baload, 1, (0, 0, 0, 0, 0)), (.bipush 10, 2, (0, 0, 0, 10, 0)), (.if_icmp .eq 9, 3, (25, 0, 0, 0, 0)), (.iinc 2 1, 3, (0, 0, 0, 1, 0)), (.goto (-20), 3, (2, 0, 0, 0, 0)), (.iload_n 2, 1, (2, 0, 0, 0, 0)), (.ireturn, 1, (0, 0, 0, 0, 0))]
theorem ao_CHlineStop : jokLG jtF lk_CH "ChessHouse" jcl jtb 3 prog_1_method_7_code 0 ak_CHlineStop = true := by decide +kernel
noncomputable def zm_WObehind : zM := (some .int, { frames := 0, cells := 0, slots := 0, locals := 0 }, ([], []), [], ak_WObehind)
theorem zp_WObehind_0 {n K : Nat} {W : zW} {post : zPo} {m : Int} (hK : 5 ≤ K) (hn : 142 ≤ n) (h : zwp jtb zsh n zm_WObehind post (K - 5) (lGo ak_WObehind 7) 7 [some (.inr (.inr (some (.inl 4)))), some (.inl (m)), some (.inl (0)), some (.inl (W.1 4 4))] [] (zT W)) : zwp jtb zsh n zm_WObehind post K (lGo ak_WObehind 0) 0 [some (.inr (.inr (some (.inl 4)))), some (.inl (m)), none, none] [] (zT W) := by
  obtain ⟨k, rfl⟩ : ∃ k, K = k + 5 := ⟨K - 5, by omega⟩
  exact (show 4 < n ∧ 2 = 2 ∧ zwp jtb zsh n zm_WObehind post (k + 0) (lGo ak_WObehind 7) 7 [some (.inr (.inr (some (.inl 4)))), some (.inl (m)), some (.inl (0)), some (.inl (W.1 4 4))] [] (zT W) from ⟨(Nat.lt_of_lt_of_le (by decide) hn), rfl, h⟩)
theorem zp_WObehind_7 {n K : Nat} {W : zW} {post : zPo} {m s i : Int} (hK : 18 ≤ K) (hn : 142 ≤ n) (h : ((W.1 4 2) ≤ i → post (some (.inl (-1))) (zT W)) ∧ (¬ (W.1 4 2) ≤ i → (0 ≤ i ∧ i < 65537) ∧ (¬ (W.2.1 1 i) = 32 → zwp jtb zsh n zm_WObehind post (K - 10) (lGo ak_WObehind 38) 38 [some (.inr (.inr (some (.inl 4)))), some (.inl (m)), some (.inl (s)), some (.inl (i))] [] (zT W)) ∧ ((W.2.1 1 i) = 32 → (-2147483648 ≤ s + 1 ∧ s + 1 ≤ 2147483647) ∧ (¬ (s + 1) = m → zwp jtb zsh n zm_WObehind post (K - 14) (lGo ak_WObehind 38) 38 [some (.inr (.inr (some (.inl 4)))), some (.inl (m)), some (.inl (s + 1)), some (.inl (i))] [] (zT W)) ∧ ((s + 1) = m → (-2147483648 ≤ i + 1 ∧ i + 1 ≤ 2147483647) ∧ post (some (.inl (i + 1))) (zT W))))) : zwp jtb zsh n zm_WObehind post K (lGo ak_WObehind 7) 7 [some (.inr (.inr (some (.inl 4)))), some (.inl (m)), some (.inl (s)), some (.inl (i))] [] (zT W) := by
  obtain ⟨k, rfl⟩ : ∃ k, K = k + 18 := ⟨K - 18, by omega⟩
  exact (show 4 < n ∧ 2 = 2 ∧ ((W.1 4 2) ≤ i → 1 = 1 ∧ True ∧ post (some (.inl (-1))) (zT W)) ∧ (¬ (W.1 4 2) ≤ i → 4 < n ∧ 2 = 2 ∧ 1 < n ∧ FieldType.byte = FieldType.byte ∧ (0 ≤ i ∧ i < 65537) ∧ (¬ (W.2.1 1 i) = 32 → zwp jtb zsh n zm_WObehind post (k + 8) (lGo ak_WObehind 38) 38 [some (.inr (.inr (some (.inl 4)))), some (.inl (m)), some (.inl (s)), some (.inl (i))] [] (zT W)) ∧ ((W.2.1 1 i) = 32 → (-2147483648 ≤ s + 1 ∧ s + 1 ≤ 2147483647) ∧ (¬ (s + 1) = m → zwp jtb zsh n zm_WObehind post (k + 4) (lGo ak_WObehind 38) 38 [some (.inr (.inr (some (.inl 4)))), some (.inl (m)), some (.inl (s + 1)), some (.inl (i))] [] (zT W)) ∧ ((s + 1) = m → (-2147483648 ≤ i + 1 ∧ i + 1 ≤ 2147483647) ∧ 1 = 1 ∧ True ∧ post (some (.inl (i + 1))) (zT W)))) from ⟨(Nat.lt_of_lt_of_le (by decide) hn), rfl, ⟨fun hc3 => ⟨rfl, trivial, ((h).1 hc3)⟩, fun hc3 => ⟨(Nat.lt_of_lt_of_le (by decide) hn), rfl, ⟨(Nat.lt_of_lt_of_le (by decide) hn), rfl, (((h).2 hc3)).1, ⟨fun hc9 => (((((h).2 hc3)).2).1 hc9), fun hc9 => (have h := (((((h).2 hc3)).2).2 hc9); ⟨(h).1, ⟨fun hc13 => (((h).2).1 hc13), fun hc13 => ⟨((((h).2).2 hc13)).1, ⟨rfl, trivial, ((((h).2).2 hc13)).2⟩⟩⟩⟩)⟩⟩⟩⟩⟩)
theorem zp_WObehind_38 {n K : Nat} {W : zW} {post : zPo} {m s i : Int} (hK : 2 ≤ K) (hn : 142 ≤ n) (h : (-2147483648 ≤ i + 1 ∧ i + 1 ≤ 2147483647) ∧ zwp jtb zsh n zm_WObehind post (K - 2) (lGo ak_WObehind 7) 7 [some (.inr (.inr (some (.inl 4)))), some (.inl (m)), some (.inl (s)), some (.inl (i + 1))] [] (zT W)) : zwp jtb zsh n zm_WObehind post K (lGo ak_WObehind 38) 38 [some (.inr (.inr (some (.inl 4)))), some (.inl (m)), some (.inl (s)), some (.inl (i))] [] (zT W) := by
  obtain ⟨k, rfl⟩ : ∃ k, K = k + 2 := ⟨K - 2, by omega⟩
  exact (show (-2147483648 ≤ i + 1 ∧ i + 1 ≤ 2147483647) ∧ zwp jtb zsh n zm_WObehind post (k + 0) (lGo ak_WObehind 7) 7 [some (.inr (.inr (some (.inl 4)))), some (.inl (m)), some (.inl (s)), some (.inl (i + 1))] [] (zT W) from ⟨(h).1, (h).2⟩)
noncomputable def zm_CHlineStop : zM := (some .int, { frames := 0, cells := 0, slots := 0, locals := 0 }, ([], []), [], ak_CHlineStop)
theorem zp_CHlineStop_0 {n K : Nat} {W : zW} {post : zPo} {a : Int} (hK : 2 ≤ K) (hn : 142 ≤ n) (h : zwp jtb zsh n zm_CHlineStop post (K - 2) (lGo ak_CHlineStop 2) 2 [some (.inr (.inr (some (.inl 0)))), some (.inl (a)), some (.inl (a))] [] W) : zwp jtb zsh n zm_CHlineStop post K (lGo ak_CHlineStop 0) 0 [some (.inr (.inr (some (.inl 0)))), some (.inl (a)), none] [] W := by
  obtain ⟨k, rfl⟩ : ∃ k, K = k + 2 := ⟨K - 2, by omega⟩
  exact (show zwp jtb zsh n zm_CHlineStop post (k + 0) (lGo ak_CHlineStop 2) 2 [some (.inr (.inr (some (.inl 0)))), some (.inl (a)), some (.inl (a))] [] W from h)
theorem zp_CHlineStop_2 {n K : Nat} {W : zW} {post : zPo} {a i : Int} (hK : 11 ≤ K) (hn : 142 ≤ n) (h : (65536 ≤ i → post (some (.inl (i))) W) ∧ (¬ 65536 ≤ i → (0 ≤ i ∧ i < 65537) ∧ ((W.2.1 1 i) = 10 → post (some (.inl (i))) W) ∧ (¬ (W.2.1 1 i) = 10 → (-2147483648 ≤ i + 1 ∧ i + 1 ≤ 2147483647) ∧ zwp jtb zsh n zm_CHlineStop post (K - 11) (lGo ak_CHlineStop 2) 2 [some (.inr (.inr (some (.inl 0)))), some (.inl (a)), some (.inl (i + 1))] [] W))) : zwp jtb zsh n zm_CHlineStop post K (lGo ak_CHlineStop 2) 2 [some (.inr (.inr (some (.inl 0)))), some (.inl (a)), some (.inl (i))] [] W := by
  obtain ⟨k, rfl⟩ : ∃ k, K = k + 11 := ⟨K - 11, by omega⟩
  exact (show (65536 ≤ i → 1 = 1 ∧ True ∧ post (some (.inl (i))) W) ∧ (¬ 65536 ≤ i → 0 < n ∧ 0 = 0 ∧ 1 < n ∧ FieldType.byte = FieldType.byte ∧ (0 ≤ i ∧ i < 65537) ∧ ((W.2.1 1 i) = 10 → 1 = 1 ∧ True ∧ post (some (.inl (i))) W) ∧ (¬ (W.2.1 1 i) = 10 → (-2147483648 ≤ i + 1 ∧ i + 1 ≤ 2147483647) ∧ zwp jtb zsh n zm_CHlineStop post (k + 0) (lGo ak_CHlineStop 2) 2 [some (.inr (.inr (some (.inl 0)))), some (.inl (a)), some (.inl (i + 1))] [] W)) from ⟨fun hc2 => ⟨rfl, trivial, ((h).1 hc2)⟩, fun hc2 => ⟨(Nat.lt_of_lt_of_le (by decide) hn), rfl, ⟨(Nat.lt_of_lt_of_le (by decide) hn), rfl, (((h).2 hc2)).1, ⟨fun hc8 => (have h := (((((h).2 hc2)).2).1 hc8); ⟨rfl, trivial, h⟩), fun hc8 => (have h := (((((h).2 hc2)).2).2 hc8); ⟨(h).1, (h).2⟩)⟩⟩⟩⟩)
end
section
/-! behind so many spaces; where a line stops: the class -/
/-- what behindSpaces answers -/
noncomputable def xBh (g : Int → Int) (p s m r : Int) : Prop := ∃ c : Nat, (m = c + 1 ∧ (∀ k, k < c + 1 → xwS g p (xb g p s k) < p) ∧ r = xb g p s (c + 1)) ∨ ((c : Int) < m ∧ xWs g p s c ∧ r = -1)
theorem zg_behind {n : Nat} {W : zW} {post : zPo} {m s : Int} (hn : 142 ≤ n) (hm : 1 ≤ m) (hm2 : m ≤ 100) (h0 : 0 ≤ s) (hsp : s ≤ W.1 4 2) (hp : W.1 4 2 ≤ 65536) (hpost : ∀ r : Int, xBh (W.2.1 1) (W.1 4 2) s m r → post (some (.inl r)) (zT W)) : ∀ (f K : Nat) (i : Int) (j : Nat), 60 * f + 60 ≤ K → W.1 4 2 - i ≤ f → s ≤ i → i ≤ W.1 4 2 → (j : Int) < m → (∀ k, k < j → xwS (W.2.1 1) (W.1 4 2) (xb (W.2.1 1) (W.1 4 2) s k) < W.1 4 2) → xwS (W.2.1 1) (W.1 4 2) i = xwS (W.2.1 1) (W.1 4 2) (xb (W.2.1 1) (W.1 4 2) s j) → zwp jtb zsh n zm_WObehind post K (lGo ak_WObehind 7) 7 [some (.inr (.inr (some (.inl 4)))), some (.inl m), some (.inl (j : Int)), some (.inl i)] [] (zT W) := by
  have fin : ∀ (i : Int) (j : Nat), W.1 4 2 ≤ i → i ≤ W.1 4 2 → (j : Int) < m → (∀ k, k < j → xwS (W.2.1 1) (W.1 4 2) (xb (W.2.1 1) (W.1 4 2) s k) < W.1 4 2) → xwS (W.2.1 1) (W.1 4 2) i = xwS (W.2.1 1) (W.1 4 2) (xb (W.2.1 1) (W.1 4 2) s j) → post (some (.inl (-1))) (zT W) := by
    intro i j h1 h2 h3 h4 h5
    refine hpost (-1) ⟨j, Or.inr ⟨h3, ⟨h4, ?_⟩, rfl⟩⟩
    rw [← h5, xwS_0 (Or.inl h1)]
    omega
  intro f
  induction f with
  | zero =>
    intro K i j hK hf i0 i1 hj hk hx
    exact zp_WObehind_7 (by omega) hn ⟨fun h => fin i j h i1 hj hk hx, fun h => absurd (by omega) h⟩
  | succ f ih =>
    intro K i j hK hf i0 i1 hj hk hx
    refine zp_WObehind_7 (by omega) hn ⟨fun h => fin i j h i1 hj hk hx, fun h => ⟨by omega, fun h2 => zp_WObehind_38 (by omega) hn ⟨by omega, ih _ (i + 1) j (by omega) (by omega) (by omega) (by omega) hj hk (by rw [xwS_1 (by omega) h2]; exact hx)⟩, fun h2 => ?_⟩⟩
    have hi : xwS (W.2.1 1) (W.1 4 2) (xb (W.2.1 1) (W.1 4 2) s j) = i := by rw [← hx, xwS_0 (Or.inr h2)]
    have hk2 : ∀ k, k < j + 1 → xwS (W.2.1 1) (W.1 4 2) (xb (W.2.1 1) (W.1 4 2) s k) < W.1 4 2 := by
      intro k hk3
      by_cases e : k = j
      · rw [e, hi]; omega
      · exact hk k (by omega)
    have hb : xb (W.2.1 1) (W.1 4 2) s (j + 1) = i + 1 := by
      show xwS (W.2.1 1) (W.1 4 2) (xb (W.2.1 1) (W.1 4 2) s j) + 1 = i + 1
      rw [hi]
    refine ⟨by omega, fun h3 => zp_WObehind_38 (by omega) hn ⟨by omega, ?_⟩, fun h3 => ⟨by omega, hpost (i + 1) ⟨j, Or.inl ⟨h3.symm, hk2, hb.symm⟩⟩⟩⟩
    exact ih _ (i + 1) (j + 1) (by omega) (by omega) (by omega) (by omega) (by omega) hk2 (by rw [hb])
noncomputable def zc_WObehind (vals : List zv) (W : zW) (post : zPo) : Prop := ∃ (V : zW) (m : Int), vals = [.inr (.inr (some (.inl 4))), .inl m] ∧ W = zT V ∧ 1 ≤ m ∧ m ≤ 100 ∧ 0 ≤ V.1 4 4 ∧ V.1 4 4 ≤ V.1 4 2 ∧ V.1 4 2 ≤ 65536 ∧ ∀ r : Int, xBh (V.2.1 1) (V.1 4 2) (V.1 4 4) m r → post (some (.inl r)) W
theorem zg_lineStop {n : Nat} {W : zW} {post : zPo} {a : Int} (hn : 142 ≤ n) (hpost : post (some (.inl (xcS 10 (W.2.1 1) 65536 a))) W) : ∀ (m K : Nat) (i : Int), 20 * m + 20 ≤ K → 65536 - i ≤ m → 0 ≤ i → i ≤ 65536 → xcS 10 (W.2.1 1) 65536 i = xcS 10 (W.2.1 1) 65536 a → zwp jtb zsh n zm_CHlineStop post K (lGo ak_CHlineStop 2) 2 [some (.inr (.inr (some (.inl 0)))), some (.inl a), some (.inl i)] [] W := by
  intro m
  induction m with
  | zero =>
    intro K i hF hm h0 h1 hx
    refine zp_CHlineStop_2 (by omega) hn ⟨fun h => ?_, fun h => absurd (by omega) h⟩
    rw [← hx, xcS_0 (Or.inl h)] at hpost
    exact hpost
  | succ m ih =>
    intro K i hF hm h0 h1 hx
    refine zp_CHlineStop_2 (by omega) hn ⟨fun h => ?_, fun h => ⟨by omega, fun h2 => ?_, fun h2 => ⟨by omega, ?_⟩⟩⟩
    · rw [← hx, xcS_0 (Or.inl h)] at hpost
      exact hpost
    · rw [← hx, xcS_0 (Or.inr h2)] at hpost
      exact hpost
    · refine ih _ (i + 1) (by omega) (by omega) (by omega) (by omega) ?_
      rw [xcS_1 (by omega) h2]
      exact hx
noncomputable def zc_CHlineStop (vals : List zv) (W : zW) (post : zPo) : Prop := ∃ a : Int, vals = [.inr (.inr (some (.inl 0))), .inl a] ∧ 0 ≤ a ∧ a ≤ 65536 ∧ post (some (.inl (xcS 10 (W.2.1 1) 65536 a))) W
section
variable {l : Launch} {E : jE} {n : Nat}
theorem zk_behind (hn : 142 ≤ n) : zHas l E jcl jtb lw_tbl zsh n (y_WO_behindSpaces, false, 2, 2, { frames := 0, cells := 0, slots := 0, locals := 0 }, zc_WObehind) := by
  refine ⟨⟨rfl, rfl, ⟨show 1 ≤ 2 by decide, m_WO_behindSpaces, i_WO_behindSpaces, e_WO_behindSpaces, fun _ => ⟨_, rfl, rfl⟩⟩⟩, ?_⟩
  rintro vz W po hO hW ⟨V, m, rfl, rfl, h1, h2, h3, h4, h5, hp⟩
  refine zmet (m := zm_WObehind) rfl (by decide) (fun _ _ => jtF_ok) lo_WO ao_WObehind jC (fun q h => by cases h) (fun q h => by cases h) (fun G h => by cases h) (Nat.le_of_ble_eq_true rfl) hO hW (60 * 65536 + 80) ?_
  exact zp_WObehind_0 (by omega) hn (zg_behind hn h1 h2 h3 h4 h5 hp 65536 _ (V.1 4 4) 0 (by omega) (by omega) (by omega) (by omega) (by omega) (fun k hk => absurd hk (Nat.not_lt_zero k)) rfl)
theorem zk_lineStop (hn : 142 ≤ n) : zHas l E jcl jtb lw_tbl zsh n (y_CH_lineStop, false, 2, 0, { frames := 0, cells := 0, slots := 0, locals := 0 }, zc_CHlineStop) := by
  refine ⟨⟨rfl, rfl, ⟨show 1 ≤ 2 by decide, m_CH_lineStop, i_CH_lineStop, e_CH_lineStop, fun _ => ⟨_, rfl, rfl⟩⟩⟩, ?_⟩
  rintro vz W po hO hW ⟨a, rfl, h1, h2, hp⟩
  refine zmet (m := zm_CHlineStop) rfl (by decide) (fun _ _ => jtF_ok) lo_CH ao_CHlineStop jC (fun q h => by cases h) (fun q h => by cases h) (fun G h => by cases h) (Nat.le_of_ble_eq_true rfl) hO hW (20 * 65536 + 40) ?_
  exact zp_CHlineStop_0 (by omega) hn (zg_lineStop hn hp 65536 _ a (by omega) (by omega) h1 h2 rfl)
end
end
section
noncomputable def y_GA_child : jY := (⟨"ChessHouse$Game", "child", "(I)I"⟩, prog_7_method_4_code, 4, (some .int))
theorem m_GA_child : jmth lw_tbl y_GA_child 1 := ⟨jTA_in (wi := 1424) (jtF_ok rfl) rfl, jTA_in (wi := 311) (jtF_ok rfl) rfl, by decide, by decide, by decide +kernel⟩
theorem i_GA_child : Jvm.Cond.instanceMethod y_GA_child.1 ∈ jTA lw_tbl := jTA_in (wi := 1422) (jtF_ok rfl) rfl
theorem e_GA_child : Jvm.Cond.selects y_GA_child.1.cls y_GA_child.1 y_GA_child.1 ∈ jTA lw_tbl := jTA_in (wi := 1423) (jtF_ok rfl) rfl
noncomputable def ak_GAchild : List jI := [(.aload_n 0, 1, (0, 0, 0, 0, 0)), (.getfield 25, 3, (9, 5, 739, 0, 0)), (.aload_n 0, 1, (0, 0, 0, 0, 0)), (.getfield 71, 3, (9, 2, 730, 0, 0)), (.iaload, 1, (0, 0, 0, 0, 0)), (.istore_n 2, 1, (2, 0, 0, 0, 0)), (.iconst 0, 1, (0, 0, 0, 0, 0)), (.istore_n 3, 1, (3, 0, 0, 0, 0)), (.iload_n 3, 1, (3, 0, 0, 0, 0)), (.sipush 300, 3, (0, 0, 0, 300, 0)), (.if_icmp .ge 30, 3, (46, 0, 0, 0, 0)), (.iload_n 2, 1, (2, 0, 0, 0, 0)), (.ifCond .eq 26, 3, (46, 0, 0, 0, 0)), (.aload_n 0, 1, (0, 0, 0, 0, 0)), (.getfield 22, 3, (9, 4, 736, 0, 0)), (.iload_n 2, 1, (2, 0, 0, 0, 0)), (.iaload, 1, (0, 0, 0, 0, 0)), (.iload_n 1, 1, (1, 0, 0, 0, 0)), (.if_icmp .eq 16, 3, (46, 0, 0, 0, 0)), (.aload_n 0, 1, (0, 0, 0, 0, 0)), (.getfield 28, 3, (9, 6, 742, 0, 0)), (.iload_n 2, 1, (2, 0, 0, 0, 0)), (.iaload, 1, (0, 0, 0, 0, 0)), (.istore_n 2, 1, (2, 0, 0, 0, 0)), (.iinc 3 1, 3, (0, 0, 0, 1, 0)), (.goto (-31), 3, (12, 0, 0, 0, 0)), (.iload_n 2, 1, (2, 0, 0, 0, 0)), (.ireturn, 1, (0, 0, 0, 0, 0))]
theorem ao_GAchild : jokLG jtF lk_GA "ChessHouse$Game" jcl jtb 4 prog_7_method_4_code 0 ak_GAchild = true := by decide +kernel
noncomputable def y_GA_goesOn : jY := (⟨"ChessHouse$Game", "goesOn", "(I)Z"⟩, prog_7_method_5_code, 2, (some .boolean))
theorem m_GA_goesOn : jmth lw_tbl y_GA_goesOn 1 := ⟨jTA_in (wi := 1505) (jtF_ok rfl) rfl, jTA_in (wi := 311) (jtF_ok rfl) rfl, by decide, by decide, by decide +kernel⟩
theorem i_GA_goesOn : Jvm.Cond.instanceMethod y_GA_goesOn.1 ∈ jTA lw_tbl := jTA_in (wi := 1503) (jtF_ok rfl) rfl
theorem e_GA_goesOn : Jvm.Cond.selects y_GA_goesOn.1.cls y_GA_goesOn.1 y_GA_goesOn.1 ∈ jTA lw_tbl := jTA_in (wi := 1504) (jtF_ok rfl) rfl
noncomputable def ak_GAgoesOn : List jI := [(.aload_n 0, 1, (0, 0, 0, 0, 0)), (.getfield 25, 3, (9, 5, 739, 0, 0)), (.aload_n 0, 1, (0, 0, 0, 0, 0)), (.getfield 18, 3, (9, 3, 733, 0, 0)), (.iload_n 1, 1, (1, 0, 0, 0, 0)), (.iaload, 1, (0, 0, 0, 0, 0)), (.iaload, 1, (0, 0, 0, 0, 0)), (.iload_n 1, 1, (1, 0, 0, 0, 0)), (.if_icmp .ne 7, 3, (19, 0, 0, 0, 0)), (.iconst 1, 1, (0, 0, 0, 1, 0)), (.goto 4, 3, (20, 0, 0, 0, 0)), (.iconst 0, 1, (0, 0, 0, 0, 0)), (.ireturn, 1, (0, 0, 0, 0, 0))]
theorem ao_GAgoesOn : jokLG jtF lk_GA "ChessHouse$Game" jcl jtb 2 prog_7_method_5_code 0 ak_GAgoesOn = true := by decide +kernel
noncomputable def y_GA_addMark : jY := (⟨"ChessHouse$Game", "addMark", "(I)Z"⟩, prog_7_method_13_code, 2, (some .boolean))
theorem m_GA_addMark : jmth lw_tbl y_GA_addMark 1 := ⟨jTA_in (wi := 1269) (jtF_ok rfl) rfl, jTA_in (wi := 311) (jtF_ok rfl) rfl, by decide, by decide, by decide +kernel⟩
theorem i_GA_addMark : Jvm.Cond.instanceMethod y_GA_addMark.1 ∈ jTA lw_tbl := jTA_in (wi := 1267) (jtF_ok rfl) rfl
theorem e_GA_addMark : Jvm.Cond.selects y_GA_addMark.1.cls y_GA_addMark.1 y_GA_addMark.1 ∈ jTA lw_tbl := jTA_in (wi := 1268) (jtF_ok rfl) rfl
noncomputable def ak_GAaddMark : List jI := [(.aload_n 0, 1, (0, 0, 0, 0, 0)), (.getfield 38, 3, (9, 9, 749, 0, 0)), (.aload_n 0, 1, (0, 0, 0, 0, 0)), (.getfield 71, 3, (9, 2, 730, 0, 0)), (.iaload, 1, (0, 0, 0, 0, 0)), (.iconst 4, 1, (0, 0, 0, 4, 0)), (.if_icmp .ne 5, 3, (15, 0, 0, 0, 0)), (.iconst 0, 1, (0, 0, 0, 0, 0)), (.ireturn, 1, (0, 0, 0, 0, 0)), (.aload_n 0, 1, (0, 0, 0, 0, 0)), (.getfield 35, 3, (9, 8, 747, 0, 0)), (.aload_n 0, 1, (0, 0, 0, 0, 0)), (.getfield 71, 3, (9, 2, 730, 0, 0)), (.iconst 4, 1, (0, 0, 0, 4, 0)), (.imul, 1, (0, 0, 0, 0, 0)), (.aload_n 0, 1, (0, 0, 0, 0, 0)), (.getfield 38, 3, (9, 9, 749, 0, 0)), (.aload_n 0, 1, (0, 0, 0, 0, 0)), (.getfield 71, 3, (9, 2, 730, 0, 0)), (.iaload, 1, (0, 0, 0, 0, 0)), (.iadd, 1, (0, 0, 0, 0, 0)), (.iload_n 1, 1, (1, 0, 0, 0, 0)), (.iastore, 1, (0, 0, 0, 0, 0)), (.aload_n 0, 1, (0, 0, 0, 0, 0)), (.getfield 38, 3, (9, 9, 749, 0, 0)), (.aload_n 0, 1, (0, 0, 0, 0, 0)), (.getfield 71, 3, (9, 2, 730, 0, 0)), (.dup2, 1, (0, 0, 0, 0, 0)), (.iaload, 1, (0, 0, 0, 0, 0)), (.iconst 1, 1, (0, 0, 0, 1, 0)), (.iadd, 1, (0, 0, 0, 0, 0)), (.iastore, 1, (0, 0, 0, 0, 0)), (.iconst 1, 1, (0, 0, 0, 1, 0)), (.ireturn, 1, (0, 0, 0, 0, 0))]
theorem ao_GAaddMark : jokLG jtF lk_GA "ChessHouse$Game" jcl jtb 2 prog_7_method_13_code 0 ak_GAaddMark = true := by decide +kernel
/-! the tree of a game: the class -/
/-- a chain of nodes, 0 at its end -/
noncomputable def xCh (nx : Int → Int) : Int → List Int → Prop
  | a, [] => a = 0
  | a, x :: l => a = x ∧ ¬ x = 0 ∧ xCh nx (nx x) l
/-- the first node of a chain that has a move, or 0 -/
noncomputable def xFd (mv : Int → Int) (m : Int) : List Int → Int
  | [] => 0
  | x :: l => if mv x = m then x else xFd mv m l
noncomputable def zm_child33 : zM := (some .int, { frames := 0, cells := 0, slots := 0, locals := 0 }, ([], []), [], ak_GAchild)
theorem zp_child33_0 {n K : Nat} {W : zW} {post : zPo} {m : Int} (hK : 8 ≤ K) (hn : 142 ≤ n) (h : (0 ≤ (W.1 33 2) ∧ (W.1 33 2) < 301) ∧ zwp jtb zsh n zm_child33 post (K - 8) (lGo ak_GAchild 12) 12 [some (.inr (.inr (some (.inl 33)))), some (.inl (m)), some (.inl (W.2.1 48 (W.1 33 2))), some (.inl (0))] [] W) : zwp jtb zsh n zm_child33 post K (lGo ak_GAchild 0) 0 [some (.inr (.inr (some (.inl 33)))), some (.inl (m)), none, none] [] W := by
  obtain ⟨k, rfl⟩ : ∃ k, K = k + 8 := ⟨K - 8, by omega⟩
  exact (show 33 < n ∧ 9 = 9 ∧ 33 < n ∧ 9 = 9 ∧ 48 < n ∧ FieldType.int = FieldType.int ∧ (0 ≤ (W.1 33 2) ∧ (W.1 33 2) < 301) ∧ zwp jtb zsh n zm_child33 post (k + 0) (lGo ak_GAchild 12) 12 [some (.inr (.inr (some (.inl 33)))), some (.inl (m)), some (.inl (W.2.1 48 (W.1 33 2))), some (.inl (0))] [] W from ⟨(Nat.lt_of_lt_of_le (by decide) hn), rfl, ⟨(Nat.lt_of_lt_of_le (by decide) hn), rfl, ⟨(Nat.lt_of_lt_of_le (by decide) hn), rfl, (h).1, (h).2⟩⟩⟩)
theorem zp_child33_12 {n K : Nat} {W : zW} {post : zPo} {m v i : Int} (hK : 18 ≤ K) (hn : 142 ≤ n) (h : (300 ≤ i → post (some (.inl (v))) W) ∧ (¬ 300 ≤ i → (v = 0 → post (some (.inl (v))) W) ∧ (¬ v = 0 → (0 ≤ v ∧ v < 301) ∧ ((W.2.1 47 v) = m → post (some (.inl (v))) W) ∧ (¬ (W.2.1 47 v) = m → (0 ≤ v ∧ v < 301) ∧ (-2147483648 ≤ i + 1 ∧ i + 1 ≤ 2147483647) ∧ zwp jtb zsh n zm_child33 post (K - 18) (lGo ak_GAchild 12) 12 [some (.inr (.inr (some (.inl 33)))), some (.inl (m)), some (.inl (W.2.1 49 v)), some (.inl (i + 1))] [] W)))) : zwp jtb zsh n zm_child33 post K (lGo ak_GAchild 12) 12 [some (.inr (.inr (some (.inl 33)))), some (.inl (m)), some (.inl (v)), some (.inl (i))] [] W := by
  obtain ⟨k, rfl⟩ : ∃ k, K = k + 18 := ⟨K - 18, by omega⟩
  exact (show (300 ≤ i → 1 = 1 ∧ True ∧ post (some (.inl (v))) W) ∧ (¬ 300 ≤ i → (v = 0 → 1 = 1 ∧ True ∧ post (some (.inl (v))) W) ∧ (¬ v = 0 → 33 < n ∧ 9 = 9 ∧ 47 < n ∧ FieldType.int = FieldType.int ∧ (0 ≤ v ∧ v < 301) ∧ ((W.2.1 47 v) = m → 1 = 1 ∧ True ∧ post (some (.inl (v))) W) ∧ (¬ (W.2.1 47 v) = m → 33 < n ∧ 9 = 9 ∧ 49 < n ∧ FieldType.int = FieldType.int ∧ (0 ≤ v ∧ v < 301) ∧ (-2147483648 ≤ i + 1 ∧ i + 1 ≤ 2147483647) ∧ zwp jtb zsh n zm_child33 post (k + 0) (lGo ak_GAchild 12) 12 [some (.inr (.inr (some (.inl 33)))), some (.inl (m)), some (.inl (W.2.1 49 v)), some (.inl (i + 1))] [] W))) from ⟨fun hc2 => ⟨rfl, trivial, ((h).1 hc2)⟩, fun hc2 => ⟨fun hc4 => ⟨rfl, trivial, ((((h).2 hc2)).1 hc4)⟩, fun hc4 => ⟨(Nat.lt_of_lt_of_le (by decide) hn), rfl, ⟨(Nat.lt_of_lt_of_le (by decide) hn), rfl, (((((h).2 hc2)).2 hc4)).1, (have h := (((((h).2 hc2)).2 hc4)).2; ⟨fun hc10 => ⟨rfl, trivial, ((h).1 hc10)⟩, fun hc10 => ⟨(Nat.lt_of_lt_of_le (by decide) hn), rfl, ⟨(Nat.lt_of_lt_of_le (by decide) hn), rfl, (((h).2 hc10)).1, ⟨((((h).2 hc10)).2).1, ((((h).2 hc10)).2).2⟩⟩⟩⟩)⟩⟩⟩⟩)
noncomputable def zm_goesOn33 : zM := (some .boolean, { frames := 0, cells := 0, slots := 0, locals := 0 }, ([], []), [], ak_GAgoesOn)
theorem zp_goesOn33_0 {n K : Nat} {W : zW} {post : zPo} {v : Int} (hK : 12 ≤ K) (hn : 142 ≤ n) (h : (0 ≤ v ∧ v < 301) ∧ (0 ≤ (W.2.1 46 v) ∧ (W.2.1 46 v) < 301) ∧ (¬ (W.2.1 48 (W.2.1 46 v)) = v → post (some (.inl (0))) W) ∧ ((W.2.1 48 (W.2.1 46 v)) = v → post (some (.inl (1))) W)) : zwp jtb zsh n zm_goesOn33 post K (lGo ak_GAgoesOn 0) 0 [some (.inr (.inr (some (.inl 33)))), some (.inl (v))] [] W := by
  obtain ⟨k, rfl⟩ : ∃ k, K = k + 12 := ⟨K - 12, by omega⟩
  exact (show 33 < n ∧ 9 = 9 ∧ 33 < n ∧ 9 = 9 ∧ 46 < n ∧ FieldType.int = FieldType.int ∧ (0 ≤ v ∧ v < 301) ∧ 48 < n ∧ FieldType.int = FieldType.int ∧ (0 ≤ (W.2.1 46 v) ∧ (W.2.1 46 v) < 301) ∧ (¬ (W.2.1 48 (W.2.1 46 v)) = v → 1 = 1 ∧ ((0 : Int) = 0 ∨ (0 : Int) = 1) ∧ post (some (.inl (0))) W) ∧ ((W.2.1 48 (W.2.1 46 v)) = v → 1 = 1 ∧ ((1 : Int) = 0 ∨ (1 : Int) = 1) ∧ post (some (.inl (1))) W) from ⟨(Nat.lt_of_lt_of_le (by decide) hn), rfl, ⟨(Nat.lt_of_lt_of_le (by decide) hn), rfl, ⟨(Nat.lt_of_lt_of_le (by decide) hn), rfl, (h).1, ⟨(Nat.lt_of_lt_of_le (by decide) hn), rfl, ((h).2).1, ⟨fun hc8 => ⟨rfl, Or.inl rfl, ((((h).2).2).1 hc8)⟩, fun hc8 => ⟨rfl, Or.inr rfl, ((((h).2).2).2 hc8)⟩⟩⟩⟩⟩⟩)
noncomputable def zm_addMark33 : zM := (some .boolean, { frames := 0, cells := 0, slots := 0, locals := 0 }, ([], []), [], ak_GAaddMark)
theorem zp_addMark33_0 {n K : Nat} {W : zW} {post : zPo} {x : Int} (hK : 32 ≤ K) (hn : 142 ≤ n) (h : (0 ≤ (W.1 33 2) ∧ (W.1 33 2) < 301) ∧ (¬ (W.2.1 52 (W.1 33 2)) = 4 → (-2147483648 ≤ (W.1 33 2) * 4 ∧ (W.1 33 2) * 4 ≤ 2147483647) ∧ (0 ≤ (W.1 33 2) ∧ (W.1 33 2) < 301) ∧ (-2147483648 ≤ ((W.1 33 2) * 4) + (W.2.1 52 (W.1 33 2)) ∧ ((W.1 33 2) * 4) + (W.2.1 52 (W.1 33 2)) ≤ 2147483647) ∧ (0 ≤ (((W.1 33 2) * 4) + (W.2.1 52 (W.1 33 2))) ∧ (((W.1 33 2) * 4) + (W.2.1 52 (W.1 33 2))) < 1204) ∧ (0 ≤ (W.1 33 2) ∧ (W.1 33 2) < 301) ∧ (-2147483648 ≤ (W.2.1 52 (W.1 33 2)) + 1 ∧ (W.2.1 52 (W.1 33 2)) + 1 ≤ 2147483647) ∧ (0 ≤ (W.1 33 2) ∧ (W.1 33 2) < 301) ∧ post (some (.inl (1))) (zuR (zuR W 51 (((W.1 33 2) * 4) + (W.2.1 52 (W.1 33 2))) x) 52 (W.1 33 2) ((W.2.1 52 (W.1 33 2)) + 1))) ∧ ((W.2.1 52 (W.1 33 2)) = 4 → post (some (.inl (0))) W)) : zwp jtb zsh n zm_addMark33 post K (lGo ak_GAaddMark 0) 0 [some (.inr (.inr (some (.inl 33)))), some (.inl (x))] [] W := by
  obtain ⟨k, rfl⟩ : ∃ k, K = k + 32 := ⟨K - 32, by omega⟩
  exact (show 33 < n ∧ 9 = 9 ∧ 33 < n ∧ 9 = 9 ∧ 52 < n ∧ FieldType.int = FieldType.int ∧ (0 ≤ (W.1 33 2) ∧ (W.1 33 2) < 301) ∧ (¬ (W.2.1 52 (W.1 33 2)) = 4 → 33 < n ∧ 9 = 9 ∧ 33 < n ∧ 9 = 9 ∧ (-2147483648 ≤ (W.1 33 2) * 4 ∧ (W.1 33 2) * 4 ≤ 2147483647) ∧ 33 < n ∧ 9 = 9 ∧ 33 < n ∧ 9 = 9 ∧ 52 < n ∧ FieldType.int = FieldType.int ∧ (0 ≤ (W.1 33 2) ∧ (W.1 33 2) < 301) ∧ (-2147483648 ≤ ((W.1 33 2) * 4) + (W.2.1 52 (W.1 33 2)) ∧ ((W.1 33 2) * 4) + (W.2.1 52 (W.1 33 2)) ≤ 2147483647) ∧ 51 < n ∧ FieldType.int = FieldType.int ∧ (0 ≤ (((W.1 33 2) * 4) + (W.2.1 52 (W.1 33 2))) ∧ (((W.1 33 2) * 4) + (W.2.1 52 (W.1 33 2))) < 1204) ∧ True ∧ 33 < n ∧ 9 = 9 ∧ 33 < n ∧ 9 = 9 ∧ 52 < n ∧ FieldType.int = FieldType.int ∧ (0 ≤ (W.1 33 2) ∧ (W.1 33 2) < 301) ∧ (-2147483648 ≤ (W.2.1 52 (W.1 33 2)) + 1 ∧ (W.2.1 52 (W.1 33 2)) + 1 ≤ 2147483647) ∧ 52 < n ∧ FieldType.int = FieldType.int ∧ (0 ≤ (W.1 33 2) ∧ (W.1 33 2) < 301) ∧ True ∧ 1 = 1 ∧ ((1 : Int) = 0 ∨ (1 : Int) = 1) ∧ post (some (.inl (1))) (zuR (zuR W 51 (((W.1 33 2) * 4) + (W.2.1 52 (W.1 33 2))) x) 52 (W.1 33 2) ((W.2.1 52 (W.1 33 2)) + 1))) ∧ ((W.2.1 52 (W.1 33 2)) = 4 → 1 = 1 ∧ ((0 : Int) = 0 ∨ (0 : Int) = 1) ∧ post (some (.inl (0))) W) from ⟨(Nat.lt_of_lt_of_le (by decide) hn), rfl, ⟨(Nat.lt_of_lt_of_le (by decide) hn), rfl, ⟨(Nat.lt_of_lt_of_le (by decide) hn), rfl, (h).1, ⟨fun hc6 => ⟨(Nat.lt_of_lt_of_le (by decide) hn), rfl, ⟨(Nat.lt_of_lt_of_le (by decide) hn), rfl, ⟨((((h).2).1 hc6)).1, ⟨(Nat.lt_of_lt_of_le (by decide) hn), rfl, ⟨(Nat.lt_of_lt_of_le (by decide) hn), rfl, ⟨(Nat.lt_of_lt_of_le (by decide) hn), rfl, (((((h).2).1 hc6)).2).1, ⟨((((((h).2).1 hc6)).2).2).1, (have h := ((((((h).2).1 hc6)).2).2).2; ⟨(Nat.lt_of_lt_of_le (by decide) hn), rfl, (h).1, trivial, ⟨(Nat.lt_of_lt_of_le (by decide) hn), rfl, ⟨(Nat.lt_of_lt_of_le (by decide) hn), rfl, ⟨(Nat.lt_of_lt_of_le (by decide) hn), rfl, ((h).2).1, ⟨(((h).2).2).1, ⟨(Nat.lt_of_lt_of_le (by decide) hn), rfl, ((((h).2).2).2).1, trivial, ⟨rfl, Or.inr rfl, ((((h).2).2).2).2⟩⟩⟩⟩⟩⟩⟩)⟩⟩⟩⟩⟩⟩⟩, fun hc6 => ⟨rfl, Or.inl rfl, (((h).2).2 hc6)⟩⟩⟩⟩⟩)
theorem zg_child33 {n : Nat} {W : zW} {post : zPo} {m : Int} (hn : 142 ≤ n) : ∀ (l : List Int) (K : Nat) (v i : Int), 18 * l.length + 18 ≤ K → xCh (W.2.1 49) v l → (∀ x ∈ l, 0 < x ∧ x < 301) → 0 ≤ i → i + l.length ≤ 300 → post (some (.inl (xFd (W.2.1 47) m l))) W → zwp jtb zsh n zm_child33 post K (lGo ak_GAchild 12) 12 [some (.inr (.inr (some (.inl 33)))), some (.inl m), some (.inl v), some (.inl i)] [] W := by
  intro l
  induction l with
  | nil =>
    intro K v i hK hc hr i0 i1 hp
    obtain rfl : v = 0 := hc
    exact zp_child33_12 (by omega) hn ⟨fun _ => hp, fun _ => ⟨fun _ => hp, fun h => absurd rfl h⟩⟩
  | cons x l ih =>
    intro K v i hK hc hr i0 i1 hp
    obtain ⟨rfl, hx, hc⟩ := hc
    rw [List.length_cons] at hK i1
    have hv := hr v (List.mem_cons_self ..)
    have e : xFd (W.2.1 47) m (v :: l) = if W.2.1 47 v = m then v else xFd (W.2.1 47) m l := rfl
    rw [e] at hp
    refine zp_child33_12 (by omega) hn ⟨fun h => absurd h (by omega), fun _ => ⟨fun h => absurd h hx, fun _ => ⟨by omega, fun h => ?_, fun h => ⟨by omega, by omega, ih _ _ (i + 1) (by omega) hc (fun y hy => hr y (List.mem_cons_of_mem _ hy)) (by omega) (by omega) ?_⟩⟩⟩⟩
    · rw [if_pos h] at hp; exact hp
    · rw [if_neg h] at hp; exact hp
noncomputable def zc_child33 (vals : List zv) (W : zW) (post : zPo) : Prop := ∃ (m : Int) (l : List Int), vals = [.inr (.inr (some (.inl 33))), .inl m] ∧ 0 ≤ W.1 33 2 ∧ W.1 33 2 < 301 ∧ xCh (W.2.1 49) (W.2.1 48 (W.1 33 2)) l ∧ (∀ x ∈ l, 0 < x ∧ x < 301) ∧ l.length ≤ 300 ∧ post (some (.inl (xFd (W.2.1 47) m l))) W
noncomputable def zc_goesOn33 (vals : List zv) (W : zW) (post : zPo) : Prop := ∃ v : Int, vals = [.inr (.inr (some (.inl 33))), .inl v] ∧ 0 ≤ v ∧ v < 301 ∧ 0 ≤ W.2.1 46 v ∧ W.2.1 46 v < 301 ∧ ∀ r : Int, xBl r (W.2.1 48 (W.2.1 46 v) = v) → post (some (.inl r)) W
noncomputable def zc_addMark33 (vals : List zv) (W : zW) (post : zPo) : Prop := ∃ k : Int, vals = [.inr (.inr (some (.inl 33))), .inl k] ∧ 0 ≤ W.1 33 2 ∧ W.1 33 2 < 301 ∧ 0 ≤ W.2.1 52 (W.1 33 2) ∧ W.2.1 52 (W.1 33 2) ≤ 4 ∧ (W.2.1 52 (W.1 33 2) = 4 → post (some (.inl 0)) W) ∧ (¬ W.2.1 52 (W.1 33 2) = 4 → post (some (.inl 1)) (zuR (zuR W 51 (W.1 33 2 * 4 + W.2.1 52 (W.1 33 2)) k) 52 (W.1 33 2) (W.2.1 52 (W.1 33 2) + 1)))
section
variable {l : Launch} {E : jE} {n : Nat}
theorem zk_child33 (hn : 142 ≤ n) : zHas l E jcl jtb lw_tbl zsh n (y_GA_child, false, 2, 9, { frames := 0, cells := 0, slots := 0, locals := 0 }, zc_child33) := by
  refine ⟨⟨rfl, rfl, ⟨show 1 ≤ 2 by decide, m_GA_child, i_GA_child, e_GA_child, fun _ => ⟨_, rfl, rfl⟩⟩⟩, ?_⟩
  rintro vz W po hO hW ⟨m, l, rfl, h0, h1, h2, h3, h4, hp⟩
  refine zmet (m := zm_child33) rfl (by decide) (fun _ _ => jtF_ok) lo_GA ao_GAchild jC (fun q h => by cases h) (fun q h => by cases h) (fun G h => by cases h) (Nat.le_of_ble_eq_true rfl) hO hW 6000 ?_
  exact zp_child33_0 (by omega) hn ⟨by omega, zg_child33 hn l _ _ 0 (by omega) h2 h3 (by omega) (by omega) hp⟩
theorem zk_goesOn33 (hn : 142 ≤ n) : zHas l E jcl jtb lw_tbl zsh n (y_GA_goesOn, false, 2, 9, { frames := 0, cells := 0, slots := 0, locals := 0 }, zc_goesOn33) := by
  refine ⟨⟨rfl, rfl, ⟨show 1 ≤ 2 by decide, m_GA_goesOn, i_GA_goesOn, e_GA_goesOn, fun _ => ⟨_, rfl, rfl⟩⟩⟩, ?_⟩
  rintro vz W po hO hW ⟨v, rfl, h0, h1, h2, h3, hp⟩
  refine zmet (m := zm_goesOn33) rfl (by decide) (fun _ _ => jtF_ok) lo_GA ao_GAgoesOn jC (fun q h => by cases h) (fun q h => by cases h) (fun G h => by cases h) (Nat.le_of_ble_eq_true rfl) hO hW 60 ?_
  exact zp_goesOn33_0 (by omega) hn ⟨by omega, by omega, fun h => hp 0 (Or.inr ⟨rfl, h⟩), fun h => hp 1 (Or.inl ⟨rfl, h⟩)⟩
theorem zk_addMark33 (hn : 142 ≤ n) : zHas l E jcl jtb lw_tbl zsh n (y_GA_addMark, false, 2, 9, { frames := 0, cells := 0, slots := 0, locals := 0 }, zc_addMark33) := by
  refine ⟨⟨rfl, rfl, ⟨show 1 ≤ 2 by decide, m_GA_addMark, i_GA_addMark, e_GA_addMark, fun _ => ⟨_, rfl, rfl⟩⟩⟩, ?_⟩
  rintro vz W po hO hW ⟨k, rfl, h0, h1, h2, h3, hp, hq⟩
  refine zmet (m := zm_addMark33) rfl (by decide) (fun _ _ => jtF_ok) lo_GA ao_GAaddMark jC (fun q h => by cases h) (fun q h => by cases h) (fun G h => by cases h) (Nat.le_of_ble_eq_true rfl) hO hW 100 ?_
  exact zp_addMark33_0 (by omega) hn ⟨by omega, fun h => ⟨by omega, by omega, by omega, by omega, by omega, by omega, by omega, hq h⟩, fun h => hp h⟩
end
noncomputable def zm_child60 : zM := (some .int, { frames := 0, cells := 0, slots := 0, locals := 0 }, ([], []), [], ak_GAchild)
theorem zp_child60_0 {n K : Nat} {W : zW} {post : zPo} {m : Int} (hK : 8 ≤ K) (hn : 142 ≤ n) (h : (0 ≤ (W.1 60 2) ∧ (W.1 60 2) < 301) ∧ zwp jtb zsh n zm_child60 post (K - 8) (lGo ak_GAchild 12) 12 [some (.inr (.inr (some (.inl 60)))), some (.inl (m)), some (.inl (W.2.1 75 (W.1 60 2))), some (.inl (0))] [] W) : zwp jtb zsh n zm_child60 post K (lGo ak_GAchild 0) 0 [some (.inr (.inr (some (.inl 60)))), some (.inl (m)), none, none] [] W := by
  obtain ⟨k, rfl⟩ : ∃ k, K = k + 8 := ⟨K - 8, by omega⟩
  exact (show 60 < n ∧ 9 = 9 ∧ 60 < n ∧ 9 = 9 ∧ 75 < n ∧ FieldType.int = FieldType.int ∧ (0 ≤ (W.1 60 2) ∧ (W.1 60 2) < 301) ∧ zwp jtb zsh n zm_child60 post (k + 0) (lGo ak_GAchild 12) 12 [some (.inr (.inr (some (.inl 60)))), some (.inl (m)), some (.inl (W.2.1 75 (W.1 60 2))), some (.inl (0))] [] W from ⟨(Nat.lt_of_lt_of_le (by decide) hn), rfl, ⟨(Nat.lt_of_lt_of_le (by decide) hn), rfl, ⟨(Nat.lt_of_lt_of_le (by decide) hn), rfl, (h).1, (h).2⟩⟩⟩)
theorem zp_child60_12 {n K : Nat} {W : zW} {post : zPo} {m v i : Int} (hK : 18 ≤ K) (hn : 142 ≤ n) (h : (300 ≤ i → post (some (.inl (v))) W) ∧ (¬ 300 ≤ i → (v = 0 → post (some (.inl (v))) W) ∧ (¬ v = 0 → (0 ≤ v ∧ v < 301) ∧ ((W.2.1 74 v) = m → post (some (.inl (v))) W) ∧ (¬ (W.2.1 74 v) = m → (0 ≤ v ∧ v < 301) ∧ (-2147483648 ≤ i + 1 ∧ i + 1 ≤ 2147483647) ∧ zwp jtb zsh n zm_child60 post (K - 18) (lGo ak_GAchild 12) 12 [some (.inr (.inr (some (.inl 60)))), some (.inl (m)), some (.inl (W.2.1 76 v)), some (.inl (i + 1))] [] W)))) : zwp jtb zsh n zm_child60 post K (lGo ak_GAchild 12) 12 [some (.inr (.inr (some (.inl 60)))), some (.inl (m)), some (.inl (v)), some (.inl (i))] [] W := by
  obtain ⟨k, rfl⟩ : ∃ k, K = k + 18 := ⟨K - 18, by omega⟩
  exact (show (300 ≤ i → 1 = 1 ∧ True ∧ post (some (.inl (v))) W) ∧ (¬ 300 ≤ i → (v = 0 → 1 = 1 ∧ True ∧ post (some (.inl (v))) W) ∧ (¬ v = 0 → 60 < n ∧ 9 = 9 ∧ 74 < n ∧ FieldType.int = FieldType.int ∧ (0 ≤ v ∧ v < 301) ∧ ((W.2.1 74 v) = m → 1 = 1 ∧ True ∧ post (some (.inl (v))) W) ∧ (¬ (W.2.1 74 v) = m → 60 < n ∧ 9 = 9 ∧ 76 < n ∧ FieldType.int = FieldType.int ∧ (0 ≤ v ∧ v < 301) ∧ (-2147483648 ≤ i + 1 ∧ i + 1 ≤ 2147483647) ∧ zwp jtb zsh n zm_child60 post (k + 0) (lGo ak_GAchild 12) 12 [some (.inr (.inr (some (.inl 60)))), some (.inl (m)), some (.inl (W.2.1 76 v)), some (.inl (i + 1))] [] W))) from ⟨fun hc2 => ⟨rfl, trivial, ((h).1 hc2)⟩, fun hc2 => ⟨fun hc4 => ⟨rfl, trivial, ((((h).2 hc2)).1 hc4)⟩, fun hc4 => ⟨(Nat.lt_of_lt_of_le (by decide) hn), rfl, ⟨(Nat.lt_of_lt_of_le (by decide) hn), rfl, (((((h).2 hc2)).2 hc4)).1, (have h := (((((h).2 hc2)).2 hc4)).2; ⟨fun hc10 => ⟨rfl, trivial, ((h).1 hc10)⟩, fun hc10 => ⟨(Nat.lt_of_lt_of_le (by decide) hn), rfl, ⟨(Nat.lt_of_lt_of_le (by decide) hn), rfl, (((h).2 hc10)).1, ⟨((((h).2 hc10)).2).1, ((((h).2 hc10)).2).2⟩⟩⟩⟩)⟩⟩⟩⟩)
noncomputable def zm_goesOn60 : zM := (some .boolean, { frames := 0, cells := 0, slots := 0, locals := 0 }, ([], []), [], ak_GAgoesOn)
theorem zp_goesOn60_0 {n K : Nat} {W : zW} {post : zPo} {v : Int} (hK : 12 ≤ K) (hn : 142 ≤ n) (h : (0 ≤ v ∧ v < 301) ∧ (0 ≤ (W.2.1 73 v) ∧ (W.2.1 73 v) < 301) ∧ (¬ (W.2.1 75 (W.2.1 73 v)) = v → post (some (.inl (0))) W) ∧ ((W.2.1 75 (W.2.1 73 v)) = v → post (some (.inl (1))) W)) : zwp jtb zsh n zm_goesOn60 post K (lGo ak_GAgoesOn 0) 0 [some (.inr (.inr (some (.inl 60)))), some (.inl (v))] [] W := by
  obtain ⟨k, rfl⟩ : ∃ k, K = k + 12 := ⟨K - 12, by omega⟩
  exact (show 60 < n ∧ 9 = 9 ∧ 60 < n ∧ 9 = 9 ∧ 73 < n ∧ FieldType.int = FieldType.int ∧ (0 ≤ v ∧ v < 301) ∧ 75 < n ∧ FieldType.int = FieldType.int ∧ (0 ≤ (W.2.1 73 v) ∧ (W.2.1 73 v) < 301) ∧ (¬ (W.2.1 75 (W.2.1 73 v)) = v → 1 = 1 ∧ ((0 : Int) = 0 ∨ (0 : Int) = 1) ∧ post (some (.inl (0))) W) ∧ ((W.2.1 75 (W.2.1 73 v)) = v → 1 = 1 ∧ ((1 : Int) = 0 ∨ (1 : Int) = 1) ∧ post (some (.inl (1))) W) from ⟨(Nat.lt_of_lt_of_le (by decide) hn), rfl, ⟨(Nat.lt_of_lt_of_le (by decide) hn), rfl, ⟨(Nat.lt_of_lt_of_le (by decide) hn), rfl, (h).1, ⟨(Nat.lt_of_lt_of_le (by decide) hn), rfl, ((h).2).1, ⟨fun hc8 => ⟨rfl, Or.inl rfl, ((((h).2).2).1 hc8)⟩, fun hc8 => ⟨rfl, Or.inr rfl, ((((h).2).2).2 hc8)⟩⟩⟩⟩⟩⟩)
noncomputable def zm_addMark60 : zM := (some .boolean, { frames := 0, cells := 0, slots := 0, locals := 0 }, ([], []), [], ak_GAaddMark)
theorem zp_addMark60_0 {n K : Nat} {W : zW} {post : zPo} {x : Int} (hK : 32 ≤ K) (hn : 142 ≤ n) (h : (0 ≤ (W.1 60 2) ∧ (W.1 60 2) < 301) ∧ (¬ (W.2.1 79 (W.1 60 2)) = 4 → (-2147483648 ≤ (W.1 60 2) * 4 ∧ (W.1 60 2) * 4 ≤ 2147483647) ∧ (0 ≤ (W.1 60 2) ∧ (W.1 60 2) < 301) ∧ (-2147483648 ≤ ((W.1 60 2) * 4) + (W.2.1 79 (W.1 60 2)) ∧ ((W.1 60 2) * 4) + (W.2.1 79 (W.1 60 2)) ≤ 2147483647) ∧ (0 ≤ (((W.1 60 2) * 4) + (W.2.1 79 (W.1 60 2))) ∧ (((W.1 60 2) * 4) + (W.2.1 79 (W.1 60 2))) < 1204) ∧ (0 ≤ (W.1 60 2) ∧ (W.1 60 2) < 301) ∧ (-2147483648 ≤ (W.2.1 79 (W.1 60 2)) + 1 ∧ (W.2.1 79 (W.1 60 2)) + 1 ≤ 2147483647) ∧ (0 ≤ (W.1 60 2) ∧ (W.1 60 2) < 301) ∧ post (some (.inl (1))) (zuR (zuR W 78 (((W.1 60 2) * 4) + (W.2.1 79 (W.1 60 2))) x) 79 (W.1 60 2) ((W.2.1 79 (W.1 60 2)) + 1))) ∧ ((W.2.1 79 (W.1 60 2)) = 4 → post (some (.inl (0))) W)) : zwp jtb zsh n zm_addMark60 post K (lGo ak_GAaddMark 0) 0 [some (.inr (.inr (some (.inl 60)))), some (.inl (x))] [] W := by
  obtain ⟨k, rfl⟩ : ∃ k, K = k + 32 := ⟨K - 32, by omega⟩
  exact (show 60 < n ∧ 9 = 9 ∧ 60 < n ∧ 9 = 9 ∧ 79 < n ∧ FieldType.int = FieldType.int ∧ (0 ≤ (W.1 60 2) ∧ (W.1 60 2) < 301) ∧ (¬ (W.2.1 79 (W.1 60 2)) = 4 → 60 < n ∧ 9 = 9 ∧ 60 < n ∧ 9 = 9 ∧ (-2147483648 ≤ (W.1 60 2) * 4 ∧ (W.1 60 2) * 4 ≤ 2147483647) ∧ 60 < n ∧ 9 = 9 ∧ 60 < n ∧ 9 = 9 ∧ 79 < n ∧ FieldType.int = FieldType.int ∧ (0 ≤ (W.1 60 2) ∧ (W.1 60 2) < 301) ∧ (-2147483648 ≤ ((W.1 60 2) * 4) + (W.2.1 79 (W.1 60 2)) ∧ ((W.1 60 2) * 4) + (W.2.1 79 (W.1 60 2)) ≤ 2147483647) ∧ 78 < n ∧ FieldType.int = FieldType.int ∧ (0 ≤ (((W.1 60 2) * 4) + (W.2.1 79 (W.1 60 2))) ∧ (((W.1 60 2) * 4) + (W.2.1 79 (W.1 60 2))) < 1204) ∧ True ∧ 60 < n ∧ 9 = 9 ∧ 60 < n ∧ 9 = 9 ∧ 79 < n ∧ FieldType.int = FieldType.int ∧ (0 ≤ (W.1 60 2) ∧ (W.1 60 2) < 301) ∧ (-2147483648 ≤ (W.2.1 79 (W.1 60 2)) + 1 ∧ (W.2.1 79 (W.1 60 2)) + 1 ≤ 2147483647) ∧ 79 < n ∧ FieldType.int = FieldType.int ∧ (0 ≤ (W.1 60 2) ∧ (W.1 60 2) < 301) ∧ True ∧ 1 = 1 ∧ ((1 : Int) = 0 ∨ (1 : Int) = 1) ∧ post (some (.inl (1))) (zuR (zuR W 78 (((W.1 60 2) * 4) + (W.2.1 79 (W.1 60 2))) x) 79 (W.1 60 2) ((W.2.1 79 (W.1 60 2)) + 1))) ∧ ((W.2.1 79 (W.1 60 2)) = 4 → 1 = 1 ∧ ((0 : Int) = 0 ∨ (0 : Int) = 1) ∧ post (some (.inl (0))) W) from ⟨(Nat.lt_of_lt_of_le (by decide) hn), rfl, ⟨(Nat.lt_of_lt_of_le (by decide) hn), rfl, ⟨(Nat.lt_of_lt_of_le (by decide) hn), rfl, (h).1, ⟨fun hc6 => ⟨(Nat.lt_of_lt_of_le (by decide) hn), rfl, ⟨(Nat.lt_of_lt_of_le (by decide) hn), rfl, ⟨((((h).2).1 hc6)).1, ⟨(Nat.lt_of_lt_of_le (by decide) hn), rfl, ⟨(Nat.lt_of_lt_of_le (by decide) hn), rfl, ⟨(Nat.lt_of_lt_of_le (by decide) hn), rfl, (((((h).2).1 hc6)).2).1, ⟨((((((h).2).1 hc6)).2).2).1, (have h := ((((((h).2).1 hc6)).2).2).2; ⟨(Nat.lt_of_lt_of_le (by decide) hn), rfl, (h).1, trivial, ⟨(Nat.lt_of_lt_of_le (by decide) hn), rfl, ⟨(Nat.lt_of_lt_of_le (by decide) hn), rfl, ⟨(Nat.lt_of_lt_of_le (by decide) hn), rfl, ((h).2).1, ⟨(((h).2).2).1, ⟨(Nat.lt_of_lt_of_le (by decide) hn), rfl, ((((h).2).2).2).1, trivial, ⟨rfl, Or.inr rfl, ((((h).2).2).2).2⟩⟩⟩⟩⟩⟩⟩)⟩⟩⟩⟩⟩⟩⟩, fun hc6 => ⟨rfl, Or.inl rfl, (((h).2).2 hc6)⟩⟩⟩⟩⟩)
theorem zg_child60 {n : Nat} {W : zW} {post : zPo} {m : Int} (hn : 142 ≤ n) : ∀ (l : List Int) (K : Nat) (v i : Int), 18 * l.length + 18 ≤ K → xCh (W.2.1 76) v l → (∀ x ∈ l, 0 < x ∧ x < 301) → 0 ≤ i → i + l.length ≤ 300 → post (some (.inl (xFd (W.2.1 74) m l))) W → zwp jtb zsh n zm_child60 post K (lGo ak_GAchild 12) 12 [some (.inr (.inr (some (.inl 60)))), some (.inl m), some (.inl v), some (.inl i)] [] W := by
  intro l
  induction l with
  | nil =>
    intro K v i hK hc hr i0 i1 hp
    obtain rfl : v = 0 := hc
    exact zp_child60_12 (by omega) hn ⟨fun _ => hp, fun _ => ⟨fun _ => hp, fun h => absurd rfl h⟩⟩
  | cons x l ih =>
    intro K v i hK hc hr i0 i1 hp
    obtain ⟨rfl, hx, hc⟩ := hc
    rw [List.length_cons] at hK i1
    have hv := hr v (List.mem_cons_self ..)
    have e : xFd (W.2.1 74) m (v :: l) = if W.2.1 74 v = m then v else xFd (W.2.1 74) m l := rfl
    rw [e] at hp
    refine zp_child60_12 (by omega) hn ⟨fun h => absurd h (by omega), fun _ => ⟨fun h => absurd h hx, fun _ => ⟨by omega, fun h => ?_, fun h => ⟨by omega, by omega, ih _ _ (i + 1) (by omega) hc (fun y hy => hr y (List.mem_cons_of_mem _ hy)) (by omega) (by omega) ?_⟩⟩⟩⟩
    · rw [if_pos h] at hp; exact hp
    · rw [if_neg h] at hp; exact hp
noncomputable def zc_child60 (vals : List zv) (W : zW) (post : zPo) : Prop := ∃ (m : Int) (l : List Int), vals = [.inr (.inr (some (.inl 60))), .inl m] ∧ 0 ≤ W.1 60 2 ∧ W.1 60 2 < 301 ∧ xCh (W.2.1 76) (W.2.1 75 (W.1 60 2)) l ∧ (∀ x ∈ l, 0 < x ∧ x < 301) ∧ l.length ≤ 300 ∧ post (some (.inl (xFd (W.2.1 74) m l))) W
noncomputable def zc_goesOn60 (vals : List zv) (W : zW) (post : zPo) : Prop := ∃ v : Int, vals = [.inr (.inr (some (.inl 60))), .inl v] ∧ 0 ≤ v ∧ v < 301 ∧ 0 ≤ W.2.1 73 v ∧ W.2.1 73 v < 301 ∧ ∀ r : Int, xBl r (W.2.1 75 (W.2.1 73 v) = v) → post (some (.inl r)) W
noncomputable def zc_addMark60 (vals : List zv) (W : zW) (post : zPo) : Prop := ∃ k : Int, vals = [.inr (.inr (some (.inl 60))), .inl k] ∧ 0 ≤ W.1 60 2 ∧ W.1 60 2 < 301 ∧ 0 ≤ W.2.1 79 (W.1 60 2) ∧ W.2.1 79 (W.1 60 2) ≤ 4 ∧ (W.2.1 79 (W.1 60 2) = 4 → post (some (.inl 0)) W) ∧ (¬ W.2.1 79 (W.1 60 2) = 4 → post (some (.inl 1)) (zuR (zuR W 78 (W.1 60 2 * 4 + W.2.1 79 (W.1 60 2)) k) 79 (W.1 60 2) (W.2.1 79 (W.1 60 2) + 1)))
section
variable {l : Launch} {E : jE} {n : Nat}
theorem zk_child60 (hn : 142 ≤ n) : zHas l E jcl jtb lw_tbl zsh n (y_GA_child, false, 2, 9, { frames := 0, cells := 0, slots := 0, locals := 0 }, zc_child60) := by
  refine ⟨⟨rfl, rfl, ⟨show 1 ≤ 2 by decide, m_GA_child, i_GA_child, e_GA_child, fun _ => ⟨_, rfl, rfl⟩⟩⟩, ?_⟩
  rintro vz W po hO hW ⟨m, l, rfl, h0, h1, h2, h3, h4, hp⟩
  refine zmet (m := zm_child60) rfl (by decide) (fun _ _ => jtF_ok) lo_GA ao_GAchild jC (fun q h => by cases h) (fun q h => by cases h) (fun G h => by cases h) (Nat.le_of_ble_eq_true rfl) hO hW 6000 ?_
  exact zp_child60_0 (by omega) hn ⟨by omega, zg_child60 hn l _ _ 0 (by omega) h2 h3 (by omega) (by omega) hp⟩
theorem zk_goesOn60 (hn : 142 ≤ n) : zHas l E jcl jtb lw_tbl zsh n (y_GA_goesOn, false, 2, 9, { frames := 0, cells := 0, slots := 0, locals := 0 }, zc_goesOn60) := by
  refine ⟨⟨rfl, rfl, ⟨show 1 ≤ 2 by decide, m_GA_goesOn, i_GA_goesOn, e_GA_goesOn, fun _ => ⟨_, rfl, rfl⟩⟩⟩, ?_⟩
  rintro vz W po hO hW ⟨v, rfl, h0, h1, h2, h3, hp⟩
  refine zmet (m := zm_goesOn60) rfl (by decide) (fun _ _ => jtF_ok) lo_GA ao_GAgoesOn jC (fun q h => by cases h) (fun q h => by cases h) (fun G h => by cases h) (Nat.le_of_ble_eq_true rfl) hO hW 60 ?_
  exact zp_goesOn60_0 (by omega) hn ⟨by omega, by omega, fun h => hp 0 (Or.inr ⟨rfl, h⟩), fun h => hp 1 (Or.inl ⟨rfl, h⟩)⟩
theorem zk_addMark60 (hn : 142 ≤ n) : zHas l E jcl jtb lw_tbl zsh n (y_GA_addMark, false, 2, 9, { frames := 0, cells := 0, slots := 0, locals := 0 }, zc_addMark60) := by
  refine ⟨⟨rfl, rfl, ⟨show 1 ≤ 2 by decide, m_GA_addMark, i_GA_addMark, e_GA_addMark, fun _ => ⟨_, rfl, rfl⟩⟩⟩, ?_⟩
  rintro vz W po hO hW ⟨k, rfl, h0, h1, h2, h3, hp, hq⟩
  refine zmet (m := zm_addMark60) rfl (by decide) (fun _ _ => jtF_ok) lo_GA ao_GAaddMark jC (fun q h => by cases h) (fun q h => by cases h) (fun G h => by cases h) (Nat.le_of_ble_eq_true rfl) hO hW 100 ?_
  exact zp_addMark60_0 (by omega) hn ⟨by omega, fun h => ⟨by omega, by omega, by omega, by omega, by omega, by omega, by omega, hq h⟩, fun h => hp h⟩
end
end
section
/-! trees in rows: how deep a node is, and what leading does to it -/
def trP (pa : Int → Int) (N : Int) : Prop := ∀ k, 1 ≤ k → k ≤ N → 0 ≤ pa k ∧ pa k < k
def trD (pa ld : Int → Int) : Nat → Int → Int
  | 0, _ => 0
  | n + 1, k => if k ≤ 0 then 0 else trD pa ld n (pa k) + (if ld (pa k) = k then 0 else 1)
def trE (pa ld : Int → Int) (k : Int) : Int := trD pa ld k.toNat k
def trB (pa : Int → Int) (u : Int) : Nat → Int → Prop
  | 0, k => k = u
  | n + 1, k => k = u ∨ (u < k ∧ trB pa u n (pa k))
def trW (pa : Int → Int) (u k : Int) : Prop := ∃ n, trB pa u n k
theorem tr_W {pa : Int → Int} {u k : Int} : trW pa u k ↔ k = u ∨ (u < k ∧ trW pa u (pa k)) := by
  constructor
  · rintro ⟨n, h⟩
    cases n with
    | zero => exact Or.inl h
    | succ n =>
      rcases h with h | ⟨h, h2⟩
      · exact Or.inl h
      · exact Or.inr ⟨h, n, h2⟩
  · rintro (h | ⟨h, n, h2⟩)
    · exact ⟨0, h⟩
    · exact ⟨n + 1, Or.inr ⟨h, h2⟩⟩
theorem tr_s {pa ld : Int → Int} {N : Int} (hP : trP pa N) : ∀ (n m : Nat) (k : Int), k ≤ n → k ≤ m → k ≤ N → trD pa ld n k = trD pa ld m k
  | 0, 0, _, _, _, _ => rfl
  | 0, m + 1, k, h, _, _ => by
    show 0 = (if k ≤ 0 then 0 else trD pa ld m (pa k) + (if ld (pa k) = k then 0 else 1))
    rw [if_pos (by omega)]
  | n + 1, 0, k, _, h, _ => by
    show (if k ≤ 0 then 0 else trD pa ld n (pa k) + (if ld (pa k) = k then 0 else 1)) = 0
    rw [if_pos (by omega)]
  | n + 1, m + 1, k, h1, h2, h3 => by
    show (if k ≤ 0 then 0 else trD pa ld n (pa k) + (if ld (pa k) = k then 0 else 1)) = (if k ≤ 0 then 0 else trD pa ld m (pa k) + (if ld (pa k) = k then 0 else 1))
    by_cases c : k ≤ 0
    · rw [if_pos c, if_pos c]
    · have h := hP k (by omega) h3
      rw [if_neg c, if_neg c, tr_s hP n m (pa k) (by omega) (by omega) (by omega)]
theorem tr_0 {pa ld : Int → Int} {k : Int} (h : k ≤ 0) : trE pa ld k = 0 := by
  unfold trE
  rw [show k.toNat = 0 by omega]
  rfl
theorem tr_1 {pa ld : Int → Int} {N k : Int} (hP : trP pa N) (h1 : 1 ≤ k) (h2 : k ≤ N) : trE pa ld k = trE pa ld (pa k) + (if ld (pa k) = k then 0 else 1) := by
  have h := hP k h1 h2
  have e : k.toNat = (k - 1).toNat + 1 := by omega
  unfold trE
  rw [e]
  show (if k ≤ 0 then 0 else trD pa ld (k - 1).toNat (pa k) + (if ld (pa k) = k then 0 else 1)) = _
  rw [if_neg (by omega), tr_s hP (k - 1).toNat (pa k).toNat (pa k) (by omega) (by omega) (by omega)]
theorem tr_W0 {pa : Int → Int} {u k : Int} (h : k < u) : ¬ trW pa u k := by
  intro hw
  rcases tr_W.mp hw with h2 | ⟨h2, -⟩ <;> omega
/-- leading: L stands first behind its parent, where f stood -/
def trL (pa ld : Int → Int) (L : Int) : Int → Int := fun a => if a = pa L then L else ld a
theorem tr_L {pa ld : Int → Int} {N L f : Int} (hP : trP pa N) (hL : 1 ≤ L ∧ L ≤ N) (hf : 1 ≤ f ∧ f ≤ N) (ef : ld (pa L) = f) (ep : pa f = pa L) (hn : ¬ f = L) : ∀ (n : Nat) (k : Int), 0 ≤ k → k ≤ n → k ≤ N → (trW pa f k → trE pa (trL pa ld L) k = trE pa ld k + 1 ∧ ¬ trW pa L k) ∧ (trW pa L k → trE pa (trL pa ld L) k = trE pa ld k - 1) ∧ (¬ trW pa f k → ¬ trW pa L k → trE pa (trL pa ld L) k = trE pa ld k) := by
  have pL := hP L hL.1 hL.2
  have pf := hP f hf.1 hf.2
  intro n
  induction n with
  | zero =>
    intro k k0 k1 k2
    obtain rfl : k = 0 := by omega
    refine ⟨fun h => absurd h (tr_W0 (by omega)), fun h => absurd h (tr_W0 (by omega)), fun _ _ => ?_⟩
    rw [tr_0 (by omega), tr_0 (by omega)]
  | succ n ih =>
    intro k k0 k1 k2
    by_cases z : k = 0
    · subst z
      refine ⟨fun h => absurd h (tr_W0 (by omega)), fun h => absurd h (tr_W0 (by omega)), fun _ _ => ?_⟩
      rw [tr_0 (by omega), tr_0 (by omega)]
    · have pk := hP k (by omega) k2
      have e1 := tr_1 (ld := ld) hP (show 1 ≤ k by omega) k2
      have e2 := tr_1 (ld := trL pa ld L) hP (show 1 ≤ k by omega) k2
      by_cases c : pa k = pa L
      · have e3 : trL pa ld L (pa k) = L := if_pos c
        rw [c, ef] at e1
        rw [e3, c] at e2
        have i0 := ih (pa L) (by omega) (by omega) (by omega)
        have nf : ¬ trW pa f (pa L) := tr_W0 (by omega)
        have nl : ¬ trW pa L (pa L) := tr_W0 (by omega)
        have i1 := i0.2.2 nf nl
        rw [i1] at e2
        have wf : trW pa f k ↔ k = f := by
          rw [tr_W]
          constructor
          · rintro (h | ⟨-, h⟩)
            · exact h
            · rw [c] at h; exact absurd h nf
          · exact Or.inl
        have wl : trW pa L k ↔ k = L := by
          rw [tr_W]
          constructor
          · rintro (h | ⟨-, h⟩)
            · exact h
            · rw [c] at h; exact absurd h nl
          · exact Or.inl
        rw [wf, wl]
        refine ⟨fun h => ?_, fun h => ?_, fun h1 h2 => ?_⟩
        · subst h
          rw [if_pos rfl] at e1
          rw [if_neg (fun h => hn h.symm)] at e2
          exact ⟨by omega, hn⟩
        · subst h
          rw [if_neg hn] at e1
          rw [if_pos rfl] at e2
          omega
        · rw [if_neg (fun h => h1 h.symm)] at e1
          rw [if_neg (fun h => h2 h.symm)] at e2
          omega
      · have e3 : trL pa ld L (pa k) = ld (pa k) := if_neg c
        rw [e3] at e2
        have i0 := ih (pa k) (by omega) (by omega) (by omega)
        have kf : ¬ k = f := fun h => c (by rw [h]; exact ep)
        have kl : ¬ k = L := fun h => c (by rw [h])
        have wf : trW pa f k ↔ trW pa f (pa k) := by
          rw [tr_W]
          constructor
          · rintro (h | ⟨-, h⟩)
            · exact absurd h kf
            · exact h
          · intro h
            refine Or.inr ⟨?_, h⟩
            by_cases g : f < k
            · exact g
            · exact absurd h (tr_W0 (by omega))
        have wl : trW pa L k ↔ trW pa L (pa k) := by
          rw [tr_W]
          constructor
          · rintro (h | ⟨-, h⟩)
            · exact absurd h kl
            · exact h
          · intro h
            refine Or.inr ⟨?_, h⟩
            by_cases g : L < k
            · exact g
            · exact absurd h (tr_W0 (by omega))
        rw [wf, wl]
        refine ⟨fun h => ?_, fun h => ?_, fun h1 h2 => ?_⟩
        · have i1 := i0.1 h
          exact ⟨by omega, i1.2⟩
        · have i1 := i0.2.1 h
          omega
        · have i1 := i0.2.2 h1 h2
          omega
/-- some node would be too deep, as the class looks at it and as the reference does -/
theorem tr_T {pa ld : Int → Int} {N L f : Int} (hP : trP pa N) (hL : 1 ≤ L ∧ L ≤ N) (hf : 1 ≤ f ∧ f ≤ N) (ef : ld (pa L) = f) (ep : pa f = pa L) (hn : ¬ f = L) (h6 : ∀ k, 1 ≤ k → k ≤ N → trE pa ld k ≤ 6) : (∃ k, 1 ≤ k ∧ k ≤ N ∧ 6 < trE pa (trL pa ld L) k) ↔ ∃ k, 1 ≤ k ∧ k ≤ N ∧ trW pa f k ∧ trE pa ld k = 6 := by
  constructor
  · rintro ⟨k, k1, k2, h⟩
    have i := tr_L hP hL hf ef ep hn k.toNat k (by omega) (by omega) k2
    have d := h6 k k1 k2
    refine ⟨k, k1, k2, ?_⟩
    by_cases c : trW pa f k
    · have := i.1 c
      exact ⟨c, by omega⟩
    · by_cases c2 : trW pa L k
      · have := i.2.1 c2
        omega
      · have := i.2.2 c c2
        omega
  · rintro ⟨k, k1, k2, c, h⟩
    have i := tr_L hP hL hf ef ep hn k.toNat k (by omega) (by omega) k2
    have := (i.1 c).1
    exact ⟨k, k1, k2, by omega⟩
end
section
noncomputable def y_GA_deep : jY := (⟨"ChessHouse$Game", "deep", "(I)I"⟩, prog_7_method_10_code, 5, (some .int))
theorem m_GA_deep : jmth lw_tbl y_GA_deep 1 := ⟨jTA_in (wi := 1557) (jtF_ok rfl) rfl, jTA_in (wi := 311) (jtF_ok rfl) rfl, by decide, by decide, by decide +kernel⟩
theorem i_GA_deep : Jvm.Cond.instanceMethod y_GA_deep.1 ∈ jTA lw_tbl := jTA_in (wi := 1556) (jtF_ok rfl) rfl
theorem e_GA_deep : Jvm.Cond.selects y_GA_deep.1.cls y_GA_deep.1 y_GA_deep.1 ∈ jTA lw_tbl := jTA_in (wi := 62) (jtF_ok rfl) rfl
noncomputable def ak_GAdeep : List jI := [(.iconst 0, 1, (0, 0, 0, 0, 0)), (.istore_n 2, 1, (2, 0, 0, 0, 0)), (.iload_n 1, 1, (1, 0, 0, 0, 0)), (.istore_n 3, 1, (3, 0, 0, 0, 0)), (.iconst 0, 1, (0, 0, 0, 0, 0)), (.istore 4, 2, (4, 0, 0, 0, 0)), (.iload 4, 2, (4, 0, 0, 0, 0)), (.sipush 300, 3, (0, 0, 0, 300, 0)), (.if_icmp .ge 31, 3, (43, 0, 0, 0, 0)), (.iload_n 3, 1, (3, 0, 0, 0, 0)), (.ifCond .eq 27, 3, (43, 0, 0, 0, 0)), (.aload_n 0, 1, (0, 0, 0, 0, 0)), (.iload_n 3, 1, (3, 0, 0, 0, 0)), (.invokevirtual 116, 3, (0, 0, 1558, 0, 0)), (.ifCond .ne 6, 3, (30, 0, 0, 0, 0)), (.iinc 2 1, 3, (0, 0, 0, 1, 0)), (.aload_n 0, 1, (0, 0, 0, 0, 0)), (.getfield 18, 3, (9, 3, 733, 0, 0)), (.iload_n 3, 1, (3, 0, 0, 0, 0)), (.iaload, 1, (0, 0, 0, 0, 0)), (.istore_n 3, 1, (3, 0, 0, 0, 0)), (.iinc 4 1, 3, (0, 0, 0, 1, 0)), (.goto (-33), 3, (7, 0, 0, 0, 0)), (.iload_n 2, 1, (2, 0, 0, 0, 0)), (.ireturn, 1, (0, 0, 0, 0, 0))]
theorem ao_GAdeep : jokLG jtF lk_GA "ChessHouse$Game" jcl jtb 5 prog_7_method_10_code 0 ak_GAdeep = true := by decide +kernel
noncomputable def zm_deep33 : zM := (some .int, { frames := 1, cells := 0, slots := 0, locals := 21 }, ([(116, 1558, 0)], []), [(y_GA_goesOn, false, 2, 9, { frames := 0, cells := 0, slots := 0, locals := 0 }, zc_goesOn33)], ak_GAdeep)
theorem zp_deep33_0 {n K : Nat} {W : zW} {post : zPo} {a : Int} (hK : 6 ≤ K) (hn : 142 ≤ n) (h : zwp jtb zsh n zm_deep33 post (K - 6) (lGo ak_GAdeep 7) 7 [some (.inr (.inr (some (.inl 33)))), some (.inl (a)), some (.inl (0)), some (.inl (a)), some (.inl (0))] [] W) : zwp jtb zsh n zm_deep33 post K (lGo ak_GAdeep 0) 0 [some (.inr (.inr (some (.inl 33)))), some (.inl (a)), none, none, none] [] W := by
  obtain ⟨k, rfl⟩ : ∃ k, K = k + 6 := ⟨K - 6, by omega⟩
  exact (show zwp jtb zsh n zm_deep33 post (k + 0) (lGo ak_GAdeep 7) 7 [some (.inr (.inr (some (.inl 33)))), some (.inl (a)), some (.inl (0)), some (.inl (a)), some (.inl (0))] [] W from h)
theorem zp_deep33_7 {n K : Nat} {W : zW} {post : zPo} {a o u i : Int} (hK : 8 ≤ K) (hn : 142 ≤ n) (h : (300 ≤ i → post (some (.inl (o))) W) ∧ (¬ 300 ≤ i → (u = 0 → post (some (.inl (o))) W) ∧ (¬ u = 0 → zc_goesOn33 [.inr (.inr (some (.inl 33))), .inl (u)] W (fun v W' => zwp jtb zsh n zm_deep33 post (K - 8) (lGo ak_GAdeep 24) 24 [some (.inr (.inr (some (.inl 33)))), some (.inl (a)), some (.inl (o)), some (.inl (u)), some (.inl (i))] (v.toList ++ []) W')))) : zwp jtb zsh n zm_deep33 post K (lGo ak_GAdeep 7) 7 [some (.inr (.inr (some (.inl 33)))), some (.inl (a)), some (.inl (o)), some (.inl (u)), some (.inl (i))] [] W := by
  obtain ⟨k, rfl⟩ : ∃ k, K = k + 8 := ⟨K - 8, by omega⟩
  exact (show (300 ≤ i → 1 = 1 ∧ True ∧ post (some (.inl (o))) W) ∧ (¬ 300 ≤ i → (u = 0 → 1 = 1 ∧ True ∧ post (some (.inl (o))) W) ∧ (¬ u = 0 → 3 = 3 ∧ false = false ∧ jin3 116 1558 0 zm_deep33.2.2.1.1 = true ∧ lRm zm_deep33.2.1 { frames := 0, cells := 0, slots := 0, locals := 0 } 2 = true ∧ Nat.ble 2 2 = true ∧ Nat.ble 0 8 = true ∧ 33 < n ∧ 9 = 9 ∧ Nat.ble 1000 9 = false ∧ zc_goesOn33 [.inr (.inr (some (.inl 33))), .inl (u)] W (fun v W' => zwp jtb zsh n zm_deep33 post (k + 0) (lGo ak_GAdeep 24) 24 [some (.inr (.inr (some (.inl 33)))), some (.inl (a)), some (.inl (o)), some (.inl (u)), some (.inl (i))] (v.toList ++ []) W'))) from ⟨fun hc2 => ⟨rfl, trivial, ((h).1 hc2)⟩, fun hc2 => ⟨fun hc4 => ⟨rfl, trivial, ((((h).2 hc2)).1 hc4)⟩, fun hc4 => ⟨rfl, rfl, rfl, rfl, rfl, rfl, (Nat.lt_of_lt_of_le (by decide) hn), rfl, rfl, ((((h).2 hc2)).2 hc4)⟩⟩⟩)
theorem zp_deep33_24 {n K : Nat} {W : zW} {post : zPo} {a o u i x : Int} (hK : 2 ≤ K) (hn : 142 ≤ n) (h : (¬ x = 0 → zwp jtb zsh n zm_deep33 post (K - 1) (lGo ak_GAdeep 30) 30 [some (.inr (.inr (some (.inl 33)))), some (.inl (a)), some (.inl (o)), some (.inl (u)), some (.inl (i))] [] W) ∧ (x = 0 → (-2147483648 ≤ o + 1 ∧ o + 1 ≤ 2147483647) ∧ zwp jtb zsh n zm_deep33 post (K - 2) (lGo ak_GAdeep 30) 30 [some (.inr (.inr (some (.inl 33)))), some (.inl (a)), some (.inl (o + 1)), some (.inl (u)), some (.inl (i))] [] W)) : zwp jtb zsh n zm_deep33 post K (lGo ak_GAdeep 24) 24 [some (.inr (.inr (some (.inl 33)))), some (.inl (a)), some (.inl (o)), some (.inl (u)), some (.inl (i))] [.inl (x)] W := by
  obtain ⟨k, rfl⟩ : ∃ k, K = k + 2 := ⟨K - 2, by omega⟩
  exact (show (¬ x = 0 → zwp jtb zsh n zm_deep33 post (k + 1) (lGo ak_GAdeep 30) 30 [some (.inr (.inr (some (.inl 33)))), some (.inl (a)), some (.inl (o)), some (.inl (u)), some (.inl (i))] [] W) ∧ (x = 0 → (-2147483648 ≤ o + 1 ∧ o + 1 ≤ 2147483647) ∧ zwp jtb zsh n zm_deep33 post (k + 0) (lGo ak_GAdeep 30) 30 [some (.inr (.inr (some (.inl 33)))), some (.inl (a)), some (.inl (o + 1)), some (.inl (u)), some (.inl (i))] [] W) from ⟨fun hc0 => ((h).1 hc0), fun hc0 => ⟨(((h).2 hc0)).1, (((h).2 hc0)).2⟩⟩)
theorem zp_deep33_30 {n K : Nat} {W : zW} {post : zPo} {a o u i : Int} (hK : 7 ≤ K) (hn : 142 ≤ n) (h : (0 ≤ u ∧ u < 301) ∧ (-2147483648 ≤ i + 1 ∧ i + 1 ≤ 2147483647) ∧ zwp jtb zsh n zm_deep33 post (K - 7) (lGo ak_GAdeep 7) 7 [some (.inr (.inr (some (.inl 33)))), some (.inl (a)), some (.inl (o)), some (.inl (W.2.1 46 u)), some (.inl (i + 1))] [] W) : zwp jtb zsh n zm_deep33 post K (lGo ak_GAdeep 30) 30 [some (.inr (.inr (some (.inl 33)))), some (.inl (a)), some (.inl (o)), some (.inl (u)), some (.inl (i))] [] W := by
  obtain ⟨k, rfl⟩ : ∃ k, K = k + 7 := ⟨K - 7, by omega⟩
  exact (show 33 < n ∧ 9 = 9 ∧ 46 < n ∧ FieldType.int = FieldType.int ∧ (0 ≤ u ∧ u < 301) ∧ (-2147483648 ≤ i + 1 ∧ i + 1 ≤ 2147483647) ∧ zwp jtb zsh n zm_deep33 post (k + 0) (lGo ak_GAdeep 7) 7 [some (.inr (.inr (some (.inl 33)))), some (.inl (a)), some (.inl (o)), some (.inl (W.2.1 46 u)), some (.inl (i + 1))] [] W from ⟨(Nat.lt_of_lt_of_le (by decide) hn), rfl, ⟨(Nat.lt_of_lt_of_le (by decide) hn), rfl, (h).1, ⟨((h).2).1, ((h).2).2⟩⟩⟩)
theorem zg_deep33 {n : Nat} {W : zW} {post : zPo} {a N : Int} (hn : 142 ≤ n) (hN : N ≤ 300) (hP : trP (W.2.1 46) N) : ∀ (m K : Nat) (o u i : Int), 60 * m + 60 ≤ K → u ≤ m → 0 ≤ u → u ≤ N → 0 ≤ o → o ≤ 1000 - m → 0 ≤ i → i + u ≤ 300 → m ≤ 300 → post (some (.inl (o + trE (W.2.1 46) (W.2.1 48) u))) W → zwp jtb zsh n zm_deep33 post K (lGo ak_GAdeep 7) 7 [some (.inr (.inr (some (.inl 33)))), some (.inl a), some (.inl o), some (.inl u), some (.inl i)] [] W := by
  have zero : ∀ o : Int, post (some (.inl (o + trE (W.2.1 46) (W.2.1 48) 0))) W → post (some (.inl o)) W := by
    intro o h
    rw [show trE (W.2.1 46) (W.2.1 48) 0 = 0 from rfl, Int.add_zero] at h
    exact h
  intro m
  induction m with
  | zero =>
    intro K o u i hK hv v0 vN o0 o1 i0 i1 hm hp
    obtain rfl : u = 0 := by omega
    exact zp_deep33_7 (by omega) hn ⟨fun _ => zero o hp, fun _ => ⟨fun _ => zero o hp, fun h => absurd rfl h⟩⟩
  | succ m ih =>
    intro K o u i hK hv v0 vN o0 o1 i0 i1 hm hp
    by_cases hz : u = 0
    · subst hz
      exact zp_deep33_7 (by omega) hn ⟨fun _ => zero o hp, fun _ => ⟨fun _ => zero o hp, fun h => absurd rfl h⟩⟩
    have hq := hP u (by omega) vN
    rw [tr_1 hP (show 1 ≤ u by omega) vN] at hp
    have go : ∀ (K' : Nat) (o' : Int), 60 * m + 80 ≤ K' → 0 ≤ o' → o' ≤ 1000 - m → post (some (.inl (o' + trE (W.2.1 46) (W.2.1 48) (W.2.1 46 u)))) W → zwp jtb zsh n zm_deep33 post K' (lGo ak_GAdeep 30) 30 [some (.inr (.inr (some (.inl 33)))), some (.inl a), some (.inl o'), some (.inl u), some (.inl i)] [] W := by
      intro K' o' hK' h0 h1 hp'
      exact zp_deep33_30 (by omega) hn ⟨by omega, by omega, ih _ o' _ (i + 1) (by omega) (by omega) (by omega) (by omega) h0 h1 (by omega) (by omega) (by omega) hp'⟩
    refine zp_deep33_7 (by omega) hn ⟨fun h => absurd h (by omega), fun _ => ⟨fun h => absurd h hz, fun _ => ⟨u, rfl, v0, by omega, hq.1, by omega, fun r hr => zp_deep33_24 (by omega) hn ⟨fun h => go _ o (by omega) o0 (by omega) ?_, fun h => ⟨by omega, go _ (o + 1) (by omega) (by omega) (by omega) ?_⟩⟩⟩⟩⟩
    · rw [if_pos (xBl_1 hr h), Int.add_zero] at hp
      exact hp
    · rw [if_neg (xBl_0 hr h)] at hp
      rw [show o + 1 + trE (W.2.1 46) (W.2.1 48) (W.2.1 46 u) = o + (trE (W.2.1 46) (W.2.1 48) (W.2.1 46 u) + 1) by omega]
      exact hp
noncomputable def zc_deep33 (vals : List zv) (W : zW) (post : zPo) : Prop := ∃ a N : Int, vals = [.inr (.inr (some (.inl 33))), .inl a] ∧ N ≤ 300 ∧ trP (W.2.1 46) N ∧ 0 ≤ a ∧ a ≤ N ∧ post (some (.inl (trE (W.2.1 46) (W.2.1 48) a))) W
section
variable {l : Launch} {E : jE} {n : Nat}
theorem zk_deep33 (hn : 142 ≤ n) : zHas l E jcl jtb lw_tbl zsh n (y_GA_deep, false, 2, 9, { frames := 1, cells := 0, slots := 0, locals := 21 }, zc_deep33) := by
  refine ⟨⟨rfl, rfl, ⟨show 1 ≤ 2 by decide, m_GA_deep, i_GA_deep, e_GA_deep, fun _ => ⟨_, rfl, rfl⟩⟩⟩, ?_⟩
  rintro vz W po hO hW ⟨a, N, rfl, h0, h1, h2, h3, hp⟩
  refine zmet (m := zm_deep33) rfl (by decide) (fun _ _ => jtF_ok) lo_GA ao_GAdeep jC (fun q h => by cases h) (aAllc (fun G h => by obtain rfl := Option.some.inj h; exact ql_GA_116) (fun q h => by cases h)) (aAllc (zk_goesOn33 hn) (fun q h => by cases h)) (Nat.le_of_ble_eq_true rfl) hO hW 20000 ?_
  exact zp_deep33_0 (by omega) hn (zg_deep33 hn h0 h1 300 _ 0 a 0 (by omega) (by omega) h2 h3 (by omega) (by omega) (by omega) (by omega) (by omega) (by rw [Int.zero_add]; exact hp))
end
noncomputable def zm_deep60 : zM := (some .int, { frames := 1, cells := 0, slots := 0, locals := 21 }, ([(116, 1558, 0)], []), [(y_GA_goesOn, false, 2, 9, { frames := 0, cells := 0, slots := 0, locals := 0 }, zc_goesOn60)], ak_GAdeep)
theorem zp_deep60_0 {n K : Nat} {W : zW} {post : zPo} {a : Int} (hK : 6 ≤ K) (hn : 142 ≤ n) (h : zwp jtb zsh n zm_deep60 post (K - 6) (lGo ak_GAdeep 7) 7 [some (.inr (.inr (some (.inl 60)))), some (.inl (a)), some (.inl (0)), some (.inl (a)), some (.inl (0))] [] W) : zwp jtb zsh n zm_deep60 post K (lGo ak_GAdeep 0) 0 [some (.inr (.inr (some (.inl 60)))), some (.inl (a)), none, none, none] [] W := by
  obtain ⟨k, rfl⟩ : ∃ k, K = k + 6 := ⟨K - 6, by omega⟩
  exact (show zwp jtb zsh n zm_deep60 post (k + 0) (lGo ak_GAdeep 7) 7 [some (.inr (.inr (some (.inl 60)))), some (.inl (a)), some (.inl (0)), some (.inl (a)), some (.inl (0))] [] W from h)
theorem zp_deep60_7 {n K : Nat} {W : zW} {post : zPo} {a o u i : Int} (hK : 8 ≤ K) (hn : 142 ≤ n) (h : (300 ≤ i → post (some (.inl (o))) W) ∧ (¬ 300 ≤ i → (u = 0 → post (some (.inl (o))) W) ∧ (¬ u = 0 → zc_goesOn60 [.inr (.inr (some (.inl 60))), .inl (u)] W (fun v W' => zwp jtb zsh n zm_deep60 post (K - 8) (lGo ak_GAdeep 24) 24 [some (.inr (.inr (some (.inl 60)))), some (.inl (a)), some (.inl (o)), some (.inl (u)), some (.inl (i))] (v.toList ++ []) W')))) : zwp jtb zsh n zm_deep60 post K (lGo ak_GAdeep 7) 7 [some (.inr (.inr (some (.inl 60)))), some (.inl (a)), some (.inl (o)), some (.inl (u)), some (.inl (i))] [] W := by
  obtain ⟨k, rfl⟩ : ∃ k, K = k + 8 := ⟨K - 8, by omega⟩
  exact (show (300 ≤ i → 1 = 1 ∧ True ∧ post (some (.inl (o))) W) ∧ (¬ 300 ≤ i → (u = 0 → 1 = 1 ∧ True ∧ post (some (.inl (o))) W) ∧ (¬ u = 0 → 3 = 3 ∧ false = false ∧ jin3 116 1558 0 zm_deep60.2.2.1.1 = true ∧ lRm zm_deep60.2.1 { frames := 0, cells := 0, slots := 0, locals := 0 } 2 = true ∧ Nat.ble 2 2 = true ∧ Nat.ble 0 8 = true ∧ 60 < n ∧ 9 = 9 ∧ Nat.ble 1000 9 = false ∧ zc_goesOn60 [.inr (.inr (some (.inl 60))), .inl (u)] W (fun v W' => zwp jtb zsh n zm_deep60 post (k + 0) (lGo ak_GAdeep 24) 24 [some (.inr (.inr (some (.inl 60)))), some (.inl (a)), some (.inl (o)), some (.inl (u)), some (.inl (i))] (v.toList ++ []) W'))) from ⟨fun hc2 => ⟨rfl, trivial, ((h).1 hc2)⟩, fun hc2 => ⟨fun hc4 => ⟨rfl, trivial, ((((h).2 hc2)).1 hc4)⟩, fun hc4 => ⟨rfl, rfl, rfl, rfl, rfl, rfl, (Nat.lt_of_lt_of_le (by decide) hn), rfl, rfl, ((((h).2 hc2)).2 hc4)⟩⟩⟩)
theorem zp_deep60_24 {n K : Nat} {W : zW} {post : zPo} {a o u i x : Int} (hK : 2 ≤ K) (hn : 142 ≤ n) (h : (¬ x = 0 → zwp jtb zsh n zm_deep60 post (K - 1) (lGo ak_GAdeep 30) 30 [some (.inr (.inr (some (.inl 60)))), some (.inl (a)), some (.inl (o)), some (.inl (u)), some (.inl (i))] [] W) ∧ (x = 0 → (-2147483648 ≤ o + 1 ∧ o + 1 ≤ 2147483647) ∧ zwp jtb zsh n zm_deep60 post (K - 2) (lGo ak_GAdeep 30) 30 [some (.inr (.inr (some (.inl 60)))), some (.inl (a)), some (.inl (o + 1)), some (.inl (u)), some (.inl (i))] [] W)) : zwp jtb zsh n zm_deep60 post K (lGo ak_GAdeep 24) 24 [some (.inr (.inr (some (.inl 60)))), some (.inl (a)), some (.inl (o)), some (.inl (u)), some (.inl (i))] [.inl (x)] W := by
  obtain ⟨k, rfl⟩ : ∃ k, K = k + 2 := ⟨K - 2, by omega⟩
  exact (show (¬ x = 0 → zwp jtb zsh n zm_deep60 post (k + 1) (lGo ak_GAdeep 30) 30 [some (.inr (.inr (some (.inl 60)))), some (.inl (a)), some (.inl (o)), some (.inl (u)), some (.inl (i))] [] W) ∧ (x = 0 → (-2147483648 ≤ o + 1 ∧ o + 1 ≤ 2147483647) ∧ zwp jtb zsh n zm_deep60 post (k + 0) (lGo ak_GAdeep 30) 30 [some (.inr (.inr (some (.inl 60)))), some (.inl (a)), some (.inl (o + 1)), some (.inl (u)), some (.inl (i))] [] W) from ⟨fun hc0 => ((h).1 hc0), fun hc0 => ⟨(((h).2 hc0)).1, (((h).2 hc0)).2⟩⟩)
theorem zp_deep60_30 {n K : Nat} {W : zW} {post : zPo} {a o u i : Int} (hK : 7 ≤ K) (hn : 142 ≤ n) (h : (0 ≤ u ∧ u < 301) ∧ (-2147483648 ≤ i + 1 ∧ i + 1 ≤ 2147483647) ∧ zwp jtb zsh n zm_deep60 post (K - 7) (lGo ak_GAdeep 7) 7 [some (.inr (.inr (some (.inl 60)))), some (.inl (a)), some (.inl (o)), some (.inl (W.2.1 73 u)), some (.inl (i + 1))] [] W) : zwp jtb zsh n zm_deep60 post K (lGo ak_GAdeep 30) 30 [some (.inr (.inr (some (.inl 60)))), some (.inl (a)), some (.inl (o)), some (.inl (u)), some (.inl (i))] [] W := by
  obtain ⟨k, rfl⟩ : ∃ k, K = k + 7 := ⟨K - 7, by omega⟩
  exact (show 60 < n ∧ 9 = 9 ∧ 73 < n ∧ FieldType.int = FieldType.int ∧ (0 ≤ u ∧ u < 301) ∧ (-2147483648 ≤ i + 1 ∧ i + 1 ≤ 2147483647) ∧ zwp jtb zsh n zm_deep60 post (k + 0) (lGo ak_GAdeep 7) 7 [some (.inr (.inr (some (.inl 60)))), some (.inl (a)), some (.inl (o)), some (.inl (W.2.1 73 u)), some (.inl (i + 1))] [] W from ⟨(Nat.lt_of_lt_of_le (by decide) hn), rfl, ⟨(Nat.lt_of_lt_of_le (by decide) hn), rfl, (h).1, ⟨((h).2).1, ((h).2).2⟩⟩⟩)
theorem zg_deep60 {n : Nat} {W : zW} {post : zPo} {a N : Int} (hn : 142 ≤ n) (hN : N ≤ 300) (hP : trP (W.2.1 73) N) : ∀ (m K : Nat) (o u i : Int), 60 * m + 60 ≤ K → u ≤ m → 0 ≤ u → u ≤ N → 0 ≤ o → o ≤ 1000 - m → 0 ≤ i → i + u ≤ 300 → m ≤ 300 → post (some (.inl (o + trE (W.2.1 73) (W.2.1 75) u))) W → zwp jtb zsh n zm_deep60 post K (lGo ak_GAdeep 7) 7 [some (.inr (.inr (some (.inl 60)))), some (.inl a), some (.inl o), some (.inl u), some (.inl i)] [] W := by
  have zero : ∀ o : Int, post (some (.inl (o + trE (W.2.1 73) (W.2.1 75) 0))) W → post (some (.inl o)) W := by
    intro o h
    rw [show trE (W.2.1 73) (W.2.1 75) 0 = 0 from rfl, Int.add_zero] at h
    exact h
  intro m
  induction m with
  | zero =>
    intro K o u i hK hv v0 vN o0 o1 i0 i1 hm hp
    obtain rfl : u = 0 := by omega
    exact zp_deep60_7 (by omega) hn ⟨fun _ => zero o hp, fun _ => ⟨fun _ => zero o hp, fun h => absurd rfl h⟩⟩
  | succ m ih =>
    intro K o u i hK hv v0 vN o0 o1 i0 i1 hm hp
    by_cases hz : u = 0
    · subst hz
      exact zp_deep60_7 (by omega) hn ⟨fun _ => zero o hp, fun _ => ⟨fun _ => zero o hp, fun h => absurd rfl h⟩⟩
    have hq := hP u (by omega) vN
    rw [tr_1 hP (show 1 ≤ u by omega) vN] at hp
    have go : ∀ (K' : Nat) (o' : Int), 60 * m + 80 ≤ K' → 0 ≤ o' → o' ≤ 1000 - m → post (some (.inl (o' + trE (W.2.1 73) (W.2.1 75) (W.2.1 73 u)))) W → zwp jtb zsh n zm_deep60 post K' (lGo ak_GAdeep 30) 30 [some (.inr (.inr (some (.inl 60)))), some (.inl a), some (.inl o'), some (.inl u), some (.inl i)] [] W := by
      intro K' o' hK' h0 h1 hp'
      exact zp_deep60_30 (by omega) hn ⟨by omega, by omega, ih _ o' _ (i + 1) (by omega) (by omega) (by omega) (by omega) h0 h1 (by omega) (by omega) (by omega) hp'⟩
    refine zp_deep60_7 (by omega) hn ⟨fun h => absurd h (by omega), fun _ => ⟨fun h => absurd h hz, fun _ => ⟨u, rfl, v0, by omega, hq.1, by omega, fun r hr => zp_deep60_24 (by omega) hn ⟨fun h => go _ o (by omega) o0 (by omega) ?_, fun h => ⟨by omega, go _ (o + 1) (by omega) (by omega) (by omega) ?_⟩⟩⟩⟩⟩
    · rw [if_pos (xBl_1 hr h), Int.add_zero] at hp
      exact hp
    · rw [if_neg (xBl_0 hr h)] at hp
      rw [show o + 1 + trE (W.2.1 73) (W.2.1 75) (W.2.1 73 u) = o + (trE (W.2.1 73) (W.2.1 75) (W.2.1 73 u) + 1) by omega]
      exact hp
noncomputable def zc_deep60 (vals : List zv) (W : zW) (post : zPo) : Prop := ∃ a N : Int, vals = [.inr (.inr (some (.inl 60))), .inl a] ∧ N ≤ 300 ∧ trP (W.2.1 73) N ∧ 0 ≤ a ∧ a ≤ N ∧ post (some (.inl (trE (W.2.1 73) (W.2.1 75) a))) W
section
variable {l : Launch} {E : jE} {n : Nat}
theorem zk_deep60 (hn : 142 ≤ n) : zHas l E jcl jtb lw_tbl zsh n (y_GA_deep, false, 2, 9, { frames := 1, cells := 0, slots := 0, locals := 21 }, zc_deep60) := by
  refine ⟨⟨rfl, rfl, ⟨show 1 ≤ 2 by decide, m_GA_deep, i_GA_deep, e_GA_deep, fun _ => ⟨_, rfl, rfl⟩⟩⟩, ?_⟩
  rintro vz W po hO hW ⟨a, N, rfl, h0, h1, h2, h3, hp⟩
  refine zmet (m := zm_deep60) rfl (by decide) (fun _ _ => jtF_ok) lo_GA ao_GAdeep jC (fun q h => by cases h) (aAllc (fun G h => by obtain rfl := Option.some.inj h; exact ql_GA_116) (fun q h => by cases h)) (aAllc (zk_goesOn60 hn) (fun q h => by cases h)) (Nat.le_of_ble_eq_true rfl) hO hW 20000 ?_
  exact zp_deep60_0 (by omega) hn (zg_deep60 hn h0 h1 300 _ 0 a 0 (by omega) (by omega) h2 h3 (by omega) (by omega) (by omega) (by omega) (by omega) (by rw [Int.zero_add]; exact hp))
end
end
section
noncomputable def y_GA_lead : jY := (⟨"ChessHouse$Game", "lead", "(I)V"⟩, prog_7_method_12_code, 5, none)
theorem m_GA_lead : jmth lw_tbl y_GA_lead 1 := ⟨jTA_in (wi := 1597) (jtF_ok rfl) rfl, jTA_in (wi := 311) (jtF_ok rfl) rfl, by decide, by decide, by decide +kernel⟩
theorem i_GA_lead : Jvm.Cond.instanceMethod y_GA_lead.1 ∈ jTA lw_tbl := jTA_in (wi := 1595) (jtF_ok rfl) rfl
theorem e_GA_lead : Jvm.Cond.selects y_GA_lead.1.cls y_GA_lead.1 y_GA_lead.1 ∈ jTA lw_tbl := jTA_in (wi := 1596) (jtF_ok rfl) rfl
noncomputable def ak_GAlead : List jI := [(.aload_n 0, 1, (0, 0, 0, 0, 0)), (.getfield 18, 3, (9, 3, 733, 0, 0)), (.iload_n 1, 1, (1, 0, 0, 0, 0)), (.iaload, 1, (0, 0, 0, 0, 0)), (.istore_n 2, 1, (2, 0, 0, 0, 0)), (.aload_n 0, 1, (0, 0, 0, 0, 0)), (.getfield 25, 3, (9, 5, 739, 0, 0)), (.iload_n 2, 1, (2, 0, 0, 0, 0)), (.iaload, 1, (0, 0, 0, 0, 0)), (.istore_n 3, 1, (3, 0, 0, 0, 0)), (.iconst 0, 1, (0, 0, 0, 0, 0)), (.istore 4, 2, (4, 0, 0, 0, 0)), (.iload 4, 2, (4, 0, 0, 0, 0)), (.sipush 300, 3, (0, 0, 0, 300, 0)), (.if_icmp .ge 30, 3, (52, 0, 0, 0, 0)), (.iload_n 3, 1, (3, 0, 0, 0, 0)), (.ifCond .eq 26, 3, (52, 0, 0, 0, 0)), (.aload_n 0, 1, (0, 0, 0, 0, 0)), (.getfield 28, 3, (9, 6, 742, 0, 0)), (.iload_n 3, 1, (3, 0, 0, 0, 0)), (.iaload, 1, (0, 0, 0, 0, 0)), (.iload_n 1, 1, (1, 0, 0, 0, 0)), (.if_icmp .eq 16, 3, (52, 0, 0, 0, 0)), (.aload_n 0, 1, (0, 0, 0, 0, 0)), (.getfield 28, 3, (9, 6, 742, 0, 0)), (.iload_n 3, 1, (3, 0, 0, 0, 0)), (.iaload, 1, (0, 0, 0, 0, 0)), (.istore_n 3, 1, (3, 0, 0, 0, 0)), (.iinc 4 1, 3, (0, 0, 0, 1, 0)), (.goto (-32), 3, (17, 0, 0, 0, 0)), (.iload_n 3, 1, (3, 0, 0, 0, 0)), (.ifCond .eq 34, 3, (87, 0, 0, 0, 0)), (.aload_n 0, 1, (0, 0, 0, 0, 0)), (.getfield 28, 3, (9, 6, 742, 0, 0)), (.iload_n 3, 1, (3, 0, 0, 0, 0)), (.aload_n 0, 1, (0, 0, 0, 0, 0)), (.getfield 28, 3, (9, 6, 742, 0, 0)), (.iload_n 1, 1, (1, 0, 0, 0, 0)), (.iaload, 1, (0, 0, 0, 0, 0)), (.iastore, 1, (0, 0, 0, 0, 0)), (.aload_n 0, 1, (0, 0, 0, 0, 0)), (.getfield 28, 3, (9, 6, 742, 0, 0)), (.iload_n 1, 1, (1, 0, 0, 0, 0)), (.aload_n 0, 1, (0, 0, 0, 0, 0)), (.getfield 25, 3, (9, 5, 739, 0, 0)), (.iload_n 2, 1, (2, 0, 0, 0, 0)), (.iaload, 1, (0, 0, 0, 0, 0)), (.iastore, 1, (0, 0, 0, 0, 0)), (.aload_n 0, 1, (0, 0, 0, 0, 0)), (.getfield 25, 3, (9, 5, 739, 0, 0)), (.iload_n 2, 1, (2, 0, 0, 0, 0)), (.iload_n 1, 1, (1, 0, 0, 0, 0)), (.iastore, 1, (0, 0, 0, 0, 0)), (.return_, 1, (0, 0, 0, 0, 0))]
theorem ao_GAlead : jokLG jtF lk_GA "ChessHouse$Game" jcl jtb 5 prog_7_method_12_code 0 ak_GAlead = true := by decide +kernel
noncomputable def zm_lead33 : zM := (none, { frames := 0, cells := 0, slots := 0, locals := 0 }, ([], []), [], ak_GAlead)
theorem zp_lead33_0 {n K : Nat} {W : zW} {post : zPo} {u : Int} (hK : 12 ≤ K) (hn : 142 ≤ n) (h : (0 ≤ u ∧ u < 301) ∧ (0 ≤ (W.2.1 46 u) ∧ (W.2.1 46 u) < 301) ∧ zwp jtb zsh n zm_lead33 post (K - 12) (lGo ak_GAlead 17) 17 [some (.inr (.inr (some (.inl 33)))), some (.inl (u)), some (.inl (W.2.1 46 u)), some (.inl (W.2.1 48 (W.2.1 46 u))), some (.inl (0))] [] W) : zwp jtb zsh n zm_lead33 post K (lGo ak_GAlead 0) 0 [some (.inr (.inr (some (.inl 33)))), some (.inl (u)), none, none, none] [] W := by
  obtain ⟨k, rfl⟩ : ∃ k, K = k + 12 := ⟨K - 12, by omega⟩
  exact (show 33 < n ∧ 9 = 9 ∧ 46 < n ∧ FieldType.int = FieldType.int ∧ (0 ≤ u ∧ u < 301) ∧ 33 < n ∧ 9 = 9 ∧ 48 < n ∧ FieldType.int = FieldType.int ∧ (0 ≤ (W.2.1 46 u) ∧ (W.2.1 46 u) < 301) ∧ zwp jtb zsh n zm_lead33 post (k + 0) (lGo ak_GAlead 17) 17 [some (.inr (.inr (some (.inl 33)))), some (.inl (u)), some (.inl (W.2.1 46 u)), some (.inl (W.2.1 48 (W.2.1 46 u))), some (.inl (0))] [] W from ⟨(Nat.lt_of_lt_of_le (by decide) hn), rfl, ⟨(Nat.lt_of_lt_of_le (by decide) hn), rfl, (h).1, ⟨(Nat.lt_of_lt_of_le (by decide) hn), rfl, ⟨(Nat.lt_of_lt_of_le (by decide) hn), rfl, ((h).2).1, ((h).2).2⟩⟩⟩⟩)
theorem zp_lead33_17 {n K : Nat} {W : zW} {post : zPo} {u c y i : Int} (hK : 18 ≤ K) (hn : 142 ≤ n) (h : (300 ≤ i → zwp jtb zsh n zm_lead33 post (K - 3) (lGo ak_GAlead 52) 52 [some (.inr (.inr (some (.inl 33)))), some (.inl (u)), some (.inl (c)), some (.inl (y)), some (.inl (i))] [] W) ∧ (¬ 300 ≤ i → (y = 0 → zwp jtb zsh n zm_lead33 post (K - 5) (lGo ak_GAlead 52) 52 [some (.inr (.inr (some (.inl 33)))), some (.inl (u)), some (.inl (c)), some (.inl (y)), some (.inl (i))] [] W) ∧ (¬ y = 0 → (0 ≤ y ∧ y < 301) ∧ ((W.2.1 49 y) = u → zwp jtb zsh n zm_lead33 post (K - 11) (lGo ak_GAlead 52) 52 [some (.inr (.inr (some (.inl 33)))), some (.inl (u)), some (.inl (c)), some (.inl (y)), some (.inl (i))] [] W) ∧ (¬ (W.2.1 49 y) = u → (0 ≤ y ∧ y < 301) ∧ (-2147483648 ≤ i + 1 ∧ i + 1 ≤ 2147483647) ∧ zwp jtb zsh n zm_lead33 post (K - 18) (lGo ak_GAlead 17) 17 [some (.inr (.inr (some (.inl 33)))), some (.inl (u)), some (.inl (c)), some (.inl (W.2.1 49 y)), some (.inl (i + 1))] [] W)))) : zwp jtb zsh n zm_lead33 post K (lGo ak_GAlead 17) 17 [some (.inr (.inr (some (.inl 33)))), some (.inl (u)), some (.inl (c)), some (.inl (y)), some (.inl (i))] [] W := by
  obtain ⟨k, rfl⟩ : ∃ k, K = k + 18 := ⟨K - 18, by omega⟩
  exact (show (300 ≤ i → zwp jtb zsh n zm_lead33 post (k + 15) (lGo ak_GAlead 52) 52 [some (.inr (.inr (some (.inl 33)))), some (.inl (u)), some (.inl (c)), some (.inl (y)), some (.inl (i))] [] W) ∧ (¬ 300 ≤ i → (y = 0 → zwp jtb zsh n zm_lead33 post (k + 13) (lGo ak_GAlead 52) 52 [some (.inr (.inr (some (.inl 33)))), some (.inl (u)), some (.inl (c)), some (.inl (y)), some (.inl (i))] [] W) ∧ (¬ y = 0 → 33 < n ∧ 9 = 9 ∧ 49 < n ∧ FieldType.int = FieldType.int ∧ (0 ≤ y ∧ y < 301) ∧ ((W.2.1 49 y) = u → zwp jtb zsh n zm_lead33 post (k + 7) (lGo ak_GAlead 52) 52 [some (.inr (.inr (some (.inl 33)))), some (.inl (u)), some (.inl (c)), some (.inl (y)), some (.inl (i))] [] W) ∧ (¬ (W.2.1 49 y) = u → 33 < n ∧ 9 = 9 ∧ 49 < n ∧ FieldType.int = FieldType.int ∧ (0 ≤ y ∧ y < 301) ∧ (-2147483648 ≤ i + 1 ∧ i + 1 ≤ 2147483647) ∧ zwp jtb zsh n zm_lead33 post (k + 0) (lGo ak_GAlead 17) 17 [some (.inr (.inr (some (.inl 33)))), some (.inl (u)), some (.inl (c)), some (.inl (W.2.1 49 y)), some (.inl (i + 1))] [] W))) from ⟨fun hc2 => ((h).1 hc2), fun hc2 => ⟨fun hc4 => ((((h).2 hc2)).1 hc4), fun hc4 => ⟨(Nat.lt_of_lt_of_le (by decide) hn), rfl, ⟨(Nat.lt_of_lt_of_le (by decide) hn), rfl, (((((h).2 hc2)).2 hc4)).1, (have h := (((((h).2 hc2)).2 hc4)).2; ⟨fun hc10 => ((h).1 hc10), fun hc10 => ⟨(Nat.lt_of_lt_of_le (by decide) hn), rfl, ⟨(Nat.lt_of_lt_of_le (by decide) hn), rfl, (((h).2 hc10)).1, ⟨((((h).2 hc10)).2).1, ((((h).2 hc10)).2).2⟩⟩⟩⟩)⟩⟩⟩⟩)
theorem zp_lead33_52 {n K : Nat} {W : zW} {post : zPo} {u c y i : Int} (hK : 24 ≤ K) (hn : 142 ≤ n) (h : (y = 0 → post none W) ∧ (¬ y = 0 → (0 ≤ u ∧ u < 301) ∧ (0 ≤ y ∧ y < 301) ∧ (0 ≤ c ∧ c < 301) ∧ (0 ≤ u ∧ u < 301) ∧ (0 ≤ c ∧ c < 301) ∧ post none (zuR (zuR (zuR W 49 y (W.2.1 49 u)) 49 u (W.2.1 48 c)) 48 c u))) : zwp jtb zsh n zm_lead33 post K (lGo ak_GAlead 52) 52 [some (.inr (.inr (some (.inl 33)))), some (.inl (u)), some (.inl (c)), some (.inl (y)), some (.inl (i))] [] W := by
  obtain ⟨k, rfl⟩ : ∃ k, K = k + 24 := ⟨K - 24, by omega⟩
  exact (show (y = 0 → 1 = 1 ∧ (none : Option FieldType) = none ∧ post none W) ∧ (¬ y = 0 → 33 < n ∧ 9 = 9 ∧ 33 < n ∧ 9 = 9 ∧ 49 < n ∧ FieldType.int = FieldType.int ∧ (0 ≤ u ∧ u < 301) ∧ 49 < n ∧ FieldType.int = FieldType.int ∧ (0 ≤ y ∧ y < 301) ∧ True ∧ 33 < n ∧ 9 = 9 ∧ 33 < n ∧ 9 = 9 ∧ 48 < n ∧ FieldType.int = FieldType.int ∧ (0 ≤ c ∧ c < 301) ∧ 49 < n ∧ FieldType.int = FieldType.int ∧ (0 ≤ u ∧ u < 301) ∧ True ∧ 33 < n ∧ 9 = 9 ∧ 48 < n ∧ FieldType.int = FieldType.int ∧ (0 ≤ c ∧ c < 301) ∧ True ∧ 1 = 1 ∧ (none : Option FieldType) = none ∧ post none (zuR (zuR (zuR W 49 y (W.2.1 49 u)) 49 u (W.2.1 48 c)) 48 c u)) from ⟨fun hc1 => ⟨rfl, rfl, ((h).1 hc1)⟩, fun hc1 => ⟨(Nat.lt_of_lt_of_le (by decide) hn), rfl, ⟨(Nat.lt_of_lt_of_le (by decide) hn), rfl, ⟨(Nat.lt_of_lt_of_le (by decide) hn), rfl, (((h).2 hc1)).1, ⟨(Nat.lt_of_lt_of_le (by decide) hn), rfl, ((((h).2 hc1)).2).1, trivial, ⟨(Nat.lt_of_lt_of_le (by decide) hn), rfl, ⟨(Nat.lt_of_lt_of_le (by decide) hn), rfl, ⟨(Nat.lt_of_lt_of_le (by decide) hn), rfl, (((((h).2 hc1)).2).2).1, ⟨(Nat.lt_of_lt_of_le (by decide) hn), rfl, ((((((h).2 hc1)).2).2).2).1, trivial, (have h := ((((((h).2 hc1)).2).2).2).2; ⟨(Nat.lt_of_lt_of_le (by decide) hn), rfl, ⟨(Nat.lt_of_lt_of_le (by decide) hn), rfl, (h).1, trivial, ⟨rfl, rfl, (h).2⟩⟩⟩)⟩⟩⟩⟩⟩⟩⟩⟩⟩)
theorem zg_lead33 {n : Nat} {W : zW} {post : zPo} {u c b : Int} {p2 : List Int} (hn : 142 ≤ n) (hu : 0 ≤ u ∧ u < 301) (hc : 0 ≤ c ∧ c < 301) (hb : 0 < b ∧ b < 301) (hp : post none (zuR (zuR (zuR W 49 b (W.2.1 49 u)) 49 u (W.2.1 48 c)) 48 c u)) : ∀ (p1 : List Int) (K : Nat) (y i : Int), 40 * p1.length + 80 ≤ K → xCh (W.2.1 49) y (p1 ++ b :: u :: p2) → (∀ x ∈ p1, ¬ x = u ∧ 0 < x ∧ x < 301) → ¬ b = u → 0 ≤ i → i + p1.length < 300 → zwp jtb zsh n zm_lead33 post K (lGo ak_GAlead 17) 17 [some (.inr (.inr (some (.inl 33)))), some (.inl u), some (.inl c), some (.inl y), some (.inl i)] [] W := by
  intro p1
  induction p1 with
  | nil =>
    intro K y i hK hC hr hbu i0 i1
    obtain ⟨rfl, hy, hC2, hu0, -⟩ := hC
    rw [List.length_nil] at hK i1
    refine zp_lead33_17 (by omega) hn ⟨fun h => absurd h (by omega), fun _ => ⟨fun h => absurd h hy, fun _ => ⟨by omega, fun _ => zp_lead33_52 (by omega) hn ⟨fun h => absurd h hy, fun _ => ?_⟩, fun h => absurd hC2 h⟩⟩⟩
    exact ⟨by omega, by omega, by omega, by omega, by omega, hp⟩
  | cons x p1 ih =>
    intro K y i hK hC hr hbu i0 i1
    obtain ⟨rfl, hy, hC2⟩ := hC
    rw [List.length_cons] at hK i1
    have hv := hr y (List.mem_cons_self ..)
    have hne : ¬ W.2.1 49 y = u := by
      cases p1 with
      | nil =>
        obtain ⟨e, -⟩ := hC2
        rw [e]
        exact hbu
      | cons z q =>
        obtain ⟨e, -⟩ := hC2
        rw [e]
        exact (hr z (List.mem_cons_of_mem _ (List.mem_cons_self ..))).1
    exact zp_lead33_17 (by omega) hn ⟨fun h => absurd h (by omega), fun _ => ⟨fun h => absurd h hy, fun _ => ⟨by omega, fun h => absurd h hne, fun _ => ⟨by omega, by omega, ih _ _ (i + 1) (by omega) hC2 (fun z hz => hr z (List.mem_cons_of_mem _ hz)) hbu (by omega) (by omega)⟩⟩⟩⟩
/-- a node that is not the first of its chain is led -/
noncomputable def zc_lead33 (vals : List zv) (W : zW) (post : zPo) : Prop := ∃ (u b : Int) (p1 p2 : List Int), vals = [.inr (.inr (some (.inl 33))), .inl u] ∧ 0 ≤ u ∧ u < 301 ∧ 0 ≤ W.2.1 46 u ∧ W.2.1 46 u < 301 ∧ 0 < b ∧ b < 301 ∧ ¬ b = u ∧ (∀ x ∈ p1, ¬ x = u ∧ 0 < x ∧ x < 301) ∧ p1.length < 300 ∧ xCh (W.2.1 49) (W.2.1 48 (W.2.1 46 u)) (p1 ++ b :: u :: p2) ∧ post none (zuR (zuR (zuR W 49 b (W.2.1 49 u)) 49 u (W.2.1 48 (W.2.1 46 u))) 48 (W.2.1 46 u) u)
section
variable {l : Launch} {E : jE} {n : Nat}
theorem zk_lead33 (hn : 142 ≤ n) : zHas l E jcl jtb lw_tbl zsh n (y_GA_lead, false, 2, 9, { frames := 0, cells := 0, slots := 0, locals := 0 }, zc_lead33) := by
  refine ⟨⟨rfl, rfl, ⟨show 1 ≤ 2 by decide, m_GA_lead, i_GA_lead, e_GA_lead, fun _ => ⟨_, rfl, rfl⟩⟩⟩, ?_⟩
  rintro vz W po hO hW ⟨u, b, p1, p2, rfl, h0, h1, h2, h3, h4, h5, h6, h7, h8, h9, hp⟩
  refine zmet (m := zm_lead33) rfl (by decide) (fun _ _ => jtF_ok) lo_GA ao_GAlead jC (fun q h => by cases h) (fun q h => by cases h) (fun G h => by cases h) (Nat.le_of_ble_eq_true rfl) hO hW 14000 ?_
  exact zp_lead33_0 (by omega) hn ⟨by omega, by omega, zg_lead33 hn ⟨h0, h1⟩ ⟨h2, h3⟩ ⟨h4, h5⟩ hp p1 _ _ 0 (by omega) h9 h7 h6 (by omega) (by omega)⟩
end
noncomputable def zm_lead60 : zM := (none, { frames := 0, cells := 0, slots := 0, locals := 0 }, ([], []), [], ak_GAlead)
theorem zp_lead60_0 {n K : Nat} {W : zW} {post : zPo} {u : Int} (hK : 12 ≤ K) (hn : 142 ≤ n) (h : (0 ≤ u ∧ u < 301) ∧ (0 ≤ (W.2.1 73 u) ∧ (W.2.1 73 u) < 301) ∧ zwp jtb zsh n zm_lead60 post (K - 12) (lGo ak_GAlead 17) 17 [some (.inr (.inr (some (.inl 60)))), some (.inl (u)), some (.inl (W.2.1 73 u)), some (.inl (W.2.1 75 (W.2.1 73 u))), some (.inl (0))] [] W) : zwp jtb zsh n zm_lead60 post K (lGo ak_GAlead 0) 0 [some (.inr (.inr (some (.inl 60)))), some (.inl (u)), none, none, none] [] W := by
  obtain ⟨k, rfl⟩ : ∃ k, K = k + 12 := ⟨K - 12, by omega⟩
  exact (show 60 < n ∧ 9 = 9 ∧ 73 < n ∧ FieldType.int = FieldType.int ∧ (0 ≤ u ∧ u < 301) ∧ 60 < n ∧ 9 = 9 ∧ 75 < n ∧ FieldType.int = FieldType.int ∧ (0 ≤ (W.2.1 73 u) ∧ (W.2.1 73 u) < 301) ∧ zwp jtb zsh n zm_lead60 post (k + 0) (lGo ak_GAlead 17) 17 [some (.inr (.inr (some (.inl 60)))), some (.inl (u)), some (.inl (W.2.1 73 u)), some (.inl (W.2.1 75 (W.2.1 73 u))), some (.inl (0))] [] W from ⟨(Nat.lt_of_lt_of_le (by decide) hn), rfl, ⟨(Nat.lt_of_lt_of_le (by decide) hn), rfl, (h).1, ⟨(Nat.lt_of_lt_of_le (by decide) hn), rfl, ⟨(Nat.lt_of_lt_of_le (by decide) hn), rfl, ((h).2).1, ((h).2).2⟩⟩⟩⟩)
theorem zp_lead60_17 {n K : Nat} {W : zW} {post : zPo} {u c y i : Int} (hK : 18 ≤ K) (hn : 142 ≤ n) (h : (300 ≤ i → zwp jtb zsh n zm_lead60 post (K - 3) (lGo ak_GAlead 52) 52 [some (.inr (.inr (some (.inl 60)))), some (.inl (u)), some (.inl (c)), some (.inl (y)), some (.inl (i))] [] W) ∧ (¬ 300 ≤ i → (y = 0 → zwp jtb zsh n zm_lead60 post (K - 5) (lGo ak_GAlead 52) 52 [some (.inr (.inr (some (.inl 60)))), some (.inl (u)), some (.inl (c)), some (.inl (y)), some (.inl (i))] [] W) ∧ (¬ y = 0 → (0 ≤ y ∧ y < 301) ∧ ((W.2.1 76 y) = u → zwp jtb zsh n zm_lead60 post (K - 11) (lGo ak_GAlead 52) 52 [some (.inr (.inr (some (.inl 60)))), some (.inl (u)), some (.inl (c)), some (.inl (y)), some (.inl (i))] [] W) ∧ (¬ (W.2.1 76 y) = u → (0 ≤ y ∧ y < 301) ∧ (-2147483648 ≤ i + 1 ∧ i + 1 ≤ 2147483647) ∧ zwp jtb zsh n zm_lead60 post (K - 18) (lGo ak_GAlead 17) 17 [some (.inr (.inr (some (.inl 60)))), some (.inl (u)), some (.inl (c)), some (.inl (W.2.1 76 y)), some (.inl (i + 1))] [] W)))) : zwp jtb zsh n zm_lead60 post K (lGo ak_GAlead 17) 17 [some (.inr (.inr (some (.inl 60)))), some (.inl (u)), some (.inl (c)), some (.inl (y)), some (.inl (i))] [] W := by
  obtain ⟨k, rfl⟩ : ∃ k, K = k + 18 := ⟨K - 18, by omega⟩
  exact (show (300 ≤ i → zwp jtb zsh n zm_lead60 post (k + 15) (lGo ak_GAlead 52) 52 [some (.inr (.inr (some (.inl 60)))), some (.inl (u)), some (.inl (c)), some (.inl (y)), some (.inl (i))] [] W) ∧ (¬ 300 ≤ i → (y = 0 → zwp jtb zsh n zm_lead60 post (k + 13) (lGo ak_GAlead 52) 52 [some (.inr (.inr (some (.inl 60)))), some (.inl (u)), some (.inl (c)), some (.inl (y)), some (.inl (i))] [] W) ∧ (¬ y = 0 → 60 < n ∧ 9 = 9 ∧ 76 < n ∧ FieldType.int = FieldType.int ∧ (0 ≤ y ∧ y < 301) ∧ ((W.2.1 76 y) = u → zwp jtb zsh n zm_lead60 post (k + 7) (lGo ak_GAlead 52) 52 [some (.inr (.inr (some (.inl 60)))), some (.inl (u)), some (.inl (c)), some (.inl (y)), some (.inl (i))] [] W) ∧ (¬ (W.2.1 76 y) = u → 60 < n ∧ 9 = 9 ∧ 76 < n ∧ FieldType.int = FieldType.int ∧ (0 ≤ y ∧ y < 301) ∧ (-2147483648 ≤ i + 1 ∧ i + 1 ≤ 2147483647) ∧ zwp jtb zsh n zm_lead60 post (k + 0) (lGo ak_GAlead 17) 17 [some (.inr (.inr (some (.inl 60)))), some (.inl (u)), some (.inl (c)), some (.inl (W.2.1 76 y)), some (.inl (i + 1))] [] W))) from ⟨fun hc2 => ((h).1 hc2), fun hc2 => ⟨fun hc4 => ((((h).2 hc2)).1 hc4), fun hc4 => ⟨(Nat.lt_of_lt_of_le (by decide) hn), rfl, ⟨(Nat.lt_of_lt_of_le (by decide) hn), rfl, (((((h).2 hc2)).2 hc4)).1, (have h := (((((h).2 hc2)).2 hc4)).2; ⟨fun hc10 => ((h).1 hc10), fun hc10 => ⟨(Nat.lt_of_lt_of_le (by decide) hn), rfl, ⟨(Nat.lt_of_lt_of_le (by decide) hn), rfl, (((h).2 hc10)).1, ⟨((((h).2 hc10)).2).1, ((((h).2 hc10)).2).2⟩⟩⟩⟩)⟩⟩⟩⟩)
theorem zp_lead60_52 {n K : Nat} {W : zW} {post : zPo} {u c y i : Int} (hK : 24 ≤ K) (hn : 142 ≤ n) (h : (y = 0 → post none W) ∧ (¬ y = 0 → (0 ≤ u ∧ u < 301) ∧ (0 ≤ y ∧ y < 301) ∧ (0 ≤ c ∧ c < 301) ∧ (0 ≤ u ∧ u < 301) ∧ (0 ≤ c ∧ c < 301) ∧ post none (zuR (zuR (zuR W 76 y (W.2.1 76 u)) 76 u (W.2.1 75 c)) 75 c u))) : zwp jtb zsh n zm_lead60 post K (lGo ak_GAlead 52) 52 [some (.inr (.inr (some (.inl 60)))), some (.inl (u)), some (.inl (c)), some (.inl (y)), some (.inl (i))] [] W := by
  obtain ⟨k, rfl⟩ : ∃ k, K = k + 24 := ⟨K - 24, by omega⟩
  exact (show (y = 0 → 1 = 1 ∧ (none : Option FieldType) = none ∧ post none W) ∧ (¬ y = 0 → 60 < n ∧ 9 = 9 ∧ 60 < n ∧ 9 = 9 ∧ 76 < n ∧ FieldType.int = FieldType.int ∧ (0 ≤ u ∧ u < 301) ∧ 76 < n ∧ FieldType.int = FieldType.int ∧ (0 ≤ y ∧ y < 301) ∧ True ∧ 60 < n ∧ 9 = 9 ∧ 60 < n ∧ 9 = 9 ∧ 75 < n ∧ FieldType.int = FieldType.int ∧ (0 ≤ c ∧ c < 301) ∧ 76 < n ∧ FieldType.int = FieldType.int ∧ (0 ≤ u ∧ u < 301) ∧ True ∧ 60 < n ∧ 9 = 9 ∧ 75 < n ∧ FieldType.int = FieldType.int ∧ (0 ≤ c ∧ c < 301) ∧ True ∧ 1 = 1 ∧ (none : Option FieldType) = none ∧ post none (zuR (zuR (zuR W 76 y (W.2.1 76 u)) 76 u (W.2.1 75 c)) 75 c u)) from ⟨fun hc1 => ⟨rfl, rfl, ((h).1 hc1)⟩, fun hc1 => ⟨(Nat.lt_of_lt_of_le (by decide) hn), rfl, ⟨(Nat.lt_of_lt_of_le (by decide) hn), rfl, ⟨(Nat.lt_of_lt_of_le (by decide) hn), rfl, (((h).2 hc1)).1, ⟨(Nat.lt_of_lt_of_le (by decide) hn), rfl, ((((h).2 hc1)).2).1, trivial, ⟨(Nat.lt_of_lt_of_le (by decide) hn), rfl, ⟨(Nat.lt_of_lt_of_le (by decide) hn), rfl, ⟨(Nat.lt_of_lt_of_le (by decide) hn), rfl, (((((h).2 hc1)).2).2).1, ⟨(Nat.lt_of_lt_of_le (by decide) hn), rfl, ((((((h).2 hc1)).2).2).2).1, trivial, (have h := ((((((h).2 hc1)).2).2).2).2; ⟨(Nat.lt_of_lt_of_le (by decide) hn), rfl, ⟨(Nat.lt_of_lt_of_le (by decide) hn), rfl, (h).1, trivial, ⟨rfl, rfl, (h).2⟩⟩⟩)⟩⟩⟩⟩⟩⟩⟩⟩⟩)
theorem zg_lead60 {n : Nat} {W : zW} {post : zPo} {u c b : Int} {p2 : List Int} (hn : 142 ≤ n) (hu : 0 ≤ u ∧ u < 301) (hc : 0 ≤ c ∧ c < 301) (hb : 0 < b ∧ b < 301) (hp : post none (zuR (zuR (zuR W 76 b (W.2.1 76 u)) 76 u (W.2.1 75 c)) 75 c u)) : ∀ (p1 : List Int) (K : Nat) (y i : Int), 40 * p1.length + 80 ≤ K → xCh (W.2.1 76) y (p1 ++ b :: u :: p2) → (∀ x ∈ p1, ¬ x = u ∧ 0 < x ∧ x < 301) → ¬ b = u → 0 ≤ i → i + p1.length < 300 → zwp jtb zsh n zm_lead60 post K (lGo ak_GAlead 17) 17 [some (.inr (.inr (some (.inl 60)))), some (.inl u), some (.inl c), some (.inl y), some (.inl i)] [] W := by
  intro p1
  induction p1 with
  | nil =>
    intro K y i hK hC hr hbu i0 i1
    obtain ⟨rfl, hy, hC2, hu0, -⟩ := hC
    rw [List.length_nil] at hK i1
    refine zp_lead60_17 (by omega) hn ⟨fun h => absurd h (by omega), fun _ => ⟨fun h => absurd h hy, fun _ => ⟨by omega, fun _ => zp_lead60_52 (by omega) hn ⟨fun h => absurd h hy, fun _ => ?_⟩, fun h => absurd hC2 h⟩⟩⟩
    exact ⟨by omega, by omega, by omega, by omega, by omega, hp⟩
  | cons x p1 ih =>
    intro K y i hK hC hr hbu i0 i1
    obtain ⟨rfl, hy, hC2⟩ := hC
    rw [List.length_cons] at hK i1
    have hv := hr y (List.mem_cons_self ..)
    have hne : ¬ W.2.1 76 y = u := by
      cases p1 with
      | nil =>
        obtain ⟨e, -⟩ := hC2
        rw [e]
        exact hbu
      | cons z q =>
        obtain ⟨e, -⟩ := hC2
        rw [e]
        exact (hr z (List.mem_cons_of_mem _ (List.mem_cons_self ..))).1
    exact zp_lead60_17 (by omega) hn ⟨fun h => absurd h (by omega), fun _ => ⟨fun h => absurd h hy, fun _ => ⟨by omega, fun h => absurd h hne, fun _ => ⟨by omega, by omega, ih _ _ (i + 1) (by omega) hC2 (fun z hz => hr z (List.mem_cons_of_mem _ hz)) hbu (by omega) (by omega)⟩⟩⟩⟩
/-- a node that is not the first of its chain is led -/
noncomputable def zc_lead60 (vals : List zv) (W : zW) (post : zPo) : Prop := ∃ (u b : Int) (p1 p2 : List Int), vals = [.inr (.inr (some (.inl 60))), .inl u] ∧ 0 ≤ u ∧ u < 301 ∧ 0 ≤ W.2.1 73 u ∧ W.2.1 73 u < 301 ∧ 0 < b ∧ b < 301 ∧ ¬ b = u ∧ (∀ x ∈ p1, ¬ x = u ∧ 0 < x ∧ x < 301) ∧ p1.length < 300 ∧ xCh (W.2.1 76) (W.2.1 75 (W.2.1 73 u)) (p1 ++ b :: u :: p2) ∧ post none (zuR (zuR (zuR W 76 b (W.2.1 76 u)) 76 u (W.2.1 75 (W.2.1 73 u))) 75 (W.2.1 73 u) u)
section
variable {l : Launch} {E : jE} {n : Nat}
theorem zk_lead60 (hn : 142 ≤ n) : zHas l E jcl jtb lw_tbl zsh n (y_GA_lead, false, 2, 9, { frames := 0, cells := 0, slots := 0, locals := 0 }, zc_lead60) := by
  refine ⟨⟨rfl, rfl, ⟨show 1 ≤ 2 by decide, m_GA_lead, i_GA_lead, e_GA_lead, fun _ => ⟨_, rfl, rfl⟩⟩⟩, ?_⟩
  rintro vz W po hO hW ⟨u, b, p1, p2, rfl, h0, h1, h2, h3, h4, h5, h6, h7, h8, h9, hp⟩
  refine zmet (m := zm_lead60) rfl (by decide) (fun _ _ => jtF_ok) lo_GA ao_GAlead jC (fun q h => by cases h) (fun q h => by cases h) (fun G h => by cases h) (Nat.le_of_ble_eq_true rfl) hO hW 14000 ?_
  exact zp_lead60_0 (by omega) hn ⟨by omega, by omega, zg_lead60 hn ⟨h0, h1⟩ ⟨h2, h3⟩ ⟨h4, h5⟩ hp p1 _ _ 0 (by omega) h9 h7 h6 (by omega) (by omega)⟩
end
end
section
noncomputable def y_GA_tooDeepIfLed : jY := (⟨"ChessHouse$Game", "tooDeepIfLed", "(I)Z"⟩, prog_7_method_11_code, 5, (some .boolean))
theorem m_GA_tooDeepIfLed : jmth lw_tbl y_GA_tooDeepIfLed 1 := ⟨jTA_in (wi := 1593) (jtF_ok rfl) rfl, jTA_in (wi := 311) (jtF_ok rfl) rfl, by decide, by decide, by decide +kernel⟩
theorem i_GA_tooDeepIfLed : Jvm.Cond.instanceMethod y_GA_tooDeepIfLed.1 ∈ jTA lw_tbl := jTA_in (wi := 1591) (jtF_ok rfl) rfl
theorem e_GA_tooDeepIfLed : Jvm.Cond.selects y_GA_tooDeepIfLed.1.cls y_GA_tooDeepIfLed.1 y_GA_tooDeepIfLed.1 ∈ jTA lw_tbl := jTA_in (wi := 1592) (jtF_ok rfl) rfl
noncomputable def ak_GAtooDeep : List jI := [(.aload_n 0, 1, (0, 0, 0, 0, 0)), (.getfield 49, 3, (9, 12, 757, 0, 0)), (.iconst 0, 1, (0, 0, 0, 0, 0)), (.iconst 0, 1, (0, 0, 0, 0, 0)), (.iastore, 1, (0, 0, 0, 0, 0)), (.iconst 1, 1, (0, 0, 0, 1, 0)), (.istore_n 2, 1, (2, 0, 0, 0, 0)), (.iload_n 2, 1, (2, 0, 0, 0, 0)), (.aload_n 0, 1, (0, 0, 0, 0, 0)), (.getfield 67, 3, (9, 1, 726, 0, 0)), (.if_icmp .gt 75, 3, (89, 0, 0, 0, 0)), (.aload_n 0, 1, (0, 0, 0, 0, 0)), (.getfield 18, 3, (9, 3, 733, 0, 0)), (.iload_n 2, 1, (2, 0, 0, 0, 0)), (.iaload, 1, (0, 0, 0, 0, 0)), (.istore_n 3, 1, (3, 0, 0, 0, 0)), (.iload_n 3, 1, (3, 0, 0, 0, 0)), (.aload_n 0, 1, (0, 0, 0, 0, 0)), (.getfield 18, 3, (9, 3, 733, 0, 0)), (.iload_n 1, 1, (1, 0, 0, 0, 0)), (.iaload, 1, (0, 0, 0, 0, 0)), (.if_icmp .ne 7, 3, (38, 0, 0, 0, 0)), (.iload_n 1, 1, (1, 0, 0, 0, 0)), (.goto 9, 3, (44, 0, 0, 0, 0)), (.aload_n 0, 1, (0, 0, 0, 0, 0)), (.getfield 25, 3, (9, 5, 739, 0, 0)), (.iload_n 3, 1, (3, 0, 0, 0, 0)), (.iaload, 1, (0, 0, 0, 0, 0)), (.istore 4, 2, (4, 0, 0, 0, 0)), (.aload_n 0, 1, (0, 0, 0, 0, 0)), (.getfield 49, 3, (9, 12, 757, 0, 0)), (.iload_n 2, 1, (2, 0, 0, 0, 0)), (.aload_n 0, 1, (0, 0, 0, 0, 0)), (.getfield 49, 3, (9, 12, 757, 0, 0)), (.iload_n 3, 1, (3, 0, 0, 0, 0)), (.iaload, 1, (0, 0, 0, 0, 0)), (.iload 4, 2, (4, 0, 0, 0, 0)), (.iload_n 2, 1, (2, 0, 0, 0, 0)), (.if_icmp .ne 7, 3, (67, 0, 0, 0, 0)), (.iconst 0, 1, (0, 0, 0, 0, 0)), (.goto 4, 3, (68, 0, 0, 0, 0)), (.iconst 1, 1, (0, 0, 0, 1, 0)), (.iadd, 1, (0, 0, 0, 0, 0)), (.iastore, 1, (0, 0, 0, 0, 0)), (.aload_n 0, 1, (0, 0, 0, 0, 0)), (.getfield 49, 3, (9, 12, 757, 0, 0)), (.iload_n 2, 1, (2, 0, 0, 0, 0)), (.iaload, 1, (0, 0, 0, 0, 0)), (.bipush 6, 2, (0, 0, 0, 6, 0)), (.if_icmp .le 5, 3, (83, 0, 0, 0, 0)), (.iconst 1, 1, (0, 0, 0, 1, 0)), (.ireturn, 1, (0, 0, 0, 0, 0)), (.iinc 2 1, 3, (0, 0, 0, 1, 0)), (.goto (-77), 3, (9, 0, 0, 0, 0)), (.iconst 0, 1, (0, 0, 0, 0, 0)), (.ireturn, 1, (0, 0, 0, 0, 0))]
theorem ao_GAtooDeep : jokLG jtF lk_GA "ChessHouse$Game" jcl jtb 5 prog_7_method_11_code 0 ak_GAtooDeep = true := by decide +kernel
/-- a world that differs in one row alone -/
noncomputable def zOne (p : Nat) (V W : zW) : Prop := W.1 = V.1 ∧ (∀ a, ¬ a = p → W.2.1 a = V.2.1 a) ∧ W.2.2 = V.2.2
theorem zOne_r {p : Nat} {V W : zW} {i v : Int} (h : zOne p V W) : zOne p V (zuR W p i v) := ⟨h.1, fun a ha => by rw [zuR_4 ha]; exact h.2.1 a ha, h.2.2⟩
noncomputable def zm_tooDeep33 : zM := (some .boolean, { frames := 0, cells := 0, slots := 0, locals := 0 }, ([], []), [], ak_GAtooDeep)
theorem zp_tooDeep33_0 {n K : Nat} {W : zW} {post : zPo} {z : Int} (hK : 7 ≤ K) (hn : 142 ≤ n) (h : (0 ≤ (0 : Int) ∧ (0 : Int) < 301) ∧ zwp jtb zsh n zm_tooDeep33 post (K - 7) (lGo ak_GAtooDeep 9) 9 [some (.inr (.inr (some (.inl 33)))), some (.inl (z)), some (.inl (1)), none, none] [] (zuR W 55 0 0)) : zwp jtb zsh n zm_tooDeep33 post K (lGo ak_GAtooDeep 0) 0 [some (.inr (.inr (some (.inl 33)))), some (.inl (z)), none, none, none] [] W := by
  obtain ⟨k, rfl⟩ : ∃ k, K = k + 7 := ⟨K - 7, by omega⟩
  exact (show 33 < n ∧ 9 = 9 ∧ 55 < n ∧ FieldType.int = FieldType.int ∧ (0 ≤ (0 : Int) ∧ (0 : Int) < 301) ∧ True ∧ zwp jtb zsh n zm_tooDeep33 post (k + 0) (lGo ak_GAtooDeep 9) 9 [some (.inr (.inr (some (.inl 33)))), some (.inl (z)), some (.inl (1)), none, none] [] (zuR W 55 0 0) from ⟨(Nat.lt_of_lt_of_le (by decide) hn), rfl, ⟨(Nat.lt_of_lt_of_le (by decide) hn), rfl, (h).1, trivial, (h).2⟩⟩)
theorem zp_tooDeep33_9a {n K : Nat} {W : zW} {post : zPo} {z u : Int} (hK : 19 ≤ K) (hn : 142 ≤ n) (h : ((W.1 33 1) < u → post (some (.inl (0))) W) ∧ (¬ (W.1 33 1) < u → (0 ≤ u ∧ u < 301) ∧ (0 ≤ z ∧ z < 301) ∧ (¬ (W.2.1 46 u) = (W.2.1 46 z) → (0 ≤ (W.2.1 46 u) ∧ (W.2.1 46 u) < 301) ∧ zwp jtb zsh n zm_tooDeep33 post (K - 19) (lGo ak_GAtooDeep 44) 44 [some (.inr (.inr (some (.inl 33)))), some (.inl (z)), some (.inl (u)), some (.inl (W.2.1 46 u)), none] [.inl (W.2.1 48 (W.2.1 46 u))] W) ∧ ((W.2.1 46 u) = (W.2.1 46 z) → zwp jtb zsh n zm_tooDeep33 post (K - 17) (lGo ak_GAtooDeep 44) 44 [some (.inr (.inr (some (.inl 33)))), some (.inl (z)), some (.inl (u)), some (.inl (W.2.1 46 u)), none] [.inl (z)] W))) : zwp jtb zsh n zm_tooDeep33 post K (lGo ak_GAtooDeep 9) 9 [some (.inr (.inr (some (.inl 33)))), some (.inl (z)), some (.inl (u)), none, none] [] W := by
  obtain ⟨k, rfl⟩ : ∃ k, K = k + 19 := ⟨K - 19, by omega⟩
  exact (show 33 < n ∧ 9 = 9 ∧ ((W.1 33 1) < u → 1 = 1 ∧ ((0 : Int) = 0 ∨ (0 : Int) = 1) ∧ post (some (.inl (0))) W) ∧ (¬ (W.1 33 1) < u → 33 < n ∧ 9 = 9 ∧ 46 < n ∧ FieldType.int = FieldType.int ∧ (0 ≤ u ∧ u < 301) ∧ 33 < n ∧ 9 = 9 ∧ 46 < n ∧ FieldType.int = FieldType.int ∧ (0 ≤ z ∧ z < 301) ∧ (¬ (W.2.1 46 u) = (W.2.1 46 z) → 33 < n ∧ 9 = 9 ∧ 48 < n ∧ FieldType.int = FieldType.int ∧ (0 ≤ (W.2.1 46 u) ∧ (W.2.1 46 u) < 301) ∧ zwp jtb zsh n zm_tooDeep33 post (k + 0) (lGo ak_GAtooDeep 44) 44 [some (.inr (.inr (some (.inl 33)))), some (.inl (z)), some (.inl (u)), some (.inl (W.2.1 46 u)), none] [.inl (W.2.1 48 (W.2.1 46 u))] W) ∧ ((W.2.1 46 u) = (W.2.1 46 z) → zwp jtb zsh n zm_tooDeep33 post (k + 2) (lGo ak_GAtooDeep 44) 44 [some (.inr (.inr (some (.inl 33)))), some (.inl (z)), some (.inl (u)), some (.inl (W.2.1 46 u)), none] [.inl (z)] W)) from ⟨(Nat.lt_of_lt_of_le (by decide) hn), rfl, ⟨fun hc3 => ⟨rfl, Or.inl rfl, ((h).1 hc3)⟩, fun hc3 => ⟨(Nat.lt_of_lt_of_le (by decide) hn), rfl, ⟨(Nat.lt_of_lt_of_le (by decide) hn), rfl, (((h).2 hc3)).1, ⟨(Nat.lt_of_lt_of_le (by decide) hn), rfl, ⟨(Nat.lt_of_lt_of_le (by decide) hn), rfl, ((((h).2 hc3)).2).1, ⟨fun hc14 => (have h := ((((((h).2 hc3)).2).2).1 hc14); ⟨(Nat.lt_of_lt_of_le (by decide) hn), rfl, ⟨(Nat.lt_of_lt_of_le (by decide) hn), rfl, (h).1, (h).2⟩⟩), fun hc14 => ((((((h).2 hc3)).2).2).2 hc14)⟩⟩⟩⟩⟩⟩⟩)
theorem zp_tooDeep33_9 {n K : Nat} {W : zW} {post : zPo} {z u c y : Int} (hK : 19 ≤ K) (hn : 142 ≤ n) (h : ((W.1 33 1) < u → post (some (.inl (0))) W) ∧ (¬ (W.1 33 1) < u → (0 ≤ u ∧ u < 301) ∧ (0 ≤ z ∧ z < 301) ∧ (¬ (W.2.1 46 u) = (W.2.1 46 z) → (0 ≤ (W.2.1 46 u) ∧ (W.2.1 46 u) < 301) ∧ zwp jtb zsh n zm_tooDeep33 post (K - 19) (lGo ak_GAtooDeep 44) 44 [some (.inr (.inr (some (.inl 33)))), some (.inl (z)), some (.inl (u)), some (.inl (W.2.1 46 u)), some (.inl (y))] [.inl (W.2.1 48 (W.2.1 46 u))] W) ∧ ((W.2.1 46 u) = (W.2.1 46 z) → zwp jtb zsh n zm_tooDeep33 post (K - 17) (lGo ak_GAtooDeep 44) 44 [some (.inr (.inr (some (.inl 33)))), some (.inl (z)), some (.inl (u)), some (.inl (W.2.1 46 u)), some (.inl (y))] [.inl (z)] W))) : zwp jtb zsh n zm_tooDeep33 post K (lGo ak_GAtooDeep 9) 9 [some (.inr (.inr (some (.inl 33)))), some (.inl (z)), some (.inl (u)), some (.inl (c)), some (.inl (y))] [] W := by
  obtain ⟨k, rfl⟩ : ∃ k, K = k + 19 := ⟨K - 19, by omega⟩
  exact (show 33 < n ∧ 9 = 9 ∧ ((W.1 33 1) < u → 1 = 1 ∧ ((0 : Int) = 0 ∨ (0 : Int) = 1) ∧ post (some (.inl (0))) W) ∧ (¬ (W.1 33 1) < u → 33 < n ∧ 9 = 9 ∧ 46 < n ∧ FieldType.int = FieldType.int ∧ (0 ≤ u ∧ u < 301) ∧ 33 < n ∧ 9 = 9 ∧ 46 < n ∧ FieldType.int = FieldType.int ∧ (0 ≤ z ∧ z < 301) ∧ (¬ (W.2.1 46 u) = (W.2.1 46 z) → 33 < n ∧ 9 = 9 ∧ 48 < n ∧ FieldType.int = FieldType.int ∧ (0 ≤ (W.2.1 46 u) ∧ (W.2.1 46 u) < 301) ∧ zwp jtb zsh n zm_tooDeep33 post (k + 0) (lGo ak_GAtooDeep 44) 44 [some (.inr (.inr (some (.inl 33)))), some (.inl (z)), some (.inl (u)), some (.inl (W.2.1 46 u)), some (.inl (y))] [.inl (W.2.1 48 (W.2.1 46 u))] W) ∧ ((W.2.1 46 u) = (W.2.1 46 z) → zwp jtb zsh n zm_tooDeep33 post (k + 2) (lGo ak_GAtooDeep 44) 44 [some (.inr (.inr (some (.inl 33)))), some (.inl (z)), some (.inl (u)), some (.inl (W.2.1 46 u)), some (.inl (y))] [.inl (z)] W)) from ⟨(Nat.lt_of_lt_of_le (by decide) hn), rfl, ⟨fun hc3 => ⟨rfl, Or.inl rfl, ((h).1 hc3)⟩, fun hc3 => ⟨(Nat.lt_of_lt_of_le (by decide) hn), rfl, ⟨(Nat.lt_of_lt_of_le (by decide) hn), rfl, (((h).2 hc3)).1, ⟨(Nat.lt_of_lt_of_le (by decide) hn), rfl, ⟨(Nat.lt_of_lt_of_le (by decide) hn), rfl, ((((h).2 hc3)).2).1, ⟨fun hc14 => (have h := ((((((h).2 hc3)).2).2).1 hc14); ⟨(Nat.lt_of_lt_of_le (by decide) hn), rfl, ⟨(Nat.lt_of_lt_of_le (by decide) hn), rfl, (h).1, (h).2⟩⟩), fun hc14 => ((((((h).2 hc3)).2).2).2 hc14)⟩⟩⟩⟩⟩⟩⟩)
theorem zp_tooDeep33_44a {n K : Nat} {W : zW} {post : zPo} {z u c x : Int} (hK : 13 ≤ K) (hn : 142 ≤ n) (h : (0 ≤ c ∧ c < 301) ∧ (¬ x = u → zwp jtb zsh n zm_tooDeep33 post (K - 12) (lGo ak_GAtooDeep 68) 68 [some (.inr (.inr (some (.inl 33)))), some (.inl (z)), some (.inl (u)), some (.inl (c)), some (.inl (x))] [.inl (1), .inl (W.2.1 55 c), .inl (u), .inr (.inr (some (.inl 55)))] W) ∧ (x = u → zwp jtb zsh n zm_tooDeep33 post (K - 13) (lGo ak_GAtooDeep 68) 68 [some (.inr (.inr (some (.inl 33)))), some (.inl (z)), some (.inl (u)), some (.inl (c)), some (.inl (x))] [.inl (0), .inl (W.2.1 55 c), .inl (u), .inr (.inr (some (.inl 55)))] W)) : zwp jtb zsh n zm_tooDeep33 post K (lGo ak_GAtooDeep 44) 44 [some (.inr (.inr (some (.inl 33)))), some (.inl (z)), some (.inl (u)), some (.inl (c)), none] [.inl (x)] W := by
  obtain ⟨k, rfl⟩ : ∃ k, K = k + 13 := ⟨K - 13, by omega⟩
  exact (show 33 < n ∧ 9 = 9 ∧ 33 < n ∧ 9 = 9 ∧ 55 < n ∧ FieldType.int = FieldType.int ∧ (0 ≤ c ∧ c < 301) ∧ (¬ x = u → zwp jtb zsh n zm_tooDeep33 post (k + 1) (lGo ak_GAtooDeep 68) 68 [some (.inr (.inr (some (.inl 33)))), some (.inl (z)), some (.inl (u)), some (.inl (c)), some (.inl (x))] [.inl (1), .inl (W.2.1 55 c), .inl (u), .inr (.inr (some (.inl 55)))] W) ∧ (x = u → zwp jtb zsh n zm_tooDeep33 post (k + 0) (lGo ak_GAtooDeep 68) 68 [some (.inr (.inr (some (.inl 33)))), some (.inl (z)), some (.inl (u)), some (.inl (c)), some (.inl (x))] [.inl (0), .inl (W.2.1 55 c), .inl (u), .inr (.inr (some (.inl 55)))] W) from ⟨(Nat.lt_of_lt_of_le (by decide) hn), rfl, ⟨(Nat.lt_of_lt_of_le (by decide) hn), rfl, ⟨(Nat.lt_of_lt_of_le (by decide) hn), rfl, (h).1, ⟨fun hc10 => (((h).2).1 hc10), fun hc10 => (((h).2).2 hc10)⟩⟩⟩⟩)
theorem zp_tooDeep33_44 {n K : Nat} {W : zW} {post : zPo} {z u c y x : Int} (hK : 13 ≤ K) (hn : 142 ≤ n) (h : (0 ≤ c ∧ c < 301) ∧ (¬ x = u → zwp jtb zsh n zm_tooDeep33 post (K - 12) (lGo ak_GAtooDeep 68) 68 [some (.inr (.inr (some (.inl 33)))), some (.inl (z)), some (.inl (u)), some (.inl (c)), some (.inl (x))] [.inl (1), .inl (W.2.1 55 c), .inl (u), .inr (.inr (some (.inl 55)))] W) ∧ (x = u → zwp jtb zsh n zm_tooDeep33 post (K - 13) (lGo ak_GAtooDeep 68) 68 [some (.inr (.inr (some (.inl 33)))), some (.inl (z)), some (.inl (u)), some (.inl (c)), some (.inl (x))] [.inl (0), .inl (W.2.1 55 c), .inl (u), .inr (.inr (some (.inl 55)))] W)) : zwp jtb zsh n zm_tooDeep33 post K (lGo ak_GAtooDeep 44) 44 [some (.inr (.inr (some (.inl 33)))), some (.inl (z)), some (.inl (u)), some (.inl (c)), some (.inl (y))] [.inl (x)] W := by
  obtain ⟨k, rfl⟩ : ∃ k, K = k + 13 := ⟨K - 13, by omega⟩
  exact (show 33 < n ∧ 9 = 9 ∧ 33 < n ∧ 9 = 9 ∧ 55 < n ∧ FieldType.int = FieldType.int ∧ (0 ≤ c ∧ c < 301) ∧ (¬ x = u → zwp jtb zsh n zm_tooDeep33 post (k + 1) (lGo ak_GAtooDeep 68) 68 [some (.inr (.inr (some (.inl 33)))), some (.inl (z)), some (.inl (u)), some (.inl (c)), some (.inl (x))] [.inl (1), .inl (W.2.1 55 c), .inl (u), .inr (.inr (some (.inl 55)))] W) ∧ (x = u → zwp jtb zsh n zm_tooDeep33 post (k + 0) (lGo ak_GAtooDeep 68) 68 [some (.inr (.inr (some (.inl 33)))), some (.inl (z)), some (.inl (u)), some (.inl (c)), some (.inl (x))] [.inl (0), .inl (W.2.1 55 c), .inl (u), .inr (.inr (some (.inl 55)))] W) from ⟨(Nat.lt_of_lt_of_le (by decide) hn), rfl, ⟨(Nat.lt_of_lt_of_le (by decide) hn), rfl, ⟨(Nat.lt_of_lt_of_le (by decide) hn), rfl, (h).1, ⟨fun hc10 => (((h).2).1 hc10), fun hc10 => (((h).2).2 hc10)⟩⟩⟩⟩)
theorem zp_tooDeep33_68 {n K : Nat} {W : zW} {post : zPo} {z u c y x q : Int} (hK : 10 ≤ K) (hn : 142 ≤ n) (h : (-2147483648 ≤ q + x ∧ q + x ≤ 2147483647) ∧ (0 ≤ u ∧ u < 301) ∧ (0 ≤ u ∧ u < 301) ∧ ((zuI (W.2.1 55) u (q + x) u) ≤ 6 → (-2147483648 ≤ u + 1 ∧ u + 1 ≤ 2147483647) ∧ zwp jtb zsh n zm_tooDeep33 post (K - 10) (lGo ak_GAtooDeep 9) 9 [some (.inr (.inr (some (.inl 33)))), some (.inl (z)), some (.inl (u + 1)), some (.inl (c)), some (.inl (y))] [] (zuR W 55 u (q + x))) ∧ (¬ (zuI (W.2.1 55) u (q + x) u) ≤ 6 → post (some (.inl (1))) (zuR W 55 u (q + x)))) : zwp jtb zsh n zm_tooDeep33 post K (lGo ak_GAtooDeep 68) 68 [some (.inr (.inr (some (.inl 33)))), some (.inl (z)), some (.inl (u)), some (.inl (c)), some (.inl (y))] [.inl (x), .inl (q), .inl (u), .inr (.inr (some (.inl 55)))] W := by
  obtain ⟨k, rfl⟩ : ∃ k, K = k + 10 := ⟨K - 10, by omega⟩
  exact (show (-2147483648 ≤ q + x ∧ q + x ≤ 2147483647) ∧ 55 < n ∧ FieldType.int = FieldType.int ∧ (0 ≤ u ∧ u < 301) ∧ True ∧ 33 < n ∧ 9 = 9 ∧ 55 < n ∧ FieldType.int = FieldType.int ∧ (0 ≤ u ∧ u < 301) ∧ ((zuI (W.2.1 55) u (q + x) u) ≤ 6 → (-2147483648 ≤ u + 1 ∧ u + 1 ≤ 2147483647) ∧ zwp jtb zsh n zm_tooDeep33 post (k + 0) (lGo ak_GAtooDeep 9) 9 [some (.inr (.inr (some (.inl 33)))), some (.inl (z)), some (.inl (u + 1)), some (.inl (c)), some (.inl (y))] [] (zuR W 55 u (q + x))) ∧ (¬ (zuI (W.2.1 55) u (q + x) u) ≤ 6 → 1 = 1 ∧ ((1 : Int) = 0 ∨ (1 : Int) = 1) ∧ post (some (.inl (1))) (zuR W 55 u (q + x))) from ⟨(h).1, ⟨(Nat.lt_of_lt_of_le (by decide) hn), rfl, ((h).2).1, trivial, ⟨(Nat.lt_of_lt_of_le (by decide) hn), rfl, ⟨(Nat.lt_of_lt_of_le (by decide) hn), rfl, (((h).2).2).1, ⟨fun hc7 => ⟨((((((h).2).2).2).1 hc7)).1, ((((((h).2).2).2).1 hc7)).2⟩, fun hc7 => ⟨rfl, Or.inr rfl, (((((h).2).2).2).2 hc7)⟩⟩⟩⟩⟩⟩)
theorem zg_tooDeep33 {n : Nat} {V : zW} {post : zPo} {z : Int} (hn : 142 ≤ n) (hN : V.1 33 1 ≤ 300) (hP : trP (V.2.1 46) (V.1 33 1)) (hz : 1 ≤ z ∧ z ≤ V.1 33 1) (hpost : ∀ (W : zW) (r : Int), zOne 55 V W → xBl r (∃ k, 1 ≤ k ∧ k ≤ V.1 33 1 ∧ 6 < trE (V.2.1 46) (trL (V.2.1 46) (V.2.1 48) z) k) → post (some (.inl r)) W) : ∀ (m K : Nat) (W : zW) (u : Int), 120 * m + 120 ≤ K → V.1 33 1 + 1 - u ≤ m → 1 ≤ u → u ≤ V.1 33 1 + 1 → zOne 55 V W → (∀ k, 0 ≤ k → k < u → W.2.1 55 k = trE (V.2.1 46) (trL (V.2.1 46) (V.2.1 48) z) k ∧ 0 ≤ trE (V.2.1 46) (trL (V.2.1 46) (V.2.1 48) z) k ∧ trE (V.2.1 46) (trL (V.2.1 46) (V.2.1 48) z) k ≤ 6) → (zwp jtb zsh n zm_tooDeep33 post K (lGo ak_GAtooDeep 9) 9 [some (.inr (.inr (some (.inl 33)))), some (.inl z), some (.inl u), none, none] [] W ∧ ∀ c y : Int, zwp jtb zsh n zm_tooDeep33 post K (lGo ak_GAtooDeep 9) 9 [some (.inr (.inr (some (.inl 33)))), some (.inl z), some (.inl u), some (.inl c), some (.inl y)] [] W) := by
  intro m
  induction m with
  | zero =>
    intro K W u hK hm u0 u1 hO hI
    have e1 : W.1 33 1 = V.1 33 1 := by rw [hO.1]
    have fin : post (some (.inl 0)) W := hpost W 0 hO (Or.inr ⟨rfl, fun ⟨k, k0, k1, k2⟩ => by have := (hI k (by omega) (by omega)).2.2; omega⟩)
    exact ⟨zp_tooDeep33_9a (by omega) hn ⟨fun _ => fin, fun h => absurd (by omega) h⟩, fun c y => zp_tooDeep33_9 (by omega) hn ⟨fun _ => fin, fun h => absurd (by omega) h⟩⟩
  | succ m ih =>
    intro K W u hK hm u0 u1 hO hI
    have e1 : W.1 33 1 = V.1 33 1 := by rw [hO.1]
    have ep : W.2.1 46 = V.2.1 46 := hO.2.1 46 (by decide)
    have ef : W.2.1 48 = V.2.1 48 := hO.2.1 48 (by decide)
    have fin : V.1 33 1 < u → post (some (.inl 0)) W := fun hu => hpost W 0 hO (Or.inr ⟨rfl, fun ⟨k, k0, k1, k2⟩ => by have := (hI k (by omega) (by omega)).2.2; omega⟩)
    -- the node's depth is noted
    have go : ∀ (K' : Nat) (y x : Int), u ≤ V.1 33 1 → 120 * m + 160 ≤ K' → ((x = 0 ∧ (trL (V.2.1 46) (V.2.1 48) z) (V.2.1 46 u) = u) ∨ (x = 1 ∧ ¬ (trL (V.2.1 46) (V.2.1 48) z) (V.2.1 46 u) = u)) → zwp jtb zsh n zm_tooDeep33 post K' (lGo ak_GAtooDeep 68) 68 [some (.inr (.inr (some (.inl 33)))), some (.inl z), some (.inl u), some (.inl (V.2.1 46 u)), some (.inl y)] [.inl x, .inl (W.2.1 55 (V.2.1 46 u)), .inl u, .inr (.inr (some (.inl 55)))] W := by
      intro K' y x hu hK' hx
      have hq := hP u u0 hu
      obtain ⟨i1, i2, i3⟩ := hI (V.2.1 46 u) hq.1 hq.2
      have ev : W.2.1 55 (V.2.1 46 u) + x = trE (V.2.1 46) (trL (V.2.1 46) (V.2.1 48) z) u := by
        rw [tr_1 hP u0 hu, i1]
        rcases hx with ⟨rfl, hx⟩ | ⟨rfl, hx⟩
        · rw [if_pos hx]
        · rw [if_neg hx]
      have x01 : 0 ≤ x ∧ x ≤ 1 := by
        rcases hx with ⟨rfl, -⟩ | ⟨rfl, -⟩ <;> omega
      have es : zuI (W.2.1 55) u (W.2.1 55 (V.2.1 46 u) + x) u = trE (V.2.1 46) (trL (V.2.1 46) (V.2.1 48) z) u := by
        unfold zuI
        rw [if_pos rfl, ev]
      refine zp_tooDeep33_68 (by omega) hn ⟨by omega, by omega, by omega, fun h => ⟨by omega, ?_⟩, fun h => ?_⟩
      · rw [es] at h
        refine (ih _ _ (u + 1) (by omega) (by omega) (by omega) (by omega) (zOne_r hO) (fun k k0 k1 => ?_)).2 _ _
        rw [zuR_2]
        by_cases e : k = u
        · rw [if_pos ⟨rfl, e⟩, ev, e]
          exact ⟨rfl, by omega, h⟩
        · rw [if_neg (fun q => e q.2)]
          exact hI k k0 (by omega)
      · rw [es] at h
        exact hpost _ 1 (zOne_r hO) (Or.inl ⟨rfl, u, u0, hu, by omega⟩)
    have ld1 : V.2.1 46 u = V.2.1 46 z → (trL (V.2.1 46) (V.2.1 48) z) (V.2.1 46 u) = z := fun h => if_pos h
    have ld2 : ¬ V.2.1 46 u = V.2.1 46 z → (trL (V.2.1 46) (V.2.1 48) z) (V.2.1 46 u) = V.2.1 48 (V.2.1 46 u) := fun h => if_neg h
    constructor
    · refine zp_tooDeep33_9a (by omega) hn ⟨fun h => fin (by omega), fun h => ?_⟩
      rw [ep, ef]
      have hq := hP u u0 (by omega)
      refine ⟨by omega, by omega, fun h2 => ⟨by omega, zp_tooDeep33_44a (by omega) hn ⟨by omega, fun h3 => go _ _ 1 (by omega) (by omega) (Or.inr ⟨rfl, by rw [ld2 h2]; exact h3⟩), fun h3 => go _ _ 0 (by omega) (by omega) (Or.inl ⟨rfl, by rw [ld2 h2]; exact h3⟩)⟩⟩, fun h2 => zp_tooDeep33_44a (by omega) hn ⟨by omega, fun h3 => go _ _ 1 (by omega) (by omega) (Or.inr ⟨rfl, by rw [ld1 h2]; exact h3⟩), fun h3 => go _ _ 0 (by omega) (by omega) (Or.inl ⟨rfl, by rw [ld1 h2]; exact h3⟩)⟩⟩
    · intro c y
      refine zp_tooDeep33_9 (by omega) hn ⟨fun h => fin (by omega), fun h => ?_⟩
      rw [ep, ef]
      have hq := hP u u0 (by omega)
      refine ⟨by omega, by omega, fun h2 => ⟨by omega, zp_tooDeep33_44 (by omega) hn ⟨by omega, fun h3 => go _ _ 1 (by omega) (by omega) (Or.inr ⟨rfl, by rw [ld2 h2]; exact h3⟩), fun h3 => go _ _ 0 (by omega) (by omega) (Or.inl ⟨rfl, by rw [ld2 h2]; exact h3⟩)⟩⟩, fun h2 => zp_tooDeep33_44 (by omega) hn ⟨by omega, fun h3 => go _ _ 1 (by omega) (by omega) (Or.inr ⟨rfl, by rw [ld1 h2]; exact h3⟩), fun h3 => go _ _ 0 (by omega) (by omega) (Or.inl ⟨rfl, by rw [ld1 h2]; exact h3⟩)⟩⟩
noncomputable def zc_tooDeep33 (vals : List zv) (V : zW) (post : zPo) : Prop := ∃ z : Int, vals = [.inr (.inr (some (.inl 33))), .inl z] ∧ V.1 33 1 ≤ 300 ∧ trP (V.2.1 46) (V.1 33 1) ∧ 1 ≤ z ∧ z ≤ V.1 33 1 ∧ ∀ (W : zW) (r : Int), zOne 55 V W → xBl r (∃ k, 1 ≤ k ∧ k ≤ V.1 33 1 ∧ 6 < trE (V.2.1 46) (trL (V.2.1 46) (V.2.1 48) z) k) → post (some (.inl r)) W
section
variable {l : Launch} {E : jE} {n : Nat}
theorem zk_tooDeep33 (hn : 142 ≤ n) : zHas l E jcl jtb lw_tbl zsh n (y_GA_tooDeepIfLed, false, 2, 9, { frames := 0, cells := 0, slots := 0, locals := 0 }, zc_tooDeep33) := by
  refine ⟨⟨rfl, rfl, ⟨show 1 ≤ 2 by decide, m_GA_tooDeepIfLed, i_GA_tooDeepIfLed, e_GA_tooDeepIfLed, fun _ => ⟨_, rfl, rfl⟩⟩⟩, ?_⟩
  rintro vz V po hO hW ⟨z, rfl, h0, h1, h2, h3, hp⟩
  refine zmet (m := zm_tooDeep33) rfl (by decide) (fun _ _ => jtF_ok) lo_GA ao_GAtooDeep jC (fun q h => by cases h) (fun q h => by cases h) (fun G h => by cases h) (Nat.le_of_ble_eq_true rfl) hO hW 40000 ?_
  refine zp_tooDeep33_0 (by omega) hn ⟨by omega, (zg_tooDeep33 (V := V) hn h0 h1 ⟨h2, h3⟩ hp 300 _ _ 1 (by omega) (by omega) (by omega) (by omega) (zOne_r ⟨rfl, fun _ _ => rfl, rfl⟩) (fun k k0 k1 => ?_)).1⟩
  obtain rfl : k = 0 := by omega
  rw [zuR_2, if_pos ⟨rfl, rfl⟩, tr_0 (Int.le_refl 0)]
  exact ⟨rfl, by omega, by omega⟩
end
noncomputable def zm_tooDeep60 : zM := (some .boolean, { frames := 0, cells := 0, slots := 0, locals := 0 }, ([], []), [], ak_GAtooDeep)
theorem zp_tooDeep60_0 {n K : Nat} {W : zW} {post : zPo} {z : Int} (hK : 7 ≤ K) (hn : 142 ≤ n) (h : (0 ≤ (0 : Int) ∧ (0 : Int) < 301) ∧ zwp jtb zsh n zm_tooDeep60 post (K - 7) (lGo ak_GAtooDeep 9) 9 [some (.inr (.inr (some (.inl 60)))), some (.inl (z)), some (.inl (1)), none, none] [] (zuR W 82 0 0)) : zwp jtb zsh n zm_tooDeep60 post K (lGo ak_GAtooDeep 0) 0 [some (.inr (.inr (some (.inl 60)))), some (.inl (z)), none, none, none] [] W := by
  obtain ⟨k, rfl⟩ : ∃ k, K = k + 7 := ⟨K - 7, by omega⟩
  exact (show 60 < n ∧ 9 = 9 ∧ 82 < n ∧ FieldType.int = FieldType.int ∧ (0 ≤ (0 : Int) ∧ (0 : Int) < 301) ∧ True ∧ zwp jtb zsh n zm_tooDeep60 post (k + 0) (lGo ak_GAtooDeep 9) 9 [some (.inr (.inr (some (.inl 60)))), some (.inl (z)), some (.inl (1)), none, none] [] (zuR W 82 0 0) from ⟨(Nat.lt_of_lt_of_le (by decide) hn), rfl, ⟨(Nat.lt_of_lt_of_le (by decide) hn), rfl, (h).1, trivial, (h).2⟩⟩)
theorem zp_tooDeep60_9a {n K : Nat} {W : zW} {post : zPo} {z u : Int} (hK : 19 ≤ K) (hn : 142 ≤ n) (h : ((W.1 60 1) < u → post (some (.inl (0))) W) ∧ (¬ (W.1 60 1) < u → (0 ≤ u ∧ u < 301) ∧ (0 ≤ z ∧ z < 301) ∧ (¬ (W.2.1 73 u) = (W.2.1 73 z) → (0 ≤ (W.2.1 73 u) ∧ (W.2.1 73 u) < 301) ∧ zwp jtb zsh n zm_tooDeep60 post (K - 19) (lGo ak_GAtooDeep 44) 44 [some (.inr (.inr (some (.inl 60)))), some (.inl (z)), some (.inl (u)), some (.inl (W.2.1 73 u)), none] [.inl (W.2.1 75 (W.2.1 73 u))] W) ∧ ((W.2.1 73 u) = (W.2.1 73 z) → zwp jtb zsh n zm_tooDeep60 post (K - 17) (lGo ak_GAtooDeep 44) 44 [some (.inr (.inr (some (.inl 60)))), some (.inl (z)), some (.inl (u)), some (.inl (W.2.1 73 u)), none] [.inl (z)] W))) : zwp jtb zsh n zm_tooDeep60 post K (lGo ak_GAtooDeep 9) 9 [some (.inr (.inr (some (.inl 60)))), some (.inl (z)), some (.inl (u)), none, none] [] W := by
  obtain ⟨k, rfl⟩ : ∃ k, K = k + 19 := ⟨K - 19, by omega⟩
  exact (show 60 < n ∧ 9 = 9 ∧ ((W.1 60 1) < u → 1 = 1 ∧ ((0 : Int) = 0 ∨ (0 : Int) = 1) ∧ post (some (.inl (0))) W) ∧ (¬ (W.1 60 1) < u → 60 < n ∧ 9 = 9 ∧ 73 < n ∧ FieldType.int = FieldType.int ∧ (0 ≤ u ∧ u < 301) ∧ 60 < n ∧ 9 = 9 ∧ 73 < n ∧ FieldType.int = FieldType.int ∧ (0 ≤ z ∧ z < 301) ∧ (¬ (W.2.1 73 u) = (W.2.1 73 z) → 60 < n ∧ 9 = 9 ∧ 75 < n ∧ FieldType.int = FieldType.int ∧ (0 ≤ (W.2.1 73 u) ∧ (W.2.1 73 u) < 301) ∧ zwp jtb zsh n zm_tooDeep60 post (k + 0) (lGo ak_GAtooDeep 44) 44 [some (.inr (.inr (some (.inl 60)))), some (.inl (z)), some (.inl (u)), some (.inl (W.2.1 73 u)), none] [.inl (W.2.1 75 (W.2.1 73 u))] W) ∧ ((W.2.1 73 u) = (W.2.1 73 z) → zwp jtb zsh n zm_tooDeep60 post (k + 2) (lGo ak_GAtooDeep 44) 44 [some (.inr (.inr (some (.inl 60)))), some (.inl (z)), some (.inl (u)), some (.inl (W.2.1 73 u)), none] [.inl (z)] W)) from ⟨(Nat.lt_of_lt_of_le (by decide) hn), rfl, ⟨fun hc3 => ⟨rfl, Or.inl rfl, ((h).1 hc3)⟩, fun hc3 => ⟨(Nat.lt_of_lt_of_le (by decide) hn), rfl, ⟨(Nat.lt_of_lt_of_le (by decide) hn), rfl, (((h).2 hc3)).1, ⟨(Nat.lt_of_lt_of_le (by decide) hn), rfl, ⟨(Nat.lt_of_lt_of_le (by decide) hn), rfl, ((((h).2 hc3)).2).1, ⟨fun hc14 => (have h := ((((((h).2 hc3)).2).2).1 hc14); ⟨(Nat.lt_of_lt_of_le (by decide) hn), rfl, ⟨(Nat.lt_of_lt_of_le (by decide) hn), rfl, (h).1, (h).2⟩⟩), fun hc14 => ((((((h).2 hc3)).2).2).2 hc14)⟩⟩⟩⟩⟩⟩⟩)
theorem zp_tooDeep60_9 {n K : Nat} {W : zW} {post : zPo} {z u c y : Int} (hK : 19 ≤ K) (hn : 142 ≤ n) (h : ((W.1 60 1) < u → post (some (.inl (0))) W) ∧ (¬ (W.1 60 1) < u → (0 ≤ u ∧ u < 301) ∧ (0 ≤ z ∧ z < 301) ∧ (¬ (W.2.1 73 u) = (W.2.1 73 z) → (0 ≤ (W.2.1 73 u) ∧ (W.2.1 73 u) < 301) ∧ zwp jtb zsh n zm_tooDeep60 post (K - 19) (lGo ak_GAtooDeep 44) 44 [some (.inr (.inr (some (.inl 60)))), some (.inl (z)), some (.inl (u)), some (.inl (W.2.1 73 u)), some (.inl (y))] [.inl (W.2.1 75 (W.2.1 73 u))] W) ∧ ((W.2.1 73 u) = (W.2.1 73 z) → zwp jtb zsh n zm_tooDeep60 post (K - 17) (lGo ak_GAtooDeep 44) 44 [some (.inr (.inr (some (.inl 60)))), some (.inl (z)), some (.inl (u)), some (.inl (W.2.1 73 u)), some (.inl (y))] [.inl (z)] W))) : zwp jtb zsh n zm_tooDeep60 post K (lGo ak_GAtooDeep 9) 9 [some (.inr (.inr (some (.inl 60)))), some (.inl (z)), some (.inl (u)), some (.inl (c)), some (.inl (y))] [] W := by
  obtain ⟨k, rfl⟩ : ∃ k, K = k + 19 := ⟨K - 19, by omega⟩
  exact (show 60 < n ∧ 9 = 9 ∧ ((W.1 60 1) < u → 1 = 1 ∧ ((0 : Int) = 0 ∨ (0 : Int) = 1) ∧ post (some (.inl (0))) W) ∧ (¬ (W.1 60 1) < u → 60 < n ∧ 9 = 9 ∧ 73 < n ∧ FieldType.int = FieldType.int ∧ (0 ≤ u ∧ u < 301) ∧ 60 < n ∧ 9 = 9 ∧ 73 < n ∧ FieldType.int = FieldType.int ∧ (0 ≤ z ∧ z < 301) ∧ (¬ (W.2.1 73 u) = (W.2.1 73 z) → 60 < n ∧ 9 = 9 ∧ 75 < n ∧ FieldType.int = FieldType.int ∧ (0 ≤ (W.2.1 73 u) ∧ (W.2.1 73 u) < 301) ∧ zwp jtb zsh n zm_tooDeep60 post (k + 0) (lGo ak_GAtooDeep 44) 44 [some (.inr (.inr (some (.inl 60)))), some (.inl (z)), some (.inl (u)), some (.inl (W.2.1 73 u)), some (.inl (y))] [.inl (W.2.1 75 (W.2.1 73 u))] W) ∧ ((W.2.1 73 u) = (W.2.1 73 z) → zwp jtb zsh n zm_tooDeep60 post (k + 2) (lGo ak_GAtooDeep 44) 44 [some (.inr (.inr (some (.inl 60)))), some (.inl (z)), some (.inl (u)), some (.inl (W.2.1 73 u)), some (.inl (y))] [.inl (z)] W)) from ⟨(Nat.lt_of_lt_of_le (by decide) hn), rfl, ⟨fun hc3 => ⟨rfl, Or.inl rfl, ((h).1 hc3)⟩, fun hc3 => ⟨(Nat.lt_of_lt_of_le (by decide) hn), rfl, ⟨(Nat.lt_of_lt_of_le (by decide) hn), rfl, (((h).2 hc3)).1, ⟨(Nat.lt_of_lt_of_le (by decide) hn), rfl, ⟨(Nat.lt_of_lt_of_le (by decide) hn), rfl, ((((h).2 hc3)).2).1, ⟨fun hc14 => (have h := ((((((h).2 hc3)).2).2).1 hc14); ⟨(Nat.lt_of_lt_of_le (by decide) hn), rfl, ⟨(Nat.lt_of_lt_of_le (by decide) hn), rfl, (h).1, (h).2⟩⟩), fun hc14 => ((((((h).2 hc3)).2).2).2 hc14)⟩⟩⟩⟩⟩⟩⟩)
theorem zp_tooDeep60_44a {n K : Nat} {W : zW} {post : zPo} {z u c x : Int} (hK : 13 ≤ K) (hn : 142 ≤ n) (h : (0 ≤ c ∧ c < 301) ∧ (¬ x = u → zwp jtb zsh n zm_tooDeep60 post (K - 12) (lGo ak_GAtooDeep 68) 68 [some (.inr (.inr (some (.inl 60)))), some (.inl (z)), some (.inl (u)), some (.inl (c)), some (.inl (x))] [.inl (1), .inl (W.2.1 82 c), .inl (u), .inr (.inr (some (.inl 82)))] W) ∧ (x = u → zwp jtb zsh n zm_tooDeep60 post (K - 13) (lGo ak_GAtooDeep 68) 68 [some (.inr (.inr (some (.inl 60)))), some (.inl (z)), some (.inl (u)), some (.inl (c)), some (.inl (x))] [.inl (0), .inl (W.2.1 82 c), .inl (u), .inr (.inr (some (.inl 82)))] W)) : zwp jtb zsh n zm_tooDeep60 post K (lGo ak_GAtooDeep 44) 44 [some (.inr (.inr (some (.inl 60)))), some (.inl (z)), some (.inl (u)), some (.inl (c)), none] [.inl (x)] W := by
  obtain ⟨k, rfl⟩ : ∃ k, K = k + 13 := ⟨K - 13, by omega⟩
  exact (show 60 < n ∧ 9 = 9 ∧ 60 < n ∧ 9 = 9 ∧ 82 < n ∧ FieldType.int = FieldType.int ∧ (0 ≤ c ∧ c < 301) ∧ (¬ x = u → zwp jtb zsh n zm_tooDeep60 post (k + 1) (lGo ak_GAtooDeep 68) 68 [some (.inr (.inr (some (.inl 60)))), some (.inl (z)), some (.inl (u)), some (.inl (c)), some (.inl (x))] [.inl (1), .inl (W.2.1 82 c), .inl (u), .inr (.inr (some (.inl 82)))] W) ∧ (x = u → zwp jtb zsh n zm_tooDeep60 post (k + 0) (lGo ak_GAtooDeep 68) 68 [some (.inr (.inr (some (.inl 60)))), some (.inl (z)), some (.inl (u)), some (.inl (c)), some (.inl (x))] [.inl (0), .inl (W.2.1 82 c), .inl (u), .inr (.inr (some (.inl 82)))] W) from ⟨(Nat.lt_of_lt_of_le (by decide) hn), rfl, ⟨(Nat.lt_of_lt_of_le (by decide) hn), rfl, ⟨(Nat.lt_of_lt_of_le (by decide) hn), rfl, (h).1, ⟨fun hc10 => (((h).2).1 hc10), fun hc10 => (((h).2).2 hc10)⟩⟩⟩⟩)
theorem zp_tooDeep60_44 {n K : Nat} {W : zW} {post : zPo} {z u c y x : Int} (hK : 13 ≤ K) (hn : 142 ≤ n) (h : (0 ≤ c ∧ c < 301) ∧ (¬ x = u → zwp jtb zsh n zm_tooDeep60 post (K - 12) (lGo ak_GAtooDeep 68) 68 [some (.inr (.inr (some (.inl 60)))), some (.inl (z)), some (.inl (u)), some (.inl (c)), some (.inl (x))] [.inl (1), .inl (W.2.1 82 c), .inl (u), .inr (.inr (some (.inl 82)))] W) ∧ (x = u → zwp jtb zsh n zm_tooDeep60 post (K - 13) (lGo ak_GAtooDeep 68) 68 [some (.inr (.inr (some (.inl 60)))), some (.inl (z)), some (.inl (u)), some (.inl (c)), some (.inl (x))] [.inl (0), .inl (W.2.1 82 c), .inl (u), .inr (.inr (some (.inl 82)))] W)) : zwp jtb zsh n zm_tooDeep60 post K (lGo ak_GAtooDeep 44) 44 [some (.inr (.inr (some (.inl 60)))), some (.inl (z)), some (.inl (u)), some (.inl (c)), some (.inl (y))] [.inl (x)] W := by
  obtain ⟨k, rfl⟩ : ∃ k, K = k + 13 := ⟨K - 13, by omega⟩
  exact (show 60 < n ∧ 9 = 9 ∧ 60 < n ∧ 9 = 9 ∧ 82 < n ∧ FieldType.int = FieldType.int ∧ (0 ≤ c ∧ c < 301) ∧ (¬ x = u → zwp jtb zsh n zm_tooDeep60 post (k + 1) (lGo ak_GAtooDeep 68) 68 [some (.inr (.inr (some (.inl 60)))), some (.inl (z)), some (.inl (u)), some (.inl (c)), some (.inl (x))] [.inl (1), .inl (W.2.1 82 c), .inl (u), .inr (.inr (some (.inl 82)))] W) ∧ (x = u → zwp jtb zsh n zm_tooDeep60 post (k + 0) (lGo ak_GAtooDeep 68) 68 [some (.inr (.inr (some (.inl 60)))), some (.inl (z)), some (.inl (u)), some (.inl (c)), some (.inl (x))] [.inl (0), .inl (W.2.1 82 c), .inl (u), .inr (.inr (some (.inl 82)))] W) from ⟨(Nat.lt_of_lt_of_le (by decide) hn), rfl, ⟨(Nat.lt_of_lt_of_le (by decide) hn), rfl, ⟨(Nat.lt_of_lt_of_le (by decide) hn), rfl, (h).1, ⟨fun hc10 => (((h).2).1 hc10), fun hc10 => (((h).2).2 hc10)⟩⟩⟩⟩)
theorem zp_tooDeep60_68 {n K : Nat} {W : zW} {post : zPo} {z u c y x q : Int} (hK : 10 ≤ K) (hn : 142 ≤ n) (h : (-2147483648 ≤ q + x ∧ q + x ≤ 2147483647) ∧ (0 ≤ u ∧ u < 301) ∧ (0 ≤ u ∧ u < 301) ∧ ((zuI (W.2.1 82) u (q + x) u) ≤ 6 → (-2147483648 ≤ u + 1 ∧ u + 1 ≤ 2147483647) ∧ zwp jtb zsh n zm_tooDeep60 post (K - 10) (lGo ak_GAtooDeep 9) 9 [some (.inr (.inr (some (.inl 60)))), some (.inl (z)), some (.inl (u + 1)), some (.inl (c)), some (.inl (y))] [] (zuR W 82 u (q + x))) ∧ (¬ (zuI (W.2.1 82) u (q + x) u) ≤ 6 → post (some (.inl (1))) (zuR W 82 u (q + x)))) : zwp jtb zsh n zm_tooDeep60 post K (lGo ak_GAtooDeep 68) 68 [some (.inr (.inr (some (.inl 60)))), some (.inl (z)), some (.inl (u)), some (.inl (c)), some (.inl (y))] [.inl (x), .inl (q), .inl (u), .inr (.inr (some (.inl 82)))] W := by
  obtain ⟨k, rfl⟩ : ∃ k, K = k + 10 := ⟨K - 10, by omega⟩
  exact (show (-2147483648 ≤ q + x ∧ q + x ≤ 2147483647) ∧ 82 < n ∧ FieldType.int = FieldType.int ∧ (0 ≤ u ∧ u < 301) ∧ True ∧ 60 < n ∧ 9 = 9 ∧ 82 < n ∧ FieldType.int = FieldType.int ∧ (0 ≤ u ∧ u < 301) ∧ ((zuI (W.2.1 82) u (q + x) u) ≤ 6 → (-2147483648 ≤ u + 1 ∧ u + 1 ≤ 2147483647) ∧ zwp jtb zsh n zm_tooDeep60 post (k + 0) (lGo ak_GAtooDeep 9) 9 [some (.inr (.inr (some (.inl 60)))), some (.inl (z)), some (.inl (u + 1)), some (.inl (c)), some (.inl (y))] [] (zuR W 82 u (q + x))) ∧ (¬ (zuI (W.2.1 82) u (q + x) u) ≤ 6 → 1 = 1 ∧ ((1 : Int) = 0 ∨ (1 : Int) = 1) ∧ post (some (.inl (1))) (zuR W 82 u (q + x))) from ⟨(h).1, ⟨(Nat.lt_of_lt_of_le (by decide) hn), rfl, ((h).2).1, trivial, ⟨(Nat.lt_of_lt_of_le (by decide) hn), rfl, ⟨(Nat.lt_of_lt_of_le (by decide) hn), rfl, (((h).2).2).1, ⟨fun hc7 => ⟨((((((h).2).2).2).1 hc7)).1, ((((((h).2).2).2).1 hc7)).2⟩, fun hc7 => ⟨rfl, Or.inr rfl, (((((h).2).2).2).2 hc7)⟩⟩⟩⟩⟩⟩)
theorem zg_tooDeep60 {n : Nat} {V : zW} {post : zPo} {z : Int} (hn : 142 ≤ n) (hN : V.1 60 1 ≤ 300) (hP : trP (V.2.1 73) (V.1 60 1)) (hz : 1 ≤ z ∧ z ≤ V.1 60 1) (hpost : ∀ (W : zW) (r : Int), zOne 82 V W → xBl r (∃ k, 1 ≤ k ∧ k ≤ V.1 60 1 ∧ 6 < trE (V.2.1 73) (trL (V.2.1 73) (V.2.1 75) z) k) → post (some (.inl r)) W) : ∀ (m K : Nat) (W : zW) (u : Int), 120 * m + 120 ≤ K → V.1 60 1 + 1 - u ≤ m → 1 ≤ u → u ≤ V.1 60 1 + 1 → zOne 82 V W → (∀ k, 0 ≤ k → k < u → W.2.1 82 k = trE (V.2.1 73) (trL (V.2.1 73) (V.2.1 75) z) k ∧ 0 ≤ trE (V.2.1 73) (trL (V.2.1 73) (V.2.1 75) z) k ∧ trE (V.2.1 73) (trL (V.2.1 73) (V.2.1 75) z) k ≤ 6) → (zwp jtb zsh n zm_tooDeep60 post K (lGo ak_GAtooDeep 9) 9 [some (.inr (.inr (some (.inl 60)))), some (.inl z), some (.inl u), none, none] [] W ∧ ∀ c y : Int, zwp jtb zsh n zm_tooDeep60 post K (lGo ak_GAtooDeep 9) 9 [some (.inr (.inr (some (.inl 60)))), some (.inl z), some (.inl u), some (.inl c), some (.inl y)] [] W) := by
  intro m
  induction m with
  | zero =>
    intro K W u hK hm u0 u1 hO hI
    have e1 : W.1 60 1 = V.1 60 1 := by rw [hO.1]
    have fin : post (some (.inl 0)) W := hpost W 0 hO (Or.inr ⟨rfl, fun ⟨k, k0, k1, k2⟩ => by have := (hI k (by omega) (by omega)).2.2; omega⟩)
    exact ⟨zp_tooDeep60_9a (by omega) hn ⟨fun _ => fin, fun h => absurd (by omega) h⟩, fun c y => zp_tooDeep60_9 (by omega) hn ⟨fun _ => fin, fun h => absurd (by omega) h⟩⟩
  | succ m ih =>
    intro K W u hK hm u0 u1 hO hI
    have e1 : W.1 60 1 = V.1 60 1 := by rw [hO.1]
    have ep : W.2.1 73 = V.2.1 73 := hO.2.1 73 (by decide)
    have ef : W.2.1 75 = V.2.1 75 := hO.2.1 75 (by decide)
    have fin : V.1 60 1 < u → post (some (.inl 0)) W := fun hu => hpost W 0 hO (Or.inr ⟨rfl, fun ⟨k, k0, k1, k2⟩ => by have := (hI k (by omega) (by omega)).2.2; omega⟩)
    -- the node's depth is noted
    have go : ∀ (K' : Nat) (y x : Int), u ≤ V.1 60 1 → 120 * m + 160 ≤ K' → ((x = 0 ∧ (trL (V.2.1 73) (V.2.1 75) z) (V.2.1 73 u) = u) ∨ (x = 1 ∧ ¬ (trL (V.2.1 73) (V.2.1 75) z) (V.2.1 73 u) = u)) → zwp jtb zsh n zm_tooDeep60 post K' (lGo ak_GAtooDeep 68) 68 [some (.inr (.inr (some (.inl 60)))), some (.inl z), some (.inl u), some (.inl (V.2.1 73 u)), some (.inl y)] [.inl x, .inl (W.2.1 82 (V.2.1 73 u)), .inl u, .inr (.inr (some (.inl 82)))] W := by
      intro K' y x hu hK' hx
      have hq := hP u u0 hu
      obtain ⟨i1, i2, i3⟩ := hI (V.2.1 73 u) hq.1 hq.2
      have ev : W.2.1 82 (V.2.1 73 u) + x = trE (V.2.1 73) (trL (V.2.1 73) (V.2.1 75) z) u := by
        rw [tr_1 hP u0 hu, i1]
        rcases hx with ⟨rfl, hx⟩ | ⟨rfl, hx⟩
        · rw [if_pos hx]
        · rw [if_neg hx]
      have x01 : 0 ≤ x ∧ x ≤ 1 := by
        rcases hx with ⟨rfl, -⟩ | ⟨rfl, -⟩ <;> omega
      have es : zuI (W.2.1 82) u (W.2.1 82 (V.2.1 73 u) + x) u = trE (V.2.1 73) (trL (V.2.1 73) (V.2.1 75) z) u := by
        unfold zuI
        rw [if_pos rfl, ev]
      refine zp_tooDeep60_68 (by omega) hn ⟨by omega, by omega, by omega, fun h => ⟨by omega, ?_⟩, fun h => ?_⟩
      · rw [es] at h
        refine (ih _ _ (u + 1) (by omega) (by omega) (by omega) (by omega) (zOne_r hO) (fun k k0 k1 => ?_)).2 _ _
        rw [zuR_2]
        by_cases e : k = u
        · rw [if_pos ⟨rfl, e⟩, ev, e]
          exact ⟨rfl, by omega, h⟩
        · rw [if_neg (fun q => e q.2)]
          exact hI k k0 (by omega)
      · rw [es] at h
        exact hpost _ 1 (zOne_r hO) (Or.inl ⟨rfl, u, u0, hu, by omega⟩)
    have ld1 : V.2.1 73 u = V.2.1 73 z → (trL (V.2.1 73) (V.2.1 75) z) (V.2.1 73 u) = z := fun h => if_pos h
    have ld2 : ¬ V.2.1 73 u = V.2.1 73 z → (trL (V.2.1 73) (V.2.1 75) z) (V.2.1 73 u) = V.2.1 75 (V.2.1 73 u) := fun h => if_neg h
    constructor
    · refine zp_tooDeep60_9a (by omega) hn ⟨fun h => fin (by omega), fun h => ?_⟩
      rw [ep, ef]
      have hq := hP u u0 (by omega)
      refine ⟨by omega, by omega, fun h2 => ⟨by omega, zp_tooDeep60_44a (by omega) hn ⟨by omega, fun h3 => go _ _ 1 (by omega) (by omega) (Or.inr ⟨rfl, by rw [ld2 h2]; exact h3⟩), fun h3 => go _ _ 0 (by omega) (by omega) (Or.inl ⟨rfl, by rw [ld2 h2]; exact h3⟩)⟩⟩, fun h2 => zp_tooDeep60_44a (by omega) hn ⟨by omega, fun h3 => go _ _ 1 (by omega) (by omega) (Or.inr ⟨rfl, by rw [ld1 h2]; exact h3⟩), fun h3 => go _ _ 0 (by omega) (by omega) (Or.inl ⟨rfl, by rw [ld1 h2]; exact h3⟩)⟩⟩
    · intro c y
      refine zp_tooDeep60_9 (by omega) hn ⟨fun h => fin (by omega), fun h => ?_⟩
      rw [ep, ef]
      have hq := hP u u0 (by omega)
      refine ⟨by omega, by omega, fun h2 => ⟨by omega, zp_tooDeep60_44 (by omega) hn ⟨by omega, fun h3 => go _ _ 1 (by omega) (by omega) (Or.inr ⟨rfl, by rw [ld2 h2]; exact h3⟩), fun h3 => go _ _ 0 (by omega) (by omega) (Or.inl ⟨rfl, by rw [ld2 h2]; exact h3⟩)⟩⟩, fun h2 => zp_tooDeep60_44 (by omega) hn ⟨by omega, fun h3 => go _ _ 1 (by omega) (by omega) (Or.inr ⟨rfl, by rw [ld1 h2]; exact h3⟩), fun h3 => go _ _ 0 (by omega) (by omega) (Or.inl ⟨rfl, by rw [ld1 h2]; exact h3⟩)⟩⟩
noncomputable def zc_tooDeep60 (vals : List zv) (V : zW) (post : zPo) : Prop := ∃ z : Int, vals = [.inr (.inr (some (.inl 60))), .inl z] ∧ V.1 60 1 ≤ 300 ∧ trP (V.2.1 73) (V.1 60 1) ∧ 1 ≤ z ∧ z ≤ V.1 60 1 ∧ ∀ (W : zW) (r : Int), zOne 82 V W → xBl r (∃ k, 1 ≤ k ∧ k ≤ V.1 60 1 ∧ 6 < trE (V.2.1 73) (trL (V.2.1 73) (V.2.1 75) z) k) → post (some (.inl r)) W
section
variable {l : Launch} {E : jE} {n : Nat}
theorem zk_tooDeep60 (hn : 142 ≤ n) : zHas l E jcl jtb lw_tbl zsh n (y_GA_tooDeepIfLed, false, 2, 9, { frames := 0, cells := 0, slots := 0, locals := 0 }, zc_tooDeep60) := by
  refine ⟨⟨rfl, rfl, ⟨show 1 ≤ 2 by decide, m_GA_tooDeepIfLed, i_GA_tooDeepIfLed, e_GA_tooDeepIfLed, fun _ => ⟨_, rfl, rfl⟩⟩⟩, ?_⟩
  rintro vz V po hO hW ⟨z, rfl, h0, h1, h2, h3, hp⟩
  refine zmet (m := zm_tooDeep60) rfl (by decide) (fun _ _ => jtF_ok) lo_GA ao_GAtooDeep jC (fun q h => by cases h) (fun q h => by cases h) (fun G h => by cases h) (Nat.le_of_ble_eq_true rfl) hO hW 40000 ?_
  refine zp_tooDeep60_0 (by omega) hn ⟨by omega, (zg_tooDeep60 (V := V) hn h0 h1 ⟨h2, h3⟩ hp 300 _ _ 1 (by omega) (by omega) (by omega) (by omega) (zOne_r ⟨rfl, fun _ _ => rfl, rfl⟩) (fun k k0 k1 => ?_)).1⟩
  obtain rfl : k = 0 := by omega
  rw [zuR_2, if_pos ⟨rfl, rfl⟩, tr_0 (Int.le_refl 0)]
  exact ⟨rfl, by omega, by omega⟩
end
end
section
noncomputable def y_MT_childWith : jY := (⟨"ChessHouseModel$Texts", "childWith", "(III)I"⟩, prog_18_method_27_code, 5, (some .int))
theorem m_MT_childWith : jmth lw_tbl y_MT_childWith 3 := ⟨jTA_in (wi := 2705) (jtF_ok rfl) rfl, jTA_in (wi := 315) (jtF_ok rfl) rfl, by decide, by decide, by decide +kernel⟩
theorem i_MT_childWith : Jvm.Cond.instanceMethod y_MT_childWith.1 ∈ jTA lw_tbl := jTA_in (wi := 2704) (jtF_ok rfl) rfl
theorem e_MT_childWith : Jvm.Cond.selects y_MT_childWith.1.cls y_MT_childWith.1 y_MT_childWith.1 ∈ jTA lw_tbl := jTA_in (wi := 195) (jtF_ok rfl) rfl
noncomputable def ak_MTchildX : List jI := [(.aload_n 0, 1, (0, 0, 0, 0, 0)), (.getfield 28, 3, (12, 10, 2029, 0, 0)), (.sipush 301, 3, (0, 0, 0, 301, 0)), (.iload_n 1, 1, (1, 0, 0, 0, 0)), (.imul, 1, (0, 0, 0, 0, 0)), (.iload_n 2, 1, (2, 0, 0, 0, 0)), (.iadd, 1, (0, 0, 0, 0, 0)), (.iaload, 1, (0, 0, 0, 0, 0)), (.istore 4, 2, (4, 0, 0, 0, 0)), (.iload 4, 2, (4, 0, 0, 0, 0)), (.ifCond .lt 38, 3, (54, 0, 0, 0, 0)), (.aload_n 0, 1, (0, 0, 0, 0, 0)), (.getfield 25, 3, (12, 9, 2027, 0, 0)), (.sipush 301, 3, (0, 0, 0, 301, 0)), (.iload_n 1, 1, (1, 0, 0, 0, 0)), (.imul, 1, (0, 0, 0, 0, 0)), (.iload 4, 2, (4, 0, 0, 0, 0)), (.iadd, 1, (0, 0, 0, 0, 0)), (.iaload, 1, (0, 0, 0, 0, 0)), (.iload_n 3, 1, (3, 0, 0, 0, 0)), (.if_icmp .eq 21, 3, (54, 0, 0, 0, 0)), (.aload_n 0, 1, (0, 0, 0, 0, 0)), (.getfield 31, 3, (12, 11, 2031, 0, 0)), (.sipush 301, 3, (0, 0, 0, 301, 0)), (.iload_n 1, 1, (1, 0, 0, 0, 0)), (.imul, 1, (0, 0, 0, 0, 0)), (.iload 4, 2, (4, 0, 0, 0, 0)), (.iadd, 1, (0, 0, 0, 0, 0)), (.iaload, 1, (0, 0, 0, 0, 0)), (.istore 4, 2, (4, 0, 0, 0, 0)), (.goto (-37), 3, (14, 0, 0, 0, 0)), (.iload 4, 2, (4, 0, 0, 0, 0)), (.ireturn, 1, (0, 0, 0, 0, 0))]
theorem ao_MTchildX : jokLG jtF lk_MT "ChessHouseModel$Texts" jcl jtb 5 prog_18_method_27_code 0 ak_MTchildX = true := by decide +kernel
noncomputable def y_MT_isFirst : jY := (⟨"ChessHouseModel$Texts", "isFirst", "(II)Z"⟩, prog_18_method_29_code, 3, (some .boolean))
theorem m_MT_isFirst : jmth lw_tbl y_MT_isFirst 2 := ⟨jTA_in (wi := 2801) (jtF_ok rfl) rfl, jTA_in (wi := 315) (jtF_ok rfl) rfl, by decide, by decide, by decide +kernel⟩
theorem i_MT_isFirst : Jvm.Cond.instanceMethod y_MT_isFirst.1 ∈ jTA lw_tbl := jTA_in (wi := 2800) (jtF_ok rfl) rfl
theorem e_MT_isFirst : Jvm.Cond.selects y_MT_isFirst.1.cls y_MT_isFirst.1 y_MT_isFirst.1 ∈ jTA lw_tbl := jTA_in (wi := 214) (jtF_ok rfl) rfl
noncomputable def ak_MTisFirstX : List jI := [(.aload_n 0, 1, (0, 0, 0, 0, 0)), (.getfield 28, 3, (12, 10, 2029, 0, 0)), (.sipush 301, 3, (0, 0, 0, 301, 0)), (.iload_n 1, 1, (1, 0, 0, 0, 0)), (.imul, 1, (0, 0, 0, 0, 0)), (.aload_n 0, 1, (0, 0, 0, 0, 0)), (.getfield 22, 3, (12, 8, 2025, 0, 0)), (.sipush 301, 3, (0, 0, 0, 301, 0)), (.iload_n 1, 1, (1, 0, 0, 0, 0)), (.imul, 1, (0, 0, 0, 0, 0)), (.iload_n 2, 1, (2, 0, 0, 0, 0)), (.iadd, 1, (0, 0, 0, 0, 0)), (.iaload, 1, (0, 0, 0, 0, 0)), (.iadd, 1, (0, 0, 0, 0, 0)), (.iaload, 1, (0, 0, 0, 0, 0)), (.iload_n 2, 1, (2, 0, 0, 0, 0)), (.if_icmp .ne 7, 3, (31, 0, 0, 0, 0)), (.iconst 1, 1, (0, 0, 0, 1, 0)), (.goto 4, 3, (32, 0, 0, 0, 0)), (.iconst 0, 1, (0, 0, 0, 0, 0)), (.ireturn, 1, (0, 0, 0, 0, 0))]
theorem ao_MTisFirstX : jokLG jtF lk_MT "ChessHouseModel$Texts" jcl jtb 3 prog_18_method_29_code 0 ak_MTisFirstX = true := by decide +kernel
/-! the tree of a game: the reference; game g of two, its rows from 301 g on -/
noncomputable def zro (W : zW) (a : Nat) (g : Int) : Int → Int := fun i => W.2.1 a (301 * g + i)
/-- a chain of nodes, -1 at its end -/
noncomputable def xCr (nx : Int → Int) : Int → List Int → Prop
  | a, [] => a = -1
  | a, x :: l => a = x ∧ xCr nx (nx x) l
noncomputable def xFr (mv : Int → Int) (m : Int) : List Int → Int
  | [] => -1
  | x :: l => if mv x = m then x else xFr mv m l
noncomputable def zm_childWith : zM := (some .int, { frames := 0, cells := 0, slots := 0, locals := 0 }, ([], []), [], ak_MTchildX)
theorem zp_childWith_0 {n K : Nat} {W : zW} {post : zPo} {g u m : Int} (hK : 9 ≤ K) (hn : 142 ≤ n) (h : (-2147483648 ≤ 301 * g ∧ 301 * g ≤ 2147483647) ∧ (-2147483648 ≤ (301 * g) + u ∧ (301 * g) + u ≤ 2147483647) ∧ (0 ≤ ((301 * g) + u) ∧ ((301 * g) + u) < 602) ∧ zwp jtb zsh n zm_childWith post (K - 9) (lGo ak_MTchildX 14) 14 [some (.inr (.inr (some (.inl 90)))), some (.inl (g)), some (.inl (u)), some (.inl (m)), some (.inl (W.2.1 96 ((301 * g) + u)))] [] W) : zwp jtb zsh n zm_childWith post K (lGo ak_MTchildX 0) 0 [some (.inr (.inr (some (.inl 90)))), some (.inl (g)), some (.inl (u)), some (.inl (m)), none] [] W := by
  obtain ⟨k, rfl⟩ : ∃ k, K = k + 9 := ⟨K - 9, by omega⟩
  exact (show 90 < n ∧ 12 = 12 ∧ (-2147483648 ≤ 301 * g ∧ 301 * g ≤ 2147483647) ∧ (-2147483648 ≤ (301 * g) + u ∧ (301 * g) + u ≤ 2147483647) ∧ 96 < n ∧ FieldType.int = FieldType.int ∧ (0 ≤ ((301 * g) + u) ∧ ((301 * g) + u) < 602) ∧ zwp jtb zsh n zm_childWith post (k + 0) (lGo ak_MTchildX 14) 14 [some (.inr (.inr (some (.inl 90)))), some (.inl (g)), some (.inl (u)), some (.inl (m)), some (.inl (W.2.1 96 ((301 * g) + u)))] [] W from ⟨(Nat.lt_of_lt_of_le (by decide) hn), rfl, ⟨(h).1, ⟨((h).2).1, ⟨(Nat.lt_of_lt_of_le (by decide) hn), rfl, (((h).2).2).1, (((h).2).2).2⟩⟩⟩⟩)
theorem zp_childWith_14 {n K : Nat} {W : zW} {post : zPo} {g u m y : Int} (hK : 22 ≤ K) (hn : 142 ≤ n) (h : (y < 0 → post (some (.inl (y))) W) ∧ (¬ y < 0 → (-2147483648 ≤ 301 * g ∧ 301 * g ≤ 2147483647) ∧ (-2147483648 ≤ (301 * g) + y ∧ (301 * g) + y ≤ 2147483647) ∧ (0 ≤ ((301 * g) + y) ∧ ((301 * g) + y) < 602) ∧ ((W.2.1 95 ((301 * g) + y)) = m → post (some (.inl (y))) W) ∧ (¬ (W.2.1 95 ((301 * g) + y)) = m → (-2147483648 ≤ 301 * g ∧ 301 * g ≤ 2147483647) ∧ (-2147483648 ≤ (301 * g) + y ∧ (301 * g) + y ≤ 2147483647) ∧ (0 ≤ ((301 * g) + y) ∧ ((301 * g) + y) < 602) ∧ zwp jtb zsh n zm_childWith post (K - 22) (lGo ak_MTchildX 14) 14 [some (.inr (.inr (some (.inl 90)))), some (.inl (g)), some (.inl (u)), some (.inl (m)), some (.inl (W.2.1 97 ((301 * g) + y)))] [] W))) : zwp jtb zsh n zm_childWith post K (lGo ak_MTchildX 14) 14 [some (.inr (.inr (some (.inl 90)))), some (.inl (g)), some (.inl (u)), some (.inl (m)), some (.inl (y))] [] W := by
  obtain ⟨k, rfl⟩ : ∃ k, K = k + 22 := ⟨K - 22, by omega⟩
  exact (show (y < 0 → 1 = 1 ∧ True ∧ post (some (.inl (y))) W) ∧ (¬ y < 0 → 90 < n ∧ 12 = 12 ∧ (-2147483648 ≤ 301 * g ∧ 301 * g ≤ 2147483647) ∧ (-2147483648 ≤ (301 * g) + y ∧ (301 * g) + y ≤ 2147483647) ∧ 95 < n ∧ FieldType.int = FieldType.int ∧ (0 ≤ ((301 * g) + y) ∧ ((301 * g) + y) < 602) ∧ ((W.2.1 95 ((301 * g) + y)) = m → 1 = 1 ∧ True ∧ post (some (.inl (y))) W) ∧ (¬ (W.2.1 95 ((301 * g) + y)) = m → 90 < n ∧ 12 = 12 ∧ (-2147483648 ≤ 301 * g ∧ 301 * g ≤ 2147483647) ∧ (-2147483648 ≤ (301 * g) + y ∧ (301 * g) + y ≤ 2147483647) ∧ 97 < n ∧ FieldType.int = FieldType.int ∧ (0 ≤ ((301 * g) + y) ∧ ((301 * g) + y) < 602) ∧ zwp jtb zsh n zm_childWith post (k + 0) (lGo ak_MTchildX 14) 14 [some (.inr (.inr (some (.inl 90)))), some (.inl (g)), some (.inl (u)), some (.inl (m)), some (.inl (W.2.1 97 ((301 * g) + y)))] [] W)) from ⟨fun hc1 => ⟨rfl, trivial, ((h).1 hc1)⟩, fun hc1 => ⟨(Nat.lt_of_lt_of_le (by decide) hn), rfl, ⟨(((h).2 hc1)).1, ⟨((((h).2 hc1)).2).1, ⟨(Nat.lt_of_lt_of_le (by decide) hn), rfl, (((((h).2 hc1)).2).2).1, ⟨fun hc11 => (have h := (((((((h).2 hc1)).2).2).2).1 hc11); ⟨rfl, trivial, h⟩), fun hc11 => (have h := (((((((h).2 hc1)).2).2).2).2 hc11); ⟨(Nat.lt_of_lt_of_le (by decide) hn), rfl, ⟨(h).1, ⟨((h).2).1, ⟨(Nat.lt_of_lt_of_le (by decide) hn), rfl, (((h).2).2).1, (((h).2).2).2⟩⟩⟩⟩)⟩⟩⟩⟩⟩⟩)
theorem zg_childWith {n : Nat} {W : zW} {post : zPo} {g u m : Int} (hn : 142 ≤ n) (hg : 0 ≤ g ∧ g ≤ 1) : ∀ (l : List Int) (K : Nat) (y : Int), 40 * l.length + 40 ≤ K → xCr (zro W 97 g) y l → (∀ x ∈ l, 0 ≤ x ∧ x < 301) → post (some (.inl (xFr (zro W 95 g) m l))) W → zwp jtb zsh n zm_childWith post K (lGo ak_MTchildX 14) 14 [some (.inr (.inr (some (.inl 90)))), some (.inl g), some (.inl u), some (.inl m), some (.inl y)] [] W := by
  intro l
  induction l with
  | nil =>
    intro K y hK hc hr hp
    obtain rfl : y = -1 := hc
    exact zp_childWith_14 (by omega) hn ⟨fun _ => hp, fun h => absurd (by decide) h⟩
  | cons x l ih =>
    intro K y hK hc hr hp
    obtain ⟨rfl, hc⟩ := hc
    rw [List.length_cons] at hK
    have hv := hr y (List.mem_cons_self ..)
    have e : xFr (zro W 95 g) m (y :: l) = if W.2.1 95 (301 * g + y) = m then y else xFr (zro W 95 g) m l := rfl
    rw [e] at hp
    refine zp_childWith_14 (by omega) hn ⟨fun h => absurd h (by omega), fun _ => ⟨by omega, by omega, by omega, fun h => ?_, fun h => ⟨by omega, by omega, by omega, ih _ _ (by omega) hc (fun z hz => hr z (List.mem_cons_of_mem _ hz)) ?_⟩⟩⟩
    · rw [if_pos h] at hp; exact hp
    · rw [if_neg h] at hp; exact hp
noncomputable def zc_childWith (vals : List zv) (W : zW) (post : zPo) : Prop := ∃ (g u m : Int) (l : List Int), vals = [.inr (.inr (some (.inl 90))), .inl g, .inl u, .inl m] ∧ 0 ≤ g ∧ g ≤ 1 ∧ 0 ≤ u ∧ u < 301 ∧ xCr (zro W 97 g) (zro W 96 g u) l ∧ (∀ x ∈ l, 0 ≤ x ∧ x < 301) ∧ post (some (.inl (xFr (zro W 95 g) m l))) W
noncomputable def zm_isFirst : zM := (some .boolean, { frames := 0, cells := 0, slots := 0, locals := 0 }, ([], []), [], ak_MTisFirstX)
theorem zp_isFirst_0 {n K : Nat} {W : zW} {post : zPo} {g u : Int} (hK : 20 ≤ K) (hn : 142 ≤ n) (h : (-2147483648 ≤ 301 * g ∧ 301 * g ≤ 2147483647) ∧ (-2147483648 ≤ 301 * g ∧ 301 * g ≤ 2147483647) ∧ (-2147483648 ≤ (301 * g) + u ∧ (301 * g) + u ≤ 2147483647) ∧ (0 ≤ ((301 * g) + u) ∧ ((301 * g) + u) < 602) ∧ (-2147483648 ≤ (301 * g) + (W.2.1 94 ((301 * g) + u)) ∧ (301 * g) + (W.2.1 94 ((301 * g) + u)) ≤ 2147483647) ∧ (0 ≤ ((301 * g) + (W.2.1 94 ((301 * g) + u))) ∧ ((301 * g) + (W.2.1 94 ((301 * g) + u))) < 602) ∧ (¬ (W.2.1 96 ((301 * g) + (W.2.1 94 ((301 * g) + u)))) = u → post (some (.inl (0))) W) ∧ ((W.2.1 96 ((301 * g) + (W.2.1 94 ((301 * g) + u)))) = u → post (some (.inl (1))) W)) : zwp jtb zsh n zm_isFirst post K (lGo ak_MTisFirstX 0) 0 [some (.inr (.inr (some (.inl 90)))), some (.inl (g)), some (.inl (u))] [] W := by
  obtain ⟨k, rfl⟩ : ∃ k, K = k + 20 := ⟨K - 20, by omega⟩
  exact (show 90 < n ∧ 12 = 12 ∧ (-2147483648 ≤ 301 * g ∧ 301 * g ≤ 2147483647) ∧ 90 < n ∧ 12 = 12 ∧ (-2147483648 ≤ 301 * g ∧ 301 * g ≤ 2147483647) ∧ (-2147483648 ≤ (301 * g) + u ∧ (301 * g) + u ≤ 2147483647) ∧ 94 < n ∧ FieldType.int = FieldType.int ∧ (0 ≤ ((301 * g) + u) ∧ ((301 * g) + u) < 602) ∧ (-2147483648 ≤ (301 * g) + (W.2.1 94 ((301 * g) + u)) ∧ (301 * g) + (W.2.1 94 ((301 * g) + u)) ≤ 2147483647) ∧ 96 < n ∧ FieldType.int = FieldType.int ∧ (0 ≤ ((301 * g) + (W.2.1 94 ((301 * g) + u))) ∧ ((301 * g) + (W.2.1 94 ((301 * g) + u))) < 602) ∧ (¬ (W.2.1 96 ((301 * g) + (W.2.1 94 ((301 * g) + u)))) = u → 1 = 1 ∧ ((0 : Int) = 0 ∨ (0 : Int) = 1) ∧ post (some (.inl (0))) W) ∧ ((W.2.1 96 ((301 * g) + (W.2.1 94 ((301 * g) + u)))) = u → 1 = 1 ∧ ((1 : Int) = 0 ∨ (1 : Int) = 1) ∧ post (some (.inl (1))) W) from ⟨(Nat.lt_of_lt_of_le (by decide) hn), rfl, ⟨(h).1, ⟨(Nat.lt_of_lt_of_le (by decide) hn), rfl, ⟨((h).2).1, ⟨(((h).2).2).1, ⟨(Nat.lt_of_lt_of_le (by decide) hn), rfl, ((((h).2).2).2).1, ⟨(((((h).2).2).2).2).1, ⟨(Nat.lt_of_lt_of_le (by decide) hn), rfl, ((((((h).2).2).2).2).2).1, (have h := ((((((h).2).2).2).2).2).2; ⟨fun hc16 => ⟨rfl, Or.inl rfl, ((h).1 hc16)⟩, fun hc16 => ⟨rfl, Or.inr rfl, ((h).2 hc16)⟩⟩)⟩⟩⟩⟩⟩⟩⟩⟩)
noncomputable def zc_isFirst (vals : List zv) (W : zW) (post : zPo) : Prop := ∃ g u : Int, vals = [.inr (.inr (some (.inl 90))), .inl g, .inl u] ∧ 0 ≤ g ∧ g ≤ 1 ∧ 0 ≤ u ∧ u < 301 ∧ 0 ≤ zro W 94 g u ∧ zro W 94 g u < 301 ∧ ∀ r : Int, xBl r (zro W 96 g (zro W 94 g u) = u) → post (some (.inl r)) W
section
variable {l : Launch} {E : jE} {n : Nat}
theorem zk_childWith (hn : 142 ≤ n) : zHas l E jcl jtb lw_tbl zsh n (y_MT_childWith, false, 4, 12, { frames := 0, cells := 0, slots := 0, locals := 0 }, zc_childWith) := by
  refine ⟨⟨rfl, rfl, ⟨show 1 ≤ 4 by decide, m_MT_childWith, i_MT_childWith, e_MT_childWith, fun _ => ⟨_, rfl, rfl⟩⟩⟩, ?_⟩
  rintro vz W po hO hW ⟨g, u, m, l, rfl, h0, h1, h2, h3, h4, h5, hp⟩
  refine zmet (m := zm_childWith) rfl (by decide) (fun _ _ => jtF_ok) lo_MT ao_MTchildX jC (fun q h => by cases h) (fun q h => by cases h) (fun G h => by cases h) (Nat.le_of_ble_eq_true rfl) hO hW (40 * l.length + 80) ?_
  exact zp_childWith_0 (by omega) hn ⟨by omega, by omega, by omega, zg_childWith hn ⟨h0, h1⟩ l _ _ (by omega) h4 h5 hp⟩
theorem zk_isFirst (hn : 142 ≤ n) : zHas l E jcl jtb lw_tbl zsh n (y_MT_isFirst, false, 3, 12, { frames := 0, cells := 0, slots := 0, locals := 0 }, zc_isFirst) := by
  refine ⟨⟨rfl, rfl, ⟨show 1 ≤ 3 by decide, m_MT_isFirst, i_MT_isFirst, e_MT_isFirst, fun _ => ⟨_, rfl, rfl⟩⟩⟩, ?_⟩
  rintro vz W po hO hW ⟨g, u, rfl, h0, h1, h2, h3, h4, h5, hp⟩
  unfold zro at h4 h5
  refine zmet (m := zm_isFirst) rfl (by decide) (fun _ _ => jtF_ok) lo_MT ao_MTisFirstX jC (fun q h => by cases h) (fun q h => by cases h) (fun G h => by cases h) (Nat.le_of_ble_eq_true rfl) hO hW 60 ?_
  exact zp_isFirst_0 (by omega) hn ⟨by omega, by omega, by omega, by omega, by omega, by omega, fun h => hp 0 (Or.inr ⟨rfl, h⟩), fun h => hp 1 (Or.inl ⟨rfl, h⟩)⟩
end
end
section
noncomputable def y_MT_deepOf : jY := (⟨"ChessHouseModel$Texts", "deepOf", "(II)I"⟩, prog_18_method_30_code, 5, (some .int))
theorem m_MT_deepOf : jmth lw_tbl y_MT_deepOf 2 := ⟨jTA_in (wi := 2797) (jtF_ok rfl) rfl, jTA_in (wi := 315) (jtF_ok rfl) rfl, by decide, by decide, by decide +kernel⟩
theorem i_MT_deepOf : Jvm.Cond.instanceMethod y_MT_deepOf.1 ∈ jTA lw_tbl := jTA_in (wi := 2796) (jtF_ok rfl) rfl
theorem e_MT_deepOf : Jvm.Cond.selects y_MT_deepOf.1.cls y_MT_deepOf.1 y_MT_deepOf.1 ∈ jTA lw_tbl := jTA_in (wi := 213) (jtF_ok rfl) rfl
noncomputable def ak_MTdeepX : List jI := [(.iconst 0, 1, (0, 0, 0, 0, 0)), (.istore_n 3, 1, (3, 0, 0, 0, 0)), (.iload_n 2, 1, (2, 0, 0, 0, 0)), (.istore 4, 2, (4, 0, 0, 0, 0)), (.iload 4, 2, (4, 0, 0, 0, 0)), (.ifCond .le 39, 3, (46, 0, 0, 0, 0)), (.aload_n 0, 1, (0, 0, 0, 0, 0)), (.iload_n 1, 1, (1, 0, 0, 0, 0)), (.iload 4, 2, (4, 0, 0, 0, 0)), (.invokevirtual 189, 3, (0, 0, 2798, 0, 0)), (.ifCond .eq 7, 3, (24, 0, 0, 0, 0)), (.iload_n 3, 1, (3, 0, 0, 0, 0)), (.goto 6, 3, (27, 0, 0, 0, 0)), (.iload_n 3, 1, (3, 0, 0, 0, 0)), (.iconst 1, 1, (0, 0, 0, 1, 0)), (.iadd, 1, (0, 0, 0, 0, 0)), (.istore_n 3, 1, (3, 0, 0, 0, 0)), (.aload_n 0, 1, (0, 0, 0, 0, 0)), (.getfield 22, 3, (12, 8, 2025, 0, 0)), (.sipush 301, 3, (0, 0, 0, 301, 0)), (.iload_n 1, 1, (1, 0, 0, 0, 0)), (.imul, 1, (0, 0, 0, 0, 0)), (.iload 4, 2, (4, 0, 0, 0, 0)), (.iadd, 1, (0, 0, 0, 0, 0)), (.iaload, 1, (0, 0, 0, 0, 0)), (.istore 4, 2, (4, 0, 0, 0, 0)), (.goto (-38), 3, (5, 0, 0, 0, 0)), (.iload_n 3, 1, (3, 0, 0, 0, 0)), (.ireturn, 1, (0, 0, 0, 0, 0))]
theorem ao_MTdeepX : jokLG jtF lk_MT "ChessHouseModel$Texts" jcl jtb 5 prog_18_method_30_code 0 ak_MTdeepX = true := by decide +kernel
noncomputable def zm_deepOf : zM := (some .int, { frames := 1, cells := 0, slots := 0, locals := 22 }, ([(189, 2798, 0)], []), [(y_MT_isFirst, false, 3, 12, { frames := 0, cells := 0, slots := 0, locals := 0 }, zc_isFirst)], ak_MTdeepX)
theorem zp_deepOf_0 {n K : Nat} {W : zW} {post : zPo} {g a : Int} (hK : 4 ≤ K) (hn : 142 ≤ n) (h : zwp jtb zsh n zm_deepOf post (K - 4) (lGo ak_MTdeepX 5) 5 [some (.inr (.inr (some (.inl 90)))), some (.inl (g)), some (.inl (a)), some (.inl (0)), some (.inl (a))] [] W) : zwp jtb zsh n zm_deepOf post K (lGo ak_MTdeepX 0) 0 [some (.inr (.inr (some (.inl 90)))), some (.inl (g)), some (.inl (a)), none, none] [] W := by
  obtain ⟨k, rfl⟩ : ∃ k, K = k + 4 := ⟨K - 4, by omega⟩
  exact (show zwp jtb zsh n zm_deepOf post (k + 0) (lGo ak_MTdeepX 5) 5 [some (.inr (.inr (some (.inl 90)))), some (.inl (g)), some (.inl (a)), some (.inl (0)), some (.inl (a))] [] W from h)
theorem zp_deepOf_5 {n K : Nat} {W : zW} {post : zPo} {g a o u : Int} (hK : 6 ≤ K) (hn : 142 ≤ n) (h : (u ≤ 0 → post (some (.inl (o))) W) ∧ (¬ u ≤ 0 → zc_isFirst [.inr (.inr (some (.inl 90))), .inl (g), .inl (u)] W (fun v W' => zwp jtb zsh n zm_deepOf post (K - 6) (lGo ak_MTdeepX 17) 17 [some (.inr (.inr (some (.inl 90)))), some (.inl (g)), some (.inl (a)), some (.inl (o)), some (.inl (u))] (v.toList ++ []) W'))) : zwp jtb zsh n zm_deepOf post K (lGo ak_MTdeepX 5) 5 [some (.inr (.inr (some (.inl 90)))), some (.inl (g)), some (.inl (a)), some (.inl (o)), some (.inl (u))] [] W := by
  obtain ⟨k, rfl⟩ : ∃ k, K = k + 6 := ⟨K - 6, by omega⟩
  exact (show (u ≤ 0 → 1 = 1 ∧ True ∧ post (some (.inl (o))) W) ∧ (¬ u ≤ 0 → 3 = 3 ∧ false = false ∧ jin3 189 2798 0 zm_deepOf.2.2.1.1 = true ∧ lRm zm_deepOf.2.1 { frames := 0, cells := 0, slots := 0, locals := 0 } 3 = true ∧ Nat.ble 3 3 = true ∧ Nat.ble 0 8 = true ∧ 90 < n ∧ 12 = 12 ∧ Nat.ble 1000 12 = false ∧ zc_isFirst [.inr (.inr (some (.inl 90))), .inl (g), .inl (u)] W (fun v W' => zwp jtb zsh n zm_deepOf post (k + 0) (lGo ak_MTdeepX 17) 17 [some (.inr (.inr (some (.inl 90)))), some (.inl (g)), some (.inl (a)), some (.inl (o)), some (.inl (u))] (v.toList ++ []) W')) from ⟨fun hc1 => ⟨rfl, trivial, ((h).1 hc1)⟩, fun hc1 => ⟨rfl, rfl, rfl, rfl, rfl, rfl, (Nat.lt_of_lt_of_le (by decide) hn), rfl, rfl, ((h).2 hc1)⟩⟩)
theorem zp_deepOf_17 {n K : Nat} {W : zW} {post : zPo} {g a o u x : Int} (hK : 4 ≤ K) (hn : 142 ≤ n) (h : (x = 0 → (-2147483648 ≤ o + 1 ∧ o + 1 ≤ 2147483647) ∧ zwp jtb zsh n zm_deepOf post (K - 4) (lGo ak_MTdeepX 27) 27 [some (.inr (.inr (some (.inl 90)))), some (.inl (g)), some (.inl (a)), some (.inl (o)), some (.inl (u))] [.inl (o + 1)] W) ∧ (¬ x = 0 → zwp jtb zsh n zm_deepOf post (K - 3) (lGo ak_MTdeepX 27) 27 [some (.inr (.inr (some (.inl 90)))), some (.inl (g)), some (.inl (a)), some (.inl (o)), some (.inl (u))] [.inl (o)] W)) : zwp jtb zsh n zm_deepOf post K (lGo ak_MTdeepX 17) 17 [some (.inr (.inr (some (.inl 90)))), some (.inl (g)), some (.inl (a)), some (.inl (o)), some (.inl (u))] [.inl (x)] W := by
  obtain ⟨k, rfl⟩ : ∃ k, K = k + 4 := ⟨K - 4, by omega⟩
  exact (show (x = 0 → (-2147483648 ≤ o + 1 ∧ o + 1 ≤ 2147483647) ∧ zwp jtb zsh n zm_deepOf post (k + 0) (lGo ak_MTdeepX 27) 27 [some (.inr (.inr (some (.inl 90)))), some (.inl (g)), some (.inl (a)), some (.inl (o)), some (.inl (u))] [.inl (o + 1)] W) ∧ (¬ x = 0 → zwp jtb zsh n zm_deepOf post (k + 1) (lGo ak_MTdeepX 27) 27 [some (.inr (.inr (some (.inl 90)))), some (.inl (g)), some (.inl (a)), some (.inl (o)), some (.inl (u))] [.inl (o)] W) from ⟨fun hc0 => ⟨(((h).1 hc0)).1, (((h).1 hc0)).2⟩, fun hc0 => ((h).2 hc0)⟩)
theorem zp_deepOf_27 {n K : Nat} {W : zW} {post : zPo} {g a o u x : Int} (hK : 11 ≤ K) (hn : 142 ≤ n) (h : (-2147483648 ≤ 301 * g ∧ 301 * g ≤ 2147483647) ∧ (-2147483648 ≤ (301 * g) + u ∧ (301 * g) + u ≤ 2147483647) ∧ (0 ≤ ((301 * g) + u) ∧ ((301 * g) + u) < 602) ∧ zwp jtb zsh n zm_deepOf post (K - 11) (lGo ak_MTdeepX 5) 5 [some (.inr (.inr (some (.inl 90)))), some (.inl (g)), some (.inl (a)), some (.inl (x)), some (.inl (W.2.1 94 ((301 * g) + u)))] [] W) : zwp jtb zsh n zm_deepOf post K (lGo ak_MTdeepX 27) 27 [some (.inr (.inr (some (.inl 90)))), some (.inl (g)), some (.inl (a)), some (.inl (o)), some (.inl (u))] [.inl (x)] W := by
  obtain ⟨k, rfl⟩ : ∃ k, K = k + 11 := ⟨K - 11, by omega⟩
  exact (show 90 < n ∧ 12 = 12 ∧ (-2147483648 ≤ 301 * g ∧ 301 * g ≤ 2147483647) ∧ (-2147483648 ≤ (301 * g) + u ∧ (301 * g) + u ≤ 2147483647) ∧ 94 < n ∧ FieldType.int = FieldType.int ∧ (0 ≤ ((301 * g) + u) ∧ ((301 * g) + u) < 602) ∧ zwp jtb zsh n zm_deepOf post (k + 0) (lGo ak_MTdeepX 5) 5 [some (.inr (.inr (some (.inl 90)))), some (.inl (g)), some (.inl (a)), some (.inl (x)), some (.inl (W.2.1 94 ((301 * g) + u)))] [] W from ⟨(Nat.lt_of_lt_of_le (by decide) hn), rfl, ⟨(h).1, ⟨((h).2).1, ⟨(Nat.lt_of_lt_of_le (by decide) hn), rfl, (((h).2).2).1, (((h).2).2).2⟩⟩⟩⟩)
theorem zg_deepOf {n : Nat} {W : zW} {post : zPo} {g a N : Int} (hn : 142 ≤ n) (hg : 0 ≤ g ∧ g ≤ 1) (hN : N ≤ 300) (hP : trP (zro W 94 g) N) : ∀ (m K : Nat) (o u : Int), 60 * m + 60 ≤ K → u ≤ m → 0 ≤ u → u ≤ N → 0 ≤ o → o ≤ 1000 - m → m ≤ 300 → post (some (.inl (o + trE (zro W 94 g) (zro W 96 g) u))) W → zwp jtb zsh n zm_deepOf post K (lGo ak_MTdeepX 5) 5 [some (.inr (.inr (some (.inl 90)))), some (.inl g), some (.inl a), some (.inl o), some (.inl u)] [] W := by
  have zero : ∀ o : Int, post (some (.inl (o + trE (zro W 94 g) (zro W 96 g) 0))) W → post (some (.inl o)) W := by
    intro o h
    rw [tr_0 (Int.le_refl 0), Int.add_zero] at h
    exact h
  intro m
  induction m with
  | zero =>
    intro K o u hK hv v0 vN o0 o1 hm hp
    obtain rfl : u = 0 := by omega
    exact zp_deepOf_5 (by omega) hn ⟨fun _ => zero o hp, fun h => absurd (by decide) h⟩
  | succ m ih =>
    intro K o u hK hv v0 vN o0 o1 hm hp
    by_cases hz : u = 0
    · subst hz
      exact zp_deepOf_5 (by omega) hn ⟨fun _ => zero o hp, fun h => absurd (by decide) h⟩
    have hq := hP u (by omega) vN
    rw [tr_1 hP (show 1 ≤ u by omega) vN] at hp
    have go : ∀ (K' : Nat) (x : Int), 60 * m + 80 ≤ K' → 0 ≤ x → x ≤ 1000 - m → post (some (.inl (x + trE (zro W 94 g) (zro W 96 g) (zro W 94 g u)))) W → zwp jtb zsh n zm_deepOf post K' (lGo ak_MTdeepX 27) 27 [some (.inr (.inr (some (.inl 90)))), some (.inl g), some (.inl a), some (.inl o), some (.inl u)] [.inl x] W := by
      intro K' x hK' h0 h1 hp'
      exact zp_deepOf_27 (by omega) hn ⟨by omega, by omega, by omega, ih _ x (zro W 94 g u) (by omega) (by omega) (by omega) (by omega) h0 h1 (by omega) hp'⟩
    refine zp_deepOf_5 (by omega) hn ⟨fun h => absurd h (by omega), fun _ => ⟨g, u, rfl, hg.1, hg.2, v0, by omega, hq.1, by omega, fun r hr => zp_deepOf_17 (by omega) hn ⟨fun h => ⟨by omega, go _ (o + 1) (by omega) (by omega) (by omega) ?_⟩, fun h => go _ o (by omega) o0 (by omega) ?_⟩⟩⟩
    · rw [if_neg (xBl_0 hr h)] at hp
      rw [show o + 1 + trE (zro W 94 g) (zro W 96 g) (zro W 94 g u) = o + (trE (zro W 94 g) (zro W 96 g) (zro W 94 g u) + 1) by omega]
      exact hp
    · rw [if_pos (xBl_1 hr h), Int.add_zero] at hp
      exact hp
noncomputable def zc_deepOf (vals : List zv) (W : zW) (post : zPo) : Prop := ∃ g a N : Int, vals = [.inr (.inr (some (.inl 90))), .inl g, .inl a] ∧ 0 ≤ g ∧ g ≤ 1 ∧ N ≤ 300 ∧ trP (zro W 94 g) N ∧ 0 ≤ a ∧ a ≤ N ∧ post (some (.inl (trE (zro W 94 g) (zro W 96 g) a))) W
section
variable {l : Launch} {E : jE} {n : Nat}
theorem zk_deepOf (hn : 142 ≤ n) : zHas l E jcl jtb lw_tbl zsh n (y_MT_deepOf, false, 3, 12, { frames := 1, cells := 0, slots := 0, locals := 22 }, zc_deepOf) := by
  refine ⟨⟨rfl, rfl, ⟨show 1 ≤ 3 by decide, m_MT_deepOf, i_MT_deepOf, e_MT_deepOf, fun _ => ⟨_, rfl, rfl⟩⟩⟩, ?_⟩
  rintro vz W po hO hW ⟨g, a, N, rfl, g0, g1, h0, h1, h2, h3, hp⟩
  refine zmet (m := zm_deepOf) rfl (by decide) (fun _ _ => jtF_ok) lo_MT ao_MTdeepX jC (fun q h => by cases h) (aAllc (fun G h => by obtain rfl := Option.some.inj h; exact ql_MT_189) (fun q h => by cases h)) (aAllc (zk_isFirst hn) (fun q h => by cases h)) (Nat.le_of_ble_eq_true rfl) hO hW 20000 ?_
  exact zp_deepOf_0 (by omega) hn (zg_deepOf hn ⟨g0, g1⟩ h0 h1 300 _ 0 a (by omega) (by omega) h2 h3 (by omega) (by omega) (by omega) (by rw [Int.zero_add]; exact hp))
end
end
section
/-! class and reference find the same words -/
theorem xWs_u {g : Int → Int} {p s : Int} {c d : Nat} (h : xWs g p s c) (h2 : xWs g p s d) : c = d := by
  rcases Nat.lt_trichotomy c d with q | q | q
  · have := h2.1 c q
    rw [h.2] at this
    omega
  · exact q
  · have := h.1 d q
    rw [h2.2] at this
    omega
theorem xNv_u {g : Int → Int} {a e v w : Int} (h1 : xNv g a e v) (h2 : xNv g a e w) : v = w := by
  obtain ⟨ls, hls, -, -, -, -, hv⟩ := h1
  have := xN_u hls rfl h2
  rw [this, hv]
end
section
noncomputable def y_MT_isBehind : jY := (⟨"ChessHouseModel$Texts", "isBehind", "(II)Z"⟩, prog_18_method_98_code, 4, (some .boolean))
theorem m_MT_isBehind : jmth lw_tbl y_MT_isBehind 2 := ⟨jTA_in (wi := 2837) (jtF_ok rfl) rfl, jTA_in (wi := 315) (jtF_ok rfl) rfl, by decide, by decide, by decide +kernel⟩
theorem i_MT_isBehind : Jvm.Cond.instanceMethod y_MT_isBehind.1 ∈ jTA lw_tbl := jTA_in (wi := 2836) (jtF_ok rfl) rfl
theorem e_MT_isBehind : Jvm.Cond.selects y_MT_isBehind.1.cls y_MT_isBehind.1 y_MT_isBehind.1 ∈ jTA lw_tbl := jTA_in (wi := 220) (jtF_ok rfl) rfl
noncomputable def ak_MTbehindX : List jI := [(.iload_n 1, 1, (1, 0, 0, 0, 0)), (.istore_n 3, 1, (3, 0, 0, 0, 0)), (.iload_n 3, 1, (3, 0, 0, 0, 0)), (.iload_n 2, 1, (2, 0, 0, 0, 0)), (.if_icmp .le 22, 3, (26, 0, 0, 0, 0)), (.aload_n 0, 1, (0, 0, 0, 0, 0)), (.getfield 22, 3, (12, 8, 2025, 0, 0)), (.sipush 301, 3, (0, 0, 0, 301, 0)), (.aload_n 0, 1, (0, 0, 0, 0, 0)), (.getfield 349, 3, (12, 5, 2020, 0, 0)), (.imul, 1, (0, 0, 0, 0, 0)), (.iload_n 3, 1, (3, 0, 0, 0, 0)), (.iadd, 1, (0, 0, 0, 0, 0)), (.iaload, 1, (0, 0, 0, 0, 0)), (.istore_n 3, 1, (3, 0, 0, 0, 0)), (.goto (-21), 3, (2, 0, 0, 0, 0)), (.iload_n 3, 1, (3, 0, 0, 0, 0)), (.iload_n 2, 1, (2, 0, 0, 0, 0)), (.if_icmp .ne 7, 3, (35, 0, 0, 0, 0)), (.iconst 1, 1, (0, 0, 0, 1, 0)), (.goto 4, 3, (36, 0, 0, 0, 0)), (.iconst 0, 1, (0, 0, 0, 0, 0)), (.ireturn, 1, (0, 0, 0, 0, 0))]
theorem ao_MTbehindX : jokLG jtF lk_MT "ChessHouseModel$Texts" jcl jtb 4 prog_18_method_98_code 0 ak_MTbehindX = true := by decide +kernel
noncomputable def zm_isBehind : zM := (some .boolean, { frames := 0, cells := 0, slots := 0, locals := 0 }, ([], []), [], ak_MTbehindX)
theorem zp_isBehind_0 {n K : Nat} {W : zW} {post : zPo} {a c : Int} (hK : 2 ≤ K) (hn : 142 ≤ n) (h : zwp jtb zsh n zm_isBehind post (K - 2) (lGo ak_MTbehindX 2) 2 [some (.inr (.inr (some (.inl 90)))), some (.inl (a)), some (.inl (c)), some (.inl (a))] [] W) : zwp jtb zsh n zm_isBehind post K (lGo ak_MTbehindX 0) 0 [some (.inr (.inr (some (.inl 90)))), some (.inl (a)), some (.inl (c)), none] [] W := by
  obtain ⟨k, rfl⟩ : ∃ k, K = k + 2 := ⟨K - 2, by omega⟩
  exact (show zwp jtb zsh n zm_isBehind post (k + 0) (lGo ak_MTbehindX 2) 2 [some (.inr (.inr (some (.inl 90)))), some (.inl (a)), some (.inl (c)), some (.inl (a))] [] W from h)
theorem zp_isBehind_2 {n K : Nat} {W : zW} {post : zPo} {a c u : Int} (hK : 14 ≤ K) (hn : 142 ≤ n) (h : (u ≤ c → (¬ u = c → post (some (.inl (0))) W) ∧ (u = c → post (some (.inl (1))) W)) ∧ (¬ u ≤ c → (-2147483648 ≤ 301 * (W.1 90 5) ∧ 301 * (W.1 90 5) ≤ 2147483647) ∧ (-2147483648 ≤ (301 * (W.1 90 5)) + u ∧ (301 * (W.1 90 5)) + u ≤ 2147483647) ∧ (0 ≤ ((301 * (W.1 90 5)) + u) ∧ ((301 * (W.1 90 5)) + u) < 602) ∧ zwp jtb zsh n zm_isBehind post (K - 14) (lGo ak_MTbehindX 2) 2 [some (.inr (.inr (some (.inl 90)))), some (.inl (a)), some (.inl (c)), some (.inl (W.2.1 94 ((301 * (W.1 90 5)) + u)))] [] W)) : zwp jtb zsh n zm_isBehind post K (lGo ak_MTbehindX 2) 2 [some (.inr (.inr (some (.inl 90)))), some (.inl (a)), some (.inl (c)), some (.inl (u))] [] W := by
  obtain ⟨k, rfl⟩ : ∃ k, K = k + 14 := ⟨K - 14, by omega⟩
  exact (show (u ≤ c → (¬ u = c → 1 = 1 ∧ ((0 : Int) = 0 ∨ (0 : Int) = 1) ∧ post (some (.inl (0))) W) ∧ (u = c → 1 = 1 ∧ ((1 : Int) = 0 ∨ (1 : Int) = 1) ∧ post (some (.inl (1))) W)) ∧ (¬ u ≤ c → 90 < n ∧ 12 = 12 ∧ 90 < n ∧ 12 = 12 ∧ (-2147483648 ≤ 301 * (W.1 90 5) ∧ 301 * (W.1 90 5) ≤ 2147483647) ∧ (-2147483648 ≤ (301 * (W.1 90 5)) + u ∧ (301 * (W.1 90 5)) + u ≤ 2147483647) ∧ 94 < n ∧ FieldType.int = FieldType.int ∧ (0 ≤ ((301 * (W.1 90 5)) + u) ∧ ((301 * (W.1 90 5)) + u) < 602) ∧ zwp jtb zsh n zm_isBehind post (k + 0) (lGo ak_MTbehindX 2) 2 [some (.inr (.inr (some (.inl 90)))), some (.inl (a)), some (.inl (c)), some (.inl (W.2.1 94 ((301 * (W.1 90 5)) + u)))] [] W) from ⟨fun hc2 => ⟨fun hc5 => ⟨rfl, Or.inl rfl, ((((h).1 hc2)).1 hc5)⟩, fun hc5 => ⟨rfl, Or.inr rfl, ((((h).1 hc2)).2 hc5)⟩⟩, fun hc2 => ⟨(Nat.lt_of_lt_of_le (by decide) hn), rfl, ⟨(Nat.lt_of_lt_of_le (by decide) hn), rfl, ⟨(((h).2 hc2)).1, ⟨((((h).2 hc2)).2).1, ⟨(Nat.lt_of_lt_of_le (by decide) hn), rfl, (((((h).2 hc2)).2).2).1, (((((h).2 hc2)).2).2).2⟩⟩⟩⟩⟩⟩)
theorem zg_isBehind {n : Nat} {W : zW} {post : zPo} {a c N : Int} (hn : 142 ≤ n) (hg : 0 ≤ W.1 90 5 ∧ W.1 90 5 ≤ 1) (hc : 0 ≤ c) (hN : N ≤ 300) (hP : trP (zro W 94 (W.1 90 5)) N) (hpost : ∀ r : Int, xBl r (trW (zro W 94 (W.1 90 5)) c a) → post (some (.inl r)) W) : ∀ (m K : Nat) (u : Int), 40 * m + 40 ≤ K → u ≤ m → 0 ≤ u → u ≤ N → (trW (zro W 94 (W.1 90 5)) c u ↔ trW (zro W 94 (W.1 90 5)) c a) → zwp jtb zsh n zm_isBehind post K (lGo ak_MTbehindX 2) 2 [some (.inr (.inr (some (.inl 90)))), some (.inl a), some (.inl c), some (.inl u)] [] W := by
  have fin : ∀ u : Int, u ≤ c → (trW (zro W 94 (W.1 90 5)) c u ↔ trW (zro W 94 (W.1 90 5)) c a) → (¬ u = c → post (some (.inl 0)) W) ∧ (u = c → post (some (.inl 1)) W) := by
    intro u hu he
    refine ⟨fun h => hpost 0 (Or.inr ⟨rfl, fun q => ?_⟩), fun h => hpost 1 (Or.inl ⟨rfl, he.mp (tr_W.mpr (Or.inl h))⟩)⟩
    rcases tr_W.mp (he.mpr q) with z | z
    · exact h z
    · omega
  intro m
  induction m with
  | zero =>
    intro K u hK hu u0 u1 he
    exact zp_isBehind_2 (by omega) hn ⟨fun h => fin u h he, fun h => absurd (by omega) h⟩
  | succ m ih =>
    intro K u hK hu u0 u1 he
    by_cases hz : u ≤ c
    · exact zp_isBehind_2 (by omega) hn ⟨fun h => fin u h he, fun h => absurd hz h⟩
    have hq := hP u (by omega) u1
    refine zp_isBehind_2 (by omega) hn ⟨fun h => absurd h hz, fun _ => ⟨by omega, by omega, by omega, ih _ ((zro W 94 (W.1 90 5)) u) (by omega) (by omega) hq.1 (by omega) ?_⟩⟩
    rw [← he]
    constructor
    · intro h
      exact tr_W.mpr (Or.inr ⟨by omega, h⟩)
    · intro h
      rcases tr_W.mp h with z | z
      · omega
      · exact z.2
noncomputable def zc_isBehind (vals : List zv) (W : zW) (post : zPo) : Prop := ∃ a c N : Int, vals = [.inr (.inr (some (.inl 90))), .inl a, .inl c] ∧ 0 ≤ W.1 90 5 ∧ W.1 90 5 ≤ 1 ∧ 0 ≤ c ∧ N ≤ 300 ∧ trP (zro W 94 (W.1 90 5)) N ∧ 0 ≤ a ∧ a ≤ N ∧ ∀ r : Int, xBl r (trW (zro W 94 (W.1 90 5)) c a) → post (some (.inl r)) W
section
variable {l : Launch} {E : jE} {n : Nat}
theorem zk_isBehind (hn : 142 ≤ n) : zHas l E jcl jtb lw_tbl zsh n (y_MT_isBehind, false, 3, 12, { frames := 0, cells := 0, slots := 0, locals := 0 }, zc_isBehind) := by
  refine ⟨⟨rfl, rfl, ⟨show 1 ≤ 3 by decide, m_MT_isBehind, i_MT_isBehind, e_MT_isBehind, fun _ => ⟨_, rfl, rfl⟩⟩⟩, ?_⟩
  rintro vz W po hO hW ⟨a, c, N, rfl, g0, g1, c0, h0, h1, h2, h3, hp⟩
  refine zmet (m := zm_isBehind) rfl (by decide) (fun _ _ => jtF_ok) lo_MT ao_MTbehindX jC (fun q h => by cases h) (fun q h => by cases h) (fun G h => by cases h) (Nat.le_of_ble_eq_true rfl) hO hW 20000 ?_
  exact zp_isBehind_0 (by omega) hn (zg_isBehind hn ⟨g0, g1⟩ c0 h0 h1 hp 300 _ a (by omega) (by omega) h2 h3 Iff.rfl)
end
end
section
noncomputable def y_GA_isLetterOrDigit : jY := (⟨"ChessHouse$Game", "isLetterOrDigit", "(I)Z"⟩, prog_7_method_15_code, 1, (some .boolean))
theorem m_GA_isLetterOrDigit : jmth lw_tbl y_GA_isLetterOrDigit 1 := ⟨jTA_in (wi := 1235) (jtF_ok rfl) rfl, jTA_in (wi := 311) (jtF_ok rfl) rfl, by decide, by decide, by decide +kernel⟩
theorem s_GA_isLetterOrDigit : Jvm.Cond.static y_GA_isLetterOrDigit.1 ∈ jTA lw_tbl := jTA_in (wi := 1234) (jtF_ok rfl) rfl
noncomputable def ak_GAisLD : List jI := [(.iload_n 0, 1, (0, 0, 0, 0, 0)), (.bipush 48, 2, (0, 0, 0, 48, 0)), (.if_icmp .lt 9, 3, (12, 0, 0, 0, 0)), (.iload_n 0, 1, (0, 0, 0, 0, 0)), (.bipush 57, 2, (0, 0, 0, 57, 0)), (.if_icmp .le 27, 3, (36, 0, 0, 0, 0)), (.iload_n 0, 1, (0, 0, 0, 0, 0)), (.bipush 65, 2, (0, 0, 0, 65, 0)), (.if_icmp .lt 9, 3, (24, 0, 0, 0, 0)), (.iload_n 0, 1, (0, 0, 0, 0, 0)), (.bipush 90, 2, (0, 0, 0, 90, 0)), (.if_icmp .le 15, 3, (36, 0, 0, 0, 0)), (.iload_n 0, 1, (0, 0, 0, 0, 0)), (.bipush 97, 2, (0, 0, 0, 97, 0)), (.if_icmp .lt 13, 3, (40, 0, 0, 0, 0)), (.iload_n 0, 1, (0, 0, 0, 0, 0)), (.bipush 122, 2, (0, 0, 0, 122, 0)), (.if_icmp .gt 7, 3, (40, 0, 0, 0, 0)), (.iconst 1, 1, (0, 0, 0, 1, 0)), (.goto 4, 3, (41, 0, 0, 0, 0)), (.iconst 0, 1, (0, 0, 0, 0, 0)), (.ireturn, 1, (0, 0, 0, 0, 0))]
theorem ao_GAisLD : jokLG jtF lk_GA "ChessHouse$Game" jcl jtb 1 prog_7_method_15_code 0 ak_GAisLD = true := by decide +kernel
noncomputable def y_MM_isSign : jY := (⟨"ChessHouseModel", "isSign", "(I)Z"⟩, prog_15_method_41_code, 1, (some .boolean))
theorem m_MM_isSign : jmth lw_tbl y_MM_isSign 1 := ⟨jTA_in (wi := 2537) (jtF_ok rfl) rfl, jTA_in (wi := 314) (jtF_ok rfl) rfl, by decide, by decide, by decide +kernel⟩
theorem s_MM_isSign : Jvm.Cond.static y_MM_isSign.1 ∈ jTA lw_tbl := jTA_in (wi := 2536) (jtF_ok rfl) rfl
noncomputable def ak_MMisSign : List jI := [(.iload_n 0, 1, (0, 0, 0, 0, 0)), (.bipush 48, 2, (0, 0, 0, 48, 0)), (.if_icmp .lt 9, 3, (12, 0, 0, 0, 0)), (.iload_n 0, 1, (0, 0, 0, 0, 0)), (.bipush 57, 2, (0, 0, 0, 57, 0)), (.if_icmp .le 27, 3, (36, 0, 0, 0, 0)), (.iload_n 0, 1, (0, 0, 0, 0, 0)), (.bipush 97, 2, (0, 0, 0, 97, 0)), (.if_icmp .lt 9, 3, (24, 0, 0, 0, 0)), (.iload_n 0, 1, (0, 0, 0, 0, 0)), (.bipush 122, 2, (0, 0, 0, 122, 0)), (.if_icmp .le 15, 3, (36, 0, 0, 0, 0)), (.iload_n 0, 1, (0, 0, 0, 0, 0)), (.bipush 65, 2, (0, 0, 0, 65, 0)), (.if_icmp .lt 13, 3, (40, 0, 0, 0, 0)), (.iload_n 0, 1, (0, 0, 0, 0, 0)), (.bipush 90, 2, (0, 0, 0, 90, 0)), (.if_icmp .gt 7, 3, (40, 0, 0, 0, 0)), (.iconst 1, 1, (0, 0, 0, 1, 0)), (.goto 4, 3, (41, 0, 0, 0, 0)), (.iconst 0, 1, (0, 0, 0, 0, 0)), (.ireturn, 1, (0, 0, 0, 0, 0))]
theorem ao_MMisSign : jokLG jtF lk_MM "ChessHouseModel" jcl jtb 1 prog_15_method_41_code 0 ak_MMisSign = true := by decide +kernel
noncomputable def xLD (b : Int) : Prop := (48 ≤ b ∧ b ≤ 57) ∨ (65 ≤ b ∧ b ≤ 90) ∨ (97 ≤ b ∧ b ≤ 122)
noncomputable def zc_LD (vals : List zv) (W : zW) (post : zPo) : Prop := ∃ b : Int, vals = [.inl b] ∧ ∀ r : Int, xBl r (xLD b) → post (some (.inl r)) W
theorem xLD_y {b : Int} {W : zW} {post : zPo} (hp : ∀ r : Int, xBl r (xLD b) → post (some (.inl r)) W) (h : (48 ≤ b ∧ b ≤ 57) ∨ (65 ≤ b ∧ b ≤ 90) ∨ (97 ≤ b ∧ b ≤ 122)) : post (some (.inl 1)) W := hp 1 (Or.inl ⟨rfl, h⟩)
theorem xLD_n {b : Int} {W : zW} {post : zPo} (hp : ∀ r : Int, xBl r (xLD b) → post (some (.inl r)) W) (h : ¬ ((48 ≤ b ∧ b ≤ 57) ∨ (65 ≤ b ∧ b ≤ 90) ∨ (97 ≤ b ∧ b ≤ 122))) : post (some (.inl 0)) W := hp 0 (Or.inr ⟨rfl, h⟩)
noncomputable def zm_ldM : zM := (some .boolean, { frames := 0, cells := 0, slots := 0, locals := 0 }, ([], []), [], ak_MMisSign)
theorem zp_ldM_0 {n K : Nat} {W : zW} {post : zPo} {b : Int} (hK : 21 ≤ K) (hn : 142 ≤ n) (h : (b < 48 → (b < 97 → (b < 65 → post (some (.inl (0))) W) ∧ (¬ b < 65 → (90 < b → post (some (.inl (0))) W) ∧ (¬ 90 < b → post (some (.inl (1))) W))) ∧ (¬ b < 97 → (b ≤ 122 → post (some (.inl (1))) W) ∧ (¬ b ≤ 122 → (b < 65 → post (some (.inl (0))) W) ∧ (¬ b < 65 → (90 < b → post (some (.inl (0))) W) ∧ (¬ 90 < b → post (some (.inl (1))) W))))) ∧ (¬ b < 48 → (b ≤ 57 → post (some (.inl (1))) W) ∧ (¬ b ≤ 57 → (b < 97 → (b < 65 → post (some (.inl (0))) W) ∧ (¬ b < 65 → (90 < b → post (some (.inl (0))) W) ∧ (¬ 90 < b → post (some (.inl (1))) W))) ∧ (¬ b < 97 → (b ≤ 122 → post (some (.inl (1))) W) ∧ (¬ b ≤ 122 → (b < 65 → post (some (.inl (0))) W) ∧ (¬ b < 65 → (90 < b → post (some (.inl (0))) W) ∧ (¬ 90 < b → post (some (.inl (1))) W))))))) : zwp jtb zsh n zm_ldM post K (lGo ak_MMisSign 0) 0 [some (.inl (b))] [] W := by
  obtain ⟨k, rfl⟩ : ∃ k, K = k + 21 := ⟨K - 21, by omega⟩
  exact (show (b < 48 → (b < 97 → (b < 65 → 1 = 1 ∧ ((0 : Int) = 0 ∨ (0 : Int) = 1) ∧ post (some (.inl (0))) W) ∧ (¬ b < 65 → (90 < b → 1 = 1 ∧ ((0 : Int) = 0 ∨ (0 : Int) = 1) ∧ post (some (.inl (0))) W) ∧ (¬ 90 < b → 1 = 1 ∧ ((1 : Int) = 0 ∨ (1 : Int) = 1) ∧ post (some (.inl (1))) W))) ∧ (¬ b < 97 → (b ≤ 122 → 1 = 1 ∧ ((1 : Int) = 0 ∨ (1 : Int) = 1) ∧ post (some (.inl (1))) W) ∧ (¬ b ≤ 122 → (b < 65 → 1 = 1 ∧ ((0 : Int) = 0 ∨ (0 : Int) = 1) ∧ post (some (.inl (0))) W) ∧ (¬ b < 65 → (90 < b → 1 = 1 ∧ ((0 : Int) = 0 ∨ (0 : Int) = 1) ∧ post (some (.inl (0))) W) ∧ (¬ 90 < b → 1 = 1 ∧ ((1 : Int) = 0 ∨ (1 : Int) = 1) ∧ post (some (.inl (1))) W))))) ∧ (¬ b < 48 → (b ≤ 57 → 1 = 1 ∧ ((1 : Int) = 0 ∨ (1 : Int) = 1) ∧ post (some (.inl (1))) W) ∧ (¬ b ≤ 57 → (b < 97 → (b < 65 → 1 = 1 ∧ ((0 : Int) = 0 ∨ (0 : Int) = 1) ∧ post (some (.inl (0))) W) ∧ (¬ b < 65 → (90 < b → 1 = 1 ∧ ((0 : Int) = 0 ∨ (0 : Int) = 1) ∧ post (some (.inl (0))) W) ∧ (¬ 90 < b → 1 = 1 ∧ ((1 : Int) = 0 ∨ (1 : Int) = 1) ∧ post (some (.inl (1))) W))) ∧ (¬ b < 97 → (b ≤ 122 → 1 = 1 ∧ ((1 : Int) = 0 ∨ (1 : Int) = 1) ∧ post (some (.inl (1))) W) ∧ (¬ b ≤ 122 → (b < 65 → 1 = 1 ∧ ((0 : Int) = 0 ∨ (0 : Int) = 1) ∧ post (some (.inl (0))) W) ∧ (¬ b < 65 → (90 < b → 1 = 1 ∧ ((0 : Int) = 0 ∨ (0 : Int) = 1) ∧ post (some (.inl (0))) W) ∧ (¬ 90 < b → 1 = 1 ∧ ((1 : Int) = 0 ∨ (1 : Int) = 1) ∧ post (some (.inl (1))) W)))))) from ⟨fun hc2 => ⟨fun hc5 => ⟨fun hc8 => (have h := ((((((h).1 hc2)).1 hc5)).1 hc8); ⟨rfl, Or.inl rfl, h⟩), fun hc8 => (have h := ((((((h).1 hc2)).1 hc5)).2 hc8); ⟨fun hc11 => ⟨rfl, Or.inl rfl, ((h).1 hc11)⟩, fun hc11 => ⟨rfl, Or.inr rfl, ((h).2 hc11)⟩⟩)⟩, fun hc5 => ⟨fun hc8 => (have h := ((((((h).1 hc2)).2 hc5)).1 hc8); ⟨rfl, Or.inr rfl, h⟩), fun hc8 => (have h := ((((((h).1 hc2)).2 hc5)).2 hc8); ⟨fun hc11 => ⟨rfl, Or.inl rfl, ((h).1 hc11)⟩, fun hc11 => ⟨fun hc14 => ⟨rfl, Or.inl rfl, ((((h).2 hc11)).1 hc14)⟩, fun hc14 => ⟨rfl, Or.inr rfl, ((((h).2 hc11)).2 hc14)⟩⟩⟩)⟩⟩, fun hc2 => ⟨fun hc5 => ⟨rfl, Or.inr rfl, ((((h).2 hc2)).1 hc5)⟩, fun hc5 => ⟨fun hc8 => (have h := ((((((h).2 hc2)).2 hc5)).1 hc8); ⟨fun hc11 => ⟨rfl, Or.inl rfl, ((h).1 hc11)⟩, fun hc11 => ⟨fun hc14 => ⟨rfl, Or.inl rfl, ((((h).2 hc11)).1 hc14)⟩, fun hc14 => ⟨rfl, Or.inr rfl, ((((h).2 hc11)).2 hc14)⟩⟩⟩), fun hc8 => (have h := ((((((h).2 hc2)).2 hc5)).2 hc8); ⟨fun hc11 => ⟨rfl, Or.inr rfl, ((h).1 hc11)⟩, fun hc11 => ⟨fun hc14 => ⟨rfl, Or.inl rfl, ((((h).2 hc11)).1 hc14)⟩, fun hc14 => ⟨fun hc17 => (have h := ((((((h).2 hc11)).2 hc14)).1 hc17); ⟨rfl, Or.inl rfl, h⟩), fun hc17 => (have h := ((((((h).2 hc11)).2 hc14)).2 hc17); ⟨rfl, Or.inr rfl, h⟩)⟩⟩⟩)⟩⟩⟩)
theorem zk_ldM {l : Launch} {E : jE} {n : Nat} (hn : 142 ≤ n) : zHas l E jcl jtb lw_tbl zsh n (y_MM_isSign, true, 1, 0, { frames := 0, cells := 0, slots := 0, locals := 0 }, zc_LD) := by
  refine ⟨⟨rfl, rfl, ⟨m_MM_isSign, s_MM_isSign⟩⟩, ?_⟩
  rintro vz W po hO hW ⟨b, rfl, hp⟩
  refine zmet (m := zm_ldM) rfl (by decide) (fun _ _ => jtF_ok) lo_MM ao_MMisSign jC (fun q h => by cases h) (fun q h => by cases h) (fun G h => by cases h) (Nat.le_of_ble_eq_true rfl) hO hW 60 ?_
  exact zp_ldM_0 (by omega) hn ⟨(fun _ => ⟨(fun _ => ⟨(fun _ => (xLD_n hp (by omega))), (fun _ => ⟨(fun _ => (xLD_n hp (by omega))), (fun _ => (xLD_y hp (by omega)))⟩)⟩), (fun _ => ⟨(fun _ => (xLD_y hp (by omega))), (fun _ => ⟨(fun _ => (xLD_n hp (by omega))), (fun _ => ⟨(fun _ => (xLD_n hp (by omega))), (fun _ => (xLD_y hp (by omega)))⟩)⟩)⟩)⟩), (fun _ => ⟨(fun _ => (xLD_y hp (by omega))), (fun _ => ⟨(fun _ => ⟨(fun _ => (xLD_n hp (by omega))), (fun _ => ⟨(fun _ => (xLD_n hp (by omega))), (fun _ => (xLD_y hp (by omega)))⟩)⟩), (fun _ => ⟨(fun _ => (xLD_y hp (by omega))), (fun _ => ⟨(fun _ => (xLD_n hp (by omega))), (fun _ => ⟨(fun _ => (xLD_n hp (by omega))), (fun _ => (xLD_y hp (by omega)))⟩)⟩)⟩)⟩)⟩)⟩
end
section
def rMn (g : Nat → Int32) : Int → Int := fun i => if 0 ≤ i ∧ i ≤ 63 then (g i.toNat).toInt else 0
def rSp (s f r : Int) : Int := if 0 ≤ s % 8 + f ∧ s % 8 + f ≤ 7 ∧ 0 ≤ s / 8 + r ∧ s / 8 + r ≤ 7 then s + f + 8 * r else -1
theorem rSp_r {s f r : Int} (h0 : 0 ≤ s) (h1 : s ≤ 63) : -1 ≤ rSp s f r ∧ rSp s f r ≤ 63 := by
  unfold rSp
  split <;> omega
def rGn (M : Int → Int) (f r : Int) : Nat → Int → Option Int
  | 0, _ => none
  | k + 1, t => if t < 0 then some 0 else if M t = 0 then rGn M f r k (rSp t f r) else some (M t)
def rGf (M : Int → Int) (f r t m : Int) : Prop := ∃ k, rGn M f r k t = some m
theorem rGf_o {M : Int → Int} {f r t : Int} (h : t < 0) : rGf M f r t 0 := ⟨1, by unfold rGn; rw [if_pos h]⟩
theorem rGf_s {M : Int → Int} {f r t m : Int} (h : 0 ≤ t) (hm : M t = m) (h0 : ¬ m = 0) : rGf M f r t m := ⟨1, by unfold rGn; rw [if_neg (by omega), if_neg (by omega), hm]⟩
theorem rGf_n {M : Int → Int} {f r t m : Int} (h : 0 ≤ t) (hm : M t = 0) (h2 : rGf M f r (rSp t f r) m) : rGf M f r t m := by
  obtain ⟨k, e⟩ := h2
  exact ⟨k + 1, by unfold rGn; rw [if_neg (by omega), if_pos hm]; exact e⟩
theorem rGn_u {M : Int → Int} {f r : Int} : ∀ {k k' : Nat} {t m m' : Int}, rGn M f r k t = some m → rGn M f r k' t = some m' → m = m'
  | 0, _, _, _, _, h, _ => by cases h
  | _ + 1, 0, _, _, _, _, h => by cases h
  | k + 1, k' + 1, t, m, m', h, h' => by
    unfold rGn at h h'
    split at h
    next c =>
      rw [if_pos c] at h'
      rw [← Option.some.inj h, ← Option.some.inj h']
    next c =>
      rw [if_neg c] at h'
      split at h
      next c2 =>
        rw [if_pos c2] at h'
        exact rGn_u h h'
      next c2 =>
        rw [if_neg c2] at h'
        rw [← Option.some.inj h, ← Option.some.inj h']
theorem rGf_u {M : Int → Int} {f r t m m' : Int} (h : rGf M f r t m) (h' : rGf M f r t m') : m = m' := by
  obtain ⟨k, e⟩ := h
  obtain ⟨k', e'⟩ := h'
  exact rGn_u e e'
def rWn (M : Int → Int) (f r : Int) : Nat → Int → Int → Prop
  | 0, _, _ => False
  | k + 1, t, u => 0 ≤ t ∧ (u = t ∨ (M t = 0 ∧ rWn M f r k (rSp t f r) u))
def rWf (M : Int → Int) (f r t u : Int) : Prop := ∃ k, rWn M f r k t u
theorem rWf_i {M : Int → Int} {f r t u : Int} : rWf M f r t u ↔ 0 ≤ t ∧ (u = t ∨ (M t = 0 ∧ rWf M f r (rSp t f r) u)) := by
  constructor
  · rintro ⟨k, h⟩
    cases k with
    | zero => exact h.elim
    | succ k =>
      refine ⟨h.1, ?_⟩
      rcases h.2 with e | ⟨e, h2⟩
      · exact Or.inl e
      · exact Or.inr ⟨e, k, h2⟩
  · rintro ⟨h, e | ⟨e, k, h2⟩⟩
    · exact ⟨1, h, Or.inl e⟩
    · exact ⟨k + 1, h, Or.inr ⟨e, h2⟩⟩
def rP1 (M : Int → Int) (s b f : Int) : Prop := 0 ≤ rSp s f (2 * b - 1) ∧ M (rSp s f (2 * b - 1)) = 8 * b + 1
def rA1 (M : Int → Int) (s b f r : Int) : Prop := (f * f + r * r = 5 ∧ 0 ≤ rSp s f r ∧ M (rSp s f r) = 8 * b + 2) ∨ (1 ≤ f * f + r * r ∧ f * f + r * r ≤ 2 ∧ ((0 ≤ rSp s f r ∧ M (rSp s f r) = 8 * b + 6) ∨ ∃ m, rGf M f r (rSp s f r) m ∧ (m = 8 * b + 5 ∨ (f * f + r * r = 1 ∧ m = 8 * b + 4) ∨ (f * f + r * r = 2 ∧ m = 8 * b + 3))))
def rAk (M : Int → Int) (s b : Int) : Prop := rP1 M s b (-1) ∨ rP1 M s b 1 ∨ ∃ f r, -2 ≤ f ∧ f ≤ 2 ∧ -2 ≤ r ∧ r ≤ 2 ∧ rA1 M s b f r
def rBt (L : Int64) (u : Int) : Prop := L.toBitVec.getLsbD u.toNat = true
theorem rBt_or {A B : Int64} {u : Int} : rBt (A ||| B) u ↔ rBt A u ∨ rBt B u := by
  unfold rBt
  rw [Int64.toBitVec_or, BitVec.getLsbD_or, Bool.or_eq_true]
theorem rBt_0 {u : Int} : ¬ rBt 0 u := by
  unfold rBt
  rw [show (0 : Int64).toBitVec = 0#64 from rfl, BitVec.getLsbD_zero]
  exact Bool.false_ne_true
theorem rBt_l0 : ∀ (s u : Fin 64), ((1 : Int64) <<< ((Int32.ofNat s.val).toInt64 &&& 63)).toBitVec.getLsbD u.val = decide (u.val = s.val) := by decide +kernel
theorem rOf {x : Int32} (h : 0 ≤ x.toInt) : x = Int32.ofNat x.toInt.toNat := by
  rw [← Int32.toInt_inj, Int32.toInt_ofNat_of_lt (by have := x.toInt_lt; omega)]
  omega
theorem rBt_l {s : Int32} {L A : Int64} (hA : A = 1) (hL : L = A <<< (s.toInt64 &&& 63)) (h0 : 0 ≤ s.toInt) (h1 : s.toInt ≤ 63) {u : Int} (h2 : 0 ≤ u) (h3 : u ≤ 63) : rBt L u ↔ u = s.toInt := by
  unfold rBt
  rw [hL, hA, rOf h0]
  have h := rBt_l0 ⟨s.toInt.toNat, by omega⟩ ⟨u.toNat, by omega⟩
  dsimp only at h
  rw [h, decide_eq_true_iff]
  rw [← rOf h0]
  omega
def rR1 (M : Int → Int) (k s f r u : Int) : Prop := (((k = 2 ∧ f * f + r * r = 5) ∨ (k = 6 ∧ 1 ≤ f * f + r * r ∧ f * f + r * r ≤ 2)) ∧ 0 ≤ u ∧ u = rSp s f r) ∨ (((k = 4 ∧ f * f + r * r = 1) ∨ (k = 3 ∧ f * f + r * r = 2) ∨ (k = 5 ∧ 1 ≤ f * f + r * r ∧ f * f + r * r ≤ 2)) ∧ rWf M f r (rSp s f r) u)
def rRe (M : Int → Int) (k s u : Int) : Prop := ∃ f r, -2 ≤ f ∧ f ≤ 2 ∧ -2 ≤ r ∧ r ≤ 2 ∧ rR1 M k s f r u
def rKg (M : Int → Int) (b s : Int) : Prop := 0 ≤ s ∧ s ≤ 63 ∧ M s = 8 * b + 6 ∧ ∀ j, 0 ≤ j → j < s → ¬ M j = 8 * b + 6
abbrev rQ : Type := (Int → Int) × Int × Int × Int
def rUp (M : Int → Int) (s v : Int) : Int → Int := fun i => if i = s then v else M i
theorem rUp_s {M : Int → Int} {s v : Int} : rUp M s v s = v := if_pos rfl
theorem rUp_n {M : Int → Int} {s v i : Int} (h : ¬ i = s) : rUp M s v i = M i := if_neg h
def rFr (m : Int) : Int := m % 64
def rTo (m : Int) : Int := m / 64 % 64
def rBc (m : Int) : Int := m / 4096
def rLo (s : Int) : Int := if s = 4 then 3 else if s = 7 then 1 else if s = 0 then 2 else if s = 60 then 12 else if s = 63 then 4 else if s = 56 then 8 else 0
def rAn (R l : Int) : Int := (Int32.ofInt R &&& (Int32.ofInt l ^^^ -1)).toInt
def rHas (R c : Int) : Prop := ¬ (Int32.ofInt R &&& Int32.ofInt c) = 0
def rWh (q : rQ) (m : Int) : Int := if q.1 (rFr m) % 8 = 1 ∧ rTo m = q.2.2.2 then 8 * (rFr m / 8) + rTo m % 8 else rTo m
def rM1 (q : rQ) (m : Int) : Int → Int := rUp q.1 (rWh q m) 0
def rM2 (q : rQ) (m : Int) : Int → Int := rUp (rM1 q m) (rFr m) 0
def rM3 (q : rQ) (m : Int) : Int → Int := rUp (rM2 q m) (rTo m) (if 0 < rBc m then rBc m + 8 * q.2.1 else q.1 (rFr m))
def rCo (f t : Int) : Int := if f < t then f + 3 else f - 4
def rOv (f t : Int) : Int := (f + t) / 2
def rIsC (q : rQ) (m : Int) : Prop := q.1 (rFr m) % 8 = 6 ∧ (rTo m - rFr m = 2 ∨ rFr m - rTo m = 2)
def rM4c (q : rQ) (m : Int) : Int → Int := rUp (rUp (rM3 q m) (rOv (rFr m) (rTo m)) (rM3 q m (rCo (rFr m) (rTo m)))) (rCo (rFr m) (rTo m)) 0
def rIsC_d (q : rQ) (m : Int) : Decidable (rIsC q m) := by unfold rIsC; exact inferInstance
def rM4 (q : rQ) (m : Int) : Int → Int := fun i => @ite _ (rIsC q m) (rIsC_d q m) (rM4c q m i) (rM3 q m i)
def rTwo (q : rQ) (m : Int) : Prop := q.1 (rFr m) % 8 = 1 ∧ (rTo m - rFr m = 16 ∨ rFr m - rTo m = 16)
def rNbr (M : Int → Int) (t f v : Int) : Prop := 0 ≤ rSp t f 0 ∧ M (rSp t f 0) = v
def rPa (q : rQ) (m : Int) : Prop := rTwo q m ∧ (rNbr (rM4 q m) (rTo m) (-1) (1 + 8 * (1 - q.2.1)) ∨ rNbr (rM4 q m) (rTo m) 1 (1 + 8 * (1 - q.2.1)))
def rPa_d (q : rQ) (m : Int) : Decidable (rPa q m) := by unfold rPa rTwo rNbr; exact inferInstance
def rNp (q : rQ) (m : Int) : Int := @ite _ (rPa q m) (rPa_d q m) ((rFr m + rTo m) / 2) (-1)
def rMk (q : rQ) (m : Int) : rQ := (rM4 q m, 1 - q.2.1, rAn (rAn q.2.2.1 (rLo (rFr m))) (rLo (rTo m)), rNp q m)
def rUpw (q : rQ) : Int := 1 - 2 * q.2.1
def rPF (q : rQ) (s u : Int) : Prop := 0 ≤ rSp s 0 (rUpw q) ∧ q.1 (rSp s 0 (rUpw q)) = 0 ∧ (u = rSp s 0 (rUpw q) ∨ (s / 8 = 1 + 5 * q.2.1 ∧ u = rSp (rSp s 0 (rUpw q)) 0 (rUpw q) ∧ q.1 u = 0))
def rTk (q : rQ) (u : Int) : Prop := (¬ q.1 u = 0 ∧ q.1 u / 8 = 1 - q.2.1) ∨ u = q.2.2.2
def rPT (q : rQ) (s f u : Int) : Prop := (f = -1 ∨ f = 1) ∧ 0 ≤ u ∧ u = rSp s f (rUpw q) ∧ rTk q u
def rPG (q : rQ) (s u : Int) : Prop := rPF q s u ∨ ∃ f, rPT q s f u
def rChk (M : Int → Int) (b : Int) : Prop := ∃ s, rKg M b s ∧ rAk M s (1 - b)
def rCa (q : rQ) (h : Int) : Prop := rHas q.2.2.1 ((if h = 1 then 1 else 2) * (if q.2.1 = 0 then 1 else 4)) ∧ (∀ j, 56 * q.2.1 + (if h = 1 then 5 else 1) ≤ j → j < 56 * q.2.1 + (if h = 1 then 7 else 4) → q.1 j = 0) ∧ ¬ rChk q.1 q.2.1 ∧ ¬ rAk q.1 (56 * q.2.1 + (if h = 1 then 5 else 3)) (1 - q.2.1)
def rGO (q : rQ) (s u : Int) : Prop := (q.1 s % 8 = 1 ∧ rPG q s u) ∨ (¬ q.1 s % 8 = 1 ∧ (rRe q.1 (q.1 s % 8) s u ∨ (q.1 s % 8 = 6 ∧ s = 56 * q.2.1 + 4 ∧ ((rCa q 1 ∧ u = s + 2) ∨ (rCa q 0 ∧ u = s - 2)))))
def rOwn (q : rQ) (s : Int) : Prop := ¬ q.1 s = 0 ∧ q.1 s / 8 = q.2.1
def rLm (q : rQ) (m : Int) : Prop := 0 ≤ m ∧ m ≤ 24575 ∧ rOwn q (rFr m) ∧ ¬ rOwn q (rTo m) ∧ rGO q (rFr m) (rTo m) ∧ ((q.1 (rFr m) % 8 = 1 ∧ (rTo m < 8 ∨ 55 < rTo m) ∧ 2 ≤ rBc m ∧ rBc m ≤ 5) ∨ (¬ (q.1 (rFr m) % 8 = 1 ∧ (rTo m < 8 ∨ 55 < rTo m)) ∧ rBc m = 0))
def rVal (M : Int → Int) : Prop := ∀ s, M s = 0 ∨ (0 ≤ s ∧ s ≤ 63 ∧ ((1 ≤ M s ∧ M s ≤ 6) ∨ (9 ≤ M s ∧ M s ≤ 14)))
def rKs (M : Int → Int) : Prop := ∀ b, 0 ≤ b → b ≤ 1 → ∃ s, 0 ≤ s ∧ s ≤ 63 ∧ M s = 8 * b + 6 ∧ ∀ t, M t = 8 * b + 6 → t = s
def rPs (q : rQ) : Prop := q.2.2.2 = -1 ∨ (0 ≤ q.2.2.2 ∧ q.2.2.2 ≤ 63 ∧ q.1 q.2.2.2 = 0 ∧ ((q.2.1 = 0 ∧ q.2.2.2 / 8 = 5 ∧ q.1 (q.2.2.2 - 8) = 9) ∨ (q.2.1 = 1 ∧ q.2.2.2 / 8 = 2 ∧ q.1 (q.2.2.2 + 8) = 1)))
def rGd (q : rQ) : Prop := 0 ≤ q.2.1 ∧ q.2.1 ≤ 1 ∧ rVal q.1 ∧ rKs q.1 ∧ rPs q ∧ ∀ s, q.1 s = 8 * (1 - q.2.1) + 6 → ¬ rAk q.1 s q.2.1
def rT0c (q : rQ) (m : Int) : Int → Int := rUp (rUp (rM4c q m) (rCo (rFr m) (rTo m)) (rM4c q m (rOv (rFr m) (rTo m)))) (rOv (rFr m) (rTo m)) 0
def rT0 (q : rQ) (m : Int) : Int → Int := fun i => @ite _ (rIsC q m) (rIsC_d q m) (rT0c q m i) (rM4 q m i)
def rT1 (q : rQ) (m : Int) : Int → Int := rUp (rT0 q m) (rTo m) 0
def rT2 (q : rQ) (m : Int) : Int → Int := rUp (rT1 q m) (rWh q m) (q.1 (rWh q m))
def rT3 (q : rQ) (m : Int) : Int → Int := rUp (rT2 q m) (rFr m) (q.1 (rFr m))
def rSup (k s t : Int) : Bool := if k = 1 then (decide (-1 ≤ t % 8 - s % 8) && decide (t % 8 - s % 8 ≤ 1) && (decide (t / 8 - s / 8 = 1) || decide (t / 8 - s / 8 = -1))) || (decide (t % 8 = s % 8) && (decide (t / 8 - s / 8 = 2) || decide (t / 8 - s / 8 = -2))) else if k = 2 then decide ((t % 8 - s % 8) * (t % 8 - s % 8) + (t / 8 - s / 8) * (t / 8 - s / 8) = 5) else if k = 6 then (decide (1 ≤ (t % 8 - s % 8) * (t % 8 - s % 8) + (t / 8 - s / 8) * (t / 8 - s / 8)) && decide ((t % 8 - s % 8) * (t % 8 - s % 8) + (t / 8 - s / 8) * (t / 8 - s / 8) ≤ 2)) || decide (t = s + 2) || decide (t = s - 2) else (decide (k = 3 ∨ k = 5) && decide (¬ t = s) && (decide (t % 8 - s % 8 = t / 8 - s / 8) || decide (t % 8 - s % 8 = -(t / 8 - s / 8)))) || (decide (k = 4 ∨ k = 5) && decide (¬ t = s) && (decide (t % 8 = s % 8) || decide (t / 8 = s / 8)))
def rWt (k s t : Int) : Int := if rSup k s t then (if k = 1 ∧ (t < 8 ∨ 55 < t) then 4 else 1) else 0
def rSm (k s : Int) : Nat → Int
  | 0 => 0
  | t + 1 => rSm k s t + rWt k s t
theorem rWt_0 {k s t : Int} : 0 ≤ rWt k s t := by
  unfold rWt
  split
  · split <;> omega
  · omega
theorem rSm_mo {k s : Int} : ∀ {t d : Nat}, rSm k s t ≤ rSm k s (t + d)
  | t, 0 => Int.le_refl _
  | t, d + 1 => by
    have h := rSm_mo (k := k) (s := s) (t := t) (d := d)
    have h2 := rWt_0 (k := k) (s := s) (t := ((t + d : Nat) : Int))
    show rSm k s t ≤ rSm k s (t + d) + rWt k s ((t + d : Nat) : Int)
    omega
theorem rSm_b0 : ∀ (k : Fin 8) (s : Fin 64), rSm (k.val : Int) (s.val : Int) 64 ≤ 31 := by decide +kernel
theorem rSm_b {k s : Int} {t : Nat} (h0 : 0 ≤ k) (h1 : k ≤ 7) (h2 : 0 ≤ s) (h3 : s ≤ 63) (h4 : t ≤ 64) : rSm k s t ≤ 31 := by
  have h := rSm_b0 ⟨k.toNat, by omega⟩ ⟨s.toNat, by omega⟩
  dsimp only at h
  rw [show ((k.toNat : Nat) : Int) = k by omega, show ((s.toNat : Nat) : Int) = s by omega] at h
  have h5 := rSm_mo (k := k) (s := s) (t := t) (d := 64 - t)
  rw [show t + (64 - t) = 64 by omega] at h5
  omega
def rLs (q : rQ) (f t : Int) : Prop := q.1 f % 8 = 1 ∧ (t < 8 ∨ 55 < t)
theorem rSp_b {s t f r : Int} (h0 : 0 ≤ s) (h1 : s ≤ 63) (e : t = rSp s f r) (h2 : 0 ≤ t) : rSp t (-f) (-r) = s ∧ t ≤ 63 := by
  unfold rSp at e ⊢
  split at e
  · rw [if_pos (by omega)]
    omega
  · omega
theorem rWn_b {M : Int → Int} {f r u m : Int} : ∀ {k : Nat} {s t : Int}, rWn M f r k t u → t = rSp s f r → 0 ≤ s → s ≤ 63 → rGf M (-f) (-r) s m → rGf M (-f) (-r) (rSp u (-f) (-r)) m
  | 0, _, _, h, _, _, _, _ => h.elim
  | k + 1, s, t, h, e, h0, h1, hg => by
    obtain ⟨h2, h3⟩ := h
    have h4 := rSp_b h0 h1 e h2
    rcases h3 with rfl | ⟨h5, h6⟩
    · rw [h4.1]; exact hg
    · exact rWn_b h6 rfl h2 h4.2 (rGf_n h2 h5 (by rw [h4.1]; exact hg))
theorem rSq2 {f r : Int} (h1 : -2 ≤ f) (h2 : f ≤ 2) (h3 : -2 ≤ r) (h4 : r ≤ 2) (h : f * f + r * r ≤ 2) : -1 ≤ f ∧ f ≤ 1 ∧ -1 ≤ r ∧ r ≤ 1 := by
  have hf : f = -2 ∨ f = -1 ∨ f = 0 ∨ f = 1 ∨ f = 2 := by omega
  have hr : r = -2 ∨ r = -1 ∨ r = 0 ∨ r = 1 ∨ r = 2 := by omega
  rcases hf with rfl | rfl | rfl | rfl | rfl <;> rcases hr with rfl | rfl | rfl | rfl | rfl <;> omega
theorem rGO_at {q : rQ} {s u : Int} (hg : rGO q s u) (ho : rOwn q s) (hd : 0 ≤ q.2.1 ∧ q.2.1 ≤ 1) (hv : rVal q.1) (h0 : 0 ≤ s) (h1 : s ≤ 63) (h2 : 0 ≤ u) (h3 : u ≤ 63) (hm : ¬ q.1 u = 0) (hp : ¬ u = q.2.2.2) : rAk q.1 u q.2.1 := by
  obtain ⟨ho1, ho2⟩ := ho
  rcases hg with ⟨hk, hg⟩ | ⟨hk, hg⟩
  · rcases hg with hg | ⟨f, hf, hu, e, ht⟩
    · obtain ⟨-, g2, g3⟩ := hg
      rcases g3 with g3 | ⟨-, -, g3⟩
      · rw [← g3] at g2; exact absurd g2 hm
      · exact absurd g3 hm
    · have h4 := (rSp_b h0 h1 e hu).1
      have hx : ∀ g, g = -f → rP1 q.1 u q.2.1 g := fun g hg => by
        unfold rP1
        rw [hg, show 2 * q.2.1 - 1 = -(rUpw q) by unfold rUpw; omega, h4]
        exact ⟨h0, by omega⟩
      rcases hf with hf | hf
      · exact Or.inr (Or.inl (hx 1 (by omega)))
      · exact Or.inl (hx (-1) (by omega))
  · rcases hg with ⟨f, r, f1, f2, r1, r2, hg⟩ | ⟨hk6, hs, hc⟩
    · rcases hg with ⟨hg, -, e⟩ | ⟨hg, k, hw⟩
      · have h4 := (rSp_b h0 h1 e h2).1
        refine Or.inr (Or.inr ⟨-f, -r, by omega, by omega, by omega, by omega, ?_⟩)
        unfold rA1
        rw [Int.neg_mul_neg, Int.neg_mul_neg, h4]
        rcases hg with ⟨g1, g2⟩ | ⟨g1, g2, g3⟩
        · exact Or.inl ⟨g2, h0, by omega⟩
        · exact Or.inr ⟨g2, g3, Or.inl ⟨h0, by omega⟩⟩
      · have h4 := rWn_b (m := q.1 s) hw rfl h0 h1 (rGf_s h0 rfl ho1)
        refine Or.inr (Or.inr ⟨-f, -r, by omega, by omega, by omega, by omega, ?_⟩)
        unfold rA1
        rw [Int.neg_mul_neg, Int.neg_mul_neg]
        refine Or.inr ⟨by omega, by omega, Or.inr ⟨q.1 s, h4, ?_⟩⟩
        omega
    · exfalso
      rcases hc with ⟨hc, e⟩ | ⟨hc, e⟩
      · have := hc.2.1 u (by rw [if_pos rfl]; omega) (by rw [if_pos rfl]; omega)
        exact hm this
      · have := hc.2.1 u (by rw [if_neg (by decide)]; omega) (by rw [if_neg (by decide)]; omega)
        exact hm this
theorem rFr_r {m : Int} : 0 ≤ rFr m ∧ rFr m ≤ 63 := by unfold rFr; omega
theorem rTo_r {m : Int} : 0 ≤ rTo m ∧ rTo m ≤ 63 := by unfold rTo; omega
theorem rWh_r {q : rQ} {m : Int} : 0 ≤ rWh q m ∧ rWh q m ≤ 63 := by
  have h1 := rFr_r (m := m)
  have h2 := rTo_r (m := m)
  unfold rWh
  split <;> omega
theorem rLm_ca {q : rQ} {m : Int} (hd : 0 ≤ q.2.1 ∧ q.2.1 ≤ 1) (hl : rLm q m) (hc : rIsC q m) : rFr m = 56 * q.2.1 + 4 ∧ rBc m = 0 ∧ q.1 (rTo m) = 0 ∧ q.1 (rOv (rFr m) (rTo m)) = 0 ∧ (rTo m = rFr m + 2 ∨ rTo m = rFr m - 2) := by
  obtain ⟨-, -, -, -, hg, hb⟩ := hl
  obtain ⟨hk, ht⟩ := hc
  have hf := rFr_r (m := m)
  have htr := rTo_r (m := m)
  have hb0 : rBc m = 0 := by
    rcases hb with ⟨h, -⟩ | ⟨-, h⟩
    · omega
    · exact h
  rcases hg with ⟨h, -⟩ | ⟨-, ⟨f, r, f1, f2, r1, r2, hg⟩ | ⟨-, hs, hc⟩⟩
  · omega
  · exfalso
    rcases hg with ⟨hg, -, e⟩ | ⟨hg, -⟩
    · have h2 : f * f + r * r ≤ 2 := by
        rcases hg with ⟨h, -⟩ | ⟨-, -, h⟩
        · omega
        · exact h
      have h3 := rSq2 f1 f2 r1 r2 h2
      unfold rSp at e
      split at e <;> omega
    · omega
  · rcases hc with ⟨hc, e⟩ | ⟨hc, e⟩
    · refine ⟨hs, hb0, ?_, ?_, Or.inl e⟩
      · exact hc.2.1 _ (by rw [if_pos rfl]; omega) (by rw [if_pos rfl]; omega)
      · exact hc.2.1 _ (by rw [if_pos rfl]; unfold rOv; omega) (by rw [if_pos rfl]; unfold rOv; omega)
    · refine ⟨hs, hb0, ?_, ?_, Or.inr e⟩
      · exact hc.2.1 _ (by rw [if_neg (by decide)]; omega) (by rw [if_neg (by decide)]; omega)
      · exact hc.2.1 _ (by rw [if_neg (by decide)]; unfold rOv; omega) (by rw [if_neg (by decide)]; unfold rOv; omega)
theorem rLm_ep {q : rQ} {m : Int} (hd : rGd q) (hl : rLm q m) (hw : ¬ rWh q m = rTo m) : q.1 (rFr m) = 8 * q.2.1 + 1 ∧ q.1 (rTo m) = 0 ∧ q.1 (rWh q m) = 8 * (1 - q.2.1) + 1 ∧ rBc m = 0 ∧ ¬ rWh q m = rFr m := by
  obtain ⟨d0, d1, hv, -, hp, -⟩ := hd
  obtain ⟨-, -, ⟨o1, o2⟩, -, hg, hb⟩ := hl
  have hf := rFr_r (m := m)
  have ht := rTo_r (m := m)
  unfold rWh at hw ⊢
  split at hw
  next c =>
    obtain ⟨c1, c2⟩ := c
    rw [if_pos ⟨c1, c2⟩]
    rcases hp with hp | ⟨p0, p1, p2, p3⟩
    · omega
    rw [← c2] at p0 p1 p2 p3
    have hrk : (q.2.1 = 0 ∧ rFr m / 8 = 4) ∨ (q.2.1 = 1 ∧ rFr m / 8 = 3) := by
      rcases hg with ⟨-, hg⟩ | ⟨hg, -⟩
      · rcases hg with ⟨g1, g2, g3⟩ | ⟨f, g1, g2, g3, -⟩
        · unfold rUpw at g1 g2 g3
          rcases g3 with g3 | ⟨g3, g4, -⟩
          · unfold rSp at g3
            split at g3 <;> omega
          · unfold rSp at g4
            split at g4
            · split at g4 <;> omega
            · split at g4 <;> omega
        · unfold rSp rUpw at g3
          split at g3 <;> omega
      · exact absurd c1 hg
    have hwv : q.1 (8 * (rFr m / 8) + rTo m % 8) = 8 * (1 - q.2.1) + 1 := by
      rcases p3 with ⟨p3, p4, p5⟩ | ⟨p3, p4, p5⟩
      · rw [show 8 * (rFr m / 8) + rTo m % 8 = rTo m - 8 by omega, p5]; omega
      · rw [show 8 * (rFr m / 8) + rTo m % 8 = rTo m + 8 by omega, p5]; omega
    refine ⟨by omega, p2, hwv, ?_, ?_⟩
    · rcases hb with ⟨-, h, -⟩ | ⟨-, h⟩
      · omega
      · exact h
    · intro e
      rw [e] at hwv
      omega
  next c => exact absurd rfl hw
theorem rTb {q : rQ} {m : Int} (hd : rGd q) (hl : rLm q m) : rT3 q m = q.1 := by
  have hcas : rIsC q m → rT0c q m = rM3 q m := fun hc => by
    obtain ⟨h1, h2, h3, h4, h5⟩ := rLm_ca ⟨hd.1, hd.2.1⟩ hl hc
    have d0 := hd.1
    have d1 := hd.2.1
    have e1 : ¬ rCo (rFr m) (rTo m) = rOv (rFr m) (rTo m) := by unfold rCo rOv; split <;> omega
    have e2 : rM3 q m (rOv (rFr m) (rTo m)) = 0 := by
      have hw : rWh q m = rTo m := by
        unfold rWh
        rw [if_neg (fun h => by have := hc.1; omega)]
      unfold rM3 rM2 rM1
      rw [rUp_n (by unfold rOv; omega), rUp_n (by unfold rOv; omega), rUp_n (by rw [hw]; unfold rOv; omega)]
      exact h4
    funext i
    unfold rT0c
    by_cases c1 : i = rOv (rFr m) (rTo m)
    · rw [c1, rUp_s, e2]
    · rw [rUp_n c1]
      by_cases c2 : i = rCo (rFr m) (rTo m)
      · rw [c2, rUp_s]
        unfold rM4c
        rw [rUp_n (fun h => e1 h.symm), rUp_s]
      · rw [rUp_n c2]
        unfold rM4c
        rw [rUp_n c2, rUp_n c1]
  have h0 : rT0 q m = rM3 q m := by
    funext i
    unfold rT0
    by_cases hc : rIsC q m
    · rw [if_pos hc, hcas hc]
    · rw [if_neg hc]
      unfold rM4
      rw [if_neg hc]
  funext i
  unfold rT3 rT2 rT1
  by_cases c1 : i = rFr m
  · rw [c1, rUp_s]
  · rw [rUp_n c1]
    by_cases c2 : i = rWh q m
    · rw [c2, rUp_s]
    · rw [rUp_n c2]
      by_cases c3 : i = rTo m
      · rw [c3, rUp_s]
        rw [c3] at c2
        exact (rLm_ep hd hl (fun h => c2 h.symm)).2.1.symm
      · rw [rUp_n c3, h0]
        unfold rM3 rM2 rM1
        rw [rUp_n c3, rUp_n c1, rUp_n c2]
theorem rM4_c {q : rQ} {m : Int} (hc : rIsC q m) : rM4 q m = rM4c q m := by
  funext i
  unfold rM4
  rw [if_pos hc]
theorem rM4_n {q : rQ} {m : Int} (hc : ¬ rIsC q m) : rM4 q m = rM3 q m := by
  funext i
  unfold rM4
  rw [if_neg hc]
theorem rVal_up {M : Int → Int} {s v : Int} (h : rVal M) (hv : v = 0 ∨ (0 ≤ s ∧ s ≤ 63 ∧ ((1 ≤ v ∧ v ≤ 6) ∨ (9 ≤ v ∧ v ≤ 14)))) : rVal (rUp M s v) := by
  intro i
  by_cases c : i = s
  · rw [c, rUp_s]; exact hv
  · rw [rUp_n c]; exact h i
theorem rVal_3 {q : rQ} {m : Int} (hd : rGd q) (hl : rLm q m) : rVal (rM3 q m) := by
  obtain ⟨d0, d1, hv, -⟩ := hd
  have ht := rTo_r (m := m)
  unfold rM3 rM2 rM1
  refine rVal_up (rVal_up (rVal_up hv (Or.inl rfl)) (Or.inl rfl)) ?_
  split
  next c =>
    refine Or.inr ⟨ht.1, ht.2, ?_⟩
    rcases hl.2.2.2.2.2 with ⟨-, -, h1, h2⟩ | ⟨-, h⟩
    · omega
    · omega
  next c =>
    rcases hv (rFr m) with h | ⟨-, -, h⟩
    · exact Or.inl h
    · exact Or.inr ⟨ht.1, ht.2, h⟩
theorem rVal_4 {q : rQ} {m : Int} (hd : rGd q) (hl : rLm q m) : rVal (rM4 q m) := by
  have h3 := rVal_3 hd hl
  by_cases hc : rIsC q m
  · rw [rM4_c hc]
    obtain ⟨h1, h2, -, -, h5⟩ := rLm_ca ⟨hd.1, hd.2.1⟩ hl hc
    have d0 := hd.1
    have d1 := hd.2.1
    unfold rM4c
    refine rVal_up (rVal_up h3 ?_) (Or.inl rfl)
    rcases h3 (rCo (rFr m) (rTo m)) with h | ⟨-, -, h⟩
    · exact Or.inl h
    · exact Or.inr ⟨by unfold rOv; omega, by unfold rOv; omega, h⟩
  · rw [rM4_n hc]; exact h3
theorem rLm_fr {q : rQ} {m : Int} (hd : rGd q) (hl : rLm q m) : q.1 (rTo m) = 0 ∨ (q.1 (rTo m) / 8 = 1 - q.2.1 ∧ ¬ q.1 (rTo m) = 8 * (1 - q.2.1) + 6) := by
  obtain ⟨d0, d1, hv, -, hp, ha⟩ := hd
  obtain ⟨-, -, ho, hn, hg, -⟩ := hl
  have hf := rFr_r (m := m)
  have ht := rTo_r (m := m)
  by_cases c : q.1 (rTo m) = 0
  · exact Or.inl c
  · refine Or.inr ⟨?_, fun e => ?_⟩
    · have hn2 : ¬ q.1 (rTo m) / 8 = q.2.1 := fun e => hn ⟨c, e⟩
      rcases hv (rTo m) with h | ⟨-, -, h⟩
      · exact absurd h c
      · omega
    · have hne : ¬ rTo m = q.2.2.2 := by
        intro e2
        rcases hp with hp | ⟨-, -, hp, -⟩
        · omega
        · rw [← e2] at hp; exact c hp
      exact ha (rTo m) e (rGO_at hg ho ⟨d0, d1⟩ hv hf.1 hf.2 ht.1 ht.2 c hne)
theorem rM3_at {q : rQ} {m t : Int} : (t = rTo m ∧ rM3 q m t = (if 0 < rBc m then rBc m + 8 * q.2.1 else q.1 (rFr m))) ∨ (¬ t = rTo m ∧ (t = rFr m ∨ t = rWh q m) ∧ rM3 q m t = 0) ∨ (¬ t = rTo m ∧ ¬ t = rFr m ∧ ¬ t = rWh q m ∧ rM3 q m t = q.1 t) := by
  unfold rM3 rM2 rM1
  by_cases c1 : t = rTo m
  · refine Or.inl ⟨c1, ?_⟩
    rw [c1, rUp_s]
  · refine Or.inr ?_
    rw [rUp_n c1]
    by_cases c2 : t = rFr m
    · refine Or.inl ⟨c1, Or.inl c2, ?_⟩
      rw [c2, rUp_s]
    · rw [rUp_n c2]
      by_cases c3 : t = rWh q m
      · refine Or.inl ⟨c1, Or.inr c3, ?_⟩
        rw [c3, rUp_s]
      · refine Or.inr ⟨c1, c2, c3, ?_⟩
        rw [rUp_n c3]
theorem rKs_3 {q : rQ} {m : Int} (hd : rGd q) (hl : rLm q m) : rKs (rM3 q m) := by
  intro b hb0 hb1
  obtain ⟨s0, s1, s2, s3, s4⟩ := hd.2.2.2.1 b hb0 hb1
  have d0 := hd.1
  have d1 := hd.2.1
  have ho := hl.2.2.1
  obtain ⟨o1, o2⟩ := ho
  have hbc : 0 < rBc m → 2 ≤ rBc m ∧ rBc m ≤ 5 ∧ q.1 (rFr m) % 8 = 1 := fun h => by
    rcases hl.2.2.2.2.2 with ⟨h1, -, h2, h3⟩ | ⟨-, h4⟩
    · exact ⟨h2, h3, h1⟩
    · omega
  by_cases c : q.1 (rFr m) = 8 * b + 6
  · have e0 : rFr m = s0 := s4 _ c
    refine ⟨rTo m, rTo_r.1, rTo_r.2, ?_, fun t ht => ?_⟩
    · rcases rM3_at (q := q) (m := m) (t := rTo m) with ⟨-, h⟩ | ⟨h, -⟩ | ⟨h, -⟩
      · rw [h, if_neg (fun h2 => by have := hbc h2; omega)]
        exact c
      · exact absurd rfl h
      · exact absurd rfl h
    · rcases rM3_at (q := q) (m := m) (t := t) with ⟨h, -⟩ | ⟨-, -, h⟩ | ⟨-, h2, -, h⟩
      · exact h
      · omega
      · rw [h] at ht
        exact absurd ((s4 t ht).trans e0.symm) h2
  · have n1 : ¬ s0 = rFr m := fun e => c (by rw [← e]; exact s3)
    have n2 : ¬ s0 = rTo m := fun e => by
      rw [e] at s3
      rcases rLm_fr hd hl with h | ⟨h, h2⟩
      · omega
      · have hb : b = 1 - q.2.1 := by omega
        rw [hb] at s3
        exact h2 s3
    have n3 : ¬ s0 = rWh q m := fun e => by
      by_cases cw : rWh q m = rTo m
      · exact n2 (by rw [e, cw])
      · have := (rLm_ep hd hl cw).2.2.1
        rw [← e, s3] at this
        omega
    refine ⟨s0, s1, s2, ?_, fun t ht => ?_⟩
    · rcases rM3_at (q := q) (m := m) (t := s0) with ⟨h, -⟩ | ⟨-, h, -⟩ | ⟨-, -, -, h⟩
      · exact absurd h n2
      · rcases h with h | h
        · exact absurd h n1
        · exact absurd h n3
      · rw [h]; exact s3
    · rcases rM3_at (q := q) (m := m) (t := t) with ⟨-, h⟩ | ⟨-, -, h⟩ | ⟨-, -, -, h⟩
      · rw [h] at ht
        split at ht
        next h2 => have := hbc h2; omega
        next => exact absurd ht c
      · omega
      · rw [h] at ht
        exact s4 t ht
theorem rKs_4 {q : rQ} {m : Int} (hd : rGd q) (hl : rLm q m) : rKs (rM4 q m) := by
  have h3 := rKs_3 hd hl
  by_cases hc : rIsC q m
  · rw [rM4_c hc]
    obtain ⟨h1, h2, h6, h4, h5⟩ := rLm_ca ⟨hd.1, hd.2.1⟩ hl hc
    have d0 := hd.1
    have d1 := hd.2.1
    have hw : rWh q m = rTo m := by
      unfold rWh
      rw [if_neg (fun h => by have := hc.1; omega)]
    have e1 : ¬ rCo (rFr m) (rTo m) = rOv (rFr m) (rTo m) := by unfold rCo rOv; split <;> omega
    have e2 : rM3 q m (rOv (rFr m) (rTo m)) = 0 := by
      unfold rM3 rM2 rM1
      rw [rUp_n (by unfold rOv; omega), rUp_n (by unfold rOv; omega), rUp_n (by rw [hw]; unfold rOv; omega)]
      exact h4
    intro b hb0 hb1
    obtain ⟨s0, s1, s2, s3, s4⟩ := h3 b hb0 hb1
    by_cases c : s0 = rCo (rFr m) (rTo m)
    · refine ⟨rOv (rFr m) (rTo m), by unfold rOv; omega, by unfold rOv; omega, ?_, fun t ht => ?_⟩
      · unfold rM4c
        rw [rUp_n (fun h => e1 h.symm), rUp_s, ← c]
        exact s3
      · unfold rM4c at ht
        by_cases c1 : t = rCo (rFr m) (rTo m)
        · rw [c1, rUp_s] at ht; omega
        · rw [rUp_n c1] at ht
          by_cases c2 : t = rOv (rFr m) (rTo m)
          · exact c2
          · rw [rUp_n c2] at ht
            exact absurd ((s4 t ht).trans c) c1
    · have n1 : ¬ s0 = rOv (rFr m) (rTo m) := fun e => by rw [e, e2] at s3; omega
      refine ⟨s0, s1, s2, ?_, fun t ht => ?_⟩
      · unfold rM4c
        rw [rUp_n c, rUp_n n1]
        exact s3
      · unfold rM4c at ht
        by_cases c1 : t = rCo (rFr m) (rTo m)
        · rw [c1, rUp_s] at ht; omega
        · rw [rUp_n c1] at ht
          by_cases c2 : t = rOv (rFr m) (rTo m)
          · rw [c2, rUp_s] at ht
            exact absurd (s4 _ ht).symm c
          · rw [rUp_n c2] at ht
            exact s4 t ht
  · rw [rM4_n hc]; exact h3
theorem rLm_two {q : rQ} {m : Int} (d0 : 0 ≤ q.2.1) (d1 : q.2.1 ≤ 1) (hl : rLm q m) (ht : rTwo q m) : ((q.2.1 = 0 ∧ rFr m / 8 = 1 ∧ rTo m = rFr m + 16 ∧ q.1 (rFr m + 8) = 0) ∨ (q.2.1 = 1 ∧ rFr m / 8 = 6 ∧ rTo m = rFr m - 16 ∧ q.1 (rFr m - 8) = 0)) ∧ q.1 (rFr m) = 8 * q.2.1 + 1 ∧ rBc m = 0 := by
  obtain ⟨-, -, ⟨o1, o2⟩, -, hg, hb⟩ := hl
  obtain ⟨hk, ht⟩ := ht
  have hf := rFr_r (m := m)
  have htr := rTo_r (m := m)
  have key : (q.2.1 = 0 ∧ rFr m / 8 = 1 ∧ rTo m = rFr m + 16 ∧ q.1 (rFr m + 8) = 0) ∨ (q.2.1 = 1 ∧ rFr m / 8 = 6 ∧ rTo m = rFr m - 16 ∧ q.1 (rFr m - 8) = 0) := by
    rcases hg with ⟨-, hg⟩ | ⟨hg, -⟩
    · rcases hg with ⟨g1, g2, g3⟩ | ⟨f, g1, -, g3, -⟩
      · unfold rUpw at g1 g2 g3
        have e : rSp (rFr m) 0 (1 - 2 * q.2.1) = rFr m + 8 * (1 - 2 * q.2.1) := by
          unfold rSp at g1 ⊢
          split at g1
          next c => rw [if_pos c]; omega
          next => omega
        rw [e] at g1 g2 g3
        rcases g3 with g3 | ⟨g3, g4, -⟩
        · omega
        · have hs : q.2.1 = 0 ∨ q.2.1 = 1 := by omega
          rcases hs with hs | hs
          · rw [hs] at g2 g3 g4
            refine Or.inl ⟨hs, by omega, ?_, ?_⟩
            · unfold rSp at g4
              split at g4 <;> omega
            · rw [show rFr m + 8 * (1 - 2 * 0) = rFr m + 8 by omega] at g2; exact g2
          · rw [hs] at g2 g3 g4
            refine Or.inr ⟨hs, by omega, ?_, ?_⟩
            · unfold rSp at g4
              split at g4 <;> omega
            · rw [show rFr m + 8 * (1 - 2 * 1) = rFr m - 8 by omega] at g2; exact g2
      · exfalso
        unfold rSp rUpw at g3
        split at g3 <;> omega
    · exact absurd hk hg
  refine ⟨key, by omega, ?_⟩
  rcases hb with ⟨-, h, -⟩ | ⟨-, h⟩
  · omega
  · exact h
theorem rPs_4 {q : rQ} {m : Int} (hd : rGd q) (hl : rLm q m) : rPs (rMk q m) := by
  show rNp q m = -1 ∨ (0 ≤ rNp q m ∧ rNp q m ≤ 63 ∧ rM4 q m (rNp q m) = 0 ∧ ((1 - q.2.1 = 0 ∧ rNp q m / 8 = 5 ∧ rM4 q m (rNp q m - 8) = 9) ∨ (1 - q.2.1 = 1 ∧ rNp q m / 8 = 2 ∧ rM4 q m (rNp q m + 8) = 1)))
  by_cases hp : rPa q m
  · have e : rNp q m = (rFr m + rTo m) / 2 := by
      unfold rNp
      rw [if_pos hp]
    obtain ⟨hk, hm, hb⟩ := rLm_two hd.1 hd.2.1 hl hp.1
    have hf := rFr_r (m := m)
    have ht := rTo_r (m := m)
    have hc : ¬ rIsC q m := fun h => by have h1 := h.1; have h2 := hp.1.1; omega
    rw [rM4_n hc, e]
    have h1 : rM3 q m ((rFr m + rTo m) / 2) = q.1 ((rFr m + rTo m) / 2) := by
      rcases rM3_at (q := q) (m := m) (t := (rFr m + rTo m) / 2) with ⟨h, -⟩ | ⟨-, h, -⟩ | ⟨-, -, -, h⟩
      · omega
      · rcases h with h | h
        · omega
        · unfold rWh at h
          split at h <;> omega
      · exact h
    have h2 : rM3 q m (rTo m) = 8 * q.2.1 + 1 := by
      rcases rM3_at (q := q) (m := m) (t := rTo m) with ⟨-, h⟩ | ⟨h, -⟩ | ⟨h, -⟩
      · rw [h, if_neg (by omega)]; exact hm
      · exact absurd rfl h
      · exact absurd rfl h
    refine Or.inr ⟨by omega, by omega, ?_, ?_⟩
    · rw [h1]
      rcases hk with ⟨-, -, k3, k4⟩ | ⟨-, -, k3, k4⟩
      · rw [show (rFr m + rTo m) / 2 = rFr m + 8 by omega]; exact k4
      · rw [show (rFr m + rTo m) / 2 = rFr m - 8 by omega]; exact k4
    · rcases hk with ⟨k1, k2, k3, k4⟩ | ⟨k1, k2, k3, k4⟩
      · refine Or.inr ⟨by omega, by omega, ?_⟩
        rw [show (rFr m + rTo m) / 2 + 8 = rTo m by omega, h2]
        omega
      · refine Or.inl ⟨by omega, by omega, ?_⟩
        rw [show (rFr m + rTo m) / 2 - 8 = rTo m by omega, h2]
        omega
  · refine Or.inl ?_
    unfold rNp
    rw [if_neg hp]
theorem rMk_gd {q : rQ} {m : Int} (hd : rGd q) (hl : rLm q m) : rGd (rMk q m) ↔ ∀ s, rM4 q m s = 8 * q.2.1 + 6 → ¬ rAk (rM4 q m) s (1 - q.2.1) := by
  have d0 := hd.1
  have d1 := hd.2.1
  constructor
  · intro h s hs
    exact h.2.2.2.2.2 s (show rM4 q m s = 8 * (1 - (1 - q.2.1)) + 6 by omega)
  · intro h
    refine ⟨show 0 ≤ 1 - q.2.1 by omega, show 1 - q.2.1 ≤ 1 by omega, rVal_4 hd hl, rKs_4 hd hl, rPs_4 hd hl, fun s hs => ?_⟩
    have hs : rM4 q m s = 8 * (1 - (1 - q.2.1)) + 6 := hs
    exact h s (by omega)
theorem rShn : ∀ (t : Fin 64), (((Int32.ofNat t.val).toInt64 &&& 63).toBitVec.smod 64).toNat = t.val := by decide +kernel
theorem rOfi {t : Int} (h0 : 0 ≤ t) (h1 : t ≤ 63) : Int32.ofInt t = Int32.ofNat t.toNat := by
  have h : t = ((t.toNat : Nat) : Int) := by omega
  rw [h]
  exact Int32.ofInt_eq_ofNat
theorem rShb {L L2 : Int64} {t : Int} (e : L2 = L >>> ((Int32.ofInt t).toInt64 &&& 63)) (h0 : 0 ≤ t) (h1 : t ≤ 63) {i : Int} (h2 : 0 ≤ i) (h3 : t + i ≤ 63) : rBt L2 i ↔ rBt L (t + i) := by
  have hs := rShn ⟨t.toNat, by omega⟩
  dsimp only at hs
  unfold rBt
  rw [e, rOfi h0 h1, Int64.toBitVec_shiftRight, BitVec.sshiftRight_eq', hs, BitVec.getLsbD_sshiftRight, if_pos (by omega), show t.toNat + i.toNat = (t + i).toNat by omega, show (!decide (64 ≤ i.toNat)) = true by rw [decide_eq_false (by omega)]; rfl, Bool.true_and]
theorem rAnd1 {A B C : Int64} (e : C = A &&& B) (hB : B.toInt = 1) : C.toInt = 1 ↔ rBt A 0 := by
  have eB : B = 1 := Int64.toInt_inj.mp (by rw [hB]; rfl)
  subst eB
  have h1 : ((1 : Int64).toBitVec.getLsbD 0) = true := rfl
  unfold rBt
  constructor
  · intro h
    have hC : C = 1 := Int64.toInt_inj.mp (by rw [h]; rfl)
    have h2 : C.toBitVec.getLsbD 0 = true := by rw [hC]; rfl
    rw [e, Int64.toBitVec_and, BitVec.getLsbD_and, Bool.and_eq_true] at h2
    exact h2.1
  · intro h
    have hC : C = 1 := by
      apply Int64.toBitVec_inj.mp
      apply BitVec.eq_of_getLsbD_eq
      intro i hi
      rw [e, Int64.toBitVec_and, BitVec.getLsbD_and]
      cases i with
      | zero => rw [show A.toBitVec.getLsbD 0 = true from h]; rfl
      | succ i =>
        have h3 : (1 : Int64).toBitVec.getLsbD (i + 1) = false := by
          rw [show (1 : Int64).toBitVec = 1#64 from rfl, BitVec.getLsbD_one]
          simp
        rw [h3, Bool.and_false]
    rw [hC]; rfl
theorem rFr_m {f t : Int} (h0 : 0 ≤ f) (h1 : f ≤ 63) (h2 : 0 ≤ t) (h3 : t ≤ 63) : rFr (f + 64 * t) = f ∧ rTo (f + 64 * t) = t ∧ rBc (f + 64 * t) = 0 := by
  unfold rFr rTo rBc
  omega
theorem rMv {m f t b : Int} (h0 : 0 ≤ f) (h1 : f ≤ 63) (h2 : 0 ≤ t) (h3 : t ≤ 63) (e : m = f + 64 * t + 4096 * b) : rFr m = f ∧ rTo m = t ∧ rBc m = b := by
  unfold rFr rTo rBc
  omega
theorem rSm_s {k s t : Int} (h : 0 ≤ t) : rSm k s (t + 1).toNat = rSm k s t.toNat + rWt k s t := by
  rw [show (t + 1).toNat = t.toNat + 1 by omega]
  show rSm k s t.toNat + rWt k s ((t.toNat : Nat) : Int) = _
  rw [show ((t.toNat : Nat) : Int) = t by omega]
theorem rWf_ln {M : Int → Int} {f r u : Int} : ∀ {k : Nat} {s t : Int}, rWn M f r k t u → t = rSp s f r → 0 ≤ s → s ≤ 63 → ∃ j : Int, 1 ≤ j ∧ u % 8 = s % 8 + j * f ∧ u / 8 = s / 8 + j * r ∧ 0 ≤ u ∧ u ≤ 63 := by
  intro k
  induction k with
  | zero => intro s t h; exact h.elim
  | succ k ih =>
    intro s t h e h0 h1
    obtain ⟨h2, h3⟩ := h
    have h4 := rSp_b h0 h1 e h2
    have h5 : t % 8 = s % 8 + f ∧ t / 8 = s / 8 + r := by
      unfold rSp at e
      split at e <;> omega
    rcases h3 with rfl | ⟨-, h6⟩
    · exact ⟨1, by omega, by omega, by omega, h2, h4.2⟩
    · obtain ⟨j, j1, j3, j4, j5, j6⟩ := ih h6 rfl h2 h4.2
      have ef : (j + 1) * f = j * f + f := by rw [Int.add_mul, Int.one_mul]
      have er : (j + 1) * r = j * r + r := by rw [Int.add_mul, Int.one_mul]
      exact ⟨j + 1, by omega, by omega, by omega, j5, j6⟩
theorem rSup_s {k s t f r : Int} (h : k = 3 ∨ k = 4 ∨ k = 5) (hf : -2 ≤ f ∧ f ≤ 2) (hr : -2 ≤ r ∧ r ≤ 2) (hk : (k = 4 ∧ f * f + r * r = 1) ∨ (k = 3 ∧ f * f + r * r = 2) ∨ (k = 5 ∧ 1 ≤ f * f + r * r ∧ f * f + r * r ≤ 2)) {j : Int} (j1 : 1 ≤ j) (e1 : t % 8 = s % 8 + j * f) (e2 : t / 8 = s / 8 + j * r) : rSup k s t = true := by
  have h2 : f * f + r * r ≤ 2 := by omega
  obtain ⟨f1, f2, r1, r2⟩ := rSq2 hf.1 hf.2 hr.1 hr.2 h2
  have hf : f = -1 ∨ f = 0 ∨ f = 1 := by omega
  have hr : r = -1 ∨ r = 0 ∨ r = 1 := by omega
  unfold rSup
  rw [if_neg (by omega), if_neg (by omega), if_neg (by omega)]
  simp only [Bool.or_eq_true, Bool.and_eq_true, decide_eq_true_iff]
  rcases hf with rfl | rfl | rfl <;> rcases hr with rfl | rfl | rfl <;> omega
theorem rGO_sup {q : rQ} {s u : Int} (hg : rGO q s u) (h0 : 0 ≤ s) (h1 : s ≤ 63) (hd : 0 ≤ q.2.1 ∧ q.2.1 ≤ 1) : rSup (q.1 s % 8) s u = true := by
  rcases hg with ⟨hk, hg⟩ | ⟨hk, hg⟩
  · unfold rSup
    rw [if_pos hk]
    simp only [Bool.or_eq_true, Bool.and_eq_true, decide_eq_true_iff]
    rcases hg with ⟨g1, g2, g3⟩ | ⟨f, g1, g2, g3, -⟩
    · have e : rSp s 0 (rUpw q) = s + 8 * rUpw q := by
        unfold rSp at g1 ⊢
        split at g1
        next c => rw [if_pos c]; omega
        next => omega
      rw [e] at g1 g3
      unfold rUpw at g1 g3
      rcases g3 with g3 | ⟨g3, g4, -⟩
      · unfold rSp at e
        unfold rUpw at e
        split at e <;> omega
      · unfold rSp at g4
        split at g4
        · omega
        · omega
    · unfold rSp rUpw at g3
      split at g3 <;> omega
  · rcases hg with ⟨f, r, f1, f2, r1, r2, hg⟩ | ⟨hk6, hs, hc⟩
    · rcases hg with ⟨hg, hu, e⟩ | ⟨hg, k, hw⟩
      · have e1 : u % 8 - s % 8 = f ∧ u / 8 - s / 8 = r := by
          unfold rSp at e
          split at e <;> omega
        unfold rSup
        rw [if_neg hk, e1.1, e1.2]
        rcases hg with ⟨g1, g2⟩ | ⟨g1, g2, g3⟩
        · rw [if_pos g1]
          exact decide_eq_true g2
        · rw [if_neg (by omega), if_pos g1]
          simp only [Bool.or_eq_true, Bool.and_eq_true, decide_eq_true_iff]
          exact Or.inl (Or.inl ⟨g2, g3⟩)
      · obtain ⟨j, j1, j2, j3, -⟩ := rWf_ln hw rfl h0 h1
        exact rSup_s (by omega) ⟨f1, f2⟩ ⟨r1, r2⟩ hg j1 j2 j3
    · unfold rSup
      rw [if_neg hk, if_neg (by omega), if_pos hk6]
      simp only [Bool.or_eq_true, Bool.and_eq_true, decide_eq_true_iff]
      rcases hc with ⟨-, hc⟩ | ⟨-, hc⟩
      · exact Or.inl (Or.inr hc)
      · exact Or.inr hc
theorem rSqn {x : Int} : 0 ≤ x * x := by
  rcases Int.le_total 0 x with h | h
  · exact Int.mul_nonneg h h
  · rw [← Int.neg_mul_neg]
    exact Int.mul_nonneg (by omega) (by omega)
def rVd (q : rQ) (m : Int) : Prop := q.1 (rFr m) % 8 = 1 ∧ q.1 (rTo m) = 0 ∧ ¬ rFr m % 8 = rTo m % 8
def rVd_d (q : rQ) (m : Int) : Decidable (rVd q m) := by unfold rVd; exact inferInstance
def rV0 (q : rQ) (m : Int) : Int → Int := fun i => @ite _ (rVd q m) (rVd_d q m) (rUp q.1 (8 * (rFr m / 8) + rTo m % 8) 0 i) (q.1 i)
def rVc (q : rQ) (m : Int) : Prop := q.1 (rFr m) % 8 = 6 ∧ rFr m % 8 = 4 ∧ (rTo m % 8 = 6 ∨ rTo m % 8 = 2)
def rVc_d (q : rQ) (m : Int) : Decidable (rVc q m) := by unfold rVc; exact inferInstance
def rCv (m : Int) : Int := if rTo m % 8 = 6 then rFr m + 3 else rFr m - 4
def rV1d (q : rQ) (m : Int) : Int → Int := rUp (rV0 q m) (rOv (rFr m) (rTo m)) (rV0 q m (rCv m))
def rV1 (q : rQ) (m : Int) : Int → Int := fun i => @ite _ (rVc q m) (rVc_d q m) (rUp (rV1d q m) (rCv m) 0 i) (rV0 q m i)
def rV2 (q : rQ) (m : Int) : Int → Int := rUp (rV1 q m) (rFr m) 0
def rV3 (q : rQ) (m : Int) : Int → Int := rUp (rV2 q m) (rTo m) (if 0 < rBc m then rBc m + 8 * q.2.1 else q.1 (rFr m))
def rVt (q : rQ) (m : Int) : Prop := rTwo q m ∧ (rNbr (rV3 q m) (rTo m) (-1) (1 + 8 * (1 - q.2.1)) ∨ rNbr (rV3 q m) (rTo m) 1 (1 + 8 * (1 - q.2.1)))
def rVt_d (q : rQ) (m : Int) : Decidable (rVt q m) := by unfold rVt rTwo rNbr; exact inferInstance
def rVp (q : rQ) (m : Int) : Int := @ite _ (rVt q m) (rVt_d q m) ((rFr m + rTo m) / 2) (-1)
def rVk (q : rQ) (m : Int) : rQ := (rV3 q m, 1 - q.2.1, rAn (rAn q.2.2.1 (rLo (rFr m))) (rLo (rTo m)), rVp q m)
theorem rV0_y {q : rQ} {m : Int} (h : rVd q m) : rV0 q m = rUp q.1 (8 * (rFr m / 8) + rTo m % 8) 0 := by
  funext i
  unfold rV0
  rw [if_pos h]
theorem rV0_n {q : rQ} {m : Int} (h : ¬ rVd q m) : rV0 q m = q.1 := by
  funext i
  unfold rV0
  rw [if_neg h]
theorem rV1_y {q : rQ} {m : Int} (h : rVc q m) : rV1 q m = rUp (rV1d q m) (rCv m) 0 := by
  funext i
  unfold rV1
  rw [if_pos h]
theorem rV1_n {q : rQ} {m : Int} (h : ¬ rVc q m) : rV1 q m = rV0 q m := by
  funext i
  unfold rV1
  rw [if_neg h]
theorem rVd_i {q : rQ} {m : Int} (hd : rGd q) (hl : rLm q m) : rVd q m ↔ ¬ rWh q m = rTo m := by
  constructor
  · rintro ⟨h1, h2, h3⟩ e
    obtain ⟨-, -, ⟨o1, o2⟩, -, hg, -⟩ := hl
    have hf := rFr_r (m := m)
    have ht := rTo_r (m := m)
    rcases hg with ⟨-, hg⟩ | ⟨hg, -⟩
    · rcases hg with ⟨g1, g2, g3⟩ | ⟨f, g1, g2, g3, g4⟩
      · have e9 : rSp (rFr m) 0 (rUpw q) = rFr m + 8 * rUpw q := by
          unfold rSp at g1 ⊢
          split at g1
          next c => rw [if_pos c]; omega
          next => omega
        rw [e9] at g3
        rcases g3 with g3 | ⟨-, g3, -⟩
        · omega
        · unfold rSp at g3
          split at g3 <;> omega
      · rcases g4 with ⟨g4, -⟩ | g4
        · exact g4 h2
        · unfold rWh at e
          rw [if_pos ⟨h1, g4⟩] at e
          unfold rSp rUpw at g3
          have d0 := hd.1
          have d1 := hd.2.1
          split at g3 <;> omega
    · exact hg h1
  · intro h
    obtain ⟨k1, k2, k3, -, k5⟩ := rLm_ep hd hl h
    have d0 := hd.1
    have d1 := hd.2.1
    refine ⟨by omega, k2, fun e => ?_⟩
    unfold rWh at h k5
    split at h
    next c =>
      rw [if_pos c] at k5
      apply k5
      omega
    next => exact h rfl
theorem rUp_uu {M : Int → Int} {s t v w : Int} : rUp (rUp (rUp M t v) s 0) t w = rUp (rUp M s 0) t w := by
  funext i
  by_cases c1 : i = t
  · rw [c1, rUp_s, rUp_s]
  · rw [rUp_n c1, rUp_n c1]
    by_cases c2 : i = s
    · rw [c2, rUp_s, rUp_s]
    · rw [rUp_n c2, rUp_n c2, rUp_n c1]
theorem rVc_i {q : rQ} {m : Int} (hd : rGd q) (hl : rLm q m) : rVc q m ↔ rIsC q m := by
  have hf := rFr_r (m := m)
  have ht := rTo_r (m := m)
  have d0 := hd.1
  have d1 := hd.2.1
  constructor
  · rintro ⟨h1, h2, h3⟩
    obtain ⟨-, -, -, -, hg, -⟩ := hl
    rcases hg with ⟨hg, -⟩ | ⟨-, ⟨f, r, f1, f2, r1, r2, hg⟩ | ⟨-, hs, hc⟩⟩
    · omega
    · exfalso
      rcases hg with ⟨hg, -, e⟩ | ⟨hg, -⟩
      · have h4 : f * f + r * r ≤ 2 := by
          rcases hg with ⟨h, -⟩ | ⟨-, -, h⟩
          · omega
          · exact h
        have h5 := rSq2 f1 f2 r1 r2 h4
        unfold rSp at e
        split at e <;> omega
      · omega
    · refine ⟨h1, ?_⟩
      rcases hc with ⟨-, hc⟩ | ⟨-, hc⟩ <;> omega
  · intro hc
    obtain ⟨k1, k2, k3, k4, k5⟩ := rLm_ca ⟨d0, d1⟩ hl hc
    exact ⟨hc.1, by omega, by omega⟩
theorem rV3_eq {q : rQ} {m : Int} (hd : rGd q) (hl : rLm q m) : rV3 q m = rM4 q m := by
  have d0 := hd.1
  have d1 := hd.2.1
  by_cases hc : rIsC q m
  · obtain ⟨k1, k2, k3, k4, k5⟩ := rLm_ca ⟨d0, d1⟩ hl hc
    have hv := (rVc_i hd hl).mpr hc
    have hn : ¬ rVd q m := fun h => by have h1 := h.1; have h2 := hc.1; omega
    have hw : rWh q m = rTo m := by
      unfold rWh
      rw [if_neg (fun h => by have := hc.1; omega)]
    have ec : rCv m = rCo (rFr m) (rTo m) := by
      unfold rCv rCo
      rcases k5 with k5 | k5
      · rw [if_pos (by omega), if_pos (by omega)]
      · rw [if_neg (by omega), if_neg (by omega)]
    have n1 : ¬ rCo (rFr m) (rTo m) = rTo m := by unfold rCo; split <;> omega
    have n2 : ¬ rCo (rFr m) (rTo m) = rFr m := by unfold rCo; split <;> omega
    have n3 : ¬ rCo (rFr m) (rTo m) = rOv (rFr m) (rTo m) := by unfold rCo rOv; split <;> omega
    have n4 : ¬ rOv (rFr m) (rTo m) = rTo m := by unfold rOv; omega
    have n5 : ¬ rOv (rFr m) (rTo m) = rFr m := by unfold rOv; omega
    have n6 : ¬ rFr m = rTo m := by omega
    rw [rM4_c hc]
    unfold rV3 rV2
    rw [rV1_y hv]
    unfold rV1d
    rw [rV0_n hn, ec]
    have e3 : ∀ i, ¬ i = rTo m → ¬ i = rFr m → rM3 q m i = q.1 i := fun i h1 h2 => by
      unfold rM3 rM2 rM1
      rw [rUp_n h1, rUp_n h2, hw, rUp_n h1]
    funext i
    unfold rM4c
    by_cases c1 : i = rTo m
    · rw [c1, rUp_s, rUp_n (fun h => n1 h.symm), rUp_n (fun h => n4 h.symm)]
      unfold rM3
      rw [rUp_s]
    · rw [rUp_n c1]
      by_cases c2 : i = rFr m
      · rw [c2, rUp_s, rUp_n (fun h => n2 h.symm), rUp_n (fun h => n5 h.symm)]
        unfold rM3 rM2
        rw [rUp_n n6, rUp_s]
      · rw [rUp_n c2]
        by_cases c3 : i = rCo (rFr m) (rTo m)
        · rw [c3, rUp_s, rUp_s]
        · rw [rUp_n c3, rUp_n c3]
          by_cases c4 : i = rOv (rFr m) (rTo m)
          · rw [c4, rUp_s, rUp_s, e3 _ n1 n2]
          · rw [rUp_n c4, rUp_n c4, e3 _ c1 c2]
  · have hv : ¬ rVc q m := fun h => hc ((rVc_i hd hl).mp h)
    rw [rM4_n hc]
    unfold rV3 rV2
    rw [rV1_n hv]
    unfold rM3 rM2 rM1
    by_cases h : rVd q m
    · rw [rV0_y h]
      have hw := (rVd_i hd hl).mp h
      have e : rWh q m = 8 * (rFr m / 8) + rTo m % 8 := by
        unfold rWh at hw ⊢
        split at hw
        next c => rw [if_pos c]
        next => exact absurd rfl hw
      rw [e]
    · rw [rV0_n h]
      have hw : rWh q m = rTo m := by
        by_cases c : rWh q m = rTo m
        · exact c
        · exact absurd ((rVd_i hd hl).mpr c) h
      rw [hw, rUp_uu]
theorem rVk_eq {q : rQ} {m : Int} (hd : rGd q) (hl : rLm q m) : rVk q m = rMk q m := by
  have e := rV3_eq hd hl
  have e2 : rVp q m = rNp q m := by
    unfold rVp rNp
    by_cases h : rPa q m
    · have h2 : rVt q m := by
        unfold rVt
        rw [e]
        exact h
      rw [if_pos h, if_pos h2]
    · have h2 : ¬ rVt q m := by
        unfold rVt
        rw [e]
        exact h
      rw [if_neg h, if_neg h2]
  unfold rVk rMk
  rw [e, e2]
def rLk (M N : Int → Int) (b : Int) : Prop := ∀ i, M i = N i ∨ (¬ M i = 0 ∧ ¬ N i = 0 ∧ ¬ M i / 8 = b ∧ ¬ N i / 8 = b)
theorem rLk_g {M N : Int → Int} {b f r : Int} (h : rLk M N b) : ∀ {k : Nat} {t m : Int}, rGn M f r k t = some m → ∃ m', rGn N f r k t = some m' ∧ (m' = m ∨ (¬ m = 0 ∧ ¬ m' = 0 ∧ ¬ m / 8 = b ∧ ¬ m' / 8 = b))
  | 0, _, _, e => by cases e
  | k + 1, t, m, e => by
    unfold rGn at e ⊢
    by_cases c : t < 0
    · rw [if_pos c] at e ⊢
      exact ⟨m, e, Or.inl rfl⟩
    · rw [if_neg c] at e ⊢
      by_cases c2 : M t = 0
      · have c3 : N t = 0 := by
          rcases h t with h1 | ⟨h1, -⟩
          · rw [← h1]; exact c2
          · exact absurd c2 h1
        rw [if_pos c2] at e
        rw [if_pos c3]
        exact rLk_g h e
      · have c3 : ¬ N t = 0 := by
          rcases h t with h1 | ⟨-, h1, -⟩
          · rw [← h1]; exact c2
          · exact h1
        rw [if_neg c2] at e
        rw [if_neg c3]
        have e := Option.some.inj e
        refine ⟨N t, rfl, ?_⟩
        rcases h t with h1 | ⟨h1, h2, h3, h4⟩
        · exact Or.inl (by rw [← e, h1])
        · rw [← e]
          exact Or.inr ⟨h1, h2, h3, h4⟩
theorem rLk_v {M N : Int → Int} {b i v : Int} (h : rLk M N b) (hv : v / 8 = b) (e : M i = v) : N i = v := by
  rcases h i with h1 | ⟨-, -, h3, -⟩
  · rw [← h1]; exact e
  · rw [e] at h3; exact absurd hv h3
theorem rLk_a {M N : Int → Int} {s b : Int} (h : rLk M N b) (ha : rAk M s b) : rAk N s b := by
  rcases ha with ⟨h1, h2⟩ | ⟨h1, h2⟩ | ⟨f, r, f1, f2, r1, r2, ha⟩
  · exact Or.inl ⟨h1, rLk_v h (by omega) h2⟩
  · exact Or.inr (Or.inl ⟨h1, rLk_v h (by omega) h2⟩)
  · refine Or.inr (Or.inr ⟨f, r, f1, f2, r1, r2, ?_⟩)
    rcases ha with ⟨h1, h2, h3⟩ | ⟨h1, h2, ⟨h3, h4⟩ | ⟨m, ⟨k, h3⟩, h4⟩⟩
    · exact Or.inl ⟨h1, h2, rLk_v h (by omega) h3⟩
    · exact Or.inr ⟨h1, h2, Or.inl ⟨h3, rLk_v h (by omega) h4⟩⟩
    · obtain ⟨m', e, h5⟩ := rLk_g h h3
      refine Or.inr ⟨h1, h2, Or.inr ⟨m', ⟨k, e⟩, ?_⟩⟩
      rcases h5 with h5 | ⟨-, -, h6, -⟩
      · rw [h5]; exact h4
      · omega
def rSaf (q : rQ) (m : Int) : Prop := ∀ j, 0 ≤ j → j ≤ 63 → rV3 q m j = 8 * q.2.1 + 6 → ∃ s, 0 ≤ s ∧ s ≤ 63 ∧ rV3 q m s = 8 * q.2.1 + 6 ∧ ¬ rAk (rV3 q m) s (1 - q.2.1)
theorem rSqb {f r : Int} (h : f * f + r * r ≤ 8) : -2 ≤ f ∧ f ≤ 2 ∧ -2 ≤ r ∧ r ≤ 2 := by
  have key : ∀ z w : Int, z * z + w * w ≤ 8 → -2 ≤ z ∧ z ≤ 2 := fun z w hz => by
    have hw := rSqn (x := w)
    by_cases c : 3 ≤ z
    · have := Int.mul_le_mul_of_nonneg_right c (show 0 ≤ z by omega)
      omega
    · by_cases c2 : z ≤ -3
      · have h2 : -z * -z = z * z := Int.neg_mul_neg z z
        have := Int.mul_le_mul_of_nonneg_right (show 3 ≤ -z by omega) (show 0 ≤ -z by omega)
        omega
      · omega
  have h1 := key f r h
  have h2 := key r f (by omega)
  omega
theorem rSp_of {s t f r : Int} (h0 : 0 ≤ s) (h1 : s ≤ 63) (h2 : 0 ≤ t) (h3 : t ≤ 63) (e1 : f = t % 8 - s % 8) (e2 : r = t / 8 - s / 8) : t = rSp s f r := by
  unfold rSp
  rw [if_pos (by omega)]
  omega
theorem rLg_of {q : rQ} {f t b m : Int} (hd : rGd q) (h0 : 0 ≤ f) (h1 : f ≤ 63) (h2 : 0 ≤ t) (h3 : t ≤ 63) (ho : rOwn q f) (hn : ¬ rOwn q t) (hg : rGO q f t) (hb : (rLs q f t ∧ 2 ≤ b ∧ b ≤ 5) ∨ (¬ rLs q f t ∧ b = 0)) (hs : rSaf q (f + 64 * t)) (hm : m = f + 64 * t + 4096 * b) : rLm q m ∧ rGd (rMk q m) := by
  obtain ⟨e1, e2, e3⟩ := rMv (m := m) h0 h1 h2 h3 hm
  obtain ⟨z1, z2, z3⟩ := rFr_m h0 h1 h2 h3
  have d0 := hd.1
  have d1 := hd.2.1
  have hl : rLm q m := by
    refine ⟨by omega, by omega, by rw [e1]; exact ho, by rw [e2]; exact hn, by rw [e1, e2]; exact hg, ?_⟩
    rw [e1, e2, e3]
    unfold rLs at hb
    omega
  refine ⟨hl, (rMk_gd hd hl).mpr (fun s hs2 ha => ?_)⟩
  have hV : rM4 q m = rV3 q m := (rV3_eq hd hl).symm
  rw [hV] at hs2 ha
  obtain ⟨o1, o2⟩ := ho
  -- the men with the pawn left as it is
  have hv0 : rV0 q (f + 64 * t) = rV0 q m := by
    funext i
    have : rVd q (f + 64 * t) ↔ rVd q m := by unfold rVd; rw [z1, z2, e1, e2]
    unfold rV0
    by_cases c : rVd q m
    · rw [if_pos c, if_pos (this.mpr c), z1, z2, e1, e2]
    · rw [if_neg c, if_neg (fun h => c (this.mp h))]
  have hv1 : rV1 q (f + 64 * t) = rV1 q m := by
    have hc : rVc q (f + 64 * t) ↔ rVc q m := by unfold rVc; rw [z1, z2, e1, e2]
    have hcv : rCv (f + 64 * t) = rCv m := by unfold rCv; rw [z1, z2, e1, e2]
    by_cases c : rVc q m
    · rw [rV1_y c, rV1_y (hc.mpr c)]
      unfold rV1d
      rw [hv0, hcv, z1, z2, e1, e2]
    · rw [rV1_n c, rV1_n (fun h => c (hc.mp h)), hv0]
  have hat : ∀ i, ¬ i = t → rV3 q (f + 64 * t) i = rV3 q m i := fun i hi => by
    unfold rV3 rV2
    rw [hv1, z1, z2, e1, e2, rUp_n hi, rUp_n hi]
  have ht0 : rV3 q (f + 64 * t) t = q.1 f := by
    unfold rV3
    rw [z2, rUp_s, z1, z3, if_neg (by omega)]
  have htm : rV3 q m t = if 0 < b then b + 8 * q.2.1 else q.1 f := by
    unfold rV3
    rw [e2, rUp_s, e3, e1]
  have hval : (1 ≤ q.1 f ∧ q.1 f ≤ 6) ∨ (9 ≤ q.1 f ∧ q.1 f ≤ 14) := by
    rcases hd.2.2.1 f with h | ⟨-, -, h⟩
    · exact absurd h o1
    · exact h
  have hlk : rLk (rV3 q m) (rV3 q (f + 64 * t)) (1 - q.2.1) := fun i => by
    by_cases ci : i = t
    · rw [ci, ht0, htm]
      split
      next c => exact Or.inr ⟨by omega, o1, by omega, by omega⟩
      next => exact Or.inl rfl
    · exact Or.inl (hat i ci).symm
  have hr : 0 ≤ s ∧ s ≤ 63 := by
    rcases rVal_4 hd hl s with h | ⟨h4, h5, -⟩
    · rw [hV, hs2] at h; omega
    · exact ⟨h4, h5⟩
  have hss : rV3 q (f + 64 * t) s = 8 * q.2.1 + 6 := by
    by_cases ci : s = t
    · rw [ci] at hs2 ⊢
      rw [htm] at hs2
      rw [ht0]
      split at hs2
      next c =>
        unfold rLs at hb
        omega
      next => exact hs2
    · rw [hat s ci]; exact hs2
  obtain ⟨s', k1, k2, k3, k4⟩ := hs s hr.1 hr.2 hss
  have hs' : rV3 q m s' = 8 * q.2.1 + 6 := by
    by_cases ci : s' = t
    · rw [ci] at k3 ⊢
      rw [ht0] at k3
      rw [htm]
      split
      next c =>
        unfold rLs at hb
        omega
      next => exact k3
    · rw [← hat s' ci]; exact k3
  obtain ⟨s0, -, -, -, hu⟩ := rKs_4 hd hl q.2.1 d0 d1
  rw [hV] at hu
  obtain rfl : s = s' := (hu s hs2).trans (hu s' hs').symm
  exact k4 (rLk_a hlk ha)
noncomputable def fMid (s : Nat) : Nat := (if s % 8 < 4 then s % 8 else 7 - s % 8) + (if s / 8 < 4 then s / 8 else 7 - s / 8)
noncomputable def fWo (m s : Nat) : Nat := if m % 8 = 1 then 94 + 6 * (if m < 8 then s / 8 else 7 - s / 8) else if m % 8 = 2 then 320 + 4 * fMid s else if m % 8 = 3 then 330 + 3 * fMid s else if m % 8 = 4 then 500 else if m % 8 = 5 then 900 + fMid s else 0
noncomputable def fWa (j : Nat) : Int32 := nI (fWo (j / 64) (j % 64))
noncomputable def fHp (s i : Nat) : Int := (((List.range 64).filter (fun t => decide (((t % 8 : Nat) : Int) - ((s % 8 : Nat) : Int) = 1 ∨ ((t % 8 : Nat) : Int) - ((s % 8 : Nat) : Int) = -1) && decide (((t / 8 : Nat) : Int) - ((s / 8 : Nat) : Int) = 2 ∨ ((t / 8 : Nat) : Int) - ((s / 8 : Nat) : Int) = -2) || decide (((t % 8 : Nat) : Int) - ((s % 8 : Nat) : Int) = 2 ∨ ((t % 8 : Nat) : Int) - ((s % 8 : Nat) : Int) = -2) && decide (((t / 8 : Nat) : Int) - ((s / 8 : Nat) : Int) = 1 ∨ ((t / 8 : Nat) : Int) - ((s / 8 : Nat) : Int) = -1))).map Int.ofNat).getD i (-1)
noncomputable def fRc (s i : Int) : Int := if i = 0 then 7 - s / 8 else if i = 1 then s / 8 else if i = 2 then 7 - s % 8 else if i = 3 then s % 8 else if i = 4 then min (7 - s / 8) (7 - s % 8) else if i = 5 then min (7 - s / 8) (s % 8) else if i = 6 then min (s / 8) (7 - s % 8) else min (s / 8) (s % 8)
noncomputable def fSt (i : Int) : Int := if i = 0 then 8 else if i = 1 then -8 else if i = 2 then 1 else if i = 3 then -1 else if i = 4 then 9 else if i = 5 then 7 else if i = 6 then -7 else -9
noncomputable def fMf (m : Int32) : Nat := (m >>> (9 &&& 31)).toNatClampNeg
noncomputable def fMt (m : Int32) : Nat := (m >>> (3 &&& 31) &&& 63).toNatClampNeg
noncomputable def fMb (m : Int32) : Nat := (m &&& 7).toNatClampNeg
noncomputable def fPp (F : Nat → Int32) : Int := if (F 2).toInt = 0 then (F 4).toInt - 8 else (F 4).toInt + 8
noncomputable def fGood (men F : Nat → Int32) : Prop := ((F 4).toInt = -1 ∨ ((0 ≤ (F 4).toInt ∧ (men (F 4).toInt.toNat).toInt = 0 ∧ (men (fPp F).toNat).toInt = 8 * (1 - (F 2).toInt) + 1 ∧ ((F 2).toInt = 0 → 40 ≤ (F 4).toInt ∧ (F 4).toInt ≤ 47) ∧ ((F 2).toInt = 1 → 16 ≤ (F 4).toInt ∧ (F 4).toInt ≤ 23)))) ∧ (∀ s : Nat, s < 2 → ((F 3).toInt / (4 ^ s : Nat) % 2 = 1 → (men (56 * s + 4)).toInt = 8 * s + 6 ∧ (men (56 * s + 7)).toInt = 8 * s + 4) ∧ ((F 3).toInt / (2 * 4 ^ s : Nat) % 2 = 1 → (men (56 * s + 4)).toInt = 8 * s + 6 ∧ (men (56 * s)).toInt = 8 * s + 4) ∧ F (12 + s) = bSn fWa s men 64) ∧ (0 ≤ (F 2).toInt ∧ (F 2).toInt ≤ 1) ∧ (0 ≤ (F 3).toInt ∧ (F 3).toInt ≤ 15) ∧ ∀ i, i < 64 → 0 ≤ (men i).toInt ∧ (men i).toInt ≤ 14 ∧ ¬ (men i).toInt = 7 ∧ ¬ (men i).toInt = 8 ∧ ((¬ (men i).toInt = 1 ∧ ¬ (men i).toInt = 9) ∨ (8 ≤ i ∧ i ≤ 55))
noncomputable def fEm (M : Nat → Int32) (s i k : Int) : Prop := ∀ q : Int, 1 ≤ q → q < k → (M (s + q * fSt i).toNat).toInt = 0
noncomputable def fHit (m b i k : Int) : Prop := m / 8 = b ∧ (m % 8 = 5 ∨ (i < 4 ∧ m % 8 = 4) ∨ (4 ≤ i ∧ m % 8 = 3) ∨ (k = 1 ∧ (m % 8 = 6 ∨ (m % 8 = 1 ∧ 4 ≤ i ∧ ((b = 0 ∧ fSt i < 0) ∨ (b = 1 ∧ 0 < fSt i))))))
noncomputable def fRy (M : Nat → Int32) (s b i : Int) : Prop := ∃ k : Int, 1 ≤ k ∧ k ≤ fRc s i ∧ fEm M s i k ∧ ¬ (M (s + k * fSt i).toNat).toInt = 0 ∧ fHit (M (s + k * fSt i).toNat).toInt b i k
noncomputable def fHo (M : Nat → Int32) (s b : Int) : Prop := ∃ j : Nat, j < 8 ∧ 0 ≤ fHp s.toNat j ∧ (M (fHp s.toNat j).toNat).toInt = 8 * b + 2
noncomputable def fAk (M : Nat → Int32) (s b : Int) : Prop := fHo M s b ∨ ∃ i : Int, 0 ≤ i ∧ i < 8 ∧ fRy M s b i
noncomputable def fEn (M F : Nat → Int32) (t : Int) : Prop := (M t.toNat).toInt = 0 ∨ ¬ (M t.toNat).toInt / 8 = (F 2).toInt
noncomputable def fOn (M F : Nat → Int32) (t : Int) : Prop := ¬ (M t.toNat).toInt = 0 ∧ (M t.toNat).toInt / 8 = (F 2).toInt
noncomputable def fSl (M F : Nat → Int32) (f kd i k : Int) : Prop := 0 ≤ i ∧ i < 8 ∧ (kd = 3 → 4 ≤ i) ∧ (kd = 4 → i < 4) ∧ 1 ≤ k ∧ k ≤ fRc f i ∧ fEm M f i k ∧ fEn M F (f + k * fSt i)
noncomputable def fSx (M F : Nat → Int32) (f kd : Int) (P : Int → Int → Prop) (x : Int32) : Prop := ∃ i k : Int, fSl M F f kd i k ∧ P i k ∧ x.toInt = 512 * f + 8 * (f + k * fSt i)
noncomputable def fHx (M F : Nat → Int32) (f : Int) (P : Int → Prop) (x : Int32) : Prop := ∃ j : Nat, j < 8 ∧ 0 ≤ fHp f.toNat j ∧ fEn M F (fHp f.toNat j) ∧ P (8 * f + j) ∧ x.toInt = 512 * f + 8 * fHp f.toNat j
noncomputable def fCs (M F : Nat → Int32) (f ck : Int) : Prop := ck = 0 ∧ f = 4 + 56 * (F 2).toInt ∧ (F 3).toInt / ((4 ^ (F 2).toInt.toNat : Nat) : Int) % 2 = 1 ∧ (M (f + 1).toNat).toInt = 0 ∧ (M (f + 2).toNat).toInt = 0
noncomputable def fCl (M F : Nat → Int32) (f ck : Int) : Prop := ck = 0 ∧ f = 4 + 56 * (F 2).toInt ∧ (F 3).toInt / ((2 * 4 ^ (F 2).toInt.toNat : Nat) : Int) % 2 = 1 ∧ (M (f - 1).toNat).toInt = 0 ∧ (M (f - 2).toNat).toInt = 0 ∧ (M (f - 3).toNat).toInt = 0
noncomputable def fKx (M F : Nat → Int32) (f ck : Int) (P : Int → Prop) (c1 c2 : Prop) (x : Int32) : Prop := (∃ i : Int, 0 ≤ i ∧ i < 8 ∧ 0 < fRc f i ∧ fEn M F (f + fSt i) ∧ P i ∧ x.toInt = 512 * f + 8 * (f + fSt i)) ∨ (c1 ∧ fCs M F f ck ∧ x.toInt = 512 * f + 8 * (f + 2)) ∨ (c2 ∧ fCl M F f ck ∧ x.toInt = 512 * f + 8 * (f - 2))
noncomputable def fOne (F : Nat → Int32) (f : Int) : Int := f + 8 - 16 * (F 2).toInt
noncomputable def fLa (F : Nat → Int32) (f : Int) : Prop := fOne F f < 8 ∨ 55 < fOne F f
noncomputable def fPg (M F : Nat → Int32) (f t : Int) : Prop := (t = fOne F f → (M t.toNat).toInt = 0) ∧ (¬ t = fOne F f → 0 ≤ t ∧ t < 64 ∧ t / 8 = fOne F f / 8 ∧ ((M t.toNat).toInt = 0 → t = (F 4).toInt) ∧ (¬ (M t.toNat).toInt = 0 → ¬ (M t.toNat).toInt / 8 = (F 2).toInt))
noncomputable def fPx (M F : Nat → Int32) (f : Int) (P : Int → Int → Prop) (c : Prop) (x : Int32) : Prop := (0 ≤ fOne F f ∧ fOne F f ≤ 63) ∧ ((∃ t b : Int, fOne F f - 1 ≤ t ∧ t ≤ fOne F f + 1 ∧ fPg M F f t ∧ (fLa F f → 2 ≤ b ∧ b ≤ 5) ∧ (¬ fLa F f → b = 0) ∧ P t b ∧ x.toInt = 512 * f + 8 * t + b) ∨ (c ∧ f / 8 = 1 + 5 * (F 2).toInt ∧ (M (fOne F f).toNat).toInt = 0 ∧ (M (fOne F f + 8 - 16 * (F 2).toInt).toNat).toInt = 0 ∧ x.toInt = 512 * f + 8 * (fOne F f + 8 - 16 * (F 2).toInt)))
noncomputable def fGn (M F : Nat → Int32) (ck f : Int) (x : Int32) : Prop := ((M f.toNat).toInt % 8 = 1 ∧ fPx M F f (fun _ _ => True) True x) ∨ ((M f.toNat).toInt % 8 = 2 ∧ fHx M F f (fun _ => True) x) ∨ ((M f.toNat).toInt % 8 = 6 ∧ fKx M F f ck (fun _ => True) True True x) ∨ (3 ≤ (M f.toNat).toInt % 8 ∧ (M f.toNat).toInt % 8 ≤ 5 ∧ fSx M F f ((M f.toNat).toInt % 8) (fun _ _ => True) x)
noncomputable def fFr (h f ck : Int) : Prop := ck = 0 ∧ ¬ f % 8 = h % 8 ∧ ¬ f / 8 = h / 8 ∧ ¬ f % 8 - h % 8 = f / 8 - h / 8 ∧ ¬ f % 8 - h % 8 = - (f / 8 - h / 8)
noncomputable def fOv (M : Nat → Int32) (f w t m : Int32) : Nat → Int32 := upd (upd (upd M f.toNatClampNeg 0) w.toNatClampNeg 0) t.toNatClampNeg m
noncomputable def fSf (M F : Nat → Int32) (h ck f : Int) (x : Int32) : Prop := (fFr h f ck ∧ bWh M F f.toNat (fMt x) = nI (fMt x)) ∨ (¬ fAk (fOv M (nI f.toNat) (bWh M F f.toNat (fMt x)) (nI (fMt x)) (M f.toNat)) (if (M f.toNat).toInt % 8 = 6 then (fMt x : Int) else h) (1 - (F 2).toInt) ∧ ((M f.toNat).toInt % 8 = 6 → ((fMt x : Int) - f = 2 ∨ f - (fMt x : Int) = 2) → ¬ fAk (fOv M (nI f.toNat) (bWh M F f.toNat (fMt x)) (nI (fMt x)) (M f.toNat)) ((f + (fMt x : Int)) / 2) (1 - (F 2).toInt)))
noncomputable def fCk (M F : Nat → Int32) (h ck : Int) : Prop := (ck = 0 ∨ ck = 1) ∧ (ck = 1 ↔ fAk M h (1 - (F 2).toInt))
theorem fPp8 {F : Nat → Int32} (h : 0 ≤ (F 4).toInt ∧ (F 4).toInt ≤ 63) (h2 : 0 ≤ (F 2).toInt ∧ (F 2).toInt ≤ 1) : (bPP F).toInt = fPp F := by
  have k8 : (8 : Int32).toInt = 8 := by decide
  unfold bPP fPp
  by_cases e : (F 2).toInt = 0
  · have e2 : F 2 = 0 := Int32.toInt_inj.mp (by rw [e]; decide)
    rw [if_pos e2, if_pos e, Int32.toInt_sub, k8]
    exact Int.bmod_eq_of_le (by omega) (by omega)
  · have e2 : ¬ F 2 = 0 := fun q => e (by rw [q]; decide)
    rw [if_neg e2, if_neg e, Int32.toInt_add, k8]
    exact Int.bmod_eq_of_le (by omega) (by omega)
end
section
/-! bits, shifts, quotients as whole numbers -/
theorem z_n {x : Int} (h : 0 ≤ x ∧ x ≤ 2147483647) : (lI x).toBitVec.toNat = x.toNat := by
  have e := lI_t (x := x) (by unfold lRg; omega)
  have := (aNat (x := lI x) (by omega)).1
  omega
theorem z_t {y : Int32} {k : Nat} (h : y.toBitVec.toNat = k) (hk : (k : Int) ≤ 2147483647) : y.toInt = (k : Int) := aNat' h (by omega)
theorem z_an {x c : Int} {k : Nat} (hc : (lI c).toBitVec.toNat = 2 ^ k - 1) (h : 0 ≤ x ∧ x ≤ 2147483647) : (lI x &&& lI c).toInt = ((x.toNat % 2 ^ k : Nat) : Int) := by
  have h2 : x.toNat % 2 ^ k ≤ x.toNat := Nat.mod_le _ _
  refine z_t ?_ (by omega)
  rw [Int32.toBitVec_and, BitVec.toNat_and, hc, z_n h, Nat.and_two_pow_sub_one_eq_mod]
theorem z_sr {x y : Int} (h : (-2147483648 ≤ x ∧ x ≤ 2147483647) ∧ 0 ≤ y ∧ y ≤ 31) : (lI x >>> (lI y &&& 31)).toInt = x / 2 ^ y.toNat := by
  obtain ⟨c, e1, e2⟩ := aShr_l (lI x) (lI y)
  obtain rfl := e2 y.toNat (by omega) (by rw [lI_t (by unfold lRg; omega)]; omega)
  rw [e1, lI_t (by unfold lRg; omega)]
theorem z_sl {x y : Int} (h : 0 ≤ x ∧ x * 2 ^ y.toNat ≤ 2147483647 ∧ 0 ≤ y ∧ y ≤ 31) : (lI x <<< (lI y &&& 31)).toInt = x * 2 ^ y.toNat := by
  have hp : (1 : Int) ≤ 2 ^ y.toNat := Int.pow_pos (by decide)
  have hx : x ≤ x * 2 ^ y.toNat := by
    have := Int.mul_le_mul_of_nonneg_left hp h.1
    rwa [Int.mul_one] at this
  have e := aShl_l (x := lI x) (y := lI y) (c := y.toNat) (by rw [lI_t (by unfold lRg; omega)]; omega) (by omega)
  rw [z_n (by omega)] at e
  have e2 : ((x.toNat * 2 ^ y.toNat : Nat) : Int) = x * 2 ^ y.toNat := by
    rw [Int.natCast_mul, Int.natCast_pow, Int.toNat_of_nonneg h.1]
    rfl
  rw [Nat.mod_eq_of_lt (by omega)] at e
  rw [z_t e (by omega), e2]
theorem z_dv {x y : Int} (hy : 0 < y ∧ y ≤ 2147483647) (h : 0 ≤ x ∧ x ≤ 2147483647) : (lI x / lI y).toInt = x / y := by
  have e1 := lI_t (x := x) (by unfold lRg; omega)
  have e2 := lI_t (x := y) (by unfold lRg; omega)
  rw [aDiv_l (by omega) (by omega), e1, e2]
theorem z_rm {x y : Int} (hy : 0 < y ∧ y ≤ 2147483647) (h : 0 ≤ x ∧ x ≤ 2147483647) : (lI x - lI x / lI y * lI y).toInt = x % y := by
  have e1 := lI_t (x := x) (by unfold lRg; omega)
  have e2 := lI_t (x := y) (by unfold lRg; omega)
  rw [aRem_l (by omega) (by omega), e1, e2]
theorem z_dv2 {x y : Int} (h : (0 ≤ x ∧ x ≤ 2147483647) ∧ 0 < y ∧ y ≤ 2147483647) : (lI x / lI y).toInt = x / y := z_dv h.2 h.1
theorem z_x1 {x : Int} (h : x = 0 ∨ x = 1) : (lI x ^^^ lI 1).toInt = 1 - x := by
  rcases h with rfl | rfl <;> rfl
theorem z_ib {x : Int} (h : -128 ≤ x ∧ x ≤ 127) : (lI x).toInt8.toInt32.toInt = x := by
  rw [Int8.toInt_toInt32, Int32.toInt_toInt8, lI_t (by unfold lRg; omega)]
  exact Int.bmod_eq_of_le (by omega) (by omega)
theorem z_ic {x : Int} (h : 0 ≤ x ∧ x ≤ 65535) : ((lI x).toUInt32 % 65536).toInt32.toInt = x := by
  have e : ((lI x).toUInt32 % 65536).toInt32.toBitVec.toNat = x.toNat := by
    show ((lI x).toUInt32 % 65536).toNat = x.toNat
    rw [UInt32.toNat_mod]
    show (lI x).toBitVec.toNat % 65536 = x.toNat
    rw [z_n (by omega)]
    omega
  rw [z_t e (by omega)]
  omega
theorem z_or {x y : Int} {k : Nat} (h : 0 ≤ x ∧ x ≤ 2147483647 ∧ x.toNat % 2 ^ k = 0 ∧ 0 ≤ y ∧ y ≤ 2147483647 ∧ y.toNat < 2 ^ k ∧ x + y ≤ 2147483647) : (lI x ||| lI y).toInt = x + y := by
  obtain ⟨a, ha⟩ : ∃ a, x.toNat = 2 ^ k * a := ⟨x.toNat / 2 ^ k, by have := Nat.div_add_mod x.toNat (2 ^ k); omega⟩
  have e : (lI x ||| lI y).toBitVec.toNat = x.toNat + y.toNat := by
    rw [Int32.toBitVec_or, BitVec.toNat_or, z_n (by omega), z_n (by omega), ha, ← Nat.two_pow_add_eq_or_of_lt h.2.2.2.2.2.1]
  rw [z_t e (by omega)]
  omega
theorem z_an1 {x : Int} (h : 0 ≤ x ∧ x ≤ 2147483647) : (lI x &&& lI 1).toInt = x % 2 := by
  rw [z_an (k := 1) rfl h]
  show ((x.toNat % 2 : Nat) : Int) = x % 2
  omega
theorem z_an3 {x : Int} (h : 0 ≤ x ∧ x ≤ 2147483647) : (lI x &&& lI 3).toInt = x % 4 := by
  rw [z_an (k := 2) rfl h]
  show ((x.toNat % 4 : Nat) : Int) = x % 4
  omega
theorem z_an7 {x : Int} (h : 0 ≤ x ∧ x ≤ 2147483647) : (lI x &&& lI 7).toInt = x % 8 := by
  rw [z_an (k := 3) rfl h]
  show ((x.toNat % 8 : Nat) : Int) = x % 8
  omega
theorem z_an15 {x : Int} (h : 0 ≤ x ∧ x ≤ 2147483647) : (lI x &&& lI 15).toInt = x % 16 := by
  rw [z_an (k := 4) rfl h]
  show ((x.toNat % 16 : Nat) : Int) = x % 16
  omega
theorem z_an63 {x : Int} (h : 0 ≤ x ∧ x ≤ 2147483647) : (lI x &&& lI 63).toInt = x % 64 := by
  rw [z_an (k := 6) rfl h]
  show ((x.toNat % 64 : Nat) : Int) = x % 64
  omega
theorem z_sr1 {x : Int} (h : -2147483648 ≤ x ∧ x ≤ 2147483647) : (lI x >>> (lI 1 &&& 31)).toInt = x / 2 := z_sr (y := 1) ⟨h, by decide, by decide⟩
theorem z_sl1 {x : Int} (h : 0 ≤ x ∧ x * 2 ≤ 2147483647) : (lI x <<< (lI 1 &&& 31)).toInt = x * 2 := z_sl (y := 1) ⟨h.1, h.2, by decide, by decide⟩
theorem z_sr2 {x : Int} (h : -2147483648 ≤ x ∧ x ≤ 2147483647) : (lI x >>> (lI 2 &&& 31)).toInt = x / 4 := z_sr (y := 2) ⟨h, by decide, by decide⟩
theorem z_sl2 {x : Int} (h : 0 ≤ x ∧ x * 4 ≤ 2147483647) : (lI x <<< (lI 2 &&& 31)).toInt = x * 4 := z_sl (y := 2) ⟨h.1, h.2, by decide, by decide⟩
theorem z_sr3 {x : Int} (h : -2147483648 ≤ x ∧ x ≤ 2147483647) : (lI x >>> (lI 3 &&& 31)).toInt = x / 8 := z_sr (y := 3) ⟨h, by decide, by decide⟩
theorem z_sl3 {x : Int} (h : 0 ≤ x ∧ x * 8 ≤ 2147483647) : (lI x <<< (lI 3 &&& 31)).toInt = x * 8 := z_sl (y := 3) ⟨h.1, h.2, by decide, by decide⟩
theorem z_sr4 {x : Int} (h : -2147483648 ≤ x ∧ x ≤ 2147483647) : (lI x >>> (lI 4 &&& 31)).toInt = x / 16 := z_sr (y := 4) ⟨h, by decide, by decide⟩
theorem z_sl4 {x : Int} (h : 0 ≤ x ∧ x * 16 ≤ 2147483647) : (lI x <<< (lI 4 &&& 31)).toInt = x * 16 := z_sl (y := 4) ⟨h.1, h.2, by decide, by decide⟩
theorem z_sr6 {x : Int} (h : -2147483648 ≤ x ∧ x ≤ 2147483647) : (lI x >>> (lI 6 &&& 31)).toInt = x / 64 := z_sr (y := 6) ⟨h, by decide, by decide⟩
theorem z_sl6 {x : Int} (h : 0 ≤ x ∧ x * 64 ≤ 2147483647) : (lI x <<< (lI 6 &&& 31)).toInt = x * 64 := z_sl (y := 6) ⟨h.1, h.2, by decide, by decide⟩
theorem z_sr7 {x : Int} (h : -2147483648 ≤ x ∧ x ≤ 2147483647) : (lI x >>> (lI 7 &&& 31)).toInt = x / 128 := z_sr (y := 7) ⟨h, by decide, by decide⟩
theorem z_sl8 {x : Int} (h : 0 ≤ x ∧ x * 256 ≤ 2147483647) : (lI x <<< (lI 8 &&& 31)).toInt = x * 256 := z_sl (y := 8) ⟨h.1, h.2, by decide, by decide⟩
theorem z_sr9 {x : Int} (h : -2147483648 ≤ x ∧ x ≤ 2147483647) : (lI x >>> (lI 9 &&& 31)).toInt = x / 512 := z_sr (y := 9) ⟨h, by decide, by decide⟩
theorem z_sl9 {x : Int} (h : 0 ≤ x ∧ x * 512 ≤ 2147483647) : (lI x <<< (lI 9 &&& 31)).toInt = x * 512 := z_sl (y := 9) ⟨h.1, h.2, by decide, by decide⟩
theorem z_sr12 {x : Int} (h : -2147483648 ≤ x ∧ x ≤ 2147483647) : (lI x >>> (lI 12 &&& 31)).toInt = x / 4096 := z_sr (y := 12) ⟨h, by decide, by decide⟩
theorem z_or1 {x y : Int} (h : 0 ≤ x ∧ x ≤ 2147483647 ∧ x % 2 = 0 ∧ 0 ≤ y ∧ y < 2) : (lI x ||| lI y).toInt = x + y := z_or (k := 1) ⟨h.1, h.2.1, by show x.toNat % 2 = 0; omega, h.2.2.2.1, by omega, by show y.toNat < 2; omega, by omega⟩
theorem z_or2 {x y : Int} (h : 0 ≤ x ∧ x ≤ 2147483647 ∧ x % 4 = 0 ∧ 0 ≤ y ∧ y < 4) : (lI x ||| lI y).toInt = x + y := z_or (k := 2) ⟨h.1, h.2.1, by show x.toNat % 4 = 0; omega, h.2.2.2.1, by omega, by show y.toNat < 4; omega, by omega⟩
theorem z_or3 {x y : Int} (h : 0 ≤ x ∧ x ≤ 2147483647 ∧ x % 8 = 0 ∧ 0 ≤ y ∧ y < 8) : (lI x ||| lI y).toInt = x + y := z_or (k := 3) ⟨h.1, h.2.1, by show x.toNat % 8 = 0; omega, h.2.2.2.1, by omega, by show y.toNat < 8; omega, by omega⟩
theorem z_or4 {x y : Int} (h : 0 ≤ x ∧ x ≤ 2147483647 ∧ x % 16 = 0 ∧ 0 ≤ y ∧ y < 16) : (lI x ||| lI y).toInt = x + y := z_or (k := 4) ⟨h.1, h.2.1, by show x.toNat % 16 = 0; omega, h.2.2.2.1, by omega, by show y.toNat < 16; omega, by omega⟩
theorem z_or6 {x y : Int} (h : 0 ≤ x ∧ x ≤ 2147483647 ∧ x % 64 = 0 ∧ 0 ≤ y ∧ y < 64) : (lI x ||| lI y).toInt = x + y := z_or (k := 6) ⟨h.1, h.2.1, by show x.toNat % 64 = 0; omega, h.2.2.2.1, by omega, by show y.toNat < 64; omega, by omega⟩
theorem z_or8 {x y : Int} (h : 0 ≤ x ∧ x ≤ 2147483647 ∧ x % 256 = 0 ∧ 0 ≤ y ∧ y < 256) : (lI x ||| lI y).toInt = x + y := z_or (k := 8) ⟨h.1, h.2.1, by show x.toNat % 256 = 0; omega, h.2.2.2.1, by omega, by show y.toNat < 256; omega, by omega⟩
theorem z_or9 {x y : Int} (h : 0 ≤ x ∧ x ≤ 2147483647 ∧ x % 512 = 0 ∧ 0 ≤ y ∧ y < 512) : (lI x ||| lI y).toInt = x + y := z_or (k := 9) ⟨h.1, h.2.1, by show x.toNat % 512 = 0; omega, h.2.2.2.1, by omega, by show y.toNat < 512; omega, by omega⟩
end
section
/-! what a piece of code leaves alone -/
noncomputable def zFr (Fs : List (Nat × Nat)) (Rs : List Nat) (W V : zW) : Prop := (∀ a i, ¬ (a, i) ∈ Fs → V.1 a i = W.1 a i) ∧ (∀ a, ¬ a ∈ Rs → V.2.1 a = W.2.1 a) ∧ V.2.2 = W.2.2
theorem zFr_0 {Fs : List (Nat × Nat)} {Rs : List Nat} {W : zW} : zFr Fs Rs W W := ⟨fun _ _ _ => rfl, fun _ _ => rfl, rfl⟩
theorem zFr_F {Fs : List (Nat × Nat)} {Rs : List Nat} {W V : zW} {a i : Nat} {v : Int} (h : zFr Fs Rs W V) (hm : (a, i) ∈ Fs) : zFr Fs Rs W (zuF V a i v) := by
  refine ⟨fun b j hb => ?_, h.2.1, h.2.2⟩
  rw [← h.1 b j hb]
  show va_up V.1 a (va_up (V.1 a) i v) b j = V.1 b j
  unfold va_up
  by_cases e : b = a
  · subst e
    rw [if_pos rfl]
    by_cases e2 : j = i
    · subst e2
      exact absurd hm hb
    · rw [if_neg e2]
  · rw [if_neg e]
theorem zFr_R {Fs : List (Nat × Nat)} {Rs : List Nat} {W V : zW} {a : Nat} {i v : Int} (h : zFr Fs Rs W V) (hm : a ∈ Rs) : zFr Fs Rs W (zuR V a i v) := by
  refine ⟨h.1, fun b hb => ?_, h.2.2⟩
  rw [← h.2.1 b hb]
  show va_up V.2.1 a (zuI (V.2.1 a) i v) b = V.2.1 b
  unfold va_up
  by_cases e : b = a
  · subst e
    exact absurd hm hb
  · rw [if_neg e]
theorem zFr_t {Fs : List (Nat × Nat)} {Rs : List Nat} {W V U : zW} (h : zFr Fs Rs W V) (h2 : zFr Fs Rs V U) : zFr Fs Rs W U := ⟨fun a i q => (h2.1 a i q).trans (h.1 a i q), fun a q => (h2.2.1 a q).trans (h.2.1 a q), h2.2.2.trans h.2.2⟩
theorem zFr_w {Fs Gs : List (Nat × Nat)} {Rs Ss : List Nat} {W V : zW} (h : zFr Fs Rs W V) (h1 : ∀ x ∈ Fs, x ∈ Gs) (h2 : ∀ x ∈ Rs, x ∈ Ss) : zFr Gs Ss W V := ⟨fun a i q => h.1 a i (fun z => q (h1 _ z)), fun a q => h.2.1 a (fun z => q (h2 _ z)), h.2.2⟩
theorem zFr_f {Fs : List (Nat × Nat)} {Rs : List Nat} {W V : zW} (h : zFr Fs Rs W V) (a i : Nat) (q : ((a, i) ∈ Fs : Bool) = false := by decide) : V.1 a i = W.1 a i := h.1 a i (of_decide_eq_false q)
theorem zFr_r {Fs : List (Nat × Nat)} {Rs : List Nat} {W V : zW} (h : zFr Fs Rs W V) (a : Nat) (q : (a ∈ Rs : Bool) = false := by decide) : V.2.1 a = W.2.1 a := h.2.1 a (of_decide_eq_false q)
/-! men of a row -/
noncomputable def zMo (g : Int → Int) : Int → Int := fun i => if 0 ≤ i ∧ i ≤ 63 then g i else 0
theorem zMo_i {g : Int → Int} {i : Int} (h : 0 ≤ i ∧ i ≤ 63) : zMo g i = g i := by unfold zMo; rw [if_pos h]
theorem zMo_u {g : Int → Int} {s v : Int} (h : 0 ≤ s ∧ s ≤ 63) : zMo (zuI g s v) = rUp (zMo g) s v := by
  funext i
  show (if 0 ≤ i ∧ i ≤ 63 then (if i = s then v else g i) else 0) = if i = s then v else (if 0 ≤ i ∧ i ≤ 63 then g i else 0)
  by_cases c : 0 ≤ i ∧ i ≤ 63
  · rw [if_pos c, if_pos c]
  · rw [if_neg c, if_neg c, if_neg (by omega)]
theorem zMo_e {g g' : Int → Int} (h : ∀ i, 0 ≤ i → i ≤ 63 → g i = g' i) : zMo g = zMo g' := by
  funext i
  unfold zMo
  by_cases c : 0 ≤ i ∧ i ≤ 63
  · rw [if_pos c, if_pos c]; exact h i c.1 c.2
  · rw [if_neg c, if_neg c]
theorem z_na {R g : Int} : (lI R &&& lI ((lI g ^^^ lI (-1)).toInt)).toInt = rAn R g := by
  rw [← lI_e rfl]
  rfl
theorem zuI_s {g : Int → Int} {i v : Int} : zuI g i v i = v := by unfold zuI; rw [if_pos rfl]
theorem zuI_n {g : Int → Int} {i j v : Int} (h : ¬ j = i) : zuI g i v j = g j := by unfold zuI; rw [if_neg h]
end
section
/-! the reference, Texts: squares, attack -/
/-- the men of Texts -/
noncomputable def zMn (W : zW) : Int → Int := zMo (W.2.1 110)
theorem zMn_i {W : zW} {i : Int} (h : 0 ≤ i ∧ i ≤ 63) : zMn W i = W.2.1 110 i := zMo_i h
noncomputable def ak_ZMTkind : List jI := [(.iload_n 0, 1, (0, 0, 0, 0, 0)), (.bipush 7, 2, (0, 0, 0, 7, 0)), (.iand, 1, (0, 0, 0, 0, 0)), (.ireturn, 1, (0, 0, 0, 0, 0))]
theorem ao_ZMTkind : jokLG jtF lk_MT "ChessHouseModel$Texts" jcl jtb 1 prog_18_method_3_code 0 ak_ZMTkind = true := by decide +kernel
noncomputable def zm_MTkind : zM := (some .int, { frames := 0, cells := 0, slots := 0, locals := 0 }, ([], []), [], ak_ZMTkind)
noncomputable def zc_MTkind (vals : List zv) (W : zW) (post : zPo) : Prop := ∃ x : Int, vals = [.inl (x)] ∧ (0 ≤ x ∧ x ≤ 2147483647) ∧ ∀ r : Int, (r = x % 8) → post (some (.inl r)) W
set_option maxRecDepth 8000 in
theorem zp_MTkind_0 {n K : Nat} {W : zW} {post : zPo} {x : Int} (hK : 4 ≤ K) (hn : 142 ≤ n) (h : (0 ≤ x ∧ x ≤ 2147483647) ∧ ∀ t0 : Int, t0 = x % 8 → post (some (.inl (t0))) W) : zwp jtb zsh n zm_MTkind post K (lGo ak_ZMTkind 0) 0 [some (.inl (x))] [] W := by
  obtain ⟨kk__, rfl⟩ : ∃ kk__, K = kk__ + 4 := ⟨K - 4, by omega⟩
  exact (show 1 = 1 ∧ True ∧ post (some (.inl (((lI x &&& lI 7).toInt)))) W from ⟨rfl, trivial, ((h).2 _ (z_an7 (h).1))⟩)
theorem zk_MTkind {l : Launch} {E : jE} {n : Nat} (hn : 142 ≤ n) : zHas l E jcl jtb lw_tbl zsh n (y_MT_kind, true, 1, 0, { frames := 0, cells := 0, slots := 0, locals := 0 }, zc_MTkind) := by
  refine ⟨⟨rfl, rfl, ⟨m_MT_kind, s_MT_kind⟩⟩, ?_⟩
  rintro vz W po hO hW ⟨x, rfl, hq, hp⟩
  refine zmet (m := zm_MTkind) rfl (by decide) (fun _ _ => jtF_ok) lo_MT ao_ZMTkind jC (fun q h => by cases h) (fun q h => by cases h) (fun q h => by cases h) (Nat.le_of_ble_eq_true rfl) hO hW (60) ?_
  exact zp_MTkind_0 (by omega) hn ⟨(by omega), fun t0 e0 => (hp _ (by omega))⟩
noncomputable def ak_ZMTsideOf : List jI := [(.iload_n 0, 1, (0, 0, 0, 0, 0)), (.ifCond .ne 7, 3, (8, 0, 0, 0, 0)), (.iconst (-1), 1, (0, 0, 0, (-1), 0)), (.goto 6, 3, (11, 0, 0, 0, 0)), (.iload_n 0, 1, (0, 0, 0, 0, 0)), (.iconst 3, 1, (0, 0, 0, 3, 0)), (.ishr, 1, (0, 0, 0, 0, 0)), (.ireturn, 1, (0, 0, 0, 0, 0))]
theorem ao_ZMTsideOf : jokLG jtF lk_MT "ChessHouseModel$Texts" jcl jtb 1 prog_18_method_4_code 0 ak_ZMTsideOf = true := by decide +kernel
noncomputable def zm_MTsideOf : zM := (some .int, { frames := 0, cells := 0, slots := 0, locals := 0 }, ([], []), [], ak_ZMTsideOf)
noncomputable def zc_MTsideOf (vals : List zv) (W : zW) (post : zPo) : Prop := ∃ x : Int, vals = [.inl (x)] ∧ (0 ≤ x ∧ x ≤ 2147483647) ∧ ∀ r : Int, ((x = 0 ∧ r = -1) ∨ (¬ x = 0 ∧ r = x / 8)) → post (some (.inl r)) W
set_option maxRecDepth 8000 in
theorem zp_MTsideOf_0 {n K : Nat} {W : zW} {post : zPo} {x : Int} (hK : 6 ≤ K) (hn : 142 ≤ n) (h : (¬ x = 0 → (-2147483648 ≤ x ∧ x ≤ 2147483647) ∧ ∀ t0 : Int, t0 = x / 8 → post (some (.inl (t0))) W) ∧ (x = 0 → post (some (.inl (-1))) W)) : zwp jtb zsh n zm_MTsideOf post K (lGo ak_ZMTsideOf 0) 0 [some (.inl (x))] [] W := by
  obtain ⟨kk__, rfl⟩ : ∃ kk__, K = kk__ + 6 := ⟨K - 6, by omega⟩
  exact (show (¬ x = 0 → 1 = 1 ∧ True ∧ post (some (.inl (((lI x >>> (lI 3 &&& 31)).toInt)))) W) ∧ (x = 0 → 1 = 1 ∧ True ∧ post (some (.inl (-1))) W) from ⟨fun c1_1 => (have h := ((((h).1 c1_1)).2 _ (z_sr3 (((h).1 c1_1)).1)); ⟨rfl, trivial, h⟩), fun c1_1 => ⟨rfl, trivial, ((h).2 c1_1)⟩⟩)
theorem zk_MTsideOf {l : Launch} {E : jE} {n : Nat} (hn : 142 ≤ n) : zHas l E jcl jtb lw_tbl zsh n (y_MT_sideOf, true, 1, 0, { frames := 0, cells := 0, slots := 0, locals := 0 }, zc_MTsideOf) := by
  refine ⟨⟨rfl, rfl, ⟨m_MT_sideOf, s_MT_sideOf⟩⟩, ?_⟩
  rintro vz W po hO hW ⟨x, rfl, hq, hp⟩
  refine zmet (m := zm_MTsideOf) rfl (by decide) (fun _ _ => jtF_ok) lo_MT ao_ZMTsideOf jC (fun q h => by cases h) (fun q h => by cases h) (fun q h => by cases h) (Nat.le_of_ble_eq_true rfl) hO hW (60) ?_
  exact zp_MTsideOf_0 (by omega) hn ⟨fun c1 => ⟨(by omega), fun t0 e0 => (hp _ (by omega))⟩, fun c1 => (hp _ (by omega))⟩
noncomputable def ak_ZMTstep : List jI := [(.iload_n 0, 1, (0, 0, 0, 0, 0)), (.bipush 8, 2, (0, 0, 0, 8, 0)), (.irem, 1, (0, 0, 0, 0, 0)), (.iload_n 1, 1, (1, 0, 0, 0, 0)), (.iadd, 1, (0, 0, 0, 0, 0)), (.istore_n 3, 1, (3, 0, 0, 0, 0)), (.iload_n 0, 1, (0, 0, 0, 0, 0)), (.bipush 8, 2, (0, 0, 0, 8, 0)), (.idiv, 1, (0, 0, 0, 0, 0)), (.iload_n 2, 1, (2, 0, 0, 0, 0)), (.iadd, 1, (0, 0, 0, 0, 0)), (.istore 4, 2, (4, 0, 0, 0, 0)), (.iload_n 3, 1, (3, 0, 0, 0, 0)), (.ifCond .lt 31, 3, (47, 0, 0, 0, 0)), (.iload_n 3, 1, (3, 0, 0, 0, 0)), (.bipush 8, 2, (0, 0, 0, 8, 0)), (.if_icmp .ge 25, 3, (47, 0, 0, 0, 0)), (.iload 4, 2, (4, 0, 0, 0, 0)), (.ifCond .lt 20, 3, (47, 0, 0, 0, 0)), (.iload 4, 2, (4, 0, 0, 0, 0)), (.bipush 8, 2, (0, 0, 0, 8, 0)), (.if_icmp .ge 13, 3, (47, 0, 0, 0, 0)), (.bipush 8, 2, (0, 0, 0, 8, 0)), (.iload 4, 2, (4, 0, 0, 0, 0)), (.imul, 1, (0, 0, 0, 0, 0)), (.iload_n 3, 1, (3, 0, 0, 0, 0)), (.iadd, 1, (0, 0, 0, 0, 0)), (.goto 4, 3, (48, 0, 0, 0, 0)), (.iconst (-1), 1, (0, 0, 0, (-1), 0)), (.ireturn, 1, (0, 0, 0, 0, 0))]
theorem ao_ZMTstep : jokLG jtF lk_MT "ChessHouseModel$Texts" jcl jtb 5 prog_18_method_5_code 0 ak_ZMTstep = true := by decide +kernel
noncomputable def zm_MTstep : zM := (some .int, { frames := 0, cells := 0, slots := 0, locals := 0 }, ([], []), [], ak_ZMTstep)
noncomputable def zc_MTstep (vals : List zv) (W : zW) (post : zPo) : Prop := ∃ s f q : Int, vals = [.inl (s), .inl (f), .inl (q)] ∧ (0 ≤ s ∧ s ≤ 63 ∧ -2 ≤ f ∧ f ≤ 2 ∧ -2 ≤ q ∧ q ≤ 2) ∧ ∀ r : Int, (r = rSp s f q) → post (some (.inl r)) W
set_option maxRecDepth 8000 in
theorem zp_MTstep_0 {n K : Nat} {W : zW} {post : zPo} {s f q : Int} (hK : 29 ≤ K) (hn : 142 ≤ n) (h : (0 ≤ s ∧ s ≤ 2147483647) ∧ ∀ t0 : Int, t0 = s % 8 → (-2147483648 ≤ t0 + f ∧ t0 + f ≤ 2147483647) ∧ (0 ≤ s ∧ s ≤ 2147483647) ∧ ∀ t1 : Int, t1 = s / 8 → (-2147483648 ≤ t1 + q ∧ t1 + q ≤ 2147483647) ∧ ((t0 + f) < 0 → post (some (.inl (-1))) W) ∧ (¬ (t0 + f) < 0 → (8 ≤ (t0 + f) → post (some (.inl (-1))) W) ∧ (¬ 8 ≤ (t0 + f) → ((t1 + q) < 0 → post (some (.inl (-1))) W) ∧ (¬ (t1 + q) < 0 → (8 ≤ (t1 + q) → post (some (.inl (-1))) W) ∧ (¬ 8 ≤ (t1 + q) → (-2147483648 ≤ 8 * (t1 + q) ∧ 8 * (t1 + q) ≤ 2147483647) ∧ (-2147483648 ≤ (8 * (t1 + q)) + (t0 + f) ∧ (8 * (t1 + q)) + (t0 + f) ≤ 2147483647) ∧ post (some (.inl ((8 * (t1 + q)) + (t0 + f)))) W))))) : zwp jtb zsh n zm_MTstep post K (lGo ak_ZMTstep 0) 0 [some (.inl (s)), some (.inl (f)), some (.inl (q)), none, none] [] W := by
  obtain ⟨kk__, rfl⟩ : ∃ kk__, K = kk__ + 29 := ⟨K - 29, by omega⟩
  exact (show ¬ (8 : Int) = 0 ∧ (-2147483648 ≤ ((lI s - lI s / lI 8 * lI 8).toInt) + f ∧ ((lI s - lI s / lI 8 * lI 8).toInt) + f ≤ 2147483647) ∧ ¬ (8 : Int) = 0 ∧ (-2147483648 ≤ ((lI s / lI 8).toInt) + q ∧ ((lI s / lI 8).toInt) + q ≤ 2147483647) ∧ ((((lI s - lI s / lI 8 * lI 8).toInt) + f) < 0 → 1 = 1 ∧ True ∧ post (some (.inl (-1))) W) ∧ (¬ (((lI s - lI s / lI 8 * lI 8).toInt) + f) < 0 → (8 ≤ (((lI s - lI s / lI 8 * lI 8).toInt) + f) → 1 = 1 ∧ True ∧ post (some (.inl (-1))) W) ∧ (¬ 8 ≤ (((lI s - lI s / lI 8 * lI 8).toInt) + f) → ((((lI s / lI 8).toInt) + q) < 0 → 1 = 1 ∧ True ∧ post (some (.inl (-1))) W) ∧ (¬ (((lI s / lI 8).toInt) + q) < 0 → (8 ≤ (((lI s / lI 8).toInt) + q) → 1 = 1 ∧ True ∧ post (some (.inl (-1))) W) ∧ (¬ 8 ≤ (((lI s / lI 8).toInt) + q) → (-2147483648 ≤ 8 * (((lI s / lI 8).toInt) + q) ∧ 8 * (((lI s / lI 8).toInt) + q) ≤ 2147483647) ∧ (-2147483648 ≤ (8 * (((lI s / lI 8).toInt) + q)) + (((lI s - lI s / lI 8 * lI 8).toInt) + f) ∧ (8 * (((lI s / lI 8).toInt) + q)) + (((lI s - lI s / lI 8 * lI 8).toInt) + f) ≤ 2147483647) ∧ 1 = 1 ∧ True ∧ post (some (.inl ((8 * (((lI s / lI 8).toInt) + q)) + (((lI s - lI s / lI 8 * lI 8).toInt) + f)))) W)))) from ⟨(by decide), (have h := ((h).2 _ (z_rm (by decide) (h).1)); ⟨(h).1, ⟨(by decide), (have h := (((h).2).2 _ (z_dv (by decide) ((h).2).1)); ⟨(h).1, ⟨fun c16_13 => ⟨rfl, trivial, (((h).2).1 c16_13)⟩, fun c16_13 => ⟨fun c22_16 => (have h := (((((h).2).2 c16_13)).1 c22_16); ⟨rfl, trivial, h⟩), fun c22_16 => (have h := (((((h).2).2 c16_13)).2 c22_16); ⟨fun c27_18 => ⟨rfl, trivial, ((h).1 c27_18)⟩, fun c27_18 => ⟨fun c34_21 => (have h := ((((h).2 c27_18)).1 c34_21); ⟨rfl, trivial, h⟩), fun c34_21 => (have h := ((((h).2 c27_18)).2 c34_21); ⟨(h).1, ⟨((h).2).1, ⟨rfl, trivial, ((h).2).2⟩⟩⟩)⟩⟩)⟩⟩⟩)⟩⟩)⟩)
theorem zk_MTstep {l : Launch} {E : jE} {n : Nat} (hn : 142 ≤ n) : zHas l E jcl jtb lw_tbl zsh n (y_MT_step, true, 3, 0, { frames := 0, cells := 0, slots := 0, locals := 0 }, zc_MTstep) := by
  refine ⟨⟨rfl, rfl, ⟨m_MT_step, s_MT_step⟩⟩, ?_⟩
  rintro vz W po hO hW ⟨s, f, q, rfl, hq, hp⟩
  refine zmet (m := zm_MTstep) rfl (by decide) (fun _ _ => jtF_ok) lo_MT ao_ZMTstep jC (fun q h => by cases h) (fun q h => by cases h) (fun q h => by cases h) (Nat.le_of_ble_eq_true rfl) hO hW (100) ?_
  exact zp_MTstep_0 (by omega) hn ⟨(by omega), fun t0 e0 => ⟨(by omega), ⟨(by omega), fun t1 e1 => ⟨(by omega), ⟨fun c16 => (hp _ (by unfold rSp; split <;> omega)), fun c16 => ⟨fun c22 => (hp _ (by unfold rSp; split <;> omega)), fun c22 => ⟨fun c27 => (hp _ (by unfold rSp; split <;> omega)), fun c27 => ⟨fun c34 => (hp _ (by unfold rSp; split <;> omega)), fun c34 => ⟨(by omega), ⟨(by omega), (hp _ (by unfold rSp; split <;> omega))⟩⟩⟩⟩⟩⟩⟩⟩⟩⟩
noncomputable def ak_ZMTstands : List jI := [(.iload_n 1, 1, (1, 0, 0, 0, 0)), (.ifCond .lt 17, 3, (18, 0, 0, 0, 0)), (.aload_n 0, 1, (0, 0, 0, 0, 0)), (.getfield 71, 3, (12, 24, 2055, 0, 0)), (.iload_n 1, 1, (1, 0, 0, 0, 0)), (.iaload, 1, (0, 0, 0, 0, 0)), (.iload_n 2, 1, (2, 0, 0, 0, 0)), (.if_icmp .ne 7, 3, (18, 0, 0, 0, 0)), (.iconst 1, 1, (0, 0, 0, 1, 0)), (.goto 4, 3, (19, 0, 0, 0, 0)), (.iconst 0, 1, (0, 0, 0, 0, 0)), (.ireturn, 1, (0, 0, 0, 0, 0))]
theorem ao_ZMTstands : jokLG jtF lk_MT "ChessHouseModel$Texts" jcl jtb 3 prog_18_method_6_code 0 ak_ZMTstands = true := by decide +kernel
noncomputable def zm_MTstands : zM := (some .boolean, { frames := 0, cells := 0, slots := 0, locals := 0 }, ([], []), [], ak_ZMTstands)
noncomputable def zc_MTstands (vals : List zv) (W : zW) (post : zPo) : Prop := ∃ s v : Int, vals = [.inr (.inr (some (.inl 90))), .inl (s), .inl (v)] ∧ (-1 ≤ s ∧ s ≤ 63) ∧ ∀ r : Int, (xBl r (0 ≤ s ∧ zMn W s = v)) → post (some (.inl r)) W
set_option maxRecDepth 8000 in
theorem zp_MTstands_0 {n K : Nat} {W : zW} {post : zPo} {s v : Int} (hK : 11 ≤ K) (hn : 142 ≤ n) (h : (s < 0 → post (some (.inl (0))) W) ∧ (¬ s < 0 → (0 ≤ s ∧ s < 64) ∧ (¬ (W.2.1 110 s) = v → post (some (.inl (0))) W) ∧ ((W.2.1 110 s) = v → post (some (.inl (1))) W))) : zwp jtb zsh n zm_MTstands post K (lGo ak_ZMTstands 0) 0 [some (.inr (.inr (some (.inl 90)))), some (.inl (s)), some (.inl (v))] [] W := by
  obtain ⟨kk__, rfl⟩ : ∃ kk__, K = kk__ + 11 := ⟨K - 11, by omega⟩
  exact (show (s < 0 → 1 = 1 ∧ ((0 : Int) = 0 ∨ (0 : Int) = 1) ∧ post (some (.inl (0))) W) ∧ (¬ s < 0 → 90 < n ∧ 12 = 12 ∧ 110 < n ∧ FieldType.int = FieldType.int ∧ (0 ≤ s ∧ s < 64) ∧ (¬ (W.2.1 110 s) = v → 1 = 1 ∧ ((0 : Int) = 0 ∨ (0 : Int) = 1) ∧ post (some (.inl (0))) W) ∧ ((W.2.1 110 s) = v → 1 = 1 ∧ ((1 : Int) = 0 ∨ (1 : Int) = 1) ∧ post (some (.inl (1))) W)) from ⟨fun c1_1 => ⟨rfl, Or.inl rfl, ((h).1 c1_1)⟩, fun c1_1 => ⟨(Nat.lt_of_lt_of_le (by decide) hn), rfl, ⟨(Nat.lt_of_lt_of_le (by decide) hn), rfl, (((h).2 c1_1)).1, ⟨fun c11_7 => (have h := (((((h).2 c1_1)).2).1 c11_7); ⟨rfl, Or.inl rfl, h⟩), fun c11_7 => (have h := (((((h).2 c1_1)).2).2 c11_7); ⟨rfl, Or.inr rfl, h⟩)⟩⟩⟩⟩)
theorem zk_MTstands {l : Launch} {E : jE} {n : Nat} (hn : 142 ≤ n) : zHas l E jcl jtb lw_tbl zsh n (y_MT_stands, false, 3, 12, { frames := 0, cells := 0, slots := 0, locals := 0 }, zc_MTstands) := by
  refine ⟨⟨rfl, rfl, ⟨show 1 ≤ 3 by decide, m_MT_stands, i_MT_stands, e_MT_stands, fun _ => ⟨_, rfl, rfl⟩⟩⟩, ?_⟩
  rintro vz W po hO hW ⟨s, v, rfl, hq, hp⟩
  refine zmet (m := zm_MTstands) rfl (by decide) (fun _ _ => jtF_ok) lo_MT ao_ZMTstands jC (fun q h => by cases h) (fun q h => by cases h) (fun q h => by cases h) (Nat.le_of_ble_eq_true rfl) hO hW (100) ?_
  exact zp_MTstands_0 (by omega) hn ⟨fun c1 => (hp 0 (Or.inr ⟨rfl, fun z => by first | omega | (have z2 := z.2; rw [zMn_i (by omega)] at z2; omega)⟩)), fun c1 => ⟨(by omega), ⟨fun c11 => (hp 0 (Or.inr ⟨rfl, fun z => by first | omega | (have z2 := z.2; rw [zMn_i (by omega)] at z2; omega)⟩)), fun c11 => (hp 1 (Or.inl ⟨rfl, by omega, by rw [zMn_i (by omega)]; omega⟩))⟩⟩⟩
noncomputable def ak_ZMTmet : List jI := [(.iload_n 1, 1, (1, 0, 0, 0, 0)), (.iload_n 2, 1, (2, 0, 0, 0, 0)), (.iload_n 3, 1, (3, 0, 0, 0, 0)), (.invokestatic 104, 3, (0, 0, 1952, 0, 0)), (.istore 4, 2, (4, 0, 0, 0, 0)), (.iload 4, 2, (4, 0, 0, 0, 0)), (.ifCond .lt 25, 3, (35, 0, 0, 0, 0)), (.aload_n 0, 1, (0, 0, 0, 0, 0)), (.getfield 71, 3, (12, 24, 2055, 0, 0)), (.iload 4, 2, (4, 0, 0, 0, 0)), (.iaload, 1, (0, 0, 0, 0, 0)), (.ifCond .ne 15, 3, (35, 0, 0, 0, 0)), (.iload 4, 2, (4, 0, 0, 0, 0)), (.iload_n 2, 1, (2, 0, 0, 0, 0)), (.iload_n 3, 1, (3, 0, 0, 0, 0)), (.invokestatic 104, 3, (0, 0, 1952, 0, 0)), (.istore 4, 2, (4, 0, 0, 0, 0)), (.goto (-24), 3, (8, 0, 0, 0, 0)), (.iload 4, 2, (4, 0, 0, 0, 0)), (.ifCond .ge 7, 3, (44, 0, 0, 0, 0)), (.iconst 0, 1, (0, 0, 0, 0, 0)), (.goto 10, 3, (51, 0, 0, 0, 0)), (.aload_n 0, 1, (0, 0, 0, 0, 0)), (.getfield 71, 3, (12, 24, 2055, 0, 0)), (.iload 4, 2, (4, 0, 0, 0, 0)), (.iaload, 1, (0, 0, 0, 0, 0)), (.ireturn, 1, (0, 0, 0, 0, 0))]
theorem ao_ZMTmet : jokLG jtF lk_MT "ChessHouseModel$Texts" jcl jtb 5 prog_18_method_7_code 0 ak_ZMTmet = true := by decide +kernel
noncomputable def zm_MTmet : zM := (some .int, { frames := 1, cells := 0, slots := 0, locals := 24 }, ([(104, 1952, 0)], []), [(y_MT_step, true, 3, 0, { frames := 0, cells := 0, slots := 0, locals := 0 }, zc_MTstep)], ak_ZMTmet)
noncomputable def zc_MTmet (vals : List zv) (W : zW) (post : zPo) : Prop := ∃ s f q : Int, vals = [.inr (.inr (some (.inl 90))), .inl (s), .inl (f), .inl (q)] ∧ ((0 ≤ s ∧ s ≤ 63 ∧ -2 ≤ f ∧ f ≤ 2 ∧ -2 ≤ q ∧ q ≤ 2) ∧ ¬ (f = 0 ∧ q = 0)) ∧ ∀ r : Int, (rGf (zMn W) f q (rSp s f q) r) → post (some (.inl r)) W
set_option maxRecDepth 8000 in
theorem zp_MTmet_0 {n K : Nat} {W : zW} {post : zPo} {s f q : Int} (hK : 5 ≤ K) (hn : 142 ≤ n) (h : (0 ≤ s ∧ s ≤ 63 ∧ -2 ≤ f ∧ f ≤ 2 ∧ -2 ≤ q ∧ q ≤ 2) ∧ ∀ r3 : Int, (r3 = rSp s f q) → zwp jtb zsh n zm_MTmet post (K - 5) (lGo ak_ZMTmet 8) 8 [some (.inr (.inr (some (.inl 90)))), some (.inl (s)), some (.inl (f)), some (.inl (q)), some (.inl (r3))] [] W) : zwp jtb zsh n zm_MTmet post K (lGo ak_ZMTmet 0) 0 [some (.inr (.inr (some (.inl 90)))), some (.inl (s)), some (.inl (f)), some (.inl (q)), none] [] W := by
  obtain ⟨kk__, rfl⟩ : ∃ kk__, K = kk__ + 5 := ⟨K - 5, by omega⟩
  exact (show 3 = 3 ∧ true = true ∧ jin3 104 1952 0 zm_MTmet.2.2.1.1 = true ∧ lRm zm_MTmet.2.1 { frames := 0, cells := 0, slots := 0, locals := 0 } 5 = true ∧ Nat.ble 3 3 = true ∧ Nat.ble 0 8 = true ∧ zc_MTstep [.inl (s), .inl (f), .inl (q)] W (fun vv__ WW__ => zwp jtb zsh n zm_MTmet post (kk__ + 1) (lGo ak_ZMTmet 6) 6 [some (.inr (.inr (some (.inl 90)))), some (.inl (s)), some (.inl (f)), some (.inl (q)), none] (vv__.toList ++ []) WW__) from ⟨rfl, rfl, rfl, rfl, rfl, rfl, s, f, q, rfl, (h).1, fun r3 hr3 => (show zwp jtb zsh n zm_MTmet post (kk__ + 0) (lGo ak_ZMTmet 8) 8 [some (.inr (.inr (some (.inl 90)))), some (.inl (s)), some (.inl (f)), some (.inl (q)), some (.inl (r3))] [] W from ((h).2 r3 hr3))⟩)
set_option maxRecDepth 8000 in
theorem zp_MTmet_8 {n K : Nat} {W : zW} {post : zPo} {s f q u : Int} (hK : 14 ≤ K) (hn : 142 ≤ n) (h : (u < 0 → (0 ≤ u → (0 ≤ u ∧ u < 64) ∧ post (some (.inl (W.2.1 110 u))) W) ∧ (¬ 0 ≤ u → post (some (.inl (0))) W)) ∧ (¬ u < 0 → (0 ≤ u ∧ u < 64) ∧ (¬ (W.2.1 110 u) = 0 → (0 ≤ u → (0 ≤ u ∧ u < 64) ∧ post (some (.inl (W.2.1 110 u))) W) ∧ (¬ 0 ≤ u → post (some (.inl (0))) W)) ∧ ((W.2.1 110 u) = 0 → (0 ≤ u ∧ u ≤ 63 ∧ -2 ≤ f ∧ f ≤ 2 ∧ -2 ≤ q ∧ q ≤ 2) ∧ ∀ r27 : Int, (r27 = rSp u f q) → zwp jtb zsh n zm_MTmet post (K - 13) (lGo ak_ZMTmet 8) 8 [some (.inr (.inr (some (.inl 90)))), some (.inl (s)), some (.inl (f)), some (.inl (q)), some (.inl (r27))] [] W))) : zwp jtb zsh n zm_MTmet post K (lGo ak_ZMTmet 8) 8 [some (.inr (.inr (some (.inl 90)))), some (.inl (s)), some (.inl (f)), some (.inl (q)), some (.inl (u))] [] W := by
  obtain ⟨kk__, rfl⟩ : ∃ kk__, K = kk__ + 14 := ⟨K - 14, by omega⟩
  exact (show (u < 0 → (0 ≤ u → 90 < n ∧ 12 = 12 ∧ 110 < n ∧ FieldType.int = FieldType.int ∧ (0 ≤ u ∧ u < 64) ∧ 1 = 1 ∧ True ∧ post (some (.inl (W.2.1 110 u))) W) ∧ (¬ 0 ≤ u → 1 = 1 ∧ True ∧ post (some (.inl (0))) W)) ∧ (¬ u < 0 → 90 < n ∧ 12 = 12 ∧ 110 < n ∧ FieldType.int = FieldType.int ∧ (0 ≤ u ∧ u < 64) ∧ (¬ (W.2.1 110 u) = 0 → (0 ≤ u → 90 < n ∧ 12 = 12 ∧ 110 < n ∧ FieldType.int = FieldType.int ∧ (0 ≤ u ∧ u < 64) ∧ 1 = 1 ∧ True ∧ post (some (.inl (W.2.1 110 u))) W) ∧ (¬ 0 ≤ u → 1 = 1 ∧ True ∧ post (some (.inl (0))) W)) ∧ ((W.2.1 110 u) = 0 → 3 = 3 ∧ true = true ∧ jin3 104 1952 0 zm_MTmet.2.2.1.1 = true ∧ lRm zm_MTmet.2.1 { frames := 0, cells := 0, slots := 0, locals := 0 } 5 = true ∧ Nat.ble 3 3 = true ∧ Nat.ble 0 8 = true ∧ zc_MTstep [.inl (u), .inl (f), .inl (q)] W (fun vv__ WW__ => zwp jtb zsh n zm_MTmet post (kk__ + 3) (lGo ak_ZMTmet 30) 30 [some (.inr (.inr (some (.inl 90)))), some (.inl (s)), some (.inl (f)), some (.inl (q)), some (.inl (u))] (vv__.toList ++ []) WW__))) from ⟨fun c10_1 => ⟨fun c37_3 => (have h := ((((h).1 c10_1)).1 c37_3); ⟨(Nat.lt_of_lt_of_le (by decide) hn), rfl, ⟨(Nat.lt_of_lt_of_le (by decide) hn), rfl, (h).1, ⟨rfl, trivial, (h).2⟩⟩⟩), fun c37_3 => (have h := ((((h).1 c10_1)).2 c37_3); ⟨rfl, trivial, h⟩)⟩, fun c10_1 => ⟨(Nat.lt_of_lt_of_le (by decide) hn), rfl, ⟨(Nat.lt_of_lt_of_le (by decide) hn), rfl, (((h).2 c10_1)).1, ⟨fun c20_6 => (have h := (((((h).2 c10_1)).2).1 c20_6); ⟨fun c37_8 => ⟨(Nat.lt_of_lt_of_le (by decide) hn), rfl, ⟨(Nat.lt_of_lt_of_le (by decide) hn), rfl, (((h).1 c37_8)).1, ⟨rfl, trivial, (((h).1 c37_8)).2⟩⟩⟩, fun c37_8 => ⟨rfl, trivial, ((h).2 c37_8)⟩⟩), fun c20_6 => (have h := (((((h).2 c10_1)).2).2 c20_6); ⟨rfl, rfl, rfl, rfl, rfl, rfl, u, f, q, rfl, (h).1, fun r27 hr27 => (show zwp jtb zsh n zm_MTmet post (kk__ + 1) (lGo ak_ZMTmet 8) 8 [some (.inr (.inr (some (.inl 90)))), some (.inl (s)), some (.inl (f)), some (.inl (q)), some (.inl (r27))] [] W from ((h).2 r27 hr27))⟩)⟩⟩⟩⟩)
theorem zg_MTmet {n : Nat} {W : zW} {post : zPo} {s f q : Int} (hn : 142 ≤ n) (hf : -2 ≤ f ∧ f ≤ 2 ∧ -2 ≤ q ∧ q ≤ 2) (h0 : ¬ (f = 0 ∧ q = 0)) : ∀ (m K : Nat) (u : Int), 40 * m + 40 ≤ K → -1 ≤ u → u ≤ 63 → (0 ≤ u → (0 < f → 8 - u % 8 ≤ m) ∧ (f < 0 → u % 8 + 1 ≤ m) ∧ (f = 0 → 0 < q → 8 - u / 8 ≤ m) ∧ (f = 0 → q < 0 → u / 8 + 1 ≤ m)) → (∀ v, rGf (zMn W) f q u v → post (some (.inl v)) W) → zwp jtb zsh n zm_MTmet post K (lGo ak_ZMTmet 8) 8 [some (.inr (.inr (some (.inl 90)))), some (.inl s), some (.inl f), some (.inl q), some (.inl u)] [] W := by
  intro m
  induction m with
  | zero =>
    intro K u hK h1 h2 hm hp
    have hu : u < 0 := by omega
    exact zp_MTmet_8 (by omega) hn ⟨fun c10 => ⟨fun c37 => ⟨(by omega), absurd c37 (by omega)⟩, fun c37 => hp _ (rGf_o (by omega))⟩, fun c10 => absurd hu c10⟩
  | succ m ih =>
    intro K u hK h0' h1 hm hp
    exact zp_MTmet_8 (by omega) hn ⟨fun c10 => ⟨fun c37 => ⟨(by omega), (hp _ (by first | exact absurd c10 (by omega) | exact rGf_s (by omega) (zMn_i (by omega)) c20))⟩, fun c37 => (hp _ (rGf_o (by omega)))⟩, fun c10 => ⟨(by omega), ⟨fun c20 => ⟨fun c37 => ⟨(by omega), (hp _ (by first | exact absurd c10 (by omega) | exact rGf_s (by omega) (zMn_i (by omega)) c20))⟩, fun c37 => (hp _ (rGf_o (by omega)))⟩, fun c20 => ⟨(by omega), fun r27 hr27 => (ih _ _ (by omega) (by rw [hr27]; exact (rSp_r (by omega) h1).1) (by rw [hr27]; exact (rSp_r (by omega) h1).2) (by intro z; rw [hr27] at z ⊢; unfold rSp at z ⊢; split at z <;> omega) (fun v hv => hp v (rGf_n (by omega) (by rw [zMn_i (by omega)]; exact c20) (by rw [hr27] at hv; exact hv))))⟩⟩⟩⟩
theorem zk_MTmet {l : Launch} {E : jE} {n : Nat} (hn : 142 ≤ n) : zHas l E jcl jtb lw_tbl zsh n (y_MT_met, false, 4, 12, { frames := 1, cells := 0, slots := 0, locals := 24 }, zc_MTmet) := by
  refine ⟨⟨rfl, rfl, ⟨show 1 ≤ 4 by decide, m_MT_met, i_MT_met, e_MT_met, fun _ => ⟨_, rfl, rfl⟩⟩⟩, ?_⟩
  rintro vz W po hO hW ⟨s, f, q, rfl, hq, hp⟩
  refine zmet (m := zm_MTmet) rfl (by decide) (fun _ _ => jtF_ok) lo_MT ao_ZMTmet jC (fun q h => by cases h) (aAllc (fun G h => by obtain rfl := Option.some.inj h; exact ql_MT_104) (fun q h => by cases h)) (aAllc (zk_MTstep hn) (fun q h => by cases h)) (Nat.le_of_ble_eq_true rfl) hO hW (500) ?_
  exact zp_MTmet_0 (by omega) hn ⟨hq.1, fun r3 hr3 => (zg_MTmet hn ⟨by omega, by omega, by omega, by omega⟩ hq.2 10 _ _ (by omega) (by rw [hr3]; exact (rSp_r hq.1.1 hq.1.2.1).1) (by rw [hr3]; exact (rSp_r hq.1.1 hq.1.2.1).2) (by have := rSp_r (f := f) (r := q) hq.1.1 hq.1.2.1; omega) (by intro v hv; rw [hr3] at hv; exact hp v hv))⟩
end
