noncomputable def y_MT_readLine : jY := (⟨"ChessHouseModel$Texts", "readLine", "(III)I"⟩, prog_18_method_68_code, 8, (some .int))
theorem m_MT_readLine : jmth lw_tbl y_MT_readLine 3 := ⟨jTA_in (wi := 2646) (jtF_ok rfl) rfl, jTA_in (wi := 315) (jtF_ok rfl) rfl, by decide, by decide, by decide +kernel⟩
theorem i_MT_readLine : Jvm.Cond.instanceMethod y_MT_readLine.1 ∈ jTA lw_tbl := jTA_in (wi := 2645) (jtF_ok rfl) rfl
theorem e_MT_readLine : Jvm.Cond.selects y_MT_readLine.1.cls y_MT_readLine.1 y_MT_readLine.1 ∈ jTA lw_tbl := jTA_in (wi := 181) (jtF_ok rfl) rfl
/-! the reference: a line of a text -/
/-- a line of depth k is over -/
noncomputable def gEn (X : Int → Int) (N : Int) (k : Int) (s : gSt) : Prop := (k = 0 ∧ ∃ r, 0 ≤ r ∧ xRh X N s.1 r) ∨ (¬ k = 0 ∧ xLk X N s.1 = 41 ∧ ¬ s.2.2.2.2.1 = 0 ∧ ¬ s.2.2.2.2.1 = 1)
noncomputable def gLp (W : zW) (g u k : Int) (s : gSt) : Prop := gW W g s ∧ gI s ∧ s.2.2.2.1 = u ∧ (s.2.2.2.2.2.length : Int) = k ∧ s.2.2.2.2.1 = (if k = 0 then 0 else 1) ∧ zBn W (W.1 90 37) s.1 ∧ (k = 0 → ¬ gcR (xLk (W.2.1 91) (W.1 90 1) s.1))
noncomputable def gLq (W V : zW) (g k r : Int) (s : gSt) : Prop := zFr [(90, 25), (90, 26), (90, 27), (90, 28), (90, 29), (90, 33), (90, 36), (90, 37)] [93, 94, 95, 96, 97, 98, 99, 100, 101, 110, 111, 112, 113, 114, 115] W V ∧ zFo g W V ∧ ((r = 0 ∧ ∃ s2 : gSt, gP (W.2.1 91) (W.1 90 1) s s2 ∧ gW V g s2 ∧ V.1 90 37 = s2.1 ∧ s2.2.2.2.2.2 = s.2.2.2.2.2 ∧ gEn (W.2.1 91) (W.1 90 1) k s2) ∨ (0 < r ∧ r ≤ 1000000 ∧ gF (W.2.1 91) (W.1 90 1) s))
noncomputable def gBs (W V : zW) (g : Int) : Prop := zFr [(90, 25), (90, 26), (90, 27), (90, 28), (90, 29), (90, 33), (90, 36), (90, 37)] [93, 94, 95, 96, 97, 98, 99, 100, 101, 110, 111, 112, 113, 114, 115] W V ∧ zFo g W V
noncomputable def gSc (X : Int → Int) (N : Int) (s : gSt) : Prop := ((s.2.2.2.2.1 = 2 ∧ ¬ gcM (xLk X N s.1)) ∨ (s.2.2.2.2.1 = 3 ∧ ¬ xLk X N s.1 = 36) ∨ s.2.2.2.2.1 = 4)
noncomputable def gJ3 (W V : zW) (g u t : Int) (s : gSt) : Prop := gBs W V g ∧ ∃ s1 : gSt, gP (W.2.1 91) (W.1 90 1) s s1 ∧ gW V g s1 ∧ zBn V (V.1 90 37) s1.1 ∧ s1.2.2.2.1 = t ∧ s1.2.2.2.2.2 = s.2.2.2.2.2 ∧ gH (W.2.1 91) (W.1 90 1) u s1
noncomputable def gJ5 (W V : zW) (g u t b y : Int) (s : gSt) : Prop := gBs W V g ∧ ((0 < y ∧ y ≤ 1000000 ∧ gF (W.2.1 91) (W.1 90 1) s) ∨ (y = 0 ∧ ∃ s1 : gSt, gP (W.2.1 91) (W.1 90 1) s s1 ∧ gW V g s1 ∧ V.1 90 37 = s1.1 ∧ s1.2.2.2.1 = t ∧ s1.2.2.2.2.2 = s.2.2.2.2.2 ∧ gSc (W.2.1 91) (W.1 90 1) s1 ∧ ¬ gcR (xLk (W.2.1 91) (W.1 90 1) s1.1) ∧ s1.2.1.2.2.1 t = b ∧ ¬ t = u))
theorem gBs_f {W V U : zW} {g : Int} {Fs : List (Nat × Nat)} {Rs : List Nat} (h : gBs W V g) (hf : zFr Fs Rs V U) (hd : (Rs.all (fun a => decide (¬ a ∈ [93, 94, 95, 96, 97, 98, 102, 103]))) = true := by decide) (h1 : ∀ x ∈ Fs, x ∈ [(90, 25), (90, 26), (90, 27), (90, 28), (90, 29), (90, 33), (90, 36), (90, 37)] := by decide) (h2 : ∀ x ∈ Rs, x ∈ [93, 94, 95, 96, 97, 98, 99, 100, 101, 110, 111, 112, 113, 114, 115] := by decide) : gBs W U g := ⟨zFr_t h.1 (zFr_w hf h1 h2), zFo_fr h.2 hf hd⟩
theorem gBs_o {W V U : zW} {g : Int} {Fs : List (Nat × Nat)} {Rs : List Nat} (h : gBs W V g) (hf : zFr Fs Rs V U) (ho : zFo g V U) (h1 : ∀ x ∈ Fs, x ∈ [(90, 25), (90, 26), (90, 27), (90, 28), (90, 29), (90, 33), (90, 36), (90, 37)] := by decide) (h2 : ∀ x ∈ Rs, x ∈ [93, 94, 95, 96, 97, 98, 99, 100, 101, 110, 111, 112, 113, 114, 115] := by decide) : gBs W U g := ⟨zFr_t h.1 (zFr_w hf h1 h2), zFo_t h.2 ho⟩
theorem gBs_x {W V : zW} {g : Int} (h : gBs W V g) : V.2.1 91 = W.2.1 91 ∧ V.1 90 1 = W.1 90 1 := ⟨zFr_r h.1 91, zFr_f h.1 90 1⟩
theorem xRh_u {X : Int → Int} {N p r r' : Int} (h : xRh X N p r) (h' : xRh X N p r') : r = r' := by
  unfold xRh at *
  grind
theorem zRh_x {W V : zW} {g p r : Int} (h : gBs W V g) (z : zRh V p r) : xRh (W.2.1 91) (W.1 90 1) p r := by
  have e := gBs_x h
  unfold zRh zG3 zLk at z
  unfold xRh xG3 xLk
  rw [e.1, e.2] at z
  exact z
theorem zAt_s {W V : zW} {g : Int} {s : gSt} (hw : gW W g s) (h : zAt V (xPo (zSt W g) (zro W 94 g) (zro W 95 g) s.2.2.2.1)) : zAt V (gPo s) := by
  have e := (zRt_O hw.2.2.1 hw.2.2.2.1).2 s.2.2.2.1 hw.2.2.2.2.1.2
  rw [e] at h
  exact h
theorem gNu_z {W V U : zW} {Fs : List (Nat × Nat)} {Rs : List Nat} {p r : Int} {q : xP} (hf : zFr Fs Rs W V) (hF : (Fs.all (fun b => decide (¬ b = (90, 1)))) = true) (hR : (Rs.all (fun b => decide (¬ b = 91))) = true) (ha : zAt V q) (h : zRn V U p r) : (r = 0 ∧ gNu (W.2.1 91) (W.1 90 1) q.2 p (U.1 90 37) 0) ∨ (0 < r ∧ gNu (W.2.1 91) (W.1 90 1) q.2 p p 1) := by
  have eq : q.2 = V.1 90 29 := by rw [← ha.1]
  rw [eq]
  unfold zRn zNd zDt zLk zBn at h
  unfold gNu xNd xDt xLk xBs
  rw [gFi hf 90 1 hF, zRo_fr hf 91 hR] at h
  rcases h with ⟨h1, h2, h3⟩ | ⟨h1, q, v, d, h2, h3, ⟨h4, h5⟩ | ⟨h4, h5, h6⟩⟩
  · exact Or.inl ⟨h2, Or.inl ⟨h1, h3, rfl⟩⟩
  · exact Or.inr ⟨h5, Or.inr ⟨h1, q, v, d, h2, h3, Or.inl ⟨h4, rfl, rfl⟩⟩⟩
  · exact Or.inl ⟨h5, Or.inr ⟨h1, q, v, d, h2, h3, Or.inr ⟨h4, rfl, h6⟩⟩⟩
theorem gMv_0 {X : Int → Int} {N : Int} {s : gSt} {p1 : Int} {o : Option gSt} (h : gNu X N (gPo s).2 s.1 p1 0) (h2 : gMv X N s p1 o) : gSv X N s o := ⟨p1, 0, h, Or.inr ⟨rfl, h2⟩⟩
noncomputable def zc_MTrl7 (vals : List zv) (W : zW) (post : zPo) : Prop := ∃ g u op : Int, ∃ s : gSt, vals = [.inr (.inr (some (.inl 90))), .inl (g), .inl (u), .inl (op)] ∧ (False) ∧ ∀ r : Int, ∀ V : zW, (True) → post (some (.inl r)) V
theorem zk_MTrl7 {l : Launch} {E : jE} {n : Nat} (hn : 142 ≤ n) : zHas l E jcl jtb lw_tbl zsh n (y_MT_readLine, false, 4, 12, { frames := 0, cells := 0, slots := 0, locals := 0 }, zc_MTrl7) := by
  refine ⟨⟨rfl, rfl, ⟨show 1 ≤ 4 by decide, m_MT_readLine, i_MT_readLine, e_MT_readLine, fun _ => ⟨_, rfl, rfl⟩⟩⟩, ?_⟩
  rintro vz W po hO hW ⟨g, u, op, s, rfl, hq, hp⟩
  exact absurd hq id
noncomputable def ak_ZMTrl6 : List jI := [(.iload_n 2, 1, (2, 0, 0, 0, 0)), (.istore 4, 2, (4, 0, 0, 0, 0)), (.aload_n 0, 1, (0, 0, 0, 0, 0)), (.invokevirtual 275, 3, (0, 0, 2570, 0, 0)), (.iload_n 3, 1, (3, 0, 0, 0, 0)), (.ifCond .ne 13, 3, (21, 0, 0, 0, 0)), (.aload_n 0, 1, (0, 0, 0, 0, 0)), (.invokevirtual 318, 3, (1, 0, 2647, 0, 0)), (.ifCond .lt 23, 3, (38, 0, 0, 0, 0)), (.goto 18, 3, (36, 0, 0, 0, 0)), (.aload_n 0, 1, (0, 0, 0, 0, 0)), (.invokevirtual 278, 3, (2, 0, 2574, 0, 0)), (.bipush 41, 2, (0, 0, 0, 41, 0)), (.if_icmp .ne 11, 3, (38, 0, 0, 0, 0)), (.iload 4, 2, (4, 0, 0, 0, 0)), (.iload_n 2, 1, (2, 0, 0, 0, 0)), (.if_icmp .eq 5, 3, (38, 0, 0, 0, 0)), (.iconst 0, 1, (0, 0, 0, 0, 0)), (.ireturn, 1, (0, 0, 0, 0, 0)), (.aload_n 0, 1, (0, 0, 0, 0, 0)), (.iload_n 1, 1, (1, 0, 0, 0, 0)), (.iload 4, 2, (4, 0, 0, 0, 0)), (.invokevirtual 96, 3, (3, 0, 1933, 0, 0)), (.aload_n 0, 1, (0, 0, 0, 0, 0)), (.invokevirtual 321, 3, (4, 0, 2655, 0, 0)), (.istore 5, 2, (5, 0, 0, 0, 0)), (.iload 5, 2, (5, 0, 0, 0, 0)), (.ifCond .le 6, 3, (59, 0, 0, 0, 0)), (.iload 5, 2, (5, 0, 0, 0, 0)), (.ireturn, 1, (0, 0, 0, 0, 0)), (.aload_n 0, 1, (0, 0, 0, 0, 0)), (.iload_n 1, 1, (1, 0, 0, 0, 0)), (.iload 4, 2, (4, 0, 0, 0, 0)), (.invokevirtual 324, 3, (5, 0, 2659, 0, 0)), (.istore 6, 2, (6, 0, 0, 0, 0)), (.iload 6, 2, (6, 0, 0, 0, 0)), (.ifCond .ge 7, 3, (77, 0, 0, 0, 0)), (.iload 6, 2, (6, 0, 0, 0, 0)), (.ineg, 1, (0, 0, 0, 0, 0)), (.ireturn, 1, (0, 0, 0, 0, 0)), (.iload 4, 2, (4, 0, 0, 0, 0)), (.istore 7, 2, (7, 0, 0, 0, 0)), (.iload 6, 2, (6, 0, 0, 0, 0)), (.istore 4, 2, (4, 0, 0, 0, 0)), (.aload_n 0, 1, (0, 0, 0, 0, 0)), (.iload_n 1, 1, (1, 0, 0, 0, 0)), (.iload 4, 2, (4, 0, 0, 0, 0)), (.invokevirtual 327, 3, (6, 0, 2710, 0, 0)), (.istore 5, 2, (5, 0, 0, 0, 0)), (.iload 5, 2, (5, 0, 0, 0, 0)), (.ifCond .le 8, 3, (104, 0, 0, 0, 0)), (.iload 5, 2, (5, 0, 0, 0, 0)), (.goto 10, 3, (111, 0, 0, 0, 0)), (.aload_n 0, 1, (0, 0, 0, 0, 0)), (.iload_n 1, 1, (1, 0, 0, 0, 0)), (.iload 4, 2, (4, 0, 0, 0, 0)), (.invokevirtual 330, 3, (7, 0, 2639, 0, 0)), (.istore 5, 2, (5, 0, 0, 0, 0)), (.iload 5, 2, (5, 0, 0, 0, 0)), (.ifCond .ne 109, 3, (224, 0, 0, 0, 0)), (.aload_n 0, 1, (0, 0, 0, 0, 0)), (.invokevirtual 278, 3, (2, 0, 2574, 0, 0)), (.bipush 40, 2, (0, 0, 0, 40, 0)), (.if_icmp .ne 100, 3, (224, 0, 0, 0, 0)), (.iload_n 3, 1, (3, 0, 0, 0, 0)), (.bipush 6, 2, (0, 0, 0, 6, 0)), (.if_icmp .ne 15, 3, (145, 0, 0, 0, 0)), (.bipush 8, 2, (0, 0, 0, 8, 0)), (.aload_n 0, 1, (0, 0, 0, 0, 0)), (.getfield 268, 3, (12, 37, 2078, 0, 0)), (.invokestatic 287, 3, (8, 0, 2588, 0, 0)), (.goto 4, 3, (146, 0, 0, 0, 0)), (.iconst 0, 1, (0, 0, 0, 0, 0)), (.istore 5, 2, (5, 0, 0, 0, 0)), (.aload_n 0, 1, (0, 0, 0, 0, 0)), (.dup, 1, (0, 0, 0, 0, 0)), (.getfield 268, 3, (12, 37, 2078, 0, 0)), (.iconst 1, 1, (0, 0, 0, 1, 0)), (.iadd, 1, (0, 0, 0, 0, 0)), (.putfield 268, 3, (12, 37, 2078, 0, 0)), (.iload 5, 2, (5, 0, 0, 0, 0)), (.ifCond .le 8, 3, (168, 0, 0, 0, 0)), (.iload 5, 2, (5, 0, 0, 0, 0)), (.goto 13, 3, (178, 0, 0, 0, 0)), (.aload_n 0, 1, (0, 0, 0, 0, 0)), (.iload_n 1, 1, (1, 0, 0, 0, 0)), (.iload 7, 2, (7, 0, 0, 0, 0)), (.iload_n 3, 1, (3, 0, 0, 0, 0)), (.iconst 1, 1, (0, 0, 0, 1, 0)), (.iadd, 1, (0, 0, 0, 0, 0)), (.invokevirtual 333, 3, (9, 0, 2643, 0, 0)), (.istore 5, 2, (5, 0, 0, 0, 0)), (.aload_n 0, 1, (0, 0, 0, 0, 0)), (.iload 5, 2, (5, 0, 0, 0, 0)), (.ifCond .le 10, 3, (193, 0, 0, 0, 0)), (.aload_n 0, 1, (0, 0, 0, 0, 0)), (.getfield 268, 3, (12, 37, 2078, 0, 0)), (.goto 9, 3, (199, 0, 0, 0, 0)), (.aload_n 0, 1, (0, 0, 0, 0, 0)), (.getfield 268, 3, (12, 37, 2078, 0, 0)), (.iconst 1, 1, (0, 0, 0, 1, 0)), (.iadd, 1, (0, 0, 0, 0, 0)), (.putfield 268, 3, (12, 37, 2078, 0, 0)), (.iload 5, 2, (5, 0, 0, 0, 0)), (.ifCond .le 8, 3, (212, 0, 0, 0, 0)), (.iload 5, 2, (5, 0, 0, 0, 0)), (.goto 10, 3, (219, 0, 0, 0, 0)), (.aload_n 0, 1, (0, 0, 0, 0, 0)), (.iload_n 1, 1, (1, 0, 0, 0, 0)), (.iload 4, 2, (4, 0, 0, 0, 0)), (.invokevirtual 330, 3, (7, 0, 2639, 0, 0)), (.istore 5, 2, (5, 0, 0, 0, 0)), (.goto (-108), 3, (113, 0, 0, 0, 0)), (.iload 5, 2, (5, 0, 0, 0, 0)), (.ifCond .le 6, 3, (232, 0, 0, 0, 0)), (.iload 5, 2, (5, 0, 0, 0, 0)), (.ireturn, 1, (0, 0, 0, 0, 0)), (.goto (-229), 3, (3, 0, 0, 0, 0))]
theorem ao_ZMTrl6 : jokLG jtF lk_MT "ChessHouseModel$Texts" jcl jtb 8 prog_18_method_68_code 0 ak_ZMTrl6 = true := by decide +kernel
noncomputable def zm_MTrl6 : zM := (some .int, { frames := 9, cells := 0, slots := 0, locals := 234 }, ([(275, 2570, 0), (318, 2647, 1), (278, 2574, 2), (96, 1933, 3), (321, 2655, 4), (324, 2659, 5), (327, 2710, 6), (330, 2639, 7), (287, 2588, 8), (333, 2643, 9)], []), [(y_MT_blanks, false, 1, 12, { frames := 0, cells := 0, slots := 0, locals := 0 }, zc_MTbl), (y_MT_resultHere, false, 1, 12, { frames := 1, cells := 0, slots := 0, locals := 23 }, zc_MTrsh), (y_MT_look, false, 1, 12, { frames := 0, cells := 0, slots := 0, locals := 0 }, zc_MTlook), (y_MT_place, false, 3, 12, { frames := 6, cells := 0, slots := 0, locals := 157 }, zc_MTplace), (y_MT_readMoveNumber, false, 1, 12, { frames := 1, cells := 0, slots := 0, locals := 21 }, zc_MTrmn), (y_MT_readMove, false, 3, 12, { frames := 8, cells := 0, slots := 0, locals := 210 }, zc_MTrmv), (y_MT_readMarks, false, 3, 12, { frames := 1, cells := 0, slots := 0, locals := 24 }, zc_MTrmk), (y_MT_readRemarks, false, 3, 12, { frames := 1, cells := 0, slots := 0, locals := 21 }, zc_MTrrm), (y_MT_fault, true, 2, 0, { frames := 0, cells := 0, slots := 0, locals := 0 }, zc_MTflt), (y_MT_readLine, false, 4, 12, { frames := 0, cells := 0, slots := 0, locals := 0 }, zc_MTrl7)], ak_ZMTrl6)
noncomputable def zc_MTrl6 (vals : List zv) (W : zW) (post : zPo) : Prop := ∃ g u op : Int, ∃ s : gSt, vals = [.inr (.inr (some (.inl 90))), .inl (g), .inl (u), .inl (op)] ∧ (op = 6 ∧ gLp W g u 6 s) ∧ ∀ r : Int, ∀ V : zW, (gLq W V g 6 r s) → post (some (.inl r)) V
set_option maxRecDepth 8000 in
theorem zp_MTrl6_0 {n K : Nat} {W : zW} {post : zPo} {g u op : Int} {u4 u5 u6 u7 : Option zv} (hK : 2 ≤ K) (hn : 142 ≤ n) (h : zwp jtb zsh n zm_MTrl6 post (K - 2) (lGo ak_ZMTrl6 3) 3 [some (.inr (.inr (some (.inl 90)))), some (.inl (g)), some (.inl (u)), some (.inl (op)), some (.inl (u)), u5, u6, u7] [] W) : zwp jtb zsh n zm_MTrl6 post K (lGo ak_ZMTrl6 0) 0 [some (.inr (.inr (some (.inl 90)))), some (.inl (g)), some (.inl (u)), some (.inl (op)), u4, u5, u6, u7] [] W := by
  obtain ⟨kk__, rfl⟩ : ∃ kk__, K = kk__ + 2 := ⟨K - 2, by omega⟩
  exact (show zwp jtb zsh n zm_MTrl6 post (kk__ + 0) (lGo ak_ZMTrl6 3) 3 [some (.inr (.inr (some (.inl 90)))), some (.inl (g)), some (.inl (u)), some (.inl (op)), some (.inl (u)), u5, u6, u7] [] W from h)
set_option maxRecDepth 8000 in
theorem zp_MTrl6_3 {n K : Nat} {V : zW} {post : zPo} {g u op t : Int} {u5 u6 u7 : Option zv} (hK : 13 ≤ K) (hn : 142 ≤ n) (h : (zTp V) ∧ ∀ W4 : zW, (zFr [(90, 37)] [] V W4 ∧ zTp W4 ∧ zBn V (V.1 90 37) (W4.1 90 37)) → (¬ op = 0 → (zTp W4) ∧ ∀ r22 : Int, (r22 = zLk W4 (W4.1 90 37)) → (¬ r22 = 41 → zwp jtb zsh n zm_MTrl6 post (K - 8) (lGo ak_ZMTrl6 38) 38 [some (.inr (.inr (some (.inl 90)))), some (.inl (g)), some (.inl (u)), some (.inl (op)), some (.inl (t)), u5, u6, u7] [] W4) ∧ (r22 = 41 → (t = u → zwp jtb zsh n zm_MTrl6 post (K - 11) (lGo ak_ZMTrl6 38) 38 [some (.inr (.inr (some (.inl 90)))), some (.inl (g)), some (.inl (u)), some (.inl (op)), some (.inl (t)), u5, u6, u7] [] W4) ∧ (¬ t = u → post (some (.inl (0))) W4))) ∧ (op = 0 → (zTp W4) ∧ ∀ r12 : Int, (zRh W4 (W4.1 90 37) r12) → (r12 < 0 → zwp jtb zsh n zm_MTrl6 post (K - 7) (lGo ak_ZMTrl6 38) 38 [some (.inr (.inr (some (.inl 90)))), some (.inl (g)), some (.inl (u)), some (.inl (op)), some (.inl (t)), u5, u6, u7] [] W4) ∧ (¬ r12 < 0 → post (some (.inl (0))) W4))) : zwp jtb zsh n zm_MTrl6 post K (lGo ak_ZMTrl6 3) 3 [some (.inr (.inr (some (.inl 90)))), some (.inl (g)), some (.inl (u)), some (.inl (op)), some (.inl (t)), u5, u6, u7] [] V := by
  obtain ⟨kk__, rfl⟩ : ∃ kk__, K = kk__ + 13 := ⟨K - 13, by omega⟩
  exact (show 3 = 3 ∧ false = false ∧ jin3 275 2570 0 zm_MTrl6.2.2.1.1 = true ∧ lRm zm_MTrl6.2.1 { frames := 0, cells := 0, slots := 0, locals := 0 } 1 = true ∧ Nat.ble 1 1 = true ∧ Nat.ble 0 8 = true ∧ 90 < n ∧ 12 = 12 ∧ Nat.ble 1000 12 = false ∧ zc_MTbl [.inr (.inr (some (.inl 90)))] V (fun vv__ WW__ => zwp jtb zsh n zm_MTrl6 post (kk__ + 11) (lGo ak_ZMTrl6 7) 7 [some (.inr (.inr (some (.inl 90)))), some (.inl (g)), some (.inl (u)), some (.inl (op)), some (.inl (t)), u5, u6, u7] (vv__.toList ++ []) WW__) from ⟨rfl, rfl, rfl, rfl, rfl, rfl, (Nat.lt_of_lt_of_le (by decide) hn), rfl, rfl, rfl, (h).1, fun W4 hr4 => (show (¬ op = 0 → 3 = 3 ∧ false = false ∧ jin3 278 2574 2 zm_MTrl6.2.2.1.1 = true ∧ lRm zm_MTrl6.2.1 { frames := 0, cells := 0, slots := 0, locals := 0 } 1 = true ∧ Nat.ble 1 1 = true ∧ Nat.ble 0 8 = true ∧ 90 < n ∧ 12 = 12 ∧ Nat.ble 1000 12 = false ∧ zc_MTlook [.inr (.inr (some (.inl 90)))] W4 (fun vv__ WW__ => zwp jtb zsh n zm_MTrl6 post (kk__ + 7) (lGo ak_ZMTrl6 25) 25 [some (.inr (.inr (some (.inl 90)))), some (.inl (g)), some (.inl (u)), some (.inl (op)), some (.inl (t)), u5, u6, u7] (vv__.toList ++ []) WW__)) ∧ (op = 0 → 3 = 3 ∧ false = false ∧ jin3 318 2647 1 zm_MTrl6.2.2.1.1 = true ∧ lRm zm_MTrl6.2.1 { frames := 1, cells := 0, slots := 0, locals := 23 } 2 = true ∧ Nat.ble 1 1 = true ∧ Nat.ble 0 8 = true ∧ 90 < n ∧ 12 = 12 ∧ Nat.ble 1000 12 = false ∧ zc_MTrsh [.inr (.inr (some (.inl 90)))] W4 (fun vv__ WW__ => zwp jtb zsh n zm_MTrl6 post (kk__ + 7) (lGo ak_ZMTrl6 15) 15 [some (.inr (.inr (some (.inl 90)))), some (.inl (g)), some (.inl (u)), some (.inl (op)), some (.inl (t)), u5, u6, u7] (vv__.toList ++ []) WW__)) from ⟨fun c8_3 => (have h := ((((h).2 W4 hr4)).1 c8_3); ⟨rfl, rfl, rfl, rfl, rfl, rfl, (Nat.lt_of_lt_of_le (by decide) hn), rfl, rfl, rfl, (h).1, fun r22 hr22 => (show (¬ r22 = 41 → zwp jtb zsh n zm_MTrl6 post (kk__ + 5) (lGo ak_ZMTrl6 38) 38 [some (.inr (.inr (some (.inl 90)))), some (.inl (g)), some (.inl (u)), some (.inl (op)), some (.inl (t)), u5, u6, u7] [] W4) ∧ (r22 = 41 → (t = u → zwp jtb zsh n zm_MTrl6 post (kk__ + 2) (lGo ak_ZMTrl6 38) 38 [some (.inr (.inr (some (.inl 90)))), some (.inl (g)), some (.inl (u)), some (.inl (op)), some (.inl (t)), u5, u6, u7] [] W4) ∧ (¬ t = u → 1 = 1 ∧ True ∧ post (some (.inl (0))) W4)) from ⟨fun c27_7 => ((((h).2 r22 hr22)).1 c27_7), fun c27_7 => (have h := ((((h).2 r22 hr22)).2 c27_7); ⟨fun c33_10 => ((h).1 c33_10), fun c33_10 => ⟨rfl, trivial, ((h).2 c33_10)⟩⟩)⟩)⟩), fun c8_3 => (have h := ((((h).2 W4 hr4)).2 c8_3); ⟨rfl, rfl, rfl, rfl, rfl, rfl, (Nat.lt_of_lt_of_le (by decide) hn), rfl, rfl, rfl, (h).1, fun r12 hr12 => (show (r12 < 0 → zwp jtb zsh n zm_MTrl6 post (kk__ + 6) (lGo ak_ZMTrl6 38) 38 [some (.inr (.inr (some (.inl 90)))), some (.inl (g)), some (.inl (u)), some (.inl (op)), some (.inl (t)), u5, u6, u7] [] W4) ∧ (¬ r12 < 0 → 1 = 1 ∧ True ∧ post (some (.inl (0))) W4) from ⟨fun c15_6 => ((((h).2 r12 hr12)).1 c15_6), fun c15_6 => (have h := ((((h).2 r12 hr12)).2 c15_6); ⟨rfl, trivial, h⟩)⟩)⟩)⟩)⟩)
set_option maxRecDepth 8000 in
theorem zp_MTrl6_38 {n K : Nat} {V : zW} {post : zPo} {g u op t : Int} {u5 u6 u7 : Option zv} (hK : 11 ≤ K) (hn : 142 ≤ n) (h : ((0 ≤ g ∧ g ≤ 1) ∧ (∃ N, (0 ≤ t ∧ t ≤ N ∧ N ≤ 300) ∧ xOk (zSt V g) (zro V 94 g) (zro V 95 g) N) ∧ zSb V g) ∧ ∀ W42 : zW, (zAt W42 (xPo (zSt V g) (zro V 94 g) (zro V 95 g) t) ∧ zFr [(90, 25), (90, 26), (90, 27), (90, 28), (90, 29), (90, 33)] [110, 111, 112, 113, 114] V W42) → (zTp W42) ∧ ∀ r46 : Int, ∀ W46 : zW, (zFr [(90, 37)] [] W42 W46 ∧ zTp W46 ∧ zRn W42 W46 (W42.1 90 37) r46 ∧ 0 ≤ r46 ∧ r46 ≤ 1000000) → (r46 ≤ 0 → zwp jtb zsh n zm_MTrl6 post (K - 9) (lGo ak_ZMTrl6 59) 59 [some (.inr (.inr (some (.inl 90)))), some (.inl (g)), some (.inl (u)), some (.inl (op)), some (.inl (t)), some (.inl (r46)), u6, u7] [] W46) ∧ (¬ r46 ≤ 0 → post (some (.inl (r46))) W46)) : zwp jtb zsh n zm_MTrl6 post K (lGo ak_ZMTrl6 38) 38 [some (.inr (.inr (some (.inl 90)))), some (.inl (g)), some (.inl (u)), some (.inl (op)), some (.inl (t)), u5, u6, u7] [] V := by
  obtain ⟨kk__, rfl⟩ : ∃ kk__, K = kk__ + 11 := ⟨K - 11, by omega⟩
  exact (show 3 = 3 ∧ false = false ∧ jin3 96 1933 3 zm_MTrl6.2.2.1.1 = true ∧ lRm zm_MTrl6.2.1 { frames := 6, cells := 0, slots := 0, locals := 157 } 5 = true ∧ Nat.ble 3 3 = true ∧ Nat.ble 0 8 = true ∧ 90 < n ∧ 12 = 12 ∧ Nat.ble 1000 12 = false ∧ zc_MTplace [.inr (.inr (some (.inl 90))), .inl (g), .inl (t)] V (fun vv__ WW__ => zwp jtb zsh n zm_MTrl6 post (kk__ + 7) (lGo ak_ZMTrl6 45) 45 [some (.inr (.inr (some (.inl 90)))), some (.inl (g)), some (.inl (u)), some (.inl (op)), some (.inl (t)), u5, u6, u7] (vv__.toList ++ []) WW__) from ⟨rfl, rfl, rfl, rfl, rfl, rfl, (Nat.lt_of_lt_of_le (by decide) hn), rfl, rfl, g, t, rfl, (h).1, fun W42 hr42 => (show 3 = 3 ∧ false = false ∧ jin3 321 2655 4 zm_MTrl6.2.2.1.1 = true ∧ lRm zm_MTrl6.2.1 { frames := 1, cells := 0, slots := 0, locals := 21 } 4 = true ∧ Nat.ble 1 1 = true ∧ Nat.ble 0 8 = true ∧ 90 < n ∧ 12 = 12 ∧ Nat.ble 1000 12 = false ∧ zc_MTrmn [.inr (.inr (some (.inl 90)))] W42 (fun vv__ WW__ => zwp jtb zsh n zm_MTrl6 post (kk__ + 5) (lGo ak_ZMTrl6 49) 49 [some (.inr (.inr (some (.inl 90)))), some (.inl (g)), some (.inl (u)), some (.inl (op)), some (.inl (t)), u5, u6, u7] (vv__.toList ++ []) WW__) from ⟨rfl, rfl, rfl, rfl, rfl, rfl, (Nat.lt_of_lt_of_le (by decide) hn), rfl, rfl, rfl, (((h).2 W42 hr42)).1, fun r46 W46 hr46 => (show (r46 ≤ 0 → zwp jtb zsh n zm_MTrl6 post (kk__ + 2) (lGo ak_ZMTrl6 59) 59 [some (.inr (.inr (some (.inl 90)))), some (.inl (g)), some (.inl (u)), some (.inl (op)), some (.inl (t)), some (.inl (r46)), u6, u7] [] W46) ∧ (¬ r46 ≤ 0 → 1 = 1 ∧ True ∧ post (some (.inl (r46))) W46) from (have h := ((((h).2 W42 hr42)).2 r46 W46 hr46); ⟨fun c53_8 => ((h).1 c53_8), fun c53_8 => ⟨rfl, trivial, ((h).2 c53_8)⟩⟩))⟩)⟩)
set_option maxRecDepth 8000 in
theorem zp_MTrl6_59 {n K : Nat} {V : zW} {post : zPo} {g u op t y : Int} {u6 u7 : Option zv} (hK : 11 ≤ K) (hn : 142 ≤ n) (h : ∃ s63 : gSt, (gW V g s63 ∧ s63.2.2.2.1 = t ∧ zAt V (gPo s63) ∧ trE s63.2.1.2.2.1 (xLd s63.2.1.2.2.2.2.1) t + (if s63.2.1.2.2.2.2.1 t = [] then 0 else 1) ≤ 6) ∧ ∀ r63 : Int, ∀ W63 : zW, (zFr [(90, 36), (90, 37)] [93, 94, 95, 96, 97, 98, 100, 110, 111, 112, 115] V W63 ∧ zFo g V W63 ∧ ((r63 < 0 ∧ -1000000 ≤ r63 ∧ gMv (V.2.1 91) (V.1 90 1) s63 (V.1 90 37) none) ∨ (0 ≤ r63 ∧ ∃ e m, xLt (xLk (V.2.1 91) (V.1 90 1) (V.1 90 37)) ∧ xWd (V.2.1 91) (V.1 90 1) (V.1 90 37) e ∧ zUn (gPo s63).1 (fun i => V.2.1 91 (V.1 90 37 + i)) (e - V.1 90 37) m ∧ ¬ gMb s63 m ∧ r63 = s63.2.1.2.1 + 1 ∧ W63.1 90 37 = e ∧ gW W63 g (e, xApp s63.2.1 t m, zuI s63.2.2.1 (s63.2.1.2.1 + 1) 0, s63.2.1.2.1 + 1, 2, s63.2.2.2.2.2)))) → (0 ≤ r63 → zwp jtb zsh n zm_MTrl6 post (K - 11) (lGo ak_ZMTrl6 85) 85 [some (.inr (.inr (some (.inl 90)))), some (.inl (g)), some (.inl (u)), some (.inl (op)), some (.inl (r63)), some (.inl (y)), some (.inl (r63)), some (.inl (t))] [] W63) ∧ (¬ 0 ≤ r63 → (-2147483648 ≤ -r63 ∧ -r63 ≤ 2147483647) ∧ post (some (.inl (-r63))) W63)) : zwp jtb zsh n zm_MTrl6 post K (lGo ak_ZMTrl6 59) 59 [some (.inr (.inr (some (.inl 90)))), some (.inl (g)), some (.inl (u)), some (.inl (op)), some (.inl (t)), some (.inl (y)), u6, u7] [] V := by
  obtain ⟨kk__, rfl⟩ : ∃ kk__, K = kk__ + 11 := ⟨K - 11, by omega⟩
  exact (show 3 = 3 ∧ false = false ∧ jin3 324 2659 5 zm_MTrl6.2.2.1.1 = true ∧ lRm zm_MTrl6.2.1 { frames := 8, cells := 0, slots := 0, locals := 210 } 5 = true ∧ Nat.ble 3 3 = true ∧ Nat.ble 0 8 = true ∧ 90 < n ∧ 12 = 12 ∧ Nat.ble 1000 12 = false ∧ zc_MTrmv [.inr (.inr (some (.inl 90))), .inl (g), .inl (t)] V (fun vv__ WW__ => zwp jtb zsh n zm_MTrl6 post (kk__ + 7) (lGo ak_ZMTrl6 66) 66 [some (.inr (.inr (some (.inl 90)))), some (.inl (g)), some (.inl (u)), some (.inl (op)), some (.inl (t)), some (.inl (y)), u6, u7] (vv__.toList ++ []) WW__) from (Exists.elim (h) (fun s63 gh63 => ⟨rfl, rfl, rfl, rfl, rfl, rfl, (Nat.lt_of_lt_of_le (by decide) hn), rfl, rfl, g, t, s63, rfl, (gh63).1, fun r63 W63 hr63 => (show (0 ≤ r63 → zwp jtb zsh n zm_MTrl6 post (kk__ + 0) (lGo ak_ZMTrl6 85) 85 [some (.inr (.inr (some (.inl 90)))), some (.inl (g)), some (.inl (u)), some (.inl (op)), some (.inl (r63)), some (.inl (y)), some (.inl (r63)), some (.inl (t))] [] W63) ∧ (¬ 0 ≤ r63 → (-2147483648 ≤ -r63 ∧ -r63 ≤ 2147483647) ∧ 1 = 1 ∧ True ∧ post (some (.inl (-r63))) W63) from ⟨fun c70_6 => ((((gh63).2 r63 W63 hr63)).1 c70_6), fun c70_6 => (have h := ((((gh63).2 r63 W63 hr63)).2 c70_6); ⟨(h).1, ⟨rfl, trivial, (h).2⟩⟩)⟩)⟩)))
set_option maxRecDepth 8000 in
theorem zp_MTrl6_85 {n K : Nat} {V : zW} {post : zPo} {g u op t y x b : Int}  (hK : 10 ≤ K) (hn : 142 ≤ n) (h : ∃ s89 : gSt, (gW V g s89 ∧ s89.2.2.2.1 = t ∧ s89.2.2.2.2.1 = 2 ∧ s89.2.1.2.2.2.2.2 t = 0 ∧ zBn V (V.1 90 37) s89.1) ∧ ∀ r89 : Int, ∀ W89 : zW, (zFr [(90, 37)] [98, 99] V W89 ∧ zFo g V W89 ∧ ((r89 = 0 ∧ ∃ s2 : gSt, gP (V.2.1 91) (V.1 90 1) s89 s2 ∧ gW W89 g s2 ∧ W89.1 90 37 = s2.1 ∧ s2.2.2.2.1 = t ∧ s2.2.2.2.2.2 = s89.2.2.2.2.2 ∧ ((s2.2.2.2.2.1 = 2 ∧ ¬ gcM (xLk (V.2.1 91) (V.1 90 1) s2.1)) ∨ (s2.2.2.2.2.1 = 3 ∧ ¬ xLk (V.2.1 91) (V.1 90 1) s2.1 = 36))) ∨ (0 < r89 ∧ r89 ≤ 1000000 ∧ gF (V.2.1 91) (V.1 90 1) s89))) → (r89 ≤ 0 → zwp jtb zsh n zm_MTrl6 post (K - 7) (lGo ak_ZMTrl6 104) 104 [some (.inr (.inr (some (.inl 90)))), some (.inl (g)), some (.inl (u)), some (.inl (op)), some (.inl (t)), some (.inl (r89)), some (.inl (x)), some (.inl (b))] [] W89) ∧ (¬ r89 ≤ 0 → zwp jtb zsh n zm_MTrl6 post (K - 10) (lGo ak_ZMTrl6 113) 113 [some (.inr (.inr (some (.inl 90)))), some (.inl (g)), some (.inl (u)), some (.inl (op)), some (.inl (t)), some (.inl (r89)), some (.inl (x)), some (.inl (b))] [] W89)) : zwp jtb zsh n zm_MTrl6 post K (lGo ak_ZMTrl6 85) 85 [some (.inr (.inr (some (.inl 90)))), some (.inl (g)), some (.inl (u)), some (.inl (op)), some (.inl (t)), some (.inl (y)), some (.inl (x)), some (.inl (b))] [] V := by
  obtain ⟨kk__, rfl⟩ : ∃ kk__, K = kk__ + 10 := ⟨K - 10, by omega⟩
  exact (show 3 = 3 ∧ false = false ∧ jin3 327 2710 6 zm_MTrl6.2.2.1.1 = true ∧ lRm zm_MTrl6.2.1 { frames := 1, cells := 0, slots := 0, locals := 24 } 6 = true ∧ Nat.ble 3 3 = true ∧ Nat.ble 0 8 = true ∧ 90 < n ∧ 12 = 12 ∧ Nat.ble 1000 12 = false ∧ zc_MTrmk [.inr (.inr (some (.inl 90))), .inl (g), .inl (t)] V (fun vv__ WW__ => zwp jtb zsh n zm_MTrl6 post (kk__ + 6) (lGo ak_ZMTrl6 92) 92 [some (.inr (.inr (some (.inl 90)))), some (.inl (g)), some (.inl (u)), some (.inl (op)), some (.inl (t)), some (.inl (y)), some (.inl (x)), some (.inl (b))] (vv__.toList ++ []) WW__) from (Exists.elim (h) (fun s89 gh89 => ⟨rfl, rfl, rfl, rfl, rfl, rfl, (Nat.lt_of_lt_of_le (by decide) hn), rfl, rfl, g, t, s89, rfl, (gh89).1, fun r89 W89 hr89 => (show (r89 ≤ 0 → zwp jtb zsh n zm_MTrl6 post (kk__ + 3) (lGo ak_ZMTrl6 104) 104 [some (.inr (.inr (some (.inl 90)))), some (.inl (g)), some (.inl (u)), some (.inl (op)), some (.inl (t)), some (.inl (r89)), some (.inl (x)), some (.inl (b))] [] W89) ∧ (¬ r89 ≤ 0 → zwp jtb zsh n zm_MTrl6 post (kk__ + 0) (lGo ak_ZMTrl6 113) 113 [some (.inr (.inr (some (.inl 90)))), some (.inl (g)), some (.inl (u)), some (.inl (op)), some (.inl (t)), some (.inl (r89)), some (.inl (x)), some (.inl (b))] [] W89) from ⟨fun c96_6 => ((((gh89).2 r89 W89 hr89)).1 c96_6), fun c96_6 => ((((gh89).2 r89 W89 hr89)).2 c96_6)⟩)⟩)))
set_option maxRecDepth 8000 in
theorem zp_MTrl6_104 {n K : Nat} {V : zW} {post : zPo} {g u op t y x b : Int}  (hK : 5 ≤ K) (hn : 142 ≤ n) (h : ∃ s108 : gSt, (gW V g s108 ∧ s108.2.2.2.1 = t ∧ ¬ s108.2.2.2.2.1 = 1 ∧ zBn V (V.1 90 37) s108.1) ∧ ∀ r108 : Int, ∀ W108 : zW, (zFr [(90, 37)] [100, 101] V W108 ∧ zFo g V W108 ∧ ((r108 = 0 ∧ ∃ s2 : gSt, gP (V.2.1 91) (V.1 90 1) s108 s2 ∧ gW W108 g s2 ∧ W108.1 90 37 = s2.1 ∧ s2.2.2.2.1 = t ∧ s2.2.2.2.2.2 = s108.2.2.2.2.2 ∧ s2.2.1 = s108.2.1 ∧ ((s2.2.2.2.2.1 = s108.2.2.2.2.1 ∧ s2.1 = s108.1) ∨ s2.2.2.2.2.1 = (if s108.2.2.2.2.1 = 0 then 0 else 4)) ∧ ¬ gcR (xLk (V.2.1 91) (V.1 90 1) s2.1)) ∨ (0 < r108 ∧ r108 ≤ 1000000 ∧ gF (V.2.1 91) (V.1 90 1) s108))) → zwp jtb zsh n zm_MTrl6 post (K - 5) (lGo ak_ZMTrl6 113) 113 [some (.inr (.inr (some (.inl 90)))), some (.inl (g)), some (.inl (u)), some (.inl (op)), some (.inl (t)), some (.inl (r108)), some (.inl (x)), some (.inl (b))] [] W108) : zwp jtb zsh n zm_MTrl6 post K (lGo ak_ZMTrl6 104) 104 [some (.inr (.inr (some (.inl 90)))), some (.inl (g)), some (.inl (u)), some (.inl (op)), some (.inl (t)), some (.inl (y)), some (.inl (x)), some (.inl (b))] [] V := by
  obtain ⟨kk__, rfl⟩ : ∃ kk__, K = kk__ + 5 := ⟨K - 5, by omega⟩
  exact (show 3 = 3 ∧ false = false ∧ jin3 330 2639 7 zm_MTrl6.2.2.1.1 = true ∧ lRm zm_MTrl6.2.1 { frames := 1, cells := 0, slots := 0, locals := 21 } 11 = true ∧ Nat.ble 3 3 = true ∧ Nat.ble 0 8 = true ∧ 90 < n ∧ 12 = 12 ∧ Nat.ble 1000 12 = false ∧ zc_MTrrm [.inr (.inr (some (.inl 90))), .inl (g), .inl (t)] V (fun vv__ WW__ => zwp jtb zsh n zm_MTrl6 post (kk__ + 1) (lGo ak_ZMTrl6 111) 111 [some (.inr (.inr (some (.inl 90)))), some (.inl (g)), some (.inl (u)), some (.inl (op)), some (.inl (t)), some (.inl (y)), some (.inl (x)), some (.inl (b))] (vv__.toList ++ []) WW__) from (Exists.elim (h) (fun s108 gh108 => ⟨rfl, rfl, rfl, rfl, rfl, rfl, (Nat.lt_of_lt_of_le (by decide) hn), rfl, rfl, g, t, s108, rfl, (gh108).1, fun r108 W108 hr108 => (show zwp jtb zsh n zm_MTrl6 post (kk__ + 0) (lGo ak_ZMTrl6 113) 113 [some (.inr (.inr (some (.inl 90)))), some (.inl (g)), some (.inl (u)), some (.inl (op)), some (.inl (t)), some (.inl (r108)), some (.inl (x)), some (.inl (b))] [] W108 from ((gh108).2 r108 W108 hr108))⟩)))
set_option maxRecDepth 8000 in
theorem zp_MTrl6_113 {n K : Nat} {V : zW} {post : zPo} {g u op t y x b : Int}  (hK : 40 ≤ K) (hn : 142 ≤ n) (h : (¬ y = 0 → (y ≤ 0 → zwp jtb zsh n zm_MTrl6 post (K - 5) (lGo ak_ZMTrl6 3) 3 [some (.inr (.inr (some (.inl 90)))), some (.inl (g)), some (.inl (u)), some (.inl (op)), some (.inl (t)), some (.inl (y)), some (.inl (x)), some (.inl (b))] [] V) ∧ (¬ y ≤ 0 → post (some (.inl (y))) V)) ∧ (y = 0 → (zTp V) ∧ ∀ r119 : Int, (r119 = zLk V (V.1 90 37)) → (¬ r119 = 40 → (y ≤ 0 → zwp jtb zsh n zm_MTrl6 post (K - 9) (lGo ak_ZMTrl6 3) 3 [some (.inr (.inr (some (.inl 90)))), some (.inl (g)), some (.inl (u)), some (.inl (op)), some (.inl (t)), some (.inl (y)), some (.inl (x)), some (.inl (b))] [] V) ∧ (¬ y ≤ 0 → post (some (.inl (y))) V)) ∧ (r119 = 40 → (¬ op = 6 → (-2147483648 ≤ (V.1 90 37) + 1 ∧ (V.1 90 37) + 1 ≤ 2147483647) ∧ zwp jtb zsh n zm_MTrl6 post (K - 19) (lGo ak_ZMTrl6 168) 168 [some (.inr (.inr (some (.inl 90)))), some (.inl (g)), some (.inl (u)), some (.inl (op)), some (.inl (t)), some (.inl (0)), some (.inl (x)), some (.inl (b))] [] (zuF V 90 37 ((V.1 90 37) + 1))) ∧ (op = 6 → ((1 ≤ (8 : Int) ∧ (8 : Int) ≤ 9) ∧ 0 ≤ (V.1 90 37) ∧ (V.1 90 37) ≤ 65536) ∧ ∀ r139 : Int, (r139 = 100000 * (8 : Int) + (V.1 90 37)) → (-2147483648 ≤ (V.1 90 37) + 1 ∧ (V.1 90 37) + 1 ≤ 2147483647) ∧ (r139 ≤ 0 → zwp jtb zsh n zm_MTrl6 post (K - 23) (lGo ak_ZMTrl6 168) 168 [some (.inr (.inr (some (.inl 90)))), some (.inl (g)), some (.inl (u)), some (.inl (op)), some (.inl (t)), some (.inl (r139)), some (.inl (x)), some (.inl (b))] [] (zuF V 90 37 ((V.1 90 37) + 1))) ∧ (¬ r139 ≤ 0 → (r139 ≤ 0 → (-2147483648 ≤ ((V.1 90 37) + 1) + 1 ∧ ((V.1 90 37) + 1) + 1 ≤ 2147483647) ∧ (r139 ≤ 0 → zwp jtb zsh n zm_MTrl6 post (K - 36) (lGo ak_ZMTrl6 212) 212 [some (.inr (.inr (some (.inl 90)))), some (.inl (g)), some (.inl (u)), some (.inl (op)), some (.inl (t)), some (.inl (r139)), some (.inl (x)), some (.inl (b))] [] (zuF (zuF V 90 37 ((V.1 90 37) + 1)) 90 37 (((V.1 90 37) + 1) + 1))) ∧ (¬ r139 ≤ 0 → zwp jtb zsh n zm_MTrl6 post (K - 40) (lGo ak_ZMTrl6 113) 113 [some (.inr (.inr (some (.inl 90)))), some (.inl (g)), some (.inl (u)), some (.inl (op)), some (.inl (t)), some (.inl (r139)), some (.inl (x)), some (.inl (b))] [] (zuF (zuF V 90 37 ((V.1 90 37) + 1)) 90 37 (((V.1 90 37) + 1) + 1)))) ∧ (¬ r139 ≤ 0 → (r139 ≤ 0 → zwp jtb zsh n zm_MTrl6 post (K - 35) (lGo ak_ZMTrl6 212) 212 [some (.inr (.inr (some (.inl 90)))), some (.inl (g)), some (.inl (u)), some (.inl (op)), some (.inl (t)), some (.inl (r139)), some (.inl (x)), some (.inl (b))] [] (zuF (zuF V 90 37 ((V.1 90 37) + 1)) 90 37 ((V.1 90 37) + 1))) ∧ (¬ r139 ≤ 0 → zwp jtb zsh n zm_MTrl6 post (K - 39) (lGo ak_ZMTrl6 113) 113 [some (.inr (.inr (some (.inl 90)))), some (.inl (g)), some (.inl (u)), some (.inl (op)), some (.inl (t)), some (.inl (r139)), some (.inl (x)), some (.inl (b))] [] (zuF (zuF V 90 37 ((V.1 90 37) + 1)) 90 37 ((V.1 90 37) + 1))))))))) : zwp jtb zsh n zm_MTrl6 post K (lGo ak_ZMTrl6 113) 113 [some (.inr (.inr (some (.inl 90)))), some (.inl (g)), some (.inl (u)), some (.inl (op)), some (.inl (t)), some (.inl (y)), some (.inl (x)), some (.inl (b))] [] V := by
  obtain ⟨kk__, rfl⟩ : ∃ kk__, K = kk__ + 40 := ⟨K - 40, by omega⟩
  exact (show (¬ y = 0 → (y ≤ 0 → zwp jtb zsh n zm_MTrl6 post (kk__ + 35) (lGo ak_ZMTrl6 3) 3 [some (.inr (.inr (some (.inl 90)))), some (.inl (g)), some (.inl (u)), some (.inl (op)), some (.inl (t)), some (.inl (y)), some (.inl (x)), some (.inl (b))] [] V) ∧ (¬ y ≤ 0 → 1 = 1 ∧ True ∧ post (some (.inl (y))) V)) ∧ (y = 0 → 3 = 3 ∧ false = false ∧ jin3 278 2574 2 zm_MTrl6.2.2.1.1 = true ∧ lRm zm_MTrl6.2.1 { frames := 0, cells := 0, slots := 0, locals := 0 } 1 = true ∧ Nat.ble 1 1 = true ∧ Nat.ble 0 8 = true ∧ 90 < n ∧ 12 = 12 ∧ Nat.ble 1000 12 = false ∧ zc_MTlook [.inr (.inr (some (.inl 90)))] V (fun vv__ WW__ => zwp jtb zsh n zm_MTrl6 post (kk__ + 36) (lGo ak_ZMTrl6 122) 122 [some (.inr (.inr (some (.inl 90)))), some (.inl (g)), some (.inl (u)), some (.inl (op)), some (.inl (t)), some (.inl (y)), some (.inl (x)), some (.inl (b))] (vv__.toList ++ []) WW__)) from ⟨fun c115_1 => ⟨fun c226_3 => ((((h).1 c115_1)).1 c226_3), fun c226_3 => (have h := ((((h).1 c115_1)).2 c226_3); ⟨rfl, trivial, h⟩)⟩, fun c115_1 => ⟨rfl, rfl, rfl, rfl, rfl, rfl, (Nat.lt_of_lt_of_le (by decide) hn), rfl, rfl, rfl, (((h).2 c115_1)).1, fun r119 hr119 => (show (¬ r119 = 40 → (y ≤ 0 → zwp jtb zsh n zm_MTrl6 post (kk__ + 31) (lGo ak_ZMTrl6 3) 3 [some (.inr (.inr (some (.inl 90)))), some (.inl (g)), some (.inl (u)), some (.inl (op)), some (.inl (t)), some (.inl (y)), some (.inl (x)), some (.inl (b))] [] V) ∧ (¬ y ≤ 0 → 1 = 1 ∧ True ∧ post (some (.inl (y))) V)) ∧ (r119 = 40 → (¬ op = 6 → 90 < n ∧ 12 = 12 ∧ (-2147483648 ≤ (V.1 90 37) + 1 ∧ (V.1 90 37) + 1 ≤ 2147483647) ∧ 90 < n ∧ 12 = 12 ∧ (some 0 : Option Nat) = some 0 ∧ ((0 : Nat) = 0 ∨ ((0 : Nat) = 1 ∧ (((V.1 90 37) + 1) = 0 ∨ ((V.1 90 37) + 1) = 1))) ∧ ((0 : Int) ≤ 0 → zwp jtb zsh n zm_MTrl6 post (kk__ + 21) (lGo ak_ZMTrl6 168) 168 [some (.inr (.inr (some (.inl 90)))), some (.inl (g)), some (.inl (u)), some (.inl (op)), some (.inl (t)), some (.inl (0)), some (.inl (x)), some (.inl (b))] [] (zuF V 90 37 ((V.1 90 37) + 1))) ∧ (¬ (0 : Int) ≤ 0 → zwp jtb zsh n zm_MTrl6 post (kk__ + 21) (lGo ak_ZMTrl6 163) 163 [some (.inr (.inr (some (.inl 90)))), some (.inl (g)), some (.inl (u)), some (.inl (op)), some (.inl (t)), some (.inl (0)), some (.inl (x)), some (.inl (b))] [] (zuF V 90 37 ((V.1 90 37) + 1)))) ∧ (op = 6 → 90 < n ∧ 12 = 12 ∧ 3 = 3 ∧ true = true ∧ jin3 287 2588 8 zm_MTrl6.2.2.1.1 = true ∧ lRm zm_MTrl6.2.1 { frames := 0, cells := 0, slots := 0, locals := 0 } 2 = true ∧ Nat.ble 2 2 = true ∧ Nat.ble 0 8 = true ∧ zc_MTflt [.inl (8), .inl (V.1 90 37)] V (fun vv__ WW__ => zwp jtb zsh n zm_MTrl6 post (kk__ + 27) (lGo ak_ZMTrl6 142) 142 [some (.inr (.inr (some (.inl 90)))), some (.inl (g)), some (.inl (u)), some (.inl (op)), some (.inl (t)), some (.inl (y)), some (.inl (x)), some (.inl (b))] (vv__.toList ++ []) WW__))) from (have h := ((((h).2 c115_1)).2 r119 hr119); ⟨fun c124_5 => ⟨fun c226_7 => ((((h).1 c124_5)).1 c226_7), fun c226_7 => (have h := ((((h).1 c124_5)).2 c226_7); ⟨rfl, trivial, h⟩)⟩, fun c124_5 => ⟨fun c130_8 => (have h := ((((h).2 c124_5)).1 c130_8); ⟨(Nat.lt_of_lt_of_le (by decide) hn), rfl, ⟨(h).1, ⟨(Nat.lt_of_lt_of_le (by decide) hn), rfl, rfl, (Or.inl rfl), ⟨fun _ => (h).2, fun hc18 => absurd hc18 (by decide)⟩⟩⟩⟩), fun c130_8 => (have h := ((((h).2 c124_5)).2 c130_8); ⟨(Nat.lt_of_lt_of_le (by decide) hn), rfl, ⟨rfl, rfl, rfl, rfl, rfl, rfl, 8, V.1 90 37, rfl, (h).1, fun r139 hr139 => (show 90 < n ∧ 12 = 12 ∧ (-2147483648 ≤ (V.1 90 37) + 1 ∧ (V.1 90 37) + 1 ≤ 2147483647) ∧ 90 < n ∧ 12 = 12 ∧ (some 0 : Option Nat) = some 0 ∧ ((0 : Nat) = 0 ∨ ((0 : Nat) = 1 ∧ (((V.1 90 37) + 1) = 0 ∨ ((V.1 90 37) + 1) = 1))) ∧ (r139 ≤ 0 → zwp jtb zsh n zm_MTrl6 post (kk__ + 17) (lGo ak_ZMTrl6 168) 168 [some (.inr (.inr (some (.inl 90)))), some (.inl (g)), some (.inl (u)), some (.inl (op)), some (.inl (t)), some (.inl (r139)), some (.inl (x)), some (.inl (b))] [] (zuF V 90 37 ((V.1 90 37) + 1))) ∧ (¬ r139 ≤ 0 → (r139 ≤ 0 → 90 < n ∧ 12 = 12 ∧ (-2147483648 ≤ ((V.1 90 37) + 1) + 1 ∧ ((V.1 90 37) + 1) + 1 ≤ 2147483647) ∧ 90 < n ∧ 12 = 12 ∧ (some 0 : Option Nat) = some 0 ∧ ((0 : Nat) = 0 ∨ ((0 : Nat) = 1 ∧ ((((V.1 90 37) + 1) + 1) = 0 ∨ (((V.1 90 37) + 1) + 1) = 1))) ∧ (r139 ≤ 0 → zwp jtb zsh n zm_MTrl6 post (kk__ + 4) (lGo ak_ZMTrl6 212) 212 [some (.inr (.inr (some (.inl 90)))), some (.inl (g)), some (.inl (u)), some (.inl (op)), some (.inl (t)), some (.inl (r139)), some (.inl (x)), some (.inl (b))] [] (zuF (zuF V 90 37 ((V.1 90 37) + 1)) 90 37 (((V.1 90 37) + 1) + 1))) ∧ (¬ r139 ≤ 0 → zwp jtb zsh n zm_MTrl6 post (kk__ + 0) (lGo ak_ZMTrl6 113) 113 [some (.inr (.inr (some (.inl 90)))), some (.inl (g)), some (.inl (u)), some (.inl (op)), some (.inl (t)), some (.inl (r139)), some (.inl (x)), some (.inl (b))] [] (zuF (zuF V 90 37 ((V.1 90 37) + 1)) 90 37 (((V.1 90 37) + 1) + 1)))) ∧ (¬ r139 ≤ 0 → 90 < n ∧ 12 = 12 ∧ 90 < n ∧ 12 = 12 ∧ (some 0 : Option Nat) = some 0 ∧ ((0 : Nat) = 0 ∨ ((0 : Nat) = 1 ∧ (((V.1 90 37) + 1) = 0 ∨ ((V.1 90 37) + 1) = 1))) ∧ (r139 ≤ 0 → zwp jtb zsh n zm_MTrl6 post (kk__ + 5) (lGo ak_ZMTrl6 212) 212 [some (.inr (.inr (some (.inl 90)))), some (.inl (g)), some (.inl (u)), some (.inl (op)), some (.inl (t)), some (.inl (r139)), some (.inl (x)), some (.inl (b))] [] (zuF (zuF V 90 37 ((V.1 90 37) + 1)) 90 37 ((V.1 90 37) + 1))) ∧ (¬ r139 ≤ 0 → zwp jtb zsh n zm_MTrl6 post (kk__ + 1) (lGo ak_ZMTrl6 113) 113 [some (.inr (.inr (some (.inl 90)))), some (.inl (g)), some (.inl (u)), some (.inl (op)), some (.inl (t)), some (.inl (r139)), some (.inl (x)), some (.inl (b))] [] (zuF (zuF V 90 37 ((V.1 90 37) + 1)) 90 37 ((V.1 90 37) + 1))))) from ⟨(Nat.lt_of_lt_of_le (by decide) hn), rfl, ⟨(((h).2 r139 hr139)).1, ⟨(Nat.lt_of_lt_of_le (by decide) hn), rfl, rfl, (Or.inl rfl), ⟨fun c160_22 => (((((h).2 r139 hr139)).2).1 c160_22), fun c160_22 => (have h := (((((h).2 r139 hr139)).2).2 c160_22); ⟨fun c183_28 => ⟨(Nat.lt_of_lt_of_le (by decide) hn), rfl, ⟨(((h).1 c183_28)).1, ⟨(Nat.lt_of_lt_of_le (by decide) hn), rfl, rfl, (Or.inl rfl), ⟨fun c204_35 => (((((h).1 c183_28)).2).1 c204_35), fun c204_35 => (((((h).1 c183_28)).2).2 c204_35)⟩⟩⟩⟩, fun c183_28 => ⟨(Nat.lt_of_lt_of_le (by decide) hn), rfl, ⟨(Nat.lt_of_lt_of_le (by decide) hn), rfl, rfl, (Or.inl rfl), ⟨fun c204_34 => ((((h).2 c183_28)).1 c204_34), fun c204_34 => ((((h).2 c183_28)).2 c204_34)⟩⟩⟩⟩)⟩⟩⟩⟩)⟩⟩)⟩⟩))⟩⟩)
set_option maxRecDepth 1000000 in
set_option maxHeartbeats 4000000 in
theorem zk_MTrl6 {l : Launch} {E : jE} {n : Nat} (hn : 142 ≤ n) : zHas l E jcl jtb lw_tbl zsh n (y_MT_readLine, false, 4, 12, { frames := 9, cells := 0, slots := 0, locals := 234 }, zc_MTrl6) := by
  refine ⟨⟨rfl, rfl, ⟨show 1 ≤ 4 by decide, m_MT_readLine, i_MT_readLine, e_MT_readLine, fun _ => ⟨_, rfl, rfl⟩⟩⟩, ?_⟩
  rintro vz W po hO hW ⟨g, u, op, s, rfl, hq, hp⟩
  refine zmet (m := zm_MTrl6) rfl (by decide) (fun _ _ => jtF_ok) lo_MT ao_ZMTrl6 jC (fun q h => by cases h) (aAllc (fun G h => by obtain rfl := Option.some.inj h; exact ql_MT_275) (aAllc (fun G h => by obtain rfl := Option.some.inj h; exact ql_MT_318) (aAllc (fun G h => by obtain rfl := Option.some.inj h; exact ql_MT_278) (aAllc (fun G h => by obtain rfl := Option.some.inj h; exact ql_MT_96) (aAllc (fun G h => by obtain rfl := Option.some.inj h; exact ql_MT_321) (aAllc (fun G h => by obtain rfl := Option.some.inj h; exact ql_MT_324) (aAllc (fun G h => by obtain rfl := Option.some.inj h; exact ql_MT_327) (aAllc (fun G h => by obtain rfl := Option.some.inj h; exact ql_MT_330) (aAllc (fun G h => by obtain rfl := Option.some.inj h; exact ql_MT_287) (aAllc (fun G h => by obtain rfl := Option.some.inj h; exact ql_MT_333) (fun q h => by cases h))))))))))) (aAllc (zk_MTbl hn) (aAllc (zk_MTrsh hn) (aAllc (zk_MTlook hn) (aAllc (zk_MTplace hn) (aAllc (zk_MTrmn hn) (aAllc (zk_MTrmv hn) (aAllc (zk_MTrmk hn) (aAllc (zk_MTrrm hn) (aAllc (zk_MTflt hn) (aAllc (zk_MTrl7 hn) (fun q h => by cases h))))))))))) (Nat.le_of_ble_eq_true rfl) hO hW (66000000) ?_
  have op6 := hq.1
  have hI0 := hq.2.2.1
  have hg := hq.2.1.1
  have elen : (s.2.2.2.2.2.length : Int) = 6 := hq.2.2.2.2.1
  have hB0 : xBs (W.2.1 91) (W.1 90 1) s.1 s.1 := xBs_i hq.2.2.2.2.2.2.1
  have i0 : gJ3 W W g u u s := ⟨⟨zFr_0, zFo_0⟩, s, gP_0, hq.2.1, hq.2.2.2.2.2.2.1, hq.2.2.2.1, rfl, Or.inl ⟨hq.2.2.2.1, Or.inr hq.2.2.2.2.2.1⟩⟩
  have main : ∀ m : Nat, (∀ (K : Nat) (V : zW) (t : Int) (u5 u6 u7 : Option zv), gJ3 W V g u t s → W.1 90 1 - V.1 90 37 < (m : Nat) → 1000 * m + 500 ≤ K → zwp jtb zsh n zm_MTrl6 po K (lGo ak_ZMTrl6 3) 3 [some (.inr (.inr (some (.inl 90)))), some (.inl g), some (.inl u), some (.inl op), some (.inl (t)), u5, u6, u7] [] V) ∧ (∀ (K : Nat) (V : zW) (t y x b : Int), gJ5 W V g u t b y s → (y = 0 → W.1 90 1 - V.1 90 37 < (m : Nat)) → 1000 * m + 700 ≤ K → zwp jtb zsh n zm_MTrl6 po K (lGo ak_ZMTrl6 113) 113 [some (.inr (.inr (some (.inl 90)))), some (.inl g), some (.inl u), some (.inl op), some (.inl (t)), some (.inl (y)), some (.inl (x)), some (.inl (b))] [] V) := by
    intro m
    induction m with
    | zero =>
      have h3 : (∀ (K : Nat) (V : zW) (t : Int) (u5 u6 u7 : Option zv), gJ3 W V g u t s → W.1 90 1 - V.1 90 37 < (0 : Nat) → 1000 * 0 + 500 ≤ K → zwp jtb zsh n zm_MTrl6 po K (lGo ak_ZMTrl6 3) 3 [some (.inr (.inr (some (.inl 90)))), some (.inl g), some (.inl u), some (.inl op), some (.inl (t)), u5, u6, u7] [] V) := by
        intro K V t u5 u6 u7 hJ hm
        obtain ⟨hB, s1, _, hw, _⟩ := hJ
        have := hw.2.1.1
        have := (gBs_x hB).2
        omega
      refine ⟨h3, ?_⟩
      intro K V t y x b hJ hm hK
      have y0 : 0 < y := by
        rcases hJ.2 with h | ⟨h, s1, _, hw, _⟩
        · exact h.1
        · exfalso
          have := hm h
          have := hw.2.1.1
          have := (gBs_x hJ.1).2
          omega
      have b231 : 0 < y → po (some (.inl y)) V := fun _ => hp _ _ ⟨hJ.1.1, hJ.1.2, Or.inr (hJ.2.resolve_right (fun z => by have := z.1; omega))⟩
      exact zp_MTrl6_113 (by omega) hn ⟨fun c115 => ⟨fun c226 => (by exfalso; omega), fun c226 => b231 (by omega)⟩, fun c115 => (by exfalso; omega)⟩
    | succ m ih =>
      have ih113 := ih.2
      have h3 : (∀ (K : Nat) (V : zW) (t : Int) (u5 u6 u7 : Option zv), gJ3 W V g u t s → W.1 90 1 - V.1 90 37 < ((m + 1) : Nat) → 1000 * (m + 1) + 500 ≤ K → zwp jtb zsh n zm_MTrl6 po K (lGo ak_ZMTrl6 3) 3 [some (.inr (.inr (some (.inl 90)))), some (.inl g), some (.inl u), some (.inl op), some (.inl (t)), u5, u6, u7] [] V) := by
        intro K V t u5 u6 u7 hI hm hK
        obtain ⟨hB, s1, hP, hw, eb, et, ek, hH⟩ := hI
        have hI : gBs W V g ∧ True := ⟨hB, trivial⟩
        have e1 := gBs_x hB
        have hI1 := (gI_p hI0 hP).1
        have elen : (s1.2.2.2.2.2.length : Int) = 6 := by rw [ek]; exact elen
        have ate : ∀ U, (zFr [(90, 37)] [] V U ∧ zTp U ∧ zBn V (V.1 90 37) (U.1 90 37)) → U.1 90 37 = s1.1 := fun U h => xBs_u h.2.2 eb
        have lk4 : ∀ U, (zFr [(90, 37)] [] V U ∧ zTp U ∧ zBn V (V.1 90 37) (U.1 90 37)) → zLk U (U.1 90 37) = xLk (W.2.1 91) (W.1 90 1) s1.1 := fun U h => by rw [gLk (gBs_f hB h.1).1, ate U h]
        have st2 : ¬ t = u → 2 ≤ s1.2.2.2.2.1 := by
          intro h
          rcases hH with z | z
          · exact absurd (et.symm.trans z.1) h
          · have := z.2.1; omega
        have ret : ∀ U, (zFr [(90, 37)] [] V U ∧ zTp U ∧ zBn V (V.1 90 37) (U.1 90 37)) → gEn (W.2.1 91) (W.1 90 1) 6 s1 → po (some (.inl 0)) U := by
          intro U h hE
          have B := gBs_f hB h.1
          exact hp _ _ ⟨B.1, B.2, Or.inl ⟨rfl, s1, hP, gW_fr h.1 (by decide) (by decide) h.2.1 hw, ate U h, ek, hE⟩⟩
        have le1 : V.1 90 37 ≤ s1.1 := eb.1.1
        have h38 : ∀ U, (zFr [(90, 37)] [] V U ∧ zTp U ∧ zBn V (V.1 90 37) (U.1 90 37)) → ¬ gOv (W.2.1 91) (W.1 90 1) s1 → (xLk (W.2.1 91) (W.1 90 1) s1.1 = 41 → ¬ s1.2.2.2.1 = u → s1.2.2.2.2.2 = []) → ∀ K : Nat, 1000 * m + 1300 ≤ K → zwp jtb zsh n zm_MTrl6 po K (lGo ak_ZMTrl6 38) 38 [some (.inr (.inr (some (.inl 90)))), some (.inl g), some (.inl u), some (.inl op), some (.inl (t)), u5, u6, u7] [] U := by
          intro U hU nO n41 K hK
          have aU := ate U hU
          have hB := gBs_f hB hU.1
          have hw := gW_fr hU.1 (by decide) (by decide) hU.2.1 hw
          have e1 := gBs_x hB
          clear hI ih ret lk4 ate
          have pre42 : (0 ≤ g ∧ g ≤ 1) ∧ (∃ N, (0 ≤ t ∧ t ≤ N ∧ N ≤ 300) ∧ xOk (zSt U g) (zro U 94 g) (zro U 95 g) N) ∧ zSb U g := ⟨hg, ⟨s1.2.1.2.1, by rw [← et]; have := hw.2.2.2.2.1; have := hw.2.2.2.1.1; omega, (zRt_O hw.2.2.1 hw.2.2.2.1).1⟩, hw.2.2.1.2.2.2.2⟩
          have at42 : ∀ W42, (zAt W42 (xPo (zSt U g) (zro U 94 g) (zro U 95 g) t) ∧ zFr [(90, 25), (90, 26), (90, 27), (90, 28), (90, 29), (90, 33)] [110, 111, 112, 113, 114] U W42) → zAt W42 (gPo s1) := fun W42 h => zAt_s hw (by rw [et]; exact h.1)
          have nu : ∀ W42 W46 r46, (zAt W42 (xPo (zSt U g) (zro U 94 g) (zro U 95 g) t) ∧ zFr [(90, 25), (90, 26), (90, 27), (90, 28), (90, 29), (90, 33)] [110, 111, 112, 113, 114] U W42) → (zFr [(90, 37)] [] W42 W46 ∧ zTp W46 ∧ zRn W42 W46 (W42.1 90 37) r46 ∧ 0 ≤ r46 ∧ r46 ≤ 1000000) → (r46 = 0 ∧ gNu (W.2.1 91) (W.1 90 1) (gPo s1).2 s1.1 (W46.1 90 37) 0) ∨ (0 < r46 ∧ gNu (W.2.1 91) (W.1 90 1) (gPo s1).2 s1.1 s1.1 1) := by
            intro W42 W46 r46 h42 h46
            have z := gNu_z (gBs_f hB h42.2).1 (by decide) (by decide) (at42 W42 h42) h46.2.2.1
            rw [zFr_f h42.2 90 37, aU] at z
            exact z
          have b58 : ∀ W42 W46 r46, (zAt W42 (xPo (zSt U g) (zro U 94 g) (zro U 95 g) t) ∧ zFr [(90, 25), (90, 26), (90, 27), (90, 28), (90, 29), (90, 33)] [110, 111, 112, 113, 114] U W42) → (zFr [(90, 37)] [] W42 W46 ∧ zTp W46 ∧ zRn W42 W46 (W42.1 90 37) r46 ∧ 0 ≤ r46 ∧ r46 ≤ 1000000) → 0 < r46 → po (some (.inl r46)) W46 := by
            intro W42 W46 r46 h42 h46 r0
            have B := gBs_f (gBs_f hB h42.2) h46.1
            have z := (nu W42 W46 r46 h42 h46).resolve_left (fun z => by omega)
            exact hp _ _ ⟨B.1, B.2, Or.inr ⟨r0, h46.2.2.2.2, gF_1 hP (gS_h hH nO n41 ⟨_, _, z.2, Or.inl ⟨rfl, rfl⟩⟩)⟩⟩
          have h59 : ∀ W42 W46 r46, (zAt W42 (xPo (zSt U g) (zro U 94 g) (zro U 95 g) t) ∧ zFr [(90, 25), (90, 26), (90, 27), (90, 28), (90, 29), (90, 33)] [110, 111, 112, 113, 114] U W42) → (zFr [(90, 37)] [] W42 W46 ∧ zTp W46 ∧ zRn W42 W46 (W42.1 90 37) r46 ∧ 0 ≤ r46 ∧ r46 ≤ 1000000) → r46 ≤ 0 → ∀ (K : Nat) (u6 u7 : Option zv), 1000 * m + 1200 ≤ K → zwp jtb zsh n zm_MTrl6 po K (lGo ak_ZMTrl6 59) 59 [some (.inr (.inr (some (.inl 90)))), some (.inl g), some (.inl u), some (.inl op), some (.inl (t)), some (.inl (r46)), u6, u7] [] W46 := by
            intro W42 W46 r46 h42 h46 r0 K u6 u7 hK
            have z := (nu W42 W46 r46 h42 h46).resolve_right (fun z => by omega)
            have B := gBs_f (gBs_f hB h42.2) h46.1
            have hw : gW W46 g s1 := gW_fr h46.1 (by decide) (by decide) h46.2.1 (gW_fr h42.2 (by decide) (by decide) (zTp_fr h42.2 hw.2.1) hw)
            have hA := zAt_fr h46.1 (by decide) (by decide) (at42 W42 h42)
            have hNu := z.2
            have e1 := gBs_x B
            generalize W46 = V at B hw hA hNu e1 ⊢
            clear z h42 h46 nu b58 pre42 at42
            have hd := gI_d hI1
            have hd6 : trE s1.2.1.2.2.1 (xLd s1.2.1.2.2.2.2.1) t + (if s1.2.1.2.2.2.2.1 t = [] then 0 else 1) ≤ 6 := by rw [et] at hd; have := hd.1; have := hI1.2.2.1; omega
            have b76 : ∀ W3 r, (zFr [(90, 36), (90, 37)] [93, 94, 95, 96, 97, 98, 100, 110, 111, 112, 115] V W3 ∧ zFo g V W3 ∧ ((r < 0 ∧ -1000000 ≤ r ∧ gMv (V.2.1 91) (V.1 90 1) s1 (V.1 90 37) none) ∨ (0 ≤ r ∧ ∃ e m, xLt (xLk (V.2.1 91) (V.1 90 1) (V.1 90 37)) ∧ xWd (V.2.1 91) (V.1 90 1) (V.1 90 37) e ∧ zUn (gPo s1).1 (fun i => V.2.1 91 (V.1 90 37 + i)) (e - V.1 90 37) m ∧ ¬ gMb s1 m ∧ r = s1.2.1.2.1 + 1 ∧ W3.1 90 37 = e ∧ gW W3 g (e, xApp s1.2.1 t m, zuI s1.2.2.1 (s1.2.1.2.1 + 1) 0, s1.2.1.2.1 + 1, 2, s1.2.2.2.2.2)))) → r < 0 → po (some (.inl (-r))) W3 := by
              intro W3 r h r0
              have B3 := gBs_o B h.1 h.2.1
              have z := h.2.2.resolve_right (fun z => by have := z.1; omega)
              rw [e1.1, e1.2] at z
              exact hp _ _ ⟨B3.1, B3.2, Or.inr ⟨by omega, by omega, gF_1 hP (gS_h hH nO n41 (gMv_0 hNu z.2.2))⟩⟩
            have h85 : ∀ W3 r, (zFr [(90, 36), (90, 37)] [93, 94, 95, 96, 97, 98, 100, 110, 111, 112, 115] V W3 ∧ zFo g V W3 ∧ ((r < 0 ∧ -1000000 ≤ r ∧ gMv (V.2.1 91) (V.1 90 1) s1 (V.1 90 37) none) ∨ (0 ≤ r ∧ ∃ e m, xLt (xLk (V.2.1 91) (V.1 90 1) (V.1 90 37)) ∧ xWd (V.2.1 91) (V.1 90 1) (V.1 90 37) e ∧ zUn (gPo s1).1 (fun i => V.2.1 91 (V.1 90 37 + i)) (e - V.1 90 37) m ∧ ¬ gMb s1 m ∧ r = s1.2.1.2.1 + 1 ∧ W3.1 90 37 = e ∧ gW W3 g (e, xApp s1.2.1 t m, zuI s1.2.2.1 (s1.2.1.2.1 + 1) 0, s1.2.1.2.1 + 1, 2, s1.2.2.2.2.2)))) → 0 ≤ r → ∀ (K : Nat) (y : Int), 1000 * m + 1100 ≤ K → zwp jtb zsh n zm_MTrl6 po K (lGo ak_ZMTrl6 85) 85 [some (.inr (.inr (some (.inl 90)))), some (.inl g), some (.inl u), some (.inl op), some (.inl (r)), some (.inl (y)), some (.inl (r)), some (.inl (t))] [] W3 := by
              intro W3 r h r0 K y hK
              have B3 := gBs_o B h.1 h.2.1
              have z := h.2.2.resolve_left (fun z => by have := z.1; omega)
              rw [e1.1, e1.2] at z
              obtain ⟨_, e, mv, h1, h2, h4, h5, h6, h7, h8⟩ := z
              obtain ⟨q, hq'⟩ := xBs_x (X := W.2.1 91) (N := W.1 90 1) (p := e) h2.1.2
              have hG : gS (W.2.1 91) (W.1 90 1) s1 (some (q, xApp s1.2.1 s1.2.2.2.1 mv, zuI s1.2.2.1 (s1.2.1.2.1 + 1) 0, s1.2.1.2.1 + 1, 2, s1.2.2.2.2.2)) := gS_h hH nO n41 (gMv_0 hNu (Or.inr ⟨h1, e, mv, h2, h4, Or.inr ⟨h5, q, hq', rfl⟩⟩))
              have hP3 := gP_1 hP hG
              have hI3 := gI_s hI1 hG
              have e3 := gBs_x B3
              have u1 : u ≤ s1.2.1.2.1 := by
                have a := (gI_p hI0 hP).2.2.1
                have b := hI0.2.1.2
                have c := hq.2.2.2.1
                omega
              rw [et] at hG hP3 hI3
              generalize es3 : ((q, xApp s1.2.1 t mv, zuI s1.2.2.1 (s1.2.1.2.1 + 1) 0, s1.2.1.2.1 + 1, 2, s1.2.2.2.2.2) : gSt) = s3 at hG hP3 hI3
              have et3 : s3.2.2.2.1 = r := by rw [← es3]; exact h6.symm
              have es2 : s3.2.2.2.2.1 = 2 := by rw [← es3]
              have em : s3.2.1.2.2.2.2.2 r = 0 := by
                rw [← es3, h6]
                exact zuI_s
              have eb3 : zBn W3 (W3.1 90 37) s3.1 := by
                show xBs (W3.2.1 91) (W3.1 90 1) (W3.1 90 37) s3.1
                rw [e3.1, e3.2, h7, ← es3]
                exact hq'
              have hw3 : gW W3 g s3 := by rw [← es3]; exact h8
              have k3 : s3.2.2.2.2.2 = s.2.2.2.2.2 := by rw [← es3]; exact ek
              have p3 : s3.2.1.2.2.1 r = t := by
                rw [← es3, h6]
                exact zuI_s
              have n3 : ¬ r = u := by omega
              have N3 : s3.2.1.2.1 = r := by rw [← es3]; exact h6.symm
              have lt3 : s1.1 < s3.1 := hI3.2.2.1
              have hI3 := hI3.1
              clear hG es3
              generalize r = x at et3 em p3 n3 N3 ⊢
              generalize W3 = V at B3 e3 eb3 hw3 ⊢
              have B := B3
              have e1 := e3
              have et := et3
              have eb := eb3
              have hw := hw3
              have j89 : ∀ W3 r, (zFr [(90, 37)] [98, 99] V W3 ∧ zFo g V W3 ∧ ((r = 0 ∧ ∃ s2 : gSt, gP (V.2.1 91) (V.1 90 1) s3 s2 ∧ gW W3 g s2 ∧ W3.1 90 37 = s2.1 ∧ s2.2.2.2.1 = x ∧ s2.2.2.2.2.2 = s3.2.2.2.2.2 ∧ ((s2.2.2.2.2.1 = 2 ∧ ¬ gcM (xLk (V.2.1 91) (V.1 90 1) s2.1)) ∨ (s2.2.2.2.2.1 = 3 ∧ ¬ xLk (V.2.1 91) (V.1 90 1) s2.1 = 36))) ∨ (0 < r ∧ r ≤ 1000000 ∧ gF (V.2.1 91) (V.1 90 1) s3))) → 0 < r → gJ5 W W3 g u x t r s := by
                intro W3 r h r0
                refine ⟨gBs_o B h.1 h.2.1, Or.inl ?_⟩
                rcases h.2.2 with h2 | h2
                · omega
                · rw [e1.1, e1.2] at h2
                  exact ⟨h2.1, h2.2.1, gF_t hP3 h2.2.2⟩
              have h104 : ∀ W3, ∀ {r : Int}, (zFr [(90, 37)] [98, 99] V W3 ∧ zFo g V W3 ∧ ((r = 0 ∧ ∃ s2 : gSt, gP (V.2.1 91) (V.1 90 1) s3 s2 ∧ gW W3 g s2 ∧ W3.1 90 37 = s2.1 ∧ s2.2.2.2.1 = x ∧ s2.2.2.2.2.2 = s3.2.2.2.2.2 ∧ ((s2.2.2.2.2.1 = 2 ∧ ¬ gcM (xLk (V.2.1 91) (V.1 90 1) s2.1)) ∨ (s2.2.2.2.2.1 = 3 ∧ ¬ xLk (V.2.1 91) (V.1 90 1) s2.1 = 36))) ∨ (0 < r ∧ r ≤ 1000000 ∧ gF (V.2.1 91) (V.1 90 1) s3))) → r ≤ 0 → ∀ (K : Nat) (y : Int), 1000 * m + 1000 ≤ K → zwp jtb zsh n zm_MTrl6 po K (lGo ak_ZMTrl6 104) 104 [some (.inr (.inr (some (.inl 90)))), some (.inl g), some (.inl u), some (.inl op), some (.inl (x)), some (.inl (y)), some (.inl (x)), some (.inl (t))] [] W3 := by
                intro W3 r h r0 K y hK
                have B4 := gBs_o B h.1 h.2.1
                have z := h.2.2.resolve_right (fun z => by omega)
                rw [e1.1, e1.2] at z
                obtain ⟨_, s4, hP4, hw4, ea4, et4, ek4, hc4⟩ := z
                have e4 := gBs_x B4
                have hQ4 := gI_p hI3 hP4
                have hb4 := gB_p (gB_p hB0 hP3) hP4
                have hP4 := gP_t hP3 hP4
                generalize W3 = V at B4 hw4 ea4 e4 ⊢
                have n1 : ¬ s4.2.2.2.2.1 = 1 := by omega
                have et := et4
                have hw := hw4
                have eb : zBn V (V.1 90 37) s4.1 := by
                  show xBs (V.2.1 91) (V.1 90 1) (V.1 90 37) s4.1
                  rw [e4.1, e4.2, ea4]
                  exact hb4
                have p4 : s4.2.1.2.2.1 x = t := by
                  have hx1 := hI3.2.1
                  have hx2 := hI3.2.2.2.2.2.resolve_left (fun z => by have := z.1; omega)
                  rw [et3] at hx1 hx2
                  rw [(hQ4.2.2.2.2 x (by have := hx2.2.2.2.2; omega) hx1.2).1]
                  exact p3
                have j108 : ∀ (W3 : zW) (r : Int), (zFr [(90, 37)] [100, 101] V W3 ∧ zFo g V W3 ∧ ((r = 0 ∧ ∃ s2 : gSt, gP (V.2.1 91) (V.1 90 1) s4 s2 ∧ gW W3 g s2 ∧ W3.1 90 37 = s2.1 ∧ s2.2.2.2.1 = x ∧ s2.2.2.2.2.2 = s4.2.2.2.2.2 ∧ s2.2.1 = s4.2.1 ∧ ((s2.2.2.2.2.1 = s4.2.2.2.2.1 ∧ s2.1 = s4.1) ∨ s2.2.2.2.2.1 = (if s4.2.2.2.2.1 = 0 then 0 else 4)) ∧ ¬ gcR (xLk (V.2.1 91) (V.1 90 1) s2.1)) ∨ (0 < r ∧ r ≤ 1000000 ∧ gF (V.2.1 91) (V.1 90 1) s4))) → gJ5 W W3 g u x t r s := by
                  intro W3 r h
                  refine ⟨gBs_o B4 h.1 h.2.1, ?_⟩
                  rcases h.2.2 with ⟨r0, s9, h1, h2, h3, h4, h5, h6, h7, h8⟩ | h2
                  · rw [e4.1, e4.2] at h1 h8
                    refine Or.inr ⟨r0, s9, gP_t hP4 h1, h2, h3, h4, h5.trans (ek4.trans k3), ?_, h8, by rw [h6]; exact p4, n3⟩
                    rcases h7 with z | z
                    · unfold gSc
                      rw [z.1, z.2]
                      rcases hc4 with y | y
                      · exact Or.inl y
                      · exact Or.inr (Or.inl y)
                    · refine Or.inr (Or.inr ?_)
                      rw [z, if_neg (by omega)]
                  · rw [e4.1, e4.2] at h2
                    exact Or.inl ⟨h2.1, h2.2.1, gF_t hP4 h2.2.2⟩
                have m108 : ∀ (W3 : zW) (r : Int), (zFr [(90, 37)] [100, 101] V W3 ∧ zFo g V W3 ∧ ((r = 0 ∧ ∃ s2 : gSt, gP (V.2.1 91) (V.1 90 1) s4 s2 ∧ gW W3 g s2 ∧ W3.1 90 37 = s2.1 ∧ s2.2.2.2.1 = x ∧ s2.2.2.2.2.2 = s4.2.2.2.2.2 ∧ s2.2.1 = s4.2.1 ∧ ((s2.2.2.2.2.1 = s4.2.2.2.2.1 ∧ s2.1 = s4.1) ∨ s2.2.2.2.2.1 = (if s4.2.2.2.2.1 = 0 then 0 else 4)) ∧ ¬ gcR (xLk (V.2.1 91) (V.1 90 1) s2.1)) ∨ (0 < r ∧ r ≤ 1000000 ∧ gF (V.2.1 91) (V.1 90 1) s4))) → r = 0 → W.1 90 1 - W3.1 90 37 < (m : Nat) := by
                  intro W3 r h r0
                  rcases h.2.2 with ⟨_, s9, h1, h2, h3, _⟩ | h2
                  · rw [e4.1, e4.2] at h1
                    have a := (gI_p hQ4.1 h1).2.1
                    have b := hQ4.2.1
                    omega
                  · omega
                exact zp_MTrl6_104 (by omega) hn ⟨s4, ⟨hw, et, n1, eb⟩, fun r108 W108 hr108 => (ih113 _ W108 _ _ _ _ (j108 W108 r108 hr108) (fun z => m108 W108 r108 hr108 z) (by omega))⟩
              exact zp_MTrl6_85 (by omega) hn ⟨s3, ⟨hw, et, es2, em, eb⟩, fun r89 W89 hr89 => ⟨fun c96 => (h104 W89 hr89 (by omega) _ _ (by omega)), fun c96 => (ih113 _ W89 _ _ _ _ (j89 W89 r89 hr89 (by omega)) (fun z => by omega) (by omega))⟩⟩
            exact zp_MTrl6_59 (by omega) hn ⟨s1, ⟨hw, et, hA, hd6⟩, fun r63 W63 hr63 => ⟨fun c70 => (h85 W63 r63 hr63 (by omega) _ _ (by omega)), fun c70 => ⟨(by have := hr63.2.2; omega), (b76 W63 r63 hr63 (by omega))⟩⟩⟩
          exact zp_MTrl6_38 (by omega) hn ⟨pre42, fun W42 hr42 => ⟨(zTp_fr hr42.2 hw.2.1), fun r46 W46 hr46 => ⟨fun c53 => (h59 W42 W46 r46 hr42 hr46 (by omega) _ _ _ (by omega)), fun c53 => (b58 W42 W46 r46 hr42 hr46 (by omega))⟩⟩⟩
        exact zp_MTrl6_3 (by omega) hn ⟨hw.2.1, fun W4 hr4 => ⟨fun c8 => ⟨hr4.2.1, fun r22 hr22 => ⟨fun c27 => (by first | (exfalso; omega) | exact h38 W4 hr4 (fun z => by rw [z.1] at elen; exact absurd elen (by decide)) (fun z1 z2 => by exfalso; have z := lk4 W4 hr4; omega) _ (by omega)), fun c27 => ⟨fun c33 => (by first | (exfalso; omega) | exact h38 W4 hr4 (fun z => by rw [z.1] at elen; exact absurd elen (by decide)) (fun z1 z2 => by exfalso; have z := lk4 W4 hr4; omega) _ (by omega)), fun c33 => (by first | (exfalso; omega) | exact ret W4 hr4 (Or.inr ⟨by decide, by have z := lk4 W4 hr4; omega, by have := st2 (by omega); omega, by have := st2 (by omega); omega⟩))⟩⟩⟩, fun c8 => ⟨hr4.2.1, fun r12 hr12 => ⟨fun c15 => (by first | (exfalso; omega) | exact h38 W4 hr4 (fun z => by rw [z.1] at elen; exact absurd elen (by decide)) (fun z1 z2 => by exfalso; have z := lk4 W4 hr4; omega) _ (by omega)), fun c15 => (by first | (exfalso; omega) | exact ret W4 hr4 (Or.inr ⟨by decide, by have z := lk4 W4 hr4; omega, by have := st2 (by omega); omega, by have := st2 (by omega); omega⟩))⟩⟩⟩⟩
      refine ⟨h3, ?_⟩
      intro K V t y x b hJ hm hK
      have j5 : ∀ V, gJ5 W V g u t b y s → y = 0 → gBs W V g ∧ ∃ s1 : gSt, gP (W.2.1 91) (W.1 90 1) s s1 ∧ gW V g s1 ∧ V.1 90 37 = s1.1 ∧ s1.2.2.2.1 = t ∧ s1.2.2.2.2.2 = s.2.2.2.2.2 ∧ gSc (W.2.1 91) (W.1 90 1) s1 ∧ ¬ gcR (xLk (W.2.1 91) (W.1 90 1) s1.1) ∧ s1.2.1.2.2.1 t = b ∧ ¬ t = u := fun V h y0 => ⟨h.1, (h.2.resolve_left (fun z => by have := z.1; omega)).2⟩
      have y0 : 0 ≤ y := by rcases hJ.2 with h | h <;> omega
      have tq : ∀ V, gJ5 W V g u t b y s → y = 0 → zTp V := fun V h y0 => by obtain ⟨_, s1, _, hw, _⟩ := j5 V h y0; exact hw.2.1
      have tpV : ∀ V, gJ5 W V g u t b y s → y = 0 → 0 ≤ V.1 90 37 ∧ V.1 90 37 ≤ 65536 := fun V h y0 => by have z := tq V h y0; have := z.1; have := z.2.1; omega
      have b231 : 0 < y → po (some (.inl y)) V := fun _ => hp _ _ ⟨hJ.1.1, hJ.1.2, Or.inr (hJ.2.resolve_right (fun z => by have := z.1; omega))⟩
      have j3 : ∀ V, gJ5 W V g u t b y s → y = 0 → ¬ zLk V (V.1 90 37) = 40 → gJ3 W V g u t s := by
        intro V h y0 h40
        obtain ⟨hB, s1, hP, hw, ea, et, ek, hs, hr, eb, ntu⟩ := j5 V h y0
        rw [gLk hB.1, ea] at h40
        refine ⟨hB, s1, hP, hw, ?_, et, ek, Or.inr ⟨by rw [et]; exact ntu, hs, hr, h40⟩⟩
        show xBs (V.2.1 91) (V.1 90 1) (V.1 90 37) s1.1
        rw [(gBs_x hB).1, (gBs_x hB).2, ea]
        exact gB_p hB0 hP
      have j139 : ∀ U, zFr [(90, 37)] [] V U → y = 0 → zLk V (V.1 90 37) = 40 → ∀ r : Int, op = 6 ∧ 0 < r ∧ r ≤ 1000000 → gJ5 W U g u t b r s := by
        intro U hU y0 c40 r hr
        obtain ⟨hB, s1, hP, hw, ea, et, ek, hs, _, eb, ntu⟩ := j5 V hJ y0
        have e40 : xLk (W.2.1 91) (W.1 90 1) s1.1 = 40 := by rw [← ea, ← gLk hB.1]; exact c40
        have hx := xLk_i (X := W.2.1 91) (N := W.1 90 1) (p := s1.1) (by omega)
        have hst : ¬ s1.2.2.2.2.1 = 0 ∧ ¬ s1.2.2.2.2.1 = 1 := by unfold gSc at hs; omega
        exact ⟨gBs_f hB hU, Or.inl ⟨hr.2.1, hr.2.2, gF_1 hP (Or.inr (Or.inr (Or.inl ⟨Or.inl e40, Or.inr ⟨hst, Or.inl ⟨by omega, Or.inl ⟨by rw [ek]; omega, rfl⟩⟩⟩⟩)))⟩⟩

      exact zp_MTrl6_113 (by omega) hn ⟨fun c115 => ⟨fun c226 => (by first | (exfalso; omega) | (exfalso; have := tpV V hJ (by omega); omega) | exact h3 _ V _ _ _ _ (j3 V hJ (by omega) (by omega)) (hm (by omega)) (by omega)), fun c226 => (b231 (by omega))⟩, fun c115 => ⟨(tq V hJ (by omega)), fun r119 hr119 => ⟨fun c124 => ⟨fun c226 => (by first | (exfalso; omega) | (exfalso; have := tpV V hJ (by omega); omega) | exact h3 _ V _ _ _ _ (j3 V hJ (by omega) (by omega)) (hm (by omega)) (by omega)), fun c226 => (b231 (by omega))⟩, fun c124 => ⟨fun c130 => ⟨(by have := tpV V hJ (by omega); omega), (by first | (exfalso; omega) | (exfalso; have := tpV V hJ (by omega); omega) | exact h168 _ rfl (by omega) (by omega) _ (by omega))⟩, fun c130 => ⟨(by have := tpV V hJ (by omega); omega), fun r139 hr139 => ⟨(by have := tpV V hJ (by omega); omega), ⟨fun c160 => (by first | (exfalso; omega) | (exfalso; have := tpV V hJ (by omega); omega) | exact h168 _ rfl (by omega) (by omega) _ (by omega)), fun c160 => ⟨fun c183 => ⟨(by have := tpV V hJ (by omega); omega), ⟨fun c204 => (by first | (exfalso; omega) | (exfalso; have := tpV V hJ (by omega); omega) | exact ih113 _ _ _ _ _ _ (j139 _ (zFr_F (zFr_F (zFr_0 (Fs := [(90, 37)]) (Rs := [])) (by decide)) (by decide)) (by omega) (by omega) r139 (by have := tpV V hJ (by omega); omega)) (fun z => by omega) (by omega)), fun c204 => (by first | (exfalso; omega) | (exfalso; have := tpV V hJ (by omega); omega) | exact ih113 _ _ _ _ _ _ (j139 _ (zFr_F (zFr_F (zFr_0 (Fs := [(90, 37)]) (Rs := [])) (by decide)) (by decide)) (by omega) (by omega) r139 (by have := tpV V hJ (by omega); omega)) (fun z => by omega) (by omega))⟩⟩, fun c183 => ⟨fun c204 => (by first | (exfalso; omega) | (exfalso; have := tpV V hJ (by omega); omega) | exact ih113 _ _ _ _ _ _ (j139 _ (zFr_F (zFr_F (zFr_0 (Fs := [(90, 37)]) (Rs := [])) (by decide)) (by decide)) (by omega) (by omega) r139 (by have := tpV V hJ (by omega); omega)) (fun z => by omega) (by omega)), fun c204 => (by first | (exfalso; omega) | (exfalso; have := tpV V hJ (by omega); omega) | exact ih113 _ _ _ _ _ _ (j139 _ (zFr_F (zFr_F (zFr_0 (Fs := [(90, 37)]) (Rs := [])) (by decide)) (by decide)) (by omega) (by omega) r139 (by have := tpV V hJ (by omega); omega)) (fun z => by omega) (by omega))⟩⟩⟩⟩⟩⟩⟩⟩⟩
  exact zp_MTrl6_0 (by omega) hn ((main 65537).1 _ W _ _ _ _ i0 (by have := hq.2.1.2.1.1; have := hq.2.1.2.1.2.1; omega) (by omega))
noncomputable def ak_ZMTrl5 : List jI := ak_ZMTrl6
theorem ao_ZMTrl5 : jokLG jtF lk_MT "ChessHouseModel$Texts" jcl jtb 8 prog_18_method_68_code 0 ak_ZMTrl5 = true := ao_ZMTrl6
noncomputable def zm_MTrl5 : zM := (some .int, { frames := 10, cells := 0, slots := 0, locals := 261 }, ([(275, 2570, 0), (318, 2647, 1), (278, 2574, 2), (96, 1933, 3), (321, 2655, 4), (324, 2659, 5), (327, 2710, 6), (330, 2639, 7), (287, 2588, 8), (333, 2643, 9)], []), [(y_MT_blanks, false, 1, 12, { frames := 0, cells := 0, slots := 0, locals := 0 }, zc_MTbl), (y_MT_resultHere, false, 1, 12, { frames := 1, cells := 0, slots := 0, locals := 23 }, zc_MTrsh), (y_MT_look, false, 1, 12, { frames := 0, cells := 0, slots := 0, locals := 0 }, zc_MTlook), (y_MT_place, false, 3, 12, { frames := 6, cells := 0, slots := 0, locals := 157 }, zc_MTplace), (y_MT_readMoveNumber, false, 1, 12, { frames := 1, cells := 0, slots := 0, locals := 21 }, zc_MTrmn), (y_MT_readMove, false, 3, 12, { frames := 8, cells := 0, slots := 0, locals := 210 }, zc_MTrmv), (y_MT_readMarks, false, 3, 12, { frames := 1, cells := 0, slots := 0, locals := 24 }, zc_MTrmk), (y_MT_readRemarks, false, 3, 12, { frames := 1, cells := 0, slots := 0, locals := 21 }, zc_MTrrm), (y_MT_fault, true, 2, 0, { frames := 0, cells := 0, slots := 0, locals := 0 }, zc_MTflt), (y_MT_readLine, false, 4, 12, { frames := 9, cells := 0, slots := 0, locals := 234 }, zc_MTrl6)], ak_ZMTrl5)
noncomputable def zc_MTrl5 (vals : List zv) (W : zW) (post : zPo) : Prop := ∃ g u op : Int, ∃ s : gSt, vals = [.inr (.inr (some (.inl 90))), .inl (g), .inl (u), .inl (op)] ∧ (op = 5 ∧ gLp W g u 5 s) ∧ ∀ r : Int, ∀ V : zW, (gLq W V g 5 r s) → post (some (.inl r)) V
set_option maxRecDepth 8000 in
theorem zp_MTrl5_0 {n K : Nat} {W : zW} {post : zPo} {g u op : Int} {u4 u5 u6 u7 : Option zv} (hK : 2 ≤ K) (hn : 142 ≤ n) (h : zwp jtb zsh n zm_MTrl5 post (K - 2) (lGo ak_ZMTrl5 3) 3 [some (.inr (.inr (some (.inl 90)))), some (.inl (g)), some (.inl (u)), some (.inl (op)), some (.inl (u)), u5, u6, u7] [] W) : zwp jtb zsh n zm_MTrl5 post K (lGo ak_ZMTrl5 0) 0 [some (.inr (.inr (some (.inl 90)))), some (.inl (g)), some (.inl (u)), some (.inl (op)), u4, u5, u6, u7] [] W := by
  obtain ⟨kk__, rfl⟩ : ∃ kk__, K = kk__ + 2 := ⟨K - 2, by omega⟩
  exact (show zwp jtb zsh n zm_MTrl5 post (kk__ + 0) (lGo ak_ZMTrl5 3) 3 [some (.inr (.inr (some (.inl 90)))), some (.inl (g)), some (.inl (u)), some (.inl (op)), some (.inl (u)), u5, u6, u7] [] W from h)
set_option maxRecDepth 8000 in
theorem zp_MTrl5_3 {n K : Nat} {V : zW} {post : zPo} {g u op t : Int} {u5 u6 u7 : Option zv} (hK : 13 ≤ K) (hn : 142 ≤ n) (h : (zTp V) ∧ ∀ W4 : zW, (zFr [(90, 37)] [] V W4 ∧ zTp W4 ∧ zBn V (V.1 90 37) (W4.1 90 37)) → (¬ op = 0 → (zTp W4) ∧ ∀ r22 : Int, (r22 = zLk W4 (W4.1 90 37)) → (¬ r22 = 41 → zwp jtb zsh n zm_MTrl5 post (K - 8) (lGo ak_ZMTrl5 38) 38 [some (.inr (.inr (some (.inl 90)))), some (.inl (g)), some (.inl (u)), some (.inl (op)), some (.inl (t)), u5, u6, u7] [] W4) ∧ (r22 = 41 → (t = u → zwp jtb zsh n zm_MTrl5 post (K - 11) (lGo ak_ZMTrl5 38) 38 [some (.inr (.inr (some (.inl 90)))), some (.inl (g)), some (.inl (u)), some (.inl (op)), some (.inl (t)), u5, u6, u7] [] W4) ∧ (¬ t = u → post (some (.inl (0))) W4))) ∧ (op = 0 → (zTp W4) ∧ ∀ r12 : Int, (zRh W4 (W4.1 90 37) r12) → (r12 < 0 → zwp jtb zsh n zm_MTrl5 post (K - 7) (lGo ak_ZMTrl5 38) 38 [some (.inr (.inr (some (.inl 90)))), some (.inl (g)), some (.inl (u)), some (.inl (op)), some (.inl (t)), u5, u6, u7] [] W4) ∧ (¬ r12 < 0 → post (some (.inl (0))) W4))) : zwp jtb zsh n zm_MTrl5 post K (lGo ak_ZMTrl5 3) 3 [some (.inr (.inr (some (.inl 90)))), some (.inl (g)), some (.inl (u)), some (.inl (op)), some (.inl (t)), u5, u6, u7] [] V := by
  obtain ⟨kk__, rfl⟩ : ∃ kk__, K = kk__ + 13 := ⟨K - 13, by omega⟩
  exact (show 3 = 3 ∧ false = false ∧ jin3 275 2570 0 zm_MTrl5.2.2.1.1 = true ∧ lRm zm_MTrl5.2.1 { frames := 0, cells := 0, slots := 0, locals := 0 } 1 = true ∧ Nat.ble 1 1 = true ∧ Nat.ble 0 8 = true ∧ 90 < n ∧ 12 = 12 ∧ Nat.ble 1000 12 = false ∧ zc_MTbl [.inr (.inr (some (.inl 90)))] V (fun vv__ WW__ => zwp jtb zsh n zm_MTrl5 post (kk__ + 11) (lGo ak_ZMTrl5 7) 7 [some (.inr (.inr (some (.inl 90)))), some (.inl (g)), some (.inl (u)), some (.inl (op)), some (.inl (t)), u5, u6, u7] (vv__.toList ++ []) WW__) from ⟨rfl, rfl, rfl, rfl, rfl, rfl, (Nat.lt_of_lt_of_le (by decide) hn), rfl, rfl, rfl, (h).1, fun W4 hr4 => (show (¬ op = 0 → 3 = 3 ∧ false = false ∧ jin3 278 2574 2 zm_MTrl5.2.2.1.1 = true ∧ lRm zm_MTrl5.2.1 { frames := 0, cells := 0, slots := 0, locals := 0 } 1 = true ∧ Nat.ble 1 1 = true ∧ Nat.ble 0 8 = true ∧ 90 < n ∧ 12 = 12 ∧ Nat.ble 1000 12 = false ∧ zc_MTlook [.inr (.inr (some (.inl 90)))] W4 (fun vv__ WW__ => zwp jtb zsh n zm_MTrl5 post (kk__ + 7) (lGo ak_ZMTrl5 25) 25 [some (.inr (.inr (some (.inl 90)))), some (.inl (g)), some (.inl (u)), some (.inl (op)), some (.inl (t)), u5, u6, u7] (vv__.toList ++ []) WW__)) ∧ (op = 0 → 3 = 3 ∧ false = false ∧ jin3 318 2647 1 zm_MTrl5.2.2.1.1 = true ∧ lRm zm_MTrl5.2.1 { frames := 1, cells := 0, slots := 0, locals := 23 } 2 = true ∧ Nat.ble 1 1 = true ∧ Nat.ble 0 8 = true ∧ 90 < n ∧ 12 = 12 ∧ Nat.ble 1000 12 = false ∧ zc_MTrsh [.inr (.inr (some (.inl 90)))] W4 (fun vv__ WW__ => zwp jtb zsh n zm_MTrl5 post (kk__ + 7) (lGo ak_ZMTrl5 15) 15 [some (.inr (.inr (some (.inl 90)))), some (.inl (g)), some (.inl (u)), some (.inl (op)), some (.inl (t)), u5, u6, u7] (vv__.toList ++ []) WW__)) from ⟨fun c8_3 => (have h := ((((h).2 W4 hr4)).1 c8_3); ⟨rfl, rfl, rfl, rfl, rfl, rfl, (Nat.lt_of_lt_of_le (by decide) hn), rfl, rfl, rfl, (h).1, fun r22 hr22 => (show (¬ r22 = 41 → zwp jtb zsh n zm_MTrl5 post (kk__ + 5) (lGo ak_ZMTrl5 38) 38 [some (.inr (.inr (some (.inl 90)))), some (.inl (g)), some (.inl (u)), some (.inl (op)), some (.inl (t)), u5, u6, u7] [] W4) ∧ (r22 = 41 → (t = u → zwp jtb zsh n zm_MTrl5 post (kk__ + 2) (lGo ak_ZMTrl5 38) 38 [some (.inr (.inr (some (.inl 90)))), some (.inl (g)), some (.inl (u)), some (.inl (op)), some (.inl (t)), u5, u6, u7] [] W4) ∧ (¬ t = u → 1 = 1 ∧ True ∧ post (some (.inl (0))) W4)) from ⟨fun c27_7 => ((((h).2 r22 hr22)).1 c27_7), fun c27_7 => (have h := ((((h).2 r22 hr22)).2 c27_7); ⟨fun c33_10 => ((h).1 c33_10), fun c33_10 => ⟨rfl, trivial, ((h).2 c33_10)⟩⟩)⟩)⟩), fun c8_3 => (have h := ((((h).2 W4 hr4)).2 c8_3); ⟨rfl, rfl, rfl, rfl, rfl, rfl, (Nat.lt_of_lt_of_le (by decide) hn), rfl, rfl, rfl, (h).1, fun r12 hr12 => (show (r12 < 0 → zwp jtb zsh n zm_MTrl5 post (kk__ + 6) (lGo ak_ZMTrl5 38) 38 [some (.inr (.inr (some (.inl 90)))), some (.inl (g)), some (.inl (u)), some (.inl (op)), some (.inl (t)), u5, u6, u7] [] W4) ∧ (¬ r12 < 0 → 1 = 1 ∧ True ∧ post (some (.inl (0))) W4) from ⟨fun c15_6 => ((((h).2 r12 hr12)).1 c15_6), fun c15_6 => (have h := ((((h).2 r12 hr12)).2 c15_6); ⟨rfl, trivial, h⟩)⟩)⟩)⟩)⟩)
set_option maxRecDepth 8000 in
theorem zp_MTrl5_38 {n K : Nat} {V : zW} {post : zPo} {g u op t : Int} {u5 u6 u7 : Option zv} (hK : 11 ≤ K) (hn : 142 ≤ n) (h : ((0 ≤ g ∧ g ≤ 1) ∧ (∃ N, (0 ≤ t ∧ t ≤ N ∧ N ≤ 300) ∧ xOk (zSt V g) (zro V 94 g) (zro V 95 g) N) ∧ zSb V g) ∧ ∀ W42 : zW, (zAt W42 (xPo (zSt V g) (zro V 94 g) (zro V 95 g) t) ∧ zFr [(90, 25), (90, 26), (90, 27), (90, 28), (90, 29), (90, 33)] [110, 111, 112, 113, 114] V W42) → (zTp W42) ∧ ∀ r46 : Int, ∀ W46 : zW, (zFr [(90, 37)] [] W42 W46 ∧ zTp W46 ∧ zRn W42 W46 (W42.1 90 37) r46 ∧ 0 ≤ r46 ∧ r46 ≤ 1000000) → (r46 ≤ 0 → zwp jtb zsh n zm_MTrl5 post (K - 9) (lGo ak_ZMTrl5 59) 59 [some (.inr (.inr (some (.inl 90)))), some (.inl (g)), some (.inl (u)), some (.inl (op)), some (.inl (t)), some (.inl (r46)), u6, u7] [] W46) ∧ (¬ r46 ≤ 0 → post (some (.inl (r46))) W46)) : zwp jtb zsh n zm_MTrl5 post K (lGo ak_ZMTrl5 38) 38 [some (.inr (.inr (some (.inl 90)))), some (.inl (g)), some (.inl (u)), some (.inl (op)), some (.inl (t)), u5, u6, u7] [] V := by
  obtain ⟨kk__, rfl⟩ : ∃ kk__, K = kk__ + 11 := ⟨K - 11, by omega⟩
  exact (show 3 = 3 ∧ false = false ∧ jin3 96 1933 3 zm_MTrl5.2.2.1.1 = true ∧ lRm zm_MTrl5.2.1 { frames := 6, cells := 0, slots := 0, locals := 157 } 5 = true ∧ Nat.ble 3 3 = true ∧ Nat.ble 0 8 = true ∧ 90 < n ∧ 12 = 12 ∧ Nat.ble 1000 12 = false ∧ zc_MTplace [.inr (.inr (some (.inl 90))), .inl (g), .inl (t)] V (fun vv__ WW__ => zwp jtb zsh n zm_MTrl5 post (kk__ + 7) (lGo ak_ZMTrl5 45) 45 [some (.inr (.inr (some (.inl 90)))), some (.inl (g)), some (.inl (u)), some (.inl (op)), some (.inl (t)), u5, u6, u7] (vv__.toList ++ []) WW__) from ⟨rfl, rfl, rfl, rfl, rfl, rfl, (Nat.lt_of_lt_of_le (by decide) hn), rfl, rfl, g, t, rfl, (h).1, fun W42 hr42 => (show 3 = 3 ∧ false = false ∧ jin3 321 2655 4 zm_MTrl5.2.2.1.1 = true ∧ lRm zm_MTrl5.2.1 { frames := 1, cells := 0, slots := 0, locals := 21 } 4 = true ∧ Nat.ble 1 1 = true ∧ Nat.ble 0 8 = true ∧ 90 < n ∧ 12 = 12 ∧ Nat.ble 1000 12 = false ∧ zc_MTrmn [.inr (.inr (some (.inl 90)))] W42 (fun vv__ WW__ => zwp jtb zsh n zm_MTrl5 post (kk__ + 5) (lGo ak_ZMTrl5 49) 49 [some (.inr (.inr (some (.inl 90)))), some (.inl (g)), some (.inl (u)), some (.inl (op)), some (.inl (t)), u5, u6, u7] (vv__.toList ++ []) WW__) from ⟨rfl, rfl, rfl, rfl, rfl, rfl, (Nat.lt_of_lt_of_le (by decide) hn), rfl, rfl, rfl, (((h).2 W42 hr42)).1, fun r46 W46 hr46 => (show (r46 ≤ 0 → zwp jtb zsh n zm_MTrl5 post (kk__ + 2) (lGo ak_ZMTrl5 59) 59 [some (.inr (.inr (some (.inl 90)))), some (.inl (g)), some (.inl (u)), some (.inl (op)), some (.inl (t)), some (.inl (r46)), u6, u7] [] W46) ∧ (¬ r46 ≤ 0 → 1 = 1 ∧ True ∧ post (some (.inl (r46))) W46) from (have h := ((((h).2 W42 hr42)).2 r46 W46 hr46); ⟨fun c53_8 => ((h).1 c53_8), fun c53_8 => ⟨rfl, trivial, ((h).2 c53_8)⟩⟩))⟩)⟩)
set_option maxRecDepth 8000 in
theorem zp_MTrl5_59 {n K : Nat} {V : zW} {post : zPo} {g u op t y : Int} {u6 u7 : Option zv} (hK : 11 ≤ K) (hn : 142 ≤ n) (h : ∃ s63 : gSt, (gW V g s63 ∧ s63.2.2.2.1 = t ∧ zAt V (gPo s63) ∧ trE s63.2.1.2.2.1 (xLd s63.2.1.2.2.2.2.1) t + (if s63.2.1.2.2.2.2.1 t = [] then 0 else 1) ≤ 6) ∧ ∀ r63 : Int, ∀ W63 : zW, (zFr [(90, 36), (90, 37)] [93, 94, 95, 96, 97, 98, 100, 110, 111, 112, 115] V W63 ∧ zFo g V W63 ∧ ((r63 < 0 ∧ -1000000 ≤ r63 ∧ gMv (V.2.1 91) (V.1 90 1) s63 (V.1 90 37) none) ∨ (0 ≤ r63 ∧ ∃ e m, xLt (xLk (V.2.1 91) (V.1 90 1) (V.1 90 37)) ∧ xWd (V.2.1 91) (V.1 90 1) (V.1 90 37) e ∧ zUn (gPo s63).1 (fun i => V.2.1 91 (V.1 90 37 + i)) (e - V.1 90 37) m ∧ ¬ gMb s63 m ∧ r63 = s63.2.1.2.1 + 1 ∧ W63.1 90 37 = e ∧ gW W63 g (e, xApp s63.2.1 t m, zuI s63.2.2.1 (s63.2.1.2.1 + 1) 0, s63.2.1.2.1 + 1, 2, s63.2.2.2.2.2)))) → (0 ≤ r63 → zwp jtb zsh n zm_MTrl5 post (K - 11) (lGo ak_ZMTrl5 85) 85 [some (.inr (.inr (some (.inl 90)))), some (.inl (g)), some (.inl (u)), some (.inl (op)), some (.inl (r63)), some (.inl (y)), some (.inl (r63)), some (.inl (t))] [] W63) ∧ (¬ 0 ≤ r63 → (-2147483648 ≤ -r63 ∧ -r63 ≤ 2147483647) ∧ post (some (.inl (-r63))) W63)) : zwp jtb zsh n zm_MTrl5 post K (lGo ak_ZMTrl5 59) 59 [some (.inr (.inr (some (.inl 90)))), some (.inl (g)), some (.inl (u)), some (.inl (op)), some (.inl (t)), some (.inl (y)), u6, u7] [] V := by
  obtain ⟨kk__, rfl⟩ : ∃ kk__, K = kk__ + 11 := ⟨K - 11, by omega⟩
  exact (show 3 = 3 ∧ false = false ∧ jin3 324 2659 5 zm_MTrl5.2.2.1.1 = true ∧ lRm zm_MTrl5.2.1 { frames := 8, cells := 0, slots := 0, locals := 210 } 5 = true ∧ Nat.ble 3 3 = true ∧ Nat.ble 0 8 = true ∧ 90 < n ∧ 12 = 12 ∧ Nat.ble 1000 12 = false ∧ zc_MTrmv [.inr (.inr (some (.inl 90))), .inl (g), .inl (t)] V (fun vv__ WW__ => zwp jtb zsh n zm_MTrl5 post (kk__ + 7) (lGo ak_ZMTrl5 66) 66 [some (.inr (.inr (some (.inl 90)))), some (.inl (g)), some (.inl (u)), some (.inl (op)), some (.inl (t)), some (.inl (y)), u6, u7] (vv__.toList ++ []) WW__) from (Exists.elim (h) (fun s63 gh63 => ⟨rfl, rfl, rfl, rfl, rfl, rfl, (Nat.lt_of_lt_of_le (by decide) hn), rfl, rfl, g, t, s63, rfl, (gh63).1, fun r63 W63 hr63 => (show (0 ≤ r63 → zwp jtb zsh n zm_MTrl5 post (kk__ + 0) (lGo ak_ZMTrl5 85) 85 [some (.inr (.inr (some (.inl 90)))), some (.inl (g)), some (.inl (u)), some (.inl (op)), some (.inl (r63)), some (.inl (y)), some (.inl (r63)), some (.inl (t))] [] W63) ∧ (¬ 0 ≤ r63 → (-2147483648 ≤ -r63 ∧ -r63 ≤ 2147483647) ∧ 1 = 1 ∧ True ∧ post (some (.inl (-r63))) W63) from ⟨fun c70_6 => ((((gh63).2 r63 W63 hr63)).1 c70_6), fun c70_6 => (have h := ((((gh63).2 r63 W63 hr63)).2 c70_6); ⟨(h).1, ⟨rfl, trivial, (h).2⟩⟩)⟩)⟩)))
set_option maxRecDepth 8000 in
theorem zp_MTrl5_85 {n K : Nat} {V : zW} {post : zPo} {g u op t y x b : Int}  (hK : 10 ≤ K) (hn : 142 ≤ n) (h : ∃ s89 : gSt, (gW V g s89 ∧ s89.2.2.2.1 = t ∧ s89.2.2.2.2.1 = 2 ∧ s89.2.1.2.2.2.2.2 t = 0 ∧ zBn V (V.1 90 37) s89.1) ∧ ∀ r89 : Int, ∀ W89 : zW, (zFr [(90, 37)] [98, 99] V W89 ∧ zFo g V W89 ∧ ((r89 = 0 ∧ ∃ s2 : gSt, gP (V.2.1 91) (V.1 90 1) s89 s2 ∧ gW W89 g s2 ∧ W89.1 90 37 = s2.1 ∧ s2.2.2.2.1 = t ∧ s2.2.2.2.2.2 = s89.2.2.2.2.2 ∧ ((s2.2.2.2.2.1 = 2 ∧ ¬ gcM (xLk (V.2.1 91) (V.1 90 1) s2.1)) ∨ (s2.2.2.2.2.1 = 3 ∧ ¬ xLk (V.2.1 91) (V.1 90 1) s2.1 = 36))) ∨ (0 < r89 ∧ r89 ≤ 1000000 ∧ gF (V.2.1 91) (V.1 90 1) s89))) → (r89 ≤ 0 → zwp jtb zsh n zm_MTrl5 post (K - 7) (lGo ak_ZMTrl5 104) 104 [some (.inr (.inr (some (.inl 90)))), some (.inl (g)), some (.inl (u)), some (.inl (op)), some (.inl (t)), some (.inl (r89)), some (.inl (x)), some (.inl (b))] [] W89) ∧ (¬ r89 ≤ 0 → zwp jtb zsh n zm_MTrl5 post (K - 10) (lGo ak_ZMTrl5 113) 113 [some (.inr (.inr (some (.inl 90)))), some (.inl (g)), some (.inl (u)), some (.inl (op)), some (.inl (t)), some (.inl (r89)), some (.inl (x)), some (.inl (b))] [] W89)) : zwp jtb zsh n zm_MTrl5 post K (lGo ak_ZMTrl5 85) 85 [some (.inr (.inr (some (.inl 90)))), some (.inl (g)), some (.inl (u)), some (.inl (op)), some (.inl (t)), some (.inl (y)), some (.inl (x)), some (.inl (b))] [] V := by
  obtain ⟨kk__, rfl⟩ : ∃ kk__, K = kk__ + 10 := ⟨K - 10, by omega⟩
  exact (show 3 = 3 ∧ false = false ∧ jin3 327 2710 6 zm_MTrl5.2.2.1.1 = true ∧ lRm zm_MTrl5.2.1 { frames := 1, cells := 0, slots := 0, locals := 24 } 6 = true ∧ Nat.ble 3 3 = true ∧ Nat.ble 0 8 = true ∧ 90 < n ∧ 12 = 12 ∧ Nat.ble 1000 12 = false ∧ zc_MTrmk [.inr (.inr (some (.inl 90))), .inl (g), .inl (t)] V (fun vv__ WW__ => zwp jtb zsh n zm_MTrl5 post (kk__ + 6) (lGo ak_ZMTrl5 92) 92 [some (.inr (.inr (some (.inl 90)))), some (.inl (g)), some (.inl (u)), some (.inl (op)), some (.inl (t)), some (.inl (y)), some (.inl (x)), some (.inl (b))] (vv__.toList ++ []) WW__) from (Exists.elim (h) (fun s89 gh89 => ⟨rfl, rfl, rfl, rfl, rfl, rfl, (Nat.lt_of_lt_of_le (by decide) hn), rfl, rfl, g, t, s89, rfl, (gh89).1, fun r89 W89 hr89 => (show (r89 ≤ 0 → zwp jtb zsh n zm_MTrl5 post (kk__ + 3) (lGo ak_ZMTrl5 104) 104 [some (.inr (.inr (some (.inl 90)))), some (.inl (g)), some (.inl (u)), some (.inl (op)), some (.inl (t)), some (.inl (r89)), some (.inl (x)), some (.inl (b))] [] W89) ∧ (¬ r89 ≤ 0 → zwp jtb zsh n zm_MTrl5 post (kk__ + 0) (lGo ak_ZMTrl5 113) 113 [some (.inr (.inr (some (.inl 90)))), some (.inl (g)), some (.inl (u)), some (.inl (op)), some (.inl (t)), some (.inl (r89)), some (.inl (x)), some (.inl (b))] [] W89) from ⟨fun c96_6 => ((((gh89).2 r89 W89 hr89)).1 c96_6), fun c96_6 => ((((gh89).2 r89 W89 hr89)).2 c96_6)⟩)⟩)))
set_option maxRecDepth 8000 in
theorem zp_MTrl5_104 {n K : Nat} {V : zW} {post : zPo} {g u op t y x b : Int}  (hK : 5 ≤ K) (hn : 142 ≤ n) (h : ∃ s108 : gSt, (gW V g s108 ∧ s108.2.2.2.1 = t ∧ ¬ s108.2.2.2.2.1 = 1 ∧ zBn V (V.1 90 37) s108.1) ∧ ∀ r108 : Int, ∀ W108 : zW, (zFr [(90, 37)] [100, 101] V W108 ∧ zFo g V W108 ∧ ((r108 = 0 ∧ ∃ s2 : gSt, gP (V.2.1 91) (V.1 90 1) s108 s2 ∧ gW W108 g s2 ∧ W108.1 90 37 = s2.1 ∧ s2.2.2.2.1 = t ∧ s2.2.2.2.2.2 = s108.2.2.2.2.2 ∧ s2.2.1 = s108.2.1 ∧ ((s2.2.2.2.2.1 = s108.2.2.2.2.1 ∧ s2.1 = s108.1) ∨ s2.2.2.2.2.1 = (if s108.2.2.2.2.1 = 0 then 0 else 4)) ∧ ¬ gcR (xLk (V.2.1 91) (V.1 90 1) s2.1)) ∨ (0 < r108 ∧ r108 ≤ 1000000 ∧ gF (V.2.1 91) (V.1 90 1) s108))) → zwp jtb zsh n zm_MTrl5 post (K - 5) (lGo ak_ZMTrl5 113) 113 [some (.inr (.inr (some (.inl 90)))), some (.inl (g)), some (.inl (u)), some (.inl (op)), some (.inl (t)), some (.inl (r108)), some (.inl (x)), some (.inl (b))] [] W108) : zwp jtb zsh n zm_MTrl5 post K (lGo ak_ZMTrl5 104) 104 [some (.inr (.inr (some (.inl 90)))), some (.inl (g)), some (.inl (u)), some (.inl (op)), some (.inl (t)), some (.inl (y)), some (.inl (x)), some (.inl (b))] [] V := by
  obtain ⟨kk__, rfl⟩ : ∃ kk__, K = kk__ + 5 := ⟨K - 5, by omega⟩
  exact (show 3 = 3 ∧ false = false ∧ jin3 330 2639 7 zm_MTrl5.2.2.1.1 = true ∧ lRm zm_MTrl5.2.1 { frames := 1, cells := 0, slots := 0, locals := 21 } 11 = true ∧ Nat.ble 3 3 = true ∧ Nat.ble 0 8 = true ∧ 90 < n ∧ 12 = 12 ∧ Nat.ble 1000 12 = false ∧ zc_MTrrm [.inr (.inr (some (.inl 90))), .inl (g), .inl (t)] V (fun vv__ WW__ => zwp jtb zsh n zm_MTrl5 post (kk__ + 1) (lGo ak_ZMTrl5 111) 111 [some (.inr (.inr (some (.inl 90)))), some (.inl (g)), some (.inl (u)), some (.inl (op)), some (.inl (t)), some (.inl (y)), some (.inl (x)), some (.inl (b))] (vv__.toList ++ []) WW__) from (Exists.elim (h) (fun s108 gh108 => ⟨rfl, rfl, rfl, rfl, rfl, rfl, (Nat.lt_of_lt_of_le (by decide) hn), rfl, rfl, g, t, s108, rfl, (gh108).1, fun r108 W108 hr108 => (show zwp jtb zsh n zm_MTrl5 post (kk__ + 0) (lGo ak_ZMTrl5 113) 113 [some (.inr (.inr (some (.inl 90)))), some (.inl (g)), some (.inl (u)), some (.inl (op)), some (.inl (t)), some (.inl (r108)), some (.inl (x)), some (.inl (b))] [] W108 from ((gh108).2 r108 W108 hr108))⟩)))
set_option maxRecDepth 8000 in
theorem zp_MTrl5_113 {n K : Nat} {V : zW} {post : zPo} {g u op t y x b : Int}  (hK : 40 ≤ K) (hn : 142 ≤ n) (h : (¬ y = 0 → (y ≤ 0 → zwp jtb zsh n zm_MTrl5 post (K - 5) (lGo ak_ZMTrl5 3) 3 [some (.inr (.inr (some (.inl 90)))), some (.inl (g)), some (.inl (u)), some (.inl (op)), some (.inl (t)), some (.inl (y)), some (.inl (x)), some (.inl (b))] [] V) ∧ (¬ y ≤ 0 → post (some (.inl (y))) V)) ∧ (y = 0 → (zTp V) ∧ ∀ r119 : Int, (r119 = zLk V (V.1 90 37)) → (¬ r119 = 40 → (y ≤ 0 → zwp jtb zsh n zm_MTrl5 post (K - 9) (lGo ak_ZMTrl5 3) 3 [some (.inr (.inr (some (.inl 90)))), some (.inl (g)), some (.inl (u)), some (.inl (op)), some (.inl (t)), some (.inl (y)), some (.inl (x)), some (.inl (b))] [] V) ∧ (¬ y ≤ 0 → post (some (.inl (y))) V)) ∧ (r119 = 40 → (¬ op = 6 → (-2147483648 ≤ (V.1 90 37) + 1 ∧ (V.1 90 37) + 1 ≤ 2147483647) ∧ zwp jtb zsh n zm_MTrl5 post (K - 19) (lGo ak_ZMTrl5 168) 168 [some (.inr (.inr (some (.inl 90)))), some (.inl (g)), some (.inl (u)), some (.inl (op)), some (.inl (t)), some (.inl (0)), some (.inl (x)), some (.inl (b))] [] (zuF V 90 37 ((V.1 90 37) + 1))) ∧ (op = 6 → ((1 ≤ (8 : Int) ∧ (8 : Int) ≤ 9) ∧ 0 ≤ (V.1 90 37) ∧ (V.1 90 37) ≤ 65536) ∧ ∀ r139 : Int, (r139 = 100000 * (8 : Int) + (V.1 90 37)) → (-2147483648 ≤ (V.1 90 37) + 1 ∧ (V.1 90 37) + 1 ≤ 2147483647) ∧ (r139 ≤ 0 → zwp jtb zsh n zm_MTrl5 post (K - 23) (lGo ak_ZMTrl5 168) 168 [some (.inr (.inr (some (.inl 90)))), some (.inl (g)), some (.inl (u)), some (.inl (op)), some (.inl (t)), some (.inl (r139)), some (.inl (x)), some (.inl (b))] [] (zuF V 90 37 ((V.1 90 37) + 1))) ∧ (¬ r139 ≤ 0 → (r139 ≤ 0 → (-2147483648 ≤ ((V.1 90 37) + 1) + 1 ∧ ((V.1 90 37) + 1) + 1 ≤ 2147483647) ∧ (r139 ≤ 0 → zwp jtb zsh n zm_MTrl5 post (K - 36) (lGo ak_ZMTrl5 212) 212 [some (.inr (.inr (some (.inl 90)))), some (.inl (g)), some (.inl (u)), some (.inl (op)), some (.inl (t)), some (.inl (r139)), some (.inl (x)), some (.inl (b))] [] (zuF (zuF V 90 37 ((V.1 90 37) + 1)) 90 37 (((V.1 90 37) + 1) + 1))) ∧ (¬ r139 ≤ 0 → zwp jtb zsh n zm_MTrl5 post (K - 40) (lGo ak_ZMTrl5 113) 113 [some (.inr (.inr (some (.inl 90)))), some (.inl (g)), some (.inl (u)), some (.inl (op)), some (.inl (t)), some (.inl (r139)), some (.inl (x)), some (.inl (b))] [] (zuF (zuF V 90 37 ((V.1 90 37) + 1)) 90 37 (((V.1 90 37) + 1) + 1)))) ∧ (¬ r139 ≤ 0 → (r139 ≤ 0 → zwp jtb zsh n zm_MTrl5 post (K - 35) (lGo ak_ZMTrl5 212) 212 [some (.inr (.inr (some (.inl 90)))), some (.inl (g)), some (.inl (u)), some (.inl (op)), some (.inl (t)), some (.inl (r139)), some (.inl (x)), some (.inl (b))] [] (zuF (zuF V 90 37 ((V.1 90 37) + 1)) 90 37 ((V.1 90 37) + 1))) ∧ (¬ r139 ≤ 0 → zwp jtb zsh n zm_MTrl5 post (K - 39) (lGo ak_ZMTrl5 113) 113 [some (.inr (.inr (some (.inl 90)))), some (.inl (g)), some (.inl (u)), some (.inl (op)), some (.inl (t)), some (.inl (r139)), some (.inl (x)), some (.inl (b))] [] (zuF (zuF V 90 37 ((V.1 90 37) + 1)) 90 37 ((V.1 90 37) + 1))))))))) : zwp jtb zsh n zm_MTrl5 post K (lGo ak_ZMTrl5 113) 113 [some (.inr (.inr (some (.inl 90)))), some (.inl (g)), some (.inl (u)), some (.inl (op)), some (.inl (t)), some (.inl (y)), some (.inl (x)), some (.inl (b))] [] V := by
  obtain ⟨kk__, rfl⟩ : ∃ kk__, K = kk__ + 40 := ⟨K - 40, by omega⟩
  exact (show (¬ y = 0 → (y ≤ 0 → zwp jtb zsh n zm_MTrl5 post (kk__ + 35) (lGo ak_ZMTrl5 3) 3 [some (.inr (.inr (some (.inl 90)))), some (.inl (g)), some (.inl (u)), some (.inl (op)), some (.inl (t)), some (.inl (y)), some (.inl (x)), some (.inl (b))] [] V) ∧ (¬ y ≤ 0 → 1 = 1 ∧ True ∧ post (some (.inl (y))) V)) ∧ (y = 0 → 3 = 3 ∧ false = false ∧ jin3 278 2574 2 zm_MTrl5.2.2.1.1 = true ∧ lRm zm_MTrl5.2.1 { frames := 0, cells := 0, slots := 0, locals := 0 } 1 = true ∧ Nat.ble 1 1 = true ∧ Nat.ble 0 8 = true ∧ 90 < n ∧ 12 = 12 ∧ Nat.ble 1000 12 = false ∧ zc_MTlook [.inr (.inr (some (.inl 90)))] V (fun vv__ WW__ => zwp jtb zsh n zm_MTrl5 post (kk__ + 36) (lGo ak_ZMTrl5 122) 122 [some (.inr (.inr (some (.inl 90)))), some (.inl (g)), some (.inl (u)), some (.inl (op)), some (.inl (t)), some (.inl (y)), some (.inl (x)), some (.inl (b))] (vv__.toList ++ []) WW__)) from ⟨fun c115_1 => ⟨fun c226_3 => ((((h).1 c115_1)).1 c226_3), fun c226_3 => (have h := ((((h).1 c115_1)).2 c226_3); ⟨rfl, trivial, h⟩)⟩, fun c115_1 => ⟨rfl, rfl, rfl, rfl, rfl, rfl, (Nat.lt_of_lt_of_le (by decide) hn), rfl, rfl, rfl, (((h).2 c115_1)).1, fun r119 hr119 => (show (¬ r119 = 40 → (y ≤ 0 → zwp jtb zsh n zm_MTrl5 post (kk__ + 31) (lGo ak_ZMTrl5 3) 3 [some (.inr (.inr (some (.inl 90)))), some (.inl (g)), some (.inl (u)), some (.inl (op)), some (.inl (t)), some (.inl (y)), some (.inl (x)), some (.inl (b))] [] V) ∧ (¬ y ≤ 0 → 1 = 1 ∧ True ∧ post (some (.inl (y))) V)) ∧ (r119 = 40 → (¬ op = 6 → 90 < n ∧ 12 = 12 ∧ (-2147483648 ≤ (V.1 90 37) + 1 ∧ (V.1 90 37) + 1 ≤ 2147483647) ∧ 90 < n ∧ 12 = 12 ∧ (some 0 : Option Nat) = some 0 ∧ ((0 : Nat) = 0 ∨ ((0 : Nat) = 1 ∧ (((V.1 90 37) + 1) = 0 ∨ ((V.1 90 37) + 1) = 1))) ∧ ((0 : Int) ≤ 0 → zwp jtb zsh n zm_MTrl5 post (kk__ + 21) (lGo ak_ZMTrl5 168) 168 [some (.inr (.inr (some (.inl 90)))), some (.inl (g)), some (.inl (u)), some (.inl (op)), some (.inl (t)), some (.inl (0)), some (.inl (x)), some (.inl (b))] [] (zuF V 90 37 ((V.1 90 37) + 1))) ∧ (¬ (0 : Int) ≤ 0 → zwp jtb zsh n zm_MTrl5 post (kk__ + 21) (lGo ak_ZMTrl5 163) 163 [some (.inr (.inr (some (.inl 90)))), some (.inl (g)), some (.inl (u)), some (.inl (op)), some (.inl (t)), some (.inl (0)), some (.inl (x)), some (.inl (b))] [] (zuF V 90 37 ((V.1 90 37) + 1)))) ∧ (op = 6 → 90 < n ∧ 12 = 12 ∧ 3 = 3 ∧ true = true ∧ jin3 287 2588 8 zm_MTrl5.2.2.1.1 = true ∧ lRm zm_MTrl5.2.1 { frames := 0, cells := 0, slots := 0, locals := 0 } 2 = true ∧ Nat.ble 2 2 = true ∧ Nat.ble 0 8 = true ∧ zc_MTflt [.inl (8), .inl (V.1 90 37)] V (fun vv__ WW__ => zwp jtb zsh n zm_MTrl5 post (kk__ + 27) (lGo ak_ZMTrl5 142) 142 [some (.inr (.inr (some (.inl 90)))), some (.inl (g)), some (.inl (u)), some (.inl (op)), some (.inl (t)), some (.inl (y)), some (.inl (x)), some (.inl (b))] (vv__.toList ++ []) WW__))) from (have h := ((((h).2 c115_1)).2 r119 hr119); ⟨fun c124_5 => ⟨fun c226_7 => ((((h).1 c124_5)).1 c226_7), fun c226_7 => (have h := ((((h).1 c124_5)).2 c226_7); ⟨rfl, trivial, h⟩)⟩, fun c124_5 => ⟨fun c130_8 => (have h := ((((h).2 c124_5)).1 c130_8); ⟨(Nat.lt_of_lt_of_le (by decide) hn), rfl, ⟨(h).1, ⟨(Nat.lt_of_lt_of_le (by decide) hn), rfl, rfl, (Or.inl rfl), ⟨fun _ => (h).2, fun hc18 => absurd hc18 (by decide)⟩⟩⟩⟩), fun c130_8 => (have h := ((((h).2 c124_5)).2 c130_8); ⟨(Nat.lt_of_lt_of_le (by decide) hn), rfl, ⟨rfl, rfl, rfl, rfl, rfl, rfl, 8, V.1 90 37, rfl, (h).1, fun r139 hr139 => (show 90 < n ∧ 12 = 12 ∧ (-2147483648 ≤ (V.1 90 37) + 1 ∧ (V.1 90 37) + 1 ≤ 2147483647) ∧ 90 < n ∧ 12 = 12 ∧ (some 0 : Option Nat) = some 0 ∧ ((0 : Nat) = 0 ∨ ((0 : Nat) = 1 ∧ (((V.1 90 37) + 1) = 0 ∨ ((V.1 90 37) + 1) = 1))) ∧ (r139 ≤ 0 → zwp jtb zsh n zm_MTrl5 post (kk__ + 17) (lGo ak_ZMTrl5 168) 168 [some (.inr (.inr (some (.inl 90)))), some (.inl (g)), some (.inl (u)), some (.inl (op)), some (.inl (t)), some (.inl (r139)), some (.inl (x)), some (.inl (b))] [] (zuF V 90 37 ((V.1 90 37) + 1))) ∧ (¬ r139 ≤ 0 → (r139 ≤ 0 → 90 < n ∧ 12 = 12 ∧ (-2147483648 ≤ ((V.1 90 37) + 1) + 1 ∧ ((V.1 90 37) + 1) + 1 ≤ 2147483647) ∧ 90 < n ∧ 12 = 12 ∧ (some 0 : Option Nat) = some 0 ∧ ((0 : Nat) = 0 ∨ ((0 : Nat) = 1 ∧ ((((V.1 90 37) + 1) + 1) = 0 ∨ (((V.1 90 37) + 1) + 1) = 1))) ∧ (r139 ≤ 0 → zwp jtb zsh n zm_MTrl5 post (kk__ + 4) (lGo ak_ZMTrl5 212) 212 [some (.inr (.inr (some (.inl 90)))), some (.inl (g)), some (.inl (u)), some (.inl (op)), some (.inl (t)), some (.inl (r139)), some (.inl (x)), some (.inl (b))] [] (zuF (zuF V 90 37 ((V.1 90 37) + 1)) 90 37 (((V.1 90 37) + 1) + 1))) ∧ (¬ r139 ≤ 0 → zwp jtb zsh n zm_MTrl5 post (kk__ + 0) (lGo ak_ZMTrl5 113) 113 [some (.inr (.inr (some (.inl 90)))), some (.inl (g)), some (.inl (u)), some (.inl (op)), some (.inl (t)), some (.inl (r139)), some (.inl (x)), some (.inl (b))] [] (zuF (zuF V 90 37 ((V.1 90 37) + 1)) 90 37 (((V.1 90 37) + 1) + 1)))) ∧ (¬ r139 ≤ 0 → 90 < n ∧ 12 = 12 ∧ 90 < n ∧ 12 = 12 ∧ (some 0 : Option Nat) = some 0 ∧ ((0 : Nat) = 0 ∨ ((0 : Nat) = 1 ∧ (((V.1 90 37) + 1) = 0 ∨ ((V.1 90 37) + 1) = 1))) ∧ (r139 ≤ 0 → zwp jtb zsh n zm_MTrl5 post (kk__ + 5) (lGo ak_ZMTrl5 212) 212 [some (.inr (.inr (some (.inl 90)))), some (.inl (g)), some (.inl (u)), some (.inl (op)), some (.inl (t)), some (.inl (r139)), some (.inl (x)), some (.inl (b))] [] (zuF (zuF V 90 37 ((V.1 90 37) + 1)) 90 37 ((V.1 90 37) + 1))) ∧ (¬ r139 ≤ 0 → zwp jtb zsh n zm_MTrl5 post (kk__ + 1) (lGo ak_ZMTrl5 113) 113 [some (.inr (.inr (some (.inl 90)))), some (.inl (g)), some (.inl (u)), some (.inl (op)), some (.inl (t)), some (.inl (r139)), some (.inl (x)), some (.inl (b))] [] (zuF (zuF V 90 37 ((V.1 90 37) + 1)) 90 37 ((V.1 90 37) + 1))))) from ⟨(Nat.lt_of_lt_of_le (by decide) hn), rfl, ⟨(((h).2 r139 hr139)).1, ⟨(Nat.lt_of_lt_of_le (by decide) hn), rfl, rfl, (Or.inl rfl), ⟨fun c160_22 => (((((h).2 r139 hr139)).2).1 c160_22), fun c160_22 => (have h := (((((h).2 r139 hr139)).2).2 c160_22); ⟨fun c183_28 => ⟨(Nat.lt_of_lt_of_le (by decide) hn), rfl, ⟨(((h).1 c183_28)).1, ⟨(Nat.lt_of_lt_of_le (by decide) hn), rfl, rfl, (Or.inl rfl), ⟨fun c204_35 => (((((h).1 c183_28)).2).1 c204_35), fun c204_35 => (((((h).1 c183_28)).2).2 c204_35)⟩⟩⟩⟩, fun c183_28 => ⟨(Nat.lt_of_lt_of_le (by decide) hn), rfl, ⟨(Nat.lt_of_lt_of_le (by decide) hn), rfl, rfl, (Or.inl rfl), ⟨fun c204_34 => ((((h).2 c183_28)).1 c204_34), fun c204_34 => ((((h).2 c183_28)).2 c204_34)⟩⟩⟩⟩)⟩⟩⟩⟩)⟩⟩)⟩⟩))⟩⟩)
set_option maxRecDepth 8000 in
theorem zp_MTrl5_168 {n K : Nat} {V : zW} {post : zPo} {g u op t y x b : Int}  (hK : 22 ≤ K) (hn : 142 ≤ n) (h : (-2147483648 ≤ op + 1 ∧ op + 1 ≤ 2147483647) ∧ ∃ s175 : gSt, ((op + 1) = 6 ∧ gLp V g b 6 s175) ∧ ∀ r175 : Int, ∀ W175 : zW, (gLq V W175 g 6 r175 s175) → (r175 ≤ 0 → (-2147483648 ≤ (W175.1 90 37) + 1 ∧ (W175.1 90 37) + 1 ≤ 2147483647) ∧ (r175 ≤ 0 → zwp jtb zsh n zm_MTrl5 post (K - 18) (lGo ak_ZMTrl5 212) 212 [some (.inr (.inr (some (.inl 90)))), some (.inl (g)), some (.inl (u)), some (.inl (op)), some (.inl (t)), some (.inl (r175)), some (.inl (x)), some (.inl (b))] [] (zuF W175 90 37 ((W175.1 90 37) + 1))) ∧ (¬ r175 ≤ 0 → zwp jtb zsh n zm_MTrl5 post (K - 22) (lGo ak_ZMTrl5 113) 113 [some (.inr (.inr (some (.inl 90)))), some (.inl (g)), some (.inl (u)), some (.inl (op)), some (.inl (t)), some (.inl (r175)), some (.inl (x)), some (.inl (b))] [] (zuF W175 90 37 ((W175.1 90 37) + 1)))) ∧ (¬ r175 ≤ 0 → (r175 ≤ 0 → zwp jtb zsh n zm_MTrl5 post (K - 17) (lGo ak_ZMTrl5 212) 212 [some (.inr (.inr (some (.inl 90)))), some (.inl (g)), some (.inl (u)), some (.inl (op)), some (.inl (t)), some (.inl (r175)), some (.inl (x)), some (.inl (b))] [] (zuF W175 90 37 (W175.1 90 37))) ∧ (¬ r175 ≤ 0 → zwp jtb zsh n zm_MTrl5 post (K - 21) (lGo ak_ZMTrl5 113) 113 [some (.inr (.inr (some (.inl 90)))), some (.inl (g)), some (.inl (u)), some (.inl (op)), some (.inl (t)), some (.inl (r175)), some (.inl (x)), some (.inl (b))] [] (zuF W175 90 37 (W175.1 90 37))))) : zwp jtb zsh n zm_MTrl5 post K (lGo ak_ZMTrl5 168) 168 [some (.inr (.inr (some (.inl 90)))), some (.inl (g)), some (.inl (u)), some (.inl (op)), some (.inl (t)), some (.inl (y)), some (.inl (x)), some (.inl (b))] [] V := by
  obtain ⟨kk__, rfl⟩ : ∃ kk__, K = kk__ + 22 := ⟨K - 22, by omega⟩
  exact (show (-2147483648 ≤ op + 1 ∧ op + 1 ≤ 2147483647) ∧ 3 = 3 ∧ false = false ∧ jin3 333 2643 9 zm_MTrl5.2.2.1.1 = true ∧ lRm zm_MTrl5.2.1 { frames := 9, cells := 0, slots := 0, locals := 234 } 8 = true ∧ Nat.ble 4 4 = true ∧ Nat.ble 0 8 = true ∧ 90 < n ∧ 12 = 12 ∧ Nat.ble 1000 12 = false ∧ zc_MTrl6 [.inr (.inr (some (.inl 90))), .inl (g), .inl (b), .inl (op + 1)] V (fun vv__ WW__ => zwp jtb zsh n zm_MTrl5 post (kk__ + 15) (lGo ak_ZMTrl5 178) 178 [some (.inr (.inr (some (.inl 90)))), some (.inl (g)), some (.inl (u)), some (.inl (op)), some (.inl (t)), some (.inl (y)), some (.inl (x)), some (.inl (b))] (vv__.toList ++ []) WW__) from ⟨(h).1, (Exists.elim ((h).2) (fun s175 gh175 => ⟨rfl, rfl, rfl, rfl, rfl, rfl, (Nat.lt_of_lt_of_le (by decide) hn), rfl, rfl, g, b, op + 1, s175, rfl, (gh175).1, fun r175 W175 hr175 => (show (r175 ≤ 0 → 90 < n ∧ 12 = 12 ∧ (-2147483648 ≤ (W175.1 90 37) + 1 ∧ (W175.1 90 37) + 1 ≤ 2147483647) ∧ 90 < n ∧ 12 = 12 ∧ (some 0 : Option Nat) = some 0 ∧ ((0 : Nat) = 0 ∨ ((0 : Nat) = 1 ∧ (((W175.1 90 37) + 1) = 0 ∨ ((W175.1 90 37) + 1) = 1))) ∧ (r175 ≤ 0 → zwp jtb zsh n zm_MTrl5 post (kk__ + 4) (lGo ak_ZMTrl5 212) 212 [some (.inr (.inr (some (.inl 90)))), some (.inl (g)), some (.inl (u)), some (.inl (op)), some (.inl (t)), some (.inl (r175)), some (.inl (x)), some (.inl (b))] [] (zuF W175 90 37 ((W175.1 90 37) + 1))) ∧ (¬ r175 ≤ 0 → zwp jtb zsh n zm_MTrl5 post (kk__ + 0) (lGo ak_ZMTrl5 113) 113 [some (.inr (.inr (some (.inl 90)))), some (.inl (g)), some (.inl (u)), some (.inl (op)), some (.inl (t)), some (.inl (r175)), some (.inl (x)), some (.inl (b))] [] (zuF W175 90 37 ((W175.1 90 37) + 1)))) ∧ (¬ r175 ≤ 0 → 90 < n ∧ 12 = 12 ∧ 90 < n ∧ 12 = 12 ∧ (some 0 : Option Nat) = some 0 ∧ ((0 : Nat) = 0 ∨ ((0 : Nat) = 1 ∧ ((W175.1 90 37) = 0 ∨ (W175.1 90 37) = 1))) ∧ (r175 ≤ 0 → zwp jtb zsh n zm_MTrl5 post (kk__ + 5) (lGo ak_ZMTrl5 212) 212 [some (.inr (.inr (some (.inl 90)))), some (.inl (g)), some (.inl (u)), some (.inl (op)), some (.inl (t)), some (.inl (r175)), some (.inl (x)), some (.inl (b))] [] (zuF W175 90 37 (W175.1 90 37))) ∧ (¬ r175 ≤ 0 → zwp jtb zsh n zm_MTrl5 post (kk__ + 1) (lGo ak_ZMTrl5 113) 113 [some (.inr (.inr (some (.inl 90)))), some (.inl (g)), some (.inl (u)), some (.inl (op)), some (.inl (t)), some (.inl (r175)), some (.inl (x)), some (.inl (b))] [] (zuF W175 90 37 (W175.1 90 37)))) from (have h := ((gh175).2 r175 W175 hr175); ⟨fun c183_10 => ⟨(Nat.lt_of_lt_of_le (by decide) hn), rfl, ⟨(((h).1 c183_10)).1, ⟨(Nat.lt_of_lt_of_le (by decide) hn), rfl, rfl, (Or.inl rfl), ⟨fun c204_17 => (((((h).1 c183_10)).2).1 c204_17), fun c204_17 => (((((h).1 c183_10)).2).2 c204_17)⟩⟩⟩⟩, fun c183_10 => ⟨(Nat.lt_of_lt_of_le (by decide) hn), rfl, ⟨(Nat.lt_of_lt_of_le (by decide) hn), rfl, rfl, (Or.inl rfl), ⟨fun c204_16 => ((((h).2 c183_10)).1 c204_16), fun c204_16 => ((((h).2 c183_10)).2 c204_16)⟩⟩⟩⟩))⟩))⟩)
set_option maxRecDepth 8000 in
theorem zp_MTrl5_212 {n K : Nat} {V : zW} {post : zPo} {g u op t y x b : Int}  (hK : 6 ≤ K) (hn : 142 ≤ n) (h : ∃ s216 : gSt, (gW V g s216 ∧ s216.2.2.2.1 = t ∧ ¬ s216.2.2.2.2.1 = 1 ∧ zBn V (V.1 90 37) s216.1) ∧ ∀ r216 : Int, ∀ W216 : zW, (zFr [(90, 37)] [100, 101] V W216 ∧ zFo g V W216 ∧ ((r216 = 0 ∧ ∃ s2 : gSt, gP (V.2.1 91) (V.1 90 1) s216 s2 ∧ gW W216 g s2 ∧ W216.1 90 37 = s2.1 ∧ s2.2.2.2.1 = t ∧ s2.2.2.2.2.2 = s216.2.2.2.2.2 ∧ s2.2.1 = s216.2.1 ∧ ((s2.2.2.2.2.1 = s216.2.2.2.2.1 ∧ s2.1 = s216.1) ∨ s2.2.2.2.2.1 = (if s216.2.2.2.2.1 = 0 then 0 else 4)) ∧ ¬ gcR (xLk (V.2.1 91) (V.1 90 1) s2.1)) ∨ (0 < r216 ∧ r216 ≤ 1000000 ∧ gF (V.2.1 91) (V.1 90 1) s216))) → zwp jtb zsh n zm_MTrl5 post (K - 6) (lGo ak_ZMTrl5 113) 113 [some (.inr (.inr (some (.inl 90)))), some (.inl (g)), some (.inl (u)), some (.inl (op)), some (.inl (t)), some (.inl (r216)), some (.inl (x)), some (.inl (b))] [] W216) : zwp jtb zsh n zm_MTrl5 post K (lGo ak_ZMTrl5 212) 212 [some (.inr (.inr (some (.inl 90)))), some (.inl (g)), some (.inl (u)), some (.inl (op)), some (.inl (t)), some (.inl (y)), some (.inl (x)), some (.inl (b))] [] V := by
  obtain ⟨kk__, rfl⟩ : ∃ kk__, K = kk__ + 6 := ⟨K - 6, by omega⟩
  exact (show 3 = 3 ∧ false = false ∧ jin3 330 2639 7 zm_MTrl5.2.2.1.1 = true ∧ lRm zm_MTrl5.2.1 { frames := 1, cells := 0, slots := 0, locals := 21 } 11 = true ∧ Nat.ble 3 3 = true ∧ Nat.ble 0 8 = true ∧ 90 < n ∧ 12 = 12 ∧ Nat.ble 1000 12 = false ∧ zc_MTrrm [.inr (.inr (some (.inl 90))), .inl (g), .inl (t)] V (fun vv__ WW__ => zwp jtb zsh n zm_MTrl5 post (kk__ + 2) (lGo ak_ZMTrl5 219) 219 [some (.inr (.inr (some (.inl 90)))), some (.inl (g)), some (.inl (u)), some (.inl (op)), some (.inl (t)), some (.inl (y)), some (.inl (x)), some (.inl (b))] (vv__.toList ++ []) WW__) from (Exists.elim (h) (fun s216 gh216 => ⟨rfl, rfl, rfl, rfl, rfl, rfl, (Nat.lt_of_lt_of_le (by decide) hn), rfl, rfl, g, t, s216, rfl, (gh216).1, fun r216 W216 hr216 => (show zwp jtb zsh n zm_MTrl5 post (kk__ + 0) (lGo ak_ZMTrl5 113) 113 [some (.inr (.inr (some (.inl 90)))), some (.inl (g)), some (.inl (u)), some (.inl (op)), some (.inl (t)), some (.inl (r216)), some (.inl (x)), some (.inl (b))] [] W216 from ((gh216).2 r216 W216 hr216))⟩)))
set_option maxRecDepth 1000000 in
set_option maxHeartbeats 4000000 in
theorem zk_MTrl5 {l : Launch} {E : jE} {n : Nat} (hn : 142 ≤ n) : zHas l E jcl jtb lw_tbl zsh n (y_MT_readLine, false, 4, 12, { frames := 10, cells := 0, slots := 0, locals := 261 }, zc_MTrl5) := by
  refine ⟨⟨rfl, rfl, ⟨show 1 ≤ 4 by decide, m_MT_readLine, i_MT_readLine, e_MT_readLine, fun _ => ⟨_, rfl, rfl⟩⟩⟩, ?_⟩
  rintro vz W po hO hW ⟨g, u, op, s, rfl, hq, hp⟩
  refine zmet (m := zm_MTrl5) rfl (by decide) (fun _ _ => jtF_ok) lo_MT ao_ZMTrl5 jC (fun q h => by cases h) (aAllc (fun G h => by obtain rfl := Option.some.inj h; exact ql_MT_275) (aAllc (fun G h => by obtain rfl := Option.some.inj h; exact ql_MT_318) (aAllc (fun G h => by obtain rfl := Option.some.inj h; exact ql_MT_278) (aAllc (fun G h => by obtain rfl := Option.some.inj h; exact ql_MT_96) (aAllc (fun G h => by obtain rfl := Option.some.inj h; exact ql_MT_321) (aAllc (fun G h => by obtain rfl := Option.some.inj h; exact ql_MT_324) (aAllc (fun G h => by obtain rfl := Option.some.inj h; exact ql_MT_327) (aAllc (fun G h => by obtain rfl := Option.some.inj h; exact ql_MT_330) (aAllc (fun G h => by obtain rfl := Option.some.inj h; exact ql_MT_287) (aAllc (fun G h => by obtain rfl := Option.some.inj h; exact ql_MT_333) (fun q h => by cases h))))))))))) (aAllc (zk_MTbl hn) (aAllc (zk_MTrsh hn) (aAllc (zk_MTlook hn) (aAllc (zk_MTplace hn) (aAllc (zk_MTrmn hn) (aAllc (zk_MTrmv hn) (aAllc (zk_MTrmk hn) (aAllc (zk_MTrrm hn) (aAllc (zk_MTflt hn) (aAllc (zk_MTrl6 hn) (fun q h => by cases h))))))))))) (Nat.le_of_ble_eq_true rfl) hO hW (66000000) ?_
  have op6 := hq.1
  have hI0 := hq.2.2.1
  have hg := hq.2.1.1
  have elen : (s.2.2.2.2.2.length : Int) = 5 := hq.2.2.2.2.1
  have hB0 : xBs (W.2.1 91) (W.1 90 1) s.1 s.1 := xBs_i hq.2.2.2.2.2.2.1
  have i0 : gJ3 W W g u u s := ⟨⟨zFr_0, zFo_0⟩, s, gP_0, hq.2.1, hq.2.2.2.2.2.2.1, hq.2.2.2.1, rfl, Or.inl ⟨hq.2.2.2.1, Or.inr hq.2.2.2.2.2.1⟩⟩
  have main : ∀ m : Nat, (∀ (K : Nat) (V : zW) (t : Int) (u5 u6 u7 : Option zv), gJ3 W V g u t s → W.1 90 1 - V.1 90 37 < (m : Nat) → 1000 * m + 500 ≤ K → zwp jtb zsh n zm_MTrl5 po K (lGo ak_ZMTrl5 3) 3 [some (.inr (.inr (some (.inl 90)))), some (.inl g), some (.inl u), some (.inl op), some (.inl (t)), u5, u6, u7] [] V) ∧ (∀ (K : Nat) (V : zW) (t y x b : Int), gJ5 W V g u t b y s → (y = 0 → W.1 90 1 - V.1 90 37 < (m : Nat)) → 1000 * m + 700 ≤ K → zwp jtb zsh n zm_MTrl5 po K (lGo ak_ZMTrl5 113) 113 [some (.inr (.inr (some (.inl 90)))), some (.inl g), some (.inl u), some (.inl op), some (.inl (t)), some (.inl (y)), some (.inl (x)), some (.inl (b))] [] V) := by
    intro m
    induction m with
    | zero =>
      have h3 : (∀ (K : Nat) (V : zW) (t : Int) (u5 u6 u7 : Option zv), gJ3 W V g u t s → W.1 90 1 - V.1 90 37 < (0 : Nat) → 1000 * 0 + 500 ≤ K → zwp jtb zsh n zm_MTrl5 po K (lGo ak_ZMTrl5 3) 3 [some (.inr (.inr (some (.inl 90)))), some (.inl g), some (.inl u), some (.inl op), some (.inl (t)), u5, u6, u7] [] V) := by
        intro K V t u5 u6 u7 hJ hm
        obtain ⟨hB, s1, _, hw, _⟩ := hJ
        have := hw.2.1.1
        have := (gBs_x hB).2
        omega
      refine ⟨h3, ?_⟩
      intro K V t y x b hJ hm hK
      have y0 : 0 < y := by
        rcases hJ.2 with h | ⟨h, s1, _, hw, _⟩
        · exact h.1
        · exfalso
          have := hm h
          have := hw.2.1.1
          have := (gBs_x hJ.1).2
          omega
      have b231 : 0 < y → po (some (.inl y)) V := fun _ => hp _ _ ⟨hJ.1.1, hJ.1.2, Or.inr (hJ.2.resolve_right (fun z => by have := z.1; omega))⟩
      exact zp_MTrl5_113 (by omega) hn ⟨fun c115 => ⟨fun c226 => (by exfalso; omega), fun c226 => b231 (by omega)⟩, fun c115 => (by exfalso; omega)⟩
    | succ m ih =>
      have ih113 := ih.2
      have h3 : (∀ (K : Nat) (V : zW) (t : Int) (u5 u6 u7 : Option zv), gJ3 W V g u t s → W.1 90 1 - V.1 90 37 < ((m + 1) : Nat) → 1000 * (m + 1) + 500 ≤ K → zwp jtb zsh n zm_MTrl5 po K (lGo ak_ZMTrl5 3) 3 [some (.inr (.inr (some (.inl 90)))), some (.inl g), some (.inl u), some (.inl op), some (.inl (t)), u5, u6, u7] [] V) := by
        intro K V t u5 u6 u7 hI hm hK
        obtain ⟨hB, s1, hP, hw, eb, et, ek, hH⟩ := hI
        have hI : gBs W V g ∧ True := ⟨hB, trivial⟩
        have e1 := gBs_x hB
        have hI1 := (gI_p hI0 hP).1
        have elen : (s1.2.2.2.2.2.length : Int) = 5 := by rw [ek]; exact elen
        have ate : ∀ U, (zFr [(90, 37)] [] V U ∧ zTp U ∧ zBn V (V.1 90 37) (U.1 90 37)) → U.1 90 37 = s1.1 := fun U h => xBs_u h.2.2 eb
        have lk4 : ∀ U, (zFr [(90, 37)] [] V U ∧ zTp U ∧ zBn V (V.1 90 37) (U.1 90 37)) → zLk U (U.1 90 37) = xLk (W.2.1 91) (W.1 90 1) s1.1 := fun U h => by rw [gLk (gBs_f hB h.1).1, ate U h]
        have st2 : ¬ t = u → 2 ≤ s1.2.2.2.2.1 := by
          intro h
          rcases hH with z | z
          · exact absurd (et.symm.trans z.1) h
          · have := z.2.1; omega
        have ret : ∀ U, (zFr [(90, 37)] [] V U ∧ zTp U ∧ zBn V (V.1 90 37) (U.1 90 37)) → gEn (W.2.1 91) (W.1 90 1) 5 s1 → po (some (.inl 0)) U := by
          intro U h hE
          have B := gBs_f hB h.1
          exact hp _ _ ⟨B.1, B.2, Or.inl ⟨rfl, s1, hP, gW_fr h.1 (by decide) (by decide) h.2.1 hw, ate U h, ek, hE⟩⟩
        have le1 : V.1 90 37 ≤ s1.1 := eb.1.1
        have h38 : ∀ U, (zFr [(90, 37)] [] V U ∧ zTp U ∧ zBn V (V.1 90 37) (U.1 90 37)) → ¬ gOv (W.2.1 91) (W.1 90 1) s1 → (xLk (W.2.1 91) (W.1 90 1) s1.1 = 41 → ¬ s1.2.2.2.1 = u → s1.2.2.2.2.2 = []) → ∀ K : Nat, 1000 * m + 1300 ≤ K → zwp jtb zsh n zm_MTrl5 po K (lGo ak_ZMTrl5 38) 38 [some (.inr (.inr (some (.inl 90)))), some (.inl g), some (.inl u), some (.inl op), some (.inl (t)), u5, u6, u7] [] U := by
          intro U hU nO n41 K hK
          have aU := ate U hU
          have hB := gBs_f hB hU.1
          have hw := gW_fr hU.1 (by decide) (by decide) hU.2.1 hw
          have e1 := gBs_x hB
          clear hI ih ret lk4 ate
          have pre42 : (0 ≤ g ∧ g ≤ 1) ∧ (∃ N, (0 ≤ t ∧ t ≤ N ∧ N ≤ 300) ∧ xOk (zSt U g) (zro U 94 g) (zro U 95 g) N) ∧ zSb U g := ⟨hg, ⟨s1.2.1.2.1, by rw [← et]; have := hw.2.2.2.2.1; have := hw.2.2.2.1.1; omega, (zRt_O hw.2.2.1 hw.2.2.2.1).1⟩, hw.2.2.1.2.2.2.2⟩
          have at42 : ∀ W42, (zAt W42 (xPo (zSt U g) (zro U 94 g) (zro U 95 g) t) ∧ zFr [(90, 25), (90, 26), (90, 27), (90, 28), (90, 29), (90, 33)] [110, 111, 112, 113, 114] U W42) → zAt W42 (gPo s1) := fun W42 h => zAt_s hw (by rw [et]; exact h.1)
          have nu : ∀ W42 W46 r46, (zAt W42 (xPo (zSt U g) (zro U 94 g) (zro U 95 g) t) ∧ zFr [(90, 25), (90, 26), (90, 27), (90, 28), (90, 29), (90, 33)] [110, 111, 112, 113, 114] U W42) → (zFr [(90, 37)] [] W42 W46 ∧ zTp W46 ∧ zRn W42 W46 (W42.1 90 37) r46 ∧ 0 ≤ r46 ∧ r46 ≤ 1000000) → (r46 = 0 ∧ gNu (W.2.1 91) (W.1 90 1) (gPo s1).2 s1.1 (W46.1 90 37) 0) ∨ (0 < r46 ∧ gNu (W.2.1 91) (W.1 90 1) (gPo s1).2 s1.1 s1.1 1) := by
            intro W42 W46 r46 h42 h46
            have z := gNu_z (gBs_f hB h42.2).1 (by decide) (by decide) (at42 W42 h42) h46.2.2.1
            rw [zFr_f h42.2 90 37, aU] at z
            exact z
          have b58 : ∀ W42 W46 r46, (zAt W42 (xPo (zSt U g) (zro U 94 g) (zro U 95 g) t) ∧ zFr [(90, 25), (90, 26), (90, 27), (90, 28), (90, 29), (90, 33)] [110, 111, 112, 113, 114] U W42) → (zFr [(90, 37)] [] W42 W46 ∧ zTp W46 ∧ zRn W42 W46 (W42.1 90 37) r46 ∧ 0 ≤ r46 ∧ r46 ≤ 1000000) → 0 < r46 → po (some (.inl r46)) W46 := by
            intro W42 W46 r46 h42 h46 r0
            have B := gBs_f (gBs_f hB h42.2) h46.1
            have z := (nu W42 W46 r46 h42 h46).resolve_left (fun z => by omega)
            exact hp _ _ ⟨B.1, B.2, Or.inr ⟨r0, h46.2.2.2.2, gF_1 hP (gS_h hH nO n41 ⟨_, _, z.2, Or.inl ⟨rfl, rfl⟩⟩)⟩⟩
          have h59 : ∀ W42 W46 r46, (zAt W42 (xPo (zSt U g) (zro U 94 g) (zro U 95 g) t) ∧ zFr [(90, 25), (90, 26), (90, 27), (90, 28), (90, 29), (90, 33)] [110, 111, 112, 113, 114] U W42) → (zFr [(90, 37)] [] W42 W46 ∧ zTp W46 ∧ zRn W42 W46 (W42.1 90 37) r46 ∧ 0 ≤ r46 ∧ r46 ≤ 1000000) → r46 ≤ 0 → ∀ (K : Nat) (u6 u7 : Option zv), 1000 * m + 1200 ≤ K → zwp jtb zsh n zm_MTrl5 po K (lGo ak_ZMTrl5 59) 59 [some (.inr (.inr (some (.inl 90)))), some (.inl g), some (.inl u), some (.inl op), some (.inl (t)), some (.inl (r46)), u6, u7] [] W46 := by
            intro W42 W46 r46 h42 h46 r0 K u6 u7 hK
            have z := (nu W42 W46 r46 h42 h46).resolve_right (fun z => by omega)
            have B := gBs_f (gBs_f hB h42.2) h46.1
            have hw : gW W46 g s1 := gW_fr h46.1 (by decide) (by decide) h46.2.1 (gW_fr h42.2 (by decide) (by decide) (zTp_fr h42.2 hw.2.1) hw)
            have hA := zAt_fr h46.1 (by decide) (by decide) (at42 W42 h42)
            have hNu := z.2
            have e1 := gBs_x B
            generalize W46 = V at B hw hA hNu e1 ⊢
            clear z h42 h46 nu b58 pre42 at42
            have hd := gI_d hI1
            have hd6 : trE s1.2.1.2.2.1 (xLd s1.2.1.2.2.2.2.1) t + (if s1.2.1.2.2.2.2.1 t = [] then 0 else 1) ≤ 6 := by rw [et] at hd; have := hd.1; have := hI1.2.2.1; omega
            have b76 : ∀ W3 r, (zFr [(90, 36), (90, 37)] [93, 94, 95, 96, 97, 98, 100, 110, 111, 112, 115] V W3 ∧ zFo g V W3 ∧ ((r < 0 ∧ -1000000 ≤ r ∧ gMv (V.2.1 91) (V.1 90 1) s1 (V.1 90 37) none) ∨ (0 ≤ r ∧ ∃ e m, xLt (xLk (V.2.1 91) (V.1 90 1) (V.1 90 37)) ∧ xWd (V.2.1 91) (V.1 90 1) (V.1 90 37) e ∧ zUn (gPo s1).1 (fun i => V.2.1 91 (V.1 90 37 + i)) (e - V.1 90 37) m ∧ ¬ gMb s1 m ∧ r = s1.2.1.2.1 + 1 ∧ W3.1 90 37 = e ∧ gW W3 g (e, xApp s1.2.1 t m, zuI s1.2.2.1 (s1.2.1.2.1 + 1) 0, s1.2.1.2.1 + 1, 2, s1.2.2.2.2.2)))) → r < 0 → po (some (.inl (-r))) W3 := by
              intro W3 r h r0
              have B3 := gBs_o B h.1 h.2.1
              have z := h.2.2.resolve_right (fun z => by have := z.1; omega)
              rw [e1.1, e1.2] at z
              exact hp _ _ ⟨B3.1, B3.2, Or.inr ⟨by omega, by omega, gF_1 hP (gS_h hH nO n41 (gMv_0 hNu z.2.2))⟩⟩
            have h85 : ∀ W3 r, (zFr [(90, 36), (90, 37)] [93, 94, 95, 96, 97, 98, 100, 110, 111, 112, 115] V W3 ∧ zFo g V W3 ∧ ((r < 0 ∧ -1000000 ≤ r ∧ gMv (V.2.1 91) (V.1 90 1) s1 (V.1 90 37) none) ∨ (0 ≤ r ∧ ∃ e m, xLt (xLk (V.2.1 91) (V.1 90 1) (V.1 90 37)) ∧ xWd (V.2.1 91) (V.1 90 1) (V.1 90 37) e ∧ zUn (gPo s1).1 (fun i => V.2.1 91 (V.1 90 37 + i)) (e - V.1 90 37) m ∧ ¬ gMb s1 m ∧ r = s1.2.1.2.1 + 1 ∧ W3.1 90 37 = e ∧ gW W3 g (e, xApp s1.2.1 t m, zuI s1.2.2.1 (s1.2.1.2.1 + 1) 0, s1.2.1.2.1 + 1, 2, s1.2.2.2.2.2)))) → 0 ≤ r → ∀ (K : Nat) (y : Int), 1000 * m + 1100 ≤ K → zwp jtb zsh n zm_MTrl5 po K (lGo ak_ZMTrl5 85) 85 [some (.inr (.inr (some (.inl 90)))), some (.inl g), some (.inl u), some (.inl op), some (.inl (r)), some (.inl (y)), some (.inl (r)), some (.inl (t))] [] W3 := by
              intro W3 r h r0 K y hK
              have B3 := gBs_o B h.1 h.2.1
              have z := h.2.2.resolve_left (fun z => by have := z.1; omega)
              rw [e1.1, e1.2] at z
              obtain ⟨_, e, mv, h1, h2, h4, h5, h6, h7, h8⟩ := z
              obtain ⟨q, hq'⟩ := xBs_x (X := W.2.1 91) (N := W.1 90 1) (p := e) h2.1.2
              have hG : gS (W.2.1 91) (W.1 90 1) s1 (some (q, xApp s1.2.1 s1.2.2.2.1 mv, zuI s1.2.2.1 (s1.2.1.2.1 + 1) 0, s1.2.1.2.1 + 1, 2, s1.2.2.2.2.2)) := gS_h hH nO n41 (gMv_0 hNu (Or.inr ⟨h1, e, mv, h2, h4, Or.inr ⟨h5, q, hq', rfl⟩⟩))
              have hP3 := gP_1 hP hG
              have hI3 := gI_s hI1 hG
              have e3 := gBs_x B3
              have u1 : u ≤ s1.2.1.2.1 := by
                have a := (gI_p hI0 hP).2.2.1
                have b := hI0.2.1.2
                have c := hq.2.2.2.1
                omega
              rw [et] at hG hP3 hI3
              generalize es3 : ((q, xApp s1.2.1 t mv, zuI s1.2.2.1 (s1.2.1.2.1 + 1) 0, s1.2.1.2.1 + 1, 2, s1.2.2.2.2.2) : gSt) = s3 at hG hP3 hI3
              have et3 : s3.2.2.2.1 = r := by rw [← es3]; exact h6.symm
              have es2 : s3.2.2.2.2.1 = 2 := by rw [← es3]
              have em : s3.2.1.2.2.2.2.2 r = 0 := by
                rw [← es3, h6]
                exact zuI_s
              have eb3 : zBn W3 (W3.1 90 37) s3.1 := by
                show xBs (W3.2.1 91) (W3.1 90 1) (W3.1 90 37) s3.1
                rw [e3.1, e3.2, h7, ← es3]
                exact hq'
              have hw3 : gW W3 g s3 := by rw [← es3]; exact h8
              have k3 : s3.2.2.2.2.2 = s.2.2.2.2.2 := by rw [← es3]; exact ek
              have p3 : s3.2.1.2.2.1 r = t := by
                rw [← es3, h6]
                exact zuI_s
              have n3 : ¬ r = u := by omega
              have N3 : s3.2.1.2.1 = r := by rw [← es3]; exact h6.symm
              have lt3 : s1.1 < s3.1 := hI3.2.2.1
              have hI3 := hI3.1
              clear hG es3
              generalize r = x at et3 em p3 n3 N3 ⊢
              generalize W3 = V at B3 e3 eb3 hw3 ⊢
              have B := B3
              have e1 := e3
              have et := et3
              have eb := eb3
              have hw := hw3
              have j89 : ∀ W3 r, (zFr [(90, 37)] [98, 99] V W3 ∧ zFo g V W3 ∧ ((r = 0 ∧ ∃ s2 : gSt, gP (V.2.1 91) (V.1 90 1) s3 s2 ∧ gW W3 g s2 ∧ W3.1 90 37 = s2.1 ∧ s2.2.2.2.1 = x ∧ s2.2.2.2.2.2 = s3.2.2.2.2.2 ∧ ((s2.2.2.2.2.1 = 2 ∧ ¬ gcM (xLk (V.2.1 91) (V.1 90 1) s2.1)) ∨ (s2.2.2.2.2.1 = 3 ∧ ¬ xLk (V.2.1 91) (V.1 90 1) s2.1 = 36))) ∨ (0 < r ∧ r ≤ 1000000 ∧ gF (V.2.1 91) (V.1 90 1) s3))) → 0 < r → gJ5 W W3 g u x t r s := by
                intro W3 r h r0
                refine ⟨gBs_o B h.1 h.2.1, Or.inl ?_⟩
                rcases h.2.2 with h2 | h2
                · omega
                · rw [e1.1, e1.2] at h2
                  exact ⟨h2.1, h2.2.1, gF_t hP3 h2.2.2⟩
              have h104 : ∀ W3, ∀ {r : Int}, (zFr [(90, 37)] [98, 99] V W3 ∧ zFo g V W3 ∧ ((r = 0 ∧ ∃ s2 : gSt, gP (V.2.1 91) (V.1 90 1) s3 s2 ∧ gW W3 g s2 ∧ W3.1 90 37 = s2.1 ∧ s2.2.2.2.1 = x ∧ s2.2.2.2.2.2 = s3.2.2.2.2.2 ∧ ((s2.2.2.2.2.1 = 2 ∧ ¬ gcM (xLk (V.2.1 91) (V.1 90 1) s2.1)) ∨ (s2.2.2.2.2.1 = 3 ∧ ¬ xLk (V.2.1 91) (V.1 90 1) s2.1 = 36))) ∨ (0 < r ∧ r ≤ 1000000 ∧ gF (V.2.1 91) (V.1 90 1) s3))) → r ≤ 0 → ∀ (K : Nat) (y : Int), 1000 * m + 1000 ≤ K → zwp jtb zsh n zm_MTrl5 po K (lGo ak_ZMTrl5 104) 104 [some (.inr (.inr (some (.inl 90)))), some (.inl g), some (.inl u), some (.inl op), some (.inl (x)), some (.inl (y)), some (.inl (x)), some (.inl (t))] [] W3 := by
                intro W3 r h r0 K y hK
                have B4 := gBs_o B h.1 h.2.1
                have z := h.2.2.resolve_right (fun z => by omega)
                rw [e1.1, e1.2] at z
                obtain ⟨_, s4, hP4, hw4, ea4, et4, ek4, hc4⟩ := z
                have e4 := gBs_x B4
                have hQ4 := gI_p hI3 hP4
                have hb4 := gB_p (gB_p hB0 hP3) hP4
                have hP4 := gP_t hP3 hP4
                generalize W3 = V at B4 hw4 ea4 e4 ⊢
                have n1 : ¬ s4.2.2.2.2.1 = 1 := by omega
                have et := et4
                have hw := hw4
                have eb : zBn V (V.1 90 37) s4.1 := by
                  show xBs (V.2.1 91) (V.1 90 1) (V.1 90 37) s4.1
                  rw [e4.1, e4.2, ea4]
                  exact hb4
                have p4 : s4.2.1.2.2.1 x = t := by
                  have hx1 := hI3.2.1
                  have hx2 := hI3.2.2.2.2.2.resolve_left (fun z => by have := z.1; omega)
                  rw [et3] at hx1 hx2
                  rw [(hQ4.2.2.2.2 x (by have := hx2.2.2.2.2; omega) hx1.2).1]
                  exact p3
                have j108 : ∀ (W3 : zW) (r : Int), (zFr [(90, 37)] [100, 101] V W3 ∧ zFo g V W3 ∧ ((r = 0 ∧ ∃ s2 : gSt, gP (V.2.1 91) (V.1 90 1) s4 s2 ∧ gW W3 g s2 ∧ W3.1 90 37 = s2.1 ∧ s2.2.2.2.1 = x ∧ s2.2.2.2.2.2 = s4.2.2.2.2.2 ∧ s2.2.1 = s4.2.1 ∧ ((s2.2.2.2.2.1 = s4.2.2.2.2.1 ∧ s2.1 = s4.1) ∨ s2.2.2.2.2.1 = (if s4.2.2.2.2.1 = 0 then 0 else 4)) ∧ ¬ gcR (xLk (V.2.1 91) (V.1 90 1) s2.1)) ∨ (0 < r ∧ r ≤ 1000000 ∧ gF (V.2.1 91) (V.1 90 1) s4))) → gJ5 W W3 g u x t r s := by
                  intro W3 r h
                  refine ⟨gBs_o B4 h.1 h.2.1, ?_⟩
                  rcases h.2.2 with ⟨r0, s9, h1, h2, h3, h4, h5, h6, h7, h8⟩ | h2
                  · rw [e4.1, e4.2] at h1 h8
                    refine Or.inr ⟨r0, s9, gP_t hP4 h1, h2, h3, h4, h5.trans (ek4.trans k3), ?_, h8, by rw [h6]; exact p4, n3⟩
                    rcases h7 with z | z
                    · unfold gSc
                      rw [z.1, z.2]
                      rcases hc4 with y | y
                      · exact Or.inl y
                      · exact Or.inr (Or.inl y)
                    · refine Or.inr (Or.inr ?_)
                      rw [z, if_neg (by omega)]
                  · rw [e4.1, e4.2] at h2
                    exact Or.inl ⟨h2.1, h2.2.1, gF_t hP4 h2.2.2⟩
                have m108 : ∀ (W3 : zW) (r : Int), (zFr [(90, 37)] [100, 101] V W3 ∧ zFo g V W3 ∧ ((r = 0 ∧ ∃ s2 : gSt, gP (V.2.1 91) (V.1 90 1) s4 s2 ∧ gW W3 g s2 ∧ W3.1 90 37 = s2.1 ∧ s2.2.2.2.1 = x ∧ s2.2.2.2.2.2 = s4.2.2.2.2.2 ∧ s2.2.1 = s4.2.1 ∧ ((s2.2.2.2.2.1 = s4.2.2.2.2.1 ∧ s2.1 = s4.1) ∨ s2.2.2.2.2.1 = (if s4.2.2.2.2.1 = 0 then 0 else 4)) ∧ ¬ gcR (xLk (V.2.1 91) (V.1 90 1) s2.1)) ∨ (0 < r ∧ r ≤ 1000000 ∧ gF (V.2.1 91) (V.1 90 1) s4))) → r = 0 → W.1 90 1 - W3.1 90 37 < (m : Nat) := by
                  intro W3 r h r0
                  rcases h.2.2 with ⟨_, s9, h1, h2, h3, _⟩ | h2
                  · rw [e4.1, e4.2] at h1
                    have a := (gI_p hQ4.1 h1).2.1
                    have b := hQ4.2.1
                    omega
                  · omega
                exact zp_MTrl5_104 (by omega) hn ⟨s4, ⟨hw, et, n1, eb⟩, fun r108 W108 hr108 => (ih113 _ W108 _ _ _ _ (j108 W108 r108 hr108) (fun z => m108 W108 r108 hr108 z) (by omega))⟩
              exact zp_MTrl5_85 (by omega) hn ⟨s3, ⟨hw, et, es2, em, eb⟩, fun r89 W89 hr89 => ⟨fun c96 => (h104 W89 hr89 (by omega) _ _ (by omega)), fun c96 => (ih113 _ W89 _ _ _ _ (j89 W89 r89 hr89 (by omega)) (fun z => by omega) (by omega))⟩⟩
            exact zp_MTrl5_59 (by omega) hn ⟨s1, ⟨hw, et, hA, hd6⟩, fun r63 W63 hr63 => ⟨fun c70 => (h85 W63 r63 hr63 (by omega) _ _ (by omega)), fun c70 => ⟨(by have := hr63.2.2; omega), (b76 W63 r63 hr63 (by omega))⟩⟩⟩
          exact zp_MTrl5_38 (by omega) hn ⟨pre42, fun W42 hr42 => ⟨(zTp_fr hr42.2 hw.2.1), fun r46 W46 hr46 => ⟨fun c53 => (h59 W42 W46 r46 hr42 hr46 (by omega) _ _ _ (by omega)), fun c53 => (b58 W42 W46 r46 hr42 hr46 (by omega))⟩⟩⟩
        exact zp_MTrl5_3 (by omega) hn ⟨hw.2.1, fun W4 hr4 => ⟨fun c8 => ⟨hr4.2.1, fun r22 hr22 => ⟨fun c27 => (by first | (exfalso; omega) | exact h38 W4 hr4 (fun z => by rw [z.1] at elen; exact absurd elen (by decide)) (fun z1 z2 => by exfalso; have z := lk4 W4 hr4; omega) _ (by omega)), fun c27 => ⟨fun c33 => (by first | (exfalso; omega) | exact h38 W4 hr4 (fun z => by rw [z.1] at elen; exact absurd elen (by decide)) (fun z1 z2 => by exfalso; have z := lk4 W4 hr4; omega) _ (by omega)), fun c33 => (by first | (exfalso; omega) | exact ret W4 hr4 (Or.inr ⟨by decide, by have z := lk4 W4 hr4; omega, by have := st2 (by omega); omega, by have := st2 (by omega); omega⟩))⟩⟩⟩, fun c8 => ⟨hr4.2.1, fun r12 hr12 => ⟨fun c15 => (by first | (exfalso; omega) | exact h38 W4 hr4 (fun z => by rw [z.1] at elen; exact absurd elen (by decide)) (fun z1 z2 => by exfalso; have z := lk4 W4 hr4; omega) _ (by omega)), fun c15 => (by first | (exfalso; omega) | exact ret W4 hr4 (Or.inr ⟨by decide, by have z := lk4 W4 hr4; omega, by have := st2 (by omega); omega, by have := st2 (by omega); omega⟩))⟩⟩⟩⟩
      refine ⟨h3, ?_⟩
      intro K V t y x b hJ hm hK
      have j5 : ∀ V, gJ5 W V g u t b y s → y = 0 → gBs W V g ∧ ∃ s1 : gSt, gP (W.2.1 91) (W.1 90 1) s s1 ∧ gW V g s1 ∧ V.1 90 37 = s1.1 ∧ s1.2.2.2.1 = t ∧ s1.2.2.2.2.2 = s.2.2.2.2.2 ∧ gSc (W.2.1 91) (W.1 90 1) s1 ∧ ¬ gcR (xLk (W.2.1 91) (W.1 90 1) s1.1) ∧ s1.2.1.2.2.1 t = b ∧ ¬ t = u := fun V h y0 => ⟨h.1, (h.2.resolve_left (fun z => by have := z.1; omega)).2⟩
      have y0 : 0 ≤ y := by rcases hJ.2 with h | h <;> omega
      have tq : ∀ V, gJ5 W V g u t b y s → y = 0 → zTp V := fun V h y0 => by obtain ⟨_, s1, _, hw, _⟩ := j5 V h y0; exact hw.2.1
      have tpV : ∀ V, gJ5 W V g u t b y s → y = 0 → 0 ≤ V.1 90 37 ∧ V.1 90 37 ≤ 65536 := fun V h y0 => by have z := tq V h y0; have := z.1; have := z.2.1; omega
      have b231 : 0 < y → po (some (.inl y)) V := fun _ => hp _ _ ⟨hJ.1.1, hJ.1.2, Or.inr (hJ.2.resolve_right (fun z => by have := z.1; omega))⟩
      have j3 : ∀ V, gJ5 W V g u t b y s → y = 0 → ¬ zLk V (V.1 90 37) = 40 → gJ3 W V g u t s := by
        intro V h y0 h40
        obtain ⟨hB, s1, hP, hw, ea, et, ek, hs, hr, eb, ntu⟩ := j5 V h y0
        rw [gLk hB.1, ea] at h40
        refine ⟨hB, s1, hP, hw, ?_, et, ek, Or.inr ⟨by rw [et]; exact ntu, hs, hr, h40⟩⟩
        show xBs (V.2.1 91) (V.1 90 1) (V.1 90 37) s1.1
        rw [(gBs_x hB).1, (gBs_x hB).2, ea]
        exact gB_p hB0 hP
      have j139 : ∀ U, zFr [(90, 37)] [] V U → y = 0 → zLk V (V.1 90 37) = 40 → ∀ r : Int, op = 6 ∧ 0 < r ∧ r ≤ 1000000 → gJ5 W U g u t b r s := by
        intro U hU y0 c40 r hr
        obtain ⟨hB, s1, hP, hw, ea, et, ek, hs, _, eb, ntu⟩ := j5 V hJ y0
        have e40 : xLk (W.2.1 91) (W.1 90 1) s1.1 = 40 := by rw [← ea, ← gLk hB.1]; exact c40
        have hx := xLk_i (X := W.2.1 91) (N := W.1 90 1) (p := s1.1) (by omega)
        have hst : ¬ s1.2.2.2.2.1 = 0 ∧ ¬ s1.2.2.2.2.1 = 1 := by unfold gSc at hs; omega
        exact ⟨gBs_f hB hU, Or.inl ⟨hr.2.1, hr.2.2, gF_1 hP (Or.inr (Or.inr (Or.inl ⟨Or.inl e40, Or.inr ⟨hst, Or.inl ⟨by omega, Or.inl ⟨by rw [ek]; omega, rfl⟩⟩⟩⟩)))⟩⟩
      have h168 : ∀ V', V' = zuF V 90 37 (V.1 90 37 + 1) → y = 0 → zLk V (V.1 90 37) = 40 → ∀ (K : Nat), 1000 * m + 1200 ≤ K → zwp jtb zsh n zm_MTrl5 po K (lGo ak_ZMTrl5 168) 168 [some (.inr (.inr (some (.inl 90)))), some (.inl g), some (.inl u), some (.inl op), some (.inl (t)), some (.inl (0)), some (.inl (x)), some (.inl (b))] [] V' := by
        intro V' eV y0 c40 K hK
        obtain ⟨hB, s1, hP, hw, ea, et, ek, hs, hr, eb, ntu⟩ := j5 V hJ y0
        have e40 : xLk (W.2.1 91) (W.1 90 1) s1.1 = 40 := by rw [← ea, ← gLk hB.1]; exact c40
        have hx := xLk_i (X := W.2.1 91) (N := W.1 90 1) (p := s1.1) (by omega)
        have e1 := gBs_x hB
        obtain ⟨q, hq'⟩ := xBs_x (X := W.2.1 91) (N := W.1 90 1) (p := s1.1 + 1) (by omega)
        have hst : ¬ s1.2.2.2.2.1 = 0 ∧ ¬ s1.2.2.2.2.1 = 1 := by unfold gSc at hs; omega
        have hl : (s1.2.2.2.2.2.length : Int) = 5 := by rw [ek]; exact elen
        have hG : gS (W.2.1 91) (W.1 90 1) s1 (some (q, s1.2.1, s1.2.2.1, s1.2.1.2.2.1 s1.2.2.2.1, 1, s1.2.2.2.1 :: s1.2.2.2.2.2)) := Or.inr (Or.inr (Or.inl ⟨Or.inl e40, Or.inr ⟨hst, Or.inl ⟨by omega, Or.inr ⟨by omega, q, hq', rfl⟩⟩⟩⟩))
        have hP6 := gP_1 hP hG
        have hI1 := (gI_p hI0 hP).1
        have hI6 := gI_s hI1 hG
        have fV : zFr [(90, 37)] [] V V' := by rw [eV]; exact zFr_F zFr_0 (by decide)
        have tV : zTp V' := by rw [eV]; exact zTp_n hw.2.1 (by omega)
        have aV : V'.1 90 37 = s1.1 + 1 := by rw [eV, zuF_1, if_pos ⟨rfl, rfl⟩, ea]
        have eb' : s1.2.1.2.2.1 s1.2.2.2.1 = b := by rw [et]; exact eb
        generalize es6 : ((q, s1.2.1, s1.2.2.1, s1.2.1.2.2.1 s1.2.2.2.1, 1, s1.2.2.2.1 :: s1.2.2.2.2.2) : gSt) = s6 at hG hP6 hI6
        have s6a : s6.1 = q := by rw [← es6]
        have s6t : s6.2.2.2.1 = b := by rw [← es6]; exact eb'
        have s6k : s6.2.2.2.2.2 = t :: s.2.2.2.2.2 := by rw [← es6, ← ek, ← et]
        have s6w : gW V' g s6 := by
          have z := gW_fr fV (by decide) (by decide) tV hw
          have y := hI6.1.2.1
          rw [← es6] at y ⊢
          exact ⟨z.1, z.2.1, z.2.2.1, z.2.2.2.1, y, z.2.2.2.2.2⟩
        have s6b : zBn V' (V'.1 90 37) s6.1 := by
          show xBs (V'.2.1 91) (V'.1 90 1) (V'.1 90 37) s6.1
          rw [zFr_r fV 91, zFr_f fV 90 1, e1.1, e1.2, aV, s6a]
          exact hq'
        have s6g : s6.2.2.2.2.1 = 1 := by rw [← es6]
        have s6p : s6.2.1 = s1.2.1 := by rw [← es6]
        have pre175 : gLp V' g b 6 s6 := ⟨s6w, hI6.1, s6t, by rw [s6k]; show ((s.2.2.2.2.2.length + 1 : Nat) : Int) = _; omega, by rw [s6g]; rfl, s6b, fun z => by omega⟩
        have e6 : V'.2.1 91 = W.2.1 91 ∧ V'.1 90 1 = W.1 90 1 := ⟨by rw [zFr_r fV 91]; exact e1.1, by rw [zFr_f fV 90 1]; exact e1.2⟩
        have B6 : gBs W V' g := gBs_f hB fV
        have t1 : 1 ≤ t ∧ t ≤ s1.2.1.2.1 := by
          have y := hI6.1.2.2.2.2.1
          rw [s6k, s6p] at y
          exact y.1.1
        have bn175 : ∀ (U : zW) (r : Int), gLq V' U g 6 r s6 → (0 ≤ U.1 90 37 ∧ U.1 90 37 ≤ 65536) ∨ 0 < r := by
          intro U r hr
          rcases hr.2.2 with ⟨_, s2, _, h2, _⟩ | h2
          · left; have := h2.2.1.1; have := h2.2.1.2.1; omega
          · right; exact h2.1
        have j175 : ∀ (U : zW) (r : Int), gLq V' U g 6 r s6 → 0 < r → ∀ U', zFr [(90, 37)] [] U U' → gJ5 W U' g u t b r s := by
          intro U r hr r0 U' hU'
          refine ⟨gBs_f (gBs_o B6 hr.1 hr.2.1) hU', Or.inl ?_⟩
          rcases hr.2.2 with h2 | h2
          · omega
          · rw [e6.1, e6.2] at h2
            exact ⟨h2.1, h2.2.1, gF_t hP6 h2.2.2⟩
        have h212 : ∀ (U : zW) (r : Int), gLq V' U g 6 r s6 → r ≤ 0 → ∀ (y : Int) (U' : zW), U' = zuF U 90 37 (U.1 90 37 + 1) → ∀ (K : Nat), 1000 * m + 1000 ≤ K → zwp jtb zsh n zm_MTrl5 po K (lGo ak_ZMTrl5 212) 212 [some (.inr (.inr (some (.inl 90)))), some (.inl g), some (.inl u), some (.inl op), some (.inl (t)), some (.inl (y)), some (.inl (x)), some (.inl (b))] [] U' := by
          intro U r hr r0 y U' eU K hK
          obtain ⟨_, s7, hP7, hw7, ea7, ek7, hE7⟩ := hr.2.2.resolve_right (fun z => by omega)
          rw [e6.1, e6.2] at hP7 hE7
          have hE7 := hE7.resolve_left (fun z => by have := z.1; omega)
          have hP7' := gP_t hP6 hP7
          have hx7 := xLk_i (X := W.2.1 91) (N := W.1 90 1) (p := s7.1) (by omega)
          obtain ⟨q7, hq7⟩ := xBs_x (X := W.2.1 91) (N := W.1 90 1) (p := s7.1 + 1) (by omega)
          have hG7 : gS (W.2.1 91) (W.1 90 1) s7 (some (q7, s7.2.1, s7.2.2.1, t, 4, s.2.2.2.2.2)) := Or.inr (Or.inr (Or.inl ⟨Or.inr hE7.2.1, Or.inr ⟨hE7.2.2, Or.inr ⟨by omega, Or.inr ⟨t, s.2.2.2.2.2, by rw [ek7, s6k], q7, hq7, rfl⟩⟩⟩⟩))
          have hI7 := (gI_p hI6.1 hP7)
          have hI8 := gI_s hI7.1 hG7
          have hP8 := gP_1 hP7' hG7
          have B7 := gBs_o B6 hr.1 hr.2.1
          have e7 := gBs_x B7
          have fU : zFr [(90, 37)] [] U U' := by rw [eU]; exact zFr_F zFr_0 (by decide)
          have tU : zTp U' := by rw [eU]; exact zTp_n hw7.2.1 (by omega)
          have aU : U'.1 90 37 = s7.1 + 1 := by rw [eU, zuF_1, if_pos ⟨rfl, rfl⟩, ea7]
          generalize es8 : ((q7, s7.2.1, s7.2.2.1, t, 4, s.2.2.2.2.2) : gSt) = s8 at hG7 hI8 hP8
          have et : s8.2.2.2.1 = t := by rw [← es8]
          have hw : gW U' g s8 := by
            have z := gW_fr fU (by decide) (by decide) tU hw7
            have y := hI8.1.2.1
            rw [← es8] at y ⊢
            exact ⟨z.1, z.2.1, z.2.2.1, z.2.2.2.1, y, z.2.2.2.2.2⟩
          have B8 := gBs_f B7 fU
          have e8 := gBs_x B8
          have eb8 : zBn U' (U'.1 90 37) s8.1 := by
            show xBs (U'.2.1 91) (U'.1 90 1) (U'.1 90 37) s8.1
            rw [e8.1, e8.2, aU, ← es8]
            exact hq7
          have g8 : s8.2.2.2.2.1 = 4 := by rw [← es8]
          have k8 : s8.2.2.2.2.2 = s.2.2.2.2.2 := by rw [← es8]
          have p8 : s8.2.1 = s7.2.1 := by rw [← es8]
          have pb : s8.2.1.2.2.1 t = b := by
            rw [p8, (hI7.2.2.2.2 t t1.1 (by rw [s6p]; exact t1.2)).1, s6p]
            exact eb
          have lt8 : s1.1 < s8.1 := by
            have a := hI6.2.2.1
            have b := hI7.2.1
            have c := hI8.2.2.1
            omega
          have j216 : ∀ (W3 : zW) (r : Int), (zFr [(90, 37)] [100, 101] U' W3 ∧ zFo g U' W3 ∧ ((r = 0 ∧ ∃ s2 : gSt, gP (U'.2.1 91) (U'.1 90 1) s8 s2 ∧ gW W3 g s2 ∧ W3.1 90 37 = s2.1 ∧ s2.2.2.2.1 = t ∧ s2.2.2.2.2.2 = s8.2.2.2.2.2 ∧ s2.2.1 = s8.2.1 ∧ ((s2.2.2.2.2.1 = s8.2.2.2.2.1 ∧ s2.1 = s8.1) ∨ s2.2.2.2.2.1 = (if s8.2.2.2.2.1 = 0 then 0 else 4)) ∧ ¬ gcR (xLk (U'.2.1 91) (U'.1 90 1) s2.1)) ∨ (0 < r ∧ r ≤ 1000000 ∧ gF (U'.2.1 91) (U'.1 90 1) s8))) → gJ5 W W3 g u t b r s := by
            intro W3 r h
            refine ⟨gBs_o B8 h.1 h.2.1, ?_⟩
            rcases h.2.2 with ⟨r0, s9, h1, h2, h3, h4, h5, h6, h7, h8⟩ | h2
            · rw [e8.1, e8.2] at h1 h8
              refine Or.inr ⟨r0, s9, gP_t hP8 h1, h2, h3, h4, h5.trans k8, Or.inr (Or.inr ?_), h8, by rw [h6]; exact pb, ntu⟩
              rcases h7 with z | z
              · exact z.1.trans g8
              · rw [z, g8]; rfl
            · rw [e8.1, e8.2] at h2
              exact Or.inl ⟨h2.1, h2.2.1, gF_t hP8 h2.2.2⟩
          have m216 : ∀ (W3 : zW) (r : Int), (zFr [(90, 37)] [100, 101] U' W3 ∧ zFo g U' W3 ∧ ((r = 0 ∧ ∃ s2 : gSt, gP (U'.2.1 91) (U'.1 90 1) s8 s2 ∧ gW W3 g s2 ∧ W3.1 90 37 = s2.1 ∧ s2.2.2.2.1 = t ∧ s2.2.2.2.2.2 = s8.2.2.2.2.2 ∧ s2.2.1 = s8.2.1 ∧ ((s2.2.2.2.2.1 = s8.2.2.2.2.1 ∧ s2.1 = s8.1) ∨ s2.2.2.2.2.1 = (if s8.2.2.2.2.1 = 0 then 0 else 4)) ∧ ¬ gcR (xLk (U'.2.1 91) (U'.1 90 1) s2.1)) ∨ (0 < r ∧ r ≤ 1000000 ∧ gF (U'.2.1 91) (U'.1 90 1) s8))) → r = 0 → W.1 90 1 - W3.1 90 37 < (m : Nat) := by
            intro W3 r h r0
            rcases h.2.2 with ⟨_, s9, h1, h2, h3, _⟩ | h2
            · rw [e8.1, e8.2] at h1
              have a := (gI_p hI8.1 h1).2.1
              have := hm y0
              omega
            · omega
          have eb := eb8
          have es2 := g8
          exact zp_MTrl5_212 (by omega) hn ⟨s8, ⟨hw, et, (by omega), eb⟩, fun r216 W216 hr216 => (ih113 _ W216 _ _ _ _ (j216 W216 r216 hr216) (fun z => m216 W216 r216 hr216 z) (by omega))⟩
        exact zp_MTrl5_168 (by omega) hn ⟨(by omega), ⟨s6, ⟨by omega, pre175⟩, fun r175 W175 hr175 => ⟨fun c183 => ⟨(by have := bn175 W175 r175 hr175; omega), ⟨fun c204 => (by first | (exfalso; omega) | exact h212 W175 r175 hr175 (by omega) _ _ rfl _ (by omega)), fun c204 => (by first | (exfalso; omega) | exact ih113 _ _ _ _ _ _ (j175 W175 r175 hr175 (by omega) _ (zFr_F (zFr_0 (Fs := [(90, 37)]) (Rs := [])) (by decide))) (fun z => by omega) (by omega))⟩⟩, fun c183 => ⟨fun c204 => (by first | (exfalso; omega) | exact h212 W175 r175 hr175 (by omega) _ _ rfl _ (by omega)), fun c204 => (by first | (exfalso; omega) | exact ih113 _ _ _ _ _ _ (j175 W175 r175 hr175 (by omega) _ (zFr_F (zFr_0 (Fs := [(90, 37)]) (Rs := [])) (by decide))) (fun z => by omega) (by omega))⟩⟩⟩⟩
      exact zp_MTrl5_113 (by omega) hn ⟨fun c115 => ⟨fun c226 => (by first | (exfalso; omega) | (exfalso; have := tpV V hJ (by omega); omega) | exact h3 _ V _ _ _ _ (j3 V hJ (by omega) (by omega)) (hm (by omega)) (by omega)), fun c226 => (b231 (by omega))⟩, fun c115 => ⟨(tq V hJ (by omega)), fun r119 hr119 => ⟨fun c124 => ⟨fun c226 => (by first | (exfalso; omega) | (exfalso; have := tpV V hJ (by omega); omega) | exact h3 _ V _ _ _ _ (j3 V hJ (by omega) (by omega)) (hm (by omega)) (by omega)), fun c226 => (b231 (by omega))⟩, fun c124 => ⟨fun c130 => ⟨(by have := tpV V hJ (by omega); omega), (by first | (exfalso; omega) | (exfalso; have := tpV V hJ (by omega); omega) | exact h168 _ rfl (by omega) (by omega) _ (by omega))⟩, fun c130 => ⟨(by have := tpV V hJ (by omega); omega), fun r139 hr139 => ⟨(by have := tpV V hJ (by omega); omega), ⟨fun c160 => (by first | (exfalso; omega) | (exfalso; have := tpV V hJ (by omega); omega) | exact h168 _ rfl (by omega) (by omega) _ (by omega)), fun c160 => ⟨fun c183 => ⟨(by have := tpV V hJ (by omega); omega), ⟨fun c204 => (by first | (exfalso; omega) | (exfalso; have := tpV V hJ (by omega); omega) | exact ih113 _ _ _ _ _ _ (j139 _ (zFr_F (zFr_F (zFr_0 (Fs := [(90, 37)]) (Rs := [])) (by decide)) (by decide)) (by omega) (by omega) r139 (by have := tpV V hJ (by omega); omega)) (fun z => by omega) (by omega)), fun c204 => (by first | (exfalso; omega) | (exfalso; have := tpV V hJ (by omega); omega) | exact ih113 _ _ _ _ _ _ (j139 _ (zFr_F (zFr_F (zFr_0 (Fs := [(90, 37)]) (Rs := [])) (by decide)) (by decide)) (by omega) (by omega) r139 (by have := tpV V hJ (by omega); omega)) (fun z => by omega) (by omega))⟩⟩, fun c183 => ⟨fun c204 => (by first | (exfalso; omega) | (exfalso; have := tpV V hJ (by omega); omega) | exact ih113 _ _ _ _ _ _ (j139 _ (zFr_F (zFr_F (zFr_0 (Fs := [(90, 37)]) (Rs := [])) (by decide)) (by decide)) (by omega) (by omega) r139 (by have := tpV V hJ (by omega); omega)) (fun z => by omega) (by omega)), fun c204 => (by first | (exfalso; omega) | (exfalso; have := tpV V hJ (by omega); omega) | exact ih113 _ _ _ _ _ _ (j139 _ (zFr_F (zFr_F (zFr_0 (Fs := [(90, 37)]) (Rs := [])) (by decide)) (by decide)) (by omega) (by omega) r139 (by have := tpV V hJ (by omega); omega)) (fun z => by omega) (by omega))⟩⟩⟩⟩⟩⟩⟩⟩⟩
  exact zp_MTrl5_0 (by omega) hn ((main 65537).1 _ W _ _ _ _ i0 (by have := hq.2.1.2.1.1; have := hq.2.1.2.1.2.1; omega) (by omega))
noncomputable def ak_ZMTrl4 : List jI := ak_ZMTrl6
theorem ao_ZMTrl4 : jokLG jtF lk_MT "ChessHouseModel$Texts" jcl jtb 8 prog_18_method_68_code 0 ak_ZMTrl4 = true := ao_ZMTrl6
noncomputable def zm_MTrl4 : zM := (some .int, { frames := 11, cells := 0, slots := 0, locals := 288 }, ([(275, 2570, 0), (318, 2647, 1), (278, 2574, 2), (96, 1933, 3), (321, 2655, 4), (324, 2659, 5), (327, 2710, 6), (330, 2639, 7), (287, 2588, 8), (333, 2643, 9)], []), [(y_MT_blanks, false, 1, 12, { frames := 0, cells := 0, slots := 0, locals := 0 }, zc_MTbl), (y_MT_resultHere, false, 1, 12, { frames := 1, cells := 0, slots := 0, locals := 23 }, zc_MTrsh), (y_MT_look, false, 1, 12, { frames := 0, cells := 0, slots := 0, locals := 0 }, zc_MTlook), (y_MT_place, false, 3, 12, { frames := 6, cells := 0, slots := 0, locals := 157 }, zc_MTplace), (y_MT_readMoveNumber, false, 1, 12, { frames := 1, cells := 0, slots := 0, locals := 21 }, zc_MTrmn), (y_MT_readMove, false, 3, 12, { frames := 8, cells := 0, slots := 0, locals := 210 }, zc_MTrmv), (y_MT_readMarks, false, 3, 12, { frames := 1, cells := 0, slots := 0, locals := 24 }, zc_MTrmk), (y_MT_readRemarks, false, 3, 12, { frames := 1, cells := 0, slots := 0, locals := 21 }, zc_MTrrm), (y_MT_fault, true, 2, 0, { frames := 0, cells := 0, slots := 0, locals := 0 }, zc_MTflt), (y_MT_readLine, false, 4, 12, { frames := 10, cells := 0, slots := 0, locals := 261 }, zc_MTrl5)], ak_ZMTrl4)
noncomputable def zc_MTrl4 (vals : List zv) (W : zW) (post : zPo) : Prop := ∃ g u op : Int, ∃ s : gSt, vals = [.inr (.inr (some (.inl 90))), .inl (g), .inl (u), .inl (op)] ∧ (op = 4 ∧ gLp W g u 4 s) ∧ ∀ r : Int, ∀ V : zW, (gLq W V g 4 r s) → post (some (.inl r)) V
set_option maxRecDepth 8000 in
theorem zp_MTrl4_0 {n K : Nat} {W : zW} {post : zPo} {g u op : Int} {u4 u5 u6 u7 : Option zv} (hK : 2 ≤ K) (hn : 142 ≤ n) (h : zwp jtb zsh n zm_MTrl4 post (K - 2) (lGo ak_ZMTrl4 3) 3 [some (.inr (.inr (some (.inl 90)))), some (.inl (g)), some (.inl (u)), some (.inl (op)), some (.inl (u)), u5, u6, u7] [] W) : zwp jtb zsh n zm_MTrl4 post K (lGo ak_ZMTrl4 0) 0 [some (.inr (.inr (some (.inl 90)))), some (.inl (g)), some (.inl (u)), some (.inl (op)), u4, u5, u6, u7] [] W := by
  obtain ⟨kk__, rfl⟩ : ∃ kk__, K = kk__ + 2 := ⟨K - 2, by omega⟩
  exact (show zwp jtb zsh n zm_MTrl4 post (kk__ + 0) (lGo ak_ZMTrl4 3) 3 [some (.inr (.inr (some (.inl 90)))), some (.inl (g)), some (.inl (u)), some (.inl (op)), some (.inl (u)), u5, u6, u7] [] W from h)
set_option maxRecDepth 8000 in
theorem zp_MTrl4_3 {n K : Nat} {V : zW} {post : zPo} {g u op t : Int} {u5 u6 u7 : Option zv} (hK : 13 ≤ K) (hn : 142 ≤ n) (h : (zTp V) ∧ ∀ W4 : zW, (zFr [(90, 37)] [] V W4 ∧ zTp W4 ∧ zBn V (V.1 90 37) (W4.1 90 37)) → (¬ op = 0 → (zTp W4) ∧ ∀ r22 : Int, (r22 = zLk W4 (W4.1 90 37)) → (¬ r22 = 41 → zwp jtb zsh n zm_MTrl4 post (K - 8) (lGo ak_ZMTrl4 38) 38 [some (.inr (.inr (some (.inl 90)))), some (.inl (g)), some (.inl (u)), some (.inl (op)), some (.inl (t)), u5, u6, u7] [] W4) ∧ (r22 = 41 → (t = u → zwp jtb zsh n zm_MTrl4 post (K - 11) (lGo ak_ZMTrl4 38) 38 [some (.inr (.inr (some (.inl 90)))), some (.inl (g)), some (.inl (u)), some (.inl (op)), some (.inl (t)), u5, u6, u7] [] W4) ∧ (¬ t = u → post (some (.inl (0))) W4))) ∧ (op = 0 → (zTp W4) ∧ ∀ r12 : Int, (zRh W4 (W4.1 90 37) r12) → (r12 < 0 → zwp jtb zsh n zm_MTrl4 post (K - 7) (lGo ak_ZMTrl4 38) 38 [some (.inr (.inr (some (.inl 90)))), some (.inl (g)), some (.inl (u)), some (.inl (op)), some (.inl (t)), u5, u6, u7] [] W4) ∧ (¬ r12 < 0 → post (some (.inl (0))) W4))) : zwp jtb zsh n zm_MTrl4 post K (lGo ak_ZMTrl4 3) 3 [some (.inr (.inr (some (.inl 90)))), some (.inl (g)), some (.inl (u)), some (.inl (op)), some (.inl (t)), u5, u6, u7] [] V := by
  obtain ⟨kk__, rfl⟩ : ∃ kk__, K = kk__ + 13 := ⟨K - 13, by omega⟩
  exact (show 3 = 3 ∧ false = false ∧ jin3 275 2570 0 zm_MTrl4.2.2.1.1 = true ∧ lRm zm_MTrl4.2.1 { frames := 0, cells := 0, slots := 0, locals := 0 } 1 = true ∧ Nat.ble 1 1 = true ∧ Nat.ble 0 8 = true ∧ 90 < n ∧ 12 = 12 ∧ Nat.ble 1000 12 = false ∧ zc_MTbl [.inr (.inr (some (.inl 90)))] V (fun vv__ WW__ => zwp jtb zsh n zm_MTrl4 post (kk__ + 11) (lGo ak_ZMTrl4 7) 7 [some (.inr (.inr (some (.inl 90)))), some (.inl (g)), some (.inl (u)), some (.inl (op)), some (.inl (t)), u5, u6, u7] (vv__.toList ++ []) WW__) from ⟨rfl, rfl, rfl, rfl, rfl, rfl, (Nat.lt_of_lt_of_le (by decide) hn), rfl, rfl, rfl, (h).1, fun W4 hr4 => (show (¬ op = 0 → 3 = 3 ∧ false = false ∧ jin3 278 2574 2 zm_MTrl4.2.2.1.1 = true ∧ lRm zm_MTrl4.2.1 { frames := 0, cells := 0, slots := 0, locals := 0 } 1 = true ∧ Nat.ble 1 1 = true ∧ Nat.ble 0 8 = true ∧ 90 < n ∧ 12 = 12 ∧ Nat.ble 1000 12 = false ∧ zc_MTlook [.inr (.inr (some (.inl 90)))] W4 (fun vv__ WW__ => zwp jtb zsh n zm_MTrl4 post (kk__ + 7) (lGo ak_ZMTrl4 25) 25 [some (.inr (.inr (some (.inl 90)))), some (.inl (g)), some (.inl (u)), some (.inl (op)), some (.inl (t)), u5, u6, u7] (vv__.toList ++ []) WW__)) ∧ (op = 0 → 3 = 3 ∧ false = false ∧ jin3 318 2647 1 zm_MTrl4.2.2.1.1 = true ∧ lRm zm_MTrl4.2.1 { frames := 1, cells := 0, slots := 0, locals := 23 } 2 = true ∧ Nat.ble 1 1 = true ∧ Nat.ble 0 8 = true ∧ 90 < n ∧ 12 = 12 ∧ Nat.ble 1000 12 = false ∧ zc_MTrsh [.inr (.inr (some (.inl 90)))] W4 (fun vv__ WW__ => zwp jtb zsh n zm_MTrl4 post (kk__ + 7) (lGo ak_ZMTrl4 15) 15 [some (.inr (.inr (some (.inl 90)))), some (.inl (g)), some (.inl (u)), some (.inl (op)), some (.inl (t)), u5, u6, u7] (vv__.toList ++ []) WW__)) from ⟨fun c8_3 => (have h := ((((h).2 W4 hr4)).1 c8_3); ⟨rfl, rfl, rfl, rfl, rfl, rfl, (Nat.lt_of_lt_of_le (by decide) hn), rfl, rfl, rfl, (h).1, fun r22 hr22 => (show (¬ r22 = 41 → zwp jtb zsh n zm_MTrl4 post (kk__ + 5) (lGo ak_ZMTrl4 38) 38 [some (.inr (.inr (some (.inl 90)))), some (.inl (g)), some (.inl (u)), some (.inl (op)), some (.inl (t)), u5, u6, u7] [] W4) ∧ (r22 = 41 → (t = u → zwp jtb zsh n zm_MTrl4 post (kk__ + 2) (lGo ak_ZMTrl4 38) 38 [some (.inr (.inr (some (.inl 90)))), some (.inl (g)), some (.inl (u)), some (.inl (op)), some (.inl (t)), u5, u6, u7] [] W4) ∧ (¬ t = u → 1 = 1 ∧ True ∧ post (some (.inl (0))) W4)) from ⟨fun c27_7 => ((((h).2 r22 hr22)).1 c27_7), fun c27_7 => (have h := ((((h).2 r22 hr22)).2 c27_7); ⟨fun c33_10 => ((h).1 c33_10), fun c33_10 => ⟨rfl, trivial, ((h).2 c33_10)⟩⟩)⟩)⟩), fun c8_3 => (have h := ((((h).2 W4 hr4)).2 c8_3); ⟨rfl, rfl, rfl, rfl, rfl, rfl, (Nat.lt_of_lt_of_le (by decide) hn), rfl, rfl, rfl, (h).1, fun r12 hr12 => (show (r12 < 0 → zwp jtb zsh n zm_MTrl4 post (kk__ + 6) (lGo ak_ZMTrl4 38) 38 [some (.inr (.inr (some (.inl 90)))), some (.inl (g)), some (.inl (u)), some (.inl (op)), some (.inl (t)), u5, u6, u7] [] W4) ∧ (¬ r12 < 0 → 1 = 1 ∧ True ∧ post (some (.inl (0))) W4) from ⟨fun c15_6 => ((((h).2 r12 hr12)).1 c15_6), fun c15_6 => (have h := ((((h).2 r12 hr12)).2 c15_6); ⟨rfl, trivial, h⟩)⟩)⟩)⟩)⟩)
set_option maxRecDepth 8000 in
theorem zp_MTrl4_38 {n K : Nat} {V : zW} {post : zPo} {g u op t : Int} {u5 u6 u7 : Option zv} (hK : 11 ≤ K) (hn : 142 ≤ n) (h : ((0 ≤ g ∧ g ≤ 1) ∧ (∃ N, (0 ≤ t ∧ t ≤ N ∧ N ≤ 300) ∧ xOk (zSt V g) (zro V 94 g) (zro V 95 g) N) ∧ zSb V g) ∧ ∀ W42 : zW, (zAt W42 (xPo (zSt V g) (zro V 94 g) (zro V 95 g) t) ∧ zFr [(90, 25), (90, 26), (90, 27), (90, 28), (90, 29), (90, 33)] [110, 111, 112, 113, 114] V W42) → (zTp W42) ∧ ∀ r46 : Int, ∀ W46 : zW, (zFr [(90, 37)] [] W42 W46 ∧ zTp W46 ∧ zRn W42 W46 (W42.1 90 37) r46 ∧ 0 ≤ r46 ∧ r46 ≤ 1000000) → (r46 ≤ 0 → zwp jtb zsh n zm_MTrl4 post (K - 9) (lGo ak_ZMTrl4 59) 59 [some (.inr (.inr (some (.inl 90)))), some (.inl (g)), some (.inl (u)), some (.inl (op)), some (.inl (t)), some (.inl (r46)), u6, u7] [] W46) ∧ (¬ r46 ≤ 0 → post (some (.inl (r46))) W46)) : zwp jtb zsh n zm_MTrl4 post K (lGo ak_ZMTrl4 38) 38 [some (.inr (.inr (some (.inl 90)))), some (.inl (g)), some (.inl (u)), some (.inl (op)), some (.inl (t)), u5, u6, u7] [] V := by
  obtain ⟨kk__, rfl⟩ : ∃ kk__, K = kk__ + 11 := ⟨K - 11, by omega⟩
  exact (show 3 = 3 ∧ false = false ∧ jin3 96 1933 3 zm_MTrl4.2.2.1.1 = true ∧ lRm zm_MTrl4.2.1 { frames := 6, cells := 0, slots := 0, locals := 157 } 5 = true ∧ Nat.ble 3 3 = true ∧ Nat.ble 0 8 = true ∧ 90 < n ∧ 12 = 12 ∧ Nat.ble 1000 12 = false ∧ zc_MTplace [.inr (.inr (some (.inl 90))), .inl (g), .inl (t)] V (fun vv__ WW__ => zwp jtb zsh n zm_MTrl4 post (kk__ + 7) (lGo ak_ZMTrl4 45) 45 [some (.inr (.inr (some (.inl 90)))), some (.inl (g)), some (.inl (u)), some (.inl (op)), some (.inl (t)), u5, u6, u7] (vv__.toList ++ []) WW__) from ⟨rfl, rfl, rfl, rfl, rfl, rfl, (Nat.lt_of_lt_of_le (by decide) hn), rfl, rfl, g, t, rfl, (h).1, fun W42 hr42 => (show 3 = 3 ∧ false = false ∧ jin3 321 2655 4 zm_MTrl4.2.2.1.1 = true ∧ lRm zm_MTrl4.2.1 { frames := 1, cells := 0, slots := 0, locals := 21 } 4 = true ∧ Nat.ble 1 1 = true ∧ Nat.ble 0 8 = true ∧ 90 < n ∧ 12 = 12 ∧ Nat.ble 1000 12 = false ∧ zc_MTrmn [.inr (.inr (some (.inl 90)))] W42 (fun vv__ WW__ => zwp jtb zsh n zm_MTrl4 post (kk__ + 5) (lGo ak_ZMTrl4 49) 49 [some (.inr (.inr (some (.inl 90)))), some (.inl (g)), some (.inl (u)), some (.inl (op)), some (.inl (t)), u5, u6, u7] (vv__.toList ++ []) WW__) from ⟨rfl, rfl, rfl, rfl, rfl, rfl, (Nat.lt_of_lt_of_le (by decide) hn), rfl, rfl, rfl, (((h).2 W42 hr42)).1, fun r46 W46 hr46 => (show (r46 ≤ 0 → zwp jtb zsh n zm_MTrl4 post (kk__ + 2) (lGo ak_ZMTrl4 59) 59 [some (.inr (.inr (some (.inl 90)))), some (.inl (g)), some (.inl (u)), some (.inl (op)), some (.inl (t)), some (.inl (r46)), u6, u7] [] W46) ∧ (¬ r46 ≤ 0 → 1 = 1 ∧ True ∧ post (some (.inl (r46))) W46) from (have h := ((((h).2 W42 hr42)).2 r46 W46 hr46); ⟨fun c53_8 => ((h).1 c53_8), fun c53_8 => ⟨rfl, trivial, ((h).2 c53_8)⟩⟩))⟩)⟩)
set_option maxRecDepth 8000 in
theorem zp_MTrl4_59 {n K : Nat} {V : zW} {post : zPo} {g u op t y : Int} {u6 u7 : Option zv} (hK : 11 ≤ K) (hn : 142 ≤ n) (h : ∃ s63 : gSt, (gW V g s63 ∧ s63.2.2.2.1 = t ∧ zAt V (gPo s63) ∧ trE s63.2.1.2.2.1 (xLd s63.2.1.2.2.2.2.1) t + (if s63.2.1.2.2.2.2.1 t = [] then 0 else 1) ≤ 6) ∧ ∀ r63 : Int, ∀ W63 : zW, (zFr [(90, 36), (90, 37)] [93, 94, 95, 96, 97, 98, 100, 110, 111, 112, 115] V W63 ∧ zFo g V W63 ∧ ((r63 < 0 ∧ -1000000 ≤ r63 ∧ gMv (V.2.1 91) (V.1 90 1) s63 (V.1 90 37) none) ∨ (0 ≤ r63 ∧ ∃ e m, xLt (xLk (V.2.1 91) (V.1 90 1) (V.1 90 37)) ∧ xWd (V.2.1 91) (V.1 90 1) (V.1 90 37) e ∧ zUn (gPo s63).1 (fun i => V.2.1 91 (V.1 90 37 + i)) (e - V.1 90 37) m ∧ ¬ gMb s63 m ∧ r63 = s63.2.1.2.1 + 1 ∧ W63.1 90 37 = e ∧ gW W63 g (e, xApp s63.2.1 t m, zuI s63.2.2.1 (s63.2.1.2.1 + 1) 0, s63.2.1.2.1 + 1, 2, s63.2.2.2.2.2)))) → (0 ≤ r63 → zwp jtb zsh n zm_MTrl4 post (K - 11) (lGo ak_ZMTrl4 85) 85 [some (.inr (.inr (some (.inl 90)))), some (.inl (g)), some (.inl (u)), some (.inl (op)), some (.inl (r63)), some (.inl (y)), some (.inl (r63)), some (.inl (t))] [] W63) ∧ (¬ 0 ≤ r63 → (-2147483648 ≤ -r63 ∧ -r63 ≤ 2147483647) ∧ post (some (.inl (-r63))) W63)) : zwp jtb zsh n zm_MTrl4 post K (lGo ak_ZMTrl4 59) 59 [some (.inr (.inr (some (.inl 90)))), some (.inl (g)), some (.inl (u)), some (.inl (op)), some (.inl (t)), some (.inl (y)), u6, u7] [] V := by
  obtain ⟨kk__, rfl⟩ : ∃ kk__, K = kk__ + 11 := ⟨K - 11, by omega⟩
  exact (show 3 = 3 ∧ false = false ∧ jin3 324 2659 5 zm_MTrl4.2.2.1.1 = true ∧ lRm zm_MTrl4.2.1 { frames := 8, cells := 0, slots := 0, locals := 210 } 5 = true ∧ Nat.ble 3 3 = true ∧ Nat.ble 0 8 = true ∧ 90 < n ∧ 12 = 12 ∧ Nat.ble 1000 12 = false ∧ zc_MTrmv [.inr (.inr (some (.inl 90))), .inl (g), .inl (t)] V (fun vv__ WW__ => zwp jtb zsh n zm_MTrl4 post (kk__ + 7) (lGo ak_ZMTrl4 66) 66 [some (.inr (.inr (some (.inl 90)))), some (.inl (g)), some (.inl (u)), some (.inl (op)), some (.inl (t)), some (.inl (y)), u6, u7] (vv__.toList ++ []) WW__) from (Exists.elim (h) (fun s63 gh63 => ⟨rfl, rfl, rfl, rfl, rfl, rfl, (Nat.lt_of_lt_of_le (by decide) hn), rfl, rfl, g, t, s63, rfl, (gh63).1, fun r63 W63 hr63 => (show (0 ≤ r63 → zwp jtb zsh n zm_MTrl4 post (kk__ + 0) (lGo ak_ZMTrl4 85) 85 [some (.inr (.inr (some (.inl 90)))), some (.inl (g)), some (.inl (u)), some (.inl (op)), some (.inl (r63)), some (.inl (y)), some (.inl (r63)), some (.inl (t))] [] W63) ∧ (¬ 0 ≤ r63 → (-2147483648 ≤ -r63 ∧ -r63 ≤ 2147483647) ∧ 1 = 1 ∧ True ∧ post (some (.inl (-r63))) W63) from ⟨fun c70_6 => ((((gh63).2 r63 W63 hr63)).1 c70_6), fun c70_6 => (have h := ((((gh63).2 r63 W63 hr63)).2 c70_6); ⟨(h).1, ⟨rfl, trivial, (h).2⟩⟩)⟩)⟩)))
set_option maxRecDepth 8000 in
theorem zp_MTrl4_85 {n K : Nat} {V : zW} {post : zPo} {g u op t y x b : Int}  (hK : 10 ≤ K) (hn : 142 ≤ n) (h : ∃ s89 : gSt, (gW V g s89 ∧ s89.2.2.2.1 = t ∧ s89.2.2.2.2.1 = 2 ∧ s89.2.1.2.2.2.2.2 t = 0 ∧ zBn V (V.1 90 37) s89.1) ∧ ∀ r89 : Int, ∀ W89 : zW, (zFr [(90, 37)] [98, 99] V W89 ∧ zFo g V W89 ∧ ((r89 = 0 ∧ ∃ s2 : gSt, gP (V.2.1 91) (V.1 90 1) s89 s2 ∧ gW W89 g s2 ∧ W89.1 90 37 = s2.1 ∧ s2.2.2.2.1 = t ∧ s2.2.2.2.2.2 = s89.2.2.2.2.2 ∧ ((s2.2.2.2.2.1 = 2 ∧ ¬ gcM (xLk (V.2.1 91) (V.1 90 1) s2.1)) ∨ (s2.2.2.2.2.1 = 3 ∧ ¬ xLk (V.2.1 91) (V.1 90 1) s2.1 = 36))) ∨ (0 < r89 ∧ r89 ≤ 1000000 ∧ gF (V.2.1 91) (V.1 90 1) s89))) → (r89 ≤ 0 → zwp jtb zsh n zm_MTrl4 post (K - 7) (lGo ak_ZMTrl4 104) 104 [some (.inr (.inr (some (.inl 90)))), some (.inl (g)), some (.inl (u)), some (.inl (op)), some (.inl (t)), some (.inl (r89)), some (.inl (x)), some (.inl (b))] [] W89) ∧ (¬ r89 ≤ 0 → zwp jtb zsh n zm_MTrl4 post (K - 10) (lGo ak_ZMTrl4 113) 113 [some (.inr (.inr (some (.inl 90)))), some (.inl (g)), some (.inl (u)), some (.inl (op)), some (.inl (t)), some (.inl (r89)), some (.inl (x)), some (.inl (b))] [] W89)) : zwp jtb zsh n zm_MTrl4 post K (lGo ak_ZMTrl4 85) 85 [some (.inr (.inr (some (.inl 90)))), some (.inl (g)), some (.inl (u)), some (.inl (op)), some (.inl (t)), some (.inl (y)), some (.inl (x)), some (.inl (b))] [] V := by
  obtain ⟨kk__, rfl⟩ : ∃ kk__, K = kk__ + 10 := ⟨K - 10, by omega⟩
  exact (show 3 = 3 ∧ false = false ∧ jin3 327 2710 6 zm_MTrl4.2.2.1.1 = true ∧ lRm zm_MTrl4.2.1 { frames := 1, cells := 0, slots := 0, locals := 24 } 6 = true ∧ Nat.ble 3 3 = true ∧ Nat.ble 0 8 = true ∧ 90 < n ∧ 12 = 12 ∧ Nat.ble 1000 12 = false ∧ zc_MTrmk [.inr (.inr (some (.inl 90))), .inl (g), .inl (t)] V (fun vv__ WW__ => zwp jtb zsh n zm_MTrl4 post (kk__ + 6) (lGo ak_ZMTrl4 92) 92 [some (.inr (.inr (some (.inl 90)))), some (.inl (g)), some (.inl (u)), some (.inl (op)), some (.inl (t)), some (.inl (y)), some (.inl (x)), some (.inl (b))] (vv__.toList ++ []) WW__) from (Exists.elim (h) (fun s89 gh89 => ⟨rfl, rfl, rfl, rfl, rfl, rfl, (Nat.lt_of_lt_of_le (by decide) hn), rfl, rfl, g, t, s89, rfl, (gh89).1, fun r89 W89 hr89 => (show (r89 ≤ 0 → zwp jtb zsh n zm_MTrl4 post (kk__ + 3) (lGo ak_ZMTrl4 104) 104 [some (.inr (.inr (some (.inl 90)))), some (.inl (g)), some (.inl (u)), some (.inl (op)), some (.inl (t)), some (.inl (r89)), some (.inl (x)), some (.inl (b))] [] W89) ∧ (¬ r89 ≤ 0 → zwp jtb zsh n zm_MTrl4 post (kk__ + 0) (lGo ak_ZMTrl4 113) 113 [some (.inr (.inr (some (.inl 90)))), some (.inl (g)), some (.inl (u)), some (.inl (op)), some (.inl (t)), some (.inl (r89)), some (.inl (x)), some (.inl (b))] [] W89) from ⟨fun c96_6 => ((((gh89).2 r89 W89 hr89)).1 c96_6), fun c96_6 => ((((gh89).2 r89 W89 hr89)).2 c96_6)⟩)⟩)))
set_option maxRecDepth 8000 in
theorem zp_MTrl4_104 {n K : Nat} {V : zW} {post : zPo} {g u op t y x b : Int}  (hK : 5 ≤ K) (hn : 142 ≤ n) (h : ∃ s108 : gSt, (gW V g s108 ∧ s108.2.2.2.1 = t ∧ ¬ s108.2.2.2.2.1 = 1 ∧ zBn V (V.1 90 37) s108.1) ∧ ∀ r108 : Int, ∀ W108 : zW, (zFr [(90, 37)] [100, 101] V W108 ∧ zFo g V W108 ∧ ((r108 = 0 ∧ ∃ s2 : gSt, gP (V.2.1 91) (V.1 90 1) s108 s2 ∧ gW W108 g s2 ∧ W108.1 90 37 = s2.1 ∧ s2.2.2.2.1 = t ∧ s2.2.2.2.2.2 = s108.2.2.2.2.2 ∧ s2.2.1 = s108.2.1 ∧ ((s2.2.2.2.2.1 = s108.2.2.2.2.1 ∧ s2.1 = s108.1) ∨ s2.2.2.2.2.1 = (if s108.2.2.2.2.1 = 0 then 0 else 4)) ∧ ¬ gcR (xLk (V.2.1 91) (V.1 90 1) s2.1)) ∨ (0 < r108 ∧ r108 ≤ 1000000 ∧ gF (V.2.1 91) (V.1 90 1) s108))) → zwp jtb zsh n zm_MTrl4 post (K - 5) (lGo ak_ZMTrl4 113) 113 [some (.inr (.inr (some (.inl 90)))), some (.inl (g)), some (.inl (u)), some (.inl (op)), some (.inl (t)), some (.inl (r108)), some (.inl (x)), some (.inl (b))] [] W108) : zwp jtb zsh n zm_MTrl4 post K (lGo ak_ZMTrl4 104) 104 [some (.inr (.inr (some (.inl 90)))), some (.inl (g)), some (.inl (u)), some (.inl (op)), some (.inl (t)), some (.inl (y)), some (.inl (x)), some (.inl (b))] [] V := by
  obtain ⟨kk__, rfl⟩ : ∃ kk__, K = kk__ + 5 := ⟨K - 5, by omega⟩
  exact (show 3 = 3 ∧ false = false ∧ jin3 330 2639 7 zm_MTrl4.2.2.1.1 = true ∧ lRm zm_MTrl4.2.1 { frames := 1, cells := 0, slots := 0, locals := 21 } 11 = true ∧ Nat.ble 3 3 = true ∧ Nat.ble 0 8 = true ∧ 90 < n ∧ 12 = 12 ∧ Nat.ble 1000 12 = false ∧ zc_MTrrm [.inr (.inr (some (.inl 90))), .inl (g), .inl (t)] V (fun vv__ WW__ => zwp jtb zsh n zm_MTrl4 post (kk__ + 1) (lGo ak_ZMTrl4 111) 111 [some (.inr (.inr (some (.inl 90)))), some (.inl (g)), some (.inl (u)), some (.inl (op)), some (.inl (t)), some (.inl (y)), some (.inl (x)), some (.inl (b))] (vv__.toList ++ []) WW__) from (Exists.elim (h) (fun s108 gh108 => ⟨rfl, rfl, rfl, rfl, rfl, rfl, (Nat.lt_of_lt_of_le (by decide) hn), rfl, rfl, g, t, s108, rfl, (gh108).1, fun r108 W108 hr108 => (show zwp jtb zsh n zm_MTrl4 post (kk__ + 0) (lGo ak_ZMTrl4 113) 113 [some (.inr (.inr (some (.inl 90)))), some (.inl (g)), some (.inl (u)), some (.inl (op)), some (.inl (t)), some (.inl (r108)), some (.inl (x)), some (.inl (b))] [] W108 from ((gh108).2 r108 W108 hr108))⟩)))
set_option maxRecDepth 8000 in
theorem zp_MTrl4_113 {n K : Nat} {V : zW} {post : zPo} {g u op t y x b : Int}  (hK : 40 ≤ K) (hn : 142 ≤ n) (h : (¬ y = 0 → (y ≤ 0 → zwp jtb zsh n zm_MTrl4 post (K - 5) (lGo ak_ZMTrl4 3) 3 [some (.inr (.inr (some (.inl 90)))), some (.inl (g)), some (.inl (u)), some (.inl (op)), some (.inl (t)), some (.inl (y)), some (.inl (x)), some (.inl (b))] [] V) ∧ (¬ y ≤ 0 → post (some (.inl (y))) V)) ∧ (y = 0 → (zTp V) ∧ ∀ r119 : Int, (r119 = zLk V (V.1 90 37)) → (¬ r119 = 40 → (y ≤ 0 → zwp jtb zsh n zm_MTrl4 post (K - 9) (lGo ak_ZMTrl4 3) 3 [some (.inr (.inr (some (.inl 90)))), some (.inl (g)), some (.inl (u)), some (.inl (op)), some (.inl (t)), some (.inl (y)), some (.inl (x)), some (.inl (b))] [] V) ∧ (¬ y ≤ 0 → post (some (.inl (y))) V)) ∧ (r119 = 40 → (¬ op = 6 → (-2147483648 ≤ (V.1 90 37) + 1 ∧ (V.1 90 37) + 1 ≤ 2147483647) ∧ zwp jtb zsh n zm_MTrl4 post (K - 19) (lGo ak_ZMTrl4 168) 168 [some (.inr (.inr (some (.inl 90)))), some (.inl (g)), some (.inl (u)), some (.inl (op)), some (.inl (t)), some (.inl (0)), some (.inl (x)), some (.inl (b))] [] (zuF V 90 37 ((V.1 90 37) + 1))) ∧ (op = 6 → ((1 ≤ (8 : Int) ∧ (8 : Int) ≤ 9) ∧ 0 ≤ (V.1 90 37) ∧ (V.1 90 37) ≤ 65536) ∧ ∀ r139 : Int, (r139 = 100000 * (8 : Int) + (V.1 90 37)) → (-2147483648 ≤ (V.1 90 37) + 1 ∧ (V.1 90 37) + 1 ≤ 2147483647) ∧ (r139 ≤ 0 → zwp jtb zsh n zm_MTrl4 post (K - 23) (lGo ak_ZMTrl4 168) 168 [some (.inr (.inr (some (.inl 90)))), some (.inl (g)), some (.inl (u)), some (.inl (op)), some (.inl (t)), some (.inl (r139)), some (.inl (x)), some (.inl (b))] [] (zuF V 90 37 ((V.1 90 37) + 1))) ∧ (¬ r139 ≤ 0 → (r139 ≤ 0 → (-2147483648 ≤ ((V.1 90 37) + 1) + 1 ∧ ((V.1 90 37) + 1) + 1 ≤ 2147483647) ∧ (r139 ≤ 0 → zwp jtb zsh n zm_MTrl4 post (K - 36) (lGo ak_ZMTrl4 212) 212 [some (.inr (.inr (some (.inl 90)))), some (.inl (g)), some (.inl (u)), some (.inl (op)), some (.inl (t)), some (.inl (r139)), some (.inl (x)), some (.inl (b))] [] (zuF (zuF V 90 37 ((V.1 90 37) + 1)) 90 37 (((V.1 90 37) + 1) + 1))) ∧ (¬ r139 ≤ 0 → zwp jtb zsh n zm_MTrl4 post (K - 40) (lGo ak_ZMTrl4 113) 113 [some (.inr (.inr (some (.inl 90)))), some (.inl (g)), some (.inl (u)), some (.inl (op)), some (.inl (t)), some (.inl (r139)), some (.inl (x)), some (.inl (b))] [] (zuF (zuF V 90 37 ((V.1 90 37) + 1)) 90 37 (((V.1 90 37) + 1) + 1)))) ∧ (¬ r139 ≤ 0 → (r139 ≤ 0 → zwp jtb zsh n zm_MTrl4 post (K - 35) (lGo ak_ZMTrl4 212) 212 [some (.inr (.inr (some (.inl 90)))), some (.inl (g)), some (.inl (u)), some (.inl (op)), some (.inl (t)), some (.inl (r139)), some (.inl (x)), some (.inl (b))] [] (zuF (zuF V 90 37 ((V.1 90 37) + 1)) 90 37 ((V.1 90 37) + 1))) ∧ (¬ r139 ≤ 0 → zwp jtb zsh n zm_MTrl4 post (K - 39) (lGo ak_ZMTrl4 113) 113 [some (.inr (.inr (some (.inl 90)))), some (.inl (g)), some (.inl (u)), some (.inl (op)), some (.inl (t)), some (.inl (r139)), some (.inl (x)), some (.inl (b))] [] (zuF (zuF V 90 37 ((V.1 90 37) + 1)) 90 37 ((V.1 90 37) + 1))))))))) : zwp jtb zsh n zm_MTrl4 post K (lGo ak_ZMTrl4 113) 113 [some (.inr (.inr (some (.inl 90)))), some (.inl (g)), some (.inl (u)), some (.inl (op)), some (.inl (t)), some (.inl (y)), some (.inl (x)), some (.inl (b))] [] V := by
  obtain ⟨kk__, rfl⟩ : ∃ kk__, K = kk__ + 40 := ⟨K - 40, by omega⟩
  exact (show (¬ y = 0 → (y ≤ 0 → zwp jtb zsh n zm_MTrl4 post (kk__ + 35) (lGo ak_ZMTrl4 3) 3 [some (.inr (.inr (some (.inl 90)))), some (.inl (g)), some (.inl (u)), some (.inl (op)), some (.inl (t)), some (.inl (y)), some (.inl (x)), some (.inl (b))] [] V) ∧ (¬ y ≤ 0 → 1 = 1 ∧ True ∧ post (some (.inl (y))) V)) ∧ (y = 0 → 3 = 3 ∧ false = false ∧ jin3 278 2574 2 zm_MTrl4.2.2.1.1 = true ∧ lRm zm_MTrl4.2.1 { frames := 0, cells := 0, slots := 0, locals := 0 } 1 = true ∧ Nat.ble 1 1 = true ∧ Nat.ble 0 8 = true ∧ 90 < n ∧ 12 = 12 ∧ Nat.ble 1000 12 = false ∧ zc_MTlook [.inr (.inr (some (.inl 90)))] V (fun vv__ WW__ => zwp jtb zsh n zm_MTrl4 post (kk__ + 36) (lGo ak_ZMTrl4 122) 122 [some (.inr (.inr (some (.inl 90)))), some (.inl (g)), some (.inl (u)), some (.inl (op)), some (.inl (t)), some (.inl (y)), some (.inl (x)), some (.inl (b))] (vv__.toList ++ []) WW__)) from ⟨fun c115_1 => ⟨fun c226_3 => ((((h).1 c115_1)).1 c226_3), fun c226_3 => (have h := ((((h).1 c115_1)).2 c226_3); ⟨rfl, trivial, h⟩)⟩, fun c115_1 => ⟨rfl, rfl, rfl, rfl, rfl, rfl, (Nat.lt_of_lt_of_le (by decide) hn), rfl, rfl, rfl, (((h).2 c115_1)).1, fun r119 hr119 => (show (¬ r119 = 40 → (y ≤ 0 → zwp jtb zsh n zm_MTrl4 post (kk__ + 31) (lGo ak_ZMTrl4 3) 3 [some (.inr (.inr (some (.inl 90)))), some (.inl (g)), some (.inl (u)), some (.inl (op)), some (.inl (t)), some (.inl (y)), some (.inl (x)), some (.inl (b))] [] V) ∧ (¬ y ≤ 0 → 1 = 1 ∧ True ∧ post (some (.inl (y))) V)) ∧ (r119 = 40 → (¬ op = 6 → 90 < n ∧ 12 = 12 ∧ (-2147483648 ≤ (V.1 90 37) + 1 ∧ (V.1 90 37) + 1 ≤ 2147483647) ∧ 90 < n ∧ 12 = 12 ∧ (some 0 : Option Nat) = some 0 ∧ ((0 : Nat) = 0 ∨ ((0 : Nat) = 1 ∧ (((V.1 90 37) + 1) = 0 ∨ ((V.1 90 37) + 1) = 1))) ∧ ((0 : Int) ≤ 0 → zwp jtb zsh n zm_MTrl4 post (kk__ + 21) (lGo ak_ZMTrl4 168) 168 [some (.inr (.inr (some (.inl 90)))), some (.inl (g)), some (.inl (u)), some (.inl (op)), some (.inl (t)), some (.inl (0)), some (.inl (x)), some (.inl (b))] [] (zuF V 90 37 ((V.1 90 37) + 1))) ∧ (¬ (0 : Int) ≤ 0 → zwp jtb zsh n zm_MTrl4 post (kk__ + 21) (lGo ak_ZMTrl4 163) 163 [some (.inr (.inr (some (.inl 90)))), some (.inl (g)), some (.inl (u)), some (.inl (op)), some (.inl (t)), some (.inl (0)), some (.inl (x)), some (.inl (b))] [] (zuF V 90 37 ((V.1 90 37) + 1)))) ∧ (op = 6 → 90 < n ∧ 12 = 12 ∧ 3 = 3 ∧ true = true ∧ jin3 287 2588 8 zm_MTrl4.2.2.1.1 = true ∧ lRm zm_MTrl4.2.1 { frames := 0, cells := 0, slots := 0, locals := 0 } 2 = true ∧ Nat.ble 2 2 = true ∧ Nat.ble 0 8 = true ∧ zc_MTflt [.inl (8), .inl (V.1 90 37)] V (fun vv__ WW__ => zwp jtb zsh n zm_MTrl4 post (kk__ + 27) (lGo ak_ZMTrl4 142) 142 [some (.inr (.inr (some (.inl 90)))), some (.inl (g)), some (.inl (u)), some (.inl (op)), some (.inl (t)), some (.inl (y)), some (.inl (x)), some (.inl (b))] (vv__.toList ++ []) WW__))) from (have h := ((((h).2 c115_1)).2 r119 hr119); ⟨fun c124_5 => ⟨fun c226_7 => ((((h).1 c124_5)).1 c226_7), fun c226_7 => (have h := ((((h).1 c124_5)).2 c226_7); ⟨rfl, trivial, h⟩)⟩, fun c124_5 => ⟨fun c130_8 => (have h := ((((h).2 c124_5)).1 c130_8); ⟨(Nat.lt_of_lt_of_le (by decide) hn), rfl, ⟨(h).1, ⟨(Nat.lt_of_lt_of_le (by decide) hn), rfl, rfl, (Or.inl rfl), ⟨fun _ => (h).2, fun hc18 => absurd hc18 (by decide)⟩⟩⟩⟩), fun c130_8 => (have h := ((((h).2 c124_5)).2 c130_8); ⟨(Nat.lt_of_lt_of_le (by decide) hn), rfl, ⟨rfl, rfl, rfl, rfl, rfl, rfl, 8, V.1 90 37, rfl, (h).1, fun r139 hr139 => (show 90 < n ∧ 12 = 12 ∧ (-2147483648 ≤ (V.1 90 37) + 1 ∧ (V.1 90 37) + 1 ≤ 2147483647) ∧ 90 < n ∧ 12 = 12 ∧ (some 0 : Option Nat) = some 0 ∧ ((0 : Nat) = 0 ∨ ((0 : Nat) = 1 ∧ (((V.1 90 37) + 1) = 0 ∨ ((V.1 90 37) + 1) = 1))) ∧ (r139 ≤ 0 → zwp jtb zsh n zm_MTrl4 post (kk__ + 17) (lGo ak_ZMTrl4 168) 168 [some (.inr (.inr (some (.inl 90)))), some (.inl (g)), some (.inl (u)), some (.inl (op)), some (.inl (t)), some (.inl (r139)), some (.inl (x)), some (.inl (b))] [] (zuF V 90 37 ((V.1 90 37) + 1))) ∧ (¬ r139 ≤ 0 → (r139 ≤ 0 → 90 < n ∧ 12 = 12 ∧ (-2147483648 ≤ ((V.1 90 37) + 1) + 1 ∧ ((V.1 90 37) + 1) + 1 ≤ 2147483647) ∧ 90 < n ∧ 12 = 12 ∧ (some 0 : Option Nat) = some 0 ∧ ((0 : Nat) = 0 ∨ ((0 : Nat) = 1 ∧ ((((V.1 90 37) + 1) + 1) = 0 ∨ (((V.1 90 37) + 1) + 1) = 1))) ∧ (r139 ≤ 0 → zwp jtb zsh n zm_MTrl4 post (kk__ + 4) (lGo ak_ZMTrl4 212) 212 [some (.inr (.inr (some (.inl 90)))), some (.inl (g)), some (.inl (u)), some (.inl (op)), some (.inl (t)), some (.inl (r139)), some (.inl (x)), some (.inl (b))] [] (zuF (zuF V 90 37 ((V.1 90 37) + 1)) 90 37 (((V.1 90 37) + 1) + 1))) ∧ (¬ r139 ≤ 0 → zwp jtb zsh n zm_MTrl4 post (kk__ + 0) (lGo ak_ZMTrl4 113) 113 [some (.inr (.inr (some (.inl 90)))), some (.inl (g)), some (.inl (u)), some (.inl (op)), some (.inl (t)), some (.inl (r139)), some (.inl (x)), some (.inl (b))] [] (zuF (zuF V 90 37 ((V.1 90 37) + 1)) 90 37 (((V.1 90 37) + 1) + 1)))) ∧ (¬ r139 ≤ 0 → 90 < n ∧ 12 = 12 ∧ 90 < n ∧ 12 = 12 ∧ (some 0 : Option Nat) = some 0 ∧ ((0 : Nat) = 0 ∨ ((0 : Nat) = 1 ∧ (((V.1 90 37) + 1) = 0 ∨ ((V.1 90 37) + 1) = 1))) ∧ (r139 ≤ 0 → zwp jtb zsh n zm_MTrl4 post (kk__ + 5) (lGo ak_ZMTrl4 212) 212 [some (.inr (.inr (some (.inl 90)))), some (.inl (g)), some (.inl (u)), some (.inl (op)), some (.inl (t)), some (.inl (r139)), some (.inl (x)), some (.inl (b))] [] (zuF (zuF V 90 37 ((V.1 90 37) + 1)) 90 37 ((V.1 90 37) + 1))) ∧ (¬ r139 ≤ 0 → zwp jtb zsh n zm_MTrl4 post (kk__ + 1) (lGo ak_ZMTrl4 113) 113 [some (.inr (.inr (some (.inl 90)))), some (.inl (g)), some (.inl (u)), some (.inl (op)), some (.inl (t)), some (.inl (r139)), some (.inl (x)), some (.inl (b))] [] (zuF (zuF V 90 37 ((V.1 90 37) + 1)) 90 37 ((V.1 90 37) + 1))))) from ⟨(Nat.lt_of_lt_of_le (by decide) hn), rfl, ⟨(((h).2 r139 hr139)).1, ⟨(Nat.lt_of_lt_of_le (by decide) hn), rfl, rfl, (Or.inl rfl), ⟨fun c160_22 => (((((h).2 r139 hr139)).2).1 c160_22), fun c160_22 => (have h := (((((h).2 r139 hr139)).2).2 c160_22); ⟨fun c183_28 => ⟨(Nat.lt_of_lt_of_le (by decide) hn), rfl, ⟨(((h).1 c183_28)).1, ⟨(Nat.lt_of_lt_of_le (by decide) hn), rfl, rfl, (Or.inl rfl), ⟨fun c204_35 => (((((h).1 c183_28)).2).1 c204_35), fun c204_35 => (((((h).1 c183_28)).2).2 c204_35)⟩⟩⟩⟩, fun c183_28 => ⟨(Nat.lt_of_lt_of_le (by decide) hn), rfl, ⟨(Nat.lt_of_lt_of_le (by decide) hn), rfl, rfl, (Or.inl rfl), ⟨fun c204_34 => ((((h).2 c183_28)).1 c204_34), fun c204_34 => ((((h).2 c183_28)).2 c204_34)⟩⟩⟩⟩)⟩⟩⟩⟩)⟩⟩)⟩⟩))⟩⟩)
set_option maxRecDepth 8000 in
theorem zp_MTrl4_168 {n K : Nat} {V : zW} {post : zPo} {g u op t y x b : Int}  (hK : 22 ≤ K) (hn : 142 ≤ n) (h : (-2147483648 ≤ op + 1 ∧ op + 1 ≤ 2147483647) ∧ ∃ s175 : gSt, ((op + 1) = 5 ∧ gLp V g b 5 s175) ∧ ∀ r175 : Int, ∀ W175 : zW, (gLq V W175 g 5 r175 s175) → (r175 ≤ 0 → (-2147483648 ≤ (W175.1 90 37) + 1 ∧ (W175.1 90 37) + 1 ≤ 2147483647) ∧ (r175 ≤ 0 → zwp jtb zsh n zm_MTrl4 post (K - 18) (lGo ak_ZMTrl4 212) 212 [some (.inr (.inr (some (.inl 90)))), some (.inl (g)), some (.inl (u)), some (.inl (op)), some (.inl (t)), some (.inl (r175)), some (.inl (x)), some (.inl (b))] [] (zuF W175 90 37 ((W175.1 90 37) + 1))) ∧ (¬ r175 ≤ 0 → zwp jtb zsh n zm_MTrl4 post (K - 22) (lGo ak_ZMTrl4 113) 113 [some (.inr (.inr (some (.inl 90)))), some (.inl (g)), some (.inl (u)), some (.inl (op)), some (.inl (t)), some (.inl (r175)), some (.inl (x)), some (.inl (b))] [] (zuF W175 90 37 ((W175.1 90 37) + 1)))) ∧ (¬ r175 ≤ 0 → (r175 ≤ 0 → zwp jtb zsh n zm_MTrl4 post (K - 17) (lGo ak_ZMTrl4 212) 212 [some (.inr (.inr (some (.inl 90)))), some (.inl (g)), some (.inl (u)), some (.inl (op)), some (.inl (t)), some (.inl (r175)), some (.inl (x)), some (.inl (b))] [] (zuF W175 90 37 (W175.1 90 37))) ∧ (¬ r175 ≤ 0 → zwp jtb zsh n zm_MTrl4 post (K - 21) (lGo ak_ZMTrl4 113) 113 [some (.inr (.inr (some (.inl 90)))), some (.inl (g)), some (.inl (u)), some (.inl (op)), some (.inl (t)), some (.inl (r175)), some (.inl (x)), some (.inl (b))] [] (zuF W175 90 37 (W175.1 90 37))))) : zwp jtb zsh n zm_MTrl4 post K (lGo ak_ZMTrl4 168) 168 [some (.inr (.inr (some (.inl 90)))), some (.inl (g)), some (.inl (u)), some (.inl (op)), some (.inl (t)), some (.inl (y)), some (.inl (x)), some (.inl (b))] [] V := by
  obtain ⟨kk__, rfl⟩ : ∃ kk__, K = kk__ + 22 := ⟨K - 22, by omega⟩
  exact (show (-2147483648 ≤ op + 1 ∧ op + 1 ≤ 2147483647) ∧ 3 = 3 ∧ false = false ∧ jin3 333 2643 9 zm_MTrl4.2.2.1.1 = true ∧ lRm zm_MTrl4.2.1 { frames := 10, cells := 0, slots := 0, locals := 261 } 8 = true ∧ Nat.ble 4 4 = true ∧ Nat.ble 0 8 = true ∧ 90 < n ∧ 12 = 12 ∧ Nat.ble 1000 12 = false ∧ zc_MTrl5 [.inr (.inr (some (.inl 90))), .inl (g), .inl (b), .inl (op + 1)] V (fun vv__ WW__ => zwp jtb zsh n zm_MTrl4 post (kk__ + 15) (lGo ak_ZMTrl4 178) 178 [some (.inr (.inr (some (.inl 90)))), some (.inl (g)), some (.inl (u)), some (.inl (op)), some (.inl (t)), some (.inl (y)), some (.inl (x)), some (.inl (b))] (vv__.toList ++ []) WW__) from ⟨(h).1, (Exists.elim ((h).2) (fun s175 gh175 => ⟨rfl, rfl, rfl, rfl, rfl, rfl, (Nat.lt_of_lt_of_le (by decide) hn), rfl, rfl, g, b, op + 1, s175, rfl, (gh175).1, fun r175 W175 hr175 => (show (r175 ≤ 0 → 90 < n ∧ 12 = 12 ∧ (-2147483648 ≤ (W175.1 90 37) + 1 ∧ (W175.1 90 37) + 1 ≤ 2147483647) ∧ 90 < n ∧ 12 = 12 ∧ (some 0 : Option Nat) = some 0 ∧ ((0 : Nat) = 0 ∨ ((0 : Nat) = 1 ∧ (((W175.1 90 37) + 1) = 0 ∨ ((W175.1 90 37) + 1) = 1))) ∧ (r175 ≤ 0 → zwp jtb zsh n zm_MTrl4 post (kk__ + 4) (lGo ak_ZMTrl4 212) 212 [some (.inr (.inr (some (.inl 90)))), some (.inl (g)), some (.inl (u)), some (.inl (op)), some (.inl (t)), some (.inl (r175)), some (.inl (x)), some (.inl (b))] [] (zuF W175 90 37 ((W175.1 90 37) + 1))) ∧ (¬ r175 ≤ 0 → zwp jtb zsh n zm_MTrl4 post (kk__ + 0) (lGo ak_ZMTrl4 113) 113 [some (.inr (.inr (some (.inl 90)))), some (.inl (g)), some (.inl (u)), some (.inl (op)), some (.inl (t)), some (.inl (r175)), some (.inl (x)), some (.inl (b))] [] (zuF W175 90 37 ((W175.1 90 37) + 1)))) ∧ (¬ r175 ≤ 0 → 90 < n ∧ 12 = 12 ∧ 90 < n ∧ 12 = 12 ∧ (some 0 : Option Nat) = some 0 ∧ ((0 : Nat) = 0 ∨ ((0 : Nat) = 1 ∧ ((W175.1 90 37) = 0 ∨ (W175.1 90 37) = 1))) ∧ (r175 ≤ 0 → zwp jtb zsh n zm_MTrl4 post (kk__ + 5) (lGo ak_ZMTrl4 212) 212 [some (.inr (.inr (some (.inl 90)))), some (.inl (g)), some (.inl (u)), some (.inl (op)), some (.inl (t)), some (.inl (r175)), some (.inl (x)), some (.inl (b))] [] (zuF W175 90 37 (W175.1 90 37))) ∧ (¬ r175 ≤ 0 → zwp jtb zsh n zm_MTrl4 post (kk__ + 1) (lGo ak_ZMTrl4 113) 113 [some (.inr (.inr (some (.inl 90)))), some (.inl (g)), some (.inl (u)), some (.inl (op)), some (.inl (t)), some (.inl (r175)), some (.inl (x)), some (.inl (b))] [] (zuF W175 90 37 (W175.1 90 37)))) from (have h := ((gh175).2 r175 W175 hr175); ⟨fun c183_10 => ⟨(Nat.lt_of_lt_of_le (by decide) hn), rfl, ⟨(((h).1 c183_10)).1, ⟨(Nat.lt_of_lt_of_le (by decide) hn), rfl, rfl, (Or.inl rfl), ⟨fun c204_17 => (((((h).1 c183_10)).2).1 c204_17), fun c204_17 => (((((h).1 c183_10)).2).2 c204_17)⟩⟩⟩⟩, fun c183_10 => ⟨(Nat.lt_of_lt_of_le (by decide) hn), rfl, ⟨(Nat.lt_of_lt_of_le (by decide) hn), rfl, rfl, (Or.inl rfl), ⟨fun c204_16 => ((((h).2 c183_10)).1 c204_16), fun c204_16 => ((((h).2 c183_10)).2 c204_16)⟩⟩⟩⟩))⟩))⟩)
set_option maxRecDepth 8000 in
theorem zp_MTrl4_212 {n K : Nat} {V : zW} {post : zPo} {g u op t y x b : Int}  (hK : 6 ≤ K) (hn : 142 ≤ n) (h : ∃ s216 : gSt, (gW V g s216 ∧ s216.2.2.2.1 = t ∧ ¬ s216.2.2.2.2.1 = 1 ∧ zBn V (V.1 90 37) s216.1) ∧ ∀ r216 : Int, ∀ W216 : zW, (zFr [(90, 37)] [100, 101] V W216 ∧ zFo g V W216 ∧ ((r216 = 0 ∧ ∃ s2 : gSt, gP (V.2.1 91) (V.1 90 1) s216 s2 ∧ gW W216 g s2 ∧ W216.1 90 37 = s2.1 ∧ s2.2.2.2.1 = t ∧ s2.2.2.2.2.2 = s216.2.2.2.2.2 ∧ s2.2.1 = s216.2.1 ∧ ((s2.2.2.2.2.1 = s216.2.2.2.2.1 ∧ s2.1 = s216.1) ∨ s2.2.2.2.2.1 = (if s216.2.2.2.2.1 = 0 then 0 else 4)) ∧ ¬ gcR (xLk (V.2.1 91) (V.1 90 1) s2.1)) ∨ (0 < r216 ∧ r216 ≤ 1000000 ∧ gF (V.2.1 91) (V.1 90 1) s216))) → zwp jtb zsh n zm_MTrl4 post (K - 6) (lGo ak_ZMTrl4 113) 113 [some (.inr (.inr (some (.inl 90)))), some (.inl (g)), some (.inl (u)), some (.inl (op)), some (.inl (t)), some (.inl (r216)), some (.inl (x)), some (.inl (b))] [] W216) : zwp jtb zsh n zm_MTrl4 post K (lGo ak_ZMTrl4 212) 212 [some (.inr (.inr (some (.inl 90)))), some (.inl (g)), some (.inl (u)), some (.inl (op)), some (.inl (t)), some (.inl (y)), some (.inl (x)), some (.inl (b))] [] V := by
  obtain ⟨kk__, rfl⟩ : ∃ kk__, K = kk__ + 6 := ⟨K - 6, by omega⟩
  exact (show 3 = 3 ∧ false = false ∧ jin3 330 2639 7 zm_MTrl4.2.2.1.1 = true ∧ lRm zm_MTrl4.2.1 { frames := 1, cells := 0, slots := 0, locals := 21 } 11 = true ∧ Nat.ble 3 3 = true ∧ Nat.ble 0 8 = true ∧ 90 < n ∧ 12 = 12 ∧ Nat.ble 1000 12 = false ∧ zc_MTrrm [.inr (.inr (some (.inl 90))), .inl (g), .inl (t)] V (fun vv__ WW__ => zwp jtb zsh n zm_MTrl4 post (kk__ + 2) (lGo ak_ZMTrl4 219) 219 [some (.inr (.inr (some (.inl 90)))), some (.inl (g)), some (.inl (u)), some (.inl (op)), some (.inl (t)), some (.inl (y)), some (.inl (x)), some (.inl (b))] (vv__.toList ++ []) WW__) from (Exists.elim (h) (fun s216 gh216 => ⟨rfl, rfl, rfl, rfl, rfl, rfl, (Nat.lt_of_lt_of_le (by decide) hn), rfl, rfl, g, t, s216, rfl, (gh216).1, fun r216 W216 hr216 => (show zwp jtb zsh n zm_MTrl4 post (kk__ + 0) (lGo ak_ZMTrl4 113) 113 [some (.inr (.inr (some (.inl 90)))), some (.inl (g)), some (.inl (u)), some (.inl (op)), some (.inl (t)), some (.inl (r216)), some (.inl (x)), some (.inl (b))] [] W216 from ((gh216).2 r216 W216 hr216))⟩)))
set_option maxRecDepth 1000000 in
set_option maxHeartbeats 4000000 in
theorem zk_MTrl4 {l : Launch} {E : jE} {n : Nat} (hn : 142 ≤ n) : zHas l E jcl jtb lw_tbl zsh n (y_MT_readLine, false, 4, 12, { frames := 11, cells := 0, slots := 0, locals := 288 }, zc_MTrl4) := by
  refine ⟨⟨rfl, rfl, ⟨show 1 ≤ 4 by decide, m_MT_readLine, i_MT_readLine, e_MT_readLine, fun _ => ⟨_, rfl, rfl⟩⟩⟩, ?_⟩
  rintro vz W po hO hW ⟨g, u, op, s, rfl, hq, hp⟩
  refine zmet (m := zm_MTrl4) rfl (by decide) (fun _ _ => jtF_ok) lo_MT ao_ZMTrl4 jC (fun q h => by cases h) (aAllc (fun G h => by obtain rfl := Option.some.inj h; exact ql_MT_275) (aAllc (fun G h => by obtain rfl := Option.some.inj h; exact ql_MT_318) (aAllc (fun G h => by obtain rfl := Option.some.inj h; exact ql_MT_278) (aAllc (fun G h => by obtain rfl := Option.some.inj h; exact ql_MT_96) (aAllc (fun G h => by obtain rfl := Option.some.inj h; exact ql_MT_321) (aAllc (fun G h => by obtain rfl := Option.some.inj h; exact ql_MT_324) (aAllc (fun G h => by obtain rfl := Option.some.inj h; exact ql_MT_327) (aAllc (fun G h => by obtain rfl := Option.some.inj h; exact ql_MT_330) (aAllc (fun G h => by obtain rfl := Option.some.inj h; exact ql_MT_287) (aAllc (fun G h => by obtain rfl := Option.some.inj h; exact ql_MT_333) (fun q h => by cases h))))))))))) (aAllc (zk_MTbl hn) (aAllc (zk_MTrsh hn) (aAllc (zk_MTlook hn) (aAllc (zk_MTplace hn) (aAllc (zk_MTrmn hn) (aAllc (zk_MTrmv hn) (aAllc (zk_MTrmk hn) (aAllc (zk_MTrrm hn) (aAllc (zk_MTflt hn) (aAllc (zk_MTrl5 hn) (fun q h => by cases h))))))))))) (Nat.le_of_ble_eq_true rfl) hO hW (66000000) ?_
  have op6 := hq.1
  have hI0 := hq.2.2.1
  have hg := hq.2.1.1
  have elen : (s.2.2.2.2.2.length : Int) = 4 := hq.2.2.2.2.1
  have hB0 : xBs (W.2.1 91) (W.1 90 1) s.1 s.1 := xBs_i hq.2.2.2.2.2.2.1
  have i0 : gJ3 W W g u u s := ⟨⟨zFr_0, zFo_0⟩, s, gP_0, hq.2.1, hq.2.2.2.2.2.2.1, hq.2.2.2.1, rfl, Or.inl ⟨hq.2.2.2.1, Or.inr hq.2.2.2.2.2.1⟩⟩
  have main : ∀ m : Nat, (∀ (K : Nat) (V : zW) (t : Int) (u5 u6 u7 : Option zv), gJ3 W V g u t s → W.1 90 1 - V.1 90 37 < (m : Nat) → 1000 * m + 500 ≤ K → zwp jtb zsh n zm_MTrl4 po K (lGo ak_ZMTrl4 3) 3 [some (.inr (.inr (some (.inl 90)))), some (.inl g), some (.inl u), some (.inl op), some (.inl (t)), u5, u6, u7] [] V) ∧ (∀ (K : Nat) (V : zW) (t y x b : Int), gJ5 W V g u t b y s → (y = 0 → W.1 90 1 - V.1 90 37 < (m : Nat)) → 1000 * m + 700 ≤ K → zwp jtb zsh n zm_MTrl4 po K (lGo ak_ZMTrl4 113) 113 [some (.inr (.inr (some (.inl 90)))), some (.inl g), some (.inl u), some (.inl op), some (.inl (t)), some (.inl (y)), some (.inl (x)), some (.inl (b))] [] V) := by
    intro m
    induction m with
    | zero =>
      have h3 : (∀ (K : Nat) (V : zW) (t : Int) (u5 u6 u7 : Option zv), gJ3 W V g u t s → W.1 90 1 - V.1 90 37 < (0 : Nat) → 1000 * 0 + 500 ≤ K → zwp jtb zsh n zm_MTrl4 po K (lGo ak_ZMTrl4 3) 3 [some (.inr (.inr (some (.inl 90)))), some (.inl g), some (.inl u), some (.inl op), some (.inl (t)), u5, u6, u7] [] V) := by
        intro K V t u5 u6 u7 hJ hm
        obtain ⟨hB, s1, _, hw, _⟩ := hJ
        have := hw.2.1.1
        have := (gBs_x hB).2
        omega
      refine ⟨h3, ?_⟩
      intro K V t y x b hJ hm hK
      have y0 : 0 < y := by
        rcases hJ.2 with h | ⟨h, s1, _, hw, _⟩
        · exact h.1
        · exfalso
          have := hm h
          have := hw.2.1.1
          have := (gBs_x hJ.1).2
          omega
      have b231 : 0 < y → po (some (.inl y)) V := fun _ => hp _ _ ⟨hJ.1.1, hJ.1.2, Or.inr (hJ.2.resolve_right (fun z => by have := z.1; omega))⟩
      exact zp_MTrl4_113 (by omega) hn ⟨fun c115 => ⟨fun c226 => (by exfalso; omega), fun c226 => b231 (by omega)⟩, fun c115 => (by exfalso; omega)⟩
    | succ m ih =>
      have ih113 := ih.2
      have h3 : (∀ (K : Nat) (V : zW) (t : Int) (u5 u6 u7 : Option zv), gJ3 W V g u t s → W.1 90 1 - V.1 90 37 < ((m + 1) : Nat) → 1000 * (m + 1) + 500 ≤ K → zwp jtb zsh n zm_MTrl4 po K (lGo ak_ZMTrl4 3) 3 [some (.inr (.inr (some (.inl 90)))), some (.inl g), some (.inl u), some (.inl op), some (.inl (t)), u5, u6, u7] [] V) := by
        intro K V t u5 u6 u7 hI hm hK
        obtain ⟨hB, s1, hP, hw, eb, et, ek, hH⟩ := hI
        have hI : gBs W V g ∧ True := ⟨hB, trivial⟩
        have e1 := gBs_x hB
        have hI1 := (gI_p hI0 hP).1
        have elen : (s1.2.2.2.2.2.length : Int) = 4 := by rw [ek]; exact elen
        have ate : ∀ U, (zFr [(90, 37)] [] V U ∧ zTp U ∧ zBn V (V.1 90 37) (U.1 90 37)) → U.1 90 37 = s1.1 := fun U h => xBs_u h.2.2 eb
        have lk4 : ∀ U, (zFr [(90, 37)] [] V U ∧ zTp U ∧ zBn V (V.1 90 37) (U.1 90 37)) → zLk U (U.1 90 37) = xLk (W.2.1 91) (W.1 90 1) s1.1 := fun U h => by rw [gLk (gBs_f hB h.1).1, ate U h]
        have st2 : ¬ t = u → 2 ≤ s1.2.2.2.2.1 := by
          intro h
          rcases hH with z | z
          · exact absurd (et.symm.trans z.1) h
          · have := z.2.1; omega
        have ret : ∀ U, (zFr [(90, 37)] [] V U ∧ zTp U ∧ zBn V (V.1 90 37) (U.1 90 37)) → gEn (W.2.1 91) (W.1 90 1) 4 s1 → po (some (.inl 0)) U := by
          intro U h hE
          have B := gBs_f hB h.1
          exact hp _ _ ⟨B.1, B.2, Or.inl ⟨rfl, s1, hP, gW_fr h.1 (by decide) (by decide) h.2.1 hw, ate U h, ek, hE⟩⟩
        have le1 : V.1 90 37 ≤ s1.1 := eb.1.1
        have h38 : ∀ U, (zFr [(90, 37)] [] V U ∧ zTp U ∧ zBn V (V.1 90 37) (U.1 90 37)) → ¬ gOv (W.2.1 91) (W.1 90 1) s1 → (xLk (W.2.1 91) (W.1 90 1) s1.1 = 41 → ¬ s1.2.2.2.1 = u → s1.2.2.2.2.2 = []) → ∀ K : Nat, 1000 * m + 1300 ≤ K → zwp jtb zsh n zm_MTrl4 po K (lGo ak_ZMTrl4 38) 38 [some (.inr (.inr (some (.inl 90)))), some (.inl g), some (.inl u), some (.inl op), some (.inl (t)), u5, u6, u7] [] U := by
          intro U hU nO n41 K hK
          have aU := ate U hU
          have hB := gBs_f hB hU.1
          have hw := gW_fr hU.1 (by decide) (by decide) hU.2.1 hw
          have e1 := gBs_x hB
          clear hI ih ret lk4 ate
          have pre42 : (0 ≤ g ∧ g ≤ 1) ∧ (∃ N, (0 ≤ t ∧ t ≤ N ∧ N ≤ 300) ∧ xOk (zSt U g) (zro U 94 g) (zro U 95 g) N) ∧ zSb U g := ⟨hg, ⟨s1.2.1.2.1, by rw [← et]; have := hw.2.2.2.2.1; have := hw.2.2.2.1.1; omega, (zRt_O hw.2.2.1 hw.2.2.2.1).1⟩, hw.2.2.1.2.2.2.2⟩
          have at42 : ∀ W42, (zAt W42 (xPo (zSt U g) (zro U 94 g) (zro U 95 g) t) ∧ zFr [(90, 25), (90, 26), (90, 27), (90, 28), (90, 29), (90, 33)] [110, 111, 112, 113, 114] U W42) → zAt W42 (gPo s1) := fun W42 h => zAt_s hw (by rw [et]; exact h.1)
          have nu : ∀ W42 W46 r46, (zAt W42 (xPo (zSt U g) (zro U 94 g) (zro U 95 g) t) ∧ zFr [(90, 25), (90, 26), (90, 27), (90, 28), (90, 29), (90, 33)] [110, 111, 112, 113, 114] U W42) → (zFr [(90, 37)] [] W42 W46 ∧ zTp W46 ∧ zRn W42 W46 (W42.1 90 37) r46 ∧ 0 ≤ r46 ∧ r46 ≤ 1000000) → (r46 = 0 ∧ gNu (W.2.1 91) (W.1 90 1) (gPo s1).2 s1.1 (W46.1 90 37) 0) ∨ (0 < r46 ∧ gNu (W.2.1 91) (W.1 90 1) (gPo s1).2 s1.1 s1.1 1) := by
            intro W42 W46 r46 h42 h46
            have z := gNu_z (gBs_f hB h42.2).1 (by decide) (by decide) (at42 W42 h42) h46.2.2.1
            rw [zFr_f h42.2 90 37, aU] at z
            exact z
          have b58 : ∀ W42 W46 r46, (zAt W42 (xPo (zSt U g) (zro U 94 g) (zro U 95 g) t) ∧ zFr [(90, 25), (90, 26), (90, 27), (90, 28), (90, 29), (90, 33)] [110, 111, 112, 113, 114] U W42) → (zFr [(90, 37)] [] W42 W46 ∧ zTp W46 ∧ zRn W42 W46 (W42.1 90 37) r46 ∧ 0 ≤ r46 ∧ r46 ≤ 1000000) → 0 < r46 → po (some (.inl r46)) W46 := by
            intro W42 W46 r46 h42 h46 r0
            have B := gBs_f (gBs_f hB h42.2) h46.1
            have z := (nu W42 W46 r46 h42 h46).resolve_left (fun z => by omega)
            exact hp _ _ ⟨B.1, B.2, Or.inr ⟨r0, h46.2.2.2.2, gF_1 hP (gS_h hH nO n41 ⟨_, _, z.2, Or.inl ⟨rfl, rfl⟩⟩)⟩⟩
          have h59 : ∀ W42 W46 r46, (zAt W42 (xPo (zSt U g) (zro U 94 g) (zro U 95 g) t) ∧ zFr [(90, 25), (90, 26), (90, 27), (90, 28), (90, 29), (90, 33)] [110, 111, 112, 113, 114] U W42) → (zFr [(90, 37)] [] W42 W46 ∧ zTp W46 ∧ zRn W42 W46 (W42.1 90 37) r46 ∧ 0 ≤ r46 ∧ r46 ≤ 1000000) → r46 ≤ 0 → ∀ (K : Nat) (u6 u7 : Option zv), 1000 * m + 1200 ≤ K → zwp jtb zsh n zm_MTrl4 po K (lGo ak_ZMTrl4 59) 59 [some (.inr (.inr (some (.inl 90)))), some (.inl g), some (.inl u), some (.inl op), some (.inl (t)), some (.inl (r46)), u6, u7] [] W46 := by
            intro W42 W46 r46 h42 h46 r0 K u6 u7 hK
            have z := (nu W42 W46 r46 h42 h46).resolve_right (fun z => by omega)
            have B := gBs_f (gBs_f hB h42.2) h46.1
            have hw : gW W46 g s1 := gW_fr h46.1 (by decide) (by decide) h46.2.1 (gW_fr h42.2 (by decide) (by decide) (zTp_fr h42.2 hw.2.1) hw)
            have hA := zAt_fr h46.1 (by decide) (by decide) (at42 W42 h42)
            have hNu := z.2
            have e1 := gBs_x B
            generalize W46 = V at B hw hA hNu e1 ⊢
            clear z h42 h46 nu b58 pre42 at42
            have hd := gI_d hI1
            have hd6 : trE s1.2.1.2.2.1 (xLd s1.2.1.2.2.2.2.1) t + (if s1.2.1.2.2.2.2.1 t = [] then 0 else 1) ≤ 6 := by rw [et] at hd; have := hd.1; have := hI1.2.2.1; omega
            have b76 : ∀ W3 r, (zFr [(90, 36), (90, 37)] [93, 94, 95, 96, 97, 98, 100, 110, 111, 112, 115] V W3 ∧ zFo g V W3 ∧ ((r < 0 ∧ -1000000 ≤ r ∧ gMv (V.2.1 91) (V.1 90 1) s1 (V.1 90 37) none) ∨ (0 ≤ r ∧ ∃ e m, xLt (xLk (V.2.1 91) (V.1 90 1) (V.1 90 37)) ∧ xWd (V.2.1 91) (V.1 90 1) (V.1 90 37) e ∧ zUn (gPo s1).1 (fun i => V.2.1 91 (V.1 90 37 + i)) (e - V.1 90 37) m ∧ ¬ gMb s1 m ∧ r = s1.2.1.2.1 + 1 ∧ W3.1 90 37 = e ∧ gW W3 g (e, xApp s1.2.1 t m, zuI s1.2.2.1 (s1.2.1.2.1 + 1) 0, s1.2.1.2.1 + 1, 2, s1.2.2.2.2.2)))) → r < 0 → po (some (.inl (-r))) W3 := by
              intro W3 r h r0
              have B3 := gBs_o B h.1 h.2.1
              have z := h.2.2.resolve_right (fun z => by have := z.1; omega)
              rw [e1.1, e1.2] at z
              exact hp _ _ ⟨B3.1, B3.2, Or.inr ⟨by omega, by omega, gF_1 hP (gS_h hH nO n41 (gMv_0 hNu z.2.2))⟩⟩
            have h85 : ∀ W3 r, (zFr [(90, 36), (90, 37)] [93, 94, 95, 96, 97, 98, 100, 110, 111, 112, 115] V W3 ∧ zFo g V W3 ∧ ((r < 0 ∧ -1000000 ≤ r ∧ gMv (V.2.1 91) (V.1 90 1) s1 (V.1 90 37) none) ∨ (0 ≤ r ∧ ∃ e m, xLt (xLk (V.2.1 91) (V.1 90 1) (V.1 90 37)) ∧ xWd (V.2.1 91) (V.1 90 1) (V.1 90 37) e ∧ zUn (gPo s1).1 (fun i => V.2.1 91 (V.1 90 37 + i)) (e - V.1 90 37) m ∧ ¬ gMb s1 m ∧ r = s1.2.1.2.1 + 1 ∧ W3.1 90 37 = e ∧ gW W3 g (e, xApp s1.2.1 t m, zuI s1.2.2.1 (s1.2.1.2.1 + 1) 0, s1.2.1.2.1 + 1, 2, s1.2.2.2.2.2)))) → 0 ≤ r → ∀ (K : Nat) (y : Int), 1000 * m + 1100 ≤ K → zwp jtb zsh n zm_MTrl4 po K (lGo ak_ZMTrl4 85) 85 [some (.inr (.inr (some (.inl 90)))), some (.inl g), some (.inl u), some (.inl op), some (.inl (r)), some (.inl (y)), some (.inl (r)), some (.inl (t))] [] W3 := by
              intro W3 r h r0 K y hK
              have B3 := gBs_o B h.1 h.2.1
              have z := h.2.2.resolve_left (fun z => by have := z.1; omega)
              rw [e1.1, e1.2] at z
              obtain ⟨_, e, mv, h1, h2, h4, h5, h6, h7, h8⟩ := z
              obtain ⟨q, hq'⟩ := xBs_x (X := W.2.1 91) (N := W.1 90 1) (p := e) h2.1.2
              have hG : gS (W.2.1 91) (W.1 90 1) s1 (some (q, xApp s1.2.1 s1.2.2.2.1 mv, zuI s1.2.2.1 (s1.2.1.2.1 + 1) 0, s1.2.1.2.1 + 1, 2, s1.2.2.2.2.2)) := gS_h hH nO n41 (gMv_0 hNu (Or.inr ⟨h1, e, mv, h2, h4, Or.inr ⟨h5, q, hq', rfl⟩⟩))
              have hP3 := gP_1 hP hG
              have hI3 := gI_s hI1 hG
              have e3 := gBs_x B3
              have u1 : u ≤ s1.2.1.2.1 := by
                have a := (gI_p hI0 hP).2.2.1
                have b := hI0.2.1.2
                have c := hq.2.2.2.1
                omega
              rw [et] at hG hP3 hI3
              generalize es3 : ((q, xApp s1.2.1 t mv, zuI s1.2.2.1 (s1.2.1.2.1 + 1) 0, s1.2.1.2.1 + 1, 2, s1.2.2.2.2.2) : gSt) = s3 at hG hP3 hI3
              have et3 : s3.2.2.2.1 = r := by rw [← es3]; exact h6.symm
              have es2 : s3.2.2.2.2.1 = 2 := by rw [← es3]
              have em : s3.2.1.2.2.2.2.2 r = 0 := by
                rw [← es3, h6]
                exact zuI_s
              have eb3 : zBn W3 (W3.1 90 37) s3.1 := by
                show xBs (W3.2.1 91) (W3.1 90 1) (W3.1 90 37) s3.1
                rw [e3.1, e3.2, h7, ← es3]
                exact hq'
              have hw3 : gW W3 g s3 := by rw [← es3]; exact h8
              have k3 : s3.2.2.2.2.2 = s.2.2.2.2.2 := by rw [← es3]; exact ek
              have p3 : s3.2.1.2.2.1 r = t := by
                rw [← es3, h6]
                exact zuI_s
              have n3 : ¬ r = u := by omega
              have N3 : s3.2.1.2.1 = r := by rw [← es3]; exact h6.symm
              have lt3 : s1.1 < s3.1 := hI3.2.2.1
              have hI3 := hI3.1
              clear hG es3
              generalize r = x at et3 em p3 n3 N3 ⊢
              generalize W3 = V at B3 e3 eb3 hw3 ⊢
              have B := B3
              have e1 := e3
              have et := et3
              have eb := eb3
              have hw := hw3
              have j89 : ∀ W3 r, (zFr [(90, 37)] [98, 99] V W3 ∧ zFo g V W3 ∧ ((r = 0 ∧ ∃ s2 : gSt, gP (V.2.1 91) (V.1 90 1) s3 s2 ∧ gW W3 g s2 ∧ W3.1 90 37 = s2.1 ∧ s2.2.2.2.1 = x ∧ s2.2.2.2.2.2 = s3.2.2.2.2.2 ∧ ((s2.2.2.2.2.1 = 2 ∧ ¬ gcM (xLk (V.2.1 91) (V.1 90 1) s2.1)) ∨ (s2.2.2.2.2.1 = 3 ∧ ¬ xLk (V.2.1 91) (V.1 90 1) s2.1 = 36))) ∨ (0 < r ∧ r ≤ 1000000 ∧ gF (V.2.1 91) (V.1 90 1) s3))) → 0 < r → gJ5 W W3 g u x t r s := by
                intro W3 r h r0
                refine ⟨gBs_o B h.1 h.2.1, Or.inl ?_⟩
                rcases h.2.2 with h2 | h2
                · omega
                · rw [e1.1, e1.2] at h2
                  exact ⟨h2.1, h2.2.1, gF_t hP3 h2.2.2⟩
              have h104 : ∀ W3, ∀ {r : Int}, (zFr [(90, 37)] [98, 99] V W3 ∧ zFo g V W3 ∧ ((r = 0 ∧ ∃ s2 : gSt, gP (V.2.1 91) (V.1 90 1) s3 s2 ∧ gW W3 g s2 ∧ W3.1 90 37 = s2.1 ∧ s2.2.2.2.1 = x ∧ s2.2.2.2.2.2 = s3.2.2.2.2.2 ∧ ((s2.2.2.2.2.1 = 2 ∧ ¬ gcM (xLk (V.2.1 91) (V.1 90 1) s2.1)) ∨ (s2.2.2.2.2.1 = 3 ∧ ¬ xLk (V.2.1 91) (V.1 90 1) s2.1 = 36))) ∨ (0 < r ∧ r ≤ 1000000 ∧ gF (V.2.1 91) (V.1 90 1) s3))) → r ≤ 0 → ∀ (K : Nat) (y : Int), 1000 * m + 1000 ≤ K → zwp jtb zsh n zm_MTrl4 po K (lGo ak_ZMTrl4 104) 104 [some (.inr (.inr (some (.inl 90)))), some (.inl g), some (.inl u), some (.inl op), some (.inl (x)), some (.inl (y)), some (.inl (x)), some (.inl (t))] [] W3 := by
                intro W3 r h r0 K y hK
                have B4 := gBs_o B h.1 h.2.1
                have z := h.2.2.resolve_right (fun z => by omega)
                rw [e1.1, e1.2] at z
                obtain ⟨_, s4, hP4, hw4, ea4, et4, ek4, hc4⟩ := z
                have e4 := gBs_x B4
                have hQ4 := gI_p hI3 hP4
                have hb4 := gB_p (gB_p hB0 hP3) hP4
                have hP4 := gP_t hP3 hP4
                generalize W3 = V at B4 hw4 ea4 e4 ⊢
                have n1 : ¬ s4.2.2.2.2.1 = 1 := by omega
                have et := et4
                have hw := hw4
                have eb : zBn V (V.1 90 37) s4.1 := by
                  show xBs (V.2.1 91) (V.1 90 1) (V.1 90 37) s4.1
                  rw [e4.1, e4.2, ea4]
                  exact hb4
                have p4 : s4.2.1.2.2.1 x = t := by
                  have hx1 := hI3.2.1
                  have hx2 := hI3.2.2.2.2.2.resolve_left (fun z => by have := z.1; omega)
                  rw [et3] at hx1 hx2
                  rw [(hQ4.2.2.2.2 x (by have := hx2.2.2.2.2; omega) hx1.2).1]
                  exact p3
                have j108 : ∀ (W3 : zW) (r : Int), (zFr [(90, 37)] [100, 101] V W3 ∧ zFo g V W3 ∧ ((r = 0 ∧ ∃ s2 : gSt, gP (V.2.1 91) (V.1 90 1) s4 s2 ∧ gW W3 g s2 ∧ W3.1 90 37 = s2.1 ∧ s2.2.2.2.1 = x ∧ s2.2.2.2.2.2 = s4.2.2.2.2.2 ∧ s2.2.1 = s4.2.1 ∧ ((s2.2.2.2.2.1 = s4.2.2.2.2.1 ∧ s2.1 = s4.1) ∨ s2.2.2.2.2.1 = (if s4.2.2.2.2.1 = 0 then 0 else 4)) ∧ ¬ gcR (xLk (V.2.1 91) (V.1 90 1) s2.1)) ∨ (0 < r ∧ r ≤ 1000000 ∧ gF (V.2.1 91) (V.1 90 1) s4))) → gJ5 W W3 g u x t r s := by
                  intro W3 r h
                  refine ⟨gBs_o B4 h.1 h.2.1, ?_⟩
                  rcases h.2.2 with ⟨r0, s9, h1, h2, h3, h4, h5, h6, h7, h8⟩ | h2
                  · rw [e4.1, e4.2] at h1 h8
                    refine Or.inr ⟨r0, s9, gP_t hP4 h1, h2, h3, h4, h5.trans (ek4.trans k3), ?_, h8, by rw [h6]; exact p4, n3⟩
                    rcases h7 with z | z
                    · unfold gSc
                      rw [z.1, z.2]
                      rcases hc4 with y | y
                      · exact Or.inl y
                      · exact Or.inr (Or.inl y)
                    · refine Or.inr (Or.inr ?_)
                      rw [z, if_neg (by omega)]
                  · rw [e4.1, e4.2] at h2
                    exact Or.inl ⟨h2.1, h2.2.1, gF_t hP4 h2.2.2⟩
                have m108 : ∀ (W3 : zW) (r : Int), (zFr [(90, 37)] [100, 101] V W3 ∧ zFo g V W3 ∧ ((r = 0 ∧ ∃ s2 : gSt, gP (V.2.1 91) (V.1 90 1) s4 s2 ∧ gW W3 g s2 ∧ W3.1 90 37 = s2.1 ∧ s2.2.2.2.1 = x ∧ s2.2.2.2.2.2 = s4.2.2.2.2.2 ∧ s2.2.1 = s4.2.1 ∧ ((s2.2.2.2.2.1 = s4.2.2.2.2.1 ∧ s2.1 = s4.1) ∨ s2.2.2.2.2.1 = (if s4.2.2.2.2.1 = 0 then 0 else 4)) ∧ ¬ gcR (xLk (V.2.1 91) (V.1 90 1) s2.1)) ∨ (0 < r ∧ r ≤ 1000000 ∧ gF (V.2.1 91) (V.1 90 1) s4))) → r = 0 → W.1 90 1 - W3.1 90 37 < (m : Nat) := by
                  intro W3 r h r0
                  rcases h.2.2 with ⟨_, s9, h1, h2, h3, _⟩ | h2
                  · rw [e4.1, e4.2] at h1
                    have a := (gI_p hQ4.1 h1).2.1
                    have b := hQ4.2.1
                    omega
                  · omega
                exact zp_MTrl4_104 (by omega) hn ⟨s4, ⟨hw, et, n1, eb⟩, fun r108 W108 hr108 => (ih113 _ W108 _ _ _ _ (j108 W108 r108 hr108) (fun z => m108 W108 r108 hr108 z) (by omega))⟩
              exact zp_MTrl4_85 (by omega) hn ⟨s3, ⟨hw, et, es2, em, eb⟩, fun r89 W89 hr89 => ⟨fun c96 => (h104 W89 hr89 (by omega) _ _ (by omega)), fun c96 => (ih113 _ W89 _ _ _ _ (j89 W89 r89 hr89 (by omega)) (fun z => by omega) (by omega))⟩⟩
            exact zp_MTrl4_59 (by omega) hn ⟨s1, ⟨hw, et, hA, hd6⟩, fun r63 W63 hr63 => ⟨fun c70 => (h85 W63 r63 hr63 (by omega) _ _ (by omega)), fun c70 => ⟨(by have := hr63.2.2; omega), (b76 W63 r63 hr63 (by omega))⟩⟩⟩
          exact zp_MTrl4_38 (by omega) hn ⟨pre42, fun W42 hr42 => ⟨(zTp_fr hr42.2 hw.2.1), fun r46 W46 hr46 => ⟨fun c53 => (h59 W42 W46 r46 hr42 hr46 (by omega) _ _ _ (by omega)), fun c53 => (b58 W42 W46 r46 hr42 hr46 (by omega))⟩⟩⟩
        exact zp_MTrl4_3 (by omega) hn ⟨hw.2.1, fun W4 hr4 => ⟨fun c8 => ⟨hr4.2.1, fun r22 hr22 => ⟨fun c27 => (by first | (exfalso; omega) | exact h38 W4 hr4 (fun z => by rw [z.1] at elen; exact absurd elen (by decide)) (fun z1 z2 => by exfalso; have z := lk4 W4 hr4; omega) _ (by omega)), fun c27 => ⟨fun c33 => (by first | (exfalso; omega) | exact h38 W4 hr4 (fun z => by rw [z.1] at elen; exact absurd elen (by decide)) (fun z1 z2 => by exfalso; have z := lk4 W4 hr4; omega) _ (by omega)), fun c33 => (by first | (exfalso; omega) | exact ret W4 hr4 (Or.inr ⟨by decide, by have z := lk4 W4 hr4; omega, by have := st2 (by omega); omega, by have := st2 (by omega); omega⟩))⟩⟩⟩, fun c8 => ⟨hr4.2.1, fun r12 hr12 => ⟨fun c15 => (by first | (exfalso; omega) | exact h38 W4 hr4 (fun z => by rw [z.1] at elen; exact absurd elen (by decide)) (fun z1 z2 => by exfalso; have z := lk4 W4 hr4; omega) _ (by omega)), fun c15 => (by first | (exfalso; omega) | exact ret W4 hr4 (Or.inr ⟨by decide, by have z := lk4 W4 hr4; omega, by have := st2 (by omega); omega, by have := st2 (by omega); omega⟩))⟩⟩⟩⟩
      refine ⟨h3, ?_⟩
      intro K V t y x b hJ hm hK
      have j5 : ∀ V, gJ5 W V g u t b y s → y = 0 → gBs W V g ∧ ∃ s1 : gSt, gP (W.2.1 91) (W.1 90 1) s s1 ∧ gW V g s1 ∧ V.1 90 37 = s1.1 ∧ s1.2.2.2.1 = t ∧ s1.2.2.2.2.2 = s.2.2.2.2.2 ∧ gSc (W.2.1 91) (W.1 90 1) s1 ∧ ¬ gcR (xLk (W.2.1 91) (W.1 90 1) s1.1) ∧ s1.2.1.2.2.1 t = b ∧ ¬ t = u := fun V h y0 => ⟨h.1, (h.2.resolve_left (fun z => by have := z.1; omega)).2⟩
      have y0 : 0 ≤ y := by rcases hJ.2 with h | h <;> omega
      have tq : ∀ V, gJ5 W V g u t b y s → y = 0 → zTp V := fun V h y0 => by obtain ⟨_, s1, _, hw, _⟩ := j5 V h y0; exact hw.2.1
      have tpV : ∀ V, gJ5 W V g u t b y s → y = 0 → 0 ≤ V.1 90 37 ∧ V.1 90 37 ≤ 65536 := fun V h y0 => by have z := tq V h y0; have := z.1; have := z.2.1; omega
      have b231 : 0 < y → po (some (.inl y)) V := fun _ => hp _ _ ⟨hJ.1.1, hJ.1.2, Or.inr (hJ.2.resolve_right (fun z => by have := z.1; omega))⟩
      have j3 : ∀ V, gJ5 W V g u t b y s → y = 0 → ¬ zLk V (V.1 90 37) = 40 → gJ3 W V g u t s := by
        intro V h y0 h40
        obtain ⟨hB, s1, hP, hw, ea, et, ek, hs, hr, eb, ntu⟩ := j5 V h y0
        rw [gLk hB.1, ea] at h40
        refine ⟨hB, s1, hP, hw, ?_, et, ek, Or.inr ⟨by rw [et]; exact ntu, hs, hr, h40⟩⟩
        show xBs (V.2.1 91) (V.1 90 1) (V.1 90 37) s1.1
        rw [(gBs_x hB).1, (gBs_x hB).2, ea]
        exact gB_p hB0 hP
      have j139 : ∀ U, zFr [(90, 37)] [] V U → y = 0 → zLk V (V.1 90 37) = 40 → ∀ r : Int, op = 6 ∧ 0 < r ∧ r ≤ 1000000 → gJ5 W U g u t b r s := by
        intro U hU y0 c40 r hr
        obtain ⟨hB, s1, hP, hw, ea, et, ek, hs, _, eb, ntu⟩ := j5 V hJ y0
        have e40 : xLk (W.2.1 91) (W.1 90 1) s1.1 = 40 := by rw [← ea, ← gLk hB.1]; exact c40
        have hx := xLk_i (X := W.2.1 91) (N := W.1 90 1) (p := s1.1) (by omega)
        have hst : ¬ s1.2.2.2.2.1 = 0 ∧ ¬ s1.2.2.2.2.1 = 1 := by unfold gSc at hs; omega
        exact ⟨gBs_f hB hU, Or.inl ⟨hr.2.1, hr.2.2, gF_1 hP (Or.inr (Or.inr (Or.inl ⟨Or.inl e40, Or.inr ⟨hst, Or.inl ⟨by omega, Or.inl ⟨by rw [ek]; omega, rfl⟩⟩⟩⟩)))⟩⟩
      have h168 : ∀ V', V' = zuF V 90 37 (V.1 90 37 + 1) → y = 0 → zLk V (V.1 90 37) = 40 → ∀ (K : Nat), 1000 * m + 1200 ≤ K → zwp jtb zsh n zm_MTrl4 po K (lGo ak_ZMTrl4 168) 168 [some (.inr (.inr (some (.inl 90)))), some (.inl g), some (.inl u), some (.inl op), some (.inl (t)), some (.inl (0)), some (.inl (x)), some (.inl (b))] [] V' := by
        intro V' eV y0 c40 K hK
        obtain ⟨hB, s1, hP, hw, ea, et, ek, hs, hr, eb, ntu⟩ := j5 V hJ y0
        have e40 : xLk (W.2.1 91) (W.1 90 1) s1.1 = 40 := by rw [← ea, ← gLk hB.1]; exact c40
        have hx := xLk_i (X := W.2.1 91) (N := W.1 90 1) (p := s1.1) (by omega)
        have e1 := gBs_x hB
        obtain ⟨q, hq'⟩ := xBs_x (X := W.2.1 91) (N := W.1 90 1) (p := s1.1 + 1) (by omega)
        have hst : ¬ s1.2.2.2.2.1 = 0 ∧ ¬ s1.2.2.2.2.1 = 1 := by unfold gSc at hs; omega
        have hl : (s1.2.2.2.2.2.length : Int) = 4 := by rw [ek]; exact elen
        have hG : gS (W.2.1 91) (W.1 90 1) s1 (some (q, s1.2.1, s1.2.2.1, s1.2.1.2.2.1 s1.2.2.2.1, 1, s1.2.2.2.1 :: s1.2.2.2.2.2)) := Or.inr (Or.inr (Or.inl ⟨Or.inl e40, Or.inr ⟨hst, Or.inl ⟨by omega, Or.inr ⟨by omega, q, hq', rfl⟩⟩⟩⟩))
        have hP6 := gP_1 hP hG
        have hI1 := (gI_p hI0 hP).1
        have hI6 := gI_s hI1 hG
        have fV : zFr [(90, 37)] [] V V' := by rw [eV]; exact zFr_F zFr_0 (by decide)
        have tV : zTp V' := by rw [eV]; exact zTp_n hw.2.1 (by omega)
        have aV : V'.1 90 37 = s1.1 + 1 := by rw [eV, zuF_1, if_pos ⟨rfl, rfl⟩, ea]
        have eb' : s1.2.1.2.2.1 s1.2.2.2.1 = b := by rw [et]; exact eb
        generalize es6 : ((q, s1.2.1, s1.2.2.1, s1.2.1.2.2.1 s1.2.2.2.1, 1, s1.2.2.2.1 :: s1.2.2.2.2.2) : gSt) = s6 at hG hP6 hI6
        have s6a : s6.1 = q := by rw [← es6]
        have s6t : s6.2.2.2.1 = b := by rw [← es6]; exact eb'
        have s6k : s6.2.2.2.2.2 = t :: s.2.2.2.2.2 := by rw [← es6, ← ek, ← et]
        have s6w : gW V' g s6 := by
          have z := gW_fr fV (by decide) (by decide) tV hw
          have y := hI6.1.2.1
          rw [← es6] at y ⊢
          exact ⟨z.1, z.2.1, z.2.2.1, z.2.2.2.1, y, z.2.2.2.2.2⟩
        have s6b : zBn V' (V'.1 90 37) s6.1 := by
          show xBs (V'.2.1 91) (V'.1 90 1) (V'.1 90 37) s6.1
          rw [zFr_r fV 91, zFr_f fV 90 1, e1.1, e1.2, aV, s6a]
          exact hq'
        have s6g : s6.2.2.2.2.1 = 1 := by rw [← es6]
        have s6p : s6.2.1 = s1.2.1 := by rw [← es6]
        have pre175 : gLp V' g b 5 s6 := ⟨s6w, hI6.1, s6t, by rw [s6k]; show ((s.2.2.2.2.2.length + 1 : Nat) : Int) = _; omega, by rw [s6g]; rfl, s6b, fun z => by omega⟩
        have e6 : V'.2.1 91 = W.2.1 91 ∧ V'.1 90 1 = W.1 90 1 := ⟨by rw [zFr_r fV 91]; exact e1.1, by rw [zFr_f fV 90 1]; exact e1.2⟩
        have B6 : gBs W V' g := gBs_f hB fV
        have t1 : 1 ≤ t ∧ t ≤ s1.2.1.2.1 := by
          have y := hI6.1.2.2.2.2.1
          rw [s6k, s6p] at y
          exact y.1.1
        have bn175 : ∀ (U : zW) (r : Int), gLq V' U g 5 r s6 → (0 ≤ U.1 90 37 ∧ U.1 90 37 ≤ 65536) ∨ 0 < r := by
          intro U r hr
          rcases hr.2.2 with ⟨_, s2, _, h2, _⟩ | h2
          · left; have := h2.2.1.1; have := h2.2.1.2.1; omega
          · right; exact h2.1
        have j175 : ∀ (U : zW) (r : Int), gLq V' U g 5 r s6 → 0 < r → ∀ U', zFr [(90, 37)] [] U U' → gJ5 W U' g u t b r s := by
          intro U r hr r0 U' hU'
          refine ⟨gBs_f (gBs_o B6 hr.1 hr.2.1) hU', Or.inl ?_⟩
          rcases hr.2.2 with h2 | h2
          · omega
          · rw [e6.1, e6.2] at h2
            exact ⟨h2.1, h2.2.1, gF_t hP6 h2.2.2⟩
        have h212 : ∀ (U : zW) (r : Int), gLq V' U g 5 r s6 → r ≤ 0 → ∀ (y : Int) (U' : zW), U' = zuF U 90 37 (U.1 90 37 + 1) → ∀ (K : Nat), 1000 * m + 1000 ≤ K → zwp jtb zsh n zm_MTrl4 po K (lGo ak_ZMTrl4 212) 212 [some (.inr (.inr (some (.inl 90)))), some (.inl g), some (.inl u), some (.inl op), some (.inl (t)), some (.inl (y)), some (.inl (x)), some (.inl (b))] [] U' := by
          intro U r hr r0 y U' eU K hK
          obtain ⟨_, s7, hP7, hw7, ea7, ek7, hE7⟩ := hr.2.2.resolve_right (fun z => by omega)
          rw [e6.1, e6.2] at hP7 hE7
          have hE7 := hE7.resolve_left (fun z => by have := z.1; omega)
          have hP7' := gP_t hP6 hP7
          have hx7 := xLk_i (X := W.2.1 91) (N := W.1 90 1) (p := s7.1) (by omega)
          obtain ⟨q7, hq7⟩ := xBs_x (X := W.2.1 91) (N := W.1 90 1) (p := s7.1 + 1) (by omega)
          have hG7 : gS (W.2.1 91) (W.1 90 1) s7 (some (q7, s7.2.1, s7.2.2.1, t, 4, s.2.2.2.2.2)) := Or.inr (Or.inr (Or.inl ⟨Or.inr hE7.2.1, Or.inr ⟨hE7.2.2, Or.inr ⟨by omega, Or.inr ⟨t, s.2.2.2.2.2, by rw [ek7, s6k], q7, hq7, rfl⟩⟩⟩⟩))
          have hI7 := (gI_p hI6.1 hP7)
          have hI8 := gI_s hI7.1 hG7
          have hP8 := gP_1 hP7' hG7
          have B7 := gBs_o B6 hr.1 hr.2.1
          have e7 := gBs_x B7
          have fU : zFr [(90, 37)] [] U U' := by rw [eU]; exact zFr_F zFr_0 (by decide)
          have tU : zTp U' := by rw [eU]; exact zTp_n hw7.2.1 (by omega)
          have aU : U'.1 90 37 = s7.1 + 1 := by rw [eU, zuF_1, if_pos ⟨rfl, rfl⟩, ea7]
          generalize es8 : ((q7, s7.2.1, s7.2.2.1, t, 4, s.2.2.2.2.2) : gSt) = s8 at hG7 hI8 hP8
          have et : s8.2.2.2.1 = t := by rw [← es8]
          have hw : gW U' g s8 := by
            have z := gW_fr fU (by decide) (by decide) tU hw7
            have y := hI8.1.2.1
            rw [← es8] at y ⊢
            exact ⟨z.1, z.2.1, z.2.2.1, z.2.2.2.1, y, z.2.2.2.2.2⟩
          have B8 := gBs_f B7 fU
          have e8 := gBs_x B8
          have eb8 : zBn U' (U'.1 90 37) s8.1 := by
            show xBs (U'.2.1 91) (U'.1 90 1) (U'.1 90 37) s8.1
            rw [e8.1, e8.2, aU, ← es8]
            exact hq7
          have g8 : s8.2.2.2.2.1 = 4 := by rw [← es8]
          have k8 : s8.2.2.2.2.2 = s.2.2.2.2.2 := by rw [← es8]
          have p8 : s8.2.1 = s7.2.1 := by rw [← es8]
          have pb : s8.2.1.2.2.1 t = b := by
            rw [p8, (hI7.2.2.2.2 t t1.1 (by rw [s6p]; exact t1.2)).1, s6p]
            exact eb
          have lt8 : s1.1 < s8.1 := by
            have a := hI6.2.2.1
            have b := hI7.2.1
            have c := hI8.2.2.1
            omega
          have j216 : ∀ (W3 : zW) (r : Int), (zFr [(90, 37)] [100, 101] U' W3 ∧ zFo g U' W3 ∧ ((r = 0 ∧ ∃ s2 : gSt, gP (U'.2.1 91) (U'.1 90 1) s8 s2 ∧ gW W3 g s2 ∧ W3.1 90 37 = s2.1 ∧ s2.2.2.2.1 = t ∧ s2.2.2.2.2.2 = s8.2.2.2.2.2 ∧ s2.2.1 = s8.2.1 ∧ ((s2.2.2.2.2.1 = s8.2.2.2.2.1 ∧ s2.1 = s8.1) ∨ s2.2.2.2.2.1 = (if s8.2.2.2.2.1 = 0 then 0 else 4)) ∧ ¬ gcR (xLk (U'.2.1 91) (U'.1 90 1) s2.1)) ∨ (0 < r ∧ r ≤ 1000000 ∧ gF (U'.2.1 91) (U'.1 90 1) s8))) → gJ5 W W3 g u t b r s := by
            intro W3 r h
            refine ⟨gBs_o B8 h.1 h.2.1, ?_⟩
            rcases h.2.2 with ⟨r0, s9, h1, h2, h3, h4, h5, h6, h7, h8⟩ | h2
            · rw [e8.1, e8.2] at h1 h8
              refine Or.inr ⟨r0, s9, gP_t hP8 h1, h2, h3, h4, h5.trans k8, Or.inr (Or.inr ?_), h8, by rw [h6]; exact pb, ntu⟩
              rcases h7 with z | z
              · exact z.1.trans g8
              · rw [z, g8]; rfl
            · rw [e8.1, e8.2] at h2
              exact Or.inl ⟨h2.1, h2.2.1, gF_t hP8 h2.2.2⟩
          have m216 : ∀ (W3 : zW) (r : Int), (zFr [(90, 37)] [100, 101] U' W3 ∧ zFo g U' W3 ∧ ((r = 0 ∧ ∃ s2 : gSt, gP (U'.2.1 91) (U'.1 90 1) s8 s2 ∧ gW W3 g s2 ∧ W3.1 90 37 = s2.1 ∧ s2.2.2.2.1 = t ∧ s2.2.2.2.2.2 = s8.2.2.2.2.2 ∧ s2.2.1 = s8.2.1 ∧ ((s2.2.2.2.2.1 = s8.2.2.2.2.1 ∧ s2.1 = s8.1) ∨ s2.2.2.2.2.1 = (if s8.2.2.2.2.1 = 0 then 0 else 4)) ∧ ¬ gcR (xLk (U'.2.1 91) (U'.1 90 1) s2.1)) ∨ (0 < r ∧ r ≤ 1000000 ∧ gF (U'.2.1 91) (U'.1 90 1) s8))) → r = 0 → W.1 90 1 - W3.1 90 37 < (m : Nat) := by
            intro W3 r h r0
            rcases h.2.2 with ⟨_, s9, h1, h2, h3, _⟩ | h2
            · rw [e8.1, e8.2] at h1
              have a := (gI_p hI8.1 h1).2.1
              have := hm y0
              omega
            · omega
          have eb := eb8
          have es2 := g8
          exact zp_MTrl4_212 (by omega) hn ⟨s8, ⟨hw, et, (by omega), eb⟩, fun r216 W216 hr216 => (ih113 _ W216 _ _ _ _ (j216 W216 r216 hr216) (fun z => m216 W216 r216 hr216 z) (by omega))⟩
        exact zp_MTrl4_168 (by omega) hn ⟨(by omega), ⟨s6, ⟨by omega, pre175⟩, fun r175 W175 hr175 => ⟨fun c183 => ⟨(by have := bn175 W175 r175 hr175; omega), ⟨fun c204 => (by first | (exfalso; omega) | exact h212 W175 r175 hr175 (by omega) _ _ rfl _ (by omega)), fun c204 => (by first | (exfalso; omega) | exact ih113 _ _ _ _ _ _ (j175 W175 r175 hr175 (by omega) _ (zFr_F (zFr_0 (Fs := [(90, 37)]) (Rs := [])) (by decide))) (fun z => by omega) (by omega))⟩⟩, fun c183 => ⟨fun c204 => (by first | (exfalso; omega) | exact h212 W175 r175 hr175 (by omega) _ _ rfl _ (by omega)), fun c204 => (by first | (exfalso; omega) | exact ih113 _ _ _ _ _ _ (j175 W175 r175 hr175 (by omega) _ (zFr_F (zFr_0 (Fs := [(90, 37)]) (Rs := [])) (by decide))) (fun z => by omega) (by omega))⟩⟩⟩⟩
      exact zp_MTrl4_113 (by omega) hn ⟨fun c115 => ⟨fun c226 => (by first | (exfalso; omega) | (exfalso; have := tpV V hJ (by omega); omega) | exact h3 _ V _ _ _ _ (j3 V hJ (by omega) (by omega)) (hm (by omega)) (by omega)), fun c226 => (b231 (by omega))⟩, fun c115 => ⟨(tq V hJ (by omega)), fun r119 hr119 => ⟨fun c124 => ⟨fun c226 => (by first | (exfalso; omega) | (exfalso; have := tpV V hJ (by omega); omega) | exact h3 _ V _ _ _ _ (j3 V hJ (by omega) (by omega)) (hm (by omega)) (by omega)), fun c226 => (b231 (by omega))⟩, fun c124 => ⟨fun c130 => ⟨(by have := tpV V hJ (by omega); omega), (by first | (exfalso; omega) | (exfalso; have := tpV V hJ (by omega); omega) | exact h168 _ rfl (by omega) (by omega) _ (by omega))⟩, fun c130 => ⟨(by have := tpV V hJ (by omega); omega), fun r139 hr139 => ⟨(by have := tpV V hJ (by omega); omega), ⟨fun c160 => (by first | (exfalso; omega) | (exfalso; have := tpV V hJ (by omega); omega) | exact h168 _ rfl (by omega) (by omega) _ (by omega)), fun c160 => ⟨fun c183 => ⟨(by have := tpV V hJ (by omega); omega), ⟨fun c204 => (by first | (exfalso; omega) | (exfalso; have := tpV V hJ (by omega); omega) | exact ih113 _ _ _ _ _ _ (j139 _ (zFr_F (zFr_F (zFr_0 (Fs := [(90, 37)]) (Rs := [])) (by decide)) (by decide)) (by omega) (by omega) r139 (by have := tpV V hJ (by omega); omega)) (fun z => by omega) (by omega)), fun c204 => (by first | (exfalso; omega) | (exfalso; have := tpV V hJ (by omega); omega) | exact ih113 _ _ _ _ _ _ (j139 _ (zFr_F (zFr_F (zFr_0 (Fs := [(90, 37)]) (Rs := [])) (by decide)) (by decide)) (by omega) (by omega) r139 (by have := tpV V hJ (by omega); omega)) (fun z => by omega) (by omega))⟩⟩, fun c183 => ⟨fun c204 => (by first | (exfalso; omega) | (exfalso; have := tpV V hJ (by omega); omega) | exact ih113 _ _ _ _ _ _ (j139 _ (zFr_F (zFr_F (zFr_0 (Fs := [(90, 37)]) (Rs := [])) (by decide)) (by decide)) (by omega) (by omega) r139 (by have := tpV V hJ (by omega); omega)) (fun z => by omega) (by omega)), fun c204 => (by first | (exfalso; omega) | (exfalso; have := tpV V hJ (by omega); omega) | exact ih113 _ _ _ _ _ _ (j139 _ (zFr_F (zFr_F (zFr_0 (Fs := [(90, 37)]) (Rs := [])) (by decide)) (by decide)) (by omega) (by omega) r139 (by have := tpV V hJ (by omega); omega)) (fun z => by omega) (by omega))⟩⟩⟩⟩⟩⟩⟩⟩⟩
  exact zp_MTrl4_0 (by omega) hn ((main 65537).1 _ W _ _ _ _ i0 (by have := hq.2.1.2.1.1; have := hq.2.1.2.1.2.1; omega) (by omega))
noncomputable def ak_ZMTrl3 : List jI := ak_ZMTrl6
theorem ao_ZMTrl3 : jokLG jtF lk_MT "ChessHouseModel$Texts" jcl jtb 8 prog_18_method_68_code 0 ak_ZMTrl3 = true := ao_ZMTrl6
noncomputable def zm_MTrl3 : zM := (some .int, { frames := 12, cells := 0, slots := 0, locals := 315 }, ([(275, 2570, 0), (318, 2647, 1), (278, 2574, 2), (96, 1933, 3), (321, 2655, 4), (324, 2659, 5), (327, 2710, 6), (330, 2639, 7), (287, 2588, 8), (333, 2643, 9)], []), [(y_MT_blanks, false, 1, 12, { frames := 0, cells := 0, slots := 0, locals := 0 }, zc_MTbl), (y_MT_resultHere, false, 1, 12, { frames := 1, cells := 0, slots := 0, locals := 23 }, zc_MTrsh), (y_MT_look, false, 1, 12, { frames := 0, cells := 0, slots := 0, locals := 0 }, zc_MTlook), (y_MT_place, false, 3, 12, { frames := 6, cells := 0, slots := 0, locals := 157 }, zc_MTplace), (y_MT_readMoveNumber, false, 1, 12, { frames := 1, cells := 0, slots := 0, locals := 21 }, zc_MTrmn), (y_MT_readMove, false, 3, 12, { frames := 8, cells := 0, slots := 0, locals := 210 }, zc_MTrmv), (y_MT_readMarks, false, 3, 12, { frames := 1, cells := 0, slots := 0, locals := 24 }, zc_MTrmk), (y_MT_readRemarks, false, 3, 12, { frames := 1, cells := 0, slots := 0, locals := 21 }, zc_MTrrm), (y_MT_fault, true, 2, 0, { frames := 0, cells := 0, slots := 0, locals := 0 }, zc_MTflt), (y_MT_readLine, false, 4, 12, { frames := 11, cells := 0, slots := 0, locals := 288 }, zc_MTrl4)], ak_ZMTrl3)
noncomputable def zc_MTrl3 (vals : List zv) (W : zW) (post : zPo) : Prop := ∃ g u op : Int, ∃ s : gSt, vals = [.inr (.inr (some (.inl 90))), .inl (g), .inl (u), .inl (op)] ∧ (op = 3 ∧ gLp W g u 3 s) ∧ ∀ r : Int, ∀ V : zW, (gLq W V g 3 r s) → post (some (.inl r)) V
set_option maxRecDepth 8000 in
theorem zp_MTrl3_0 {n K : Nat} {W : zW} {post : zPo} {g u op : Int} {u4 u5 u6 u7 : Option zv} (hK : 2 ≤ K) (hn : 142 ≤ n) (h : zwp jtb zsh n zm_MTrl3 post (K - 2) (lGo ak_ZMTrl3 3) 3 [some (.inr (.inr (some (.inl 90)))), some (.inl (g)), some (.inl (u)), some (.inl (op)), some (.inl (u)), u5, u6, u7] [] W) : zwp jtb zsh n zm_MTrl3 post K (lGo ak_ZMTrl3 0) 0 [some (.inr (.inr (some (.inl 90)))), some (.inl (g)), some (.inl (u)), some (.inl (op)), u4, u5, u6, u7] [] W := by
  obtain ⟨kk__, rfl⟩ : ∃ kk__, K = kk__ + 2 := ⟨K - 2, by omega⟩
  exact (show zwp jtb zsh n zm_MTrl3 post (kk__ + 0) (lGo ak_ZMTrl3 3) 3 [some (.inr (.inr (some (.inl 90)))), some (.inl (g)), some (.inl (u)), some (.inl (op)), some (.inl (u)), u5, u6, u7] [] W from h)
set_option maxRecDepth 8000 in
theorem zp_MTrl3_3 {n K : Nat} {V : zW} {post : zPo} {g u op t : Int} {u5 u6 u7 : Option zv} (hK : 13 ≤ K) (hn : 142 ≤ n) (h : (zTp V) ∧ ∀ W4 : zW, (zFr [(90, 37)] [] V W4 ∧ zTp W4 ∧ zBn V (V.1 90 37) (W4.1 90 37)) → (¬ op = 0 → (zTp W4) ∧ ∀ r22 : Int, (r22 = zLk W4 (W4.1 90 37)) → (¬ r22 = 41 → zwp jtb zsh n zm_MTrl3 post (K - 8) (lGo ak_ZMTrl3 38) 38 [some (.inr (.inr (some (.inl 90)))), some (.inl (g)), some (.inl (u)), some (.inl (op)), some (.inl (t)), u5, u6, u7] [] W4) ∧ (r22 = 41 → (t = u → zwp jtb zsh n zm_MTrl3 post (K - 11) (lGo ak_ZMTrl3 38) 38 [some (.inr (.inr (some (.inl 90)))), some (.inl (g)), some (.inl (u)), some (.inl (op)), some (.inl (t)), u5, u6, u7] [] W4) ∧ (¬ t = u → post (some (.inl (0))) W4))) ∧ (op = 0 → (zTp W4) ∧ ∀ r12 : Int, (zRh W4 (W4.1 90 37) r12) → (r12 < 0 → zwp jtb zsh n zm_MTrl3 post (K - 7) (lGo ak_ZMTrl3 38) 38 [some (.inr (.inr (some (.inl 90)))), some (.inl (g)), some (.inl (u)), some (.inl (op)), some (.inl (t)), u5, u6, u7] [] W4) ∧ (¬ r12 < 0 → post (some (.inl (0))) W4))) : zwp jtb zsh n zm_MTrl3 post K (lGo ak_ZMTrl3 3) 3 [some (.inr (.inr (some (.inl 90)))), some (.inl (g)), some (.inl (u)), some (.inl (op)), some (.inl (t)), u5, u6, u7] [] V := by
  obtain ⟨kk__, rfl⟩ : ∃ kk__, K = kk__ + 13 := ⟨K - 13, by omega⟩
  exact (show 3 = 3 ∧ false = false ∧ jin3 275 2570 0 zm_MTrl3.2.2.1.1 = true ∧ lRm zm_MTrl3.2.1 { frames := 0, cells := 0, slots := 0, locals := 0 } 1 = true ∧ Nat.ble 1 1 = true ∧ Nat.ble 0 8 = true ∧ 90 < n ∧ 12 = 12 ∧ Nat.ble 1000 12 = false ∧ zc_MTbl [.inr (.inr (some (.inl 90)))] V (fun vv__ WW__ => zwp jtb zsh n zm_MTrl3 post (kk__ + 11) (lGo ak_ZMTrl3 7) 7 [some (.inr (.inr (some (.inl 90)))), some (.inl (g)), some (.inl (u)), some (.inl (op)), some (.inl (t)), u5, u6, u7] (vv__.toList ++ []) WW__) from ⟨rfl, rfl, rfl, rfl, rfl, rfl, (Nat.lt_of_lt_of_le (by decide) hn), rfl, rfl, rfl, (h).1, fun W4 hr4 => (show (¬ op = 0 → 3 = 3 ∧ false = false ∧ jin3 278 2574 2 zm_MTrl3.2.2.1.1 = true ∧ lRm zm_MTrl3.2.1 { frames := 0, cells := 0, slots := 0, locals := 0 } 1 = true ∧ Nat.ble 1 1 = true ∧ Nat.ble 0 8 = true ∧ 90 < n ∧ 12 = 12 ∧ Nat.ble 1000 12 = false ∧ zc_MTlook [.inr (.inr (some (.inl 90)))] W4 (fun vv__ WW__ => zwp jtb zsh n zm_MTrl3 post (kk__ + 7) (lGo ak_ZMTrl3 25) 25 [some (.inr (.inr (some (.inl 90)))), some (.inl (g)), some (.inl (u)), some (.inl (op)), some (.inl (t)), u5, u6, u7] (vv__.toList ++ []) WW__)) ∧ (op = 0 → 3 = 3 ∧ false = false ∧ jin3 318 2647 1 zm_MTrl3.2.2.1.1 = true ∧ lRm zm_MTrl3.2.1 { frames := 1, cells := 0, slots := 0, locals := 23 } 2 = true ∧ Nat.ble 1 1 = true ∧ Nat.ble 0 8 = true ∧ 90 < n ∧ 12 = 12 ∧ Nat.ble 1000 12 = false ∧ zc_MTrsh [.inr (.inr (some (.inl 90)))] W4 (fun vv__ WW__ => zwp jtb zsh n zm_MTrl3 post (kk__ + 7) (lGo ak_ZMTrl3 15) 15 [some (.inr (.inr (some (.inl 90)))), some (.inl (g)), some (.inl (u)), some (.inl (op)), some (.inl (t)), u5, u6, u7] (vv__.toList ++ []) WW__)) from ⟨fun c8_3 => (have h := ((((h).2 W4 hr4)).1 c8_3); ⟨rfl, rfl, rfl, rfl, rfl, rfl, (Nat.lt_of_lt_of_le (by decide) hn), rfl, rfl, rfl, (h).1, fun r22 hr22 => (show (¬ r22 = 41 → zwp jtb zsh n zm_MTrl3 post (kk__ + 5) (lGo ak_ZMTrl3 38) 38 [some (.inr (.inr (some (.inl 90)))), some (.inl (g)), some (.inl (u)), some (.inl (op)), some (.inl (t)), u5, u6, u7] [] W4) ∧ (r22 = 41 → (t = u → zwp jtb zsh n zm_MTrl3 post (kk__ + 2) (lGo ak_ZMTrl3 38) 38 [some (.inr (.inr (some (.inl 90)))), some (.inl (g)), some (.inl (u)), some (.inl (op)), some (.inl (t)), u5, u6, u7] [] W4) ∧ (¬ t = u → 1 = 1 ∧ True ∧ post (some (.inl (0))) W4)) from ⟨fun c27_7 => ((((h).2 r22 hr22)).1 c27_7), fun c27_7 => (have h := ((((h).2 r22 hr22)).2 c27_7); ⟨fun c33_10 => ((h).1 c33_10), fun c33_10 => ⟨rfl, trivial, ((h).2 c33_10)⟩⟩)⟩)⟩), fun c8_3 => (have h := ((((h).2 W4 hr4)).2 c8_3); ⟨rfl, rfl, rfl, rfl, rfl, rfl, (Nat.lt_of_lt_of_le (by decide) hn), rfl, rfl, rfl, (h).1, fun r12 hr12 => (show (r12 < 0 → zwp jtb zsh n zm_MTrl3 post (kk__ + 6) (lGo ak_ZMTrl3 38) 38 [some (.inr (.inr (some (.inl 90)))), some (.inl (g)), some (.inl (u)), some (.inl (op)), some (.inl (t)), u5, u6, u7] [] W4) ∧ (¬ r12 < 0 → 1 = 1 ∧ True ∧ post (some (.inl (0))) W4) from ⟨fun c15_6 => ((((h).2 r12 hr12)).1 c15_6), fun c15_6 => (have h := ((((h).2 r12 hr12)).2 c15_6); ⟨rfl, trivial, h⟩)⟩)⟩)⟩)⟩)
set_option maxRecDepth 8000 in
theorem zp_MTrl3_38 {n K : Nat} {V : zW} {post : zPo} {g u op t : Int} {u5 u6 u7 : Option zv} (hK : 11 ≤ K) (hn : 142 ≤ n) (h : ((0 ≤ g ∧ g ≤ 1) ∧ (∃ N, (0 ≤ t ∧ t ≤ N ∧ N ≤ 300) ∧ xOk (zSt V g) (zro V 94 g) (zro V 95 g) N) ∧ zSb V g) ∧ ∀ W42 : zW, (zAt W42 (xPo (zSt V g) (zro V 94 g) (zro V 95 g) t) ∧ zFr [(90, 25), (90, 26), (90, 27), (90, 28), (90, 29), (90, 33)] [110, 111, 112, 113, 114] V W42) → (zTp W42) ∧ ∀ r46 : Int, ∀ W46 : zW, (zFr [(90, 37)] [] W42 W46 ∧ zTp W46 ∧ zRn W42 W46 (W42.1 90 37) r46 ∧ 0 ≤ r46 ∧ r46 ≤ 1000000) → (r46 ≤ 0 → zwp jtb zsh n zm_MTrl3 post (K - 9) (lGo ak_ZMTrl3 59) 59 [some (.inr (.inr (some (.inl 90)))), some (.inl (g)), some (.inl (u)), some (.inl (op)), some (.inl (t)), some (.inl (r46)), u6, u7] [] W46) ∧ (¬ r46 ≤ 0 → post (some (.inl (r46))) W46)) : zwp jtb zsh n zm_MTrl3 post K (lGo ak_ZMTrl3 38) 38 [some (.inr (.inr (some (.inl 90)))), some (.inl (g)), some (.inl (u)), some (.inl (op)), some (.inl (t)), u5, u6, u7] [] V := by
  obtain ⟨kk__, rfl⟩ : ∃ kk__, K = kk__ + 11 := ⟨K - 11, by omega⟩
  exact (show 3 = 3 ∧ false = false ∧ jin3 96 1933 3 zm_MTrl3.2.2.1.1 = true ∧ lRm zm_MTrl3.2.1 { frames := 6, cells := 0, slots := 0, locals := 157 } 5 = true ∧ Nat.ble 3 3 = true ∧ Nat.ble 0 8 = true ∧ 90 < n ∧ 12 = 12 ∧ Nat.ble 1000 12 = false ∧ zc_MTplace [.inr (.inr (some (.inl 90))), .inl (g), .inl (t)] V (fun vv__ WW__ => zwp jtb zsh n zm_MTrl3 post (kk__ + 7) (lGo ak_ZMTrl3 45) 45 [some (.inr (.inr (some (.inl 90)))), some (.inl (g)), some (.inl (u)), some (.inl (op)), some (.inl (t)), u5, u6, u7] (vv__.toList ++ []) WW__) from ⟨rfl, rfl, rfl, rfl, rfl, rfl, (Nat.lt_of_lt_of_le (by decide) hn), rfl, rfl, g, t, rfl, (h).1, fun W42 hr42 => (show 3 = 3 ∧ false = false ∧ jin3 321 2655 4 zm_MTrl3.2.2.1.1 = true ∧ lRm zm_MTrl3.2.1 { frames := 1, cells := 0, slots := 0, locals := 21 } 4 = true ∧ Nat.ble 1 1 = true ∧ Nat.ble 0 8 = true ∧ 90 < n ∧ 12 = 12 ∧ Nat.ble 1000 12 = false ∧ zc_MTrmn [.inr (.inr (some (.inl 90)))] W42 (fun vv__ WW__ => zwp jtb zsh n zm_MTrl3 post (kk__ + 5) (lGo ak_ZMTrl3 49) 49 [some (.inr (.inr (some (.inl 90)))), some (.inl (g)), some (.inl (u)), some (.inl (op)), some (.inl (t)), u5, u6, u7] (vv__.toList ++ []) WW__) from ⟨rfl, rfl, rfl, rfl, rfl, rfl, (Nat.lt_of_lt_of_le (by decide) hn), rfl, rfl, rfl, (((h).2 W42 hr42)).1, fun r46 W46 hr46 => (show (r46 ≤ 0 → zwp jtb zsh n zm_MTrl3 post (kk__ + 2) (lGo ak_ZMTrl3 59) 59 [some (.inr (.inr (some (.inl 90)))), some (.inl (g)), some (.inl (u)), some (.inl (op)), some (.inl (t)), some (.inl (r46)), u6, u7] [] W46) ∧ (¬ r46 ≤ 0 → 1 = 1 ∧ True ∧ post (some (.inl (r46))) W46) from (have h := ((((h).2 W42 hr42)).2 r46 W46 hr46); ⟨fun c53_8 => ((h).1 c53_8), fun c53_8 => ⟨rfl, trivial, ((h).2 c53_8)⟩⟩))⟩)⟩)
set_option maxRecDepth 8000 in
theorem zp_MTrl3_59 {n K : Nat} {V : zW} {post : zPo} {g u op t y : Int} {u6 u7 : Option zv} (hK : 11 ≤ K) (hn : 142 ≤ n) (h : ∃ s63 : gSt, (gW V g s63 ∧ s63.2.2.2.1 = t ∧ zAt V (gPo s63) ∧ trE s63.2.1.2.2.1 (xLd s63.2.1.2.2.2.2.1) t + (if s63.2.1.2.2.2.2.1 t = [] then 0 else 1) ≤ 6) ∧ ∀ r63 : Int, ∀ W63 : zW, (zFr [(90, 36), (90, 37)] [93, 94, 95, 96, 97, 98, 100, 110, 111, 112, 115] V W63 ∧ zFo g V W63 ∧ ((r63 < 0 ∧ -1000000 ≤ r63 ∧ gMv (V.2.1 91) (V.1 90 1) s63 (V.1 90 37) none) ∨ (0 ≤ r63 ∧ ∃ e m, xLt (xLk (V.2.1 91) (V.1 90 1) (V.1 90 37)) ∧ xWd (V.2.1 91) (V.1 90 1) (V.1 90 37) e ∧ zUn (gPo s63).1 (fun i => V.2.1 91 (V.1 90 37 + i)) (e - V.1 90 37) m ∧ ¬ gMb s63 m ∧ r63 = s63.2.1.2.1 + 1 ∧ W63.1 90 37 = e ∧ gW W63 g (e, xApp s63.2.1 t m, zuI s63.2.2.1 (s63.2.1.2.1 + 1) 0, s63.2.1.2.1 + 1, 2, s63.2.2.2.2.2)))) → (0 ≤ r63 → zwp jtb zsh n zm_MTrl3 post (K - 11) (lGo ak_ZMTrl3 85) 85 [some (.inr (.inr (some (.inl 90)))), some (.inl (g)), some (.inl (u)), some (.inl (op)), some (.inl (r63)), some (.inl (y)), some (.inl (r63)), some (.inl (t))] [] W63) ∧ (¬ 0 ≤ r63 → (-2147483648 ≤ -r63 ∧ -r63 ≤ 2147483647) ∧ post (some (.inl (-r63))) W63)) : zwp jtb zsh n zm_MTrl3 post K (lGo ak_ZMTrl3 59) 59 [some (.inr (.inr (some (.inl 90)))), some (.inl (g)), some (.inl (u)), some (.inl (op)), some (.inl (t)), some (.inl (y)), u6, u7] [] V := by
  obtain ⟨kk__, rfl⟩ : ∃ kk__, K = kk__ + 11 := ⟨K - 11, by omega⟩
  exact (show 3 = 3 ∧ false = false ∧ jin3 324 2659 5 zm_MTrl3.2.2.1.1 = true ∧ lRm zm_MTrl3.2.1 { frames := 8, cells := 0, slots := 0, locals := 210 } 5 = true ∧ Nat.ble 3 3 = true ∧ Nat.ble 0 8 = true ∧ 90 < n ∧ 12 = 12 ∧ Nat.ble 1000 12 = false ∧ zc_MTrmv [.inr (.inr (some (.inl 90))), .inl (g), .inl (t)] V (fun vv__ WW__ => zwp jtb zsh n zm_MTrl3 post (kk__ + 7) (lGo ak_ZMTrl3 66) 66 [some (.inr (.inr (some (.inl 90)))), some (.inl (g)), some (.inl (u)), some (.inl (op)), some (.inl (t)), some (.inl (y)), u6, u7] (vv__.toList ++ []) WW__) from (Exists.elim (h) (fun s63 gh63 => ⟨rfl, rfl, rfl, rfl, rfl, rfl, (Nat.lt_of_lt_of_le (by decide) hn), rfl, rfl, g, t, s63, rfl, (gh63).1, fun r63 W63 hr63 => (show (0 ≤ r63 → zwp jtb zsh n zm_MTrl3 post (kk__ + 0) (lGo ak_ZMTrl3 85) 85 [some (.inr (.inr (some (.inl 90)))), some (.inl (g)), some (.inl (u)), some (.inl (op)), some (.inl (r63)), some (.inl (y)), some (.inl (r63)), some (.inl (t))] [] W63) ∧ (¬ 0 ≤ r63 → (-2147483648 ≤ -r63 ∧ -r63 ≤ 2147483647) ∧ 1 = 1 ∧ True ∧ post (some (.inl (-r63))) W63) from ⟨fun c70_6 => ((((gh63).2 r63 W63 hr63)).1 c70_6), fun c70_6 => (have h := ((((gh63).2 r63 W63 hr63)).2 c70_6); ⟨(h).1, ⟨rfl, trivial, (h).2⟩⟩)⟩)⟩)))
set_option maxRecDepth 8000 in
theorem zp_MTrl3_85 {n K : Nat} {V : zW} {post : zPo} {g u op t y x b : Int}  (hK : 10 ≤ K) (hn : 142 ≤ n) (h : ∃ s89 : gSt, (gW V g s89 ∧ s89.2.2.2.1 = t ∧ s89.2.2.2.2.1 = 2 ∧ s89.2.1.2.2.2.2.2 t = 0 ∧ zBn V (V.1 90 37) s89.1) ∧ ∀ r89 : Int, ∀ W89 : zW, (zFr [(90, 37)] [98, 99] V W89 ∧ zFo g V W89 ∧ ((r89 = 0 ∧ ∃ s2 : gSt, gP (V.2.1 91) (V.1 90 1) s89 s2 ∧ gW W89 g s2 ∧ W89.1 90 37 = s2.1 ∧ s2.2.2.2.1 = t ∧ s2.2.2.2.2.2 = s89.2.2.2.2.2 ∧ ((s2.2.2.2.2.1 = 2 ∧ ¬ gcM (xLk (V.2.1 91) (V.1 90 1) s2.1)) ∨ (s2.2.2.2.2.1 = 3 ∧ ¬ xLk (V.2.1 91) (V.1 90 1) s2.1 = 36))) ∨ (0 < r89 ∧ r89 ≤ 1000000 ∧ gF (V.2.1 91) (V.1 90 1) s89))) → (r89 ≤ 0 → zwp jtb zsh n zm_MTrl3 post (K - 7) (lGo ak_ZMTrl3 104) 104 [some (.inr (.inr (some (.inl 90)))), some (.inl (g)), some (.inl (u)), some (.inl (op)), some (.inl (t)), some (.inl (r89)), some (.inl (x)), some (.inl (b))] [] W89) ∧ (¬ r89 ≤ 0 → zwp jtb zsh n zm_MTrl3 post (K - 10) (lGo ak_ZMTrl3 113) 113 [some (.inr (.inr (some (.inl 90)))), some (.inl (g)), some (.inl (u)), some (.inl (op)), some (.inl (t)), some (.inl (r89)), some (.inl (x)), some (.inl (b))] [] W89)) : zwp jtb zsh n zm_MTrl3 post K (lGo ak_ZMTrl3 85) 85 [some (.inr (.inr (some (.inl 90)))), some (.inl (g)), some (.inl (u)), some (.inl (op)), some (.inl (t)), some (.inl (y)), some (.inl (x)), some (.inl (b))] [] V := by
  obtain ⟨kk__, rfl⟩ : ∃ kk__, K = kk__ + 10 := ⟨K - 10, by omega⟩
  exact (show 3 = 3 ∧ false = false ∧ jin3 327 2710 6 zm_MTrl3.2.2.1.1 = true ∧ lRm zm_MTrl3.2.1 { frames := 1, cells := 0, slots := 0, locals := 24 } 6 = true ∧ Nat.ble 3 3 = true ∧ Nat.ble 0 8 = true ∧ 90 < n ∧ 12 = 12 ∧ Nat.ble 1000 12 = false ∧ zc_MTrmk [.inr (.inr (some (.inl 90))), .inl (g), .inl (t)] V (fun vv__ WW__ => zwp jtb zsh n zm_MTrl3 post (kk__ + 6) (lGo ak_ZMTrl3 92) 92 [some (.inr (.inr (some (.inl 90)))), some (.inl (g)), some (.inl (u)), some (.inl (op)), some (.inl (t)), some (.inl (y)), some (.inl (x)), some (.inl (b))] (vv__.toList ++ []) WW__) from (Exists.elim (h) (fun s89 gh89 => ⟨rfl, rfl, rfl, rfl, rfl, rfl, (Nat.lt_of_lt_of_le (by decide) hn), rfl, rfl, g, t, s89, rfl, (gh89).1, fun r89 W89 hr89 => (show (r89 ≤ 0 → zwp jtb zsh n zm_MTrl3 post (kk__ + 3) (lGo ak_ZMTrl3 104) 104 [some (.inr (.inr (some (.inl 90)))), some (.inl (g)), some (.inl (u)), some (.inl (op)), some (.inl (t)), some (.inl (r89)), some (.inl (x)), some (.inl (b))] [] W89) ∧ (¬ r89 ≤ 0 → zwp jtb zsh n zm_MTrl3 post (kk__ + 0) (lGo ak_ZMTrl3 113) 113 [some (.inr (.inr (some (.inl 90)))), some (.inl (g)), some (.inl (u)), some (.inl (op)), some (.inl (t)), some (.inl (r89)), some (.inl (x)), some (.inl (b))] [] W89) from ⟨fun c96_6 => ((((gh89).2 r89 W89 hr89)).1 c96_6), fun c96_6 => ((((gh89).2 r89 W89 hr89)).2 c96_6)⟩)⟩)))
set_option maxRecDepth 8000 in
theorem zp_MTrl3_104 {n K : Nat} {V : zW} {post : zPo} {g u op t y x b : Int}  (hK : 5 ≤ K) (hn : 142 ≤ n) (h : ∃ s108 : gSt, (gW V g s108 ∧ s108.2.2.2.1 = t ∧ ¬ s108.2.2.2.2.1 = 1 ∧ zBn V (V.1 90 37) s108.1) ∧ ∀ r108 : Int, ∀ W108 : zW, (zFr [(90, 37)] [100, 101] V W108 ∧ zFo g V W108 ∧ ((r108 = 0 ∧ ∃ s2 : gSt, gP (V.2.1 91) (V.1 90 1) s108 s2 ∧ gW W108 g s2 ∧ W108.1 90 37 = s2.1 ∧ s2.2.2.2.1 = t ∧ s2.2.2.2.2.2 = s108.2.2.2.2.2 ∧ s2.2.1 = s108.2.1 ∧ ((s2.2.2.2.2.1 = s108.2.2.2.2.1 ∧ s2.1 = s108.1) ∨ s2.2.2.2.2.1 = (if s108.2.2.2.2.1 = 0 then 0 else 4)) ∧ ¬ gcR (xLk (V.2.1 91) (V.1 90 1) s2.1)) ∨ (0 < r108 ∧ r108 ≤ 1000000 ∧ gF (V.2.1 91) (V.1 90 1) s108))) → zwp jtb zsh n zm_MTrl3 post (K - 5) (lGo ak_ZMTrl3 113) 113 [some (.inr (.inr (some (.inl 90)))), some (.inl (g)), some (.inl (u)), some (.inl (op)), some (.inl (t)), some (.inl (r108)), some (.inl (x)), some (.inl (b))] [] W108) : zwp jtb zsh n zm_MTrl3 post K (lGo ak_ZMTrl3 104) 104 [some (.inr (.inr (some (.inl 90)))), some (.inl (g)), some (.inl (u)), some (.inl (op)), some (.inl (t)), some (.inl (y)), some (.inl (x)), some (.inl (b))] [] V := by
  obtain ⟨kk__, rfl⟩ : ∃ kk__, K = kk__ + 5 := ⟨K - 5, by omega⟩
  exact (show 3 = 3 ∧ false = false ∧ jin3 330 2639 7 zm_MTrl3.2.2.1.1 = true ∧ lRm zm_MTrl3.2.1 { frames := 1, cells := 0, slots := 0, locals := 21 } 11 = true ∧ Nat.ble 3 3 = true ∧ Nat.ble 0 8 = true ∧ 90 < n ∧ 12 = 12 ∧ Nat.ble 1000 12 = false ∧ zc_MTrrm [.inr (.inr (some (.inl 90))), .inl (g), .inl (t)] V (fun vv__ WW__ => zwp jtb zsh n zm_MTrl3 post (kk__ + 1) (lGo ak_ZMTrl3 111) 111 [some (.inr (.inr (some (.inl 90)))), some (.inl (g)), some (.inl (u)), some (.inl (op)), some (.inl (t)), some (.inl (y)), some (.inl (x)), some (.inl (b))] (vv__.toList ++ []) WW__) from (Exists.elim (h) (fun s108 gh108 => ⟨rfl, rfl, rfl, rfl, rfl, rfl, (Nat.lt_of_lt_of_le (by decide) hn), rfl, rfl, g, t, s108, rfl, (gh108).1, fun r108 W108 hr108 => (show zwp jtb zsh n zm_MTrl3 post (kk__ + 0) (lGo ak_ZMTrl3 113) 113 [some (.inr (.inr (some (.inl 90)))), some (.inl (g)), some (.inl (u)), some (.inl (op)), some (.inl (t)), some (.inl (r108)), some (.inl (x)), some (.inl (b))] [] W108 from ((gh108).2 r108 W108 hr108))⟩)))
set_option maxRecDepth 8000 in
theorem zp_MTrl3_113 {n K : Nat} {V : zW} {post : zPo} {g u op t y x b : Int}  (hK : 40 ≤ K) (hn : 142 ≤ n) (h : (¬ y = 0 → (y ≤ 0 → zwp jtb zsh n zm_MTrl3 post (K - 5) (lGo ak_ZMTrl3 3) 3 [some (.inr (.inr (some (.inl 90)))), some (.inl (g)), some (.inl (u)), some (.inl (op)), some (.inl (t)), some (.inl (y)), some (.inl (x)), some (.inl (b))] [] V) ∧ (¬ y ≤ 0 → post (some (.inl (y))) V)) ∧ (y = 0 → (zTp V) ∧ ∀ r119 : Int, (r119 = zLk V (V.1 90 37)) → (¬ r119 = 40 → (y ≤ 0 → zwp jtb zsh n zm_MTrl3 post (K - 9) (lGo ak_ZMTrl3 3) 3 [some (.inr (.inr (some (.inl 90)))), some (.inl (g)), some (.inl (u)), some (.inl (op)), some (.inl (t)), some (.inl (y)), some (.inl (x)), some (.inl (b))] [] V) ∧ (¬ y ≤ 0 → post (some (.inl (y))) V)) ∧ (r119 = 40 → (¬ op = 6 → (-2147483648 ≤ (V.1 90 37) + 1 ∧ (V.1 90 37) + 1 ≤ 2147483647) ∧ zwp jtb zsh n zm_MTrl3 post (K - 19) (lGo ak_ZMTrl3 168) 168 [some (.inr (.inr (some (.inl 90)))), some (.inl (g)), some (.inl (u)), some (.inl (op)), some (.inl (t)), some (.inl (0)), some (.inl (x)), some (.inl (b))] [] (zuF V 90 37 ((V.1 90 37) + 1))) ∧ (op = 6 → ((1 ≤ (8 : Int) ∧ (8 : Int) ≤ 9) ∧ 0 ≤ (V.1 90 37) ∧ (V.1 90 37) ≤ 65536) ∧ ∀ r139 : Int, (r139 = 100000 * (8 : Int) + (V.1 90 37)) → (-2147483648 ≤ (V.1 90 37) + 1 ∧ (V.1 90 37) + 1 ≤ 2147483647) ∧ (r139 ≤ 0 → zwp jtb zsh n zm_MTrl3 post (K - 23) (lGo ak_ZMTrl3 168) 168 [some (.inr (.inr (some (.inl 90)))), some (.inl (g)), some (.inl (u)), some (.inl (op)), some (.inl (t)), some (.inl (r139)), some (.inl (x)), some (.inl (b))] [] (zuF V 90 37 ((V.1 90 37) + 1))) ∧ (¬ r139 ≤ 0 → (r139 ≤ 0 → (-2147483648 ≤ ((V.1 90 37) + 1) + 1 ∧ ((V.1 90 37) + 1) + 1 ≤ 2147483647) ∧ (r139 ≤ 0 → zwp jtb zsh n zm_MTrl3 post (K - 36) (lGo ak_ZMTrl3 212) 212 [some (.inr (.inr (some (.inl 90)))), some (.inl (g)), some (.inl (u)), some (.inl (op)), some (.inl (t)), some (.inl (r139)), some (.inl (x)), some (.inl (b))] [] (zuF (zuF V 90 37 ((V.1 90 37) + 1)) 90 37 (((V.1 90 37) + 1) + 1))) ∧ (¬ r139 ≤ 0 → zwp jtb zsh n zm_MTrl3 post (K - 40) (lGo ak_ZMTrl3 113) 113 [some (.inr (.inr (some (.inl 90)))), some (.inl (g)), some (.inl (u)), some (.inl (op)), some (.inl (t)), some (.inl (r139)), some (.inl (x)), some (.inl (b))] [] (zuF (zuF V 90 37 ((V.1 90 37) + 1)) 90 37 (((V.1 90 37) + 1) + 1)))) ∧ (¬ r139 ≤ 0 → (r139 ≤ 0 → zwp jtb zsh n zm_MTrl3 post (K - 35) (lGo ak_ZMTrl3 212) 212 [some (.inr (.inr (some (.inl 90)))), some (.inl (g)), some (.inl (u)), some (.inl (op)), some (.inl (t)), some (.inl (r139)), some (.inl (x)), some (.inl (b))] [] (zuF (zuF V 90 37 ((V.1 90 37) + 1)) 90 37 ((V.1 90 37) + 1))) ∧ (¬ r139 ≤ 0 → zwp jtb zsh n zm_MTrl3 post (K - 39) (lGo ak_ZMTrl3 113) 113 [some (.inr (.inr (some (.inl 90)))), some (.inl (g)), some (.inl (u)), some (.inl (op)), some (.inl (t)), some (.inl (r139)), some (.inl (x)), some (.inl (b))] [] (zuF (zuF V 90 37 ((V.1 90 37) + 1)) 90 37 ((V.1 90 37) + 1))))))))) : zwp jtb zsh n zm_MTrl3 post K (lGo ak_ZMTrl3 113) 113 [some (.inr (.inr (some (.inl 90)))), some (.inl (g)), some (.inl (u)), some (.inl (op)), some (.inl (t)), some (.inl (y)), some (.inl (x)), some (.inl (b))] [] V := by
  obtain ⟨kk__, rfl⟩ : ∃ kk__, K = kk__ + 40 := ⟨K - 40, by omega⟩
  exact (show (¬ y = 0 → (y ≤ 0 → zwp jtb zsh n zm_MTrl3 post (kk__ + 35) (lGo ak_ZMTrl3 3) 3 [some (.inr (.inr (some (.inl 90)))), some (.inl (g)), some (.inl (u)), some (.inl (op)), some (.inl (t)), some (.inl (y)), some (.inl (x)), some (.inl (b))] [] V) ∧ (¬ y ≤ 0 → 1 = 1 ∧ True ∧ post (some (.inl (y))) V)) ∧ (y = 0 → 3 = 3 ∧ false = false ∧ jin3 278 2574 2 zm_MTrl3.2.2.1.1 = true ∧ lRm zm_MTrl3.2.1 { frames := 0, cells := 0, slots := 0, locals := 0 } 1 = true ∧ Nat.ble 1 1 = true ∧ Nat.ble 0 8 = true ∧ 90 < n ∧ 12 = 12 ∧ Nat.ble 1000 12 = false ∧ zc_MTlook [.inr (.inr (some (.inl 90)))] V (fun vv__ WW__ => zwp jtb zsh n zm_MTrl3 post (kk__ + 36) (lGo ak_ZMTrl3 122) 122 [some (.inr (.inr (some (.inl 90)))), some (.inl (g)), some (.inl (u)), some (.inl (op)), some (.inl (t)), some (.inl (y)), some (.inl (x)), some (.inl (b))] (vv__.toList ++ []) WW__)) from ⟨fun c115_1 => ⟨fun c226_3 => ((((h).1 c115_1)).1 c226_3), fun c226_3 => (have h := ((((h).1 c115_1)).2 c226_3); ⟨rfl, trivial, h⟩)⟩, fun c115_1 => ⟨rfl, rfl, rfl, rfl, rfl, rfl, (Nat.lt_of_lt_of_le (by decide) hn), rfl, rfl, rfl, (((h).2 c115_1)).1, fun r119 hr119 => (show (¬ r119 = 40 → (y ≤ 0 → zwp jtb zsh n zm_MTrl3 post (kk__ + 31) (lGo ak_ZMTrl3 3) 3 [some (.inr (.inr (some (.inl 90)))), some (.inl (g)), some (.inl (u)), some (.inl (op)), some (.inl (t)), some (.inl (y)), some (.inl (x)), some (.inl (b))] [] V) ∧ (¬ y ≤ 0 → 1 = 1 ∧ True ∧ post (some (.inl (y))) V)) ∧ (r119 = 40 → (¬ op = 6 → 90 < n ∧ 12 = 12 ∧ (-2147483648 ≤ (V.1 90 37) + 1 ∧ (V.1 90 37) + 1 ≤ 2147483647) ∧ 90 < n ∧ 12 = 12 ∧ (some 0 : Option Nat) = some 0 ∧ ((0 : Nat) = 0 ∨ ((0 : Nat) = 1 ∧ (((V.1 90 37) + 1) = 0 ∨ ((V.1 90 37) + 1) = 1))) ∧ ((0 : Int) ≤ 0 → zwp jtb zsh n zm_MTrl3 post (kk__ + 21) (lGo ak_ZMTrl3 168) 168 [some (.inr (.inr (some (.inl 90)))), some (.inl (g)), some (.inl (u)), some (.inl (op)), some (.inl (t)), some (.inl (0)), some (.inl (x)), some (.inl (b))] [] (zuF V 90 37 ((V.1 90 37) + 1))) ∧ (¬ (0 : Int) ≤ 0 → zwp jtb zsh n zm_MTrl3 post (kk__ + 21) (lGo ak_ZMTrl3 163) 163 [some (.inr (.inr (some (.inl 90)))), some (.inl (g)), some (.inl (u)), some (.inl (op)), some (.inl (t)), some (.inl (0)), some (.inl (x)), some (.inl (b))] [] (zuF V 90 37 ((V.1 90 37) + 1)))) ∧ (op = 6 → 90 < n ∧ 12 = 12 ∧ 3 = 3 ∧ true = true ∧ jin3 287 2588 8 zm_MTrl3.2.2.1.1 = true ∧ lRm zm_MTrl3.2.1 { frames := 0, cells := 0, slots := 0, locals := 0 } 2 = true ∧ Nat.ble 2 2 = true ∧ Nat.ble 0 8 = true ∧ zc_MTflt [.inl (8), .inl (V.1 90 37)] V (fun vv__ WW__ => zwp jtb zsh n zm_MTrl3 post (kk__ + 27) (lGo ak_ZMTrl3 142) 142 [some (.inr (.inr (some (.inl 90)))), some (.inl (g)), some (.inl (u)), some (.inl (op)), some (.inl (t)), some (.inl (y)), some (.inl (x)), some (.inl (b))] (vv__.toList ++ []) WW__))) from (have h := ((((h).2 c115_1)).2 r119 hr119); ⟨fun c124_5 => ⟨fun c226_7 => ((((h).1 c124_5)).1 c226_7), fun c226_7 => (have h := ((((h).1 c124_5)).2 c226_7); ⟨rfl, trivial, h⟩)⟩, fun c124_5 => ⟨fun c130_8 => (have h := ((((h).2 c124_5)).1 c130_8); ⟨(Nat.lt_of_lt_of_le (by decide) hn), rfl, ⟨(h).1, ⟨(Nat.lt_of_lt_of_le (by decide) hn), rfl, rfl, (Or.inl rfl), ⟨fun _ => (h).2, fun hc18 => absurd hc18 (by decide)⟩⟩⟩⟩), fun c130_8 => (have h := ((((h).2 c124_5)).2 c130_8); ⟨(Nat.lt_of_lt_of_le (by decide) hn), rfl, ⟨rfl, rfl, rfl, rfl, rfl, rfl, 8, V.1 90 37, rfl, (h).1, fun r139 hr139 => (show 90 < n ∧ 12 = 12 ∧ (-2147483648 ≤ (V.1 90 37) + 1 ∧ (V.1 90 37) + 1 ≤ 2147483647) ∧ 90 < n ∧ 12 = 12 ∧ (some 0 : Option Nat) = some 0 ∧ ((0 : Nat) = 0 ∨ ((0 : Nat) = 1 ∧ (((V.1 90 37) + 1) = 0 ∨ ((V.1 90 37) + 1) = 1))) ∧ (r139 ≤ 0 → zwp jtb zsh n zm_MTrl3 post (kk__ + 17) (lGo ak_ZMTrl3 168) 168 [some (.inr (.inr (some (.inl 90)))), some (.inl (g)), some (.inl (u)), some (.inl (op)), some (.inl (t)), some (.inl (r139)), some (.inl (x)), some (.inl (b))] [] (zuF V 90 37 ((V.1 90 37) + 1))) ∧ (¬ r139 ≤ 0 → (r139 ≤ 0 → 90 < n ∧ 12 = 12 ∧ (-2147483648 ≤ ((V.1 90 37) + 1) + 1 ∧ ((V.1 90 37) + 1) + 1 ≤ 2147483647) ∧ 90 < n ∧ 12 = 12 ∧ (some 0 : Option Nat) = some 0 ∧ ((0 : Nat) = 0 ∨ ((0 : Nat) = 1 ∧ ((((V.1 90 37) + 1) + 1) = 0 ∨ (((V.1 90 37) + 1) + 1) = 1))) ∧ (r139 ≤ 0 → zwp jtb zsh n zm_MTrl3 post (kk__ + 4) (lGo ak_ZMTrl3 212) 212 [some (.inr (.inr (some (.inl 90)))), some (.inl (g)), some (.inl (u)), some (.inl (op)), some (.inl (t)), some (.inl (r139)), some (.inl (x)), some (.inl (b))] [] (zuF (zuF V 90 37 ((V.1 90 37) + 1)) 90 37 (((V.1 90 37) + 1) + 1))) ∧ (¬ r139 ≤ 0 → zwp jtb zsh n zm_MTrl3 post (kk__ + 0) (lGo ak_ZMTrl3 113) 113 [some (.inr (.inr (some (.inl 90)))), some (.inl (g)), some (.inl (u)), some (.inl (op)), some (.inl (t)), some (.inl (r139)), some (.inl (x)), some (.inl (b))] [] (zuF (zuF V 90 37 ((V.1 90 37) + 1)) 90 37 (((V.1 90 37) + 1) + 1)))) ∧ (¬ r139 ≤ 0 → 90 < n ∧ 12 = 12 ∧ 90 < n ∧ 12 = 12 ∧ (some 0 : Option Nat) = some 0 ∧ ((0 : Nat) = 0 ∨ ((0 : Nat) = 1 ∧ (((V.1 90 37) + 1) = 0 ∨ ((V.1 90 37) + 1) = 1))) ∧ (r139 ≤ 0 → zwp jtb zsh n zm_MTrl3 post (kk__ + 5) (lGo ak_ZMTrl3 212) 212 [some (.inr (.inr (some (.inl 90)))), some (.inl (g)), some (.inl (u)), some (.inl (op)), some (.inl (t)), some (.inl (r139)), some (.inl (x)), some (.inl (b))] [] (zuF (zuF V 90 37 ((V.1 90 37) + 1)) 90 37 ((V.1 90 37) + 1))) ∧ (¬ r139 ≤ 0 → zwp jtb zsh n zm_MTrl3 post (kk__ + 1) (lGo ak_ZMTrl3 113) 113 [some (.inr (.inr (some (.inl 90)))), some (.inl (g)), some (.inl (u)), some (.inl (op)), some (.inl (t)), some (.inl (r139)), some (.inl (x)), some (.inl (b))] [] (zuF (zuF V 90 37 ((V.1 90 37) + 1)) 90 37 ((V.1 90 37) + 1))))) from ⟨(Nat.lt_of_lt_of_le (by decide) hn), rfl, ⟨(((h).2 r139 hr139)).1, ⟨(Nat.lt_of_lt_of_le (by decide) hn), rfl, rfl, (Or.inl rfl), ⟨fun c160_22 => (((((h).2 r139 hr139)).2).1 c160_22), fun c160_22 => (have h := (((((h).2 r139 hr139)).2).2 c160_22); ⟨fun c183_28 => ⟨(Nat.lt_of_lt_of_le (by decide) hn), rfl, ⟨(((h).1 c183_28)).1, ⟨(Nat.lt_of_lt_of_le (by decide) hn), rfl, rfl, (Or.inl rfl), ⟨fun c204_35 => (((((h).1 c183_28)).2).1 c204_35), fun c204_35 => (((((h).1 c183_28)).2).2 c204_35)⟩⟩⟩⟩, fun c183_28 => ⟨(Nat.lt_of_lt_of_le (by decide) hn), rfl, ⟨(Nat.lt_of_lt_of_le (by decide) hn), rfl, rfl, (Or.inl rfl), ⟨fun c204_34 => ((((h).2 c183_28)).1 c204_34), fun c204_34 => ((((h).2 c183_28)).2 c204_34)⟩⟩⟩⟩)⟩⟩⟩⟩)⟩⟩)⟩⟩))⟩⟩)
set_option maxRecDepth 8000 in
theorem zp_MTrl3_168 {n K : Nat} {V : zW} {post : zPo} {g u op t y x b : Int}  (hK : 22 ≤ K) (hn : 142 ≤ n) (h : (-2147483648 ≤ op + 1 ∧ op + 1 ≤ 2147483647) ∧ ∃ s175 : gSt, ((op + 1) = 4 ∧ gLp V g b 4 s175) ∧ ∀ r175 : Int, ∀ W175 : zW, (gLq V W175 g 4 r175 s175) → (r175 ≤ 0 → (-2147483648 ≤ (W175.1 90 37) + 1 ∧ (W175.1 90 37) + 1 ≤ 2147483647) ∧ (r175 ≤ 0 → zwp jtb zsh n zm_MTrl3 post (K - 18) (lGo ak_ZMTrl3 212) 212 [some (.inr (.inr (some (.inl 90)))), some (.inl (g)), some (.inl (u)), some (.inl (op)), some (.inl (t)), some (.inl (r175)), some (.inl (x)), some (.inl (b))] [] (zuF W175 90 37 ((W175.1 90 37) + 1))) ∧ (¬ r175 ≤ 0 → zwp jtb zsh n zm_MTrl3 post (K - 22) (lGo ak_ZMTrl3 113) 113 [some (.inr (.inr (some (.inl 90)))), some (.inl (g)), some (.inl (u)), some (.inl (op)), some (.inl (t)), some (.inl (r175)), some (.inl (x)), some (.inl (b))] [] (zuF W175 90 37 ((W175.1 90 37) + 1)))) ∧ (¬ r175 ≤ 0 → (r175 ≤ 0 → zwp jtb zsh n zm_MTrl3 post (K - 17) (lGo ak_ZMTrl3 212) 212 [some (.inr (.inr (some (.inl 90)))), some (.inl (g)), some (.inl (u)), some (.inl (op)), some (.inl (t)), some (.inl (r175)), some (.inl (x)), some (.inl (b))] [] (zuF W175 90 37 (W175.1 90 37))) ∧ (¬ r175 ≤ 0 → zwp jtb zsh n zm_MTrl3 post (K - 21) (lGo ak_ZMTrl3 113) 113 [some (.inr (.inr (some (.inl 90)))), some (.inl (g)), some (.inl (u)), some (.inl (op)), some (.inl (t)), some (.inl (r175)), some (.inl (x)), some (.inl (b))] [] (zuF W175 90 37 (W175.1 90 37))))) : zwp jtb zsh n zm_MTrl3 post K (lGo ak_ZMTrl3 168) 168 [some (.inr (.inr (some (.inl 90)))), some (.inl (g)), some (.inl (u)), some (.inl (op)), some (.inl (t)), some (.inl (y)), some (.inl (x)), some (.inl (b))] [] V := by
  obtain ⟨kk__, rfl⟩ : ∃ kk__, K = kk__ + 22 := ⟨K - 22, by omega⟩
  exact (show (-2147483648 ≤ op + 1 ∧ op + 1 ≤ 2147483647) ∧ 3 = 3 ∧ false = false ∧ jin3 333 2643 9 zm_MTrl3.2.2.1.1 = true ∧ lRm zm_MTrl3.2.1 { frames := 11, cells := 0, slots := 0, locals := 288 } 8 = true ∧ Nat.ble 4 4 = true ∧ Nat.ble 0 8 = true ∧ 90 < n ∧ 12 = 12 ∧ Nat.ble 1000 12 = false ∧ zc_MTrl4 [.inr (.inr (some (.inl 90))), .inl (g), .inl (b), .inl (op + 1)] V (fun vv__ WW__ => zwp jtb zsh n zm_MTrl3 post (kk__ + 15) (lGo ak_ZMTrl3 178) 178 [some (.inr (.inr (some (.inl 90)))), some (.inl (g)), some (.inl (u)), some (.inl (op)), some (.inl (t)), some (.inl (y)), some (.inl (x)), some (.inl (b))] (vv__.toList ++ []) WW__) from ⟨(h).1, (Exists.elim ((h).2) (fun s175 gh175 => ⟨rfl, rfl, rfl, rfl, rfl, rfl, (Nat.lt_of_lt_of_le (by decide) hn), rfl, rfl, g, b, op + 1, s175, rfl, (gh175).1, fun r175 W175 hr175 => (show (r175 ≤ 0 → 90 < n ∧ 12 = 12 ∧ (-2147483648 ≤ (W175.1 90 37) + 1 ∧ (W175.1 90 37) + 1 ≤ 2147483647) ∧ 90 < n ∧ 12 = 12 ∧ (some 0 : Option Nat) = some 0 ∧ ((0 : Nat) = 0 ∨ ((0 : Nat) = 1 ∧ (((W175.1 90 37) + 1) = 0 ∨ ((W175.1 90 37) + 1) = 1))) ∧ (r175 ≤ 0 → zwp jtb zsh n zm_MTrl3 post (kk__ + 4) (lGo ak_ZMTrl3 212) 212 [some (.inr (.inr (some (.inl 90)))), some (.inl (g)), some (.inl (u)), some (.inl (op)), some (.inl (t)), some (.inl (r175)), some (.inl (x)), some (.inl (b))] [] (zuF W175 90 37 ((W175.1 90 37) + 1))) ∧ (¬ r175 ≤ 0 → zwp jtb zsh n zm_MTrl3 post (kk__ + 0) (lGo ak_ZMTrl3 113) 113 [some (.inr (.inr (some (.inl 90)))), some (.inl (g)), some (.inl (u)), some (.inl (op)), some (.inl (t)), some (.inl (r175)), some (.inl (x)), some (.inl (b))] [] (zuF W175 90 37 ((W175.1 90 37) + 1)))) ∧ (¬ r175 ≤ 0 → 90 < n ∧ 12 = 12 ∧ 90 < n ∧ 12 = 12 ∧ (some 0 : Option Nat) = some 0 ∧ ((0 : Nat) = 0 ∨ ((0 : Nat) = 1 ∧ ((W175.1 90 37) = 0 ∨ (W175.1 90 37) = 1))) ∧ (r175 ≤ 0 → zwp jtb zsh n zm_MTrl3 post (kk__ + 5) (lGo ak_ZMTrl3 212) 212 [some (.inr (.inr (some (.inl 90)))), some (.inl (g)), some (.inl (u)), some (.inl (op)), some (.inl (t)), some (.inl (r175)), some (.inl (x)), some (.inl (b))] [] (zuF W175 90 37 (W175.1 90 37))) ∧ (¬ r175 ≤ 0 → zwp jtb zsh n zm_MTrl3 post (kk__ + 1) (lGo ak_ZMTrl3 113) 113 [some (.inr (.inr (some (.inl 90)))), some (.inl (g)), some (.inl (u)), some (.inl (op)), some (.inl (t)), some (.inl (r175)), some (.inl (x)), some (.inl (b))] [] (zuF W175 90 37 (W175.1 90 37)))) from (have h := ((gh175).2 r175 W175 hr175); ⟨fun c183_10 => ⟨(Nat.lt_of_lt_of_le (by decide) hn), rfl, ⟨(((h).1 c183_10)).1, ⟨(Nat.lt_of_lt_of_le (by decide) hn), rfl, rfl, (Or.inl rfl), ⟨fun c204_17 => (((((h).1 c183_10)).2).1 c204_17), fun c204_17 => (((((h).1 c183_10)).2).2 c204_17)⟩⟩⟩⟩, fun c183_10 => ⟨(Nat.lt_of_lt_of_le (by decide) hn), rfl, ⟨(Nat.lt_of_lt_of_le (by decide) hn), rfl, rfl, (Or.inl rfl), ⟨fun c204_16 => ((((h).2 c183_10)).1 c204_16), fun c204_16 => ((((h).2 c183_10)).2 c204_16)⟩⟩⟩⟩))⟩))⟩)
set_option maxRecDepth 8000 in
theorem zp_MTrl3_212 {n K : Nat} {V : zW} {post : zPo} {g u op t y x b : Int}  (hK : 6 ≤ K) (hn : 142 ≤ n) (h : ∃ s216 : gSt, (gW V g s216 ∧ s216.2.2.2.1 = t ∧ ¬ s216.2.2.2.2.1 = 1 ∧ zBn V (V.1 90 37) s216.1) ∧ ∀ r216 : Int, ∀ W216 : zW, (zFr [(90, 37)] [100, 101] V W216 ∧ zFo g V W216 ∧ ((r216 = 0 ∧ ∃ s2 : gSt, gP (V.2.1 91) (V.1 90 1) s216 s2 ∧ gW W216 g s2 ∧ W216.1 90 37 = s2.1 ∧ s2.2.2.2.1 = t ∧ s2.2.2.2.2.2 = s216.2.2.2.2.2 ∧ s2.2.1 = s216.2.1 ∧ ((s2.2.2.2.2.1 = s216.2.2.2.2.1 ∧ s2.1 = s216.1) ∨ s2.2.2.2.2.1 = (if s216.2.2.2.2.1 = 0 then 0 else 4)) ∧ ¬ gcR (xLk (V.2.1 91) (V.1 90 1) s2.1)) ∨ (0 < r216 ∧ r216 ≤ 1000000 ∧ gF (V.2.1 91) (V.1 90 1) s216))) → zwp jtb zsh n zm_MTrl3 post (K - 6) (lGo ak_ZMTrl3 113) 113 [some (.inr (.inr (some (.inl 90)))), some (.inl (g)), some (.inl (u)), some (.inl (op)), some (.inl (t)), some (.inl (r216)), some (.inl (x)), some (.inl (b))] [] W216) : zwp jtb zsh n zm_MTrl3 post K (lGo ak_ZMTrl3 212) 212 [some (.inr (.inr (some (.inl 90)))), some (.inl (g)), some (.inl (u)), some (.inl (op)), some (.inl (t)), some (.inl (y)), some (.inl (x)), some (.inl (b))] [] V := by
  obtain ⟨kk__, rfl⟩ : ∃ kk__, K = kk__ + 6 := ⟨K - 6, by omega⟩
  exact (show 3 = 3 ∧ false = false ∧ jin3 330 2639 7 zm_MTrl3.2.2.1.1 = true ∧ lRm zm_MTrl3.2.1 { frames := 1, cells := 0, slots := 0, locals := 21 } 11 = true ∧ Nat.ble 3 3 = true ∧ Nat.ble 0 8 = true ∧ 90 < n ∧ 12 = 12 ∧ Nat.ble 1000 12 = false ∧ zc_MTrrm [.inr (.inr (some (.inl 90))), .inl (g), .inl (t)] V (fun vv__ WW__ => zwp jtb zsh n zm_MTrl3 post (kk__ + 2) (lGo ak_ZMTrl3 219) 219 [some (.inr (.inr (some (.inl 90)))), some (.inl (g)), some (.inl (u)), some (.inl (op)), some (.inl (t)), some (.inl (y)), some (.inl (x)), some (.inl (b))] (vv__.toList ++ []) WW__) from (Exists.elim (h) (fun s216 gh216 => ⟨rfl, rfl, rfl, rfl, rfl, rfl, (Nat.lt_of_lt_of_le (by decide) hn), rfl, rfl, g, t, s216, rfl, (gh216).1, fun r216 W216 hr216 => (show zwp jtb zsh n zm_MTrl3 post (kk__ + 0) (lGo ak_ZMTrl3 113) 113 [some (.inr (.inr (some (.inl 90)))), some (.inl (g)), some (.inl (u)), some (.inl (op)), some (.inl (t)), some (.inl (r216)), some (.inl (x)), some (.inl (b))] [] W216 from ((gh216).2 r216 W216 hr216))⟩)))
set_option maxRecDepth 1000000 in
set_option maxHeartbeats 4000000 in
theorem zk_MTrl3 {l : Launch} {E : jE} {n : Nat} (hn : 142 ≤ n) : zHas l E jcl jtb lw_tbl zsh n (y_MT_readLine, false, 4, 12, { frames := 12, cells := 0, slots := 0, locals := 315 }, zc_MTrl3) := by
  refine ⟨⟨rfl, rfl, ⟨show 1 ≤ 4 by decide, m_MT_readLine, i_MT_readLine, e_MT_readLine, fun _ => ⟨_, rfl, rfl⟩⟩⟩, ?_⟩
  rintro vz W po hO hW ⟨g, u, op, s, rfl, hq, hp⟩
  refine zmet (m := zm_MTrl3) rfl (by decide) (fun _ _ => jtF_ok) lo_MT ao_ZMTrl3 jC (fun q h => by cases h) (aAllc (fun G h => by obtain rfl := Option.some.inj h; exact ql_MT_275) (aAllc (fun G h => by obtain rfl := Option.some.inj h; exact ql_MT_318) (aAllc (fun G h => by obtain rfl := Option.some.inj h; exact ql_MT_278) (aAllc (fun G h => by obtain rfl := Option.some.inj h; exact ql_MT_96) (aAllc (fun G h => by obtain rfl := Option.some.inj h; exact ql_MT_321) (aAllc (fun G h => by obtain rfl := Option.some.inj h; exact ql_MT_324) (aAllc (fun G h => by obtain rfl := Option.some.inj h; exact ql_MT_327) (aAllc (fun G h => by obtain rfl := Option.some.inj h; exact ql_MT_330) (aAllc (fun G h => by obtain rfl := Option.some.inj h; exact ql_MT_287) (aAllc (fun G h => by obtain rfl := Option.some.inj h; exact ql_MT_333) (fun q h => by cases h))))))))))) (aAllc (zk_MTbl hn) (aAllc (zk_MTrsh hn) (aAllc (zk_MTlook hn) (aAllc (zk_MTplace hn) (aAllc (zk_MTrmn hn) (aAllc (zk_MTrmv hn) (aAllc (zk_MTrmk hn) (aAllc (zk_MTrrm hn) (aAllc (zk_MTflt hn) (aAllc (zk_MTrl4 hn) (fun q h => by cases h))))))))))) (Nat.le_of_ble_eq_true rfl) hO hW (66000000) ?_
  have op6 := hq.1
  have hI0 := hq.2.2.1
  have hg := hq.2.1.1
  have elen : (s.2.2.2.2.2.length : Int) = 3 := hq.2.2.2.2.1
  have hB0 : xBs (W.2.1 91) (W.1 90 1) s.1 s.1 := xBs_i hq.2.2.2.2.2.2.1
  have i0 : gJ3 W W g u u s := ⟨⟨zFr_0, zFo_0⟩, s, gP_0, hq.2.1, hq.2.2.2.2.2.2.1, hq.2.2.2.1, rfl, Or.inl ⟨hq.2.2.2.1, Or.inr hq.2.2.2.2.2.1⟩⟩
  have main : ∀ m : Nat, (∀ (K : Nat) (V : zW) (t : Int) (u5 u6 u7 : Option zv), gJ3 W V g u t s → W.1 90 1 - V.1 90 37 < (m : Nat) → 1000 * m + 500 ≤ K → zwp jtb zsh n zm_MTrl3 po K (lGo ak_ZMTrl3 3) 3 [some (.inr (.inr (some (.inl 90)))), some (.inl g), some (.inl u), some (.inl op), some (.inl (t)), u5, u6, u7] [] V) ∧ (∀ (K : Nat) (V : zW) (t y x b : Int), gJ5 W V g u t b y s → (y = 0 → W.1 90 1 - V.1 90 37 < (m : Nat)) → 1000 * m + 700 ≤ K → zwp jtb zsh n zm_MTrl3 po K (lGo ak_ZMTrl3 113) 113 [some (.inr (.inr (some (.inl 90)))), some (.inl g), some (.inl u), some (.inl op), some (.inl (t)), some (.inl (y)), some (.inl (x)), some (.inl (b))] [] V) := by
    intro m
    induction m with
    | zero =>
      have h3 : (∀ (K : Nat) (V : zW) (t : Int) (u5 u6 u7 : Option zv), gJ3 W V g u t s → W.1 90 1 - V.1 90 37 < (0 : Nat) → 1000 * 0 + 500 ≤ K → zwp jtb zsh n zm_MTrl3 po K (lGo ak_ZMTrl3 3) 3 [some (.inr (.inr (some (.inl 90)))), some (.inl g), some (.inl u), some (.inl op), some (.inl (t)), u5, u6, u7] [] V) := by
        intro K V t u5 u6 u7 hJ hm
        obtain ⟨hB, s1, _, hw, _⟩ := hJ
        have := hw.2.1.1
        have := (gBs_x hB).2
        omega
      refine ⟨h3, ?_⟩
      intro K V t y x b hJ hm hK
      have y0 : 0 < y := by
        rcases hJ.2 with h | ⟨h, s1, _, hw, _⟩
        · exact h.1
        · exfalso
          have := hm h
          have := hw.2.1.1
          have := (gBs_x hJ.1).2
          omega
      have b231 : 0 < y → po (some (.inl y)) V := fun _ => hp _ _ ⟨hJ.1.1, hJ.1.2, Or.inr (hJ.2.resolve_right (fun z => by have := z.1; omega))⟩
      exact zp_MTrl3_113 (by omega) hn ⟨fun c115 => ⟨fun c226 => (by exfalso; omega), fun c226 => b231 (by omega)⟩, fun c115 => (by exfalso; omega)⟩
    | succ m ih =>
      have ih113 := ih.2
      have h3 : (∀ (K : Nat) (V : zW) (t : Int) (u5 u6 u7 : Option zv), gJ3 W V g u t s → W.1 90 1 - V.1 90 37 < ((m + 1) : Nat) → 1000 * (m + 1) + 500 ≤ K → zwp jtb zsh n zm_MTrl3 po K (lGo ak_ZMTrl3 3) 3 [some (.inr (.inr (some (.inl 90)))), some (.inl g), some (.inl u), some (.inl op), some (.inl (t)), u5, u6, u7] [] V) := by
        intro K V t u5 u6 u7 hI hm hK
        obtain ⟨hB, s1, hP, hw, eb, et, ek, hH⟩ := hI
        have hI : gBs W V g ∧ True := ⟨hB, trivial⟩
        have e1 := gBs_x hB
        have hI1 := (gI_p hI0 hP).1
        have elen : (s1.2.2.2.2.2.length : Int) = 3 := by rw [ek]; exact elen
        have ate : ∀ U, (zFr [(90, 37)] [] V U ∧ zTp U ∧ zBn V (V.1 90 37) (U.1 90 37)) → U.1 90 37 = s1.1 := fun U h => xBs_u h.2.2 eb
        have lk4 : ∀ U, (zFr [(90, 37)] [] V U ∧ zTp U ∧ zBn V (V.1 90 37) (U.1 90 37)) → zLk U (U.1 90 37) = xLk (W.2.1 91) (W.1 90 1) s1.1 := fun U h => by rw [gLk (gBs_f hB h.1).1, ate U h]
        have st2 : ¬ t = u → 2 ≤ s1.2.2.2.2.1 := by
          intro h
          rcases hH with z | z
          · exact absurd (et.symm.trans z.1) h
          · have := z.2.1; omega
        have ret : ∀ U, (zFr [(90, 37)] [] V U ∧ zTp U ∧ zBn V (V.1 90 37) (U.1 90 37)) → gEn (W.2.1 91) (W.1 90 1) 3 s1 → po (some (.inl 0)) U := by
          intro U h hE
          have B := gBs_f hB h.1
          exact hp _ _ ⟨B.1, B.2, Or.inl ⟨rfl, s1, hP, gW_fr h.1 (by decide) (by decide) h.2.1 hw, ate U h, ek, hE⟩⟩
        have le1 : V.1 90 37 ≤ s1.1 := eb.1.1
        have h38 : ∀ U, (zFr [(90, 37)] [] V U ∧ zTp U ∧ zBn V (V.1 90 37) (U.1 90 37)) → ¬ gOv (W.2.1 91) (W.1 90 1) s1 → (xLk (W.2.1 91) (W.1 90 1) s1.1 = 41 → ¬ s1.2.2.2.1 = u → s1.2.2.2.2.2 = []) → ∀ K : Nat, 1000 * m + 1300 ≤ K → zwp jtb zsh n zm_MTrl3 po K (lGo ak_ZMTrl3 38) 38 [some (.inr (.inr (some (.inl 90)))), some (.inl g), some (.inl u), some (.inl op), some (.inl (t)), u5, u6, u7] [] U := by
          intro U hU nO n41 K hK
          have aU := ate U hU
          have hB := gBs_f hB hU.1
          have hw := gW_fr hU.1 (by decide) (by decide) hU.2.1 hw
          have e1 := gBs_x hB
          clear hI ih ret lk4 ate
          have pre42 : (0 ≤ g ∧ g ≤ 1) ∧ (∃ N, (0 ≤ t ∧ t ≤ N ∧ N ≤ 300) ∧ xOk (zSt U g) (zro U 94 g) (zro U 95 g) N) ∧ zSb U g := ⟨hg, ⟨s1.2.1.2.1, by rw [← et]; have := hw.2.2.2.2.1; have := hw.2.2.2.1.1; omega, (zRt_O hw.2.2.1 hw.2.2.2.1).1⟩, hw.2.2.1.2.2.2.2⟩
          have at42 : ∀ W42, (zAt W42 (xPo (zSt U g) (zro U 94 g) (zro U 95 g) t) ∧ zFr [(90, 25), (90, 26), (90, 27), (90, 28), (90, 29), (90, 33)] [110, 111, 112, 113, 114] U W42) → zAt W42 (gPo s1) := fun W42 h => zAt_s hw (by rw [et]; exact h.1)
          have nu : ∀ W42 W46 r46, (zAt W42 (xPo (zSt U g) (zro U 94 g) (zro U 95 g) t) ∧ zFr [(90, 25), (90, 26), (90, 27), (90, 28), (90, 29), (90, 33)] [110, 111, 112, 113, 114] U W42) → (zFr [(90, 37)] [] W42 W46 ∧ zTp W46 ∧ zRn W42 W46 (W42.1 90 37) r46 ∧ 0 ≤ r46 ∧ r46 ≤ 1000000) → (r46 = 0 ∧ gNu (W.2.1 91) (W.1 90 1) (gPo s1).2 s1.1 (W46.1 90 37) 0) ∨ (0 < r46 ∧ gNu (W.2.1 91) (W.1 90 1) (gPo s1).2 s1.1 s1.1 1) := by
            intro W42 W46 r46 h42 h46
            have z := gNu_z (gBs_f hB h42.2).1 (by decide) (by decide) (at42 W42 h42) h46.2.2.1
            rw [zFr_f h42.2 90 37, aU] at z
            exact z
          have b58 : ∀ W42 W46 r46, (zAt W42 (xPo (zSt U g) (zro U 94 g) (zro U 95 g) t) ∧ zFr [(90, 25), (90, 26), (90, 27), (90, 28), (90, 29), (90, 33)] [110, 111, 112, 113, 114] U W42) → (zFr [(90, 37)] [] W42 W46 ∧ zTp W46 ∧ zRn W42 W46 (W42.1 90 37) r46 ∧ 0 ≤ r46 ∧ r46 ≤ 1000000) → 0 < r46 → po (some (.inl r46)) W46 := by
            intro W42 W46 r46 h42 h46 r0
            have B := gBs_f (gBs_f hB h42.2) h46.1
            have z := (nu W42 W46 r46 h42 h46).resolve_left (fun z => by omega)
            exact hp _ _ ⟨B.1, B.2, Or.inr ⟨r0, h46.2.2.2.2, gF_1 hP (gS_h hH nO n41 ⟨_, _, z.2, Or.inl ⟨rfl, rfl⟩⟩)⟩⟩
          have h59 : ∀ W42 W46 r46, (zAt W42 (xPo (zSt U g) (zro U 94 g) (zro U 95 g) t) ∧ zFr [(90, 25), (90, 26), (90, 27), (90, 28), (90, 29), (90, 33)] [110, 111, 112, 113, 114] U W42) → (zFr [(90, 37)] [] W42 W46 ∧ zTp W46 ∧ zRn W42 W46 (W42.1 90 37) r46 ∧ 0 ≤ r46 ∧ r46 ≤ 1000000) → r46 ≤ 0 → ∀ (K : Nat) (u6 u7 : Option zv), 1000 * m + 1200 ≤ K → zwp jtb zsh n zm_MTrl3 po K (lGo ak_ZMTrl3 59) 59 [some (.inr (.inr (some (.inl 90)))), some (.inl g), some (.inl u), some (.inl op), some (.inl (t)), some (.inl (r46)), u6, u7] [] W46 := by
            intro W42 W46 r46 h42 h46 r0 K u6 u7 hK
            have z := (nu W42 W46 r46 h42 h46).resolve_right (fun z => by omega)
            have B := gBs_f (gBs_f hB h42.2) h46.1
            have hw : gW W46 g s1 := gW_fr h46.1 (by decide) (by decide) h46.2.1 (gW_fr h42.2 (by decide) (by decide) (zTp_fr h42.2 hw.2.1) hw)
            have hA := zAt_fr h46.1 (by decide) (by decide) (at42 W42 h42)
            have hNu := z.2
            have e1 := gBs_x B
            generalize W46 = V at B hw hA hNu e1 ⊢
            clear z h42 h46 nu b58 pre42 at42
            have hd := gI_d hI1
            have hd6 : trE s1.2.1.2.2.1 (xLd s1.2.1.2.2.2.2.1) t + (if s1.2.1.2.2.2.2.1 t = [] then 0 else 1) ≤ 6 := by rw [et] at hd; have := hd.1; have := hI1.2.2.1; omega
            have b76 : ∀ W3 r, (zFr [(90, 36), (90, 37)] [93, 94, 95, 96, 97, 98, 100, 110, 111, 112, 115] V W3 ∧ zFo g V W3 ∧ ((r < 0 ∧ -1000000 ≤ r ∧ gMv (V.2.1 91) (V.1 90 1) s1 (V.1 90 37) none) ∨ (0 ≤ r ∧ ∃ e m, xLt (xLk (V.2.1 91) (V.1 90 1) (V.1 90 37)) ∧ xWd (V.2.1 91) (V.1 90 1) (V.1 90 37) e ∧ zUn (gPo s1).1 (fun i => V.2.1 91 (V.1 90 37 + i)) (e - V.1 90 37) m ∧ ¬ gMb s1 m ∧ r = s1.2.1.2.1 + 1 ∧ W3.1 90 37 = e ∧ gW W3 g (e, xApp s1.2.1 t m, zuI s1.2.2.1 (s1.2.1.2.1 + 1) 0, s1.2.1.2.1 + 1, 2, s1.2.2.2.2.2)))) → r < 0 → po (some (.inl (-r))) W3 := by
              intro W3 r h r0
              have B3 := gBs_o B h.1 h.2.1
              have z := h.2.2.resolve_right (fun z => by have := z.1; omega)
              rw [e1.1, e1.2] at z
              exact hp _ _ ⟨B3.1, B3.2, Or.inr ⟨by omega, by omega, gF_1 hP (gS_h hH nO n41 (gMv_0 hNu z.2.2))⟩⟩
            have h85 : ∀ W3 r, (zFr [(90, 36), (90, 37)] [93, 94, 95, 96, 97, 98, 100, 110, 111, 112, 115] V W3 ∧ zFo g V W3 ∧ ((r < 0 ∧ -1000000 ≤ r ∧ gMv (V.2.1 91) (V.1 90 1) s1 (V.1 90 37) none) ∨ (0 ≤ r ∧ ∃ e m, xLt (xLk (V.2.1 91) (V.1 90 1) (V.1 90 37)) ∧ xWd (V.2.1 91) (V.1 90 1) (V.1 90 37) e ∧ zUn (gPo s1).1 (fun i => V.2.1 91 (V.1 90 37 + i)) (e - V.1 90 37) m ∧ ¬ gMb s1 m ∧ r = s1.2.1.2.1 + 1 ∧ W3.1 90 37 = e ∧ gW W3 g (e, xApp s1.2.1 t m, zuI s1.2.2.1 (s1.2.1.2.1 + 1) 0, s1.2.1.2.1 + 1, 2, s1.2.2.2.2.2)))) → 0 ≤ r → ∀ (K : Nat) (y : Int), 1000 * m + 1100 ≤ K → zwp jtb zsh n zm_MTrl3 po K (lGo ak_ZMTrl3 85) 85 [some (.inr (.inr (some (.inl 90)))), some (.inl g), some (.inl u), some (.inl op), some (.inl (r)), some (.inl (y)), some (.inl (r)), some (.inl (t))] [] W3 := by
              intro W3 r h r0 K y hK
              have B3 := gBs_o B h.1 h.2.1
              have z := h.2.2.resolve_left (fun z => by have := z.1; omega)
              rw [e1.1, e1.2] at z
              obtain ⟨_, e, mv, h1, h2, h4, h5, h6, h7, h8⟩ := z
              obtain ⟨q, hq'⟩ := xBs_x (X := W.2.1 91) (N := W.1 90 1) (p := e) h2.1.2
              have hG : gS (W.2.1 91) (W.1 90 1) s1 (some (q, xApp s1.2.1 s1.2.2.2.1 mv, zuI s1.2.2.1 (s1.2.1.2.1 + 1) 0, s1.2.1.2.1 + 1, 2, s1.2.2.2.2.2)) := gS_h hH nO n41 (gMv_0 hNu (Or.inr ⟨h1, e, mv, h2, h4, Or.inr ⟨h5, q, hq', rfl⟩⟩))
              have hP3 := gP_1 hP hG
              have hI3 := gI_s hI1 hG
              have e3 := gBs_x B3
              have u1 : u ≤ s1.2.1.2.1 := by
                have a := (gI_p hI0 hP).2.2.1
                have b := hI0.2.1.2
                have c := hq.2.2.2.1
                omega
              rw [et] at hG hP3 hI3
              generalize es3 : ((q, xApp s1.2.1 t mv, zuI s1.2.2.1 (s1.2.1.2.1 + 1) 0, s1.2.1.2.1 + 1, 2, s1.2.2.2.2.2) : gSt) = s3 at hG hP3 hI3
              have et3 : s3.2.2.2.1 = r := by rw [← es3]; exact h6.symm
              have es2 : s3.2.2.2.2.1 = 2 := by rw [← es3]
              have em : s3.2.1.2.2.2.2.2 r = 0 := by
                rw [← es3, h6]
                exact zuI_s
              have eb3 : zBn W3 (W3.1 90 37) s3.1 := by
                show xBs (W3.2.1 91) (W3.1 90 1) (W3.1 90 37) s3.1
                rw [e3.1, e3.2, h7, ← es3]
                exact hq'
              have hw3 : gW W3 g s3 := by rw [← es3]; exact h8
              have k3 : s3.2.2.2.2.2 = s.2.2.2.2.2 := by rw [← es3]; exact ek
              have p3 : s3.2.1.2.2.1 r = t := by
                rw [← es3, h6]
                exact zuI_s
              have n3 : ¬ r = u := by omega
              have N3 : s3.2.1.2.1 = r := by rw [← es3]; exact h6.symm
              have lt3 : s1.1 < s3.1 := hI3.2.2.1
              have hI3 := hI3.1
              clear hG es3
              generalize r = x at et3 em p3 n3 N3 ⊢
              generalize W3 = V at B3 e3 eb3 hw3 ⊢
              have B := B3
              have e1 := e3
              have et := et3
              have eb := eb3
              have hw := hw3
              have j89 : ∀ W3 r, (zFr [(90, 37)] [98, 99] V W3 ∧ zFo g V W3 ∧ ((r = 0 ∧ ∃ s2 : gSt, gP (V.2.1 91) (V.1 90 1) s3 s2 ∧ gW W3 g s2 ∧ W3.1 90 37 = s2.1 ∧ s2.2.2.2.1 = x ∧ s2.2.2.2.2.2 = s3.2.2.2.2.2 ∧ ((s2.2.2.2.2.1 = 2 ∧ ¬ gcM (xLk (V.2.1 91) (V.1 90 1) s2.1)) ∨ (s2.2.2.2.2.1 = 3 ∧ ¬ xLk (V.2.1 91) (V.1 90 1) s2.1 = 36))) ∨ (0 < r ∧ r ≤ 1000000 ∧ gF (V.2.1 91) (V.1 90 1) s3))) → 0 < r → gJ5 W W3 g u x t r s := by
                intro W3 r h r0
                refine ⟨gBs_o B h.1 h.2.1, Or.inl ?_⟩
                rcases h.2.2 with h2 | h2
                · omega
                · rw [e1.1, e1.2] at h2
                  exact ⟨h2.1, h2.2.1, gF_t hP3 h2.2.2⟩
              have h104 : ∀ W3, ∀ {r : Int}, (zFr [(90, 37)] [98, 99] V W3 ∧ zFo g V W3 ∧ ((r = 0 ∧ ∃ s2 : gSt, gP (V.2.1 91) (V.1 90 1) s3 s2 ∧ gW W3 g s2 ∧ W3.1 90 37 = s2.1 ∧ s2.2.2.2.1 = x ∧ s2.2.2.2.2.2 = s3.2.2.2.2.2 ∧ ((s2.2.2.2.2.1 = 2 ∧ ¬ gcM (xLk (V.2.1 91) (V.1 90 1) s2.1)) ∨ (s2.2.2.2.2.1 = 3 ∧ ¬ xLk (V.2.1 91) (V.1 90 1) s2.1 = 36))) ∨ (0 < r ∧ r ≤ 1000000 ∧ gF (V.2.1 91) (V.1 90 1) s3))) → r ≤ 0 → ∀ (K : Nat) (y : Int), 1000 * m + 1000 ≤ K → zwp jtb zsh n zm_MTrl3 po K (lGo ak_ZMTrl3 104) 104 [some (.inr (.inr (some (.inl 90)))), some (.inl g), some (.inl u), some (.inl op), some (.inl (x)), some (.inl (y)), some (.inl (x)), some (.inl (t))] [] W3 := by
                intro W3 r h r0 K y hK
                have B4 := gBs_o B h.1 h.2.1
                have z := h.2.2.resolve_right (fun z => by omega)
                rw [e1.1, e1.2] at z
                obtain ⟨_, s4, hP4, hw4, ea4, et4, ek4, hc4⟩ := z
                have e4 := gBs_x B4
                have hQ4 := gI_p hI3 hP4
                have hb4 := gB_p (gB_p hB0 hP3) hP4
                have hP4 := gP_t hP3 hP4
                generalize W3 = V at B4 hw4 ea4 e4 ⊢
                have n1 : ¬ s4.2.2.2.2.1 = 1 := by omega
                have et := et4
                have hw := hw4
                have eb : zBn V (V.1 90 37) s4.1 := by
                  show xBs (V.2.1 91) (V.1 90 1) (V.1 90 37) s4.1
                  rw [e4.1, e4.2, ea4]
                  exact hb4
                have p4 : s4.2.1.2.2.1 x = t := by
                  have hx1 := hI3.2.1
                  have hx2 := hI3.2.2.2.2.2.resolve_left (fun z => by have := z.1; omega)
                  rw [et3] at hx1 hx2
                  rw [(hQ4.2.2.2.2 x (by have := hx2.2.2.2.2; omega) hx1.2).1]
                  exact p3
                have j108 : ∀ (W3 : zW) (r : Int), (zFr [(90, 37)] [100, 101] V W3 ∧ zFo g V W3 ∧ ((r = 0 ∧ ∃ s2 : gSt, gP (V.2.1 91) (V.1 90 1) s4 s2 ∧ gW W3 g s2 ∧ W3.1 90 37 = s2.1 ∧ s2.2.2.2.1 = x ∧ s2.2.2.2.2.2 = s4.2.2.2.2.2 ∧ s2.2.1 = s4.2.1 ∧ ((s2.2.2.2.2.1 = s4.2.2.2.2.1 ∧ s2.1 = s4.1) ∨ s2.2.2.2.2.1 = (if s4.2.2.2.2.1 = 0 then 0 else 4)) ∧ ¬ gcR (xLk (V.2.1 91) (V.1 90 1) s2.1)) ∨ (0 < r ∧ r ≤ 1000000 ∧ gF (V.2.1 91) (V.1 90 1) s4))) → gJ5 W W3 g u x t r s := by
                  intro W3 r h
                  refine ⟨gBs_o B4 h.1 h.2.1, ?_⟩
                  rcases h.2.2 with ⟨r0, s9, h1, h2, h3, h4, h5, h6, h7, h8⟩ | h2
                  · rw [e4.1, e4.2] at h1 h8
                    refine Or.inr ⟨r0, s9, gP_t hP4 h1, h2, h3, h4, h5.trans (ek4.trans k3), ?_, h8, by rw [h6]; exact p4, n3⟩
                    rcases h7 with z | z
                    · unfold gSc
                      rw [z.1, z.2]
                      rcases hc4 with y | y
                      · exact Or.inl y
                      · exact Or.inr (Or.inl y)
                    · refine Or.inr (Or.inr ?_)
                      rw [z, if_neg (by omega)]
                  · rw [e4.1, e4.2] at h2
                    exact Or.inl ⟨h2.1, h2.2.1, gF_t hP4 h2.2.2⟩
                have m108 : ∀ (W3 : zW) (r : Int), (zFr [(90, 37)] [100, 101] V W3 ∧ zFo g V W3 ∧ ((r = 0 ∧ ∃ s2 : gSt, gP (V.2.1 91) (V.1 90 1) s4 s2 ∧ gW W3 g s2 ∧ W3.1 90 37 = s2.1 ∧ s2.2.2.2.1 = x ∧ s2.2.2.2.2.2 = s4.2.2.2.2.2 ∧ s2.2.1 = s4.2.1 ∧ ((s2.2.2.2.2.1 = s4.2.2.2.2.1 ∧ s2.1 = s4.1) ∨ s2.2.2.2.2.1 = (if s4.2.2.2.2.1 = 0 then 0 else 4)) ∧ ¬ gcR (xLk (V.2.1 91) (V.1 90 1) s2.1)) ∨ (0 < r ∧ r ≤ 1000000 ∧ gF (V.2.1 91) (V.1 90 1) s4))) → r = 0 → W.1 90 1 - W3.1 90 37 < (m : Nat) := by
                  intro W3 r h r0
                  rcases h.2.2 with ⟨_, s9, h1, h2, h3, _⟩ | h2
                  · rw [e4.1, e4.2] at h1
                    have a := (gI_p hQ4.1 h1).2.1
                    have b := hQ4.2.1
                    omega
                  · omega
                exact zp_MTrl3_104 (by omega) hn ⟨s4, ⟨hw, et, n1, eb⟩, fun r108 W108 hr108 => (ih113 _ W108 _ _ _ _ (j108 W108 r108 hr108) (fun z => m108 W108 r108 hr108 z) (by omega))⟩
              exact zp_MTrl3_85 (by omega) hn ⟨s3, ⟨hw, et, es2, em, eb⟩, fun r89 W89 hr89 => ⟨fun c96 => (h104 W89 hr89 (by omega) _ _ (by omega)), fun c96 => (ih113 _ W89 _ _ _ _ (j89 W89 r89 hr89 (by omega)) (fun z => by omega) (by omega))⟩⟩
            exact zp_MTrl3_59 (by omega) hn ⟨s1, ⟨hw, et, hA, hd6⟩, fun r63 W63 hr63 => ⟨fun c70 => (h85 W63 r63 hr63 (by omega) _ _ (by omega)), fun c70 => ⟨(by have := hr63.2.2; omega), (b76 W63 r63 hr63 (by omega))⟩⟩⟩
          exact zp_MTrl3_38 (by omega) hn ⟨pre42, fun W42 hr42 => ⟨(zTp_fr hr42.2 hw.2.1), fun r46 W46 hr46 => ⟨fun c53 => (h59 W42 W46 r46 hr42 hr46 (by omega) _ _ _ (by omega)), fun c53 => (b58 W42 W46 r46 hr42 hr46 (by omega))⟩⟩⟩
        exact zp_MTrl3_3 (by omega) hn ⟨hw.2.1, fun W4 hr4 => ⟨fun c8 => ⟨hr4.2.1, fun r22 hr22 => ⟨fun c27 => (by first | (exfalso; omega) | exact h38 W4 hr4 (fun z => by rw [z.1] at elen; exact absurd elen (by decide)) (fun z1 z2 => by exfalso; have z := lk4 W4 hr4; omega) _ (by omega)), fun c27 => ⟨fun c33 => (by first | (exfalso; omega) | exact h38 W4 hr4 (fun z => by rw [z.1] at elen; exact absurd elen (by decide)) (fun z1 z2 => by exfalso; have z := lk4 W4 hr4; omega) _ (by omega)), fun c33 => (by first | (exfalso; omega) | exact ret W4 hr4 (Or.inr ⟨by decide, by have z := lk4 W4 hr4; omega, by have := st2 (by omega); omega, by have := st2 (by omega); omega⟩))⟩⟩⟩, fun c8 => ⟨hr4.2.1, fun r12 hr12 => ⟨fun c15 => (by first | (exfalso; omega) | exact h38 W4 hr4 (fun z => by rw [z.1] at elen; exact absurd elen (by decide)) (fun z1 z2 => by exfalso; have z := lk4 W4 hr4; omega) _ (by omega)), fun c15 => (by first | (exfalso; omega) | exact ret W4 hr4 (Or.inr ⟨by decide, by have z := lk4 W4 hr4; omega, by have := st2 (by omega); omega, by have := st2 (by omega); omega⟩))⟩⟩⟩⟩
      refine ⟨h3, ?_⟩
      intro K V t y x b hJ hm hK
      have j5 : ∀ V, gJ5 W V g u t b y s → y = 0 → gBs W V g ∧ ∃ s1 : gSt, gP (W.2.1 91) (W.1 90 1) s s1 ∧ gW V g s1 ∧ V.1 90 37 = s1.1 ∧ s1.2.2.2.1 = t ∧ s1.2.2.2.2.2 = s.2.2.2.2.2 ∧ gSc (W.2.1 91) (W.1 90 1) s1 ∧ ¬ gcR (xLk (W.2.1 91) (W.1 90 1) s1.1) ∧ s1.2.1.2.2.1 t = b ∧ ¬ t = u := fun V h y0 => ⟨h.1, (h.2.resolve_left (fun z => by have := z.1; omega)).2⟩
      have y0 : 0 ≤ y := by rcases hJ.2 with h | h <;> omega
      have tq : ∀ V, gJ5 W V g u t b y s → y = 0 → zTp V := fun V h y0 => by obtain ⟨_, s1, _, hw, _⟩ := j5 V h y0; exact hw.2.1
      have tpV : ∀ V, gJ5 W V g u t b y s → y = 0 → 0 ≤ V.1 90 37 ∧ V.1 90 37 ≤ 65536 := fun V h y0 => by have z := tq V h y0; have := z.1; have := z.2.1; omega
      have b231 : 0 < y → po (some (.inl y)) V := fun _ => hp _ _ ⟨hJ.1.1, hJ.1.2, Or.inr (hJ.2.resolve_right (fun z => by have := z.1; omega))⟩
      have j3 : ∀ V, gJ5 W V g u t b y s → y = 0 → ¬ zLk V (V.1 90 37) = 40 → gJ3 W V g u t s := by
        intro V h y0 h40
        obtain ⟨hB, s1, hP, hw, ea, et, ek, hs, hr, eb, ntu⟩ := j5 V h y0
        rw [gLk hB.1, ea] at h40
        refine ⟨hB, s1, hP, hw, ?_, et, ek, Or.inr ⟨by rw [et]; exact ntu, hs, hr, h40⟩⟩
        show xBs (V.2.1 91) (V.1 90 1) (V.1 90 37) s1.1
        rw [(gBs_x hB).1, (gBs_x hB).2, ea]
        exact gB_p hB0 hP
      have j139 : ∀ U, zFr [(90, 37)] [] V U → y = 0 → zLk V (V.1 90 37) = 40 → ∀ r : Int, op = 6 ∧ 0 < r ∧ r ≤ 1000000 → gJ5 W U g u t b r s := by
        intro U hU y0 c40 r hr
        obtain ⟨hB, s1, hP, hw, ea, et, ek, hs, _, eb, ntu⟩ := j5 V hJ y0
        have e40 : xLk (W.2.1 91) (W.1 90 1) s1.1 = 40 := by rw [← ea, ← gLk hB.1]; exact c40
        have hx := xLk_i (X := W.2.1 91) (N := W.1 90 1) (p := s1.1) (by omega)
        have hst : ¬ s1.2.2.2.2.1 = 0 ∧ ¬ s1.2.2.2.2.1 = 1 := by unfold gSc at hs; omega
        exact ⟨gBs_f hB hU, Or.inl ⟨hr.2.1, hr.2.2, gF_1 hP (Or.inr (Or.inr (Or.inl ⟨Or.inl e40, Or.inr ⟨hst, Or.inl ⟨by omega, Or.inl ⟨by rw [ek]; omega, rfl⟩⟩⟩⟩)))⟩⟩
      have h168 : ∀ V', V' = zuF V 90 37 (V.1 90 37 + 1) → y = 0 → zLk V (V.1 90 37) = 40 → ∀ (K : Nat), 1000 * m + 1200 ≤ K → zwp jtb zsh n zm_MTrl3 po K (lGo ak_ZMTrl3 168) 168 [some (.inr (.inr (some (.inl 90)))), some (.inl g), some (.inl u), some (.inl op), some (.inl (t)), some (.inl (0)), some (.inl (x)), some (.inl (b))] [] V' := by
        intro V' eV y0 c40 K hK
        obtain ⟨hB, s1, hP, hw, ea, et, ek, hs, hr, eb, ntu⟩ := j5 V hJ y0
        have e40 : xLk (W.2.1 91) (W.1 90 1) s1.1 = 40 := by rw [← ea, ← gLk hB.1]; exact c40
        have hx := xLk_i (X := W.2.1 91) (N := W.1 90 1) (p := s1.1) (by omega)
        have e1 := gBs_x hB
        obtain ⟨q, hq'⟩ := xBs_x (X := W.2.1 91) (N := W.1 90 1) (p := s1.1 + 1) (by omega)
        have hst : ¬ s1.2.2.2.2.1 = 0 ∧ ¬ s1.2.2.2.2.1 = 1 := by unfold gSc at hs; omega
        have hl : (s1.2.2.2.2.2.length : Int) = 3 := by rw [ek]; exact elen
        have hG : gS (W.2.1 91) (W.1 90 1) s1 (some (q, s1.2.1, s1.2.2.1, s1.2.1.2.2.1 s1.2.2.2.1, 1, s1.2.2.2.1 :: s1.2.2.2.2.2)) := Or.inr (Or.inr (Or.inl ⟨Or.inl e40, Or.inr ⟨hst, Or.inl ⟨by omega, Or.inr ⟨by omega, q, hq', rfl⟩⟩⟩⟩))
        have hP6 := gP_1 hP hG
        have hI1 := (gI_p hI0 hP).1
        have hI6 := gI_s hI1 hG
        have fV : zFr [(90, 37)] [] V V' := by rw [eV]; exact zFr_F zFr_0 (by decide)
        have tV : zTp V' := by rw [eV]; exact zTp_n hw.2.1 (by omega)
        have aV : V'.1 90 37 = s1.1 + 1 := by rw [eV, zuF_1, if_pos ⟨rfl, rfl⟩, ea]
        have eb' : s1.2.1.2.2.1 s1.2.2.2.1 = b := by rw [et]; exact eb
        generalize es6 : ((q, s1.2.1, s1.2.2.1, s1.2.1.2.2.1 s1.2.2.2.1, 1, s1.2.2.2.1 :: s1.2.2.2.2.2) : gSt) = s6 at hG hP6 hI6
        have s6a : s6.1 = q := by rw [← es6]
        have s6t : s6.2.2.2.1 = b := by rw [← es6]; exact eb'
        have s6k : s6.2.2.2.2.2 = t :: s.2.2.2.2.2 := by rw [← es6, ← ek, ← et]
        have s6w : gW V' g s6 := by
          have z := gW_fr fV (by decide) (by decide) tV hw
          have y := hI6.1.2.1
          rw [← es6] at y ⊢
          exact ⟨z.1, z.2.1, z.2.2.1, z.2.2.2.1, y, z.2.2.2.2.2⟩
        have s6b : zBn V' (V'.1 90 37) s6.1 := by
          show xBs (V'.2.1 91) (V'.1 90 1) (V'.1 90 37) s6.1
          rw [zFr_r fV 91, zFr_f fV 90 1, e1.1, e1.2, aV, s6a]
          exact hq'
        have s6g : s6.2.2.2.2.1 = 1 := by rw [← es6]
        have s6p : s6.2.1 = s1.2.1 := by rw [← es6]
        have pre175 : gLp V' g b 4 s6 := ⟨s6w, hI6.1, s6t, by rw [s6k]; show ((s.2.2.2.2.2.length + 1 : Nat) : Int) = _; omega, by rw [s6g]; rfl, s6b, fun z => by omega⟩
        have e6 : V'.2.1 91 = W.2.1 91 ∧ V'.1 90 1 = W.1 90 1 := ⟨by rw [zFr_r fV 91]; exact e1.1, by rw [zFr_f fV 90 1]; exact e1.2⟩
        have B6 : gBs W V' g := gBs_f hB fV
        have t1 : 1 ≤ t ∧ t ≤ s1.2.1.2.1 := by
          have y := hI6.1.2.2.2.2.1
          rw [s6k, s6p] at y
          exact y.1.1
        have bn175 : ∀ (U : zW) (r : Int), gLq V' U g 4 r s6 → (0 ≤ U.1 90 37 ∧ U.1 90 37 ≤ 65536) ∨ 0 < r := by
          intro U r hr
          rcases hr.2.2 with ⟨_, s2, _, h2, _⟩ | h2
          · left; have := h2.2.1.1; have := h2.2.1.2.1; omega
          · right; exact h2.1
        have j175 : ∀ (U : zW) (r : Int), gLq V' U g 4 r s6 → 0 < r → ∀ U', zFr [(90, 37)] [] U U' → gJ5 W U' g u t b r s := by
          intro U r hr r0 U' hU'
          refine ⟨gBs_f (gBs_o B6 hr.1 hr.2.1) hU', Or.inl ?_⟩
          rcases hr.2.2 with h2 | h2
          · omega
          · rw [e6.1, e6.2] at h2
            exact ⟨h2.1, h2.2.1, gF_t hP6 h2.2.2⟩
        have h212 : ∀ (U : zW) (r : Int), gLq V' U g 4 r s6 → r ≤ 0 → ∀ (y : Int) (U' : zW), U' = zuF U 90 37 (U.1 90 37 + 1) → ∀ (K : Nat), 1000 * m + 1000 ≤ K → zwp jtb zsh n zm_MTrl3 po K (lGo ak_ZMTrl3 212) 212 [some (.inr (.inr (some (.inl 90)))), some (.inl g), some (.inl u), some (.inl op), some (.inl (t)), some (.inl (y)), some (.inl (x)), some (.inl (b))] [] U' := by
          intro U r hr r0 y U' eU K hK
          obtain ⟨_, s7, hP7, hw7, ea7, ek7, hE7⟩ := hr.2.2.resolve_right (fun z => by omega)
          rw [e6.1, e6.2] at hP7 hE7
          have hE7 := hE7.resolve_left (fun z => by have := z.1; omega)
          have hP7' := gP_t hP6 hP7
          have hx7 := xLk_i (X := W.2.1 91) (N := W.1 90 1) (p := s7.1) (by omega)
          obtain ⟨q7, hq7⟩ := xBs_x (X := W.2.1 91) (N := W.1 90 1) (p := s7.1 + 1) (by omega)
          have hG7 : gS (W.2.1 91) (W.1 90 1) s7 (some (q7, s7.2.1, s7.2.2.1, t, 4, s.2.2.2.2.2)) := Or.inr (Or.inr (Or.inl ⟨Or.inr hE7.2.1, Or.inr ⟨hE7.2.2, Or.inr ⟨by omega, Or.inr ⟨t, s.2.2.2.2.2, by rw [ek7, s6k], q7, hq7, rfl⟩⟩⟩⟩))
          have hI7 := (gI_p hI6.1 hP7)
          have hI8 := gI_s hI7.1 hG7
          have hP8 := gP_1 hP7' hG7
          have B7 := gBs_o B6 hr.1 hr.2.1
          have e7 := gBs_x B7
          have fU : zFr [(90, 37)] [] U U' := by rw [eU]; exact zFr_F zFr_0 (by decide)
          have tU : zTp U' := by rw [eU]; exact zTp_n hw7.2.1 (by omega)
          have aU : U'.1 90 37 = s7.1 + 1 := by rw [eU, zuF_1, if_pos ⟨rfl, rfl⟩, ea7]
          generalize es8 : ((q7, s7.2.1, s7.2.2.1, t, 4, s.2.2.2.2.2) : gSt) = s8 at hG7 hI8 hP8
          have et : s8.2.2.2.1 = t := by rw [← es8]
          have hw : gW U' g s8 := by
            have z := gW_fr fU (by decide) (by decide) tU hw7
            have y := hI8.1.2.1
            rw [← es8] at y ⊢
            exact ⟨z.1, z.2.1, z.2.2.1, z.2.2.2.1, y, z.2.2.2.2.2⟩
          have B8 := gBs_f B7 fU
          have e8 := gBs_x B8
          have eb8 : zBn U' (U'.1 90 37) s8.1 := by
            show xBs (U'.2.1 91) (U'.1 90 1) (U'.1 90 37) s8.1
            rw [e8.1, e8.2, aU, ← es8]
            exact hq7
          have g8 : s8.2.2.2.2.1 = 4 := by rw [← es8]
          have k8 : s8.2.2.2.2.2 = s.2.2.2.2.2 := by rw [← es8]
          have p8 : s8.2.1 = s7.2.1 := by rw [← es8]
          have pb : s8.2.1.2.2.1 t = b := by
            rw [p8, (hI7.2.2.2.2 t t1.1 (by rw [s6p]; exact t1.2)).1, s6p]
            exact eb
          have lt8 : s1.1 < s8.1 := by
            have a := hI6.2.2.1
            have b := hI7.2.1
            have c := hI8.2.2.1
            omega
          have j216 : ∀ (W3 : zW) (r : Int), (zFr [(90, 37)] [100, 101] U' W3 ∧ zFo g U' W3 ∧ ((r = 0 ∧ ∃ s2 : gSt, gP (U'.2.1 91) (U'.1 90 1) s8 s2 ∧ gW W3 g s2 ∧ W3.1 90 37 = s2.1 ∧ s2.2.2.2.1 = t ∧ s2.2.2.2.2.2 = s8.2.2.2.2.2 ∧ s2.2.1 = s8.2.1 ∧ ((s2.2.2.2.2.1 = s8.2.2.2.2.1 ∧ s2.1 = s8.1) ∨ s2.2.2.2.2.1 = (if s8.2.2.2.2.1 = 0 then 0 else 4)) ∧ ¬ gcR (xLk (U'.2.1 91) (U'.1 90 1) s2.1)) ∨ (0 < r ∧ r ≤ 1000000 ∧ gF (U'.2.1 91) (U'.1 90 1) s8))) → gJ5 W W3 g u t b r s := by
            intro W3 r h
            refine ⟨gBs_o B8 h.1 h.2.1, ?_⟩
            rcases h.2.2 with ⟨r0, s9, h1, h2, h3, h4, h5, h6, h7, h8⟩ | h2
            · rw [e8.1, e8.2] at h1 h8
              refine Or.inr ⟨r0, s9, gP_t hP8 h1, h2, h3, h4, h5.trans k8, Or.inr (Or.inr ?_), h8, by rw [h6]; exact pb, ntu⟩
              rcases h7 with z | z
              · exact z.1.trans g8
              · rw [z, g8]; rfl
            · rw [e8.1, e8.2] at h2
              exact Or.inl ⟨h2.1, h2.2.1, gF_t hP8 h2.2.2⟩
          have m216 : ∀ (W3 : zW) (r : Int), (zFr [(90, 37)] [100, 101] U' W3 ∧ zFo g U' W3 ∧ ((r = 0 ∧ ∃ s2 : gSt, gP (U'.2.1 91) (U'.1 90 1) s8 s2 ∧ gW W3 g s2 ∧ W3.1 90 37 = s2.1 ∧ s2.2.2.2.1 = t ∧ s2.2.2.2.2.2 = s8.2.2.2.2.2 ∧ s2.2.1 = s8.2.1 ∧ ((s2.2.2.2.2.1 = s8.2.2.2.2.1 ∧ s2.1 = s8.1) ∨ s2.2.2.2.2.1 = (if s8.2.2.2.2.1 = 0 then 0 else 4)) ∧ ¬ gcR (xLk (U'.2.1 91) (U'.1 90 1) s2.1)) ∨ (0 < r ∧ r ≤ 1000000 ∧ gF (U'.2.1 91) (U'.1 90 1) s8))) → r = 0 → W.1 90 1 - W3.1 90 37 < (m : Nat) := by
            intro W3 r h r0
            rcases h.2.2 with ⟨_, s9, h1, h2, h3, _⟩ | h2
            · rw [e8.1, e8.2] at h1
              have a := (gI_p hI8.1 h1).2.1
              have := hm y0
              omega
            · omega
          have eb := eb8
          have es2 := g8
          exact zp_MTrl3_212 (by omega) hn ⟨s8, ⟨hw, et, (by omega), eb⟩, fun r216 W216 hr216 => (ih113 _ W216 _ _ _ _ (j216 W216 r216 hr216) (fun z => m216 W216 r216 hr216 z) (by omega))⟩
        exact zp_MTrl3_168 (by omega) hn ⟨(by omega), ⟨s6, ⟨by omega, pre175⟩, fun r175 W175 hr175 => ⟨fun c183 => ⟨(by have := bn175 W175 r175 hr175; omega), ⟨fun c204 => (by first | (exfalso; omega) | exact h212 W175 r175 hr175 (by omega) _ _ rfl _ (by omega)), fun c204 => (by first | (exfalso; omega) | exact ih113 _ _ _ _ _ _ (j175 W175 r175 hr175 (by omega) _ (zFr_F (zFr_0 (Fs := [(90, 37)]) (Rs := [])) (by decide))) (fun z => by omega) (by omega))⟩⟩, fun c183 => ⟨fun c204 => (by first | (exfalso; omega) | exact h212 W175 r175 hr175 (by omega) _ _ rfl _ (by omega)), fun c204 => (by first | (exfalso; omega) | exact ih113 _ _ _ _ _ _ (j175 W175 r175 hr175 (by omega) _ (zFr_F (zFr_0 (Fs := [(90, 37)]) (Rs := [])) (by decide))) (fun z => by omega) (by omega))⟩⟩⟩⟩
      exact zp_MTrl3_113 (by omega) hn ⟨fun c115 => ⟨fun c226 => (by first | (exfalso; omega) | (exfalso; have := tpV V hJ (by omega); omega) | exact h3 _ V _ _ _ _ (j3 V hJ (by omega) (by omega)) (hm (by omega)) (by omega)), fun c226 => (b231 (by omega))⟩, fun c115 => ⟨(tq V hJ (by omega)), fun r119 hr119 => ⟨fun c124 => ⟨fun c226 => (by first | (exfalso; omega) | (exfalso; have := tpV V hJ (by omega); omega) | exact h3 _ V _ _ _ _ (j3 V hJ (by omega) (by omega)) (hm (by omega)) (by omega)), fun c226 => (b231 (by omega))⟩, fun c124 => ⟨fun c130 => ⟨(by have := tpV V hJ (by omega); omega), (by first | (exfalso; omega) | (exfalso; have := tpV V hJ (by omega); omega) | exact h168 _ rfl (by omega) (by omega) _ (by omega))⟩, fun c130 => ⟨(by have := tpV V hJ (by omega); omega), fun r139 hr139 => ⟨(by have := tpV V hJ (by omega); omega), ⟨fun c160 => (by first | (exfalso; omega) | (exfalso; have := tpV V hJ (by omega); omega) | exact h168 _ rfl (by omega) (by omega) _ (by omega)), fun c160 => ⟨fun c183 => ⟨(by have := tpV V hJ (by omega); omega), ⟨fun c204 => (by first | (exfalso; omega) | (exfalso; have := tpV V hJ (by omega); omega) | exact ih113 _ _ _ _ _ _ (j139 _ (zFr_F (zFr_F (zFr_0 (Fs := [(90, 37)]) (Rs := [])) (by decide)) (by decide)) (by omega) (by omega) r139 (by have := tpV V hJ (by omega); omega)) (fun z => by omega) (by omega)), fun c204 => (by first | (exfalso; omega) | (exfalso; have := tpV V hJ (by omega); omega) | exact ih113 _ _ _ _ _ _ (j139 _ (zFr_F (zFr_F (zFr_0 (Fs := [(90, 37)]) (Rs := [])) (by decide)) (by decide)) (by omega) (by omega) r139 (by have := tpV V hJ (by omega); omega)) (fun z => by omega) (by omega))⟩⟩, fun c183 => ⟨fun c204 => (by first | (exfalso; omega) | (exfalso; have := tpV V hJ (by omega); omega) | exact ih113 _ _ _ _ _ _ (j139 _ (zFr_F (zFr_F (zFr_0 (Fs := [(90, 37)]) (Rs := [])) (by decide)) (by decide)) (by omega) (by omega) r139 (by have := tpV V hJ (by omega); omega)) (fun z => by omega) (by omega)), fun c204 => (by first | (exfalso; omega) | (exfalso; have := tpV V hJ (by omega); omega) | exact ih113 _ _ _ _ _ _ (j139 _ (zFr_F (zFr_F (zFr_0 (Fs := [(90, 37)]) (Rs := [])) (by decide)) (by decide)) (by omega) (by omega) r139 (by have := tpV V hJ (by omega); omega)) (fun z => by omega) (by omega))⟩⟩⟩⟩⟩⟩⟩⟩⟩
  exact zp_MTrl3_0 (by omega) hn ((main 65537).1 _ W _ _ _ _ i0 (by have := hq.2.1.2.1.1; have := hq.2.1.2.1.2.1; omega) (by omega))
noncomputable def ak_ZMTrl2 : List jI := ak_ZMTrl6
theorem ao_ZMTrl2 : jokLG jtF lk_MT "ChessHouseModel$Texts" jcl jtb 8 prog_18_method_68_code 0 ak_ZMTrl2 = true := ao_ZMTrl6
noncomputable def zm_MTrl2 : zM := (some .int, { frames := 13, cells := 0, slots := 0, locals := 342 }, ([(275, 2570, 0), (318, 2647, 1), (278, 2574, 2), (96, 1933, 3), (321, 2655, 4), (324, 2659, 5), (327, 2710, 6), (330, 2639, 7), (287, 2588, 8), (333, 2643, 9)], []), [(y_MT_blanks, false, 1, 12, { frames := 0, cells := 0, slots := 0, locals := 0 }, zc_MTbl), (y_MT_resultHere, false, 1, 12, { frames := 1, cells := 0, slots := 0, locals := 23 }, zc_MTrsh), (y_MT_look, false, 1, 12, { frames := 0, cells := 0, slots := 0, locals := 0 }, zc_MTlook), (y_MT_place, false, 3, 12, { frames := 6, cells := 0, slots := 0, locals := 157 }, zc_MTplace), (y_MT_readMoveNumber, false, 1, 12, { frames := 1, cells := 0, slots := 0, locals := 21 }, zc_MTrmn), (y_MT_readMove, false, 3, 12, { frames := 8, cells := 0, slots := 0, locals := 210 }, zc_MTrmv), (y_MT_readMarks, false, 3, 12, { frames := 1, cells := 0, slots := 0, locals := 24 }, zc_MTrmk), (y_MT_readRemarks, false, 3, 12, { frames := 1, cells := 0, slots := 0, locals := 21 }, zc_MTrrm), (y_MT_fault, true, 2, 0, { frames := 0, cells := 0, slots := 0, locals := 0 }, zc_MTflt), (y_MT_readLine, false, 4, 12, { frames := 12, cells := 0, slots := 0, locals := 315 }, zc_MTrl3)], ak_ZMTrl2)
noncomputable def zc_MTrl2 (vals : List zv) (W : zW) (post : zPo) : Prop := ∃ g u op : Int, ∃ s : gSt, vals = [.inr (.inr (some (.inl 90))), .inl (g), .inl (u), .inl (op)] ∧ (op = 2 ∧ gLp W g u 2 s) ∧ ∀ r : Int, ∀ V : zW, (gLq W V g 2 r s) → post (some (.inl r)) V
set_option maxRecDepth 8000 in
theorem zp_MTrl2_0 {n K : Nat} {W : zW} {post : zPo} {g u op : Int} {u4 u5 u6 u7 : Option zv} (hK : 2 ≤ K) (hn : 142 ≤ n) (h : zwp jtb zsh n zm_MTrl2 post (K - 2) (lGo ak_ZMTrl2 3) 3 [some (.inr (.inr (some (.inl 90)))), some (.inl (g)), some (.inl (u)), some (.inl (op)), some (.inl (u)), u5, u6, u7] [] W) : zwp jtb zsh n zm_MTrl2 post K (lGo ak_ZMTrl2 0) 0 [some (.inr (.inr (some (.inl 90)))), some (.inl (g)), some (.inl (u)), some (.inl (op)), u4, u5, u6, u7] [] W := by
  obtain ⟨kk__, rfl⟩ : ∃ kk__, K = kk__ + 2 := ⟨K - 2, by omega⟩
  exact (show zwp jtb zsh n zm_MTrl2 post (kk__ + 0) (lGo ak_ZMTrl2 3) 3 [some (.inr (.inr (some (.inl 90)))), some (.inl (g)), some (.inl (u)), some (.inl (op)), some (.inl (u)), u5, u6, u7] [] W from h)
set_option maxRecDepth 8000 in
theorem zp_MTrl2_3 {n K : Nat} {V : zW} {post : zPo} {g u op t : Int} {u5 u6 u7 : Option zv} (hK : 13 ≤ K) (hn : 142 ≤ n) (h : (zTp V) ∧ ∀ W4 : zW, (zFr [(90, 37)] [] V W4 ∧ zTp W4 ∧ zBn V (V.1 90 37) (W4.1 90 37)) → (¬ op = 0 → (zTp W4) ∧ ∀ r22 : Int, (r22 = zLk W4 (W4.1 90 37)) → (¬ r22 = 41 → zwp jtb zsh n zm_MTrl2 post (K - 8) (lGo ak_ZMTrl2 38) 38 [some (.inr (.inr (some (.inl 90)))), some (.inl (g)), some (.inl (u)), some (.inl (op)), some (.inl (t)), u5, u6, u7] [] W4) ∧ (r22 = 41 → (t = u → zwp jtb zsh n zm_MTrl2 post (K - 11) (lGo ak_ZMTrl2 38) 38 [some (.inr (.inr (some (.inl 90)))), some (.inl (g)), some (.inl (u)), some (.inl (op)), some (.inl (t)), u5, u6, u7] [] W4) ∧ (¬ t = u → post (some (.inl (0))) W4))) ∧ (op = 0 → (zTp W4) ∧ ∀ r12 : Int, (zRh W4 (W4.1 90 37) r12) → (r12 < 0 → zwp jtb zsh n zm_MTrl2 post (K - 7) (lGo ak_ZMTrl2 38) 38 [some (.inr (.inr (some (.inl 90)))), some (.inl (g)), some (.inl (u)), some (.inl (op)), some (.inl (t)), u5, u6, u7] [] W4) ∧ (¬ r12 < 0 → post (some (.inl (0))) W4))) : zwp jtb zsh n zm_MTrl2 post K (lGo ak_ZMTrl2 3) 3 [some (.inr (.inr (some (.inl 90)))), some (.inl (g)), some (.inl (u)), some (.inl (op)), some (.inl (t)), u5, u6, u7] [] V := by
  obtain ⟨kk__, rfl⟩ : ∃ kk__, K = kk__ + 13 := ⟨K - 13, by omega⟩
  exact (show 3 = 3 ∧ false = false ∧ jin3 275 2570 0 zm_MTrl2.2.2.1.1 = true ∧ lRm zm_MTrl2.2.1 { frames := 0, cells := 0, slots := 0, locals := 0 } 1 = true ∧ Nat.ble 1 1 = true ∧ Nat.ble 0 8 = true ∧ 90 < n ∧ 12 = 12 ∧ Nat.ble 1000 12 = false ∧ zc_MTbl [.inr (.inr (some (.inl 90)))] V (fun vv__ WW__ => zwp jtb zsh n zm_MTrl2 post (kk__ + 11) (lGo ak_ZMTrl2 7) 7 [some (.inr (.inr (some (.inl 90)))), some (.inl (g)), some (.inl (u)), some (.inl (op)), some (.inl (t)), u5, u6, u7] (vv__.toList ++ []) WW__) from ⟨rfl, rfl, rfl, rfl, rfl, rfl, (Nat.lt_of_lt_of_le (by decide) hn), rfl, rfl, rfl, (h).1, fun W4 hr4 => (show (¬ op = 0 → 3 = 3 ∧ false = false ∧ jin3 278 2574 2 zm_MTrl2.2.2.1.1 = true ∧ lRm zm_MTrl2.2.1 { frames := 0, cells := 0, slots := 0, locals := 0 } 1 = true ∧ Nat.ble 1 1 = true ∧ Nat.ble 0 8 = true ∧ 90 < n ∧ 12 = 12 ∧ Nat.ble 1000 12 = false ∧ zc_MTlook [.inr (.inr (some (.inl 90)))] W4 (fun vv__ WW__ => zwp jtb zsh n zm_MTrl2 post (kk__ + 7) (lGo ak_ZMTrl2 25) 25 [some (.inr (.inr (some (.inl 90)))), some (.inl (g)), some (.inl (u)), some (.inl (op)), some (.inl (t)), u5, u6, u7] (vv__.toList ++ []) WW__)) ∧ (op = 0 → 3 = 3 ∧ false = false ∧ jin3 318 2647 1 zm_MTrl2.2.2.1.1 = true ∧ lRm zm_MTrl2.2.1 { frames := 1, cells := 0, slots := 0, locals := 23 } 2 = true ∧ Nat.ble 1 1 = true ∧ Nat.ble 0 8 = true ∧ 90 < n ∧ 12 = 12 ∧ Nat.ble 1000 12 = false ∧ zc_MTrsh [.inr (.inr (some (.inl 90)))] W4 (fun vv__ WW__ => zwp jtb zsh n zm_MTrl2 post (kk__ + 7) (lGo ak_ZMTrl2 15) 15 [some (.inr (.inr (some (.inl 90)))), some (.inl (g)), some (.inl (u)), some (.inl (op)), some (.inl (t)), u5, u6, u7] (vv__.toList ++ []) WW__)) from ⟨fun c8_3 => (have h := ((((h).2 W4 hr4)).1 c8_3); ⟨rfl, rfl, rfl, rfl, rfl, rfl, (Nat.lt_of_lt_of_le (by decide) hn), rfl, rfl, rfl, (h).1, fun r22 hr22 => (show (¬ r22 = 41 → zwp jtb zsh n zm_MTrl2 post (kk__ + 5) (lGo ak_ZMTrl2 38) 38 [some (.inr (.inr (some (.inl 90)))), some (.inl (g)), some (.inl (u)), some (.inl (op)), some (.inl (t)), u5, u6, u7] [] W4) ∧ (r22 = 41 → (t = u → zwp jtb zsh n zm_MTrl2 post (kk__ + 2) (lGo ak_ZMTrl2 38) 38 [some (.inr (.inr (some (.inl 90)))), some (.inl (g)), some (.inl (u)), some (.inl (op)), some (.inl (t)), u5, u6, u7] [] W4) ∧ (¬ t = u → 1 = 1 ∧ True ∧ post (some (.inl (0))) W4)) from ⟨fun c27_7 => ((((h).2 r22 hr22)).1 c27_7), fun c27_7 => (have h := ((((h).2 r22 hr22)).2 c27_7); ⟨fun c33_10 => ((h).1 c33_10), fun c33_10 => ⟨rfl, trivial, ((h).2 c33_10)⟩⟩)⟩)⟩), fun c8_3 => (have h := ((((h).2 W4 hr4)).2 c8_3); ⟨rfl, rfl, rfl, rfl, rfl, rfl, (Nat.lt_of_lt_of_le (by decide) hn), rfl, rfl, rfl, (h).1, fun r12 hr12 => (show (r12 < 0 → zwp jtb zsh n zm_MTrl2 post (kk__ + 6) (lGo ak_ZMTrl2 38) 38 [some (.inr (.inr (some (.inl 90)))), some (.inl (g)), some (.inl (u)), some (.inl (op)), some (.inl (t)), u5, u6, u7] [] W4) ∧ (¬ r12 < 0 → 1 = 1 ∧ True ∧ post (some (.inl (0))) W4) from ⟨fun c15_6 => ((((h).2 r12 hr12)).1 c15_6), fun c15_6 => (have h := ((((h).2 r12 hr12)).2 c15_6); ⟨rfl, trivial, h⟩)⟩)⟩)⟩)⟩)
set_option maxRecDepth 8000 in
theorem zp_MTrl2_38 {n K : Nat} {V : zW} {post : zPo} {g u op t : Int} {u5 u6 u7 : Option zv} (hK : 11 ≤ K) (hn : 142 ≤ n) (h : ((0 ≤ g ∧ g ≤ 1) ∧ (∃ N, (0 ≤ t ∧ t ≤ N ∧ N ≤ 300) ∧ xOk (zSt V g) (zro V 94 g) (zro V 95 g) N) ∧ zSb V g) ∧ ∀ W42 : zW, (zAt W42 (xPo (zSt V g) (zro V 94 g) (zro V 95 g) t) ∧ zFr [(90, 25), (90, 26), (90, 27), (90, 28), (90, 29), (90, 33)] [110, 111, 112, 113, 114] V W42) → (zTp W42) ∧ ∀ r46 : Int, ∀ W46 : zW, (zFr [(90, 37)] [] W42 W46 ∧ zTp W46 ∧ zRn W42 W46 (W42.1 90 37) r46 ∧ 0 ≤ r46 ∧ r46 ≤ 1000000) → (r46 ≤ 0 → zwp jtb zsh n zm_MTrl2 post (K - 9) (lGo ak_ZMTrl2 59) 59 [some (.inr (.inr (some (.inl 90)))), some (.inl (g)), some (.inl (u)), some (.inl (op)), some (.inl (t)), some (.inl (r46)), u6, u7] [] W46) ∧ (¬ r46 ≤ 0 → post (some (.inl (r46))) W46)) : zwp jtb zsh n zm_MTrl2 post K (lGo ak_ZMTrl2 38) 38 [some (.inr (.inr (some (.inl 90)))), some (.inl (g)), some (.inl (u)), some (.inl (op)), some (.inl (t)), u5, u6, u7] [] V := by
  obtain ⟨kk__, rfl⟩ : ∃ kk__, K = kk__ + 11 := ⟨K - 11, by omega⟩
  exact (show 3 = 3 ∧ false = false ∧ jin3 96 1933 3 zm_MTrl2.2.2.1.1 = true ∧ lRm zm_MTrl2.2.1 { frames := 6, cells := 0, slots := 0, locals := 157 } 5 = true ∧ Nat.ble 3 3 = true ∧ Nat.ble 0 8 = true ∧ 90 < n ∧ 12 = 12 ∧ Nat.ble 1000 12 = false ∧ zc_MTplace [.inr (.inr (some (.inl 90))), .inl (g), .inl (t)] V (fun vv__ WW__ => zwp jtb zsh n zm_MTrl2 post (kk__ + 7) (lGo ak_ZMTrl2 45) 45 [some (.inr (.inr (some (.inl 90)))), some (.inl (g)), some (.inl (u)), some (.inl (op)), some (.inl (t)), u5, u6, u7] (vv__.toList ++ []) WW__) from ⟨rfl, rfl, rfl, rfl, rfl, rfl, (Nat.lt_of_lt_of_le (by decide) hn), rfl, rfl, g, t, rfl, (h).1, fun W42 hr42 => (show 3 = 3 ∧ false = false ∧ jin3 321 2655 4 zm_MTrl2.2.2.1.1 = true ∧ lRm zm_MTrl2.2.1 { frames := 1, cells := 0, slots := 0, locals := 21 } 4 = true ∧ Nat.ble 1 1 = true ∧ Nat.ble 0 8 = true ∧ 90 < n ∧ 12 = 12 ∧ Nat.ble 1000 12 = false ∧ zc_MTrmn [.inr (.inr (some (.inl 90)))] W42 (fun vv__ WW__ => zwp jtb zsh n zm_MTrl2 post (kk__ + 5) (lGo ak_ZMTrl2 49) 49 [some (.inr (.inr (some (.inl 90)))), some (.inl (g)), some (.inl (u)), some (.inl (op)), some (.inl (t)), u5, u6, u7] (vv__.toList ++ []) WW__) from ⟨rfl, rfl, rfl, rfl, rfl, rfl, (Nat.lt_of_lt_of_le (by decide) hn), rfl, rfl, rfl, (((h).2 W42 hr42)).1, fun r46 W46 hr46 => (show (r46 ≤ 0 → zwp jtb zsh n zm_MTrl2 post (kk__ + 2) (lGo ak_ZMTrl2 59) 59 [some (.inr (.inr (some (.inl 90)))), some (.inl (g)), some (.inl (u)), some (.inl (op)), some (.inl (t)), some (.inl (r46)), u6, u7] [] W46) ∧ (¬ r46 ≤ 0 → 1 = 1 ∧ True ∧ post (some (.inl (r46))) W46) from (have h := ((((h).2 W42 hr42)).2 r46 W46 hr46); ⟨fun c53_8 => ((h).1 c53_8), fun c53_8 => ⟨rfl, trivial, ((h).2 c53_8)⟩⟩))⟩)⟩)
set_option maxRecDepth 8000 in
theorem zp_MTrl2_59 {n K : Nat} {V : zW} {post : zPo} {g u op t y : Int} {u6 u7 : Option zv} (hK : 11 ≤ K) (hn : 142 ≤ n) (h : ∃ s63 : gSt, (gW V g s63 ∧ s63.2.2.2.1 = t ∧ zAt V (gPo s63) ∧ trE s63.2.1.2.2.1 (xLd s63.2.1.2.2.2.2.1) t + (if s63.2.1.2.2.2.2.1 t = [] then 0 else 1) ≤ 6) ∧ ∀ r63 : Int, ∀ W63 : zW, (zFr [(90, 36), (90, 37)] [93, 94, 95, 96, 97, 98, 100, 110, 111, 112, 115] V W63 ∧ zFo g V W63 ∧ ((r63 < 0 ∧ -1000000 ≤ r63 ∧ gMv (V.2.1 91) (V.1 90 1) s63 (V.1 90 37) none) ∨ (0 ≤ r63 ∧ ∃ e m, xLt (xLk (V.2.1 91) (V.1 90 1) (V.1 90 37)) ∧ xWd (V.2.1 91) (V.1 90 1) (V.1 90 37) e ∧ zUn (gPo s63).1 (fun i => V.2.1 91 (V.1 90 37 + i)) (e - V.1 90 37) m ∧ ¬ gMb s63 m ∧ r63 = s63.2.1.2.1 + 1 ∧ W63.1 90 37 = e ∧ gW W63 g (e, xApp s63.2.1 t m, zuI s63.2.2.1 (s63.2.1.2.1 + 1) 0, s63.2.1.2.1 + 1, 2, s63.2.2.2.2.2)))) → (0 ≤ r63 → zwp jtb zsh n zm_MTrl2 post (K - 11) (lGo ak_ZMTrl2 85) 85 [some (.inr (.inr (some (.inl 90)))), some (.inl (g)), some (.inl (u)), some (.inl (op)), some (.inl (r63)), some (.inl (y)), some (.inl (r63)), some (.inl (t))] [] W63) ∧ (¬ 0 ≤ r63 → (-2147483648 ≤ -r63 ∧ -r63 ≤ 2147483647) ∧ post (some (.inl (-r63))) W63)) : zwp jtb zsh n zm_MTrl2 post K (lGo ak_ZMTrl2 59) 59 [some (.inr (.inr (some (.inl 90)))), some (.inl (g)), some (.inl (u)), some (.inl (op)), some (.inl (t)), some (.inl (y)), u6, u7] [] V := by
  obtain ⟨kk__, rfl⟩ : ∃ kk__, K = kk__ + 11 := ⟨K - 11, by omega⟩
  exact (show 3 = 3 ∧ false = false ∧ jin3 324 2659 5 zm_MTrl2.2.2.1.1 = true ∧ lRm zm_MTrl2.2.1 { frames := 8, cells := 0, slots := 0, locals := 210 } 5 = true ∧ Nat.ble 3 3 = true ∧ Nat.ble 0 8 = true ∧ 90 < n ∧ 12 = 12 ∧ Nat.ble 1000 12 = false ∧ zc_MTrmv [.inr (.inr (some (.inl 90))), .inl (g), .inl (t)] V (fun vv__ WW__ => zwp jtb zsh n zm_MTrl2 post (kk__ + 7) (lGo ak_ZMTrl2 66) 66 [some (.inr (.inr (some (.inl 90)))), some (.inl (g)), some (.inl (u)), some (.inl (op)), some (.inl (t)), some (.inl (y)), u6, u7] (vv__.toList ++ []) WW__) from (Exists.elim (h) (fun s63 gh63 => ⟨rfl, rfl, rfl, rfl, rfl, rfl, (Nat.lt_of_lt_of_le (by decide) hn), rfl, rfl, g, t, s63, rfl, (gh63).1, fun r63 W63 hr63 => (show (0 ≤ r63 → zwp jtb zsh n zm_MTrl2 post (kk__ + 0) (lGo ak_ZMTrl2 85) 85 [some (.inr (.inr (some (.inl 90)))), some (.inl (g)), some (.inl (u)), some (.inl (op)), some (.inl (r63)), some (.inl (y)), some (.inl (r63)), some (.inl (t))] [] W63) ∧ (¬ 0 ≤ r63 → (-2147483648 ≤ -r63 ∧ -r63 ≤ 2147483647) ∧ 1 = 1 ∧ True ∧ post (some (.inl (-r63))) W63) from ⟨fun c70_6 => ((((gh63).2 r63 W63 hr63)).1 c70_6), fun c70_6 => (have h := ((((gh63).2 r63 W63 hr63)).2 c70_6); ⟨(h).1, ⟨rfl, trivial, (h).2⟩⟩)⟩)⟩)))
set_option maxRecDepth 8000 in
theorem zp_MTrl2_85 {n K : Nat} {V : zW} {post : zPo} {g u op t y x b : Int}  (hK : 10 ≤ K) (hn : 142 ≤ n) (h : ∃ s89 : gSt, (gW V g s89 ∧ s89.2.2.2.1 = t ∧ s89.2.2.2.2.1 = 2 ∧ s89.2.1.2.2.2.2.2 t = 0 ∧ zBn V (V.1 90 37) s89.1) ∧ ∀ r89 : Int, ∀ W89 : zW, (zFr [(90, 37)] [98, 99] V W89 ∧ zFo g V W89 ∧ ((r89 = 0 ∧ ∃ s2 : gSt, gP (V.2.1 91) (V.1 90 1) s89 s2 ∧ gW W89 g s2 ∧ W89.1 90 37 = s2.1 ∧ s2.2.2.2.1 = t ∧ s2.2.2.2.2.2 = s89.2.2.2.2.2 ∧ ((s2.2.2.2.2.1 = 2 ∧ ¬ gcM (xLk (V.2.1 91) (V.1 90 1) s2.1)) ∨ (s2.2.2.2.2.1 = 3 ∧ ¬ xLk (V.2.1 91) (V.1 90 1) s2.1 = 36))) ∨ (0 < r89 ∧ r89 ≤ 1000000 ∧ gF (V.2.1 91) (V.1 90 1) s89))) → (r89 ≤ 0 → zwp jtb zsh n zm_MTrl2 post (K - 7) (lGo ak_ZMTrl2 104) 104 [some (.inr (.inr (some (.inl 90)))), some (.inl (g)), some (.inl (u)), some (.inl (op)), some (.inl (t)), some (.inl (r89)), some (.inl (x)), some (.inl (b))] [] W89) ∧ (¬ r89 ≤ 0 → zwp jtb zsh n zm_MTrl2 post (K - 10) (lGo ak_ZMTrl2 113) 113 [some (.inr (.inr (some (.inl 90)))), some (.inl (g)), some (.inl (u)), some (.inl (op)), some (.inl (t)), some (.inl (r89)), some (.inl (x)), some (.inl (b))] [] W89)) : zwp jtb zsh n zm_MTrl2 post K (lGo ak_ZMTrl2 85) 85 [some (.inr (.inr (some (.inl 90)))), some (.inl (g)), some (.inl (u)), some (.inl (op)), some (.inl (t)), some (.inl (y)), some (.inl (x)), some (.inl (b))] [] V := by
  obtain ⟨kk__, rfl⟩ : ∃ kk__, K = kk__ + 10 := ⟨K - 10, by omega⟩
  exact (show 3 = 3 ∧ false = false ∧ jin3 327 2710 6 zm_MTrl2.2.2.1.1 = true ∧ lRm zm_MTrl2.2.1 { frames := 1, cells := 0, slots := 0, locals := 24 } 6 = true ∧ Nat.ble 3 3 = true ∧ Nat.ble 0 8 = true ∧ 90 < n ∧ 12 = 12 ∧ Nat.ble 1000 12 = false ∧ zc_MTrmk [.inr (.inr (some (.inl 90))), .inl (g), .inl (t)] V (fun vv__ WW__ => zwp jtb zsh n zm_MTrl2 post (kk__ + 6) (lGo ak_ZMTrl2 92) 92 [some (.inr (.inr (some (.inl 90)))), some (.inl (g)), some (.inl (u)), some (.inl (op)), some (.inl (t)), some (.inl (y)), some (.inl (x)), some (.inl (b))] (vv__.toList ++ []) WW__) from (Exists.elim (h) (fun s89 gh89 => ⟨rfl, rfl, rfl, rfl, rfl, rfl, (Nat.lt_of_lt_of_le (by decide) hn), rfl, rfl, g, t, s89, rfl, (gh89).1, fun r89 W89 hr89 => (show (r89 ≤ 0 → zwp jtb zsh n zm_MTrl2 post (kk__ + 3) (lGo ak_ZMTrl2 104) 104 [some (.inr (.inr (some (.inl 90)))), some (.inl (g)), some (.inl (u)), some (.inl (op)), some (.inl (t)), some (.inl (r89)), some (.inl (x)), some (.inl (b))] [] W89) ∧ (¬ r89 ≤ 0 → zwp jtb zsh n zm_MTrl2 post (kk__ + 0) (lGo ak_ZMTrl2 113) 113 [some (.inr (.inr (some (.inl 90)))), some (.inl (g)), some (.inl (u)), some (.inl (op)), some (.inl (t)), some (.inl (r89)), some (.inl (x)), some (.inl (b))] [] W89) from ⟨fun c96_6 => ((((gh89).2 r89 W89 hr89)).1 c96_6), fun c96_6 => ((((gh89).2 r89 W89 hr89)).2 c96_6)⟩)⟩)))
set_option maxRecDepth 8000 in
theorem zp_MTrl2_104 {n K : Nat} {V : zW} {post : zPo} {g u op t y x b : Int}  (hK : 5 ≤ K) (hn : 142 ≤ n) (h : ∃ s108 : gSt, (gW V g s108 ∧ s108.2.2.2.1 = t ∧ ¬ s108.2.2.2.2.1 = 1 ∧ zBn V (V.1 90 37) s108.1) ∧ ∀ r108 : Int, ∀ W108 : zW, (zFr [(90, 37)] [100, 101] V W108 ∧ zFo g V W108 ∧ ((r108 = 0 ∧ ∃ s2 : gSt, gP (V.2.1 91) (V.1 90 1) s108 s2 ∧ gW W108 g s2 ∧ W108.1 90 37 = s2.1 ∧ s2.2.2.2.1 = t ∧ s2.2.2.2.2.2 = s108.2.2.2.2.2 ∧ s2.2.1 = s108.2.1 ∧ ((s2.2.2.2.2.1 = s108.2.2.2.2.1 ∧ s2.1 = s108.1) ∨ s2.2.2.2.2.1 = (if s108.2.2.2.2.1 = 0 then 0 else 4)) ∧ ¬ gcR (xLk (V.2.1 91) (V.1 90 1) s2.1)) ∨ (0 < r108 ∧ r108 ≤ 1000000 ∧ gF (V.2.1 91) (V.1 90 1) s108))) → zwp jtb zsh n zm_MTrl2 post (K - 5) (lGo ak_ZMTrl2 113) 113 [some (.inr (.inr (some (.inl 90)))), some (.inl (g)), some (.inl (u)), some (.inl (op)), some (.inl (t)), some (.inl (r108)), some (.inl (x)), some (.inl (b))] [] W108) : zwp jtb zsh n zm_MTrl2 post K (lGo ak_ZMTrl2 104) 104 [some (.inr (.inr (some (.inl 90)))), some (.inl (g)), some (.inl (u)), some (.inl (op)), some (.inl (t)), some (.inl (y)), some (.inl (x)), some (.inl (b))] [] V := by
  obtain ⟨kk__, rfl⟩ : ∃ kk__, K = kk__ + 5 := ⟨K - 5, by omega⟩
  exact (show 3 = 3 ∧ false = false ∧ jin3 330 2639 7 zm_MTrl2.2.2.1.1 = true ∧ lRm zm_MTrl2.2.1 { frames := 1, cells := 0, slots := 0, locals := 21 } 11 = true ∧ Nat.ble 3 3 = true ∧ Nat.ble 0 8 = true ∧ 90 < n ∧ 12 = 12 ∧ Nat.ble 1000 12 = false ∧ zc_MTrrm [.inr (.inr (some (.inl 90))), .inl (g), .inl (t)] V (fun vv__ WW__ => zwp jtb zsh n zm_MTrl2 post (kk__ + 1) (lGo ak_ZMTrl2 111) 111 [some (.inr (.inr (some (.inl 90)))), some (.inl (g)), some (.inl (u)), some (.inl (op)), some (.inl (t)), some (.inl (y)), some (.inl (x)), some (.inl (b))] (vv__.toList ++ []) WW__) from (Exists.elim (h) (fun s108 gh108 => ⟨rfl, rfl, rfl, rfl, rfl, rfl, (Nat.lt_of_lt_of_le (by decide) hn), rfl, rfl, g, t, s108, rfl, (gh108).1, fun r108 W108 hr108 => (show zwp jtb zsh n zm_MTrl2 post (kk__ + 0) (lGo ak_ZMTrl2 113) 113 [some (.inr (.inr (some (.inl 90)))), some (.inl (g)), some (.inl (u)), some (.inl (op)), some (.inl (t)), some (.inl (r108)), some (.inl (x)), some (.inl (b))] [] W108 from ((gh108).2 r108 W108 hr108))⟩)))
set_option maxRecDepth 8000 in
theorem zp_MTrl2_113 {n K : Nat} {V : zW} {post : zPo} {g u op t y x b : Int}  (hK : 40 ≤ K) (hn : 142 ≤ n) (h : (¬ y = 0 → (y ≤ 0 → zwp jtb zsh n zm_MTrl2 post (K - 5) (lGo ak_ZMTrl2 3) 3 [some (.inr (.inr (some (.inl 90)))), some (.inl (g)), some (.inl (u)), some (.inl (op)), some (.inl (t)), some (.inl (y)), some (.inl (x)), some (.inl (b))] [] V) ∧ (¬ y ≤ 0 → post (some (.inl (y))) V)) ∧ (y = 0 → (zTp V) ∧ ∀ r119 : Int, (r119 = zLk V (V.1 90 37)) → (¬ r119 = 40 → (y ≤ 0 → zwp jtb zsh n zm_MTrl2 post (K - 9) (lGo ak_ZMTrl2 3) 3 [some (.inr (.inr (some (.inl 90)))), some (.inl (g)), some (.inl (u)), some (.inl (op)), some (.inl (t)), some (.inl (y)), some (.inl (x)), some (.inl (b))] [] V) ∧ (¬ y ≤ 0 → post (some (.inl (y))) V)) ∧ (r119 = 40 → (¬ op = 6 → (-2147483648 ≤ (V.1 90 37) + 1 ∧ (V.1 90 37) + 1 ≤ 2147483647) ∧ zwp jtb zsh n zm_MTrl2 post (K - 19) (lGo ak_ZMTrl2 168) 168 [some (.inr (.inr (some (.inl 90)))), some (.inl (g)), some (.inl (u)), some (.inl (op)), some (.inl (t)), some (.inl (0)), some (.inl (x)), some (.inl (b))] [] (zuF V 90 37 ((V.1 90 37) + 1))) ∧ (op = 6 → ((1 ≤ (8 : Int) ∧ (8 : Int) ≤ 9) ∧ 0 ≤ (V.1 90 37) ∧ (V.1 90 37) ≤ 65536) ∧ ∀ r139 : Int, (r139 = 100000 * (8 : Int) + (V.1 90 37)) → (-2147483648 ≤ (V.1 90 37) + 1 ∧ (V.1 90 37) + 1 ≤ 2147483647) ∧ (r139 ≤ 0 → zwp jtb zsh n zm_MTrl2 post (K - 23) (lGo ak_ZMTrl2 168) 168 [some (.inr (.inr (some (.inl 90)))), some (.inl (g)), some (.inl (u)), some (.inl (op)), some (.inl (t)), some (.inl (r139)), some (.inl (x)), some (.inl (b))] [] (zuF V 90 37 ((V.1 90 37) + 1))) ∧ (¬ r139 ≤ 0 → (r139 ≤ 0 → (-2147483648 ≤ ((V.1 90 37) + 1) + 1 ∧ ((V.1 90 37) + 1) + 1 ≤ 2147483647) ∧ (r139 ≤ 0 → zwp jtb zsh n zm_MTrl2 post (K - 36) (lGo ak_ZMTrl2 212) 212 [some (.inr (.inr (some (.inl 90)))), some (.inl (g)), some (.inl (u)), some (.inl (op)), some (.inl (t)), some (.inl (r139)), some (.inl (x)), some (.inl (b))] [] (zuF (zuF V 90 37 ((V.1 90 37) + 1)) 90 37 (((V.1 90 37) + 1) + 1))) ∧ (¬ r139 ≤ 0 → zwp jtb zsh n zm_MTrl2 post (K - 40) (lGo ak_ZMTrl2 113) 113 [some (.inr (.inr (some (.inl 90)))), some (.inl (g)), some (.inl (u)), some (.inl (op)), some (.inl (t)), some (.inl (r139)), some (.inl (x)), some (.inl (b))] [] (zuF (zuF V 90 37 ((V.1 90 37) + 1)) 90 37 (((V.1 90 37) + 1) + 1)))) ∧ (¬ r139 ≤ 0 → (r139 ≤ 0 → zwp jtb zsh n zm_MTrl2 post (K - 35) (lGo ak_ZMTrl2 212) 212 [some (.inr (.inr (some (.inl 90)))), some (.inl (g)), some (.inl (u)), some (.inl (op)), some (.inl (t)), some (.inl (r139)), some (.inl (x)), some (.inl (b))] [] (zuF (zuF V 90 37 ((V.1 90 37) + 1)) 90 37 ((V.1 90 37) + 1))) ∧ (¬ r139 ≤ 0 → zwp jtb zsh n zm_MTrl2 post (K - 39) (lGo ak_ZMTrl2 113) 113 [some (.inr (.inr (some (.inl 90)))), some (.inl (g)), some (.inl (u)), some (.inl (op)), some (.inl (t)), some (.inl (r139)), some (.inl (x)), some (.inl (b))] [] (zuF (zuF V 90 37 ((V.1 90 37) + 1)) 90 37 ((V.1 90 37) + 1))))))))) : zwp jtb zsh n zm_MTrl2 post K (lGo ak_ZMTrl2 113) 113 [some (.inr (.inr (some (.inl 90)))), some (.inl (g)), some (.inl (u)), some (.inl (op)), some (.inl (t)), some (.inl (y)), some (.inl (x)), some (.inl (b))] [] V := by
  obtain ⟨kk__, rfl⟩ : ∃ kk__, K = kk__ + 40 := ⟨K - 40, by omega⟩
  exact (show (¬ y = 0 → (y ≤ 0 → zwp jtb zsh n zm_MTrl2 post (kk__ + 35) (lGo ak_ZMTrl2 3) 3 [some (.inr (.inr (some (.inl 90)))), some (.inl (g)), some (.inl (u)), some (.inl (op)), some (.inl (t)), some (.inl (y)), some (.inl (x)), some (.inl (b))] [] V) ∧ (¬ y ≤ 0 → 1 = 1 ∧ True ∧ post (some (.inl (y))) V)) ∧ (y = 0 → 3 = 3 ∧ false = false ∧ jin3 278 2574 2 zm_MTrl2.2.2.1.1 = true ∧ lRm zm_MTrl2.2.1 { frames := 0, cells := 0, slots := 0, locals := 0 } 1 = true ∧ Nat.ble 1 1 = true ∧ Nat.ble 0 8 = true ∧ 90 < n ∧ 12 = 12 ∧ Nat.ble 1000 12 = false ∧ zc_MTlook [.inr (.inr (some (.inl 90)))] V (fun vv__ WW__ => zwp jtb zsh n zm_MTrl2 post (kk__ + 36) (lGo ak_ZMTrl2 122) 122 [some (.inr (.inr (some (.inl 90)))), some (.inl (g)), some (.inl (u)), some (.inl (op)), some (.inl (t)), some (.inl (y)), some (.inl (x)), some (.inl (b))] (vv__.toList ++ []) WW__)) from ⟨fun c115_1 => ⟨fun c226_3 => ((((h).1 c115_1)).1 c226_3), fun c226_3 => (have h := ((((h).1 c115_1)).2 c226_3); ⟨rfl, trivial, h⟩)⟩, fun c115_1 => ⟨rfl, rfl, rfl, rfl, rfl, rfl, (Nat.lt_of_lt_of_le (by decide) hn), rfl, rfl, rfl, (((h).2 c115_1)).1, fun r119 hr119 => (show (¬ r119 = 40 → (y ≤ 0 → zwp jtb zsh n zm_MTrl2 post (kk__ + 31) (lGo ak_ZMTrl2 3) 3 [some (.inr (.inr (some (.inl 90)))), some (.inl (g)), some (.inl (u)), some (.inl (op)), some (.inl (t)), some (.inl (y)), some (.inl (x)), some (.inl (b))] [] V) ∧ (¬ y ≤ 0 → 1 = 1 ∧ True ∧ post (some (.inl (y))) V)) ∧ (r119 = 40 → (¬ op = 6 → 90 < n ∧ 12 = 12 ∧ (-2147483648 ≤ (V.1 90 37) + 1 ∧ (V.1 90 37) + 1 ≤ 2147483647) ∧ 90 < n ∧ 12 = 12 ∧ (some 0 : Option Nat) = some 0 ∧ ((0 : Nat) = 0 ∨ ((0 : Nat) = 1 ∧ (((V.1 90 37) + 1) = 0 ∨ ((V.1 90 37) + 1) = 1))) ∧ ((0 : Int) ≤ 0 → zwp jtb zsh n zm_MTrl2 post (kk__ + 21) (lGo ak_ZMTrl2 168) 168 [some (.inr (.inr (some (.inl 90)))), some (.inl (g)), some (.inl (u)), some (.inl (op)), some (.inl (t)), some (.inl (0)), some (.inl (x)), some (.inl (b))] [] (zuF V 90 37 ((V.1 90 37) + 1))) ∧ (¬ (0 : Int) ≤ 0 → zwp jtb zsh n zm_MTrl2 post (kk__ + 21) (lGo ak_ZMTrl2 163) 163 [some (.inr (.inr (some (.inl 90)))), some (.inl (g)), some (.inl (u)), some (.inl (op)), some (.inl (t)), some (.inl (0)), some (.inl (x)), some (.inl (b))] [] (zuF V 90 37 ((V.1 90 37) + 1)))) ∧ (op = 6 → 90 < n ∧ 12 = 12 ∧ 3 = 3 ∧ true = true ∧ jin3 287 2588 8 zm_MTrl2.2.2.1.1 = true ∧ lRm zm_MTrl2.2.1 { frames := 0, cells := 0, slots := 0, locals := 0 } 2 = true ∧ Nat.ble 2 2 = true ∧ Nat.ble 0 8 = true ∧ zc_MTflt [.inl (8), .inl (V.1 90 37)] V (fun vv__ WW__ => zwp jtb zsh n zm_MTrl2 post (kk__ + 27) (lGo ak_ZMTrl2 142) 142 [some (.inr (.inr (some (.inl 90)))), some (.inl (g)), some (.inl (u)), some (.inl (op)), some (.inl (t)), some (.inl (y)), some (.inl (x)), some (.inl (b))] (vv__.toList ++ []) WW__))) from (have h := ((((h).2 c115_1)).2 r119 hr119); ⟨fun c124_5 => ⟨fun c226_7 => ((((h).1 c124_5)).1 c226_7), fun c226_7 => (have h := ((((h).1 c124_5)).2 c226_7); ⟨rfl, trivial, h⟩)⟩, fun c124_5 => ⟨fun c130_8 => (have h := ((((h).2 c124_5)).1 c130_8); ⟨(Nat.lt_of_lt_of_le (by decide) hn), rfl, ⟨(h).1, ⟨(Nat.lt_of_lt_of_le (by decide) hn), rfl, rfl, (Or.inl rfl), ⟨fun _ => (h).2, fun hc18 => absurd hc18 (by decide)⟩⟩⟩⟩), fun c130_8 => (have h := ((((h).2 c124_5)).2 c130_8); ⟨(Nat.lt_of_lt_of_le (by decide) hn), rfl, ⟨rfl, rfl, rfl, rfl, rfl, rfl, 8, V.1 90 37, rfl, (h).1, fun r139 hr139 => (show 90 < n ∧ 12 = 12 ∧ (-2147483648 ≤ (V.1 90 37) + 1 ∧ (V.1 90 37) + 1 ≤ 2147483647) ∧ 90 < n ∧ 12 = 12 ∧ (some 0 : Option Nat) = some 0 ∧ ((0 : Nat) = 0 ∨ ((0 : Nat) = 1 ∧ (((V.1 90 37) + 1) = 0 ∨ ((V.1 90 37) + 1) = 1))) ∧ (r139 ≤ 0 → zwp jtb zsh n zm_MTrl2 post (kk__ + 17) (lGo ak_ZMTrl2 168) 168 [some (.inr (.inr (some (.inl 90)))), some (.inl (g)), some (.inl (u)), some (.inl (op)), some (.inl (t)), some (.inl (r139)), some (.inl (x)), some (.inl (b))] [] (zuF V 90 37 ((V.1 90 37) + 1))) ∧ (¬ r139 ≤ 0 → (r139 ≤ 0 → 90 < n ∧ 12 = 12 ∧ (-2147483648 ≤ ((V.1 90 37) + 1) + 1 ∧ ((V.1 90 37) + 1) + 1 ≤ 2147483647) ∧ 90 < n ∧ 12 = 12 ∧ (some 0 : Option Nat) = some 0 ∧ ((0 : Nat) = 0 ∨ ((0 : Nat) = 1 ∧ ((((V.1 90 37) + 1) + 1) = 0 ∨ (((V.1 90 37) + 1) + 1) = 1))) ∧ (r139 ≤ 0 → zwp jtb zsh n zm_MTrl2 post (kk__ + 4) (lGo ak_ZMTrl2 212) 212 [some (.inr (.inr (some (.inl 90)))), some (.inl (g)), some (.inl (u)), some (.inl (op)), some (.inl (t)), some (.inl (r139)), some (.inl (x)), some (.inl (b))] [] (zuF (zuF V 90 37 ((V.1 90 37) + 1)) 90 37 (((V.1 90 37) + 1) + 1))) ∧ (¬ r139 ≤ 0 → zwp jtb zsh n zm_MTrl2 post (kk__ + 0) (lGo ak_ZMTrl2 113) 113 [some (.inr (.inr (some (.inl 90)))), some (.inl (g)), some (.inl (u)), some (.inl (op)), some (.inl (t)), some (.inl (r139)), some (.inl (x)), some (.inl (b))] [] (zuF (zuF V 90 37 ((V.1 90 37) + 1)) 90 37 (((V.1 90 37) + 1) + 1)))) ∧ (¬ r139 ≤ 0 → 90 < n ∧ 12 = 12 ∧ 90 < n ∧ 12 = 12 ∧ (some 0 : Option Nat) = some 0 ∧ ((0 : Nat) = 0 ∨ ((0 : Nat) = 1 ∧ (((V.1 90 37) + 1) = 0 ∨ ((V.1 90 37) + 1) = 1))) ∧ (r139 ≤ 0 → zwp jtb zsh n zm_MTrl2 post (kk__ + 5) (lGo ak_ZMTrl2 212) 212 [some (.inr (.inr (some (.inl 90)))), some (.inl (g)), some (.inl (u)), some (.inl (op)), some (.inl (t)), some (.inl (r139)), some (.inl (x)), some (.inl (b))] [] (zuF (zuF V 90 37 ((V.1 90 37) + 1)) 90 37 ((V.1 90 37) + 1))) ∧ (¬ r139 ≤ 0 → zwp jtb zsh n zm_MTrl2 post (kk__ + 1) (lGo ak_ZMTrl2 113) 113 [some (.inr (.inr (some (.inl 90)))), some (.inl (g)), some (.inl (u)), some (.inl (op)), some (.inl (t)), some (.inl (r139)), some (.inl (x)), some (.inl (b))] [] (zuF (zuF V 90 37 ((V.1 90 37) + 1)) 90 37 ((V.1 90 37) + 1))))) from ⟨(Nat.lt_of_lt_of_le (by decide) hn), rfl, ⟨(((h).2 r139 hr139)).1, ⟨(Nat.lt_of_lt_of_le (by decide) hn), rfl, rfl, (Or.inl rfl), ⟨fun c160_22 => (((((h).2 r139 hr139)).2).1 c160_22), fun c160_22 => (have h := (((((h).2 r139 hr139)).2).2 c160_22); ⟨fun c183_28 => ⟨(Nat.lt_of_lt_of_le (by decide) hn), rfl, ⟨(((h).1 c183_28)).1, ⟨(Nat.lt_of_lt_of_le (by decide) hn), rfl, rfl, (Or.inl rfl), ⟨fun c204_35 => (((((h).1 c183_28)).2).1 c204_35), fun c204_35 => (((((h).1 c183_28)).2).2 c204_35)⟩⟩⟩⟩, fun c183_28 => ⟨(Nat.lt_of_lt_of_le (by decide) hn), rfl, ⟨(Nat.lt_of_lt_of_le (by decide) hn), rfl, rfl, (Or.inl rfl), ⟨fun c204_34 => ((((h).2 c183_28)).1 c204_34), fun c204_34 => ((((h).2 c183_28)).2 c204_34)⟩⟩⟩⟩)⟩⟩⟩⟩)⟩⟩)⟩⟩))⟩⟩)
set_option maxRecDepth 8000 in
theorem zp_MTrl2_168 {n K : Nat} {V : zW} {post : zPo} {g u op t y x b : Int}  (hK : 22 ≤ K) (hn : 142 ≤ n) (h : (-2147483648 ≤ op + 1 ∧ op + 1 ≤ 2147483647) ∧ ∃ s175 : gSt, ((op + 1) = 3 ∧ gLp V g b 3 s175) ∧ ∀ r175 : Int, ∀ W175 : zW, (gLq V W175 g 3 r175 s175) → (r175 ≤ 0 → (-2147483648 ≤ (W175.1 90 37) + 1 ∧ (W175.1 90 37) + 1 ≤ 2147483647) ∧ (r175 ≤ 0 → zwp jtb zsh n zm_MTrl2 post (K - 18) (lGo ak_ZMTrl2 212) 212 [some (.inr (.inr (some (.inl 90)))), some (.inl (g)), some (.inl (u)), some (.inl (op)), some (.inl (t)), some (.inl (r175)), some (.inl (x)), some (.inl (b))] [] (zuF W175 90 37 ((W175.1 90 37) + 1))) ∧ (¬ r175 ≤ 0 → zwp jtb zsh n zm_MTrl2 post (K - 22) (lGo ak_ZMTrl2 113) 113 [some (.inr (.inr (some (.inl 90)))), some (.inl (g)), some (.inl (u)), some (.inl (op)), some (.inl (t)), some (.inl (r175)), some (.inl (x)), some (.inl (b))] [] (zuF W175 90 37 ((W175.1 90 37) + 1)))) ∧ (¬ r175 ≤ 0 → (r175 ≤ 0 → zwp jtb zsh n zm_MTrl2 post (K - 17) (lGo ak_ZMTrl2 212) 212 [some (.inr (.inr (some (.inl 90)))), some (.inl (g)), some (.inl (u)), some (.inl (op)), some (.inl (t)), some (.inl (r175)), some (.inl (x)), some (.inl (b))] [] (zuF W175 90 37 (W175.1 90 37))) ∧ (¬ r175 ≤ 0 → zwp jtb zsh n zm_MTrl2 post (K - 21) (lGo ak_ZMTrl2 113) 113 [some (.inr (.inr (some (.inl 90)))), some (.inl (g)), some (.inl (u)), some (.inl (op)), some (.inl (t)), some (.inl (r175)), some (.inl (x)), some (.inl (b))] [] (zuF W175 90 37 (W175.1 90 37))))) : zwp jtb zsh n zm_MTrl2 post K (lGo ak_ZMTrl2 168) 168 [some (.inr (.inr (some (.inl 90)))), some (.inl (g)), some (.inl (u)), some (.inl (op)), some (.inl (t)), some (.inl (y)), some (.inl (x)), some (.inl (b))] [] V := by
  obtain ⟨kk__, rfl⟩ : ∃ kk__, K = kk__ + 22 := ⟨K - 22, by omega⟩
  exact (show (-2147483648 ≤ op + 1 ∧ op + 1 ≤ 2147483647) ∧ 3 = 3 ∧ false = false ∧ jin3 333 2643 9 zm_MTrl2.2.2.1.1 = true ∧ lRm zm_MTrl2.2.1 { frames := 12, cells := 0, slots := 0, locals := 315 } 8 = true ∧ Nat.ble 4 4 = true ∧ Nat.ble 0 8 = true ∧ 90 < n ∧ 12 = 12 ∧ Nat.ble 1000 12 = false ∧ zc_MTrl3 [.inr (.inr (some (.inl 90))), .inl (g), .inl (b), .inl (op + 1)] V (fun vv__ WW__ => zwp jtb zsh n zm_MTrl2 post (kk__ + 15) (lGo ak_ZMTrl2 178) 178 [some (.inr (.inr (some (.inl 90)))), some (.inl (g)), some (.inl (u)), some (.inl (op)), some (.inl (t)), some (.inl (y)), some (.inl (x)), some (.inl (b))] (vv__.toList ++ []) WW__) from ⟨(h).1, (Exists.elim ((h).2) (fun s175 gh175 => ⟨rfl, rfl, rfl, rfl, rfl, rfl, (Nat.lt_of_lt_of_le (by decide) hn), rfl, rfl, g, b, op + 1, s175, rfl, (gh175).1, fun r175 W175 hr175 => (show (r175 ≤ 0 → 90 < n ∧ 12 = 12 ∧ (-2147483648 ≤ (W175.1 90 37) + 1 ∧ (W175.1 90 37) + 1 ≤ 2147483647) ∧ 90 < n ∧ 12 = 12 ∧ (some 0 : Option Nat) = some 0 ∧ ((0 : Nat) = 0 ∨ ((0 : Nat) = 1 ∧ (((W175.1 90 37) + 1) = 0 ∨ ((W175.1 90 37) + 1) = 1))) ∧ (r175 ≤ 0 → zwp jtb zsh n zm_MTrl2 post (kk__ + 4) (lGo ak_ZMTrl2 212) 212 [some (.inr (.inr (some (.inl 90)))), some (.inl (g)), some (.inl (u)), some (.inl (op)), some (.inl (t)), some (.inl (r175)), some (.inl (x)), some (.inl (b))] [] (zuF W175 90 37 ((W175.1 90 37) + 1))) ∧ (¬ r175 ≤ 0 → zwp jtb zsh n zm_MTrl2 post (kk__ + 0) (lGo ak_ZMTrl2 113) 113 [some (.inr (.inr (some (.inl 90)))), some (.inl (g)), some (.inl (u)), some (.inl (op)), some (.inl (t)), some (.inl (r175)), some (.inl (x)), some (.inl (b))] [] (zuF W175 90 37 ((W175.1 90 37) + 1)))) ∧ (¬ r175 ≤ 0 → 90 < n ∧ 12 = 12 ∧ 90 < n ∧ 12 = 12 ∧ (some 0 : Option Nat) = some 0 ∧ ((0 : Nat) = 0 ∨ ((0 : Nat) = 1 ∧ ((W175.1 90 37) = 0 ∨ (W175.1 90 37) = 1))) ∧ (r175 ≤ 0 → zwp jtb zsh n zm_MTrl2 post (kk__ + 5) (lGo ak_ZMTrl2 212) 212 [some (.inr (.inr (some (.inl 90)))), some (.inl (g)), some (.inl (u)), some (.inl (op)), some (.inl (t)), some (.inl (r175)), some (.inl (x)), some (.inl (b))] [] (zuF W175 90 37 (W175.1 90 37))) ∧ (¬ r175 ≤ 0 → zwp jtb zsh n zm_MTrl2 post (kk__ + 1) (lGo ak_ZMTrl2 113) 113 [some (.inr (.inr (some (.inl 90)))), some (.inl (g)), some (.inl (u)), some (.inl (op)), some (.inl (t)), some (.inl (r175)), some (.inl (x)), some (.inl (b))] [] (zuF W175 90 37 (W175.1 90 37)))) from (have h := ((gh175).2 r175 W175 hr175); ⟨fun c183_10 => ⟨(Nat.lt_of_lt_of_le (by decide) hn), rfl, ⟨(((h).1 c183_10)).1, ⟨(Nat.lt_of_lt_of_le (by decide) hn), rfl, rfl, (Or.inl rfl), ⟨fun c204_17 => (((((h).1 c183_10)).2).1 c204_17), fun c204_17 => (((((h).1 c183_10)).2).2 c204_17)⟩⟩⟩⟩, fun c183_10 => ⟨(Nat.lt_of_lt_of_le (by decide) hn), rfl, ⟨(Nat.lt_of_lt_of_le (by decide) hn), rfl, rfl, (Or.inl rfl), ⟨fun c204_16 => ((((h).2 c183_10)).1 c204_16), fun c204_16 => ((((h).2 c183_10)).2 c204_16)⟩⟩⟩⟩))⟩))⟩)
set_option maxRecDepth 8000 in
theorem zp_MTrl2_212 {n K : Nat} {V : zW} {post : zPo} {g u op t y x b : Int}  (hK : 6 ≤ K) (hn : 142 ≤ n) (h : ∃ s216 : gSt, (gW V g s216 ∧ s216.2.2.2.1 = t ∧ ¬ s216.2.2.2.2.1 = 1 ∧ zBn V (V.1 90 37) s216.1) ∧ ∀ r216 : Int, ∀ W216 : zW, (zFr [(90, 37)] [100, 101] V W216 ∧ zFo g V W216 ∧ ((r216 = 0 ∧ ∃ s2 : gSt, gP (V.2.1 91) (V.1 90 1) s216 s2 ∧ gW W216 g s2 ∧ W216.1 90 37 = s2.1 ∧ s2.2.2.2.1 = t ∧ s2.2.2.2.2.2 = s216.2.2.2.2.2 ∧ s2.2.1 = s216.2.1 ∧ ((s2.2.2.2.2.1 = s216.2.2.2.2.1 ∧ s2.1 = s216.1) ∨ s2.2.2.2.2.1 = (if s216.2.2.2.2.1 = 0 then 0 else 4)) ∧ ¬ gcR (xLk (V.2.1 91) (V.1 90 1) s2.1)) ∨ (0 < r216 ∧ r216 ≤ 1000000 ∧ gF (V.2.1 91) (V.1 90 1) s216))) → zwp jtb zsh n zm_MTrl2 post (K - 6) (lGo ak_ZMTrl2 113) 113 [some (.inr (.inr (some (.inl 90)))), some (.inl (g)), some (.inl (u)), some (.inl (op)), some (.inl (t)), some (.inl (r216)), some (.inl (x)), some (.inl (b))] [] W216) : zwp jtb zsh n zm_MTrl2 post K (lGo ak_ZMTrl2 212) 212 [some (.inr (.inr (some (.inl 90)))), some (.inl (g)), some (.inl (u)), some (.inl (op)), some (.inl (t)), some (.inl (y)), some (.inl (x)), some (.inl (b))] [] V := by
  obtain ⟨kk__, rfl⟩ : ∃ kk__, K = kk__ + 6 := ⟨K - 6, by omega⟩
  exact (show 3 = 3 ∧ false = false ∧ jin3 330 2639 7 zm_MTrl2.2.2.1.1 = true ∧ lRm zm_MTrl2.2.1 { frames := 1, cells := 0, slots := 0, locals := 21 } 11 = true ∧ Nat.ble 3 3 = true ∧ Nat.ble 0 8 = true ∧ 90 < n ∧ 12 = 12 ∧ Nat.ble 1000 12 = false ∧ zc_MTrrm [.inr (.inr (some (.inl 90))), .inl (g), .inl (t)] V (fun vv__ WW__ => zwp jtb zsh n zm_MTrl2 post (kk__ + 2) (lGo ak_ZMTrl2 219) 219 [some (.inr (.inr (some (.inl 90)))), some (.inl (g)), some (.inl (u)), some (.inl (op)), some (.inl (t)), some (.inl (y)), some (.inl (x)), some (.inl (b))] (vv__.toList ++ []) WW__) from (Exists.elim (h) (fun s216 gh216 => ⟨rfl, rfl, rfl, rfl, rfl, rfl, (Nat.lt_of_lt_of_le (by decide) hn), rfl, rfl, g, t, s216, rfl, (gh216).1, fun r216 W216 hr216 => (show zwp jtb zsh n zm_MTrl2 post (kk__ + 0) (lGo ak_ZMTrl2 113) 113 [some (.inr (.inr (some (.inl 90)))), some (.inl (g)), some (.inl (u)), some (.inl (op)), some (.inl (t)), some (.inl (r216)), some (.inl (x)), some (.inl (b))] [] W216 from ((gh216).2 r216 W216 hr216))⟩)))
set_option maxRecDepth 1000000 in
set_option maxHeartbeats 4000000 in
theorem zk_MTrl2 {l : Launch} {E : jE} {n : Nat} (hn : 142 ≤ n) : zHas l E jcl jtb lw_tbl zsh n (y_MT_readLine, false, 4, 12, { frames := 13, cells := 0, slots := 0, locals := 342 }, zc_MTrl2) := by
  refine ⟨⟨rfl, rfl, ⟨show 1 ≤ 4 by decide, m_MT_readLine, i_MT_readLine, e_MT_readLine, fun _ => ⟨_, rfl, rfl⟩⟩⟩, ?_⟩
  rintro vz W po hO hW ⟨g, u, op, s, rfl, hq, hp⟩
  refine zmet (m := zm_MTrl2) rfl (by decide) (fun _ _ => jtF_ok) lo_MT ao_ZMTrl2 jC (fun q h => by cases h) (aAllc (fun G h => by obtain rfl := Option.some.inj h; exact ql_MT_275) (aAllc (fun G h => by obtain rfl := Option.some.inj h; exact ql_MT_318) (aAllc (fun G h => by obtain rfl := Option.some.inj h; exact ql_MT_278) (aAllc (fun G h => by obtain rfl := Option.some.inj h; exact ql_MT_96) (aAllc (fun G h => by obtain rfl := Option.some.inj h; exact ql_MT_321) (aAllc (fun G h => by obtain rfl := Option.some.inj h; exact ql_MT_324) (aAllc (fun G h => by obtain rfl := Option.some.inj h; exact ql_MT_327) (aAllc (fun G h => by obtain rfl := Option.some.inj h; exact ql_MT_330) (aAllc (fun G h => by obtain rfl := Option.some.inj h; exact ql_MT_287) (aAllc (fun G h => by obtain rfl := Option.some.inj h; exact ql_MT_333) (fun q h => by cases h))))))))))) (aAllc (zk_MTbl hn) (aAllc (zk_MTrsh hn) (aAllc (zk_MTlook hn) (aAllc (zk_MTplace hn) (aAllc (zk_MTrmn hn) (aAllc (zk_MTrmv hn) (aAllc (zk_MTrmk hn) (aAllc (zk_MTrrm hn) (aAllc (zk_MTflt hn) (aAllc (zk_MTrl3 hn) (fun q h => by cases h))))))))))) (Nat.le_of_ble_eq_true rfl) hO hW (66000000) ?_
  have op6 := hq.1
  have hI0 := hq.2.2.1
  have hg := hq.2.1.1
  have elen : (s.2.2.2.2.2.length : Int) = 2 := hq.2.2.2.2.1
  have hB0 : xBs (W.2.1 91) (W.1 90 1) s.1 s.1 := xBs_i hq.2.2.2.2.2.2.1
  have i0 : gJ3 W W g u u s := ⟨⟨zFr_0, zFo_0⟩, s, gP_0, hq.2.1, hq.2.2.2.2.2.2.1, hq.2.2.2.1, rfl, Or.inl ⟨hq.2.2.2.1, Or.inr hq.2.2.2.2.2.1⟩⟩
  have main : ∀ m : Nat, (∀ (K : Nat) (V : zW) (t : Int) (u5 u6 u7 : Option zv), gJ3 W V g u t s → W.1 90 1 - V.1 90 37 < (m : Nat) → 1000 * m + 500 ≤ K → zwp jtb zsh n zm_MTrl2 po K (lGo ak_ZMTrl2 3) 3 [some (.inr (.inr (some (.inl 90)))), some (.inl g), some (.inl u), some (.inl op), some (.inl (t)), u5, u6, u7] [] V) ∧ (∀ (K : Nat) (V : zW) (t y x b : Int), gJ5 W V g u t b y s → (y = 0 → W.1 90 1 - V.1 90 37 < (m : Nat)) → 1000 * m + 700 ≤ K → zwp jtb zsh n zm_MTrl2 po K (lGo ak_ZMTrl2 113) 113 [some (.inr (.inr (some (.inl 90)))), some (.inl g), some (.inl u), some (.inl op), some (.inl (t)), some (.inl (y)), some (.inl (x)), some (.inl (b))] [] V) := by
    intro m
    induction m with
    | zero =>
      have h3 : (∀ (K : Nat) (V : zW) (t : Int) (u5 u6 u7 : Option zv), gJ3 W V g u t s → W.1 90 1 - V.1 90 37 < (0 : Nat) → 1000 * 0 + 500 ≤ K → zwp jtb zsh n zm_MTrl2 po K (lGo ak_ZMTrl2 3) 3 [some (.inr (.inr (some (.inl 90)))), some (.inl g), some (.inl u), some (.inl op), some (.inl (t)), u5, u6, u7] [] V) := by
        intro K V t u5 u6 u7 hJ hm
        obtain ⟨hB, s1, _, hw, _⟩ := hJ
        have := hw.2.1.1
        have := (gBs_x hB).2
        omega
      refine ⟨h3, ?_⟩
      intro K V t y x b hJ hm hK
      have y0 : 0 < y := by
        rcases hJ.2 with h | ⟨h, s1, _, hw, _⟩
        · exact h.1
        · exfalso
          have := hm h
          have := hw.2.1.1
          have := (gBs_x hJ.1).2
          omega
      have b231 : 0 < y → po (some (.inl y)) V := fun _ => hp _ _ ⟨hJ.1.1, hJ.1.2, Or.inr (hJ.2.resolve_right (fun z => by have := z.1; omega))⟩
      exact zp_MTrl2_113 (by omega) hn ⟨fun c115 => ⟨fun c226 => (by exfalso; omega), fun c226 => b231 (by omega)⟩, fun c115 => (by exfalso; omega)⟩
    | succ m ih =>
      have ih113 := ih.2
      have h3 : (∀ (K : Nat) (V : zW) (t : Int) (u5 u6 u7 : Option zv), gJ3 W V g u t s → W.1 90 1 - V.1 90 37 < ((m + 1) : Nat) → 1000 * (m + 1) + 500 ≤ K → zwp jtb zsh n zm_MTrl2 po K (lGo ak_ZMTrl2 3) 3 [some (.inr (.inr (some (.inl 90)))), some (.inl g), some (.inl u), some (.inl op), some (.inl (t)), u5, u6, u7] [] V) := by
        intro K V t u5 u6 u7 hI hm hK
        obtain ⟨hB, s1, hP, hw, eb, et, ek, hH⟩ := hI
        have hI : gBs W V g ∧ True := ⟨hB, trivial⟩
        have e1 := gBs_x hB
        have hI1 := (gI_p hI0 hP).1
        have elen : (s1.2.2.2.2.2.length : Int) = 2 := by rw [ek]; exact elen
        have ate : ∀ U, (zFr [(90, 37)] [] V U ∧ zTp U ∧ zBn V (V.1 90 37) (U.1 90 37)) → U.1 90 37 = s1.1 := fun U h => xBs_u h.2.2 eb
        have lk4 : ∀ U, (zFr [(90, 37)] [] V U ∧ zTp U ∧ zBn V (V.1 90 37) (U.1 90 37)) → zLk U (U.1 90 37) = xLk (W.2.1 91) (W.1 90 1) s1.1 := fun U h => by rw [gLk (gBs_f hB h.1).1, ate U h]
        have st2 : ¬ t = u → 2 ≤ s1.2.2.2.2.1 := by
          intro h
          rcases hH with z | z
          · exact absurd (et.symm.trans z.1) h
          · have := z.2.1; omega
        have ret : ∀ U, (zFr [(90, 37)] [] V U ∧ zTp U ∧ zBn V (V.1 90 37) (U.1 90 37)) → gEn (W.2.1 91) (W.1 90 1) 2 s1 → po (some (.inl 0)) U := by
          intro U h hE
          have B := gBs_f hB h.1
          exact hp _ _ ⟨B.1, B.2, Or.inl ⟨rfl, s1, hP, gW_fr h.1 (by decide) (by decide) h.2.1 hw, ate U h, ek, hE⟩⟩
        have le1 : V.1 90 37 ≤ s1.1 := eb.1.1
        have h38 : ∀ U, (zFr [(90, 37)] [] V U ∧ zTp U ∧ zBn V (V.1 90 37) (U.1 90 37)) → ¬ gOv (W.2.1 91) (W.1 90 1) s1 → (xLk (W.2.1 91) (W.1 90 1) s1.1 = 41 → ¬ s1.2.2.2.1 = u → s1.2.2.2.2.2 = []) → ∀ K : Nat, 1000 * m + 1300 ≤ K → zwp jtb zsh n zm_MTrl2 po K (lGo ak_ZMTrl2 38) 38 [some (.inr (.inr (some (.inl 90)))), some (.inl g), some (.inl u), some (.inl op), some (.inl (t)), u5, u6, u7] [] U := by
          intro U hU nO n41 K hK
          have aU := ate U hU
          have hB := gBs_f hB hU.1
          have hw := gW_fr hU.1 (by decide) (by decide) hU.2.1 hw
          have e1 := gBs_x hB
          clear hI ih ret lk4 ate
          have pre42 : (0 ≤ g ∧ g ≤ 1) ∧ (∃ N, (0 ≤ t ∧ t ≤ N ∧ N ≤ 300) ∧ xOk (zSt U g) (zro U 94 g) (zro U 95 g) N) ∧ zSb U g := ⟨hg, ⟨s1.2.1.2.1, by rw [← et]; have := hw.2.2.2.2.1; have := hw.2.2.2.1.1; omega, (zRt_O hw.2.2.1 hw.2.2.2.1).1⟩, hw.2.2.1.2.2.2.2⟩
          have at42 : ∀ W42, (zAt W42 (xPo (zSt U g) (zro U 94 g) (zro U 95 g) t) ∧ zFr [(90, 25), (90, 26), (90, 27), (90, 28), (90, 29), (90, 33)] [110, 111, 112, 113, 114] U W42) → zAt W42 (gPo s1) := fun W42 h => zAt_s hw (by rw [et]; exact h.1)
          have nu : ∀ W42 W46 r46, (zAt W42 (xPo (zSt U g) (zro U 94 g) (zro U 95 g) t) ∧ zFr [(90, 25), (90, 26), (90, 27), (90, 28), (90, 29), (90, 33)] [110, 111, 112, 113, 114] U W42) → (zFr [(90, 37)] [] W42 W46 ∧ zTp W46 ∧ zRn W42 W46 (W42.1 90 37) r46 ∧ 0 ≤ r46 ∧ r46 ≤ 1000000) → (r46 = 0 ∧ gNu (W.2.1 91) (W.1 90 1) (gPo s1).2 s1.1 (W46.1 90 37) 0) ∨ (0 < r46 ∧ gNu (W.2.1 91) (W.1 90 1) (gPo s1).2 s1.1 s1.1 1) := by
            intro W42 W46 r46 h42 h46
            have z := gNu_z (gBs_f hB h42.2).1 (by decide) (by decide) (at42 W42 h42) h46.2.2.1
            rw [zFr_f h42.2 90 37, aU] at z
            exact z
          have b58 : ∀ W42 W46 r46, (zAt W42 (xPo (zSt U g) (zro U 94 g) (zro U 95 g) t) ∧ zFr [(90, 25), (90, 26), (90, 27), (90, 28), (90, 29), (90, 33)] [110, 111, 112, 113, 114] U W42) → (zFr [(90, 37)] [] W42 W46 ∧ zTp W46 ∧ zRn W42 W46 (W42.1 90 37) r46 ∧ 0 ≤ r46 ∧ r46 ≤ 1000000) → 0 < r46 → po (some (.inl r46)) W46 := by
            intro W42 W46 r46 h42 h46 r0
            have B := gBs_f (gBs_f hB h42.2) h46.1
            have z := (nu W42 W46 r46 h42 h46).resolve_left (fun z => by omega)
            exact hp _ _ ⟨B.1, B.2, Or.inr ⟨r0, h46.2.2.2.2, gF_1 hP (gS_h hH nO n41 ⟨_, _, z.2, Or.inl ⟨rfl, rfl⟩⟩)⟩⟩
          have h59 : ∀ W42 W46 r46, (zAt W42 (xPo (zSt U g) (zro U 94 g) (zro U 95 g) t) ∧ zFr [(90, 25), (90, 26), (90, 27), (90, 28), (90, 29), (90, 33)] [110, 111, 112, 113, 114] U W42) → (zFr [(90, 37)] [] W42 W46 ∧ zTp W46 ∧ zRn W42 W46 (W42.1 90 37) r46 ∧ 0 ≤ r46 ∧ r46 ≤ 1000000) → r46 ≤ 0 → ∀ (K : Nat) (u6 u7 : Option zv), 1000 * m + 1200 ≤ K → zwp jtb zsh n zm_MTrl2 po K (lGo ak_ZMTrl2 59) 59 [some (.inr (.inr (some (.inl 90)))), some (.inl g), some (.inl u), some (.inl op), some (.inl (t)), some (.inl (r46)), u6, u7] [] W46 := by
            intro W42 W46 r46 h42 h46 r0 K u6 u7 hK
            have z := (nu W42 W46 r46 h42 h46).resolve_right (fun z => by omega)
            have B := gBs_f (gBs_f hB h42.2) h46.1
            have hw : gW W46 g s1 := gW_fr h46.1 (by decide) (by decide) h46.2.1 (gW_fr h42.2 (by decide) (by decide) (zTp_fr h42.2 hw.2.1) hw)
            have hA := zAt_fr h46.1 (by decide) (by decide) (at42 W42 h42)
            have hNu := z.2
            have e1 := gBs_x B
            generalize W46 = V at B hw hA hNu e1 ⊢
            clear z h42 h46 nu b58 pre42 at42
            have hd := gI_d hI1
            have hd6 : trE s1.2.1.2.2.1 (xLd s1.2.1.2.2.2.2.1) t + (if s1.2.1.2.2.2.2.1 t = [] then 0 else 1) ≤ 6 := by rw [et] at hd; have := hd.1; have := hI1.2.2.1; omega
            have b76 : ∀ W3 r, (zFr [(90, 36), (90, 37)] [93, 94, 95, 96, 97, 98, 100, 110, 111, 112, 115] V W3 ∧ zFo g V W3 ∧ ((r < 0 ∧ -1000000 ≤ r ∧ gMv (V.2.1 91) (V.1 90 1) s1 (V.1 90 37) none) ∨ (0 ≤ r ∧ ∃ e m, xLt (xLk (V.2.1 91) (V.1 90 1) (V.1 90 37)) ∧ xWd (V.2.1 91) (V.1 90 1) (V.1 90 37) e ∧ zUn (gPo s1).1 (fun i => V.2.1 91 (V.1 90 37 + i)) (e - V.1 90 37) m ∧ ¬ gMb s1 m ∧ r = s1.2.1.2.1 + 1 ∧ W3.1 90 37 = e ∧ gW W3 g (e, xApp s1.2.1 t m, zuI s1.2.2.1 (s1.2.1.2.1 + 1) 0, s1.2.1.2.1 + 1, 2, s1.2.2.2.2.2)))) → r < 0 → po (some (.inl (-r))) W3 := by
              intro W3 r h r0
              have B3 := gBs_o B h.1 h.2.1
              have z := h.2.2.resolve_right (fun z => by have := z.1; omega)
              rw [e1.1, e1.2] at z
              exact hp _ _ ⟨B3.1, B3.2, Or.inr ⟨by omega, by omega, gF_1 hP (gS_h hH nO n41 (gMv_0 hNu z.2.2))⟩⟩
            have h85 : ∀ W3 r, (zFr [(90, 36), (90, 37)] [93, 94, 95, 96, 97, 98, 100, 110, 111, 112, 115] V W3 ∧ zFo g V W3 ∧ ((r < 0 ∧ -1000000 ≤ r ∧ gMv (V.2.1 91) (V.1 90 1) s1 (V.1 90 37) none) ∨ (0 ≤ r ∧ ∃ e m, xLt (xLk (V.2.1 91) (V.1 90 1) (V.1 90 37)) ∧ xWd (V.2.1 91) (V.1 90 1) (V.1 90 37) e ∧ zUn (gPo s1).1 (fun i => V.2.1 91 (V.1 90 37 + i)) (e - V.1 90 37) m ∧ ¬ gMb s1 m ∧ r = s1.2.1.2.1 + 1 ∧ W3.1 90 37 = e ∧ gW W3 g (e, xApp s1.2.1 t m, zuI s1.2.2.1 (s1.2.1.2.1 + 1) 0, s1.2.1.2.1 + 1, 2, s1.2.2.2.2.2)))) → 0 ≤ r → ∀ (K : Nat) (y : Int), 1000 * m + 1100 ≤ K → zwp jtb zsh n zm_MTrl2 po K (lGo ak_ZMTrl2 85) 85 [some (.inr (.inr (some (.inl 90)))), some (.inl g), some (.inl u), some (.inl op), some (.inl (r)), some (.inl (y)), some (.inl (r)), some (.inl (t))] [] W3 := by
              intro W3 r h r0 K y hK
              have B3 := gBs_o B h.1 h.2.1
              have z := h.2.2.resolve_left (fun z => by have := z.1; omega)
              rw [e1.1, e1.2] at z
              obtain ⟨_, e, mv, h1, h2, h4, h5, h6, h7, h8⟩ := z
              obtain ⟨q, hq'⟩ := xBs_x (X := W.2.1 91) (N := W.1 90 1) (p := e) h2.1.2
              have hG : gS (W.2.1 91) (W.1 90 1) s1 (some (q, xApp s1.2.1 s1.2.2.2.1 mv, zuI s1.2.2.1 (s1.2.1.2.1 + 1) 0, s1.2.1.2.1 + 1, 2, s1.2.2.2.2.2)) := gS_h hH nO n41 (gMv_0 hNu (Or.inr ⟨h1, e, mv, h2, h4, Or.inr ⟨h5, q, hq', rfl⟩⟩))
              have hP3 := gP_1 hP hG
              have hI3 := gI_s hI1 hG
              have e3 := gBs_x B3
              have u1 : u ≤ s1.2.1.2.1 := by
                have a := (gI_p hI0 hP).2.2.1
                have b := hI0.2.1.2
                have c := hq.2.2.2.1
                omega
              rw [et] at hG hP3 hI3
              generalize es3 : ((q, xApp s1.2.1 t mv, zuI s1.2.2.1 (s1.2.1.2.1 + 1) 0, s1.2.1.2.1 + 1, 2, s1.2.2.2.2.2) : gSt) = s3 at hG hP3 hI3
              have et3 : s3.2.2.2.1 = r := by rw [← es3]; exact h6.symm
              have es2 : s3.2.2.2.2.1 = 2 := by rw [← es3]
              have em : s3.2.1.2.2.2.2.2 r = 0 := by
                rw [← es3, h6]
                exact zuI_s
              have eb3 : zBn W3 (W3.1 90 37) s3.1 := by
                show xBs (W3.2.1 91) (W3.1 90 1) (W3.1 90 37) s3.1
                rw [e3.1, e3.2, h7, ← es3]
                exact hq'
              have hw3 : gW W3 g s3 := by rw [← es3]; exact h8
              have k3 : s3.2.2.2.2.2 = s.2.2.2.2.2 := by rw [← es3]; exact ek
              have p3 : s3.2.1.2.2.1 r = t := by
                rw [← es3, h6]
                exact zuI_s
              have n3 : ¬ r = u := by omega
              have N3 : s3.2.1.2.1 = r := by rw [← es3]; exact h6.symm
              have lt3 : s1.1 < s3.1 := hI3.2.2.1
              have hI3 := hI3.1
              clear hG es3
              generalize r = x at et3 em p3 n3 N3 ⊢
              generalize W3 = V at B3 e3 eb3 hw3 ⊢
              have B := B3
              have e1 := e3
              have et := et3
              have eb := eb3
              have hw := hw3
              have j89 : ∀ W3 r, (zFr [(90, 37)] [98, 99] V W3 ∧ zFo g V W3 ∧ ((r = 0 ∧ ∃ s2 : gSt, gP (V.2.1 91) (V.1 90 1) s3 s2 ∧ gW W3 g s2 ∧ W3.1 90 37 = s2.1 ∧ s2.2.2.2.1 = x ∧ s2.2.2.2.2.2 = s3.2.2.2.2.2 ∧ ((s2.2.2.2.2.1 = 2 ∧ ¬ gcM (xLk (V.2.1 91) (V.1 90 1) s2.1)) ∨ (s2.2.2.2.2.1 = 3 ∧ ¬ xLk (V.2.1 91) (V.1 90 1) s2.1 = 36))) ∨ (0 < r ∧ r ≤ 1000000 ∧ gF (V.2.1 91) (V.1 90 1) s3))) → 0 < r → gJ5 W W3 g u x t r s := by
                intro W3 r h r0
                refine ⟨gBs_o B h.1 h.2.1, Or.inl ?_⟩
                rcases h.2.2 with h2 | h2
                · omega
                · rw [e1.1, e1.2] at h2
                  exact ⟨h2.1, h2.2.1, gF_t hP3 h2.2.2⟩
              have h104 : ∀ W3, ∀ {r : Int}, (zFr [(90, 37)] [98, 99] V W3 ∧ zFo g V W3 ∧ ((r = 0 ∧ ∃ s2 : gSt, gP (V.2.1 91) (V.1 90 1) s3 s2 ∧ gW W3 g s2 ∧ W3.1 90 37 = s2.1 ∧ s2.2.2.2.1 = x ∧ s2.2.2.2.2.2 = s3.2.2.2.2.2 ∧ ((s2.2.2.2.2.1 = 2 ∧ ¬ gcM (xLk (V.2.1 91) (V.1 90 1) s2.1)) ∨ (s2.2.2.2.2.1 = 3 ∧ ¬ xLk (V.2.1 91) (V.1 90 1) s2.1 = 36))) ∨ (0 < r ∧ r ≤ 1000000 ∧ gF (V.2.1 91) (V.1 90 1) s3))) → r ≤ 0 → ∀ (K : Nat) (y : Int), 1000 * m + 1000 ≤ K → zwp jtb zsh n zm_MTrl2 po K (lGo ak_ZMTrl2 104) 104 [some (.inr (.inr (some (.inl 90)))), some (.inl g), some (.inl u), some (.inl op), some (.inl (x)), some (.inl (y)), some (.inl (x)), some (.inl (t))] [] W3 := by
                intro W3 r h r0 K y hK
                have B4 := gBs_o B h.1 h.2.1
                have z := h.2.2.resolve_right (fun z => by omega)
                rw [e1.1, e1.2] at z
                obtain ⟨_, s4, hP4, hw4, ea4, et4, ek4, hc4⟩ := z
                have e4 := gBs_x B4
                have hQ4 := gI_p hI3 hP4
                have hb4 := gB_p (gB_p hB0 hP3) hP4
                have hP4 := gP_t hP3 hP4
                generalize W3 = V at B4 hw4 ea4 e4 ⊢
                have n1 : ¬ s4.2.2.2.2.1 = 1 := by omega
                have et := et4
                have hw := hw4
                have eb : zBn V (V.1 90 37) s4.1 := by
                  show xBs (V.2.1 91) (V.1 90 1) (V.1 90 37) s4.1
                  rw [e4.1, e4.2, ea4]
                  exact hb4
                have p4 : s4.2.1.2.2.1 x = t := by
                  have hx1 := hI3.2.1
                  have hx2 := hI3.2.2.2.2.2.resolve_left (fun z => by have := z.1; omega)
                  rw [et3] at hx1 hx2
                  rw [(hQ4.2.2.2.2 x (by have := hx2.2.2.2.2; omega) hx1.2).1]
                  exact p3
                have j108 : ∀ (W3 : zW) (r : Int), (zFr [(90, 37)] [100, 101] V W3 ∧ zFo g V W3 ∧ ((r = 0 ∧ ∃ s2 : gSt, gP (V.2.1 91) (V.1 90 1) s4 s2 ∧ gW W3 g s2 ∧ W3.1 90 37 = s2.1 ∧ s2.2.2.2.1 = x ∧ s2.2.2.2.2.2 = s4.2.2.2.2.2 ∧ s2.2.1 = s4.2.1 ∧ ((s2.2.2.2.2.1 = s4.2.2.2.2.1 ∧ s2.1 = s4.1) ∨ s2.2.2.2.2.1 = (if s4.2.2.2.2.1 = 0 then 0 else 4)) ∧ ¬ gcR (xLk (V.2.1 91) (V.1 90 1) s2.1)) ∨ (0 < r ∧ r ≤ 1000000 ∧ gF (V.2.1 91) (V.1 90 1) s4))) → gJ5 W W3 g u x t r s := by
                  intro W3 r h
                  refine ⟨gBs_o B4 h.1 h.2.1, ?_⟩
                  rcases h.2.2 with ⟨r0, s9, h1, h2, h3, h4, h5, h6, h7, h8⟩ | h2
                  · rw [e4.1, e4.2] at h1 h8
                    refine Or.inr ⟨r0, s9, gP_t hP4 h1, h2, h3, h4, h5.trans (ek4.trans k3), ?_, h8, by rw [h6]; exact p4, n3⟩
                    rcases h7 with z | z
                    · unfold gSc
                      rw [z.1, z.2]
                      rcases hc4 with y | y
                      · exact Or.inl y
                      · exact Or.inr (Or.inl y)
                    · refine Or.inr (Or.inr ?_)
                      rw [z, if_neg (by omega)]
                  · rw [e4.1, e4.2] at h2
                    exact Or.inl ⟨h2.1, h2.2.1, gF_t hP4 h2.2.2⟩
                have m108 : ∀ (W3 : zW) (r : Int), (zFr [(90, 37)] [100, 101] V W3 ∧ zFo g V W3 ∧ ((r = 0 ∧ ∃ s2 : gSt, gP (V.2.1 91) (V.1 90 1) s4 s2 ∧ gW W3 g s2 ∧ W3.1 90 37 = s2.1 ∧ s2.2.2.2.1 = x ∧ s2.2.2.2.2.2 = s4.2.2.2.2.2 ∧ s2.2.1 = s4.2.1 ∧ ((s2.2.2.2.2.1 = s4.2.2.2.2.1 ∧ s2.1 = s4.1) ∨ s2.2.2.2.2.1 = (if s4.2.2.2.2.1 = 0 then 0 else 4)) ∧ ¬ gcR (xLk (V.2.1 91) (V.1 90 1) s2.1)) ∨ (0 < r ∧ r ≤ 1000000 ∧ gF (V.2.1 91) (V.1 90 1) s4))) → r = 0 → W.1 90 1 - W3.1 90 37 < (m : Nat) := by
                  intro W3 r h r0
                  rcases h.2.2 with ⟨_, s9, h1, h2, h3, _⟩ | h2
                  · rw [e4.1, e4.2] at h1
                    have a := (gI_p hQ4.1 h1).2.1
                    have b := hQ4.2.1
                    omega
                  · omega
                exact zp_MTrl2_104 (by omega) hn ⟨s4, ⟨hw, et, n1, eb⟩, fun r108 W108 hr108 => (ih113 _ W108 _ _ _ _ (j108 W108 r108 hr108) (fun z => m108 W108 r108 hr108 z) (by omega))⟩
              exact zp_MTrl2_85 (by omega) hn ⟨s3, ⟨hw, et, es2, em, eb⟩, fun r89 W89 hr89 => ⟨fun c96 => (h104 W89 hr89 (by omega) _ _ (by omega)), fun c96 => (ih113 _ W89 _ _ _ _ (j89 W89 r89 hr89 (by omega)) (fun z => by omega) (by omega))⟩⟩
            exact zp_MTrl2_59 (by omega) hn ⟨s1, ⟨hw, et, hA, hd6⟩, fun r63 W63 hr63 => ⟨fun c70 => (h85 W63 r63 hr63 (by omega) _ _ (by omega)), fun c70 => ⟨(by have := hr63.2.2; omega), (b76 W63 r63 hr63 (by omega))⟩⟩⟩
          exact zp_MTrl2_38 (by omega) hn ⟨pre42, fun W42 hr42 => ⟨(zTp_fr hr42.2 hw.2.1), fun r46 W46 hr46 => ⟨fun c53 => (h59 W42 W46 r46 hr42 hr46 (by omega) _ _ _ (by omega)), fun c53 => (b58 W42 W46 r46 hr42 hr46 (by omega))⟩⟩⟩
        exact zp_MTrl2_3 (by omega) hn ⟨hw.2.1, fun W4 hr4 => ⟨fun c8 => ⟨hr4.2.1, fun r22 hr22 => ⟨fun c27 => (by first | (exfalso; omega) | exact h38 W4 hr4 (fun z => by rw [z.1] at elen; exact absurd elen (by decide)) (fun z1 z2 => by exfalso; have z := lk4 W4 hr4; omega) _ (by omega)), fun c27 => ⟨fun c33 => (by first | (exfalso; omega) | exact h38 W4 hr4 (fun z => by rw [z.1] at elen; exact absurd elen (by decide)) (fun z1 z2 => by exfalso; have z := lk4 W4 hr4; omega) _ (by omega)), fun c33 => (by first | (exfalso; omega) | exact ret W4 hr4 (Or.inr ⟨by decide, by have z := lk4 W4 hr4; omega, by have := st2 (by omega); omega, by have := st2 (by omega); omega⟩))⟩⟩⟩, fun c8 => ⟨hr4.2.1, fun r12 hr12 => ⟨fun c15 => (by first | (exfalso; omega) | exact h38 W4 hr4 (fun z => by rw [z.1] at elen; exact absurd elen (by decide)) (fun z1 z2 => by exfalso; have z := lk4 W4 hr4; omega) _ (by omega)), fun c15 => (by first | (exfalso; omega) | exact ret W4 hr4 (Or.inr ⟨by decide, by have z := lk4 W4 hr4; omega, by have := st2 (by omega); omega, by have := st2 (by omega); omega⟩))⟩⟩⟩⟩
      refine ⟨h3, ?_⟩
      intro K V t y x b hJ hm hK
      have j5 : ∀ V, gJ5 W V g u t b y s → y = 0 → gBs W V g ∧ ∃ s1 : gSt, gP (W.2.1 91) (W.1 90 1) s s1 ∧ gW V g s1 ∧ V.1 90 37 = s1.1 ∧ s1.2.2.2.1 = t ∧ s1.2.2.2.2.2 = s.2.2.2.2.2 ∧ gSc (W.2.1 91) (W.1 90 1) s1 ∧ ¬ gcR (xLk (W.2.1 91) (W.1 90 1) s1.1) ∧ s1.2.1.2.2.1 t = b ∧ ¬ t = u := fun V h y0 => ⟨h.1, (h.2.resolve_left (fun z => by have := z.1; omega)).2⟩
      have y0 : 0 ≤ y := by rcases hJ.2 with h | h <;> omega
      have tq : ∀ V, gJ5 W V g u t b y s → y = 0 → zTp V := fun V h y0 => by obtain ⟨_, s1, _, hw, _⟩ := j5 V h y0; exact hw.2.1
      have tpV : ∀ V, gJ5 W V g u t b y s → y = 0 → 0 ≤ V.1 90 37 ∧ V.1 90 37 ≤ 65536 := fun V h y0 => by have z := tq V h y0; have := z.1; have := z.2.1; omega
      have b231 : 0 < y → po (some (.inl y)) V := fun _ => hp _ _ ⟨hJ.1.1, hJ.1.2, Or.inr (hJ.2.resolve_right (fun z => by have := z.1; omega))⟩
      have j3 : ∀ V, gJ5 W V g u t b y s → y = 0 → ¬ zLk V (V.1 90 37) = 40 → gJ3 W V g u t s := by
        intro V h y0 h40
        obtain ⟨hB, s1, hP, hw, ea, et, ek, hs, hr, eb, ntu⟩ := j5 V h y0
        rw [gLk hB.1, ea] at h40
        refine ⟨hB, s1, hP, hw, ?_, et, ek, Or.inr ⟨by rw [et]; exact ntu, hs, hr, h40⟩⟩
        show xBs (V.2.1 91) (V.1 90 1) (V.1 90 37) s1.1
        rw [(gBs_x hB).1, (gBs_x hB).2, ea]
        exact gB_p hB0 hP
      have j139 : ∀ U, zFr [(90, 37)] [] V U → y = 0 → zLk V (V.1 90 37) = 40 → ∀ r : Int, op = 6 ∧ 0 < r ∧ r ≤ 1000000 → gJ5 W U g u t b r s := by
        intro U hU y0 c40 r hr
        obtain ⟨hB, s1, hP, hw, ea, et, ek, hs, _, eb, ntu⟩ := j5 V hJ y0
        have e40 : xLk (W.2.1 91) (W.1 90 1) s1.1 = 40 := by rw [← ea, ← gLk hB.1]; exact c40
        have hx := xLk_i (X := W.2.1 91) (N := W.1 90 1) (p := s1.1) (by omega)
        have hst : ¬ s1.2.2.2.2.1 = 0 ∧ ¬ s1.2.2.2.2.1 = 1 := by unfold gSc at hs; omega
        exact ⟨gBs_f hB hU, Or.inl ⟨hr.2.1, hr.2.2, gF_1 hP (Or.inr (Or.inr (Or.inl ⟨Or.inl e40, Or.inr ⟨hst, Or.inl ⟨by omega, Or.inl ⟨by rw [ek]; omega, rfl⟩⟩⟩⟩)))⟩⟩
      have h168 : ∀ V', V' = zuF V 90 37 (V.1 90 37 + 1) → y = 0 → zLk V (V.1 90 37) = 40 → ∀ (K : Nat), 1000 * m + 1200 ≤ K → zwp jtb zsh n zm_MTrl2 po K (lGo ak_ZMTrl2 168) 168 [some (.inr (.inr (some (.inl 90)))), some (.inl g), some (.inl u), some (.inl op), some (.inl (t)), some (.inl (0)), some (.inl (x)), some (.inl (b))] [] V' := by
        intro V' eV y0 c40 K hK
        obtain ⟨hB, s1, hP, hw, ea, et, ek, hs, hr, eb, ntu⟩ := j5 V hJ y0
        have e40 : xLk (W.2.1 91) (W.1 90 1) s1.1 = 40 := by rw [← ea, ← gLk hB.1]; exact c40
        have hx := xLk_i (X := W.2.1 91) (N := W.1 90 1) (p := s1.1) (by omega)
        have e1 := gBs_x hB
        obtain ⟨q, hq'⟩ := xBs_x (X := W.2.1 91) (N := W.1 90 1) (p := s1.1 + 1) (by omega)
        have hst : ¬ s1.2.2.2.2.1 = 0 ∧ ¬ s1.2.2.2.2.1 = 1 := by unfold gSc at hs; omega
        have hl : (s1.2.2.2.2.2.length : Int) = 2 := by rw [ek]; exact elen
        have hG : gS (W.2.1 91) (W.1 90 1) s1 (some (q, s1.2.1, s1.2.2.1, s1.2.1.2.2.1 s1.2.2.2.1, 1, s1.2.2.2.1 :: s1.2.2.2.2.2)) := Or.inr (Or.inr (Or.inl ⟨Or.inl e40, Or.inr ⟨hst, Or.inl ⟨by omega, Or.inr ⟨by omega, q, hq', rfl⟩⟩⟩⟩))
        have hP6 := gP_1 hP hG
        have hI1 := (gI_p hI0 hP).1
        have hI6 := gI_s hI1 hG
        have fV : zFr [(90, 37)] [] V V' := by rw [eV]; exact zFr_F zFr_0 (by decide)
        have tV : zTp V' := by rw [eV]; exact zTp_n hw.2.1 (by omega)
        have aV : V'.1 90 37 = s1.1 + 1 := by rw [eV, zuF_1, if_pos ⟨rfl, rfl⟩, ea]
        have eb' : s1.2.1.2.2.1 s1.2.2.2.1 = b := by rw [et]; exact eb
        generalize es6 : ((q, s1.2.1, s1.2.2.1, s1.2.1.2.2.1 s1.2.2.2.1, 1, s1.2.2.2.1 :: s1.2.2.2.2.2) : gSt) = s6 at hG hP6 hI6
        have s6a : s6.1 = q := by rw [← es6]
        have s6t : s6.2.2.2.1 = b := by rw [← es6]; exact eb'
        have s6k : s6.2.2.2.2.2 = t :: s.2.2.2.2.2 := by rw [← es6, ← ek, ← et]
        have s6w : gW V' g s6 := by
          have z := gW_fr fV (by decide) (by decide) tV hw
          have y := hI6.1.2.1
          rw [← es6] at y ⊢
          exact ⟨z.1, z.2.1, z.2.2.1, z.2.2.2.1, y, z.2.2.2.2.2⟩
        have s6b : zBn V' (V'.1 90 37) s6.1 := by
          show xBs (V'.2.1 91) (V'.1 90 1) (V'.1 90 37) s6.1
          rw [zFr_r fV 91, zFr_f fV 90 1, e1.1, e1.2, aV, s6a]
          exact hq'
        have s6g : s6.2.2.2.2.1 = 1 := by rw [← es6]
        have s6p : s6.2.1 = s1.2.1 := by rw [← es6]
        have pre175 : gLp V' g b 3 s6 := ⟨s6w, hI6.1, s6t, by rw [s6k]; show ((s.2.2.2.2.2.length + 1 : Nat) : Int) = _; omega, by rw [s6g]; rfl, s6b, fun z => by omega⟩
        have e6 : V'.2.1 91 = W.2.1 91 ∧ V'.1 90 1 = W.1 90 1 := ⟨by rw [zFr_r fV 91]; exact e1.1, by rw [zFr_f fV 90 1]; exact e1.2⟩
        have B6 : gBs W V' g := gBs_f hB fV
        have t1 : 1 ≤ t ∧ t ≤ s1.2.1.2.1 := by
          have y := hI6.1.2.2.2.2.1
          rw [s6k, s6p] at y
          exact y.1.1
        have bn175 : ∀ (U : zW) (r : Int), gLq V' U g 3 r s6 → (0 ≤ U.1 90 37 ∧ U.1 90 37 ≤ 65536) ∨ 0 < r := by
          intro U r hr
          rcases hr.2.2 with ⟨_, s2, _, h2, _⟩ | h2
          · left; have := h2.2.1.1; have := h2.2.1.2.1; omega
          · right; exact h2.1
        have j175 : ∀ (U : zW) (r : Int), gLq V' U g 3 r s6 → 0 < r → ∀ U', zFr [(90, 37)] [] U U' → gJ5 W U' g u t b r s := by
          intro U r hr r0 U' hU'
          refine ⟨gBs_f (gBs_o B6 hr.1 hr.2.1) hU', Or.inl ?_⟩
          rcases hr.2.2 with h2 | h2
          · omega
          · rw [e6.1, e6.2] at h2
            exact ⟨h2.1, h2.2.1, gF_t hP6 h2.2.2⟩
        have h212 : ∀ (U : zW) (r : Int), gLq V' U g 3 r s6 → r ≤ 0 → ∀ (y : Int) (U' : zW), U' = zuF U 90 37 (U.1 90 37 + 1) → ∀ (K : Nat), 1000 * m + 1000 ≤ K → zwp jtb zsh n zm_MTrl2 po K (lGo ak_ZMTrl2 212) 212 [some (.inr (.inr (some (.inl 90)))), some (.inl g), some (.inl u), some (.inl op), some (.inl (t)), some (.inl (y)), some (.inl (x)), some (.inl (b))] [] U' := by
          intro U r hr r0 y U' eU K hK
          obtain ⟨_, s7, hP7, hw7, ea7, ek7, hE7⟩ := hr.2.2.resolve_right (fun z => by omega)
          rw [e6.1, e6.2] at hP7 hE7
          have hE7 := hE7.resolve_left (fun z => by have := z.1; omega)
          have hP7' := gP_t hP6 hP7
          have hx7 := xLk_i (X := W.2.1 91) (N := W.1 90 1) (p := s7.1) (by omega)
          obtain ⟨q7, hq7⟩ := xBs_x (X := W.2.1 91) (N := W.1 90 1) (p := s7.1 + 1) (by omega)
          have hG7 : gS (W.2.1 91) (W.1 90 1) s7 (some (q7, s7.2.1, s7.2.2.1, t, 4, s.2.2.2.2.2)) := Or.inr (Or.inr (Or.inl ⟨Or.inr hE7.2.1, Or.inr ⟨hE7.2.2, Or.inr ⟨by omega, Or.inr ⟨t, s.2.2.2.2.2, by rw [ek7, s6k], q7, hq7, rfl⟩⟩⟩⟩))
          have hI7 := (gI_p hI6.1 hP7)
          have hI8 := gI_s hI7.1 hG7
          have hP8 := gP_1 hP7' hG7
          have B7 := gBs_o B6 hr.1 hr.2.1
          have e7 := gBs_x B7
          have fU : zFr [(90, 37)] [] U U' := by rw [eU]; exact zFr_F zFr_0 (by decide)
          have tU : zTp U' := by rw [eU]; exact zTp_n hw7.2.1 (by omega)
          have aU : U'.1 90 37 = s7.1 + 1 := by rw [eU, zuF_1, if_pos ⟨rfl, rfl⟩, ea7]
          generalize es8 : ((q7, s7.2.1, s7.2.2.1, t, 4, s.2.2.2.2.2) : gSt) = s8 at hG7 hI8 hP8
          have et : s8.2.2.2.1 = t := by rw [← es8]
          have hw : gW U' g s8 := by
            have z := gW_fr fU (by decide) (by decide) tU hw7
            have y := hI8.1.2.1
            rw [← es8] at y ⊢
            exact ⟨z.1, z.2.1, z.2.2.1, z.2.2.2.1, y, z.2.2.2.2.2⟩
          have B8 := gBs_f B7 fU
          have e8 := gBs_x B8
          have eb8 : zBn U' (U'.1 90 37) s8.1 := by
            show xBs (U'.2.1 91) (U'.1 90 1) (U'.1 90 37) s8.1
            rw [e8.1, e8.2, aU, ← es8]
            exact hq7
          have g8 : s8.2.2.2.2.1 = 4 := by rw [← es8]
          have k8 : s8.2.2.2.2.2 = s.2.2.2.2.2 := by rw [← es8]
          have p8 : s8.2.1 = s7.2.1 := by rw [← es8]
          have pb : s8.2.1.2.2.1 t = b := by
            rw [p8, (hI7.2.2.2.2 t t1.1 (by rw [s6p]; exact t1.2)).1, s6p]
            exact eb
          have lt8 : s1.1 < s8.1 := by
            have a := hI6.2.2.1
            have b := hI7.2.1
            have c := hI8.2.2.1
            omega
          have j216 : ∀ (W3 : zW) (r : Int), (zFr [(90, 37)] [100, 101] U' W3 ∧ zFo g U' W3 ∧ ((r = 0 ∧ ∃ s2 : gSt, gP (U'.2.1 91) (U'.1 90 1) s8 s2 ∧ gW W3 g s2 ∧ W3.1 90 37 = s2.1 ∧ s2.2.2.2.1 = t ∧ s2.2.2.2.2.2 = s8.2.2.2.2.2 ∧ s2.2.1 = s8.2.1 ∧ ((s2.2.2.2.2.1 = s8.2.2.2.2.1 ∧ s2.1 = s8.1) ∨ s2.2.2.2.2.1 = (if s8.2.2.2.2.1 = 0 then 0 else 4)) ∧ ¬ gcR (xLk (U'.2.1 91) (U'.1 90 1) s2.1)) ∨ (0 < r ∧ r ≤ 1000000 ∧ gF (U'.2.1 91) (U'.1 90 1) s8))) → gJ5 W W3 g u t b r s := by
            intro W3 r h
            refine ⟨gBs_o B8 h.1 h.2.1, ?_⟩
            rcases h.2.2 with ⟨r0, s9, h1, h2, h3, h4, h5, h6, h7, h8⟩ | h2
            · rw [e8.1, e8.2] at h1 h8
              refine Or.inr ⟨r0, s9, gP_t hP8 h1, h2, h3, h4, h5.trans k8, Or.inr (Or.inr ?_), h8, by rw [h6]; exact pb, ntu⟩
              rcases h7 with z | z
              · exact z.1.trans g8
              · rw [z, g8]; rfl
            · rw [e8.1, e8.2] at h2
              exact Or.inl ⟨h2.1, h2.2.1, gF_t hP8 h2.2.2⟩
          have m216 : ∀ (W3 : zW) (r : Int), (zFr [(90, 37)] [100, 101] U' W3 ∧ zFo g U' W3 ∧ ((r = 0 ∧ ∃ s2 : gSt, gP (U'.2.1 91) (U'.1 90 1) s8 s2 ∧ gW W3 g s2 ∧ W3.1 90 37 = s2.1 ∧ s2.2.2.2.1 = t ∧ s2.2.2.2.2.2 = s8.2.2.2.2.2 ∧ s2.2.1 = s8.2.1 ∧ ((s2.2.2.2.2.1 = s8.2.2.2.2.1 ∧ s2.1 = s8.1) ∨ s2.2.2.2.2.1 = (if s8.2.2.2.2.1 = 0 then 0 else 4)) ∧ ¬ gcR (xLk (U'.2.1 91) (U'.1 90 1) s2.1)) ∨ (0 < r ∧ r ≤ 1000000 ∧ gF (U'.2.1 91) (U'.1 90 1) s8))) → r = 0 → W.1 90 1 - W3.1 90 37 < (m : Nat) := by
            intro W3 r h r0
            rcases h.2.2 with ⟨_, s9, h1, h2, h3, _⟩ | h2
            · rw [e8.1, e8.2] at h1
              have a := (gI_p hI8.1 h1).2.1
              have := hm y0
              omega
            · omega
          have eb := eb8
          have es2 := g8
          exact zp_MTrl2_212 (by omega) hn ⟨s8, ⟨hw, et, (by omega), eb⟩, fun r216 W216 hr216 => (ih113 _ W216 _ _ _ _ (j216 W216 r216 hr216) (fun z => m216 W216 r216 hr216 z) (by omega))⟩
        exact zp_MTrl2_168 (by omega) hn ⟨(by omega), ⟨s6, ⟨by omega, pre175⟩, fun r175 W175 hr175 => ⟨fun c183 => ⟨(by have := bn175 W175 r175 hr175; omega), ⟨fun c204 => (by first | (exfalso; omega) | exact h212 W175 r175 hr175 (by omega) _ _ rfl _ (by omega)), fun c204 => (by first | (exfalso; omega) | exact ih113 _ _ _ _ _ _ (j175 W175 r175 hr175 (by omega) _ (zFr_F (zFr_0 (Fs := [(90, 37)]) (Rs := [])) (by decide))) (fun z => by omega) (by omega))⟩⟩, fun c183 => ⟨fun c204 => (by first | (exfalso; omega) | exact h212 W175 r175 hr175 (by omega) _ _ rfl _ (by omega)), fun c204 => (by first | (exfalso; omega) | exact ih113 _ _ _ _ _ _ (j175 W175 r175 hr175 (by omega) _ (zFr_F (zFr_0 (Fs := [(90, 37)]) (Rs := [])) (by decide))) (fun z => by omega) (by omega))⟩⟩⟩⟩
      exact zp_MTrl2_113 (by omega) hn ⟨fun c115 => ⟨fun c226 => (by first | (exfalso; omega) | (exfalso; have := tpV V hJ (by omega); omega) | exact h3 _ V _ _ _ _ (j3 V hJ (by omega) (by omega)) (hm (by omega)) (by omega)), fun c226 => (b231 (by omega))⟩, fun c115 => ⟨(tq V hJ (by omega)), fun r119 hr119 => ⟨fun c124 => ⟨fun c226 => (by first | (exfalso; omega) | (exfalso; have := tpV V hJ (by omega); omega) | exact h3 _ V _ _ _ _ (j3 V hJ (by omega) (by omega)) (hm (by omega)) (by omega)), fun c226 => (b231 (by omega))⟩, fun c124 => ⟨fun c130 => ⟨(by have := tpV V hJ (by omega); omega), (by first | (exfalso; omega) | (exfalso; have := tpV V hJ (by omega); omega) | exact h168 _ rfl (by omega) (by omega) _ (by omega))⟩, fun c130 => ⟨(by have := tpV V hJ (by omega); omega), fun r139 hr139 => ⟨(by have := tpV V hJ (by omega); omega), ⟨fun c160 => (by first | (exfalso; omega) | (exfalso; have := tpV V hJ (by omega); omega) | exact h168 _ rfl (by omega) (by omega) _ (by omega)), fun c160 => ⟨fun c183 => ⟨(by have := tpV V hJ (by omega); omega), ⟨fun c204 => (by first | (exfalso; omega) | (exfalso; have := tpV V hJ (by omega); omega) | exact ih113 _ _ _ _ _ _ (j139 _ (zFr_F (zFr_F (zFr_0 (Fs := [(90, 37)]) (Rs := [])) (by decide)) (by decide)) (by omega) (by omega) r139 (by have := tpV V hJ (by omega); omega)) (fun z => by omega) (by omega)), fun c204 => (by first | (exfalso; omega) | (exfalso; have := tpV V hJ (by omega); omega) | exact ih113 _ _ _ _ _ _ (j139 _ (zFr_F (zFr_F (zFr_0 (Fs := [(90, 37)]) (Rs := [])) (by decide)) (by decide)) (by omega) (by omega) r139 (by have := tpV V hJ (by omega); omega)) (fun z => by omega) (by omega))⟩⟩, fun c183 => ⟨fun c204 => (by first | (exfalso; omega) | (exfalso; have := tpV V hJ (by omega); omega) | exact ih113 _ _ _ _ _ _ (j139 _ (zFr_F (zFr_F (zFr_0 (Fs := [(90, 37)]) (Rs := [])) (by decide)) (by decide)) (by omega) (by omega) r139 (by have := tpV V hJ (by omega); omega)) (fun z => by omega) (by omega)), fun c204 => (by first | (exfalso; omega) | (exfalso; have := tpV V hJ (by omega); omega) | exact ih113 _ _ _ _ _ _ (j139 _ (zFr_F (zFr_F (zFr_0 (Fs := [(90, 37)]) (Rs := [])) (by decide)) (by decide)) (by omega) (by omega) r139 (by have := tpV V hJ (by omega); omega)) (fun z => by omega) (by omega))⟩⟩⟩⟩⟩⟩⟩⟩⟩
  exact zp_MTrl2_0 (by omega) hn ((main 65537).1 _ W _ _ _ _ i0 (by have := hq.2.1.2.1.1; have := hq.2.1.2.1.2.1; omega) (by omega))
noncomputable def ak_ZMTrl1 : List jI := ak_ZMTrl6
theorem ao_ZMTrl1 : jokLG jtF lk_MT "ChessHouseModel$Texts" jcl jtb 8 prog_18_method_68_code 0 ak_ZMTrl1 = true := ao_ZMTrl6
noncomputable def zm_MTrl1 : zM := (some .int, { frames := 14, cells := 0, slots := 0, locals := 369 }, ([(275, 2570, 0), (318, 2647, 1), (278, 2574, 2), (96, 1933, 3), (321, 2655, 4), (324, 2659, 5), (327, 2710, 6), (330, 2639, 7), (287, 2588, 8), (333, 2643, 9)], []), [(y_MT_blanks, false, 1, 12, { frames := 0, cells := 0, slots := 0, locals := 0 }, zc_MTbl), (y_MT_resultHere, false, 1, 12, { frames := 1, cells := 0, slots := 0, locals := 23 }, zc_MTrsh), (y_MT_look, false, 1, 12, { frames := 0, cells := 0, slots := 0, locals := 0 }, zc_MTlook), (y_MT_place, false, 3, 12, { frames := 6, cells := 0, slots := 0, locals := 157 }, zc_MTplace), (y_MT_readMoveNumber, false, 1, 12, { frames := 1, cells := 0, slots := 0, locals := 21 }, zc_MTrmn), (y_MT_readMove, false, 3, 12, { frames := 8, cells := 0, slots := 0, locals := 210 }, zc_MTrmv), (y_MT_readMarks, false, 3, 12, { frames := 1, cells := 0, slots := 0, locals := 24 }, zc_MTrmk), (y_MT_readRemarks, false, 3, 12, { frames := 1, cells := 0, slots := 0, locals := 21 }, zc_MTrrm), (y_MT_fault, true, 2, 0, { frames := 0, cells := 0, slots := 0, locals := 0 }, zc_MTflt), (y_MT_readLine, false, 4, 12, { frames := 13, cells := 0, slots := 0, locals := 342 }, zc_MTrl2)], ak_ZMTrl1)
noncomputable def zc_MTrl1 (vals : List zv) (W : zW) (post : zPo) : Prop := ∃ g u op : Int, ∃ s : gSt, vals = [.inr (.inr (some (.inl 90))), .inl (g), .inl (u), .inl (op)] ∧ (op = 1 ∧ gLp W g u 1 s) ∧ ∀ r : Int, ∀ V : zW, (gLq W V g 1 r s) → post (some (.inl r)) V
set_option maxRecDepth 8000 in
theorem zp_MTrl1_0 {n K : Nat} {W : zW} {post : zPo} {g u op : Int} {u4 u5 u6 u7 : Option zv} (hK : 2 ≤ K) (hn : 142 ≤ n) (h : zwp jtb zsh n zm_MTrl1 post (K - 2) (lGo ak_ZMTrl1 3) 3 [some (.inr (.inr (some (.inl 90)))), some (.inl (g)), some (.inl (u)), some (.inl (op)), some (.inl (u)), u5, u6, u7] [] W) : zwp jtb zsh n zm_MTrl1 post K (lGo ak_ZMTrl1 0) 0 [some (.inr (.inr (some (.inl 90)))), some (.inl (g)), some (.inl (u)), some (.inl (op)), u4, u5, u6, u7] [] W := by
  obtain ⟨kk__, rfl⟩ : ∃ kk__, K = kk__ + 2 := ⟨K - 2, by omega⟩
  exact (show zwp jtb zsh n zm_MTrl1 post (kk__ + 0) (lGo ak_ZMTrl1 3) 3 [some (.inr (.inr (some (.inl 90)))), some (.inl (g)), some (.inl (u)), some (.inl (op)), some (.inl (u)), u5, u6, u7] [] W from h)
set_option maxRecDepth 8000 in
theorem zp_MTrl1_3 {n K : Nat} {V : zW} {post : zPo} {g u op t : Int} {u5 u6 u7 : Option zv} (hK : 13 ≤ K) (hn : 142 ≤ n) (h : (zTp V) ∧ ∀ W4 : zW, (zFr [(90, 37)] [] V W4 ∧ zTp W4 ∧ zBn V (V.1 90 37) (W4.1 90 37)) → (¬ op = 0 → (zTp W4) ∧ ∀ r22 : Int, (r22 = zLk W4 (W4.1 90 37)) → (¬ r22 = 41 → zwp jtb zsh n zm_MTrl1 post (K - 8) (lGo ak_ZMTrl1 38) 38 [some (.inr (.inr (some (.inl 90)))), some (.inl (g)), some (.inl (u)), some (.inl (op)), some (.inl (t)), u5, u6, u7] [] W4) ∧ (r22 = 41 → (t = u → zwp jtb zsh n zm_MTrl1 post (K - 11) (lGo ak_ZMTrl1 38) 38 [some (.inr (.inr (some (.inl 90)))), some (.inl (g)), some (.inl (u)), some (.inl (op)), some (.inl (t)), u5, u6, u7] [] W4) ∧ (¬ t = u → post (some (.inl (0))) W4))) ∧ (op = 0 → (zTp W4) ∧ ∀ r12 : Int, (zRh W4 (W4.1 90 37) r12) → (r12 < 0 → zwp jtb zsh n zm_MTrl1 post (K - 7) (lGo ak_ZMTrl1 38) 38 [some (.inr (.inr (some (.inl 90)))), some (.inl (g)), some (.inl (u)), some (.inl (op)), some (.inl (t)), u5, u6, u7] [] W4) ∧ (¬ r12 < 0 → post (some (.inl (0))) W4))) : zwp jtb zsh n zm_MTrl1 post K (lGo ak_ZMTrl1 3) 3 [some (.inr (.inr (some (.inl 90)))), some (.inl (g)), some (.inl (u)), some (.inl (op)), some (.inl (t)), u5, u6, u7] [] V := by
  obtain ⟨kk__, rfl⟩ : ∃ kk__, K = kk__ + 13 := ⟨K - 13, by omega⟩
  exact (show 3 = 3 ∧ false = false ∧ jin3 275 2570 0 zm_MTrl1.2.2.1.1 = true ∧ lRm zm_MTrl1.2.1 { frames := 0, cells := 0, slots := 0, locals := 0 } 1 = true ∧ Nat.ble 1 1 = true ∧ Nat.ble 0 8 = true ∧ 90 < n ∧ 12 = 12 ∧ Nat.ble 1000 12 = false ∧ zc_MTbl [.inr (.inr (some (.inl 90)))] V (fun vv__ WW__ => zwp jtb zsh n zm_MTrl1 post (kk__ + 11) (lGo ak_ZMTrl1 7) 7 [some (.inr (.inr (some (.inl 90)))), some (.inl (g)), some (.inl (u)), some (.inl (op)), some (.inl (t)), u5, u6, u7] (vv__.toList ++ []) WW__) from ⟨rfl, rfl, rfl, rfl, rfl, rfl, (Nat.lt_of_lt_of_le (by decide) hn), rfl, rfl, rfl, (h).1, fun W4 hr4 => (show (¬ op = 0 → 3 = 3 ∧ false = false ∧ jin3 278 2574 2 zm_MTrl1.2.2.1.1 = true ∧ lRm zm_MTrl1.2.1 { frames := 0, cells := 0, slots := 0, locals := 0 } 1 = true ∧ Nat.ble 1 1 = true ∧ Nat.ble 0 8 = true ∧ 90 < n ∧ 12 = 12 ∧ Nat.ble 1000 12 = false ∧ zc_MTlook [.inr (.inr (some (.inl 90)))] W4 (fun vv__ WW__ => zwp jtb zsh n zm_MTrl1 post (kk__ + 7) (lGo ak_ZMTrl1 25) 25 [some (.inr (.inr (some (.inl 90)))), some (.inl (g)), some (.inl (u)), some (.inl (op)), some (.inl (t)), u5, u6, u7] (vv__.toList ++ []) WW__)) ∧ (op = 0 → 3 = 3 ∧ false = false ∧ jin3 318 2647 1 zm_MTrl1.2.2.1.1 = true ∧ lRm zm_MTrl1.2.1 { frames := 1, cells := 0, slots := 0, locals := 23 } 2 = true ∧ Nat.ble 1 1 = true ∧ Nat.ble 0 8 = true ∧ 90 < n ∧ 12 = 12 ∧ Nat.ble 1000 12 = false ∧ zc_MTrsh [.inr (.inr (some (.inl 90)))] W4 (fun vv__ WW__ => zwp jtb zsh n zm_MTrl1 post (kk__ + 7) (lGo ak_ZMTrl1 15) 15 [some (.inr (.inr (some (.inl 90)))), some (.inl (g)), some (.inl (u)), some (.inl (op)), some (.inl (t)), u5, u6, u7] (vv__.toList ++ []) WW__)) from ⟨fun c8_3 => (have h := ((((h).2 W4 hr4)).1 c8_3); ⟨rfl, rfl, rfl, rfl, rfl, rfl, (Nat.lt_of_lt_of_le (by decide) hn), rfl, rfl, rfl, (h).1, fun r22 hr22 => (show (¬ r22 = 41 → zwp jtb zsh n zm_MTrl1 post (kk__ + 5) (lGo ak_ZMTrl1 38) 38 [some (.inr (.inr (some (.inl 90)))), some (.inl (g)), some (.inl (u)), some (.inl (op)), some (.inl (t)), u5, u6, u7] [] W4) ∧ (r22 = 41 → (t = u → zwp jtb zsh n zm_MTrl1 post (kk__ + 2) (lGo ak_ZMTrl1 38) 38 [some (.inr (.inr (some (.inl 90)))), some (.inl (g)), some (.inl (u)), some (.inl (op)), some (.inl (t)), u5, u6, u7] [] W4) ∧ (¬ t = u → 1 = 1 ∧ True ∧ post (some (.inl (0))) W4)) from ⟨fun c27_7 => ((((h).2 r22 hr22)).1 c27_7), fun c27_7 => (have h := ((((h).2 r22 hr22)).2 c27_7); ⟨fun c33_10 => ((h).1 c33_10), fun c33_10 => ⟨rfl, trivial, ((h).2 c33_10)⟩⟩)⟩)⟩), fun c8_3 => (have h := ((((h).2 W4 hr4)).2 c8_3); ⟨rfl, rfl, rfl, rfl, rfl, rfl, (Nat.lt_of_lt_of_le (by decide) hn), rfl, rfl, rfl, (h).1, fun r12 hr12 => (show (r12 < 0 → zwp jtb zsh n zm_MTrl1 post (kk__ + 6) (lGo ak_ZMTrl1 38) 38 [some (.inr (.inr (some (.inl 90)))), some (.inl (g)), some (.inl (u)), some (.inl (op)), some (.inl (t)), u5, u6, u7] [] W4) ∧ (¬ r12 < 0 → 1 = 1 ∧ True ∧ post (some (.inl (0))) W4) from ⟨fun c15_6 => ((((h).2 r12 hr12)).1 c15_6), fun c15_6 => (have h := ((((h).2 r12 hr12)).2 c15_6); ⟨rfl, trivial, h⟩)⟩)⟩)⟩)⟩)
set_option maxRecDepth 8000 in
theorem zp_MTrl1_38 {n K : Nat} {V : zW} {post : zPo} {g u op t : Int} {u5 u6 u7 : Option zv} (hK : 11 ≤ K) (hn : 142 ≤ n) (h : ((0 ≤ g ∧ g ≤ 1) ∧ (∃ N, (0 ≤ t ∧ t ≤ N ∧ N ≤ 300) ∧ xOk (zSt V g) (zro V 94 g) (zro V 95 g) N) ∧ zSb V g) ∧ ∀ W42 : zW, (zAt W42 (xPo (zSt V g) (zro V 94 g) (zro V 95 g) t) ∧ zFr [(90, 25), (90, 26), (90, 27), (90, 28), (90, 29), (90, 33)] [110, 111, 112, 113, 114] V W42) → (zTp W42) ∧ ∀ r46 : Int, ∀ W46 : zW, (zFr [(90, 37)] [] W42 W46 ∧ zTp W46 ∧ zRn W42 W46 (W42.1 90 37) r46 ∧ 0 ≤ r46 ∧ r46 ≤ 1000000) → (r46 ≤ 0 → zwp jtb zsh n zm_MTrl1 post (K - 9) (lGo ak_ZMTrl1 59) 59 [some (.inr (.inr (some (.inl 90)))), some (.inl (g)), some (.inl (u)), some (.inl (op)), some (.inl (t)), some (.inl (r46)), u6, u7] [] W46) ∧ (¬ r46 ≤ 0 → post (some (.inl (r46))) W46)) : zwp jtb zsh n zm_MTrl1 post K (lGo ak_ZMTrl1 38) 38 [some (.inr (.inr (some (.inl 90)))), some (.inl (g)), some (.inl (u)), some (.inl (op)), some (.inl (t)), u5, u6, u7] [] V := by
  obtain ⟨kk__, rfl⟩ : ∃ kk__, K = kk__ + 11 := ⟨K - 11, by omega⟩
  exact (show 3 = 3 ∧ false = false ∧ jin3 96 1933 3 zm_MTrl1.2.2.1.1 = true ∧ lRm zm_MTrl1.2.1 { frames := 6, cells := 0, slots := 0, locals := 157 } 5 = true ∧ Nat.ble 3 3 = true ∧ Nat.ble 0 8 = true ∧ 90 < n ∧ 12 = 12 ∧ Nat.ble 1000 12 = false ∧ zc_MTplace [.inr (.inr (some (.inl 90))), .inl (g), .inl (t)] V (fun vv__ WW__ => zwp jtb zsh n zm_MTrl1 post (kk__ + 7) (lGo ak_ZMTrl1 45) 45 [some (.inr (.inr (some (.inl 90)))), some (.inl (g)), some (.inl (u)), some (.inl (op)), some (.inl (t)), u5, u6, u7] (vv__.toList ++ []) WW__) from ⟨rfl, rfl, rfl, rfl, rfl, rfl, (Nat.lt_of_lt_of_le (by decide) hn), rfl, rfl, g, t, rfl, (h).1, fun W42 hr42 => (show 3 = 3 ∧ false = false ∧ jin3 321 2655 4 zm_MTrl1.2.2.1.1 = true ∧ lRm zm_MTrl1.2.1 { frames := 1, cells := 0, slots := 0, locals := 21 } 4 = true ∧ Nat.ble 1 1 = true ∧ Nat.ble 0 8 = true ∧ 90 < n ∧ 12 = 12 ∧ Nat.ble 1000 12 = false ∧ zc_MTrmn [.inr (.inr (some (.inl 90)))] W42 (fun vv__ WW__ => zwp jtb zsh n zm_MTrl1 post (kk__ + 5) (lGo ak_ZMTrl1 49) 49 [some (.inr (.inr (some (.inl 90)))), some (.inl (g)), some (.inl (u)), some (.inl (op)), some (.inl (t)), u5, u6, u7] (vv__.toList ++ []) WW__) from ⟨rfl, rfl, rfl, rfl, rfl, rfl, (Nat.lt_of_lt_of_le (by decide) hn), rfl, rfl, rfl, (((h).2 W42 hr42)).1, fun r46 W46 hr46 => (show (r46 ≤ 0 → zwp jtb zsh n zm_MTrl1 post (kk__ + 2) (lGo ak_ZMTrl1 59) 59 [some (.inr (.inr (some (.inl 90)))), some (.inl (g)), some (.inl (u)), some (.inl (op)), some (.inl (t)), some (.inl (r46)), u6, u7] [] W46) ∧ (¬ r46 ≤ 0 → 1 = 1 ∧ True ∧ post (some (.inl (r46))) W46) from (have h := ((((h).2 W42 hr42)).2 r46 W46 hr46); ⟨fun c53_8 => ((h).1 c53_8), fun c53_8 => ⟨rfl, trivial, ((h).2 c53_8)⟩⟩))⟩)⟩)
set_option maxRecDepth 8000 in
theorem zp_MTrl1_59 {n K : Nat} {V : zW} {post : zPo} {g u op t y : Int} {u6 u7 : Option zv} (hK : 11 ≤ K) (hn : 142 ≤ n) (h : ∃ s63 : gSt, (gW V g s63 ∧ s63.2.2.2.1 = t ∧ zAt V (gPo s63) ∧ trE s63.2.1.2.2.1 (xLd s63.2.1.2.2.2.2.1) t + (if s63.2.1.2.2.2.2.1 t = [] then 0 else 1) ≤ 6) ∧ ∀ r63 : Int, ∀ W63 : zW, (zFr [(90, 36), (90, 37)] [93, 94, 95, 96, 97, 98, 100, 110, 111, 112, 115] V W63 ∧ zFo g V W63 ∧ ((r63 < 0 ∧ -1000000 ≤ r63 ∧ gMv (V.2.1 91) (V.1 90 1) s63 (V.1 90 37) none) ∨ (0 ≤ r63 ∧ ∃ e m, xLt (xLk (V.2.1 91) (V.1 90 1) (V.1 90 37)) ∧ xWd (V.2.1 91) (V.1 90 1) (V.1 90 37) e ∧ zUn (gPo s63).1 (fun i => V.2.1 91 (V.1 90 37 + i)) (e - V.1 90 37) m ∧ ¬ gMb s63 m ∧ r63 = s63.2.1.2.1 + 1 ∧ W63.1 90 37 = e ∧ gW W63 g (e, xApp s63.2.1 t m, zuI s63.2.2.1 (s63.2.1.2.1 + 1) 0, s63.2.1.2.1 + 1, 2, s63.2.2.2.2.2)))) → (0 ≤ r63 → zwp jtb zsh n zm_MTrl1 post (K - 11) (lGo ak_ZMTrl1 85) 85 [some (.inr (.inr (some (.inl 90)))), some (.inl (g)), some (.inl (u)), some (.inl (op)), some (.inl (r63)), some (.inl (y)), some (.inl (r63)), some (.inl (t))] [] W63) ∧ (¬ 0 ≤ r63 → (-2147483648 ≤ -r63 ∧ -r63 ≤ 2147483647) ∧ post (some (.inl (-r63))) W63)) : zwp jtb zsh n zm_MTrl1 post K (lGo ak_ZMTrl1 59) 59 [some (.inr (.inr (some (.inl 90)))), some (.inl (g)), some (.inl (u)), some (.inl (op)), some (.inl (t)), some (.inl (y)), u6, u7] [] V := by
  obtain ⟨kk__, rfl⟩ : ∃ kk__, K = kk__ + 11 := ⟨K - 11, by omega⟩
  exact (show 3 = 3 ∧ false = false ∧ jin3 324 2659 5 zm_MTrl1.2.2.1.1 = true ∧ lRm zm_MTrl1.2.1 { frames := 8, cells := 0, slots := 0, locals := 210 } 5 = true ∧ Nat.ble 3 3 = true ∧ Nat.ble 0 8 = true ∧ 90 < n ∧ 12 = 12 ∧ Nat.ble 1000 12 = false ∧ zc_MTrmv [.inr (.inr (some (.inl 90))), .inl (g), .inl (t)] V (fun vv__ WW__ => zwp jtb zsh n zm_MTrl1 post (kk__ + 7) (lGo ak_ZMTrl1 66) 66 [some (.inr (.inr (some (.inl 90)))), some (.inl (g)), some (.inl (u)), some (.inl (op)), some (.inl (t)), some (.inl (y)), u6, u7] (vv__.toList ++ []) WW__) from (Exists.elim (h) (fun s63 gh63 => ⟨rfl, rfl, rfl, rfl, rfl, rfl, (Nat.lt_of_lt_of_le (by decide) hn), rfl, rfl, g, t, s63, rfl, (gh63).1, fun r63 W63 hr63 => (show (0 ≤ r63 → zwp jtb zsh n zm_MTrl1 post (kk__ + 0) (lGo ak_ZMTrl1 85) 85 [some (.inr (.inr (some (.inl 90)))), some (.inl (g)), some (.inl (u)), some (.inl (op)), some (.inl (r63)), some (.inl (y)), some (.inl (r63)), some (.inl (t))] [] W63) ∧ (¬ 0 ≤ r63 → (-2147483648 ≤ -r63 ∧ -r63 ≤ 2147483647) ∧ 1 = 1 ∧ True ∧ post (some (.inl (-r63))) W63) from ⟨fun c70_6 => ((((gh63).2 r63 W63 hr63)).1 c70_6), fun c70_6 => (have h := ((((gh63).2 r63 W63 hr63)).2 c70_6); ⟨(h).1, ⟨rfl, trivial, (h).2⟩⟩)⟩)⟩)))
set_option maxRecDepth 8000 in
theorem zp_MTrl1_85 {n K : Nat} {V : zW} {post : zPo} {g u op t y x b : Int}  (hK : 10 ≤ K) (hn : 142 ≤ n) (h : ∃ s89 : gSt, (gW V g s89 ∧ s89.2.2.2.1 = t ∧ s89.2.2.2.2.1 = 2 ∧ s89.2.1.2.2.2.2.2 t = 0 ∧ zBn V (V.1 90 37) s89.1) ∧ ∀ r89 : Int, ∀ W89 : zW, (zFr [(90, 37)] [98, 99] V W89 ∧ zFo g V W89 ∧ ((r89 = 0 ∧ ∃ s2 : gSt, gP (V.2.1 91) (V.1 90 1) s89 s2 ∧ gW W89 g s2 ∧ W89.1 90 37 = s2.1 ∧ s2.2.2.2.1 = t ∧ s2.2.2.2.2.2 = s89.2.2.2.2.2 ∧ ((s2.2.2.2.2.1 = 2 ∧ ¬ gcM (xLk (V.2.1 91) (V.1 90 1) s2.1)) ∨ (s2.2.2.2.2.1 = 3 ∧ ¬ xLk (V.2.1 91) (V.1 90 1) s2.1 = 36))) ∨ (0 < r89 ∧ r89 ≤ 1000000 ∧ gF (V.2.1 91) (V.1 90 1) s89))) → (r89 ≤ 0 → zwp jtb zsh n zm_MTrl1 post (K - 7) (lGo ak_ZMTrl1 104) 104 [some (.inr (.inr (some (.inl 90)))), some (.inl (g)), some (.inl (u)), some (.inl (op)), some (.inl (t)), some (.inl (r89)), some (.inl (x)), some (.inl (b))] [] W89) ∧ (¬ r89 ≤ 0 → zwp jtb zsh n zm_MTrl1 post (K - 10) (lGo ak_ZMTrl1 113) 113 [some (.inr (.inr (some (.inl 90)))), some (.inl (g)), some (.inl (u)), some (.inl (op)), some (.inl (t)), some (.inl (r89)), some (.inl (x)), some (.inl (b))] [] W89)) : zwp jtb zsh n zm_MTrl1 post K (lGo ak_ZMTrl1 85) 85 [some (.inr (.inr (some (.inl 90)))), some (.inl (g)), some (.inl (u)), some (.inl (op)), some (.inl (t)), some (.inl (y)), some (.inl (x)), some (.inl (b))] [] V := by
  obtain ⟨kk__, rfl⟩ : ∃ kk__, K = kk__ + 10 := ⟨K - 10, by omega⟩
  exact (show 3 = 3 ∧ false = false ∧ jin3 327 2710 6 zm_MTrl1.2.2.1.1 = true ∧ lRm zm_MTrl1.2.1 { frames := 1, cells := 0, slots := 0, locals := 24 } 6 = true ∧ Nat.ble 3 3 = true ∧ Nat.ble 0 8 = true ∧ 90 < n ∧ 12 = 12 ∧ Nat.ble 1000 12 = false ∧ zc_MTrmk [.inr (.inr (some (.inl 90))), .inl (g), .inl (t)] V (fun vv__ WW__ => zwp jtb zsh n zm_MTrl1 post (kk__ + 6) (lGo ak_ZMTrl1 92) 92 [some (.inr (.inr (some (.inl 90)))), some (.inl (g)), some (.inl (u)), some (.inl (op)), some (.inl (t)), some (.inl (y)), some (.inl (x)), some (.inl (b))] (vv__.toList ++ []) WW__) from (Exists.elim (h) (fun s89 gh89 => ⟨rfl, rfl, rfl, rfl, rfl, rfl, (Nat.lt_of_lt_of_le (by decide) hn), rfl, rfl, g, t, s89, rfl, (gh89).1, fun r89 W89 hr89 => (show (r89 ≤ 0 → zwp jtb zsh n zm_MTrl1 post (kk__ + 3) (lGo ak_ZMTrl1 104) 104 [some (.inr (.inr (some (.inl 90)))), some (.inl (g)), some (.inl (u)), some (.inl (op)), some (.inl (t)), some (.inl (r89)), some (.inl (x)), some (.inl (b))] [] W89) ∧ (¬ r89 ≤ 0 → zwp jtb zsh n zm_MTrl1 post (kk__ + 0) (lGo ak_ZMTrl1 113) 113 [some (.inr (.inr (some (.inl 90)))), some (.inl (g)), some (.inl (u)), some (.inl (op)), some (.inl (t)), some (.inl (r89)), some (.inl (x)), some (.inl (b))] [] W89) from ⟨fun c96_6 => ((((gh89).2 r89 W89 hr89)).1 c96_6), fun c96_6 => ((((gh89).2 r89 W89 hr89)).2 c96_6)⟩)⟩)))
set_option maxRecDepth 8000 in
theorem zp_MTrl1_104 {n K : Nat} {V : zW} {post : zPo} {g u op t y x b : Int}  (hK : 5 ≤ K) (hn : 142 ≤ n) (h : ∃ s108 : gSt, (gW V g s108 ∧ s108.2.2.2.1 = t ∧ ¬ s108.2.2.2.2.1 = 1 ∧ zBn V (V.1 90 37) s108.1) ∧ ∀ r108 : Int, ∀ W108 : zW, (zFr [(90, 37)] [100, 101] V W108 ∧ zFo g V W108 ∧ ((r108 = 0 ∧ ∃ s2 : gSt, gP (V.2.1 91) (V.1 90 1) s108 s2 ∧ gW W108 g s2 ∧ W108.1 90 37 = s2.1 ∧ s2.2.2.2.1 = t ∧ s2.2.2.2.2.2 = s108.2.2.2.2.2 ∧ s2.2.1 = s108.2.1 ∧ ((s2.2.2.2.2.1 = s108.2.2.2.2.1 ∧ s2.1 = s108.1) ∨ s2.2.2.2.2.1 = (if s108.2.2.2.2.1 = 0 then 0 else 4)) ∧ ¬ gcR (xLk (V.2.1 91) (V.1 90 1) s2.1)) ∨ (0 < r108 ∧ r108 ≤ 1000000 ∧ gF (V.2.1 91) (V.1 90 1) s108))) → zwp jtb zsh n zm_MTrl1 post (K - 5) (lGo ak_ZMTrl1 113) 113 [some (.inr (.inr (some (.inl 90)))), some (.inl (g)), some (.inl (u)), some (.inl (op)), some (.inl (t)), some (.inl (r108)), some (.inl (x)), some (.inl (b))] [] W108) : zwp jtb zsh n zm_MTrl1 post K (lGo ak_ZMTrl1 104) 104 [some (.inr (.inr (some (.inl 90)))), some (.inl (g)), some (.inl (u)), some (.inl (op)), some (.inl (t)), some (.inl (y)), some (.inl (x)), some (.inl (b))] [] V := by
  obtain ⟨kk__, rfl⟩ : ∃ kk__, K = kk__ + 5 := ⟨K - 5, by omega⟩
  exact (show 3 = 3 ∧ false = false ∧ jin3 330 2639 7 zm_MTrl1.2.2.1.1 = true ∧ lRm zm_MTrl1.2.1 { frames := 1, cells := 0, slots := 0, locals := 21 } 11 = true ∧ Nat.ble 3 3 = true ∧ Nat.ble 0 8 = true ∧ 90 < n ∧ 12 = 12 ∧ Nat.ble 1000 12 = false ∧ zc_MTrrm [.inr (.inr (some (.inl 90))), .inl (g), .inl (t)] V (fun vv__ WW__ => zwp jtb zsh n zm_MTrl1 post (kk__ + 1) (lGo ak_ZMTrl1 111) 111 [some (.inr (.inr (some (.inl 90)))), some (.inl (g)), some (.inl (u)), some (.inl (op)), some (.inl (t)), some (.inl (y)), some (.inl (x)), some (.inl (b))] (vv__.toList ++ []) WW__) from (Exists.elim (h) (fun s108 gh108 => ⟨rfl, rfl, rfl, rfl, rfl, rfl, (Nat.lt_of_lt_of_le (by decide) hn), rfl, rfl, g, t, s108, rfl, (gh108).1, fun r108 W108 hr108 => (show zwp jtb zsh n zm_MTrl1 post (kk__ + 0) (lGo ak_ZMTrl1 113) 113 [some (.inr (.inr (some (.inl 90)))), some (.inl (g)), some (.inl (u)), some (.inl (op)), some (.inl (t)), some (.inl (r108)), some (.inl (x)), some (.inl (b))] [] W108 from ((gh108).2 r108 W108 hr108))⟩)))
set_option maxRecDepth 8000 in
theorem zp_MTrl1_113 {n K : Nat} {V : zW} {post : zPo} {g u op t y x b : Int}  (hK : 40 ≤ K) (hn : 142 ≤ n) (h : (¬ y = 0 → (y ≤ 0 → zwp jtb zsh n zm_MTrl1 post (K - 5) (lGo ak_ZMTrl1 3) 3 [some (.inr (.inr (some (.inl 90)))), some (.inl (g)), some (.inl (u)), some (.inl (op)), some (.inl (t)), some (.inl (y)), some (.inl (x)), some (.inl (b))] [] V) ∧ (¬ y ≤ 0 → post (some (.inl (y))) V)) ∧ (y = 0 → (zTp V) ∧ ∀ r119 : Int, (r119 = zLk V (V.1 90 37)) → (¬ r119 = 40 → (y ≤ 0 → zwp jtb zsh n zm_MTrl1 post (K - 9) (lGo ak_ZMTrl1 3) 3 [some (.inr (.inr (some (.inl 90)))), some (.inl (g)), some (.inl (u)), some (.inl (op)), some (.inl (t)), some (.inl (y)), some (.inl (x)), some (.inl (b))] [] V) ∧ (¬ y ≤ 0 → post (some (.inl (y))) V)) ∧ (r119 = 40 → (¬ op = 6 → (-2147483648 ≤ (V.1 90 37) + 1 ∧ (V.1 90 37) + 1 ≤ 2147483647) ∧ zwp jtb zsh n zm_MTrl1 post (K - 19) (lGo ak_ZMTrl1 168) 168 [some (.inr (.inr (some (.inl 90)))), some (.inl (g)), some (.inl (u)), some (.inl (op)), some (.inl (t)), some (.inl (0)), some (.inl (x)), some (.inl (b))] [] (zuF V 90 37 ((V.1 90 37) + 1))) ∧ (op = 6 → ((1 ≤ (8 : Int) ∧ (8 : Int) ≤ 9) ∧ 0 ≤ (V.1 90 37) ∧ (V.1 90 37) ≤ 65536) ∧ ∀ r139 : Int, (r139 = 100000 * (8 : Int) + (V.1 90 37)) → (-2147483648 ≤ (V.1 90 37) + 1 ∧ (V.1 90 37) + 1 ≤ 2147483647) ∧ (r139 ≤ 0 → zwp jtb zsh n zm_MTrl1 post (K - 23) (lGo ak_ZMTrl1 168) 168 [some (.inr (.inr (some (.inl 90)))), some (.inl (g)), some (.inl (u)), some (.inl (op)), some (.inl (t)), some (.inl (r139)), some (.inl (x)), some (.inl (b))] [] (zuF V 90 37 ((V.1 90 37) + 1))) ∧ (¬ r139 ≤ 0 → (r139 ≤ 0 → (-2147483648 ≤ ((V.1 90 37) + 1) + 1 ∧ ((V.1 90 37) + 1) + 1 ≤ 2147483647) ∧ (r139 ≤ 0 → zwp jtb zsh n zm_MTrl1 post (K - 36) (lGo ak_ZMTrl1 212) 212 [some (.inr (.inr (some (.inl 90)))), some (.inl (g)), some (.inl (u)), some (.inl (op)), some (.inl (t)), some (.inl (r139)), some (.inl (x)), some (.inl (b))] [] (zuF (zuF V 90 37 ((V.1 90 37) + 1)) 90 37 (((V.1 90 37) + 1) + 1))) ∧ (¬ r139 ≤ 0 → zwp jtb zsh n zm_MTrl1 post (K - 40) (lGo ak_ZMTrl1 113) 113 [some (.inr (.inr (some (.inl 90)))), some (.inl (g)), some (.inl (u)), some (.inl (op)), some (.inl (t)), some (.inl (r139)), some (.inl (x)), some (.inl (b))] [] (zuF (zuF V 90 37 ((V.1 90 37) + 1)) 90 37 (((V.1 90 37) + 1) + 1)))) ∧ (¬ r139 ≤ 0 → (r139 ≤ 0 → zwp jtb zsh n zm_MTrl1 post (K - 35) (lGo ak_ZMTrl1 212) 212 [some (.inr (.inr (some (.inl 90)))), some (.inl (g)), some (.inl (u)), some (.inl (op)), some (.inl (t)), some (.inl (r139)), some (.inl (x)), some (.inl (b))] [] (zuF (zuF V 90 37 ((V.1 90 37) + 1)) 90 37 ((V.1 90 37) + 1))) ∧ (¬ r139 ≤ 0 → zwp jtb zsh n zm_MTrl1 post (K - 39) (lGo ak_ZMTrl1 113) 113 [some (.inr (.inr (some (.inl 90)))), some (.inl (g)), some (.inl (u)), some (.inl (op)), some (.inl (t)), some (.inl (r139)), some (.inl (x)), some (.inl (b))] [] (zuF (zuF V 90 37 ((V.1 90 37) + 1)) 90 37 ((V.1 90 37) + 1))))))))) : zwp jtb zsh n zm_MTrl1 post K (lGo ak_ZMTrl1 113) 113 [some (.inr (.inr (some (.inl 90)))), some (.inl (g)), some (.inl (u)), some (.inl (op)), some (.inl (t)), some (.inl (y)), some (.inl (x)), some (.inl (b))] [] V := by
  obtain ⟨kk__, rfl⟩ : ∃ kk__, K = kk__ + 40 := ⟨K - 40, by omega⟩
  exact (show (¬ y = 0 → (y ≤ 0 → zwp jtb zsh n zm_MTrl1 post (kk__ + 35) (lGo ak_ZMTrl1 3) 3 [some (.inr (.inr (some (.inl 90)))), some (.inl (g)), some (.inl (u)), some (.inl (op)), some (.inl (t)), some (.inl (y)), some (.inl (x)), some (.inl (b))] [] V) ∧ (¬ y ≤ 0 → 1 = 1 ∧ True ∧ post (some (.inl (y))) V)) ∧ (y = 0 → 3 = 3 ∧ false = false ∧ jin3 278 2574 2 zm_MTrl1.2.2.1.1 = true ∧ lRm zm_MTrl1.2.1 { frames := 0, cells := 0, slots := 0, locals := 0 } 1 = true ∧ Nat.ble 1 1 = true ∧ Nat.ble 0 8 = true ∧ 90 < n ∧ 12 = 12 ∧ Nat.ble 1000 12 = false ∧ zc_MTlook [.inr (.inr (some (.inl 90)))] V (fun vv__ WW__ => zwp jtb zsh n zm_MTrl1 post (kk__ + 36) (lGo ak_ZMTrl1 122) 122 [some (.inr (.inr (some (.inl 90)))), some (.inl (g)), some (.inl (u)), some (.inl (op)), some (.inl (t)), some (.inl (y)), some (.inl (x)), some (.inl (b))] (vv__.toList ++ []) WW__)) from ⟨fun c115_1 => ⟨fun c226_3 => ((((h).1 c115_1)).1 c226_3), fun c226_3 => (have h := ((((h).1 c115_1)).2 c226_3); ⟨rfl, trivial, h⟩)⟩, fun c115_1 => ⟨rfl, rfl, rfl, rfl, rfl, rfl, (Nat.lt_of_lt_of_le (by decide) hn), rfl, rfl, rfl, (((h).2 c115_1)).1, fun r119 hr119 => (show (¬ r119 = 40 → (y ≤ 0 → zwp jtb zsh n zm_MTrl1 post (kk__ + 31) (lGo ak_ZMTrl1 3) 3 [some (.inr (.inr (some (.inl 90)))), some (.inl (g)), some (.inl (u)), some (.inl (op)), some (.inl (t)), some (.inl (y)), some (.inl (x)), some (.inl (b))] [] V) ∧ (¬ y ≤ 0 → 1 = 1 ∧ True ∧ post (some (.inl (y))) V)) ∧ (r119 = 40 → (¬ op = 6 → 90 < n ∧ 12 = 12 ∧ (-2147483648 ≤ (V.1 90 37) + 1 ∧ (V.1 90 37) + 1 ≤ 2147483647) ∧ 90 < n ∧ 12 = 12 ∧ (some 0 : Option Nat) = some 0 ∧ ((0 : Nat) = 0 ∨ ((0 : Nat) = 1 ∧ (((V.1 90 37) + 1) = 0 ∨ ((V.1 90 37) + 1) = 1))) ∧ ((0 : Int) ≤ 0 → zwp jtb zsh n zm_MTrl1 post (kk__ + 21) (lGo ak_ZMTrl1 168) 168 [some (.inr (.inr (some (.inl 90)))), some (.inl (g)), some (.inl (u)), some (.inl (op)), some (.inl (t)), some (.inl (0)), some (.inl (x)), some (.inl (b))] [] (zuF V 90 37 ((V.1 90 37) + 1))) ∧ (¬ (0 : Int) ≤ 0 → zwp jtb zsh n zm_MTrl1 post (kk__ + 21) (lGo ak_ZMTrl1 163) 163 [some (.inr (.inr (some (.inl 90)))), some (.inl (g)), some (.inl (u)), some (.inl (op)), some (.inl (t)), some (.inl (0)), some (.inl (x)), some (.inl (b))] [] (zuF V 90 37 ((V.1 90 37) + 1)))) ∧ (op = 6 → 90 < n ∧ 12 = 12 ∧ 3 = 3 ∧ true = true ∧ jin3 287 2588 8 zm_MTrl1.2.2.1.1 = true ∧ lRm zm_MTrl1.2.1 { frames := 0, cells := 0, slots := 0, locals := 0 } 2 = true ∧ Nat.ble 2 2 = true ∧ Nat.ble 0 8 = true ∧ zc_MTflt [.inl (8), .inl (V.1 90 37)] V (fun vv__ WW__ => zwp jtb zsh n zm_MTrl1 post (kk__ + 27) (lGo ak_ZMTrl1 142) 142 [some (.inr (.inr (some (.inl 90)))), some (.inl (g)), some (.inl (u)), some (.inl (op)), some (.inl (t)), some (.inl (y)), some (.inl (x)), some (.inl (b))] (vv__.toList ++ []) WW__))) from (have h := ((((h).2 c115_1)).2 r119 hr119); ⟨fun c124_5 => ⟨fun c226_7 => ((((h).1 c124_5)).1 c226_7), fun c226_7 => (have h := ((((h).1 c124_5)).2 c226_7); ⟨rfl, trivial, h⟩)⟩, fun c124_5 => ⟨fun c130_8 => (have h := ((((h).2 c124_5)).1 c130_8); ⟨(Nat.lt_of_lt_of_le (by decide) hn), rfl, ⟨(h).1, ⟨(Nat.lt_of_lt_of_le (by decide) hn), rfl, rfl, (Or.inl rfl), ⟨fun _ => (h).2, fun hc18 => absurd hc18 (by decide)⟩⟩⟩⟩), fun c130_8 => (have h := ((((h).2 c124_5)).2 c130_8); ⟨(Nat.lt_of_lt_of_le (by decide) hn), rfl, ⟨rfl, rfl, rfl, rfl, rfl, rfl, 8, V.1 90 37, rfl, (h).1, fun r139 hr139 => (show 90 < n ∧ 12 = 12 ∧ (-2147483648 ≤ (V.1 90 37) + 1 ∧ (V.1 90 37) + 1 ≤ 2147483647) ∧ 90 < n ∧ 12 = 12 ∧ (some 0 : Option Nat) = some 0 ∧ ((0 : Nat) = 0 ∨ ((0 : Nat) = 1 ∧ (((V.1 90 37) + 1) = 0 ∨ ((V.1 90 37) + 1) = 1))) ∧ (r139 ≤ 0 → zwp jtb zsh n zm_MTrl1 post (kk__ + 17) (lGo ak_ZMTrl1 168) 168 [some (.inr (.inr (some (.inl 90)))), some (.inl (g)), some (.inl (u)), some (.inl (op)), some (.inl (t)), some (.inl (r139)), some (.inl (x)), some (.inl (b))] [] (zuF V 90 37 ((V.1 90 37) + 1))) ∧ (¬ r139 ≤ 0 → (r139 ≤ 0 → 90 < n ∧ 12 = 12 ∧ (-2147483648 ≤ ((V.1 90 37) + 1) + 1 ∧ ((V.1 90 37) + 1) + 1 ≤ 2147483647) ∧ 90 < n ∧ 12 = 12 ∧ (some 0 : Option Nat) = some 0 ∧ ((0 : Nat) = 0 ∨ ((0 : Nat) = 1 ∧ ((((V.1 90 37) + 1) + 1) = 0 ∨ (((V.1 90 37) + 1) + 1) = 1))) ∧ (r139 ≤ 0 → zwp jtb zsh n zm_MTrl1 post (kk__ + 4) (lGo ak_ZMTrl1 212) 212 [some (.inr (.inr (some (.inl 90)))), some (.inl (g)), some (.inl (u)), some (.inl (op)), some (.inl (t)), some (.inl (r139)), some (.inl (x)), some (.inl (b))] [] (zuF (zuF V 90 37 ((V.1 90 37) + 1)) 90 37 (((V.1 90 37) + 1) + 1))) ∧ (¬ r139 ≤ 0 → zwp jtb zsh n zm_MTrl1 post (kk__ + 0) (lGo ak_ZMTrl1 113) 113 [some (.inr (.inr (some (.inl 90)))), some (.inl (g)), some (.inl (u)), some (.inl (op)), some (.inl (t)), some (.inl (r139)), some (.inl (x)), some (.inl (b))] [] (zuF (zuF V 90 37 ((V.1 90 37) + 1)) 90 37 (((V.1 90 37) + 1) + 1)))) ∧ (¬ r139 ≤ 0 → 90 < n ∧ 12 = 12 ∧ 90 < n ∧ 12 = 12 ∧ (some 0 : Option Nat) = some 0 ∧ ((0 : Nat) = 0 ∨ ((0 : Nat) = 1 ∧ (((V.1 90 37) + 1) = 0 ∨ ((V.1 90 37) + 1) = 1))) ∧ (r139 ≤ 0 → zwp jtb zsh n zm_MTrl1 post (kk__ + 5) (lGo ak_ZMTrl1 212) 212 [some (.inr (.inr (some (.inl 90)))), some (.inl (g)), some (.inl (u)), some (.inl (op)), some (.inl (t)), some (.inl (r139)), some (.inl (x)), some (.inl (b))] [] (zuF (zuF V 90 37 ((V.1 90 37) + 1)) 90 37 ((V.1 90 37) + 1))) ∧ (¬ r139 ≤ 0 → zwp jtb zsh n zm_MTrl1 post (kk__ + 1) (lGo ak_ZMTrl1 113) 113 [some (.inr (.inr (some (.inl 90)))), some (.inl (g)), some (.inl (u)), some (.inl (op)), some (.inl (t)), some (.inl (r139)), some (.inl (x)), some (.inl (b))] [] (zuF (zuF V 90 37 ((V.1 90 37) + 1)) 90 37 ((V.1 90 37) + 1))))) from ⟨(Nat.lt_of_lt_of_le (by decide) hn), rfl, ⟨(((h).2 r139 hr139)).1, ⟨(Nat.lt_of_lt_of_le (by decide) hn), rfl, rfl, (Or.inl rfl), ⟨fun c160_22 => (((((h).2 r139 hr139)).2).1 c160_22), fun c160_22 => (have h := (((((h).2 r139 hr139)).2).2 c160_22); ⟨fun c183_28 => ⟨(Nat.lt_of_lt_of_le (by decide) hn), rfl, ⟨(((h).1 c183_28)).1, ⟨(Nat.lt_of_lt_of_le (by decide) hn), rfl, rfl, (Or.inl rfl), ⟨fun c204_35 => (((((h).1 c183_28)).2).1 c204_35), fun c204_35 => (((((h).1 c183_28)).2).2 c204_35)⟩⟩⟩⟩, fun c183_28 => ⟨(Nat.lt_of_lt_of_le (by decide) hn), rfl, ⟨(Nat.lt_of_lt_of_le (by decide) hn), rfl, rfl, (Or.inl rfl), ⟨fun c204_34 => ((((h).2 c183_28)).1 c204_34), fun c204_34 => ((((h).2 c183_28)).2 c204_34)⟩⟩⟩⟩)⟩⟩⟩⟩)⟩⟩)⟩⟩))⟩⟩)
set_option maxRecDepth 8000 in
theorem zp_MTrl1_168 {n K : Nat} {V : zW} {post : zPo} {g u op t y x b : Int}  (hK : 22 ≤ K) (hn : 142 ≤ n) (h : (-2147483648 ≤ op + 1 ∧ op + 1 ≤ 2147483647) ∧ ∃ s175 : gSt, ((op + 1) = 2 ∧ gLp V g b 2 s175) ∧ ∀ r175 : Int, ∀ W175 : zW, (gLq V W175 g 2 r175 s175) → (r175 ≤ 0 → (-2147483648 ≤ (W175.1 90 37) + 1 ∧ (W175.1 90 37) + 1 ≤ 2147483647) ∧ (r175 ≤ 0 → zwp jtb zsh n zm_MTrl1 post (K - 18) (lGo ak_ZMTrl1 212) 212 [some (.inr (.inr (some (.inl 90)))), some (.inl (g)), some (.inl (u)), some (.inl (op)), some (.inl (t)), some (.inl (r175)), some (.inl (x)), some (.inl (b))] [] (zuF W175 90 37 ((W175.1 90 37) + 1))) ∧ (¬ r175 ≤ 0 → zwp jtb zsh n zm_MTrl1 post (K - 22) (lGo ak_ZMTrl1 113) 113 [some (.inr (.inr (some (.inl 90)))), some (.inl (g)), some (.inl (u)), some (.inl (op)), some (.inl (t)), some (.inl (r175)), some (.inl (x)), some (.inl (b))] [] (zuF W175 90 37 ((W175.1 90 37) + 1)))) ∧ (¬ r175 ≤ 0 → (r175 ≤ 0 → zwp jtb zsh n zm_MTrl1 post (K - 17) (lGo ak_ZMTrl1 212) 212 [some (.inr (.inr (some (.inl 90)))), some (.inl (g)), some (.inl (u)), some (.inl (op)), some (.inl (t)), some (.inl (r175)), some (.inl (x)), some (.inl (b))] [] (zuF W175 90 37 (W175.1 90 37))) ∧ (¬ r175 ≤ 0 → zwp jtb zsh n zm_MTrl1 post (K - 21) (lGo ak_ZMTrl1 113) 113 [some (.inr (.inr (some (.inl 90)))), some (.inl (g)), some (.inl (u)), some (.inl (op)), some (.inl (t)), some (.inl (r175)), some (.inl (x)), some (.inl (b))] [] (zuF W175 90 37 (W175.1 90 37))))) : zwp jtb zsh n zm_MTrl1 post K (lGo ak_ZMTrl1 168) 168 [some (.inr (.inr (some (.inl 90)))), some (.inl (g)), some (.inl (u)), some (.inl (op)), some (.inl (t)), some (.inl (y)), some (.inl (x)), some (.inl (b))] [] V := by
  obtain ⟨kk__, rfl⟩ : ∃ kk__, K = kk__ + 22 := ⟨K - 22, by omega⟩
  exact (show (-2147483648 ≤ op + 1 ∧ op + 1 ≤ 2147483647) ∧ 3 = 3 ∧ false = false ∧ jin3 333 2643 9 zm_MTrl1.2.2.1.1 = true ∧ lRm zm_MTrl1.2.1 { frames := 13, cells := 0, slots := 0, locals := 342 } 8 = true ∧ Nat.ble 4 4 = true ∧ Nat.ble 0 8 = true ∧ 90 < n ∧ 12 = 12 ∧ Nat.ble 1000 12 = false ∧ zc_MTrl2 [.inr (.inr (some (.inl 90))), .inl (g), .inl (b), .inl (op + 1)] V (fun vv__ WW__ => zwp jtb zsh n zm_MTrl1 post (kk__ + 15) (lGo ak_ZMTrl1 178) 178 [some (.inr (.inr (some (.inl 90)))), some (.inl (g)), some (.inl (u)), some (.inl (op)), some (.inl (t)), some (.inl (y)), some (.inl (x)), some (.inl (b))] (vv__.toList ++ []) WW__) from ⟨(h).1, (Exists.elim ((h).2) (fun s175 gh175 => ⟨rfl, rfl, rfl, rfl, rfl, rfl, (Nat.lt_of_lt_of_le (by decide) hn), rfl, rfl, g, b, op + 1, s175, rfl, (gh175).1, fun r175 W175 hr175 => (show (r175 ≤ 0 → 90 < n ∧ 12 = 12 ∧ (-2147483648 ≤ (W175.1 90 37) + 1 ∧ (W175.1 90 37) + 1 ≤ 2147483647) ∧ 90 < n ∧ 12 = 12 ∧ (some 0 : Option Nat) = some 0 ∧ ((0 : Nat) = 0 ∨ ((0 : Nat) = 1 ∧ (((W175.1 90 37) + 1) = 0 ∨ ((W175.1 90 37) + 1) = 1))) ∧ (r175 ≤ 0 → zwp jtb zsh n zm_MTrl1 post (kk__ + 4) (lGo ak_ZMTrl1 212) 212 [some (.inr (.inr (some (.inl 90)))), some (.inl (g)), some (.inl (u)), some (.inl (op)), some (.inl (t)), some (.inl (r175)), some (.inl (x)), some (.inl (b))] [] (zuF W175 90 37 ((W175.1 90 37) + 1))) ∧ (¬ r175 ≤ 0 → zwp jtb zsh n zm_MTrl1 post (kk__ + 0) (lGo ak_ZMTrl1 113) 113 [some (.inr (.inr (some (.inl 90)))), some (.inl (g)), some (.inl (u)), some (.inl (op)), some (.inl (t)), some (.inl (r175)), some (.inl (x)), some (.inl (b))] [] (zuF W175 90 37 ((W175.1 90 37) + 1)))) ∧ (¬ r175 ≤ 0 → 90 < n ∧ 12 = 12 ∧ 90 < n ∧ 12 = 12 ∧ (some 0 : Option Nat) = some 0 ∧ ((0 : Nat) = 0 ∨ ((0 : Nat) = 1 ∧ ((W175.1 90 37) = 0 ∨ (W175.1 90 37) = 1))) ∧ (r175 ≤ 0 → zwp jtb zsh n zm_MTrl1 post (kk__ + 5) (lGo ak_ZMTrl1 212) 212 [some (.inr (.inr (some (.inl 90)))), some (.inl (g)), some (.inl (u)), some (.inl (op)), some (.inl (t)), some (.inl (r175)), some (.inl (x)), some (.inl (b))] [] (zuF W175 90 37 (W175.1 90 37))) ∧ (¬ r175 ≤ 0 → zwp jtb zsh n zm_MTrl1 post (kk__ + 1) (lGo ak_ZMTrl1 113) 113 [some (.inr (.inr (some (.inl 90)))), some (.inl (g)), some (.inl (u)), some (.inl (op)), some (.inl (t)), some (.inl (r175)), some (.inl (x)), some (.inl (b))] [] (zuF W175 90 37 (W175.1 90 37)))) from (have h := ((gh175).2 r175 W175 hr175); ⟨fun c183_10 => ⟨(Nat.lt_of_lt_of_le (by decide) hn), rfl, ⟨(((h).1 c183_10)).1, ⟨(Nat.lt_of_lt_of_le (by decide) hn), rfl, rfl, (Or.inl rfl), ⟨fun c204_17 => (((((h).1 c183_10)).2).1 c204_17), fun c204_17 => (((((h).1 c183_10)).2).2 c204_17)⟩⟩⟩⟩, fun c183_10 => ⟨(Nat.lt_of_lt_of_le (by decide) hn), rfl, ⟨(Nat.lt_of_lt_of_le (by decide) hn), rfl, rfl, (Or.inl rfl), ⟨fun c204_16 => ((((h).2 c183_10)).1 c204_16), fun c204_16 => ((((h).2 c183_10)).2 c204_16)⟩⟩⟩⟩))⟩))⟩)
set_option maxRecDepth 8000 in
theorem zp_MTrl1_212 {n K : Nat} {V : zW} {post : zPo} {g u op t y x b : Int}  (hK : 6 ≤ K) (hn : 142 ≤ n) (h : ∃ s216 : gSt, (gW V g s216 ∧ s216.2.2.2.1 = t ∧ ¬ s216.2.2.2.2.1 = 1 ∧ zBn V (V.1 90 37) s216.1) ∧ ∀ r216 : Int, ∀ W216 : zW, (zFr [(90, 37)] [100, 101] V W216 ∧ zFo g V W216 ∧ ((r216 = 0 ∧ ∃ s2 : gSt, gP (V.2.1 91) (V.1 90 1) s216 s2 ∧ gW W216 g s2 ∧ W216.1 90 37 = s2.1 ∧ s2.2.2.2.1 = t ∧ s2.2.2.2.2.2 = s216.2.2.2.2.2 ∧ s2.2.1 = s216.2.1 ∧ ((s2.2.2.2.2.1 = s216.2.2.2.2.1 ∧ s2.1 = s216.1) ∨ s2.2.2.2.2.1 = (if s216.2.2.2.2.1 = 0 then 0 else 4)) ∧ ¬ gcR (xLk (V.2.1 91) (V.1 90 1) s2.1)) ∨ (0 < r216 ∧ r216 ≤ 1000000 ∧ gF (V.2.1 91) (V.1 90 1) s216))) → zwp jtb zsh n zm_MTrl1 post (K - 6) (lGo ak_ZMTrl1 113) 113 [some (.inr (.inr (some (.inl 90)))), some (.inl (g)), some (.inl (u)), some (.inl (op)), some (.inl (t)), some (.inl (r216)), some (.inl (x)), some (.inl (b))] [] W216) : zwp jtb zsh n zm_MTrl1 post K (lGo ak_ZMTrl1 212) 212 [some (.inr (.inr (some (.inl 90)))), some (.inl (g)), some (.inl (u)), some (.inl (op)), some (.inl (t)), some (.inl (y)), some (.inl (x)), some (.inl (b))] [] V := by
  obtain ⟨kk__, rfl⟩ : ∃ kk__, K = kk__ + 6 := ⟨K - 6, by omega⟩
  exact (show 3 = 3 ∧ false = false ∧ jin3 330 2639 7 zm_MTrl1.2.2.1.1 = true ∧ lRm zm_MTrl1.2.1 { frames := 1, cells := 0, slots := 0, locals := 21 } 11 = true ∧ Nat.ble 3 3 = true ∧ Nat.ble 0 8 = true ∧ 90 < n ∧ 12 = 12 ∧ Nat.ble 1000 12 = false ∧ zc_MTrrm [.inr (.inr (some (.inl 90))), .inl (g), .inl (t)] V (fun vv__ WW__ => zwp jtb zsh n zm_MTrl1 post (kk__ + 2) (lGo ak_ZMTrl1 219) 219 [some (.inr (.inr (some (.inl 90)))), some (.inl (g)), some (.inl (u)), some (.inl (op)), some (.inl (t)), some (.inl (y)), some (.inl (x)), some (.inl (b))] (vv__.toList ++ []) WW__) from (Exists.elim (h) (fun s216 gh216 => ⟨rfl, rfl, rfl, rfl, rfl, rfl, (Nat.lt_of_lt_of_le (by decide) hn), rfl, rfl, g, t, s216, rfl, (gh216).1, fun r216 W216 hr216 => (show zwp jtb zsh n zm_MTrl1 post (kk__ + 0) (lGo ak_ZMTrl1 113) 113 [some (.inr (.inr (some (.inl 90)))), some (.inl (g)), some (.inl (u)), some (.inl (op)), some (.inl (t)), some (.inl (r216)), some (.inl (x)), some (.inl (b))] [] W216 from ((gh216).2 r216 W216 hr216))⟩)))
set_option maxRecDepth 1000000 in
set_option maxHeartbeats 4000000 in
theorem zk_MTrl1 {l : Launch} {E : jE} {n : Nat} (hn : 142 ≤ n) : zHas l E jcl jtb lw_tbl zsh n (y_MT_readLine, false, 4, 12, { frames := 14, cells := 0, slots := 0, locals := 369 }, zc_MTrl1) := by
  refine ⟨⟨rfl, rfl, ⟨show 1 ≤ 4 by decide, m_MT_readLine, i_MT_readLine, e_MT_readLine, fun _ => ⟨_, rfl, rfl⟩⟩⟩, ?_⟩
  rintro vz W po hO hW ⟨g, u, op, s, rfl, hq, hp⟩
  refine zmet (m := zm_MTrl1) rfl (by decide) (fun _ _ => jtF_ok) lo_MT ao_ZMTrl1 jC (fun q h => by cases h) (aAllc (fun G h => by obtain rfl := Option.some.inj h; exact ql_MT_275) (aAllc (fun G h => by obtain rfl := Option.some.inj h; exact ql_MT_318) (aAllc (fun G h => by obtain rfl := Option.some.inj h; exact ql_MT_278) (aAllc (fun G h => by obtain rfl := Option.some.inj h; exact ql_MT_96) (aAllc (fun G h => by obtain rfl := Option.some.inj h; exact ql_MT_321) (aAllc (fun G h => by obtain rfl := Option.some.inj h; exact ql_MT_324) (aAllc (fun G h => by obtain rfl := Option.some.inj h; exact ql_MT_327) (aAllc (fun G h => by obtain rfl := Option.some.inj h; exact ql_MT_330) (aAllc (fun G h => by obtain rfl := Option.some.inj h; exact ql_MT_287) (aAllc (fun G h => by obtain rfl := Option.some.inj h; exact ql_MT_333) (fun q h => by cases h))))))))))) (aAllc (zk_MTbl hn) (aAllc (zk_MTrsh hn) (aAllc (zk_MTlook hn) (aAllc (zk_MTplace hn) (aAllc (zk_MTrmn hn) (aAllc (zk_MTrmv hn) (aAllc (zk_MTrmk hn) (aAllc (zk_MTrrm hn) (aAllc (zk_MTflt hn) (aAllc (zk_MTrl2 hn) (fun q h => by cases h))))))))))) (Nat.le_of_ble_eq_true rfl) hO hW (66000000) ?_
  have op6 := hq.1
  have hI0 := hq.2.2.1
  have hg := hq.2.1.1
  have elen : (s.2.2.2.2.2.length : Int) = 1 := hq.2.2.2.2.1
  have hB0 : xBs (W.2.1 91) (W.1 90 1) s.1 s.1 := xBs_i hq.2.2.2.2.2.2.1
  have i0 : gJ3 W W g u u s := ⟨⟨zFr_0, zFo_0⟩, s, gP_0, hq.2.1, hq.2.2.2.2.2.2.1, hq.2.2.2.1, rfl, Or.inl ⟨hq.2.2.2.1, Or.inr hq.2.2.2.2.2.1⟩⟩
  have main : ∀ m : Nat, (∀ (K : Nat) (V : zW) (t : Int) (u5 u6 u7 : Option zv), gJ3 W V g u t s → W.1 90 1 - V.1 90 37 < (m : Nat) → 1000 * m + 500 ≤ K → zwp jtb zsh n zm_MTrl1 po K (lGo ak_ZMTrl1 3) 3 [some (.inr (.inr (some (.inl 90)))), some (.inl g), some (.inl u), some (.inl op), some (.inl (t)), u5, u6, u7] [] V) ∧ (∀ (K : Nat) (V : zW) (t y x b : Int), gJ5 W V g u t b y s → (y = 0 → W.1 90 1 - V.1 90 37 < (m : Nat)) → 1000 * m + 700 ≤ K → zwp jtb zsh n zm_MTrl1 po K (lGo ak_ZMTrl1 113) 113 [some (.inr (.inr (some (.inl 90)))), some (.inl g), some (.inl u), some (.inl op), some (.inl (t)), some (.inl (y)), some (.inl (x)), some (.inl (b))] [] V) := by
    intro m
    induction m with
    | zero =>
      have h3 : (∀ (K : Nat) (V : zW) (t : Int) (u5 u6 u7 : Option zv), gJ3 W V g u t s → W.1 90 1 - V.1 90 37 < (0 : Nat) → 1000 * 0 + 500 ≤ K → zwp jtb zsh n zm_MTrl1 po K (lGo ak_ZMTrl1 3) 3 [some (.inr (.inr (some (.inl 90)))), some (.inl g), some (.inl u), some (.inl op), some (.inl (t)), u5, u6, u7] [] V) := by
        intro K V t u5 u6 u7 hJ hm
        obtain ⟨hB, s1, _, hw, _⟩ := hJ
        have := hw.2.1.1
        have := (gBs_x hB).2
        omega
      refine ⟨h3, ?_⟩
      intro K V t y x b hJ hm hK
      have y0 : 0 < y := by
        rcases hJ.2 with h | ⟨h, s1, _, hw, _⟩
        · exact h.1
        · exfalso
          have := hm h
          have := hw.2.1.1
          have := (gBs_x hJ.1).2
          omega
      have b231 : 0 < y → po (some (.inl y)) V := fun _ => hp _ _ ⟨hJ.1.1, hJ.1.2, Or.inr (hJ.2.resolve_right (fun z => by have := z.1; omega))⟩
      exact zp_MTrl1_113 (by omega) hn ⟨fun c115 => ⟨fun c226 => (by exfalso; omega), fun c226 => b231 (by omega)⟩, fun c115 => (by exfalso; omega)⟩
    | succ m ih =>
      have ih113 := ih.2
      have h3 : (∀ (K : Nat) (V : zW) (t : Int) (u5 u6 u7 : Option zv), gJ3 W V g u t s → W.1 90 1 - V.1 90 37 < ((m + 1) : Nat) → 1000 * (m + 1) + 500 ≤ K → zwp jtb zsh n zm_MTrl1 po K (lGo ak_ZMTrl1 3) 3 [some (.inr (.inr (some (.inl 90)))), some (.inl g), some (.inl u), some (.inl op), some (.inl (t)), u5, u6, u7] [] V) := by
        intro K V t u5 u6 u7 hI hm hK
        obtain ⟨hB, s1, hP, hw, eb, et, ek, hH⟩ := hI
        have hI : gBs W V g ∧ True := ⟨hB, trivial⟩
        have e1 := gBs_x hB
        have hI1 := (gI_p hI0 hP).1
        have elen : (s1.2.2.2.2.2.length : Int) = 1 := by rw [ek]; exact elen
        have ate : ∀ U, (zFr [(90, 37)] [] V U ∧ zTp U ∧ zBn V (V.1 90 37) (U.1 90 37)) → U.1 90 37 = s1.1 := fun U h => xBs_u h.2.2 eb
        have lk4 : ∀ U, (zFr [(90, 37)] [] V U ∧ zTp U ∧ zBn V (V.1 90 37) (U.1 90 37)) → zLk U (U.1 90 37) = xLk (W.2.1 91) (W.1 90 1) s1.1 := fun U h => by rw [gLk (gBs_f hB h.1).1, ate U h]
        have st2 : ¬ t = u → 2 ≤ s1.2.2.2.2.1 := by
          intro h
          rcases hH with z | z
          · exact absurd (et.symm.trans z.1) h
          · have := z.2.1; omega
        have ret : ∀ U, (zFr [(90, 37)] [] V U ∧ zTp U ∧ zBn V (V.1 90 37) (U.1 90 37)) → gEn (W.2.1 91) (W.1 90 1) 1 s1 → po (some (.inl 0)) U := by
          intro U h hE
          have B := gBs_f hB h.1
          exact hp _ _ ⟨B.1, B.2, Or.inl ⟨rfl, s1, hP, gW_fr h.1 (by decide) (by decide) h.2.1 hw, ate U h, ek, hE⟩⟩
        have le1 : V.1 90 37 ≤ s1.1 := eb.1.1
        have h38 : ∀ U, (zFr [(90, 37)] [] V U ∧ zTp U ∧ zBn V (V.1 90 37) (U.1 90 37)) → ¬ gOv (W.2.1 91) (W.1 90 1) s1 → (xLk (W.2.1 91) (W.1 90 1) s1.1 = 41 → ¬ s1.2.2.2.1 = u → s1.2.2.2.2.2 = []) → ∀ K : Nat, 1000 * m + 1300 ≤ K → zwp jtb zsh n zm_MTrl1 po K (lGo ak_ZMTrl1 38) 38 [some (.inr (.inr (some (.inl 90)))), some (.inl g), some (.inl u), some (.inl op), some (.inl (t)), u5, u6, u7] [] U := by
          intro U hU nO n41 K hK
          have aU := ate U hU
          have hB := gBs_f hB hU.1
          have hw := gW_fr hU.1 (by decide) (by decide) hU.2.1 hw
          have e1 := gBs_x hB
          clear hI ih ret lk4 ate
          have pre42 : (0 ≤ g ∧ g ≤ 1) ∧ (∃ N, (0 ≤ t ∧ t ≤ N ∧ N ≤ 300) ∧ xOk (zSt U g) (zro U 94 g) (zro U 95 g) N) ∧ zSb U g := ⟨hg, ⟨s1.2.1.2.1, by rw [← et]; have := hw.2.2.2.2.1; have := hw.2.2.2.1.1; omega, (zRt_O hw.2.2.1 hw.2.2.2.1).1⟩, hw.2.2.1.2.2.2.2⟩
          have at42 : ∀ W42, (zAt W42 (xPo (zSt U g) (zro U 94 g) (zro U 95 g) t) ∧ zFr [(90, 25), (90, 26), (90, 27), (90, 28), (90, 29), (90, 33)] [110, 111, 112, 113, 114] U W42) → zAt W42 (gPo s1) := fun W42 h => zAt_s hw (by rw [et]; exact h.1)
          have nu : ∀ W42 W46 r46, (zAt W42 (xPo (zSt U g) (zro U 94 g) (zro U 95 g) t) ∧ zFr [(90, 25), (90, 26), (90, 27), (90, 28), (90, 29), (90, 33)] [110, 111, 112, 113, 114] U W42) → (zFr [(90, 37)] [] W42 W46 ∧ zTp W46 ∧ zRn W42 W46 (W42.1 90 37) r46 ∧ 0 ≤ r46 ∧ r46 ≤ 1000000) → (r46 = 0 ∧ gNu (W.2.1 91) (W.1 90 1) (gPo s1).2 s1.1 (W46.1 90 37) 0) ∨ (0 < r46 ∧ gNu (W.2.1 91) (W.1 90 1) (gPo s1).2 s1.1 s1.1 1) := by
            intro W42 W46 r46 h42 h46
            have z := gNu_z (gBs_f hB h42.2).1 (by decide) (by decide) (at42 W42 h42) h46.2.2.1
            rw [zFr_f h42.2 90 37, aU] at z
            exact z
          have b58 : ∀ W42 W46 r46, (zAt W42 (xPo (zSt U g) (zro U 94 g) (zro U 95 g) t) ∧ zFr [(90, 25), (90, 26), (90, 27), (90, 28), (90, 29), (90, 33)] [110, 111, 112, 113, 114] U W42) → (zFr [(90, 37)] [] W42 W46 ∧ zTp W46 ∧ zRn W42 W46 (W42.1 90 37) r46 ∧ 0 ≤ r46 ∧ r46 ≤ 1000000) → 0 < r46 → po (some (.inl r46)) W46 := by
            intro W42 W46 r46 h42 h46 r0
            have B := gBs_f (gBs_f hB h42.2) h46.1
            have z := (nu W42 W46 r46 h42 h46).resolve_left (fun z => by omega)
            exact hp _ _ ⟨B.1, B.2, Or.inr ⟨r0, h46.2.2.2.2, gF_1 hP (gS_h hH nO n41 ⟨_, _, z.2, Or.inl ⟨rfl, rfl⟩⟩)⟩⟩
          have h59 : ∀ W42 W46 r46, (zAt W42 (xPo (zSt U g) (zro U 94 g) (zro U 95 g) t) ∧ zFr [(90, 25), (90, 26), (90, 27), (90, 28), (90, 29), (90, 33)] [110, 111, 112, 113, 114] U W42) → (zFr [(90, 37)] [] W42 W46 ∧ zTp W46 ∧ zRn W42 W46 (W42.1 90 37) r46 ∧ 0 ≤ r46 ∧ r46 ≤ 1000000) → r46 ≤ 0 → ∀ (K : Nat) (u6 u7 : Option zv), 1000 * m + 1200 ≤ K → zwp jtb zsh n zm_MTrl1 po K (lGo ak_ZMTrl1 59) 59 [some (.inr (.inr (some (.inl 90)))), some (.inl g), some (.inl u), some (.inl op), some (.inl (t)), some (.inl (r46)), u6, u7] [] W46 := by
            intro W42 W46 r46 h42 h46 r0 K u6 u7 hK
            have z := (nu W42 W46 r46 h42 h46).resolve_right (fun z => by omega)
            have B := gBs_f (gBs_f hB h42.2) h46.1
            have hw : gW W46 g s1 := gW_fr h46.1 (by decide) (by decide) h46.2.1 (gW_fr h42.2 (by decide) (by decide) (zTp_fr h42.2 hw.2.1) hw)
            have hA := zAt_fr h46.1 (by decide) (by decide) (at42 W42 h42)
            have hNu := z.2
            have e1 := gBs_x B
            generalize W46 = V at B hw hA hNu e1 ⊢
            clear z h42 h46 nu b58 pre42 at42
            have hd := gI_d hI1
            have hd6 : trE s1.2.1.2.2.1 (xLd s1.2.1.2.2.2.2.1) t + (if s1.2.1.2.2.2.2.1 t = [] then 0 else 1) ≤ 6 := by rw [et] at hd; have := hd.1; have := hI1.2.2.1; omega
            have b76 : ∀ W3 r, (zFr [(90, 36), (90, 37)] [93, 94, 95, 96, 97, 98, 100, 110, 111, 112, 115] V W3 ∧ zFo g V W3 ∧ ((r < 0 ∧ -1000000 ≤ r ∧ gMv (V.2.1 91) (V.1 90 1) s1 (V.1 90 37) none) ∨ (0 ≤ r ∧ ∃ e m, xLt (xLk (V.2.1 91) (V.1 90 1) (V.1 90 37)) ∧ xWd (V.2.1 91) (V.1 90 1) (V.1 90 37) e ∧ zUn (gPo s1).1 (fun i => V.2.1 91 (V.1 90 37 + i)) (e - V.1 90 37) m ∧ ¬ gMb s1 m ∧ r = s1.2.1.2.1 + 1 ∧ W3.1 90 37 = e ∧ gW W3 g (e, xApp s1.2.1 t m, zuI s1.2.2.1 (s1.2.1.2.1 + 1) 0, s1.2.1.2.1 + 1, 2, s1.2.2.2.2.2)))) → r < 0 → po (some (.inl (-r))) W3 := by
              intro W3 r h r0
              have B3 := gBs_o B h.1 h.2.1
              have z := h.2.2.resolve_right (fun z => by have := z.1; omega)
              rw [e1.1, e1.2] at z
              exact hp _ _ ⟨B3.1, B3.2, Or.inr ⟨by omega, by omega, gF_1 hP (gS_h hH nO n41 (gMv_0 hNu z.2.2))⟩⟩
            have h85 : ∀ W3 r, (zFr [(90, 36), (90, 37)] [93, 94, 95, 96, 97, 98, 100, 110, 111, 112, 115] V W3 ∧ zFo g V W3 ∧ ((r < 0 ∧ -1000000 ≤ r ∧ gMv (V.2.1 91) (V.1 90 1) s1 (V.1 90 37) none) ∨ (0 ≤ r ∧ ∃ e m, xLt (xLk (V.2.1 91) (V.1 90 1) (V.1 90 37)) ∧ xWd (V.2.1 91) (V.1 90 1) (V.1 90 37) e ∧ zUn (gPo s1).1 (fun i => V.2.1 91 (V.1 90 37 + i)) (e - V.1 90 37) m ∧ ¬ gMb s1 m ∧ r = s1.2.1.2.1 + 1 ∧ W3.1 90 37 = e ∧ gW W3 g (e, xApp s1.2.1 t m, zuI s1.2.2.1 (s1.2.1.2.1 + 1) 0, s1.2.1.2.1 + 1, 2, s1.2.2.2.2.2)))) → 0 ≤ r → ∀ (K : Nat) (y : Int), 1000 * m + 1100 ≤ K → zwp jtb zsh n zm_MTrl1 po K (lGo ak_ZMTrl1 85) 85 [some (.inr (.inr (some (.inl 90)))), some (.inl g), some (.inl u), some (.inl op), some (.inl (r)), some (.inl (y)), some (.inl (r)), some (.inl (t))] [] W3 := by
              intro W3 r h r0 K y hK
              have B3 := gBs_o B h.1 h.2.1
              have z := h.2.2.resolve_left (fun z => by have := z.1; omega)
              rw [e1.1, e1.2] at z
              obtain ⟨_, e, mv, h1, h2, h4, h5, h6, h7, h8⟩ := z
              obtain ⟨q, hq'⟩ := xBs_x (X := W.2.1 91) (N := W.1 90 1) (p := e) h2.1.2
              have hG : gS (W.2.1 91) (W.1 90 1) s1 (some (q, xApp s1.2.1 s1.2.2.2.1 mv, zuI s1.2.2.1 (s1.2.1.2.1 + 1) 0, s1.2.1.2.1 + 1, 2, s1.2.2.2.2.2)) := gS_h hH nO n41 (gMv_0 hNu (Or.inr ⟨h1, e, mv, h2, h4, Or.inr ⟨h5, q, hq', rfl⟩⟩))
              have hP3 := gP_1 hP hG
              have hI3 := gI_s hI1 hG
              have e3 := gBs_x B3
              have u1 : u ≤ s1.2.1.2.1 := by
                have a := (gI_p hI0 hP).2.2.1
                have b := hI0.2.1.2
                have c := hq.2.2.2.1
                omega
              rw [et] at hG hP3 hI3
              generalize es3 : ((q, xApp s1.2.1 t mv, zuI s1.2.2.1 (s1.2.1.2.1 + 1) 0, s1.2.1.2.1 + 1, 2, s1.2.2.2.2.2) : gSt) = s3 at hG hP3 hI3
              have et3 : s3.2.2.2.1 = r := by rw [← es3]; exact h6.symm
              have es2 : s3.2.2.2.2.1 = 2 := by rw [← es3]
              have em : s3.2.1.2.2.2.2.2 r = 0 := by
                rw [← es3, h6]
                exact zuI_s
              have eb3 : zBn W3 (W3.1 90 37) s3.1 := by
                show xBs (W3.2.1 91) (W3.1 90 1) (W3.1 90 37) s3.1
                rw [e3.1, e3.2, h7, ← es3]
                exact hq'
              have hw3 : gW W3 g s3 := by rw [← es3]; exact h8
              have k3 : s3.2.2.2.2.2 = s.2.2.2.2.2 := by rw [← es3]; exact ek
              have p3 : s3.2.1.2.2.1 r = t := by
                rw [← es3, h6]
                exact zuI_s
              have n3 : ¬ r = u := by omega
              have N3 : s3.2.1.2.1 = r := by rw [← es3]; exact h6.symm
              have lt3 : s1.1 < s3.1 := hI3.2.2.1
              have hI3 := hI3.1
              clear hG es3
              generalize r = x at et3 em p3 n3 N3 ⊢
              generalize W3 = V at B3 e3 eb3 hw3 ⊢
              have B := B3
              have e1 := e3
              have et := et3
              have eb := eb3
              have hw := hw3
              have j89 : ∀ W3 r, (zFr [(90, 37)] [98, 99] V W3 ∧ zFo g V W3 ∧ ((r = 0 ∧ ∃ s2 : gSt, gP (V.2.1 91) (V.1 90 1) s3 s2 ∧ gW W3 g s2 ∧ W3.1 90 37 = s2.1 ∧ s2.2.2.2.1 = x ∧ s2.2.2.2.2.2 = s3.2.2.2.2.2 ∧ ((s2.2.2.2.2.1 = 2 ∧ ¬ gcM (xLk (V.2.1 91) (V.1 90 1) s2.1)) ∨ (s2.2.2.2.2.1 = 3 ∧ ¬ xLk (V.2.1 91) (V.1 90 1) s2.1 = 36))) ∨ (0 < r ∧ r ≤ 1000000 ∧ gF (V.2.1 91) (V.1 90 1) s3))) → 0 < r → gJ5 W W3 g u x t r s := by
                intro W3 r h r0
                refine ⟨gBs_o B h.1 h.2.1, Or.inl ?_⟩
                rcases h.2.2 with h2 | h2
                · omega
                · rw [e1.1, e1.2] at h2
                  exact ⟨h2.1, h2.2.1, gF_t hP3 h2.2.2⟩
              have h104 : ∀ W3, ∀ {r : Int}, (zFr [(90, 37)] [98, 99] V W3 ∧ zFo g V W3 ∧ ((r = 0 ∧ ∃ s2 : gSt, gP (V.2.1 91) (V.1 90 1) s3 s2 ∧ gW W3 g s2 ∧ W3.1 90 37 = s2.1 ∧ s2.2.2.2.1 = x ∧ s2.2.2.2.2.2 = s3.2.2.2.2.2 ∧ ((s2.2.2.2.2.1 = 2 ∧ ¬ gcM (xLk (V.2.1 91) (V.1 90 1) s2.1)) ∨ (s2.2.2.2.2.1 = 3 ∧ ¬ xLk (V.2.1 91) (V.1 90 1) s2.1 = 36))) ∨ (0 < r ∧ r ≤ 1000000 ∧ gF (V.2.1 91) (V.1 90 1) s3))) → r ≤ 0 → ∀ (K : Nat) (y : Int), 1000 * m + 1000 ≤ K → zwp jtb zsh n zm_MTrl1 po K (lGo ak_ZMTrl1 104) 104 [some (.inr (.inr (some (.inl 90)))), some (.inl g), some (.inl u), some (.inl op), some (.inl (x)), some (.inl (y)), some (.inl (x)), some (.inl (t))] [] W3 := by
                intro W3 r h r0 K y hK
                have B4 := gBs_o B h.1 h.2.1
                have z := h.2.2.resolve_right (fun z => by omega)
                rw [e1.1, e1.2] at z
                obtain ⟨_, s4, hP4, hw4, ea4, et4, ek4, hc4⟩ := z
                have e4 := gBs_x B4
                have hQ4 := gI_p hI3 hP4
                have hb4 := gB_p (gB_p hB0 hP3) hP4
                have hP4 := gP_t hP3 hP4
                generalize W3 = V at B4 hw4 ea4 e4 ⊢
                have n1 : ¬ s4.2.2.2.2.1 = 1 := by omega
                have et := et4
                have hw := hw4
                have eb : zBn V (V.1 90 37) s4.1 := by
                  show xBs (V.2.1 91) (V.1 90 1) (V.1 90 37) s4.1
                  rw [e4.1, e4.2, ea4]
                  exact hb4
                have p4 : s4.2.1.2.2.1 x = t := by
                  have hx1 := hI3.2.1
                  have hx2 := hI3.2.2.2.2.2.resolve_left (fun z => by have := z.1; omega)
                  rw [et3] at hx1 hx2
                  rw [(hQ4.2.2.2.2 x (by have := hx2.2.2.2.2; omega) hx1.2).1]
                  exact p3
                have j108 : ∀ (W3 : zW) (r : Int), (zFr [(90, 37)] [100, 101] V W3 ∧ zFo g V W3 ∧ ((r = 0 ∧ ∃ s2 : gSt, gP (V.2.1 91) (V.1 90 1) s4 s2 ∧ gW W3 g s2 ∧ W3.1 90 37 = s2.1 ∧ s2.2.2.2.1 = x ∧ s2.2.2.2.2.2 = s4.2.2.2.2.2 ∧ s2.2.1 = s4.2.1 ∧ ((s2.2.2.2.2.1 = s4.2.2.2.2.1 ∧ s2.1 = s4.1) ∨ s2.2.2.2.2.1 = (if s4.2.2.2.2.1 = 0 then 0 else 4)) ∧ ¬ gcR (xLk (V.2.1 91) (V.1 90 1) s2.1)) ∨ (0 < r ∧ r ≤ 1000000 ∧ gF (V.2.1 91) (V.1 90 1) s4))) → gJ5 W W3 g u x t r s := by
                  intro W3 r h
                  refine ⟨gBs_o B4 h.1 h.2.1, ?_⟩
                  rcases h.2.2 with ⟨r0, s9, h1, h2, h3, h4, h5, h6, h7, h8⟩ | h2
                  · rw [e4.1, e4.2] at h1 h8
                    refine Or.inr ⟨r0, s9, gP_t hP4 h1, h2, h3, h4, h5.trans (ek4.trans k3), ?_, h8, by rw [h6]; exact p4, n3⟩
                    rcases h7 with z | z
                    · unfold gSc
                      rw [z.1, z.2]
                      rcases hc4 with y | y
                      · exact Or.inl y
                      · exact Or.inr (Or.inl y)
                    · refine Or.inr (Or.inr ?_)
                      rw [z, if_neg (by omega)]
                  · rw [e4.1, e4.2] at h2
                    exact Or.inl ⟨h2.1, h2.2.1, gF_t hP4 h2.2.2⟩
                have m108 : ∀ (W3 : zW) (r : Int), (zFr [(90, 37)] [100, 101] V W3 ∧ zFo g V W3 ∧ ((r = 0 ∧ ∃ s2 : gSt, gP (V.2.1 91) (V.1 90 1) s4 s2 ∧ gW W3 g s2 ∧ W3.1 90 37 = s2.1 ∧ s2.2.2.2.1 = x ∧ s2.2.2.2.2.2 = s4.2.2.2.2.2 ∧ s2.2.1 = s4.2.1 ∧ ((s2.2.2.2.2.1 = s4.2.2.2.2.1 ∧ s2.1 = s4.1) ∨ s2.2.2.2.2.1 = (if s4.2.2.2.2.1 = 0 then 0 else 4)) ∧ ¬ gcR (xLk (V.2.1 91) (V.1 90 1) s2.1)) ∨ (0 < r ∧ r ≤ 1000000 ∧ gF (V.2.1 91) (V.1 90 1) s4))) → r = 0 → W.1 90 1 - W3.1 90 37 < (m : Nat) := by
                  intro W3 r h r0
                  rcases h.2.2 with ⟨_, s9, h1, h2, h3, _⟩ | h2
                  · rw [e4.1, e4.2] at h1
                    have a := (gI_p hQ4.1 h1).2.1
                    have b := hQ4.2.1
                    omega
                  · omega
                exact zp_MTrl1_104 (by omega) hn ⟨s4, ⟨hw, et, n1, eb⟩, fun r108 W108 hr108 => (ih113 _ W108 _ _ _ _ (j108 W108 r108 hr108) (fun z => m108 W108 r108 hr108 z) (by omega))⟩
              exact zp_MTrl1_85 (by omega) hn ⟨s3, ⟨hw, et, es2, em, eb⟩, fun r89 W89 hr89 => ⟨fun c96 => (h104 W89 hr89 (by omega) _ _ (by omega)), fun c96 => (ih113 _ W89 _ _ _ _ (j89 W89 r89 hr89 (by omega)) (fun z => by omega) (by omega))⟩⟩
            exact zp_MTrl1_59 (by omega) hn ⟨s1, ⟨hw, et, hA, hd6⟩, fun r63 W63 hr63 => ⟨fun c70 => (h85 W63 r63 hr63 (by omega) _ _ (by omega)), fun c70 => ⟨(by have := hr63.2.2; omega), (b76 W63 r63 hr63 (by omega))⟩⟩⟩
          exact zp_MTrl1_38 (by omega) hn ⟨pre42, fun W42 hr42 => ⟨(zTp_fr hr42.2 hw.2.1), fun r46 W46 hr46 => ⟨fun c53 => (h59 W42 W46 r46 hr42 hr46 (by omega) _ _ _ (by omega)), fun c53 => (b58 W42 W46 r46 hr42 hr46 (by omega))⟩⟩⟩
        exact zp_MTrl1_3 (by omega) hn ⟨hw.2.1, fun W4 hr4 => ⟨fun c8 => ⟨hr4.2.1, fun r22 hr22 => ⟨fun c27 => (by first | (exfalso; omega) | exact h38 W4 hr4 (fun z => by rw [z.1] at elen; exact absurd elen (by decide)) (fun z1 z2 => by exfalso; have z := lk4 W4 hr4; omega) _ (by omega)), fun c27 => ⟨fun c33 => (by first | (exfalso; omega) | exact h38 W4 hr4 (fun z => by rw [z.1] at elen; exact absurd elen (by decide)) (fun z1 z2 => by exfalso; have z := lk4 W4 hr4; omega) _ (by omega)), fun c33 => (by first | (exfalso; omega) | exact ret W4 hr4 (Or.inr ⟨by decide, by have z := lk4 W4 hr4; omega, by have := st2 (by omega); omega, by have := st2 (by omega); omega⟩))⟩⟩⟩, fun c8 => ⟨hr4.2.1, fun r12 hr12 => ⟨fun c15 => (by first | (exfalso; omega) | exact h38 W4 hr4 (fun z => by rw [z.1] at elen; exact absurd elen (by decide)) (fun z1 z2 => by exfalso; have z := lk4 W4 hr4; omega) _ (by omega)), fun c15 => (by first | (exfalso; omega) | exact ret W4 hr4 (Or.inr ⟨by decide, by have z := lk4 W4 hr4; omega, by have := st2 (by omega); omega, by have := st2 (by omega); omega⟩))⟩⟩⟩⟩
      refine ⟨h3, ?_⟩
      intro K V t y x b hJ hm hK
      have j5 : ∀ V, gJ5 W V g u t b y s → y = 0 → gBs W V g ∧ ∃ s1 : gSt, gP (W.2.1 91) (W.1 90 1) s s1 ∧ gW V g s1 ∧ V.1 90 37 = s1.1 ∧ s1.2.2.2.1 = t ∧ s1.2.2.2.2.2 = s.2.2.2.2.2 ∧ gSc (W.2.1 91) (W.1 90 1) s1 ∧ ¬ gcR (xLk (W.2.1 91) (W.1 90 1) s1.1) ∧ s1.2.1.2.2.1 t = b ∧ ¬ t = u := fun V h y0 => ⟨h.1, (h.2.resolve_left (fun z => by have := z.1; omega)).2⟩
      have y0 : 0 ≤ y := by rcases hJ.2 with h | h <;> omega
      have tq : ∀ V, gJ5 W V g u t b y s → y = 0 → zTp V := fun V h y0 => by obtain ⟨_, s1, _, hw, _⟩ := j5 V h y0; exact hw.2.1
      have tpV : ∀ V, gJ5 W V g u t b y s → y = 0 → 0 ≤ V.1 90 37 ∧ V.1 90 37 ≤ 65536 := fun V h y0 => by have z := tq V h y0; have := z.1; have := z.2.1; omega
      have b231 : 0 < y → po (some (.inl y)) V := fun _ => hp _ _ ⟨hJ.1.1, hJ.1.2, Or.inr (hJ.2.resolve_right (fun z => by have := z.1; omega))⟩
      have j3 : ∀ V, gJ5 W V g u t b y s → y = 0 → ¬ zLk V (V.1 90 37) = 40 → gJ3 W V g u t s := by
        intro V h y0 h40
        obtain ⟨hB, s1, hP, hw, ea, et, ek, hs, hr, eb, ntu⟩ := j5 V h y0
        rw [gLk hB.1, ea] at h40
        refine ⟨hB, s1, hP, hw, ?_, et, ek, Or.inr ⟨by rw [et]; exact ntu, hs, hr, h40⟩⟩
        show xBs (V.2.1 91) (V.1 90 1) (V.1 90 37) s1.1
        rw [(gBs_x hB).1, (gBs_x hB).2, ea]
        exact gB_p hB0 hP
      have j139 : ∀ U, zFr [(90, 37)] [] V U → y = 0 → zLk V (V.1 90 37) = 40 → ∀ r : Int, op = 6 ∧ 0 < r ∧ r ≤ 1000000 → gJ5 W U g u t b r s := by
        intro U hU y0 c40 r hr
        obtain ⟨hB, s1, hP, hw, ea, et, ek, hs, _, eb, ntu⟩ := j5 V hJ y0
        have e40 : xLk (W.2.1 91) (W.1 90 1) s1.1 = 40 := by rw [← ea, ← gLk hB.1]; exact c40
        have hx := xLk_i (X := W.2.1 91) (N := W.1 90 1) (p := s1.1) (by omega)
        have hst : ¬ s1.2.2.2.2.1 = 0 ∧ ¬ s1.2.2.2.2.1 = 1 := by unfold gSc at hs; omega
        exact ⟨gBs_f hB hU, Or.inl ⟨hr.2.1, hr.2.2, gF_1 hP (Or.inr (Or.inr (Or.inl ⟨Or.inl e40, Or.inr ⟨hst, Or.inl ⟨by omega, Or.inl ⟨by rw [ek]; omega, rfl⟩⟩⟩⟩)))⟩⟩
      have h168 : ∀ V', V' = zuF V 90 37 (V.1 90 37 + 1) → y = 0 → zLk V (V.1 90 37) = 40 → ∀ (K : Nat), 1000 * m + 1200 ≤ K → zwp jtb zsh n zm_MTrl1 po K (lGo ak_ZMTrl1 168) 168 [some (.inr (.inr (some (.inl 90)))), some (.inl g), some (.inl u), some (.inl op), some (.inl (t)), some (.inl (0)), some (.inl (x)), some (.inl (b))] [] V' := by
        intro V' eV y0 c40 K hK
        obtain ⟨hB, s1, hP, hw, ea, et, ek, hs, hr, eb, ntu⟩ := j5 V hJ y0
        have e40 : xLk (W.2.1 91) (W.1 90 1) s1.1 = 40 := by rw [← ea, ← gLk hB.1]; exact c40
        have hx := xLk_i (X := W.2.1 91) (N := W.1 90 1) (p := s1.1) (by omega)
        have e1 := gBs_x hB
        obtain ⟨q, hq'⟩ := xBs_x (X := W.2.1 91) (N := W.1 90 1) (p := s1.1 + 1) (by omega)
        have hst : ¬ s1.2.2.2.2.1 = 0 ∧ ¬ s1.2.2.2.2.1 = 1 := by unfold gSc at hs; omega
        have hl : (s1.2.2.2.2.2.length : Int) = 1 := by rw [ek]; exact elen
        have hG : gS (W.2.1 91) (W.1 90 1) s1 (some (q, s1.2.1, s1.2.2.1, s1.2.1.2.2.1 s1.2.2.2.1, 1, s1.2.2.2.1 :: s1.2.2.2.2.2)) := Or.inr (Or.inr (Or.inl ⟨Or.inl e40, Or.inr ⟨hst, Or.inl ⟨by omega, Or.inr ⟨by omega, q, hq', rfl⟩⟩⟩⟩))
        have hP6 := gP_1 hP hG
        have hI1 := (gI_p hI0 hP).1
        have hI6 := gI_s hI1 hG
        have fV : zFr [(90, 37)] [] V V' := by rw [eV]; exact zFr_F zFr_0 (by decide)
        have tV : zTp V' := by rw [eV]; exact zTp_n hw.2.1 (by omega)
        have aV : V'.1 90 37 = s1.1 + 1 := by rw [eV, zuF_1, if_pos ⟨rfl, rfl⟩, ea]
        have eb' : s1.2.1.2.2.1 s1.2.2.2.1 = b := by rw [et]; exact eb
        generalize es6 : ((q, s1.2.1, s1.2.2.1, s1.2.1.2.2.1 s1.2.2.2.1, 1, s1.2.2.2.1 :: s1.2.2.2.2.2) : gSt) = s6 at hG hP6 hI6
        have s6a : s6.1 = q := by rw [← es6]
        have s6t : s6.2.2.2.1 = b := by rw [← es6]; exact eb'
        have s6k : s6.2.2.2.2.2 = t :: s.2.2.2.2.2 := by rw [← es6, ← ek, ← et]
        have s6w : gW V' g s6 := by
          have z := gW_fr fV (by decide) (by decide) tV hw
          have y := hI6.1.2.1
          rw [← es6] at y ⊢
          exact ⟨z.1, z.2.1, z.2.2.1, z.2.2.2.1, y, z.2.2.2.2.2⟩
        have s6b : zBn V' (V'.1 90 37) s6.1 := by
          show xBs (V'.2.1 91) (V'.1 90 1) (V'.1 90 37) s6.1
          rw [zFr_r fV 91, zFr_f fV 90 1, e1.1, e1.2, aV, s6a]
          exact hq'
        have s6g : s6.2.2.2.2.1 = 1 := by rw [← es6]
        have s6p : s6.2.1 = s1.2.1 := by rw [← es6]
        have pre175 : gLp V' g b 2 s6 := ⟨s6w, hI6.1, s6t, by rw [s6k]; show ((s.2.2.2.2.2.length + 1 : Nat) : Int) = _; omega, by rw [s6g]; rfl, s6b, fun z => by omega⟩
        have e6 : V'.2.1 91 = W.2.1 91 ∧ V'.1 90 1 = W.1 90 1 := ⟨by rw [zFr_r fV 91]; exact e1.1, by rw [zFr_f fV 90 1]; exact e1.2⟩
        have B6 : gBs W V' g := gBs_f hB fV
        have t1 : 1 ≤ t ∧ t ≤ s1.2.1.2.1 := by
          have y := hI6.1.2.2.2.2.1
          rw [s6k, s6p] at y
          exact y.1.1
        have bn175 : ∀ (U : zW) (r : Int), gLq V' U g 2 r s6 → (0 ≤ U.1 90 37 ∧ U.1 90 37 ≤ 65536) ∨ 0 < r := by
          intro U r hr
          rcases hr.2.2 with ⟨_, s2, _, h2, _⟩ | h2
          · left; have := h2.2.1.1; have := h2.2.1.2.1; omega
          · right; exact h2.1
        have j175 : ∀ (U : zW) (r : Int), gLq V' U g 2 r s6 → 0 < r → ∀ U', zFr [(90, 37)] [] U U' → gJ5 W U' g u t b r s := by
          intro U r hr r0 U' hU'
          refine ⟨gBs_f (gBs_o B6 hr.1 hr.2.1) hU', Or.inl ?_⟩
          rcases hr.2.2 with h2 | h2
          · omega
          · rw [e6.1, e6.2] at h2
            exact ⟨h2.1, h2.2.1, gF_t hP6 h2.2.2⟩
        have h212 : ∀ (U : zW) (r : Int), gLq V' U g 2 r s6 → r ≤ 0 → ∀ (y : Int) (U' : zW), U' = zuF U 90 37 (U.1 90 37 + 1) → ∀ (K : Nat), 1000 * m + 1000 ≤ K → zwp jtb zsh n zm_MTrl1 po K (lGo ak_ZMTrl1 212) 212 [some (.inr (.inr (some (.inl 90)))), some (.inl g), some (.inl u), some (.inl op), some (.inl (t)), some (.inl (y)), some (.inl (x)), some (.inl (b))] [] U' := by
          intro U r hr r0 y U' eU K hK
          obtain ⟨_, s7, hP7, hw7, ea7, ek7, hE7⟩ := hr.2.2.resolve_right (fun z => by omega)
          rw [e6.1, e6.2] at hP7 hE7
          have hE7 := hE7.resolve_left (fun z => by have := z.1; omega)
          have hP7' := gP_t hP6 hP7
          have hx7 := xLk_i (X := W.2.1 91) (N := W.1 90 1) (p := s7.1) (by omega)
          obtain ⟨q7, hq7⟩ := xBs_x (X := W.2.1 91) (N := W.1 90 1) (p := s7.1 + 1) (by omega)
          have hG7 : gS (W.2.1 91) (W.1 90 1) s7 (some (q7, s7.2.1, s7.2.2.1, t, 4, s.2.2.2.2.2)) := Or.inr (Or.inr (Or.inl ⟨Or.inr hE7.2.1, Or.inr ⟨hE7.2.2, Or.inr ⟨by omega, Or.inr ⟨t, s.2.2.2.2.2, by rw [ek7, s6k], q7, hq7, rfl⟩⟩⟩⟩))
          have hI7 := (gI_p hI6.1 hP7)
          have hI8 := gI_s hI7.1 hG7
          have hP8 := gP_1 hP7' hG7
          have B7 := gBs_o B6 hr.1 hr.2.1
          have e7 := gBs_x B7
          have fU : zFr [(90, 37)] [] U U' := by rw [eU]; exact zFr_F zFr_0 (by decide)
          have tU : zTp U' := by rw [eU]; exact zTp_n hw7.2.1 (by omega)
          have aU : U'.1 90 37 = s7.1 + 1 := by rw [eU, zuF_1, if_pos ⟨rfl, rfl⟩, ea7]
          generalize es8 : ((q7, s7.2.1, s7.2.2.1, t, 4, s.2.2.2.2.2) : gSt) = s8 at hG7 hI8 hP8
          have et : s8.2.2.2.1 = t := by rw [← es8]
          have hw : gW U' g s8 := by
            have z := gW_fr fU (by decide) (by decide) tU hw7
            have y := hI8.1.2.1
            rw [← es8] at y ⊢
            exact ⟨z.1, z.2.1, z.2.2.1, z.2.2.2.1, y, z.2.2.2.2.2⟩
          have B8 := gBs_f B7 fU
          have e8 := gBs_x B8
          have eb8 : zBn U' (U'.1 90 37) s8.1 := by
            show xBs (U'.2.1 91) (U'.1 90 1) (U'.1 90 37) s8.1
            rw [e8.1, e8.2, aU, ← es8]
            exact hq7
          have g8 : s8.2.2.2.2.1 = 4 := by rw [← es8]
          have k8 : s8.2.2.2.2.2 = s.2.2.2.2.2 := by rw [← es8]
          have p8 : s8.2.1 = s7.2.1 := by rw [← es8]
          have pb : s8.2.1.2.2.1 t = b := by
            rw [p8, (hI7.2.2.2.2 t t1.1 (by rw [s6p]; exact t1.2)).1, s6p]
            exact eb
          have lt8 : s1.1 < s8.1 := by
            have a := hI6.2.2.1
            have b := hI7.2.1
            have c := hI8.2.2.1
            omega
          have j216 : ∀ (W3 : zW) (r : Int), (zFr [(90, 37)] [100, 101] U' W3 ∧ zFo g U' W3 ∧ ((r = 0 ∧ ∃ s2 : gSt, gP (U'.2.1 91) (U'.1 90 1) s8 s2 ∧ gW W3 g s2 ∧ W3.1 90 37 = s2.1 ∧ s2.2.2.2.1 = t ∧ s2.2.2.2.2.2 = s8.2.2.2.2.2 ∧ s2.2.1 = s8.2.1 ∧ ((s2.2.2.2.2.1 = s8.2.2.2.2.1 ∧ s2.1 = s8.1) ∨ s2.2.2.2.2.1 = (if s8.2.2.2.2.1 = 0 then 0 else 4)) ∧ ¬ gcR (xLk (U'.2.1 91) (U'.1 90 1) s2.1)) ∨ (0 < r ∧ r ≤ 1000000 ∧ gF (U'.2.1 91) (U'.1 90 1) s8))) → gJ5 W W3 g u t b r s := by
            intro W3 r h
            refine ⟨gBs_o B8 h.1 h.2.1, ?_⟩
            rcases h.2.2 with ⟨r0, s9, h1, h2, h3, h4, h5, h6, h7, h8⟩ | h2
            · rw [e8.1, e8.2] at h1 h8
              refine Or.inr ⟨r0, s9, gP_t hP8 h1, h2, h3, h4, h5.trans k8, Or.inr (Or.inr ?_), h8, by rw [h6]; exact pb, ntu⟩
              rcases h7 with z | z
              · exact z.1.trans g8
              · rw [z, g8]; rfl
            · rw [e8.1, e8.2] at h2
              exact Or.inl ⟨h2.1, h2.2.1, gF_t hP8 h2.2.2⟩
          have m216 : ∀ (W3 : zW) (r : Int), (zFr [(90, 37)] [100, 101] U' W3 ∧ zFo g U' W3 ∧ ((r = 0 ∧ ∃ s2 : gSt, gP (U'.2.1 91) (U'.1 90 1) s8 s2 ∧ gW W3 g s2 ∧ W3.1 90 37 = s2.1 ∧ s2.2.2.2.1 = t ∧ s2.2.2.2.2.2 = s8.2.2.2.2.2 ∧ s2.2.1 = s8.2.1 ∧ ((s2.2.2.2.2.1 = s8.2.2.2.2.1 ∧ s2.1 = s8.1) ∨ s2.2.2.2.2.1 = (if s8.2.2.2.2.1 = 0 then 0 else 4)) ∧ ¬ gcR (xLk (U'.2.1 91) (U'.1 90 1) s2.1)) ∨ (0 < r ∧ r ≤ 1000000 ∧ gF (U'.2.1 91) (U'.1 90 1) s8))) → r = 0 → W.1 90 1 - W3.1 90 37 < (m : Nat) := by
            intro W3 r h r0
            rcases h.2.2 with ⟨_, s9, h1, h2, h3, _⟩ | h2
            · rw [e8.1, e8.2] at h1
              have a := (gI_p hI8.1 h1).2.1
              have := hm y0
              omega
            · omega
          have eb := eb8
          have es2 := g8
          exact zp_MTrl1_212 (by omega) hn ⟨s8, ⟨hw, et, (by omega), eb⟩, fun r216 W216 hr216 => (ih113 _ W216 _ _ _ _ (j216 W216 r216 hr216) (fun z => m216 W216 r216 hr216 z) (by omega))⟩
        exact zp_MTrl1_168 (by omega) hn ⟨(by omega), ⟨s6, ⟨by omega, pre175⟩, fun r175 W175 hr175 => ⟨fun c183 => ⟨(by have := bn175 W175 r175 hr175; omega), ⟨fun c204 => (by first | (exfalso; omega) | exact h212 W175 r175 hr175 (by omega) _ _ rfl _ (by omega)), fun c204 => (by first | (exfalso; omega) | exact ih113 _ _ _ _ _ _ (j175 W175 r175 hr175 (by omega) _ (zFr_F (zFr_0 (Fs := [(90, 37)]) (Rs := [])) (by decide))) (fun z => by omega) (by omega))⟩⟩, fun c183 => ⟨fun c204 => (by first | (exfalso; omega) | exact h212 W175 r175 hr175 (by omega) _ _ rfl _ (by omega)), fun c204 => (by first | (exfalso; omega) | exact ih113 _ _ _ _ _ _ (j175 W175 r175 hr175 (by omega) _ (zFr_F (zFr_0 (Fs := [(90, 37)]) (Rs := [])) (by decide))) (fun z => by omega) (by omega))⟩⟩⟩⟩
      exact zp_MTrl1_113 (by omega) hn ⟨fun c115 => ⟨fun c226 => (by first | (exfalso; omega) | (exfalso; have := tpV V hJ (by omega); omega) | exact h3 _ V _ _ _ _ (j3 V hJ (by omega) (by omega)) (hm (by omega)) (by omega)), fun c226 => (b231 (by omega))⟩, fun c115 => ⟨(tq V hJ (by omega)), fun r119 hr119 => ⟨fun c124 => ⟨fun c226 => (by first | (exfalso; omega) | (exfalso; have := tpV V hJ (by omega); omega) | exact h3 _ V _ _ _ _ (j3 V hJ (by omega) (by omega)) (hm (by omega)) (by omega)), fun c226 => (b231 (by omega))⟩, fun c124 => ⟨fun c130 => ⟨(by have := tpV V hJ (by omega); omega), (by first | (exfalso; omega) | (exfalso; have := tpV V hJ (by omega); omega) | exact h168 _ rfl (by omega) (by omega) _ (by omega))⟩, fun c130 => ⟨(by have := tpV V hJ (by omega); omega), fun r139 hr139 => ⟨(by have := tpV V hJ (by omega); omega), ⟨fun c160 => (by first | (exfalso; omega) | (exfalso; have := tpV V hJ (by omega); omega) | exact h168 _ rfl (by omega) (by omega) _ (by omega)), fun c160 => ⟨fun c183 => ⟨(by have := tpV V hJ (by omega); omega), ⟨fun c204 => (by first | (exfalso; omega) | (exfalso; have := tpV V hJ (by omega); omega) | exact ih113 _ _ _ _ _ _ (j139 _ (zFr_F (zFr_F (zFr_0 (Fs := [(90, 37)]) (Rs := [])) (by decide)) (by decide)) (by omega) (by omega) r139 (by have := tpV V hJ (by omega); omega)) (fun z => by omega) (by omega)), fun c204 => (by first | (exfalso; omega) | (exfalso; have := tpV V hJ (by omega); omega) | exact ih113 _ _ _ _ _ _ (j139 _ (zFr_F (zFr_F (zFr_0 (Fs := [(90, 37)]) (Rs := [])) (by decide)) (by decide)) (by omega) (by omega) r139 (by have := tpV V hJ (by omega); omega)) (fun z => by omega) (by omega))⟩⟩, fun c183 => ⟨fun c204 => (by first | (exfalso; omega) | (exfalso; have := tpV V hJ (by omega); omega) | exact ih113 _ _ _ _ _ _ (j139 _ (zFr_F (zFr_F (zFr_0 (Fs := [(90, 37)]) (Rs := [])) (by decide)) (by decide)) (by omega) (by omega) r139 (by have := tpV V hJ (by omega); omega)) (fun z => by omega) (by omega)), fun c204 => (by first | (exfalso; omega) | (exfalso; have := tpV V hJ (by omega); omega) | exact ih113 _ _ _ _ _ _ (j139 _ (zFr_F (zFr_F (zFr_0 (Fs := [(90, 37)]) (Rs := [])) (by decide)) (by decide)) (by omega) (by omega) r139 (by have := tpV V hJ (by omega); omega)) (fun z => by omega) (by omega))⟩⟩⟩⟩⟩⟩⟩⟩⟩
  exact zp_MTrl1_0 (by omega) hn ((main 65537).1 _ W _ _ _ _ i0 (by have := hq.2.1.2.1.1; have := hq.2.1.2.1.2.1; omega) (by omega))
noncomputable def ak_ZMTrl0 : List jI := ak_ZMTrl6
theorem ao_ZMTrl0 : jokLG jtF lk_MT "ChessHouseModel$Texts" jcl jtb 8 prog_18_method_68_code 0 ak_ZMTrl0 = true := ao_ZMTrl6
noncomputable def zm_MTrl0 : zM := (some .int, { frames := 15, cells := 0, slots := 0, locals := 396 }, ([(275, 2570, 0), (318, 2647, 1), (278, 2574, 2), (96, 1933, 3), (321, 2655, 4), (324, 2659, 5), (327, 2710, 6), (330, 2639, 7), (287, 2588, 8), (333, 2643, 9)], []), [(y_MT_blanks, false, 1, 12, { frames := 0, cells := 0, slots := 0, locals := 0 }, zc_MTbl), (y_MT_resultHere, false, 1, 12, { frames := 1, cells := 0, slots := 0, locals := 23 }, zc_MTrsh), (y_MT_look, false, 1, 12, { frames := 0, cells := 0, slots := 0, locals := 0 }, zc_MTlook), (y_MT_place, false, 3, 12, { frames := 6, cells := 0, slots := 0, locals := 157 }, zc_MTplace), (y_MT_readMoveNumber, false, 1, 12, { frames := 1, cells := 0, slots := 0, locals := 21 }, zc_MTrmn), (y_MT_readMove, false, 3, 12, { frames := 8, cells := 0, slots := 0, locals := 210 }, zc_MTrmv), (y_MT_readMarks, false, 3, 12, { frames := 1, cells := 0, slots := 0, locals := 24 }, zc_MTrmk), (y_MT_readRemarks, false, 3, 12, { frames := 1, cells := 0, slots := 0, locals := 21 }, zc_MTrrm), (y_MT_fault, true, 2, 0, { frames := 0, cells := 0, slots := 0, locals := 0 }, zc_MTflt), (y_MT_readLine, false, 4, 12, { frames := 14, cells := 0, slots := 0, locals := 369 }, zc_MTrl1)], ak_ZMTrl0)
noncomputable def zc_MTrl0 (vals : List zv) (W : zW) (post : zPo) : Prop := ∃ g u op : Int, ∃ s : gSt, vals = [.inr (.inr (some (.inl 90))), .inl (g), .inl (u), .inl (op)] ∧ (op = 0 ∧ gLp W g u 0 s) ∧ ∀ r : Int, ∀ V : zW, (gLq W V g 0 r s) → post (some (.inl r)) V
set_option maxRecDepth 8000 in
theorem zp_MTrl0_0 {n K : Nat} {W : zW} {post : zPo} {g u op : Int} {u4 u5 u6 u7 : Option zv} (hK : 2 ≤ K) (hn : 142 ≤ n) (h : zwp jtb zsh n zm_MTrl0 post (K - 2) (lGo ak_ZMTrl0 3) 3 [some (.inr (.inr (some (.inl 90)))), some (.inl (g)), some (.inl (u)), some (.inl (op)), some (.inl (u)), u5, u6, u7] [] W) : zwp jtb zsh n zm_MTrl0 post K (lGo ak_ZMTrl0 0) 0 [some (.inr (.inr (some (.inl 90)))), some (.inl (g)), some (.inl (u)), some (.inl (op)), u4, u5, u6, u7] [] W := by
  obtain ⟨kk__, rfl⟩ : ∃ kk__, K = kk__ + 2 := ⟨K - 2, by omega⟩
  exact (show zwp jtb zsh n zm_MTrl0 post (kk__ + 0) (lGo ak_ZMTrl0 3) 3 [some (.inr (.inr (some (.inl 90)))), some (.inl (g)), some (.inl (u)), some (.inl (op)), some (.inl (u)), u5, u6, u7] [] W from h)
set_option maxRecDepth 8000 in
theorem zp_MTrl0_3 {n K : Nat} {V : zW} {post : zPo} {g u op t : Int} {u5 u6 u7 : Option zv} (hK : 13 ≤ K) (hn : 142 ≤ n) (h : (zTp V) ∧ ∀ W4 : zW, (zFr [(90, 37)] [] V W4 ∧ zTp W4 ∧ zBn V (V.1 90 37) (W4.1 90 37)) → (¬ op = 0 → (zTp W4) ∧ ∀ r22 : Int, (r22 = zLk W4 (W4.1 90 37)) → (¬ r22 = 41 → zwp jtb zsh n zm_MTrl0 post (K - 8) (lGo ak_ZMTrl0 38) 38 [some (.inr (.inr (some (.inl 90)))), some (.inl (g)), some (.inl (u)), some (.inl (op)), some (.inl (t)), u5, u6, u7] [] W4) ∧ (r22 = 41 → (t = u → zwp jtb zsh n zm_MTrl0 post (K - 11) (lGo ak_ZMTrl0 38) 38 [some (.inr (.inr (some (.inl 90)))), some (.inl (g)), some (.inl (u)), some (.inl (op)), some (.inl (t)), u5, u6, u7] [] W4) ∧ (¬ t = u → post (some (.inl (0))) W4))) ∧ (op = 0 → (zTp W4) ∧ ∀ r12 : Int, (zRh W4 (W4.1 90 37) r12) → (r12 < 0 → zwp jtb zsh n zm_MTrl0 post (K - 7) (lGo ak_ZMTrl0 38) 38 [some (.inr (.inr (some (.inl 90)))), some (.inl (g)), some (.inl (u)), some (.inl (op)), some (.inl (t)), u5, u6, u7] [] W4) ∧ (¬ r12 < 0 → post (some (.inl (0))) W4))) : zwp jtb zsh n zm_MTrl0 post K (lGo ak_ZMTrl0 3) 3 [some (.inr (.inr (some (.inl 90)))), some (.inl (g)), some (.inl (u)), some (.inl (op)), some (.inl (t)), u5, u6, u7] [] V := by
  obtain ⟨kk__, rfl⟩ : ∃ kk__, K = kk__ + 13 := ⟨K - 13, by omega⟩
  exact (show 3 = 3 ∧ false = false ∧ jin3 275 2570 0 zm_MTrl0.2.2.1.1 = true ∧ lRm zm_MTrl0.2.1 { frames := 0, cells := 0, slots := 0, locals := 0 } 1 = true ∧ Nat.ble 1 1 = true ∧ Nat.ble 0 8 = true ∧ 90 < n ∧ 12 = 12 ∧ Nat.ble 1000 12 = false ∧ zc_MTbl [.inr (.inr (some (.inl 90)))] V (fun vv__ WW__ => zwp jtb zsh n zm_MTrl0 post (kk__ + 11) (lGo ak_ZMTrl0 7) 7 [some (.inr (.inr (some (.inl 90)))), some (.inl (g)), some (.inl (u)), some (.inl (op)), some (.inl (t)), u5, u6, u7] (vv__.toList ++ []) WW__) from ⟨rfl, rfl, rfl, rfl, rfl, rfl, (Nat.lt_of_lt_of_le (by decide) hn), rfl, rfl, rfl, (h).1, fun W4 hr4 => (show (¬ op = 0 → 3 = 3 ∧ false = false ∧ jin3 278 2574 2 zm_MTrl0.2.2.1.1 = true ∧ lRm zm_MTrl0.2.1 { frames := 0, cells := 0, slots := 0, locals := 0 } 1 = true ∧ Nat.ble 1 1 = true ∧ Nat.ble 0 8 = true ∧ 90 < n ∧ 12 = 12 ∧ Nat.ble 1000 12 = false ∧ zc_MTlook [.inr (.inr (some (.inl 90)))] W4 (fun vv__ WW__ => zwp jtb zsh n zm_MTrl0 post (kk__ + 7) (lGo ak_ZMTrl0 25) 25 [some (.inr (.inr (some (.inl 90)))), some (.inl (g)), some (.inl (u)), some (.inl (op)), some (.inl (t)), u5, u6, u7] (vv__.toList ++ []) WW__)) ∧ (op = 0 → 3 = 3 ∧ false = false ∧ jin3 318 2647 1 zm_MTrl0.2.2.1.1 = true ∧ lRm zm_MTrl0.2.1 { frames := 1, cells := 0, slots := 0, locals := 23 } 2 = true ∧ Nat.ble 1 1 = true ∧ Nat.ble 0 8 = true ∧ 90 < n ∧ 12 = 12 ∧ Nat.ble 1000 12 = false ∧ zc_MTrsh [.inr (.inr (some (.inl 90)))] W4 (fun vv__ WW__ => zwp jtb zsh n zm_MTrl0 post (kk__ + 7) (lGo ak_ZMTrl0 15) 15 [some (.inr (.inr (some (.inl 90)))), some (.inl (g)), some (.inl (u)), some (.inl (op)), some (.inl (t)), u5, u6, u7] (vv__.toList ++ []) WW__)) from ⟨fun c8_3 => (have h := ((((h).2 W4 hr4)).1 c8_3); ⟨rfl, rfl, rfl, rfl, rfl, rfl, (Nat.lt_of_lt_of_le (by decide) hn), rfl, rfl, rfl, (h).1, fun r22 hr22 => (show (¬ r22 = 41 → zwp jtb zsh n zm_MTrl0 post (kk__ + 5) (lGo ak_ZMTrl0 38) 38 [some (.inr (.inr (some (.inl 90)))), some (.inl (g)), some (.inl (u)), some (.inl (op)), some (.inl (t)), u5, u6, u7] [] W4) ∧ (r22 = 41 → (t = u → zwp jtb zsh n zm_MTrl0 post (kk__ + 2) (lGo ak_ZMTrl0 38) 38 [some (.inr (.inr (some (.inl 90)))), some (.inl (g)), some (.inl (u)), some (.inl (op)), some (.inl (t)), u5, u6, u7] [] W4) ∧ (¬ t = u → 1 = 1 ∧ True ∧ post (some (.inl (0))) W4)) from ⟨fun c27_7 => ((((h).2 r22 hr22)).1 c27_7), fun c27_7 => (have h := ((((h).2 r22 hr22)).2 c27_7); ⟨fun c33_10 => ((h).1 c33_10), fun c33_10 => ⟨rfl, trivial, ((h).2 c33_10)⟩⟩)⟩)⟩), fun c8_3 => (have h := ((((h).2 W4 hr4)).2 c8_3); ⟨rfl, rfl, rfl, rfl, rfl, rfl, (Nat.lt_of_lt_of_le (by decide) hn), rfl, rfl, rfl, (h).1, fun r12 hr12 => (show (r12 < 0 → zwp jtb zsh n zm_MTrl0 post (kk__ + 6) (lGo ak_ZMTrl0 38) 38 [some (.inr (.inr (some (.inl 90)))), some (.inl (g)), some (.inl (u)), some (.inl (op)), some (.inl (t)), u5, u6, u7] [] W4) ∧ (¬ r12 < 0 → 1 = 1 ∧ True ∧ post (some (.inl (0))) W4) from ⟨fun c15_6 => ((((h).2 r12 hr12)).1 c15_6), fun c15_6 => (have h := ((((h).2 r12 hr12)).2 c15_6); ⟨rfl, trivial, h⟩)⟩)⟩)⟩)⟩)
set_option maxRecDepth 8000 in
theorem zp_MTrl0_38 {n K : Nat} {V : zW} {post : zPo} {g u op t : Int} {u5 u6 u7 : Option zv} (hK : 11 ≤ K) (hn : 142 ≤ n) (h : ((0 ≤ g ∧ g ≤ 1) ∧ (∃ N, (0 ≤ t ∧ t ≤ N ∧ N ≤ 300) ∧ xOk (zSt V g) (zro V 94 g) (zro V 95 g) N) ∧ zSb V g) ∧ ∀ W42 : zW, (zAt W42 (xPo (zSt V g) (zro V 94 g) (zro V 95 g) t) ∧ zFr [(90, 25), (90, 26), (90, 27), (90, 28), (90, 29), (90, 33)] [110, 111, 112, 113, 114] V W42) → (zTp W42) ∧ ∀ r46 : Int, ∀ W46 : zW, (zFr [(90, 37)] [] W42 W46 ∧ zTp W46 ∧ zRn W42 W46 (W42.1 90 37) r46 ∧ 0 ≤ r46 ∧ r46 ≤ 1000000) → (r46 ≤ 0 → zwp jtb zsh n zm_MTrl0 post (K - 9) (lGo ak_ZMTrl0 59) 59 [some (.inr (.inr (some (.inl 90)))), some (.inl (g)), some (.inl (u)), some (.inl (op)), some (.inl (t)), some (.inl (r46)), u6, u7] [] W46) ∧ (¬ r46 ≤ 0 → post (some (.inl (r46))) W46)) : zwp jtb zsh n zm_MTrl0 post K (lGo ak_ZMTrl0 38) 38 [some (.inr (.inr (some (.inl 90)))), some (.inl (g)), some (.inl (u)), some (.inl (op)), some (.inl (t)), u5, u6, u7] [] V := by
  obtain ⟨kk__, rfl⟩ : ∃ kk__, K = kk__ + 11 := ⟨K - 11, by omega⟩
  exact (show 3 = 3 ∧ false = false ∧ jin3 96 1933 3 zm_MTrl0.2.2.1.1 = true ∧ lRm zm_MTrl0.2.1 { frames := 6, cells := 0, slots := 0, locals := 157 } 5 = true ∧ Nat.ble 3 3 = true ∧ Nat.ble 0 8 = true ∧ 90 < n ∧ 12 = 12 ∧ Nat.ble 1000 12 = false ∧ zc_MTplace [.inr (.inr (some (.inl 90))), .inl (g), .inl (t)] V (fun vv__ WW__ => zwp jtb zsh n zm_MTrl0 post (kk__ + 7) (lGo ak_ZMTrl0 45) 45 [some (.inr (.inr (some (.inl 90)))), some (.inl (g)), some (.inl (u)), some (.inl (op)), some (.inl (t)), u5, u6, u7] (vv__.toList ++ []) WW__) from ⟨rfl, rfl, rfl, rfl, rfl, rfl, (Nat.lt_of_lt_of_le (by decide) hn), rfl, rfl, g, t, rfl, (h).1, fun W42 hr42 => (show 3 = 3 ∧ false = false ∧ jin3 321 2655 4 zm_MTrl0.2.2.1.1 = true ∧ lRm zm_MTrl0.2.1 { frames := 1, cells := 0, slots := 0, locals := 21 } 4 = true ∧ Nat.ble 1 1 = true ∧ Nat.ble 0 8 = true ∧ 90 < n ∧ 12 = 12 ∧ Nat.ble 1000 12 = false ∧ zc_MTrmn [.inr (.inr (some (.inl 90)))] W42 (fun vv__ WW__ => zwp jtb zsh n zm_MTrl0 post (kk__ + 5) (lGo ak_ZMTrl0 49) 49 [some (.inr (.inr (some (.inl 90)))), some (.inl (g)), some (.inl (u)), some (.inl (op)), some (.inl (t)), u5, u6, u7] (vv__.toList ++ []) WW__) from ⟨rfl, rfl, rfl, rfl, rfl, rfl, (Nat.lt_of_lt_of_le (by decide) hn), rfl, rfl, rfl, (((h).2 W42 hr42)).1, fun r46 W46 hr46 => (show (r46 ≤ 0 → zwp jtb zsh n zm_MTrl0 post (kk__ + 2) (lGo ak_ZMTrl0 59) 59 [some (.inr (.inr (some (.inl 90)))), some (.inl (g)), some (.inl (u)), some (.inl (op)), some (.inl (t)), some (.inl (r46)), u6, u7] [] W46) ∧ (¬ r46 ≤ 0 → 1 = 1 ∧ True ∧ post (some (.inl (r46))) W46) from (have h := ((((h).2 W42 hr42)).2 r46 W46 hr46); ⟨fun c53_8 => ((h).1 c53_8), fun c53_8 => ⟨rfl, trivial, ((h).2 c53_8)⟩⟩))⟩)⟩)
set_option maxRecDepth 8000 in
theorem zp_MTrl0_59 {n K : Nat} {V : zW} {post : zPo} {g u op t y : Int} {u6 u7 : Option zv} (hK : 11 ≤ K) (hn : 142 ≤ n) (h : ∃ s63 : gSt, (gW V g s63 ∧ s63.2.2.2.1 = t ∧ zAt V (gPo s63) ∧ trE s63.2.1.2.2.1 (xLd s63.2.1.2.2.2.2.1) t + (if s63.2.1.2.2.2.2.1 t = [] then 0 else 1) ≤ 6) ∧ ∀ r63 : Int, ∀ W63 : zW, (zFr [(90, 36), (90, 37)] [93, 94, 95, 96, 97, 98, 100, 110, 111, 112, 115] V W63 ∧ zFo g V W63 ∧ ((r63 < 0 ∧ -1000000 ≤ r63 ∧ gMv (V.2.1 91) (V.1 90 1) s63 (V.1 90 37) none) ∨ (0 ≤ r63 ∧ ∃ e m, xLt (xLk (V.2.1 91) (V.1 90 1) (V.1 90 37)) ∧ xWd (V.2.1 91) (V.1 90 1) (V.1 90 37) e ∧ zUn (gPo s63).1 (fun i => V.2.1 91 (V.1 90 37 + i)) (e - V.1 90 37) m ∧ ¬ gMb s63 m ∧ r63 = s63.2.1.2.1 + 1 ∧ W63.1 90 37 = e ∧ gW W63 g (e, xApp s63.2.1 t m, zuI s63.2.2.1 (s63.2.1.2.1 + 1) 0, s63.2.1.2.1 + 1, 2, s63.2.2.2.2.2)))) → (0 ≤ r63 → zwp jtb zsh n zm_MTrl0 post (K - 11) (lGo ak_ZMTrl0 85) 85 [some (.inr (.inr (some (.inl 90)))), some (.inl (g)), some (.inl (u)), some (.inl (op)), some (.inl (r63)), some (.inl (y)), some (.inl (r63)), some (.inl (t))] [] W63) ∧ (¬ 0 ≤ r63 → (-2147483648 ≤ -r63 ∧ -r63 ≤ 2147483647) ∧ post (some (.inl (-r63))) W63)) : zwp jtb zsh n zm_MTrl0 post K (lGo ak_ZMTrl0 59) 59 [some (.inr (.inr (some (.inl 90)))), some (.inl (g)), some (.inl (u)), some (.inl (op)), some (.inl (t)), some (.inl (y)), u6, u7] [] V := by
  obtain ⟨kk__, rfl⟩ : ∃ kk__, K = kk__ + 11 := ⟨K - 11, by omega⟩
  exact (show 3 = 3 ∧ false = false ∧ jin3 324 2659 5 zm_MTrl0.2.2.1.1 = true ∧ lRm zm_MTrl0.2.1 { frames := 8, cells := 0, slots := 0, locals := 210 } 5 = true ∧ Nat.ble 3 3 = true ∧ Nat.ble 0 8 = true ∧ 90 < n ∧ 12 = 12 ∧ Nat.ble 1000 12 = false ∧ zc_MTrmv [.inr (.inr (some (.inl 90))), .inl (g), .inl (t)] V (fun vv__ WW__ => zwp jtb zsh n zm_MTrl0 post (kk__ + 7) (lGo ak_ZMTrl0 66) 66 [some (.inr (.inr (some (.inl 90)))), some (.inl (g)), some (.inl (u)), some (.inl (op)), some (.inl (t)), some (.inl (y)), u6, u7] (vv__.toList ++ []) WW__) from (Exists.elim (h) (fun s63 gh63 => ⟨rfl, rfl, rfl, rfl, rfl, rfl, (Nat.lt_of_lt_of_le (by decide) hn), rfl, rfl, g, t, s63, rfl, (gh63).1, fun r63 W63 hr63 => (show (0 ≤ r63 → zwp jtb zsh n zm_MTrl0 post (kk__ + 0) (lGo ak_ZMTrl0 85) 85 [some (.inr (.inr (some (.inl 90)))), some (.inl (g)), some (.inl (u)), some (.inl (op)), some (.inl (r63)), some (.inl (y)), some (.inl (r63)), some (.inl (t))] [] W63) ∧ (¬ 0 ≤ r63 → (-2147483648 ≤ -r63 ∧ -r63 ≤ 2147483647) ∧ 1 = 1 ∧ True ∧ post (some (.inl (-r63))) W63) from ⟨fun c70_6 => ((((gh63).2 r63 W63 hr63)).1 c70_6), fun c70_6 => (have h := ((((gh63).2 r63 W63 hr63)).2 c70_6); ⟨(h).1, ⟨rfl, trivial, (h).2⟩⟩)⟩)⟩)))
set_option maxRecDepth 8000 in
theorem zp_MTrl0_85 {n K : Nat} {V : zW} {post : zPo} {g u op t y x b : Int}  (hK : 10 ≤ K) (hn : 142 ≤ n) (h : ∃ s89 : gSt, (gW V g s89 ∧ s89.2.2.2.1 = t ∧ s89.2.2.2.2.1 = 2 ∧ s89.2.1.2.2.2.2.2 t = 0 ∧ zBn V (V.1 90 37) s89.1) ∧ ∀ r89 : Int, ∀ W89 : zW, (zFr [(90, 37)] [98, 99] V W89 ∧ zFo g V W89 ∧ ((r89 = 0 ∧ ∃ s2 : gSt, gP (V.2.1 91) (V.1 90 1) s89 s2 ∧ gW W89 g s2 ∧ W89.1 90 37 = s2.1 ∧ s2.2.2.2.1 = t ∧ s2.2.2.2.2.2 = s89.2.2.2.2.2 ∧ ((s2.2.2.2.2.1 = 2 ∧ ¬ gcM (xLk (V.2.1 91) (V.1 90 1) s2.1)) ∨ (s2.2.2.2.2.1 = 3 ∧ ¬ xLk (V.2.1 91) (V.1 90 1) s2.1 = 36))) ∨ (0 < r89 ∧ r89 ≤ 1000000 ∧ gF (V.2.1 91) (V.1 90 1) s89))) → (r89 ≤ 0 → zwp jtb zsh n zm_MTrl0 post (K - 7) (lGo ak_ZMTrl0 104) 104 [some (.inr (.inr (some (.inl 90)))), some (.inl (g)), some (.inl (u)), some (.inl (op)), some (.inl (t)), some (.inl (r89)), some (.inl (x)), some (.inl (b))] [] W89) ∧ (¬ r89 ≤ 0 → zwp jtb zsh n zm_MTrl0 post (K - 10) (lGo ak_ZMTrl0 113) 113 [some (.inr (.inr (some (.inl 90)))), some (.inl (g)), some (.inl (u)), some (.inl (op)), some (.inl (t)), some (.inl (r89)), some (.inl (x)), some (.inl (b))] [] W89)) : zwp jtb zsh n zm_MTrl0 post K (lGo ak_ZMTrl0 85) 85 [some (.inr (.inr (some (.inl 90)))), some (.inl (g)), some (.inl (u)), some (.inl (op)), some (.inl (t)), some (.inl (y)), some (.inl (x)), some (.inl (b))] [] V := by
  obtain ⟨kk__, rfl⟩ : ∃ kk__, K = kk__ + 10 := ⟨K - 10, by omega⟩
  exact (show 3 = 3 ∧ false = false ∧ jin3 327 2710 6 zm_MTrl0.2.2.1.1 = true ∧ lRm zm_MTrl0.2.1 { frames := 1, cells := 0, slots := 0, locals := 24 } 6 = true ∧ Nat.ble 3 3 = true ∧ Nat.ble 0 8 = true ∧ 90 < n ∧ 12 = 12 ∧ Nat.ble 1000 12 = false ∧ zc_MTrmk [.inr (.inr (some (.inl 90))), .inl (g), .inl (t)] V (fun vv__ WW__ => zwp jtb zsh n zm_MTrl0 post (kk__ + 6) (lGo ak_ZMTrl0 92) 92 [some (.inr (.inr (some (.inl 90)))), some (.inl (g)), some (.inl (u)), some (.inl (op)), some (.inl (t)), some (.inl (y)), some (.inl (x)), some (.inl (b))] (vv__.toList ++ []) WW__) from (Exists.elim (h) (fun s89 gh89 => ⟨rfl, rfl, rfl, rfl, rfl, rfl, (Nat.lt_of_lt_of_le (by decide) hn), rfl, rfl, g, t, s89, rfl, (gh89).1, fun r89 W89 hr89 => (show (r89 ≤ 0 → zwp jtb zsh n zm_MTrl0 post (kk__ + 3) (lGo ak_ZMTrl0 104) 104 [some (.inr (.inr (some (.inl 90)))), some (.inl (g)), some (.inl (u)), some (.inl (op)), some (.inl (t)), some (.inl (r89)), some (.inl (x)), some (.inl (b))] [] W89) ∧ (¬ r89 ≤ 0 → zwp jtb zsh n zm_MTrl0 post (kk__ + 0) (lGo ak_ZMTrl0 113) 113 [some (.inr (.inr (some (.inl 90)))), some (.inl (g)), some (.inl (u)), some (.inl (op)), some (.inl (t)), some (.inl (r89)), some (.inl (x)), some (.inl (b))] [] W89) from ⟨fun c96_6 => ((((gh89).2 r89 W89 hr89)).1 c96_6), fun c96_6 => ((((gh89).2 r89 W89 hr89)).2 c96_6)⟩)⟩)))
set_option maxRecDepth 8000 in
theorem zp_MTrl0_104 {n K : Nat} {V : zW} {post : zPo} {g u op t y x b : Int}  (hK : 5 ≤ K) (hn : 142 ≤ n) (h : ∃ s108 : gSt, (gW V g s108 ∧ s108.2.2.2.1 = t ∧ ¬ s108.2.2.2.2.1 = 1 ∧ zBn V (V.1 90 37) s108.1) ∧ ∀ r108 : Int, ∀ W108 : zW, (zFr [(90, 37)] [100, 101] V W108 ∧ zFo g V W108 ∧ ((r108 = 0 ∧ ∃ s2 : gSt, gP (V.2.1 91) (V.1 90 1) s108 s2 ∧ gW W108 g s2 ∧ W108.1 90 37 = s2.1 ∧ s2.2.2.2.1 = t ∧ s2.2.2.2.2.2 = s108.2.2.2.2.2 ∧ s2.2.1 = s108.2.1 ∧ ((s2.2.2.2.2.1 = s108.2.2.2.2.1 ∧ s2.1 = s108.1) ∨ s2.2.2.2.2.1 = (if s108.2.2.2.2.1 = 0 then 0 else 4)) ∧ ¬ gcR (xLk (V.2.1 91) (V.1 90 1) s2.1)) ∨ (0 < r108 ∧ r108 ≤ 1000000 ∧ gF (V.2.1 91) (V.1 90 1) s108))) → zwp jtb zsh n zm_MTrl0 post (K - 5) (lGo ak_ZMTrl0 113) 113 [some (.inr (.inr (some (.inl 90)))), some (.inl (g)), some (.inl (u)), some (.inl (op)), some (.inl (t)), some (.inl (r108)), some (.inl (x)), some (.inl (b))] [] W108) : zwp jtb zsh n zm_MTrl0 post K (lGo ak_ZMTrl0 104) 104 [some (.inr (.inr (some (.inl 90)))), some (.inl (g)), some (.inl (u)), some (.inl (op)), some (.inl (t)), some (.inl (y)), some (.inl (x)), some (.inl (b))] [] V := by
  obtain ⟨kk__, rfl⟩ : ∃ kk__, K = kk__ + 5 := ⟨K - 5, by omega⟩
  exact (show 3 = 3 ∧ false = false ∧ jin3 330 2639 7 zm_MTrl0.2.2.1.1 = true ∧ lRm zm_MTrl0.2.1 { frames := 1, cells := 0, slots := 0, locals := 21 } 11 = true ∧ Nat.ble 3 3 = true ∧ Nat.ble 0 8 = true ∧ 90 < n ∧ 12 = 12 ∧ Nat.ble 1000 12 = false ∧ zc_MTrrm [.inr (.inr (some (.inl 90))), .inl (g), .inl (t)] V (fun vv__ WW__ => zwp jtb zsh n zm_MTrl0 post (kk__ + 1) (lGo ak_ZMTrl0 111) 111 [some (.inr (.inr (some (.inl 90)))), some (.inl (g)), some (.inl (u)), some (.inl (op)), some (.inl (t)), some (.inl (y)), some (.inl (x)), some (.inl (b))] (vv__.toList ++ []) WW__) from (Exists.elim (h) (fun s108 gh108 => ⟨rfl, rfl, rfl, rfl, rfl, rfl, (Nat.lt_of_lt_of_le (by decide) hn), rfl, rfl, g, t, s108, rfl, (gh108).1, fun r108 W108 hr108 => (show zwp jtb zsh n zm_MTrl0 post (kk__ + 0) (lGo ak_ZMTrl0 113) 113 [some (.inr (.inr (some (.inl 90)))), some (.inl (g)), some (.inl (u)), some (.inl (op)), some (.inl (t)), some (.inl (r108)), some (.inl (x)), some (.inl (b))] [] W108 from ((gh108).2 r108 W108 hr108))⟩)))
set_option maxRecDepth 8000 in
theorem zp_MTrl0_113 {n K : Nat} {V : zW} {post : zPo} {g u op t y x b : Int}  (hK : 40 ≤ K) (hn : 142 ≤ n) (h : (¬ y = 0 → (y ≤ 0 → zwp jtb zsh n zm_MTrl0 post (K - 5) (lGo ak_ZMTrl0 3) 3 [some (.inr (.inr (some (.inl 90)))), some (.inl (g)), some (.inl (u)), some (.inl (op)), some (.inl (t)), some (.inl (y)), some (.inl (x)), some (.inl (b))] [] V) ∧ (¬ y ≤ 0 → post (some (.inl (y))) V)) ∧ (y = 0 → (zTp V) ∧ ∀ r119 : Int, (r119 = zLk V (V.1 90 37)) → (¬ r119 = 40 → (y ≤ 0 → zwp jtb zsh n zm_MTrl0 post (K - 9) (lGo ak_ZMTrl0 3) 3 [some (.inr (.inr (some (.inl 90)))), some (.inl (g)), some (.inl (u)), some (.inl (op)), some (.inl (t)), some (.inl (y)), some (.inl (x)), some (.inl (b))] [] V) ∧ (¬ y ≤ 0 → post (some (.inl (y))) V)) ∧ (r119 = 40 → (¬ op = 6 → (-2147483648 ≤ (V.1 90 37) + 1 ∧ (V.1 90 37) + 1 ≤ 2147483647) ∧ zwp jtb zsh n zm_MTrl0 post (K - 19) (lGo ak_ZMTrl0 168) 168 [some (.inr (.inr (some (.inl 90)))), some (.inl (g)), some (.inl (u)), some (.inl (op)), some (.inl (t)), some (.inl (0)), some (.inl (x)), some (.inl (b))] [] (zuF V 90 37 ((V.1 90 37) + 1))) ∧ (op = 6 → ((1 ≤ (8 : Int) ∧ (8 : Int) ≤ 9) ∧ 0 ≤ (V.1 90 37) ∧ (V.1 90 37) ≤ 65536) ∧ ∀ r139 : Int, (r139 = 100000 * (8 : Int) + (V.1 90 37)) → (-2147483648 ≤ (V.1 90 37) + 1 ∧ (V.1 90 37) + 1 ≤ 2147483647) ∧ (r139 ≤ 0 → zwp jtb zsh n zm_MTrl0 post (K - 23) (lGo ak_ZMTrl0 168) 168 [some (.inr (.inr (some (.inl 90)))), some (.inl (g)), some (.inl (u)), some (.inl (op)), some (.inl (t)), some (.inl (r139)), some (.inl (x)), some (.inl (b))] [] (zuF V 90 37 ((V.1 90 37) + 1))) ∧ (¬ r139 ≤ 0 → (r139 ≤ 0 → (-2147483648 ≤ ((V.1 90 37) + 1) + 1 ∧ ((V.1 90 37) + 1) + 1 ≤ 2147483647) ∧ (r139 ≤ 0 → zwp jtb zsh n zm_MTrl0 post (K - 36) (lGo ak_ZMTrl0 212) 212 [some (.inr (.inr (some (.inl 90)))), some (.inl (g)), some (.inl (u)), some (.inl (op)), some (.inl (t)), some (.inl (r139)), some (.inl (x)), some (.inl (b))] [] (zuF (zuF V 90 37 ((V.1 90 37) + 1)) 90 37 (((V.1 90 37) + 1) + 1))) ∧ (¬ r139 ≤ 0 → zwp jtb zsh n zm_MTrl0 post (K - 40) (lGo ak_ZMTrl0 113) 113 [some (.inr (.inr (some (.inl 90)))), some (.inl (g)), some (.inl (u)), some (.inl (op)), some (.inl (t)), some (.inl (r139)), some (.inl (x)), some (.inl (b))] [] (zuF (zuF V 90 37 ((V.1 90 37) + 1)) 90 37 (((V.1 90 37) + 1) + 1)))) ∧ (¬ r139 ≤ 0 → (r139 ≤ 0 → zwp jtb zsh n zm_MTrl0 post (K - 35) (lGo ak_ZMTrl0 212) 212 [some (.inr (.inr (some (.inl 90)))), some (.inl (g)), some (.inl (u)), some (.inl (op)), some (.inl (t)), some (.inl (r139)), some (.inl (x)), some (.inl (b))] [] (zuF (zuF V 90 37 ((V.1 90 37) + 1)) 90 37 ((V.1 90 37) + 1))) ∧ (¬ r139 ≤ 0 → zwp jtb zsh n zm_MTrl0 post (K - 39) (lGo ak_ZMTrl0 113) 113 [some (.inr (.inr (some (.inl 90)))), some (.inl (g)), some (.inl (u)), some (.inl (op)), some (.inl (t)), some (.inl (r139)), some (.inl (x)), some (.inl (b))] [] (zuF (zuF V 90 37 ((V.1 90 37) + 1)) 90 37 ((V.1 90 37) + 1))))))))) : zwp jtb zsh n zm_MTrl0 post K (lGo ak_ZMTrl0 113) 113 [some (.inr (.inr (some (.inl 90)))), some (.inl (g)), some (.inl (u)), some (.inl (op)), some (.inl (t)), some (.inl (y)), some (.inl (x)), some (.inl (b))] [] V := by
  obtain ⟨kk__, rfl⟩ : ∃ kk__, K = kk__ + 40 := ⟨K - 40, by omega⟩
  exact (show (¬ y = 0 → (y ≤ 0 → zwp jtb zsh n zm_MTrl0 post (kk__ + 35) (lGo ak_ZMTrl0 3) 3 [some (.inr (.inr (some (.inl 90)))), some (.inl (g)), some (.inl (u)), some (.inl (op)), some (.inl (t)), some (.inl (y)), some (.inl (x)), some (.inl (b))] [] V) ∧ (¬ y ≤ 0 → 1 = 1 ∧ True ∧ post (some (.inl (y))) V)) ∧ (y = 0 → 3 = 3 ∧ false = false ∧ jin3 278 2574 2 zm_MTrl0.2.2.1.1 = true ∧ lRm zm_MTrl0.2.1 { frames := 0, cells := 0, slots := 0, locals := 0 } 1 = true ∧ Nat.ble 1 1 = true ∧ Nat.ble 0 8 = true ∧ 90 < n ∧ 12 = 12 ∧ Nat.ble 1000 12 = false ∧ zc_MTlook [.inr (.inr (some (.inl 90)))] V (fun vv__ WW__ => zwp jtb zsh n zm_MTrl0 post (kk__ + 36) (lGo ak_ZMTrl0 122) 122 [some (.inr (.inr (some (.inl 90)))), some (.inl (g)), some (.inl (u)), some (.inl (op)), some (.inl (t)), some (.inl (y)), some (.inl (x)), some (.inl (b))] (vv__.toList ++ []) WW__)) from ⟨fun c115_1 => ⟨fun c226_3 => ((((h).1 c115_1)).1 c226_3), fun c226_3 => (have h := ((((h).1 c115_1)).2 c226_3); ⟨rfl, trivial, h⟩)⟩, fun c115_1 => ⟨rfl, rfl, rfl, rfl, rfl, rfl, (Nat.lt_of_lt_of_le (by decide) hn), rfl, rfl, rfl, (((h).2 c115_1)).1, fun r119 hr119 => (show (¬ r119 = 40 → (y ≤ 0 → zwp jtb zsh n zm_MTrl0 post (kk__ + 31) (lGo ak_ZMTrl0 3) 3 [some (.inr (.inr (some (.inl 90)))), some (.inl (g)), some (.inl (u)), some (.inl (op)), some (.inl (t)), some (.inl (y)), some (.inl (x)), some (.inl (b))] [] V) ∧ (¬ y ≤ 0 → 1 = 1 ∧ True ∧ post (some (.inl (y))) V)) ∧ (r119 = 40 → (¬ op = 6 → 90 < n ∧ 12 = 12 ∧ (-2147483648 ≤ (V.1 90 37) + 1 ∧ (V.1 90 37) + 1 ≤ 2147483647) ∧ 90 < n ∧ 12 = 12 ∧ (some 0 : Option Nat) = some 0 ∧ ((0 : Nat) = 0 ∨ ((0 : Nat) = 1 ∧ (((V.1 90 37) + 1) = 0 ∨ ((V.1 90 37) + 1) = 1))) ∧ ((0 : Int) ≤ 0 → zwp jtb zsh n zm_MTrl0 post (kk__ + 21) (lGo ak_ZMTrl0 168) 168 [some (.inr (.inr (some (.inl 90)))), some (.inl (g)), some (.inl (u)), some (.inl (op)), some (.inl (t)), some (.inl (0)), some (.inl (x)), some (.inl (b))] [] (zuF V 90 37 ((V.1 90 37) + 1))) ∧ (¬ (0 : Int) ≤ 0 → zwp jtb zsh n zm_MTrl0 post (kk__ + 21) (lGo ak_ZMTrl0 163) 163 [some (.inr (.inr (some (.inl 90)))), some (.inl (g)), some (.inl (u)), some (.inl (op)), some (.inl (t)), some (.inl (0)), some (.inl (x)), some (.inl (b))] [] (zuF V 90 37 ((V.1 90 37) + 1)))) ∧ (op = 6 → 90 < n ∧ 12 = 12 ∧ 3 = 3 ∧ true = true ∧ jin3 287 2588 8 zm_MTrl0.2.2.1.1 = true ∧ lRm zm_MTrl0.2.1 { frames := 0, cells := 0, slots := 0, locals := 0 } 2 = true ∧ Nat.ble 2 2 = true ∧ Nat.ble 0 8 = true ∧ zc_MTflt [.inl (8), .inl (V.1 90 37)] V (fun vv__ WW__ => zwp jtb zsh n zm_MTrl0 post (kk__ + 27) (lGo ak_ZMTrl0 142) 142 [some (.inr (.inr (some (.inl 90)))), some (.inl (g)), some (.inl (u)), some (.inl (op)), some (.inl (t)), some (.inl (y)), some (.inl (x)), some (.inl (b))] (vv__.toList ++ []) WW__))) from (have h := ((((h).2 c115_1)).2 r119 hr119); ⟨fun c124_5 => ⟨fun c226_7 => ((((h).1 c124_5)).1 c226_7), fun c226_7 => (have h := ((((h).1 c124_5)).2 c226_7); ⟨rfl, trivial, h⟩)⟩, fun c124_5 => ⟨fun c130_8 => (have h := ((((h).2 c124_5)).1 c130_8); ⟨(Nat.lt_of_lt_of_le (by decide) hn), rfl, ⟨(h).1, ⟨(Nat.lt_of_lt_of_le (by decide) hn), rfl, rfl, (Or.inl rfl), ⟨fun _ => (h).2, fun hc18 => absurd hc18 (by decide)⟩⟩⟩⟩), fun c130_8 => (have h := ((((h).2 c124_5)).2 c130_8); ⟨(Nat.lt_of_lt_of_le (by decide) hn), rfl, ⟨rfl, rfl, rfl, rfl, rfl, rfl, 8, V.1 90 37, rfl, (h).1, fun r139 hr139 => (show 90 < n ∧ 12 = 12 ∧ (-2147483648 ≤ (V.1 90 37) + 1 ∧ (V.1 90 37) + 1 ≤ 2147483647) ∧ 90 < n ∧ 12 = 12 ∧ (some 0 : Option Nat) = some 0 ∧ ((0 : Nat) = 0 ∨ ((0 : Nat) = 1 ∧ (((V.1 90 37) + 1) = 0 ∨ ((V.1 90 37) + 1) = 1))) ∧ (r139 ≤ 0 → zwp jtb zsh n zm_MTrl0 post (kk__ + 17) (lGo ak_ZMTrl0 168) 168 [some (.inr (.inr (some (.inl 90)))), some (.inl (g)), some (.inl (u)), some (.inl (op)), some (.inl (t)), some (.inl (r139)), some (.inl (x)), some (.inl (b))] [] (zuF V 90 37 ((V.1 90 37) + 1))) ∧ (¬ r139 ≤ 0 → (r139 ≤ 0 → 90 < n ∧ 12 = 12 ∧ (-2147483648 ≤ ((V.1 90 37) + 1) + 1 ∧ ((V.1 90 37) + 1) + 1 ≤ 2147483647) ∧ 90 < n ∧ 12 = 12 ∧ (some 0 : Option Nat) = some 0 ∧ ((0 : Nat) = 0 ∨ ((0 : Nat) = 1 ∧ ((((V.1 90 37) + 1) + 1) = 0 ∨ (((V.1 90 37) + 1) + 1) = 1))) ∧ (r139 ≤ 0 → zwp jtb zsh n zm_MTrl0 post (kk__ + 4) (lGo ak_ZMTrl0 212) 212 [some (.inr (.inr (some (.inl 90)))), some (.inl (g)), some (.inl (u)), some (.inl (op)), some (.inl (t)), some (.inl (r139)), some (.inl (x)), some (.inl (b))] [] (zuF (zuF V 90 37 ((V.1 90 37) + 1)) 90 37 (((V.1 90 37) + 1) + 1))) ∧ (¬ r139 ≤ 0 → zwp jtb zsh n zm_MTrl0 post (kk__ + 0) (lGo ak_ZMTrl0 113) 113 [some (.inr (.inr (some (.inl 90)))), some (.inl (g)), some (.inl (u)), some (.inl (op)), some (.inl (t)), some (.inl (r139)), some (.inl (x)), some (.inl (b))] [] (zuF (zuF V 90 37 ((V.1 90 37) + 1)) 90 37 (((V.1 90 37) + 1) + 1)))) ∧ (¬ r139 ≤ 0 → 90 < n ∧ 12 = 12 ∧ 90 < n ∧ 12 = 12 ∧ (some 0 : Option Nat) = some 0 ∧ ((0 : Nat) = 0 ∨ ((0 : Nat) = 1 ∧ (((V.1 90 37) + 1) = 0 ∨ ((V.1 90 37) + 1) = 1))) ∧ (r139 ≤ 0 → zwp jtb zsh n zm_MTrl0 post (kk__ + 5) (lGo ak_ZMTrl0 212) 212 [some (.inr (.inr (some (.inl 90)))), some (.inl (g)), some (.inl (u)), some (.inl (op)), some (.inl (t)), some (.inl (r139)), some (.inl (x)), some (.inl (b))] [] (zuF (zuF V 90 37 ((V.1 90 37) + 1)) 90 37 ((V.1 90 37) + 1))) ∧ (¬ r139 ≤ 0 → zwp jtb zsh n zm_MTrl0 post (kk__ + 1) (lGo ak_ZMTrl0 113) 113 [some (.inr (.inr (some (.inl 90)))), some (.inl (g)), some (.inl (u)), some (.inl (op)), some (.inl (t)), some (.inl (r139)), some (.inl (x)), some (.inl (b))] [] (zuF (zuF V 90 37 ((V.1 90 37) + 1)) 90 37 ((V.1 90 37) + 1))))) from ⟨(Nat.lt_of_lt_of_le (by decide) hn), rfl, ⟨(((h).2 r139 hr139)).1, ⟨(Nat.lt_of_lt_of_le (by decide) hn), rfl, rfl, (Or.inl rfl), ⟨fun c160_22 => (((((h).2 r139 hr139)).2).1 c160_22), fun c160_22 => (have h := (((((h).2 r139 hr139)).2).2 c160_22); ⟨fun c183_28 => ⟨(Nat.lt_of_lt_of_le (by decide) hn), rfl, ⟨(((h).1 c183_28)).1, ⟨(Nat.lt_of_lt_of_le (by decide) hn), rfl, rfl, (Or.inl rfl), ⟨fun c204_35 => (((((h).1 c183_28)).2).1 c204_35), fun c204_35 => (((((h).1 c183_28)).2).2 c204_35)⟩⟩⟩⟩, fun c183_28 => ⟨(Nat.lt_of_lt_of_le (by decide) hn), rfl, ⟨(Nat.lt_of_lt_of_le (by decide) hn), rfl, rfl, (Or.inl rfl), ⟨fun c204_34 => ((((h).2 c183_28)).1 c204_34), fun c204_34 => ((((h).2 c183_28)).2 c204_34)⟩⟩⟩⟩)⟩⟩⟩⟩)⟩⟩)⟩⟩))⟩⟩)
set_option maxRecDepth 8000 in
theorem zp_MTrl0_168 {n K : Nat} {V : zW} {post : zPo} {g u op t y x b : Int}  (hK : 22 ≤ K) (hn : 142 ≤ n) (h : (-2147483648 ≤ op + 1 ∧ op + 1 ≤ 2147483647) ∧ ∃ s175 : gSt, ((op + 1) = 1 ∧ gLp V g b 1 s175) ∧ ∀ r175 : Int, ∀ W175 : zW, (gLq V W175 g 1 r175 s175) → (r175 ≤ 0 → (-2147483648 ≤ (W175.1 90 37) + 1 ∧ (W175.1 90 37) + 1 ≤ 2147483647) ∧ (r175 ≤ 0 → zwp jtb zsh n zm_MTrl0 post (K - 18) (lGo ak_ZMTrl0 212) 212 [some (.inr (.inr (some (.inl 90)))), some (.inl (g)), some (.inl (u)), some (.inl (op)), some (.inl (t)), some (.inl (r175)), some (.inl (x)), some (.inl (b))] [] (zuF W175 90 37 ((W175.1 90 37) + 1))) ∧ (¬ r175 ≤ 0 → zwp jtb zsh n zm_MTrl0 post (K - 22) (lGo ak_ZMTrl0 113) 113 [some (.inr (.inr (some (.inl 90)))), some (.inl (g)), some (.inl (u)), some (.inl (op)), some (.inl (t)), some (.inl (r175)), some (.inl (x)), some (.inl (b))] [] (zuF W175 90 37 ((W175.1 90 37) + 1)))) ∧ (¬ r175 ≤ 0 → (r175 ≤ 0 → zwp jtb zsh n zm_MTrl0 post (K - 17) (lGo ak_ZMTrl0 212) 212 [some (.inr (.inr (some (.inl 90)))), some (.inl (g)), some (.inl (u)), some (.inl (op)), some (.inl (t)), some (.inl (r175)), some (.inl (x)), some (.inl (b))] [] (zuF W175 90 37 (W175.1 90 37))) ∧ (¬ r175 ≤ 0 → zwp jtb zsh n zm_MTrl0 post (K - 21) (lGo ak_ZMTrl0 113) 113 [some (.inr (.inr (some (.inl 90)))), some (.inl (g)), some (.inl (u)), some (.inl (op)), some (.inl (t)), some (.inl (r175)), some (.inl (x)), some (.inl (b))] [] (zuF W175 90 37 (W175.1 90 37))))) : zwp jtb zsh n zm_MTrl0 post K (lGo ak_ZMTrl0 168) 168 [some (.inr (.inr (some (.inl 90)))), some (.inl (g)), some (.inl (u)), some (.inl (op)), some (.inl (t)), some (.inl (y)), some (.inl (x)), some (.inl (b))] [] V := by
  obtain ⟨kk__, rfl⟩ : ∃ kk__, K = kk__ + 22 := ⟨K - 22, by omega⟩
  exact (show (-2147483648 ≤ op + 1 ∧ op + 1 ≤ 2147483647) ∧ 3 = 3 ∧ false = false ∧ jin3 333 2643 9 zm_MTrl0.2.2.1.1 = true ∧ lRm zm_MTrl0.2.1 { frames := 14, cells := 0, slots := 0, locals := 369 } 8 = true ∧ Nat.ble 4 4 = true ∧ Nat.ble 0 8 = true ∧ 90 < n ∧ 12 = 12 ∧ Nat.ble 1000 12 = false ∧ zc_MTrl1 [.inr (.inr (some (.inl 90))), .inl (g), .inl (b), .inl (op + 1)] V (fun vv__ WW__ => zwp jtb zsh n zm_MTrl0 post (kk__ + 15) (lGo ak_ZMTrl0 178) 178 [some (.inr (.inr (some (.inl 90)))), some (.inl (g)), some (.inl (u)), some (.inl (op)), some (.inl (t)), some (.inl (y)), some (.inl (x)), some (.inl (b))] (vv__.toList ++ []) WW__) from ⟨(h).1, (Exists.elim ((h).2) (fun s175 gh175 => ⟨rfl, rfl, rfl, rfl, rfl, rfl, (Nat.lt_of_lt_of_le (by decide) hn), rfl, rfl, g, b, op + 1, s175, rfl, (gh175).1, fun r175 W175 hr175 => (show (r175 ≤ 0 → 90 < n ∧ 12 = 12 ∧ (-2147483648 ≤ (W175.1 90 37) + 1 ∧ (W175.1 90 37) + 1 ≤ 2147483647) ∧ 90 < n ∧ 12 = 12 ∧ (some 0 : Option Nat) = some 0 ∧ ((0 : Nat) = 0 ∨ ((0 : Nat) = 1 ∧ (((W175.1 90 37) + 1) = 0 ∨ ((W175.1 90 37) + 1) = 1))) ∧ (r175 ≤ 0 → zwp jtb zsh n zm_MTrl0 post (kk__ + 4) (lGo ak_ZMTrl0 212) 212 [some (.inr (.inr (some (.inl 90)))), some (.inl (g)), some (.inl (u)), some (.inl (op)), some (.inl (t)), some (.inl (r175)), some (.inl (x)), some (.inl (b))] [] (zuF W175 90 37 ((W175.1 90 37) + 1))) ∧ (¬ r175 ≤ 0 → zwp jtb zsh n zm_MTrl0 post (kk__ + 0) (lGo ak_ZMTrl0 113) 113 [some (.inr (.inr (some (.inl 90)))), some (.inl (g)), some (.inl (u)), some (.inl (op)), some (.inl (t)), some (.inl (r175)), some (.inl (x)), some (.inl (b))] [] (zuF W175 90 37 ((W175.1 90 37) + 1)))) ∧ (¬ r175 ≤ 0 → 90 < n ∧ 12 = 12 ∧ 90 < n ∧ 12 = 12 ∧ (some 0 : Option Nat) = some 0 ∧ ((0 : Nat) = 0 ∨ ((0 : Nat) = 1 ∧ ((W175.1 90 37) = 0 ∨ (W175.1 90 37) = 1))) ∧ (r175 ≤ 0 → zwp jtb zsh n zm_MTrl0 post (kk__ + 5) (lGo ak_ZMTrl0 212) 212 [some (.inr (.inr (some (.inl 90)))), some (.inl (g)), some (.inl (u)), some (.inl (op)), some (.inl (t)), some (.inl (r175)), some (.inl (x)), some (.inl (b))] [] (zuF W175 90 37 (W175.1 90 37))) ∧ (¬ r175 ≤ 0 → zwp jtb zsh n zm_MTrl0 post (kk__ + 1) (lGo ak_ZMTrl0 113) 113 [some (.inr (.inr (some (.inl 90)))), some (.inl (g)), some (.inl (u)), some (.inl (op)), some (.inl (t)), some (.inl (r175)), some (.inl (x)), some (.inl (b))] [] (zuF W175 90 37 (W175.1 90 37)))) from (have h := ((gh175).2 r175 W175 hr175); ⟨fun c183_10 => ⟨(Nat.lt_of_lt_of_le (by decide) hn), rfl, ⟨(((h).1 c183_10)).1, ⟨(Nat.lt_of_lt_of_le (by decide) hn), rfl, rfl, (Or.inl rfl), ⟨fun c204_17 => (((((h).1 c183_10)).2).1 c204_17), fun c204_17 => (((((h).1 c183_10)).2).2 c204_17)⟩⟩⟩⟩, fun c183_10 => ⟨(Nat.lt_of_lt_of_le (by decide) hn), rfl, ⟨(Nat.lt_of_lt_of_le (by decide) hn), rfl, rfl, (Or.inl rfl), ⟨fun c204_16 => ((((h).2 c183_10)).1 c204_16), fun c204_16 => ((((h).2 c183_10)).2 c204_16)⟩⟩⟩⟩))⟩))⟩)
set_option maxRecDepth 8000 in
theorem zp_MTrl0_212 {n K : Nat} {V : zW} {post : zPo} {g u op t y x b : Int}  (hK : 6 ≤ K) (hn : 142 ≤ n) (h : ∃ s216 : gSt, (gW V g s216 ∧ s216.2.2.2.1 = t ∧ ¬ s216.2.2.2.2.1 = 1 ∧ zBn V (V.1 90 37) s216.1) ∧ ∀ r216 : Int, ∀ W216 : zW, (zFr [(90, 37)] [100, 101] V W216 ∧ zFo g V W216 ∧ ((r216 = 0 ∧ ∃ s2 : gSt, gP (V.2.1 91) (V.1 90 1) s216 s2 ∧ gW W216 g s2 ∧ W216.1 90 37 = s2.1 ∧ s2.2.2.2.1 = t ∧ s2.2.2.2.2.2 = s216.2.2.2.2.2 ∧ s2.2.1 = s216.2.1 ∧ ((s2.2.2.2.2.1 = s216.2.2.2.2.1 ∧ s2.1 = s216.1) ∨ s2.2.2.2.2.1 = (if s216.2.2.2.2.1 = 0 then 0 else 4)) ∧ ¬ gcR (xLk (V.2.1 91) (V.1 90 1) s2.1)) ∨ (0 < r216 ∧ r216 ≤ 1000000 ∧ gF (V.2.1 91) (V.1 90 1) s216))) → zwp jtb zsh n zm_MTrl0 post (K - 6) (lGo ak_ZMTrl0 113) 113 [some (.inr (.inr (some (.inl 90)))), some (.inl (g)), some (.inl (u)), some (.inl (op)), some (.inl (t)), some (.inl (r216)), some (.inl (x)), some (.inl (b))] [] W216) : zwp jtb zsh n zm_MTrl0 post K (lGo ak_ZMTrl0 212) 212 [some (.inr (.inr (some (.inl 90)))), some (.inl (g)), some (.inl (u)), some (.inl (op)), some (.inl (t)), some (.inl (y)), some (.inl (x)), some (.inl (b))] [] V := by
  obtain ⟨kk__, rfl⟩ : ∃ kk__, K = kk__ + 6 := ⟨K - 6, by omega⟩
  exact (show 3 = 3 ∧ false = false ∧ jin3 330 2639 7 zm_MTrl0.2.2.1.1 = true ∧ lRm zm_MTrl0.2.1 { frames := 1, cells := 0, slots := 0, locals := 21 } 11 = true ∧ Nat.ble 3 3 = true ∧ Nat.ble 0 8 = true ∧ 90 < n ∧ 12 = 12 ∧ Nat.ble 1000 12 = false ∧ zc_MTrrm [.inr (.inr (some (.inl 90))), .inl (g), .inl (t)] V (fun vv__ WW__ => zwp jtb zsh n zm_MTrl0 post (kk__ + 2) (lGo ak_ZMTrl0 219) 219 [some (.inr (.inr (some (.inl 90)))), some (.inl (g)), some (.inl (u)), some (.inl (op)), some (.inl (t)), some (.inl (y)), some (.inl (x)), some (.inl (b))] (vv__.toList ++ []) WW__) from (Exists.elim (h) (fun s216 gh216 => ⟨rfl, rfl, rfl, rfl, rfl, rfl, (Nat.lt_of_lt_of_le (by decide) hn), rfl, rfl, g, t, s216, rfl, (gh216).1, fun r216 W216 hr216 => (show zwp jtb zsh n zm_MTrl0 post (kk__ + 0) (lGo ak_ZMTrl0 113) 113 [some (.inr (.inr (some (.inl 90)))), some (.inl (g)), some (.inl (u)), some (.inl (op)), some (.inl (t)), some (.inl (r216)), some (.inl (x)), some (.inl (b))] [] W216 from ((gh216).2 r216 W216 hr216))⟩)))
set_option maxRecDepth 1000000 in
set_option maxHeartbeats 4000000 in
theorem zk_MTrl0 {l : Launch} {E : jE} {n : Nat} (hn : 142 ≤ n) : zHas l E jcl jtb lw_tbl zsh n (y_MT_readLine, false, 4, 12, { frames := 15, cells := 0, slots := 0, locals := 396 }, zc_MTrl0) := by
  refine ⟨⟨rfl, rfl, ⟨show 1 ≤ 4 by decide, m_MT_readLine, i_MT_readLine, e_MT_readLine, fun _ => ⟨_, rfl, rfl⟩⟩⟩, ?_⟩
  rintro vz W po hO hW ⟨g, u, op, s, rfl, hq, hp⟩
  refine zmet (m := zm_MTrl0) rfl (by decide) (fun _ _ => jtF_ok) lo_MT ao_ZMTrl0 jC (fun q h => by cases h) (aAllc (fun G h => by obtain rfl := Option.some.inj h; exact ql_MT_275) (aAllc (fun G h => by obtain rfl := Option.some.inj h; exact ql_MT_318) (aAllc (fun G h => by obtain rfl := Option.some.inj h; exact ql_MT_278) (aAllc (fun G h => by obtain rfl := Option.some.inj h; exact ql_MT_96) (aAllc (fun G h => by obtain rfl := Option.some.inj h; exact ql_MT_321) (aAllc (fun G h => by obtain rfl := Option.some.inj h; exact ql_MT_324) (aAllc (fun G h => by obtain rfl := Option.some.inj h; exact ql_MT_327) (aAllc (fun G h => by obtain rfl := Option.some.inj h; exact ql_MT_330) (aAllc (fun G h => by obtain rfl := Option.some.inj h; exact ql_MT_287) (aAllc (fun G h => by obtain rfl := Option.some.inj h; exact ql_MT_333) (fun q h => by cases h))))))))))) (aAllc (zk_MTbl hn) (aAllc (zk_MTrsh hn) (aAllc (zk_MTlook hn) (aAllc (zk_MTplace hn) (aAllc (zk_MTrmn hn) (aAllc (zk_MTrmv hn) (aAllc (zk_MTrmk hn) (aAllc (zk_MTrrm hn) (aAllc (zk_MTflt hn) (aAllc (zk_MTrl1 hn) (fun q h => by cases h))))))))))) (Nat.le_of_ble_eq_true rfl) hO hW (66000000) ?_
  have op6 := hq.1
  have hI0 := hq.2.2.1
  have hg := hq.2.1.1
  have elen : (s.2.2.2.2.2.length : Int) = 0 := hq.2.2.2.2.1
  have hB0 : xBs (W.2.1 91) (W.1 90 1) s.1 s.1 := xBs_i hq.2.2.2.2.2.2.1
  have i0 : gJ3 W W g u u s := ⟨⟨zFr_0, zFo_0⟩, s, gP_0, hq.2.1, hq.2.2.2.2.2.2.1, hq.2.2.2.1, rfl, Or.inl ⟨hq.2.2.2.1, Or.inl ⟨hq.2.2.2.2.2.1, hq.2.2.2.2.2.2.2 rfl⟩⟩⟩
  have main : ∀ m : Nat, (∀ (K : Nat) (V : zW) (t : Int) (u5 u6 u7 : Option zv), gJ3 W V g u t s → W.1 90 1 - V.1 90 37 < (m : Nat) → 1000 * m + 500 ≤ K → zwp jtb zsh n zm_MTrl0 po K (lGo ak_ZMTrl0 3) 3 [some (.inr (.inr (some (.inl 90)))), some (.inl g), some (.inl u), some (.inl op), some (.inl (t)), u5, u6, u7] [] V) ∧ (∀ (K : Nat) (V : zW) (t y x b : Int), gJ5 W V g u t b y s → (y = 0 → W.1 90 1 - V.1 90 37 < (m : Nat)) → 1000 * m + 700 ≤ K → zwp jtb zsh n zm_MTrl0 po K (lGo ak_ZMTrl0 113) 113 [some (.inr (.inr (some (.inl 90)))), some (.inl g), some (.inl u), some (.inl op), some (.inl (t)), some (.inl (y)), some (.inl (x)), some (.inl (b))] [] V) := by
    intro m
    induction m with
    | zero =>
      have h3 : (∀ (K : Nat) (V : zW) (t : Int) (u5 u6 u7 : Option zv), gJ3 W V g u t s → W.1 90 1 - V.1 90 37 < (0 : Nat) → 1000 * 0 + 500 ≤ K → zwp jtb zsh n zm_MTrl0 po K (lGo ak_ZMTrl0 3) 3 [some (.inr (.inr (some (.inl 90)))), some (.inl g), some (.inl u), some (.inl op), some (.inl (t)), u5, u6, u7] [] V) := by
        intro K V t u5 u6 u7 hJ hm
        obtain ⟨hB, s1, _, hw, _⟩ := hJ
        have := hw.2.1.1
        have := (gBs_x hB).2
        omega
      refine ⟨h3, ?_⟩
      intro K V t y x b hJ hm hK
      have y0 : 0 < y := by
        rcases hJ.2 with h | ⟨h, s1, _, hw, _⟩
        · exact h.1
        · exfalso
          have := hm h
          have := hw.2.1.1
          have := (gBs_x hJ.1).2
          omega
      have b231 : 0 < y → po (some (.inl y)) V := fun _ => hp _ _ ⟨hJ.1.1, hJ.1.2, Or.inr (hJ.2.resolve_right (fun z => by have := z.1; omega))⟩
      exact zp_MTrl0_113 (by omega) hn ⟨fun c115 => ⟨fun c226 => (by exfalso; omega), fun c226 => b231 (by omega)⟩, fun c115 => (by exfalso; omega)⟩
    | succ m ih =>
      have ih113 := ih.2
      have h3 : (∀ (K : Nat) (V : zW) (t : Int) (u5 u6 u7 : Option zv), gJ3 W V g u t s → W.1 90 1 - V.1 90 37 < ((m + 1) : Nat) → 1000 * (m + 1) + 500 ≤ K → zwp jtb zsh n zm_MTrl0 po K (lGo ak_ZMTrl0 3) 3 [some (.inr (.inr (some (.inl 90)))), some (.inl g), some (.inl u), some (.inl op), some (.inl (t)), u5, u6, u7] [] V) := by
        intro K V t u5 u6 u7 hI hm hK
        obtain ⟨hB, s1, hP, hw, eb, et, ek, hH⟩ := hI
        have hI : gBs W V g ∧ True := ⟨hB, trivial⟩
        have e1 := gBs_x hB
        have hI1 := (gI_p hI0 hP).1
        have elen : (s1.2.2.2.2.2.length : Int) = 0 := by rw [ek]; exact elen
        have ate : ∀ U, (zFr [(90, 37)] [] V U ∧ zTp U ∧ zBn V (V.1 90 37) (U.1 90 37)) → U.1 90 37 = s1.1 := fun U h => xBs_u h.2.2 eb
        have lk4 : ∀ U, (zFr [(90, 37)] [] V U ∧ zTp U ∧ zBn V (V.1 90 37) (U.1 90 37)) → zLk U (U.1 90 37) = xLk (W.2.1 91) (W.1 90 1) s1.1 := fun U h => by rw [gLk (gBs_f hB h.1).1, ate U h]
        have st2 : ¬ t = u → 2 ≤ s1.2.2.2.2.1 := by
          intro h
          rcases hH with z | z
          · exact absurd (et.symm.trans z.1) h
          · have := z.2.1; omega
        have ret : ∀ U, (zFr [(90, 37)] [] V U ∧ zTp U ∧ zBn V (V.1 90 37) (U.1 90 37)) → gEn (W.2.1 91) (W.1 90 1) 0 s1 → po (some (.inl 0)) U := by
          intro U h hE
          have B := gBs_f hB h.1
          exact hp _ _ ⟨B.1, B.2, Or.inl ⟨rfl, s1, hP, gW_fr h.1 (by decide) (by decide) h.2.1 hw, ate U h, ek, hE⟩⟩
        have le1 : V.1 90 37 ≤ s1.1 := eb.1.1
        have h38 : ∀ U, (zFr [(90, 37)] [] V U ∧ zTp U ∧ zBn V (V.1 90 37) (U.1 90 37)) → ¬ gOv (W.2.1 91) (W.1 90 1) s1 → (xLk (W.2.1 91) (W.1 90 1) s1.1 = 41 → ¬ s1.2.2.2.1 = u → s1.2.2.2.2.2 = []) → ∀ K : Nat, 1000 * m + 1300 ≤ K → zwp jtb zsh n zm_MTrl0 po K (lGo ak_ZMTrl0 38) 38 [some (.inr (.inr (some (.inl 90)))), some (.inl g), some (.inl u), some (.inl op), some (.inl (t)), u5, u6, u7] [] U := by
          intro U hU nO n41 K hK
          have aU := ate U hU
          have hB := gBs_f hB hU.1
          have hw := gW_fr hU.1 (by decide) (by decide) hU.2.1 hw
          have e1 := gBs_x hB
          clear hI ih ret lk4 ate
          have pre42 : (0 ≤ g ∧ g ≤ 1) ∧ (∃ N, (0 ≤ t ∧ t ≤ N ∧ N ≤ 300) ∧ xOk (zSt U g) (zro U 94 g) (zro U 95 g) N) ∧ zSb U g := ⟨hg, ⟨s1.2.1.2.1, by rw [← et]; have := hw.2.2.2.2.1; have := hw.2.2.2.1.1; omega, (zRt_O hw.2.2.1 hw.2.2.2.1).1⟩, hw.2.2.1.2.2.2.2⟩
          have at42 : ∀ W42, (zAt W42 (xPo (zSt U g) (zro U 94 g) (zro U 95 g) t) ∧ zFr [(90, 25), (90, 26), (90, 27), (90, 28), (90, 29), (90, 33)] [110, 111, 112, 113, 114] U W42) → zAt W42 (gPo s1) := fun W42 h => zAt_s hw (by rw [et]; exact h.1)
          have nu : ∀ W42 W46 r46, (zAt W42 (xPo (zSt U g) (zro U 94 g) (zro U 95 g) t) ∧ zFr [(90, 25), (90, 26), (90, 27), (90, 28), (90, 29), (90, 33)] [110, 111, 112, 113, 114] U W42) → (zFr [(90, 37)] [] W42 W46 ∧ zTp W46 ∧ zRn W42 W46 (W42.1 90 37) r46 ∧ 0 ≤ r46 ∧ r46 ≤ 1000000) → (r46 = 0 ∧ gNu (W.2.1 91) (W.1 90 1) (gPo s1).2 s1.1 (W46.1 90 37) 0) ∨ (0 < r46 ∧ gNu (W.2.1 91) (W.1 90 1) (gPo s1).2 s1.1 s1.1 1) := by
            intro W42 W46 r46 h42 h46
            have z := gNu_z (gBs_f hB h42.2).1 (by decide) (by decide) (at42 W42 h42) h46.2.2.1
            rw [zFr_f h42.2 90 37, aU] at z
            exact z
          have b58 : ∀ W42 W46 r46, (zAt W42 (xPo (zSt U g) (zro U 94 g) (zro U 95 g) t) ∧ zFr [(90, 25), (90, 26), (90, 27), (90, 28), (90, 29), (90, 33)] [110, 111, 112, 113, 114] U W42) → (zFr [(90, 37)] [] W42 W46 ∧ zTp W46 ∧ zRn W42 W46 (W42.1 90 37) r46 ∧ 0 ≤ r46 ∧ r46 ≤ 1000000) → 0 < r46 → po (some (.inl r46)) W46 := by
            intro W42 W46 r46 h42 h46 r0
            have B := gBs_f (gBs_f hB h42.2) h46.1
            have z := (nu W42 W46 r46 h42 h46).resolve_left (fun z => by omega)
            exact hp _ _ ⟨B.1, B.2, Or.inr ⟨r0, h46.2.2.2.2, gF_1 hP (gS_h hH nO n41 ⟨_, _, z.2, Or.inl ⟨rfl, rfl⟩⟩)⟩⟩
          have h59 : ∀ W42 W46 r46, (zAt W42 (xPo (zSt U g) (zro U 94 g) (zro U 95 g) t) ∧ zFr [(90, 25), (90, 26), (90, 27), (90, 28), (90, 29), (90, 33)] [110, 111, 112, 113, 114] U W42) → (zFr [(90, 37)] [] W42 W46 ∧ zTp W46 ∧ zRn W42 W46 (W42.1 90 37) r46 ∧ 0 ≤ r46 ∧ r46 ≤ 1000000) → r46 ≤ 0 → ∀ (K : Nat) (u6 u7 : Option zv), 1000 * m + 1200 ≤ K → zwp jtb zsh n zm_MTrl0 po K (lGo ak_ZMTrl0 59) 59 [some (.inr (.inr (some (.inl 90)))), some (.inl g), some (.inl u), some (.inl op), some (.inl (t)), some (.inl (r46)), u6, u7] [] W46 := by
            intro W42 W46 r46 h42 h46 r0 K u6 u7 hK
            have z := (nu W42 W46 r46 h42 h46).resolve_right (fun z => by omega)
            have B := gBs_f (gBs_f hB h42.2) h46.1
            have hw : gW W46 g s1 := gW_fr h46.1 (by decide) (by decide) h46.2.1 (gW_fr h42.2 (by decide) (by decide) (zTp_fr h42.2 hw.2.1) hw)
            have hA := zAt_fr h46.1 (by decide) (by decide) (at42 W42 h42)
            have hNu := z.2
            have e1 := gBs_x B
            generalize W46 = V at B hw hA hNu e1 ⊢
            clear z h42 h46 nu b58 pre42 at42
            have hd := gI_d hI1
            have hd6 : trE s1.2.1.2.2.1 (xLd s1.2.1.2.2.2.2.1) t + (if s1.2.1.2.2.2.2.1 t = [] then 0 else 1) ≤ 6 := by rw [et] at hd; have := hd.1; have := hI1.2.2.1; omega
            have b76 : ∀ W3 r, (zFr [(90, 36), (90, 37)] [93, 94, 95, 96, 97, 98, 100, 110, 111, 112, 115] V W3 ∧ zFo g V W3 ∧ ((r < 0 ∧ -1000000 ≤ r ∧ gMv (V.2.1 91) (V.1 90 1) s1 (V.1 90 37) none) ∨ (0 ≤ r ∧ ∃ e m, xLt (xLk (V.2.1 91) (V.1 90 1) (V.1 90 37)) ∧ xWd (V.2.1 91) (V.1 90 1) (V.1 90 37) e ∧ zUn (gPo s1).1 (fun i => V.2.1 91 (V.1 90 37 + i)) (e - V.1 90 37) m ∧ ¬ gMb s1 m ∧ r = s1.2.1.2.1 + 1 ∧ W3.1 90 37 = e ∧ gW W3 g (e, xApp s1.2.1 t m, zuI s1.2.2.1 (s1.2.1.2.1 + 1) 0, s1.2.1.2.1 + 1, 2, s1.2.2.2.2.2)))) → r < 0 → po (some (.inl (-r))) W3 := by
              intro W3 r h r0
              have B3 := gBs_o B h.1 h.2.1
              have z := h.2.2.resolve_right (fun z => by have := z.1; omega)
              rw [e1.1, e1.2] at z
              exact hp _ _ ⟨B3.1, B3.2, Or.inr ⟨by omega, by omega, gF_1 hP (gS_h hH nO n41 (gMv_0 hNu z.2.2))⟩⟩
            have h85 : ∀ W3 r, (zFr [(90, 36), (90, 37)] [93, 94, 95, 96, 97, 98, 100, 110, 111, 112, 115] V W3 ∧ zFo g V W3 ∧ ((r < 0 ∧ -1000000 ≤ r ∧ gMv (V.2.1 91) (V.1 90 1) s1 (V.1 90 37) none) ∨ (0 ≤ r ∧ ∃ e m, xLt (xLk (V.2.1 91) (V.1 90 1) (V.1 90 37)) ∧ xWd (V.2.1 91) (V.1 90 1) (V.1 90 37) e ∧ zUn (gPo s1).1 (fun i => V.2.1 91 (V.1 90 37 + i)) (e - V.1 90 37) m ∧ ¬ gMb s1 m ∧ r = s1.2.1.2.1 + 1 ∧ W3.1 90 37 = e ∧ gW W3 g (e, xApp s1.2.1 t m, zuI s1.2.2.1 (s1.2.1.2.1 + 1) 0, s1.2.1.2.1 + 1, 2, s1.2.2.2.2.2)))) → 0 ≤ r → ∀ (K : Nat) (y : Int), 1000 * m + 1100 ≤ K → zwp jtb zsh n zm_MTrl0 po K (lGo ak_ZMTrl0 85) 85 [some (.inr (.inr (some (.inl 90)))), some (.inl g), some (.inl u), some (.inl op), some (.inl (r)), some (.inl (y)), some (.inl (r)), some (.inl (t))] [] W3 := by
              intro W3 r h r0 K y hK
              have B3 := gBs_o B h.1 h.2.1
              have z := h.2.2.resolve_left (fun z => by have := z.1; omega)
              rw [e1.1, e1.2] at z
              obtain ⟨_, e, mv, h1, h2, h4, h5, h6, h7, h8⟩ := z
              obtain ⟨q, hq'⟩ := xBs_x (X := W.2.1 91) (N := W.1 90 1) (p := e) h2.1.2
              have hG : gS (W.2.1 91) (W.1 90 1) s1 (some (q, xApp s1.2.1 s1.2.2.2.1 mv, zuI s1.2.2.1 (s1.2.1.2.1 + 1) 0, s1.2.1.2.1 + 1, 2, s1.2.2.2.2.2)) := gS_h hH nO n41 (gMv_0 hNu (Or.inr ⟨h1, e, mv, h2, h4, Or.inr ⟨h5, q, hq', rfl⟩⟩))
              have hP3 := gP_1 hP hG
              have hI3 := gI_s hI1 hG
              have e3 := gBs_x B3
              have u1 : u ≤ s1.2.1.2.1 := by
                have a := (gI_p hI0 hP).2.2.1
                have b := hI0.2.1.2
                have c := hq.2.2.2.1
                omega
              rw [et] at hG hP3 hI3
              generalize es3 : ((q, xApp s1.2.1 t mv, zuI s1.2.2.1 (s1.2.1.2.1 + 1) 0, s1.2.1.2.1 + 1, 2, s1.2.2.2.2.2) : gSt) = s3 at hG hP3 hI3
              have et3 : s3.2.2.2.1 = r := by rw [← es3]; exact h6.symm
              have es2 : s3.2.2.2.2.1 = 2 := by rw [← es3]
              have em : s3.2.1.2.2.2.2.2 r = 0 := by
                rw [← es3, h6]
                exact zuI_s
              have eb3 : zBn W3 (W3.1 90 37) s3.1 := by
                show xBs (W3.2.1 91) (W3.1 90 1) (W3.1 90 37) s3.1
                rw [e3.1, e3.2, h7, ← es3]
                exact hq'
              have hw3 : gW W3 g s3 := by rw [← es3]; exact h8
              have k3 : s3.2.2.2.2.2 = s.2.2.2.2.2 := by rw [← es3]; exact ek
              have p3 : s3.2.1.2.2.1 r = t := by
                rw [← es3, h6]
                exact zuI_s
              have n3 : ¬ r = u := by omega
              have N3 : s3.2.1.2.1 = r := by rw [← es3]; exact h6.symm
              have lt3 : s1.1 < s3.1 := hI3.2.2.1
              have hI3 := hI3.1
              clear hG es3
              generalize r = x at et3 em p3 n3 N3 ⊢
              generalize W3 = V at B3 e3 eb3 hw3 ⊢
              have B := B3
              have e1 := e3
              have et := et3
              have eb := eb3
              have hw := hw3
              have j89 : ∀ W3 r, (zFr [(90, 37)] [98, 99] V W3 ∧ zFo g V W3 ∧ ((r = 0 ∧ ∃ s2 : gSt, gP (V.2.1 91) (V.1 90 1) s3 s2 ∧ gW W3 g s2 ∧ W3.1 90 37 = s2.1 ∧ s2.2.2.2.1 = x ∧ s2.2.2.2.2.2 = s3.2.2.2.2.2 ∧ ((s2.2.2.2.2.1 = 2 ∧ ¬ gcM (xLk (V.2.1 91) (V.1 90 1) s2.1)) ∨ (s2.2.2.2.2.1 = 3 ∧ ¬ xLk (V.2.1 91) (V.1 90 1) s2.1 = 36))) ∨ (0 < r ∧ r ≤ 1000000 ∧ gF (V.2.1 91) (V.1 90 1) s3))) → 0 < r → gJ5 W W3 g u x t r s := by
                intro W3 r h r0
                refine ⟨gBs_o B h.1 h.2.1, Or.inl ?_⟩
                rcases h.2.2 with h2 | h2
                · omega
                · rw [e1.1, e1.2] at h2
                  exact ⟨h2.1, h2.2.1, gF_t hP3 h2.2.2⟩
              have h104 : ∀ W3, ∀ {r : Int}, (zFr [(90, 37)] [98, 99] V W3 ∧ zFo g V W3 ∧ ((r = 0 ∧ ∃ s2 : gSt, gP (V.2.1 91) (V.1 90 1) s3 s2 ∧ gW W3 g s2 ∧ W3.1 90 37 = s2.1 ∧ s2.2.2.2.1 = x ∧ s2.2.2.2.2.2 = s3.2.2.2.2.2 ∧ ((s2.2.2.2.2.1 = 2 ∧ ¬ gcM (xLk (V.2.1 91) (V.1 90 1) s2.1)) ∨ (s2.2.2.2.2.1 = 3 ∧ ¬ xLk (V.2.1 91) (V.1 90 1) s2.1 = 36))) ∨ (0 < r ∧ r ≤ 1000000 ∧ gF (V.2.1 91) (V.1 90 1) s3))) → r ≤ 0 → ∀ (K : Nat) (y : Int), 1000 * m + 1000 ≤ K → zwp jtb zsh n zm_MTrl0 po K (lGo ak_ZMTrl0 104) 104 [some (.inr (.inr (some (.inl 90)))), some (.inl g), some (.inl u), some (.inl op), some (.inl (x)), some (.inl (y)), some (.inl (x)), some (.inl (t))] [] W3 := by
                intro W3 r h r0 K y hK
                have B4 := gBs_o B h.1 h.2.1
                have z := h.2.2.resolve_right (fun z => by omega)
                rw [e1.1, e1.2] at z
                obtain ⟨_, s4, hP4, hw4, ea4, et4, ek4, hc4⟩ := z
                have e4 := gBs_x B4
                have hQ4 := gI_p hI3 hP4
                have hb4 := gB_p (gB_p hB0 hP3) hP4
                have hP4 := gP_t hP3 hP4
                generalize W3 = V at B4 hw4 ea4 e4 ⊢
                have n1 : ¬ s4.2.2.2.2.1 = 1 := by omega
                have et := et4
                have hw := hw4
                have eb : zBn V (V.1 90 37) s4.1 := by
                  show xBs (V.2.1 91) (V.1 90 1) (V.1 90 37) s4.1
                  rw [e4.1, e4.2, ea4]
                  exact hb4
                have p4 : s4.2.1.2.2.1 x = t := by
                  have hx1 := hI3.2.1
                  have hx2 := hI3.2.2.2.2.2.resolve_left (fun z => by have := z.1; omega)
                  rw [et3] at hx1 hx2
                  rw [(hQ4.2.2.2.2 x (by have := hx2.2.2.2.2; omega) hx1.2).1]
                  exact p3
                have j108 : ∀ (W3 : zW) (r : Int), (zFr [(90, 37)] [100, 101] V W3 ∧ zFo g V W3 ∧ ((r = 0 ∧ ∃ s2 : gSt, gP (V.2.1 91) (V.1 90 1) s4 s2 ∧ gW W3 g s2 ∧ W3.1 90 37 = s2.1 ∧ s2.2.2.2.1 = x ∧ s2.2.2.2.2.2 = s4.2.2.2.2.2 ∧ s2.2.1 = s4.2.1 ∧ ((s2.2.2.2.2.1 = s4.2.2.2.2.1 ∧ s2.1 = s4.1) ∨ s2.2.2.2.2.1 = (if s4.2.2.2.2.1 = 0 then 0 else 4)) ∧ ¬ gcR (xLk (V.2.1 91) (V.1 90 1) s2.1)) ∨ (0 < r ∧ r ≤ 1000000 ∧ gF (V.2.1 91) (V.1 90 1) s4))) → gJ5 W W3 g u x t r s := by
                  intro W3 r h
                  refine ⟨gBs_o B4 h.1 h.2.1, ?_⟩
                  rcases h.2.2 with ⟨r0, s9, h1, h2, h3, h4, h5, h6, h7, h8⟩ | h2
                  · rw [e4.1, e4.2] at h1 h8
                    refine Or.inr ⟨r0, s9, gP_t hP4 h1, h2, h3, h4, h5.trans (ek4.trans k3), ?_, h8, by rw [h6]; exact p4, n3⟩
                    rcases h7 with z | z
                    · unfold gSc
                      rw [z.1, z.2]
                      rcases hc4 with y | y
                      · exact Or.inl y
                      · exact Or.inr (Or.inl y)
                    · refine Or.inr (Or.inr ?_)
                      rw [z, if_neg (by omega)]
                  · rw [e4.1, e4.2] at h2
                    exact Or.inl ⟨h2.1, h2.2.1, gF_t hP4 h2.2.2⟩
                have m108 : ∀ (W3 : zW) (r : Int), (zFr [(90, 37)] [100, 101] V W3 ∧ zFo g V W3 ∧ ((r = 0 ∧ ∃ s2 : gSt, gP (V.2.1 91) (V.1 90 1) s4 s2 ∧ gW W3 g s2 ∧ W3.1 90 37 = s2.1 ∧ s2.2.2.2.1 = x ∧ s2.2.2.2.2.2 = s4.2.2.2.2.2 ∧ s2.2.1 = s4.2.1 ∧ ((s2.2.2.2.2.1 = s4.2.2.2.2.1 ∧ s2.1 = s4.1) ∨ s2.2.2.2.2.1 = (if s4.2.2.2.2.1 = 0 then 0 else 4)) ∧ ¬ gcR (xLk (V.2.1 91) (V.1 90 1) s2.1)) ∨ (0 < r ∧ r ≤ 1000000 ∧ gF (V.2.1 91) (V.1 90 1) s4))) → r = 0 → W.1 90 1 - W3.1 90 37 < (m : Nat) := by
                  intro W3 r h r0
                  rcases h.2.2 with ⟨_, s9, h1, h2, h3, _⟩ | h2
                  · rw [e4.1, e4.2] at h1
                    have a := (gI_p hQ4.1 h1).2.1
                    have b := hQ4.2.1
                    omega
                  · omega
                exact zp_MTrl0_104 (by omega) hn ⟨s4, ⟨hw, et, n1, eb⟩, fun r108 W108 hr108 => (ih113 _ W108 _ _ _ _ (j108 W108 r108 hr108) (fun z => m108 W108 r108 hr108 z) (by omega))⟩
              exact zp_MTrl0_85 (by omega) hn ⟨s3, ⟨hw, et, es2, em, eb⟩, fun r89 W89 hr89 => ⟨fun c96 => (h104 W89 hr89 (by omega) _ _ (by omega)), fun c96 => (ih113 _ W89 _ _ _ _ (j89 W89 r89 hr89 (by omega)) (fun z => by omega) (by omega))⟩⟩
            exact zp_MTrl0_59 (by omega) hn ⟨s1, ⟨hw, et, hA, hd6⟩, fun r63 W63 hr63 => ⟨fun c70 => (h85 W63 r63 hr63 (by omega) _ _ (by omega)), fun c70 => ⟨(by have := hr63.2.2; omega), (b76 W63 r63 hr63 (by omega))⟩⟩⟩
          exact zp_MTrl0_38 (by omega) hn ⟨pre42, fun W42 hr42 => ⟨(zTp_fr hr42.2 hw.2.1), fun r46 W46 hr46 => ⟨fun c53 => (h59 W42 W46 r46 hr42 hr46 (by omega) _ _ _ (by omega)), fun c53 => (b58 W42 W46 r46 hr42 hr46 (by omega))⟩⟩⟩
        exact zp_MTrl0_3 (by omega) hn ⟨hw.2.1, fun W4 hr4 => ⟨fun c8 => ⟨hr4.2.1, fun r22 hr22 => ⟨fun c27 => (by first | (exfalso; omega) | exact h38 W4 hr4 (fun z => by obtain ⟨_, r, r0, hr⟩ := z; have z := zRh_x (gBs_f hI.1 hr4.1) hr12; rw [ate W4 hr4] at z; have := xRh_u z hr; omega) (fun _ _ => List.length_eq_zero_iff.mp (by omega)) _ (by omega)), fun c27 => ⟨fun c33 => (by first | (exfalso; omega) | exact h38 W4 hr4 (fun z => by obtain ⟨_, r, r0, hr⟩ := z; have z := zRh_x (gBs_f hI.1 hr4.1) hr12; rw [ate W4 hr4] at z; have := xRh_u z hr; omega) (fun _ _ => List.length_eq_zero_iff.mp (by omega)) _ (by omega)), fun c33 => (by first | (exfalso; omega) | exact ret W4 hr4 (Or.inl ⟨rfl, r12, by omega, by have z := zRh_x (gBs_f hI.1 hr4.1) hr12; rw [ate W4 hr4] at z; exact z⟩))⟩⟩⟩, fun c8 => ⟨hr4.2.1, fun r12 hr12 => ⟨fun c15 => (by first | (exfalso; omega) | exact h38 W4 hr4 (fun z => by obtain ⟨_, r, r0, hr⟩ := z; have z := zRh_x (gBs_f hI.1 hr4.1) hr12; rw [ate W4 hr4] at z; have := xRh_u z hr; omega) (fun _ _ => List.length_eq_zero_iff.mp (by omega)) _ (by omega)), fun c15 => (by first | (exfalso; omega) | exact ret W4 hr4 (Or.inl ⟨rfl, r12, by omega, by have z := zRh_x (gBs_f hI.1 hr4.1) hr12; rw [ate W4 hr4] at z; exact z⟩))⟩⟩⟩⟩
      refine ⟨h3, ?_⟩
      intro K V t y x b hJ hm hK
      have j5 : ∀ V, gJ5 W V g u t b y s → y = 0 → gBs W V g ∧ ∃ s1 : gSt, gP (W.2.1 91) (W.1 90 1) s s1 ∧ gW V g s1 ∧ V.1 90 37 = s1.1 ∧ s1.2.2.2.1 = t ∧ s1.2.2.2.2.2 = s.2.2.2.2.2 ∧ gSc (W.2.1 91) (W.1 90 1) s1 ∧ ¬ gcR (xLk (W.2.1 91) (W.1 90 1) s1.1) ∧ s1.2.1.2.2.1 t = b ∧ ¬ t = u := fun V h y0 => ⟨h.1, (h.2.resolve_left (fun z => by have := z.1; omega)).2⟩
      have y0 : 0 ≤ y := by rcases hJ.2 with h | h <;> omega
      have tq : ∀ V, gJ5 W V g u t b y s → y = 0 → zTp V := fun V h y0 => by obtain ⟨_, s1, _, hw, _⟩ := j5 V h y0; exact hw.2.1
      have tpV : ∀ V, gJ5 W V g u t b y s → y = 0 → 0 ≤ V.1 90 37 ∧ V.1 90 37 ≤ 65536 := fun V h y0 => by have z := tq V h y0; have := z.1; have := z.2.1; omega
      have b231 : 0 < y → po (some (.inl y)) V := fun _ => hp _ _ ⟨hJ.1.1, hJ.1.2, Or.inr (hJ.2.resolve_right (fun z => by have := z.1; omega))⟩
      have j3 : ∀ V, gJ5 W V g u t b y s → y = 0 → ¬ zLk V (V.1 90 37) = 40 → gJ3 W V g u t s := by
        intro V h y0 h40
        obtain ⟨hB, s1, hP, hw, ea, et, ek, hs, hr, eb, ntu⟩ := j5 V h y0
        rw [gLk hB.1, ea] at h40
        refine ⟨hB, s1, hP, hw, ?_, et, ek, Or.inr ⟨by rw [et]; exact ntu, hs, hr, h40⟩⟩
        show xBs (V.2.1 91) (V.1 90 1) (V.1 90 37) s1.1
        rw [(gBs_x hB).1, (gBs_x hB).2, ea]
        exact gB_p hB0 hP
      have j139 : ∀ U, zFr [(90, 37)] [] V U → y = 0 → zLk V (V.1 90 37) = 40 → ∀ r : Int, op = 6 ∧ 0 < r ∧ r ≤ 1000000 → gJ5 W U g u t b r s := by
        intro U hU y0 c40 r hr
        obtain ⟨hB, s1, hP, hw, ea, et, ek, hs, _, eb, ntu⟩ := j5 V hJ y0
        have e40 : xLk (W.2.1 91) (W.1 90 1) s1.1 = 40 := by rw [← ea, ← gLk hB.1]; exact c40
        have hx := xLk_i (X := W.2.1 91) (N := W.1 90 1) (p := s1.1) (by omega)
        have hst : ¬ s1.2.2.2.2.1 = 0 ∧ ¬ s1.2.2.2.2.1 = 1 := by unfold gSc at hs; omega
        exact ⟨gBs_f hB hU, Or.inl ⟨hr.2.1, hr.2.2, gF_1 hP (Or.inr (Or.inr (Or.inl ⟨Or.inl e40, Or.inr ⟨hst, Or.inl ⟨by omega, Or.inl ⟨by rw [ek]; omega, rfl⟩⟩⟩⟩)))⟩⟩
      have h168 : ∀ V', V' = zuF V 90 37 (V.1 90 37 + 1) → y = 0 → zLk V (V.1 90 37) = 40 → ∀ (K : Nat), 1000 * m + 1200 ≤ K → zwp jtb zsh n zm_MTrl0 po K (lGo ak_ZMTrl0 168) 168 [some (.inr (.inr (some (.inl 90)))), some (.inl g), some (.inl u), some (.inl op), some (.inl (t)), some (.inl (0)), some (.inl (x)), some (.inl (b))] [] V' := by
        intro V' eV y0 c40 K hK
        obtain ⟨hB, s1, hP, hw, ea, et, ek, hs, hr, eb, ntu⟩ := j5 V hJ y0
        have e40 : xLk (W.2.1 91) (W.1 90 1) s1.1 = 40 := by rw [← ea, ← gLk hB.1]; exact c40
        have hx := xLk_i (X := W.2.1 91) (N := W.1 90 1) (p := s1.1) (by omega)
        have e1 := gBs_x hB
        obtain ⟨q, hq'⟩ := xBs_x (X := W.2.1 91) (N := W.1 90 1) (p := s1.1 + 1) (by omega)
        have hst : ¬ s1.2.2.2.2.1 = 0 ∧ ¬ s1.2.2.2.2.1 = 1 := by unfold gSc at hs; omega
        have hl : (s1.2.2.2.2.2.length : Int) = 0 := by rw [ek]; exact elen
        have hG : gS (W.2.1 91) (W.1 90 1) s1 (some (q, s1.2.1, s1.2.2.1, s1.2.1.2.2.1 s1.2.2.2.1, 1, s1.2.2.2.1 :: s1.2.2.2.2.2)) := Or.inr (Or.inr (Or.inl ⟨Or.inl e40, Or.inr ⟨hst, Or.inl ⟨by omega, Or.inr ⟨by omega, q, hq', rfl⟩⟩⟩⟩))
        have hP6 := gP_1 hP hG
        have hI1 := (gI_p hI0 hP).1
        have hI6 := gI_s hI1 hG
        have fV : zFr [(90, 37)] [] V V' := by rw [eV]; exact zFr_F zFr_0 (by decide)
        have tV : zTp V' := by rw [eV]; exact zTp_n hw.2.1 (by omega)
        have aV : V'.1 90 37 = s1.1 + 1 := by rw [eV, zuF_1, if_pos ⟨rfl, rfl⟩, ea]
        have eb' : s1.2.1.2.2.1 s1.2.2.2.1 = b := by rw [et]; exact eb
        generalize es6 : ((q, s1.2.1, s1.2.2.1, s1.2.1.2.2.1 s1.2.2.2.1, 1, s1.2.2.2.1 :: s1.2.2.2.2.2) : gSt) = s6 at hG hP6 hI6
        have s6a : s6.1 = q := by rw [← es6]
        have s6t : s6.2.2.2.1 = b := by rw [← es6]; exact eb'
        have s6k : s6.2.2.2.2.2 = t :: s.2.2.2.2.2 := by rw [← es6, ← ek, ← et]
        have s6w : gW V' g s6 := by
          have z := gW_fr fV (by decide) (by decide) tV hw
          have y := hI6.1.2.1
          rw [← es6] at y ⊢
          exact ⟨z.1, z.2.1, z.2.2.1, z.2.2.2.1, y, z.2.2.2.2.2⟩
        have s6b : zBn V' (V'.1 90 37) s6.1 := by
          show xBs (V'.2.1 91) (V'.1 90 1) (V'.1 90 37) s6.1
          rw [zFr_r fV 91, zFr_f fV 90 1, e1.1, e1.2, aV, s6a]
          exact hq'
        have s6g : s6.2.2.2.2.1 = 1 := by rw [← es6]
        have s6p : s6.2.1 = s1.2.1 := by rw [← es6]
        have pre175 : gLp V' g b 1 s6 := ⟨s6w, hI6.1, s6t, by rw [s6k]; show ((s.2.2.2.2.2.length + 1 : Nat) : Int) = _; omega, by rw [s6g]; rfl, s6b, fun z => by omega⟩
        have e6 : V'.2.1 91 = W.2.1 91 ∧ V'.1 90 1 = W.1 90 1 := ⟨by rw [zFr_r fV 91]; exact e1.1, by rw [zFr_f fV 90 1]; exact e1.2⟩
        have B6 : gBs W V' g := gBs_f hB fV
        have t1 : 1 ≤ t ∧ t ≤ s1.2.1.2.1 := by
          have y := hI6.1.2.2.2.2.1
          rw [s6k, s6p] at y
          exact y.1.1
        have bn175 : ∀ (U : zW) (r : Int), gLq V' U g 1 r s6 → (0 ≤ U.1 90 37 ∧ U.1 90 37 ≤ 65536) ∨ 0 < r := by
          intro U r hr
          rcases hr.2.2 with ⟨_, s2, _, h2, _⟩ | h2
          · left; have := h2.2.1.1; have := h2.2.1.2.1; omega
          · right; exact h2.1
        have j175 : ∀ (U : zW) (r : Int), gLq V' U g 1 r s6 → 0 < r → ∀ U', zFr [(90, 37)] [] U U' → gJ5 W U' g u t b r s := by
          intro U r hr r0 U' hU'
          refine ⟨gBs_f (gBs_o B6 hr.1 hr.2.1) hU', Or.inl ?_⟩
          rcases hr.2.2 with h2 | h2
          · omega
          · rw [e6.1, e6.2] at h2
            exact ⟨h2.1, h2.2.1, gF_t hP6 h2.2.2⟩
        have h212 : ∀ (U : zW) (r : Int), gLq V' U g 1 r s6 → r ≤ 0 → ∀ (y : Int) (U' : zW), U' = zuF U 90 37 (U.1 90 37 + 1) → ∀ (K : Nat), 1000 * m + 1000 ≤ K → zwp jtb zsh n zm_MTrl0 po K (lGo ak_ZMTrl0 212) 212 [some (.inr (.inr (some (.inl 90)))), some (.inl g), some (.inl u), some (.inl op), some (.inl (t)), some (.inl (y)), some (.inl (x)), some (.inl (b))] [] U' := by
          intro U r hr r0 y U' eU K hK
          obtain ⟨_, s7, hP7, hw7, ea7, ek7, hE7⟩ := hr.2.2.resolve_right (fun z => by omega)
          rw [e6.1, e6.2] at hP7 hE7
          have hE7 := hE7.resolve_left (fun z => by have := z.1; omega)
          have hP7' := gP_t hP6 hP7
          have hx7 := xLk_i (X := W.2.1 91) (N := W.1 90 1) (p := s7.1) (by omega)
          obtain ⟨q7, hq7⟩ := xBs_x (X := W.2.1 91) (N := W.1 90 1) (p := s7.1 + 1) (by omega)
          have hG7 : gS (W.2.1 91) (W.1 90 1) s7 (some (q7, s7.2.1, s7.2.2.1, t, 4, s.2.2.2.2.2)) := Or.inr (Or.inr (Or.inl ⟨Or.inr hE7.2.1, Or.inr ⟨hE7.2.2, Or.inr ⟨by omega, Or.inr ⟨t, s.2.2.2.2.2, by rw [ek7, s6k], q7, hq7, rfl⟩⟩⟩⟩))
          have hI7 := (gI_p hI6.1 hP7)
          have hI8 := gI_s hI7.1 hG7
          have hP8 := gP_1 hP7' hG7
          have B7 := gBs_o B6 hr.1 hr.2.1
          have e7 := gBs_x B7
          have fU : zFr [(90, 37)] [] U U' := by rw [eU]; exact zFr_F zFr_0 (by decide)
          have tU : zTp U' := by rw [eU]; exact zTp_n hw7.2.1 (by omega)
          have aU : U'.1 90 37 = s7.1 + 1 := by rw [eU, zuF_1, if_pos ⟨rfl, rfl⟩, ea7]
          generalize es8 : ((q7, s7.2.1, s7.2.2.1, t, 4, s.2.2.2.2.2) : gSt) = s8 at hG7 hI8 hP8
          have et : s8.2.2.2.1 = t := by rw [← es8]
          have hw : gW U' g s8 := by
            have z := gW_fr fU (by decide) (by decide) tU hw7
            have y := hI8.1.2.1
            rw [← es8] at y ⊢
            exact ⟨z.1, z.2.1, z.2.2.1, z.2.2.2.1, y, z.2.2.2.2.2⟩
          have B8 := gBs_f B7 fU
          have e8 := gBs_x B8
          have eb8 : zBn U' (U'.1 90 37) s8.1 := by
            show xBs (U'.2.1 91) (U'.1 90 1) (U'.1 90 37) s8.1
            rw [e8.1, e8.2, aU, ← es8]
            exact hq7
          have g8 : s8.2.2.2.2.1 = 4 := by rw [← es8]
          have k8 : s8.2.2.2.2.2 = s.2.2.2.2.2 := by rw [← es8]
          have p8 : s8.2.1 = s7.2.1 := by rw [← es8]
          have pb : s8.2.1.2.2.1 t = b := by
            rw [p8, (hI7.2.2.2.2 t t1.1 (by rw [s6p]; exact t1.2)).1, s6p]
            exact eb
          have lt8 : s1.1 < s8.1 := by
            have a := hI6.2.2.1
            have b := hI7.2.1
            have c := hI8.2.2.1
            omega
          have j216 : ∀ (W3 : zW) (r : Int), (zFr [(90, 37)] [100, 101] U' W3 ∧ zFo g U' W3 ∧ ((r = 0 ∧ ∃ s2 : gSt, gP (U'.2.1 91) (U'.1 90 1) s8 s2 ∧ gW W3 g s2 ∧ W3.1 90 37 = s2.1 ∧ s2.2.2.2.1 = t ∧ s2.2.2.2.2.2 = s8.2.2.2.2.2 ∧ s2.2.1 = s8.2.1 ∧ ((s2.2.2.2.2.1 = s8.2.2.2.2.1 ∧ s2.1 = s8.1) ∨ s2.2.2.2.2.1 = (if s8.2.2.2.2.1 = 0 then 0 else 4)) ∧ ¬ gcR (xLk (U'.2.1 91) (U'.1 90 1) s2.1)) ∨ (0 < r ∧ r ≤ 1000000 ∧ gF (U'.2.1 91) (U'.1 90 1) s8))) → gJ5 W W3 g u t b r s := by
            intro W3 r h
            refine ⟨gBs_o B8 h.1 h.2.1, ?_⟩
            rcases h.2.2 with ⟨r0, s9, h1, h2, h3, h4, h5, h6, h7, h8⟩ | h2
            · rw [e8.1, e8.2] at h1 h8
              refine Or.inr ⟨r0, s9, gP_t hP8 h1, h2, h3, h4, h5.trans k8, Or.inr (Or.inr ?_), h8, by rw [h6]; exact pb, ntu⟩
              rcases h7 with z | z
              · exact z.1.trans g8
              · rw [z, g8]; rfl
            · rw [e8.1, e8.2] at h2
              exact Or.inl ⟨h2.1, h2.2.1, gF_t hP8 h2.2.2⟩
          have m216 : ∀ (W3 : zW) (r : Int), (zFr [(90, 37)] [100, 101] U' W3 ∧ zFo g U' W3 ∧ ((r = 0 ∧ ∃ s2 : gSt, gP (U'.2.1 91) (U'.1 90 1) s8 s2 ∧ gW W3 g s2 ∧ W3.1 90 37 = s2.1 ∧ s2.2.2.2.1 = t ∧ s2.2.2.2.2.2 = s8.2.2.2.2.2 ∧ s2.2.1 = s8.2.1 ∧ ((s2.2.2.2.2.1 = s8.2.2.2.2.1 ∧ s2.1 = s8.1) ∨ s2.2.2.2.2.1 = (if s8.2.2.2.2.1 = 0 then 0 else 4)) ∧ ¬ gcR (xLk (U'.2.1 91) (U'.1 90 1) s2.1)) ∨ (0 < r ∧ r ≤ 1000000 ∧ gF (U'.2.1 91) (U'.1 90 1) s8))) → r = 0 → W.1 90 1 - W3.1 90 37 < (m : Nat) := by
            intro W3 r h r0
            rcases h.2.2 with ⟨_, s9, h1, h2, h3, _⟩ | h2
            · rw [e8.1, e8.2] at h1
              have a := (gI_p hI8.1 h1).2.1
              have := hm y0
              omega
            · omega
          have eb := eb8
          have es2 := g8
          exact zp_MTrl0_212 (by omega) hn ⟨s8, ⟨hw, et, (by omega), eb⟩, fun r216 W216 hr216 => (ih113 _ W216 _ _ _ _ (j216 W216 r216 hr216) (fun z => m216 W216 r216 hr216 z) (by omega))⟩
        exact zp_MTrl0_168 (by omega) hn ⟨(by omega), ⟨s6, ⟨by omega, pre175⟩, fun r175 W175 hr175 => ⟨fun c183 => ⟨(by have := bn175 W175 r175 hr175; omega), ⟨fun c204 => (by first | (exfalso; omega) | exact h212 W175 r175 hr175 (by omega) _ _ rfl _ (by omega)), fun c204 => (by first | (exfalso; omega) | exact ih113 _ _ _ _ _ _ (j175 W175 r175 hr175 (by omega) _ (zFr_F (zFr_0 (Fs := [(90, 37)]) (Rs := [])) (by decide))) (fun z => by omega) (by omega))⟩⟩, fun c183 => ⟨fun c204 => (by first | (exfalso; omega) | exact h212 W175 r175 hr175 (by omega) _ _ rfl _ (by omega)), fun c204 => (by first | (exfalso; omega) | exact ih113 _ _ _ _ _ _ (j175 W175 r175 hr175 (by omega) _ (zFr_F (zFr_0 (Fs := [(90, 37)]) (Rs := [])) (by decide))) (fun z => by omega) (by omega))⟩⟩⟩⟩
      exact zp_MTrl0_113 (by omega) hn ⟨fun c115 => ⟨fun c226 => (by first | (exfalso; omega) | (exfalso; have := tpV V hJ (by omega); omega) | exact h3 _ V _ _ _ _ (j3 V hJ (by omega) (by omega)) (hm (by omega)) (by omega)), fun c226 => (b231 (by omega))⟩, fun c115 => ⟨(tq V hJ (by omega)), fun r119 hr119 => ⟨fun c124 => ⟨fun c226 => (by first | (exfalso; omega) | (exfalso; have := tpV V hJ (by omega); omega) | exact h3 _ V _ _ _ _ (j3 V hJ (by omega) (by omega)) (hm (by omega)) (by omega)), fun c226 => (b231 (by omega))⟩, fun c124 => ⟨fun c130 => ⟨(by have := tpV V hJ (by omega); omega), (by first | (exfalso; omega) | (exfalso; have := tpV V hJ (by omega); omega) | exact h168 _ rfl (by omega) (by omega) _ (by omega))⟩, fun c130 => ⟨(by have := tpV V hJ (by omega); omega), fun r139 hr139 => ⟨(by have := tpV V hJ (by omega); omega), ⟨fun c160 => (by first | (exfalso; omega) | (exfalso; have := tpV V hJ (by omega); omega) | exact h168 _ rfl (by omega) (by omega) _ (by omega)), fun c160 => ⟨fun c183 => ⟨(by have := tpV V hJ (by omega); omega), ⟨fun c204 => (by first | (exfalso; omega) | (exfalso; have := tpV V hJ (by omega); omega) | exact ih113 _ _ _ _ _ _ (j139 _ (zFr_F (zFr_F (zFr_0 (Fs := [(90, 37)]) (Rs := [])) (by decide)) (by decide)) (by omega) (by omega) r139 (by have := tpV V hJ (by omega); omega)) (fun z => by omega) (by omega)), fun c204 => (by first | (exfalso; omega) | (exfalso; have := tpV V hJ (by omega); omega) | exact ih113 _ _ _ _ _ _ (j139 _ (zFr_F (zFr_F (zFr_0 (Fs := [(90, 37)]) (Rs := [])) (by decide)) (by decide)) (by omega) (by omega) r139 (by have := tpV V hJ (by omega); omega)) (fun z => by omega) (by omega))⟩⟩, fun c183 => ⟨fun c204 => (by first | (exfalso; omega) | (exfalso; have := tpV V hJ (by omega); omega) | exact ih113 _ _ _ _ _ _ (j139 _ (zFr_F (zFr_F (zFr_0 (Fs := [(90, 37)]) (Rs := [])) (by decide)) (by decide)) (by omega) (by omega) r139 (by have := tpV V hJ (by omega); omega)) (fun z => by omega) (by omega)), fun c204 => (by first | (exfalso; omega) | (exfalso; have := tpV V hJ (by omega); omega) | exact ih113 _ _ _ _ _ _ (j139 _ (zFr_F (zFr_F (zFr_0 (Fs := [(90, 37)]) (Rs := [])) (by decide)) (by decide)) (by omega) (by omega) r139 (by have := tpV V hJ (by omega); omega)) (fun z => by omega) (by omega))⟩⟩⟩⟩⟩⟩⟩⟩⟩
  exact zp_MTrl0_0 (by omega) hn ((main 65537).1 _ W _ _ _ _ i0 (by have := hq.2.1.2.1.1; have := hq.2.1.2.1.2.1; omega) (by omega))
