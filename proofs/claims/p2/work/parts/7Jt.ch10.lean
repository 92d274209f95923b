/-! Endings.build: what comes before the check -/
def kk_EN_build_0 : List jI := [(.aload_n 0, 1, (0, 0, 0, 0, 0)), (.iload_n 1, 1, (1, 0, 0, 0, 0)), (.putfield 82, 3, (8, 9, 585, 0, 0)), (.aload_n 0, 1, (0, 0, 0, 0, 0)), (.iload_n 1, 1, (1, 0, 0, 0, 0)), (.iconst 1, 1, (0, 0, 0, 1, 0)), (.if_icmp .ne 8, 3, (16, 0, 0, 0, 0)), (.bipush 24, 2, (0, 0, 0, 24, 0)), (.goto 7, 3, (20, 0, 0, 0, 0)), (.getstatic 85, 3, (7, 0, 1816, 0, 0)), (.arraylength, 1, (0, 0, 0, 0, 0)), (.sipush 8192, 3, (0, 0, 0, 8192, 0)), (.imul, 1, (0, 0, 0, 0, 0)), (.newarray .byte, 2, (0, 0, 0, 0, 0)), (.putfield 88, 3, (8, 6, 582, 3, 0)), (.aload_n 0, 1, (0, 0, 0, 0, 0)), (.getfield 15, 3, (8, 7, 583, 0, 0)), (.arraylength, 1, (0, 0, 0, 0, 0)), (.aload_n 0, 1, (0, 0, 0, 0, 0)), (.getfield 88, 3, (8, 6, 582, 0, 0)), (.arraylength, 1, (0, 0, 0, 0, 0)), (.if_icmp .ge 14, 3, (53, 0, 0, 0, 0)), (.aload_n 0, 1, (0, 0, 0, 0, 0)), (.aload_n 0, 1, (0, 0, 0, 0, 0)), (.getfield 88, 3, (8, 6, 582, 0, 0)), (.arraylength, 1, (0, 0, 0, 0, 0)), (.newarray .int, 2, (0, 0, 0, 0, 0)), (.putfield 15, 3, (8, 7, 583, 3, 0)), (.aload_n 0, 1, (0, 0, 0, 0, 0)), (.iconst 0, 1, (0, 0, 0, 0, 0)), (.putfield 91, 3, (8, 8, 584, 0, 0)), (.aload_n 0, 1, (0, 0, 0, 0, 0)), (.invokevirtual 94, 3, (0, 0, 0, 0, 0)), (.iconst 0, 1, (0, 0, 0, 0, 0)), (.istore_n 2, 1, (2, 0, 0, 0, 0)), (.iconst 0, 1, (0, 0, 0, 0, 0)), (.istore_n 3, 1, (3, 0, 0, 0, 0)), (.iload_n 3, 1, (3, 0, 0, 0, 0)), (.bipush 120, 2, (0, 0, 0, 120, 0)), (.if_icmp .ge 165, 3, (234, 0, 0, 0, 0)), (.iload_n 1, 1, (1, 0, 0, 0, 0)), (.iconst 1, 1, (0, 0, 0, 1, 0)), (.if_icmp .ne 8, 3, (82, 0, 0, 0, 0)), (.aload_n 0, 1, (0, 0, 0, 0, 0)), (.iload_n 3, 1, (3, 0, 0, 0, 0)), (.invokevirtual 97, 3, (0, 0, 0, 0, 0)), (.aload_n 0, 1, (0, 0, 0, 0, 0)), (.getfield 91, 3, (8, 8, 584, 0, 0)), (.istore 4, 2, (4, 0, 0, 0, 0)), (.iload_n 2, 1, (2, 0, 0, 0, 0)), (.iload 4, 2, (4, 0, 0, 0, 0)), (.if_icmp .ge 137, 3, (228, 0, 0, 0, 0)), (.aload_n 0, 1, (0, 0, 0, 0, 0)), (.getfield 15, 3, (8, 7, 583, 0, 0)), (.iload_n 2, 1, (2, 0, 0, 0, 0)), (.iaload, 1, (0, 0, 0, 0, 0)), (.istore 5, 2, (5, 0, 0, 0, 0)), (.iload 5, 2, (5, 0, 0, 0, 0)), (.bipush 13, 2, (0, 0, 0, 13, 0)), (.ishr, 1, (0, 0, 0, 0, 0)), (.istore 6, 2, (6, 0, 0, 0, 0)), (.iload 5, 2, (5, 0, 0, 0, 0)), (.iconst 1, 1, (0, 0, 0, 1, 0)), (.ishr, 1, (0, 0, 0, 0, 0)), (.bipush 63, 2, (0, 0, 0, 63, 0)), (.iand, 1, (0, 0, 0, 0, 0)), (.istore 7, 2, (7, 0, 0, 0, 0)), (.iload 5, 2, (5, 0, 0, 0, 0)), (.bipush 7, 2, (0, 0, 0, 7, 0)), (.ishr, 1, (0, 0, 0, 0, 0)), (.bipush 63, 2, (0, 0, 0, 63, 0)), (.iand, 1, (0, 0, 0, 0, 0)), (.istore 8, 2, (8, 0, 0, 0, 0)), (.iload_n 1, 1, (1, 0, 0, 0, 0)), (.iconst 1, 1, (0, 0, 0, 1, 0)), (.if_icmp .ne 21, 3, (151, 0, 0, 0, 0)), (.iload 6, 2, (6, 0, 0, 0, 0)), (.iconst 2, 1, (0, 0, 0, 2, 0)), (.ishr, 1, (0, 0, 0, 0, 0)), (.bipush 8, 2, (0, 0, 0, 8, 0)), (.imul, 1, (0, 0, 0, 0, 0)), (.bipush 8, 2, (0, 0, 0, 8, 0)), (.iadd, 1, (0, 0, 0, 0, 0)), (.iload 6, 2, (6, 0, 0, 0, 0)), (.iconst 3, 1, (0, 0, 0, 3, 0)), (.iand, 1, (0, 0, 0, 0, 0)), (.iadd, 1, (0, 0, 0, 0, 0)), (.goto 5, 3, (153, 0, 0, 0, 0)), (.iload 7, 2, (7, 0, 0, 0, 0)), (.istore 9, 2, (9, 0, 0, 0, 0)), (.iload_n 1, 1, (1, 0, 0, 0, 0)), (.iconst 1, 1, (0, 0, 0, 1, 0)), (.if_icmp .ne 8, 3, (165, 0, 0, 0, 0)), (.iload 7, 2, (7, 0, 0, 0, 0)), (.goto 9, 3, (171, 0, 0, 0, 0)), (.getstatic 85, 3, (7, 0, 1816, 0, 0)), (.iload 6, 2, (6, 0, 0, 0, 0)), (.iaload, 1, (0, 0, 0, 0, 0)), (.istore 10, 2, (10, 0, 0, 0, 0)), (.iload 5, 2, (5, 0, 0, 0, 0)), (.iconst 1, 1, (0, 0, 0, 1, 0)), (.iand, 1, (0, 0, 0, 0, 0)), (.ifCond .ne 19, 3, (196, 0, 0, 0, 0)), (.aload_n 0, 1, (0, 0, 0, 0, 0)), (.iload 8, 2, (8, 0, 0, 0, 0)), (.iload 9, 2, (9, 0, 0, 0, 0)), (.iload 10, 2, (10, 0, 0, 0, 0)), (.iload_n 3, 1, (3, 0, 0, 0, 0)), (.iconst 1, 1, (0, 0, 0, 1, 0)), (.iadd, 1, (0, 0, 0, 0, 0)), (.invokevirtual 101, 3, (0, 0, 0, 0, 0))]
theorem oo_EN_build_0 : jokL "ChessHouse$Endings" lw_tbl jcl jtb 11 false prog_6_method_8_code 0 kk_EN_build_0 = true := jokLF_ok (fun _ _ => jtF_ok) lo_EN (by decide +kernel)
def kk_EN_build_193 : List jI := [(.goto 29, 3, (222, 0, 0, 0, 0)), (.aload_n 0, 1, (0, 0, 0, 0, 0)), (.iload 8, 2, (8, 0, 0, 0, 0)), (.iload 9, 2, (9, 0, 0, 0, 0)), (.iload 10, 2, (10, 0, 0, 0, 0)), (.iload_n 3, 1, (3, 0, 0, 0, 0)), (.iconst 1, 1, (0, 0, 0, 1, 0)), (.iadd, 1, (0, 0, 0, 0, 0)), (.invokevirtual 105, 3, (0, 0, 0, 0, 0)), (.aload_n 0, 1, (0, 0, 0, 0, 0)), (.iload 8, 2, (8, 0, 0, 0, 0)), (.iload 9, 2, (9, 0, 0, 0, 0)), (.iload 10, 2, (10, 0, 0, 0, 0)), (.iload_n 3, 1, (3, 0, 0, 0, 0)), (.iconst 1, 1, (0, 0, 0, 1, 0)), (.iadd, 1, (0, 0, 0, 0, 0)), (.invokevirtual 108, 3, (0, 0, 0, 0, 0)), (.iinc 2 1, 3, (0, 0, 0, 1, 0)), (.goto (-137), 3, (88, 0, 0, 0, 0)), (.iinc 3 1, 3, (0, 0, 0, 1, 0)), (.goto (-165), 3, (66, 0, 0, 0, 0)), (.aload_n 0, 1, (0, 0, 0, 0, 0)), (.getfield 88, 3, (8, 6, 582, 0, 0)), (.areturn, 1, (0, 0, 0, 0, 0))]
theorem oo_EN_build_193 : jokL "ChessHouse$Endings" lw_tbl jcl jtb 11 false prog_6_method_8_code 193 kk_EN_build_193 = true := jokLF_ok (fun _ _ => jtF_ok) lo_EN (by decide +kernel)
def k_EN_build_0 : List jI := [(.aload_n 0, 1, (0, 0, 0, 0, 0)), (.iload_n 1, 1, (1, 0, 0, 0, 0)), (.putfield 82, 3, (8, 9, 585, 0, 0)), (.aload_n 0, 1, (0, 0, 0, 0, 0)), (.iload_n 1, 1, (1, 0, 0, 0, 0)), (.iconst 1, 1, (0, 0, 0, 1, 0)), (.if_icmp .ne 8, 3, (16, 0, 0, 0, 0)), (.bipush 24, 2, (0, 0, 0, 24, 0)), (.goto 7, 3, (20, 0, 0, 0, 0))]
theorem o_EN_build_0 : jokL "ChessHouse$Endings" lw_tbl jcl jtb 11 false prog_6_method_8_code 0 k_EN_build_0 = true := jok_sub oo_EN_build_0 0 9 rfl rfl
def k_EN_build_16 : List jI := [(.getstatic 85, 3, (7, 0, 1816, 0, 0)), (.arraylength, 1, (0, 0, 0, 0, 0))]
theorem o_EN_build_16 : jokL "ChessHouse$Endings" lw_tbl jcl jtb 11 false prog_6_method_8_code 16 k_EN_build_16 = true := jok_sub oo_EN_build_0 9 2 rfl rfl
def k_EN_build_20 : List jI := [(.sipush 8192, 3, (0, 0, 0, 8192, 0)), (.imul, 1, (0, 0, 0, 0, 0))]
theorem o_EN_build_20 : jokL "ChessHouse$Endings" lw_tbl jcl jtb 11 false prog_6_method_8_code 20 k_EN_build_20 = true := jok_sub oo_EN_build_0 11 2 rfl rfl
def k_EN_build_26 : List jI := [(.putfield 88, 3, (8, 6, 582, 3, 0)), (.aload_n 0, 1, (0, 0, 0, 0, 0)), (.getfield 15, 3, (8, 7, 583, 0, 0)), (.arraylength, 1, (0, 0, 0, 0, 0)), (.aload_n 0, 1, (0, 0, 0, 0, 0)), (.getfield 88, 3, (8, 6, 582, 0, 0)), (.arraylength, 1, (0, 0, 0, 0, 0)), (.if_icmp .ge 14, 3, (53, 0, 0, 0, 0)), (.aload_n 0, 1, (0, 0, 0, 0, 0)), (.aload_n 0, 1, (0, 0, 0, 0, 0)), (.getfield 88, 3, (8, 6, 582, 0, 0)), (.arraylength, 1, (0, 0, 0, 0, 0))]
theorem o_EN_build_26 : jokL "ChessHouse$Endings" lw_tbl jcl jtb 11 false prog_6_method_8_code 26 k_EN_build_26 = true := jok_sub oo_EN_build_0 14 12 rfl rfl
def k_EN_build_50 : List jI := [(.putfield 15, 3, (8, 7, 583, 3, 0))]
theorem o_EN_build_50 : jokL "ChessHouse$Endings" lw_tbl jcl jtb 11 false prog_6_method_8_code 50 k_EN_build_50 = true := jok_sub oo_EN_build_0 27 1 rfl rfl
theorem d_EN_build_24 : decode prog_6_method_8_code 24 = .ok (.newarray .byte, 2) := by decide +kernel
theorem d_EN_build_48 : decode prog_6_method_8_code 48 = .ok (.newarray .int, 2) := by decide +kernel

def bdA (σ : Nat → jcell) (en n qr L : Nat) (d b : Int32) (vl v3 v4 v5 v6 : jv) (tl man : Int32) : Nat → jcell := jup (jup (jup σ en (.inr (8, [.inl d, .inl b, vl, v3, v4, v5, v6, .inr (.inr (some (.inl qr))), .inl tl, .inl man]))) n (.inl (.byte, L, .inl fun _ => 0))) en (.inr (8, [.inl d, .inl b, vl, v3, v4, v5, .inr (.inr (some (.inl n))), .inr (.inr (some (.inl qr))), .inl tl, .inl man]))
def bdN (σ : Nat → jcell) (en n qr L : Nat) (d b : Int32) (vl v3 v4 v5 v6 : jv) (tl man : Int32) : Nat → jcell := jup (jup (bdA σ en n qr L d b vl v3 v4 v5 v6 tl man) (n + 1) (.inl (.int, L, .inl fun _ => 0))) en (.inr (8, [.inl d, .inl b, vl, v3, v4, v5, .inr (.inr (some (.inl n))), .inr (.inr (some (.inl (n + 1)))), .inl tl, .inl man]))
set_option maxRecDepth 100000 in
set_option maxHeartbeats 4000000 in
theorem bd_Q5n {E : jE} {M : jM} {Q : State → Prop} {n : Nat} {rm : Room} (X : jX E "ChessHouse$Endings" lw_tbl jcl jtb 11 false prog_6_method_8_code M) (hR : M.2.2.2.1 = rm) (hc1 : 2 ≤ rm.cells) (hc2 : 163840 ≤ rm.slots) {σ : Nat → jcell} {en qr : Nat} {d b tl kd : Int32} {vl v3 v4 v5 v6 : jv} {g : Nat → Int32} (ha : en < n) (hs : σ en = .inr (8, [.inl d, .inl b, vl, v3, v4, v5, v6, .inr (.inr (some (.inl qr))), .inl tl, .inl kd])) (hqr : qr < n) (hne : qr ≠ en) (hqs : σ qr = .inl (.int, 0, .inl g))
    (kk : jJ E jcl 11 M Q (n + 2) 2 163840 53 [some (.inr (.inr (some (.inl en)))), some (.inl 5), none, none, none, none, none, none, none, none, none] [] (bdN σ en n qr 81920 d b vl v3 v4 v5 v6 tl 5)) : jJ E jcl 11 M Q n 0 0 0 [some (.inr (.inr (some (.inl en)))), some (.inl 5), none, none, none, none, none, none, none, none, none] [] σ := by
  have hak : (en < n) = True := eq_true ha
  have hak1 : (en < n + 1) = True := eq_true (by omega)
  have hqr1 : (qr < n + 1) = True := eq_true (by omega)
  have hnn : (n < n + 1) = True := eq_true (by omega)
  have hak2 : (en < n + 1 + 1) = True := eq_true (by omega)
  have hnn2 : (n < n + 1 + 1) = True := eq_true (by omega)
  have hm1 : ((5 : Int32) = 1) = False := eq_false (by decide)
  have hty1 : (FieldType.int ∈ jtys) = True := eq_true (by decide)
  have hty2 : (FieldType.byte ∈ jtys) = True := eq_true (by decide)
  have hq1 : qr ≠ en := hne
  have hq2 : qr ≠ n := by omega
  have hq3 : en ≠ n := by omega
  have hq4 : n ≠ en := by omega
  have hq5 : en ≠ n + 1 := by omega
  refine jrun_ok jC X k_EN_build_0 0 _ _ _ o_EN_build_0 ?_
  simp only [k_EN_build_0, jrun, jstep, jldi, jldl, jlda, j1, j2, jl1, jl2, jli, ja1, jbr, jald, jast, jlald, jlast, jalen, jget, jput, jfit, jdup, jdupx, jdupx2, jdup2, jcat, jset1, jset2, jkill, List.getElem?_cons_zero, List.getElem?_cons_succ, List.set_cons_zero, List.set_cons_succ, List.length_cons, List.length_nil, Nat.reduceAdd, Nat.reduceLT, Int32.reduceToNatClampNeg, true_and, and_true, and_self, reduceCtorEq, not_false_eq_true, false_and, and_false, or_false, false_or, true_or, or_true, hs, hqs, hak, hak1, hqr1, hnn, jup_s, jup_n hq1, jup_n hq2, jup_n hq3, jup_n hq4, false_implies, true_implies, not_true_eq_false, Int32.reduceLT, Int32.reduceLE, Int32.reduceMul, Int32.le_refl, Int32.lt_irrefl, not_false_eq_true, and_true, true_and, hm1, hty1, hty2, Int32.reduceOfNat, Nat.add_one_ne_zero, ne_eq, not_true_eq_false, jtb]
  refine jrun_ok jC X k_EN_build_16 16 _ _ _ o_EN_build_16 ?_
  simp only [k_EN_build_16, jrun, jstep, jldi, jldl, jlda, j1, j2, jl1, jl2, jli, ja1, jbr, jald, jast, jlald, jlast, jalen, jget, jput, jfit, jdup, jdupx, jdupx2, jdup2, jcat, jset1, jset2, jkill, List.getElem?_cons_zero, List.getElem?_cons_succ, List.set_cons_zero, List.set_cons_succ, List.length_cons, List.length_nil, Nat.reduceAdd, Nat.reduceLT, Int32.reduceToNatClampNeg, true_and, and_true, and_self, reduceCtorEq, not_false_eq_true, false_and, and_false, or_false, false_or, true_or, or_true, hs, hqs, hak, hak1, hqr1, hnn, jup_s, jup_n hq1, jup_n hq2, jup_n hq3, jup_n hq4, false_implies, true_implies, not_true_eq_false, Int32.reduceLT, Int32.reduceLE, Int32.reduceMul, Int32.le_refl, Int32.lt_irrefl, not_false_eq_true, and_true, true_and, hm1, hty1, hty2, Int32.reduceOfNat, Nat.add_one_ne_zero, ne_eq, not_true_eq_false, jtb]
  refine jrun_ok jC X k_EN_build_20 20 _ _ _ o_EN_build_20 ?_
  simp only [k_EN_build_20, jrun, jstep, jldi, jldl, jlda, j1, j2, jl1, jl2, jli, ja1, jbr, jald, jast, jlald, jlast, jalen, jget, jput, jfit, jdup, jdupx, jdupx2, jdup2, jcat, jset1, jset2, jkill, List.getElem?_cons_zero, List.getElem?_cons_succ, List.set_cons_zero, List.set_cons_succ, List.length_cons, List.length_nil, Nat.reduceAdd, Nat.reduceLT, Int32.reduceToNatClampNeg, true_and, and_true, and_self, reduceCtorEq, not_false_eq_true, false_and, and_false, or_false, false_or, true_or, or_true, hs, hqs, hak, hak1, hqr1, hnn, jup_s, jup_n hq1, jup_n hq2, jup_n hq3, jup_n hq4, false_implies, true_implies, not_true_eq_false, Int32.reduceLT, Int32.reduceLE, Int32.reduceMul, Int32.le_refl, Int32.lt_irrefl, not_false_eq_true, and_true, true_and, hm1, hty1, hty2, Int32.reduceOfNat, Nat.add_one_ne_zero, ne_eq, not_true_eq_false, jtb]
  refine jk_na X hR d_EN_build_24 (ty := .byte) rfl (w1 := 361) (jtF_ok rfl) (by decide) (by decide) 81920 rfl (by decide) (z := (81920, .inl fun _ => 0)) rfl (n' := n + 1) rfl (c' := 1) rfl (s' := 81920) (Nat.zero_add _) ⟨by omega, by omega⟩ (pc' := 26) rfl ?_
  refine jrun_ok jC X k_EN_build_26 26 _ _ _ o_EN_build_26 ?_
  simp only [k_EN_build_26, jrun, jstep, jldi, jldl, jlda, j1, j2, jl1, jl2, jli, ja1, jbr, jald, jast, jlald, jlast, jalen, jget, jput, jfit, jdup, jdupx, jdupx2, jdup2, jcat, jset1, jset2, jkill, List.getElem?_cons_zero, List.getElem?_cons_succ, List.set_cons_zero, List.set_cons_succ, List.length_cons, List.length_nil, Nat.reduceAdd, Nat.reduceLT, Int32.reduceToNatClampNeg, true_and, and_true, and_self, reduceCtorEq, not_false_eq_true, false_and, and_false, or_false, false_or, true_or, or_true, hs, hqs, hak, hak1, hqr1, hnn, jup_s, jup_n hq1, jup_n hq2, jup_n hq3, jup_n hq4, false_implies, true_implies, not_true_eq_false, Int32.reduceLT, Int32.reduceLE, Int32.reduceMul, Int32.le_refl, Int32.lt_irrefl, not_false_eq_true, and_true, true_and, hm1, hty1, hty2, Int32.reduceOfNat, Nat.add_one_ne_zero, ne_eq, not_true_eq_false, jtb]
  refine jk_na X hR d_EN_build_48 (ty := .int) rfl (w1 := 387) (jtF_ok rfl) (by decide) (by decide) 81920 rfl (by decide) (z := (81920, .inl fun _ => 0)) rfl (n' := n + 2) rfl (c' := 2) rfl (s' := 163840) rfl ⟨by omega, by omega⟩ (pc' := 50) rfl ?_
  refine jrun_ok jC X k_EN_build_50 50 _ _ _ o_EN_build_50 ?_
  simp only [k_EN_build_50, jrun, jstep, jldi, jldl, jlda, j1, j2, jl1, jl2, jli, ja1, jbr, jald, jast, jlald, jlast, jalen, jget, jput, jfit, jdup, jdupx, jdupx2, jdup2, jcat, jset1, jset2, jkill, List.getElem?_cons_zero, List.getElem?_cons_succ, List.set_cons_zero, List.set_cons_succ, List.length_cons, List.length_nil, Nat.reduceAdd, Nat.reduceLT, Int32.reduceToNatClampNeg, true_and, and_true, and_self, reduceCtorEq, not_false_eq_true, false_and, and_false, or_false, false_or, true_or, or_true, hs, hqs, hak, hak1, hqr1, hnn, jup_s, jup_n hq1, jup_n hq2, jup_n hq3, jup_n hq4, false_implies, true_implies, not_true_eq_false, Int32.reduceLT, Int32.reduceLE, Int32.reduceMul, Int32.le_refl, Int32.lt_irrefl, not_false_eq_true, and_true, true_and, hm1, hty1, hty2, Int32.reduceOfNat, Nat.add_one_ne_zero, ne_eq, not_true_eq_false, jtb, jup_n hq5, hak2, hnn2]
  exact kk
set_option maxRecDepth 100000 in
set_option maxHeartbeats 4000000 in
theorem bd_Q4n {E : jE} {M : jM} {Q : State → Prop} {n : Nat} {rm : Room} (X : jX E "ChessHouse$Endings" lw_tbl jcl jtb 11 false prog_6_method_8_code M) (hR : M.2.2.2.1 = rm) (hc1 : 2 ≤ rm.cells) (hc2 : 163840 ≤ rm.slots) {σ : Nat → jcell} {en qr : Nat} {d b tl kd : Int32} {vl v3 v4 v5 v6 : jv} {g : Nat → Int32} (ha : en < n) (hs : σ en = .inr (8, [.inl d, .inl b, vl, v3, v4, v5, v6, .inr (.inr (some (.inl qr))), .inl tl, .inl kd])) (hqr : qr < n) (hne : qr ≠ en) (hqs : σ qr = .inl (.int, 0, .inl g))
    (kk : jJ E jcl 11 M Q (n + 2) 2 163840 53 [some (.inr (.inr (some (.inl en)))), some (.inl 4), none, none, none, none, none, none, none, none, none] [] (bdN σ en n qr 81920 d b vl v3 v4 v5 v6 tl 4)) : jJ E jcl 11 M Q n 0 0 0 [some (.inr (.inr (some (.inl en)))), some (.inl 4), none, none, none, none, none, none, none, none, none] [] σ := by
  have hak : (en < n) = True := eq_true ha
  have hak1 : (en < n + 1) = True := eq_true (by omega)
  have hqr1 : (qr < n + 1) = True := eq_true (by omega)
  have hnn : (n < n + 1) = True := eq_true (by omega)
  have hak2 : (en < n + 1 + 1) = True := eq_true (by omega)
  have hnn2 : (n < n + 1 + 1) = True := eq_true (by omega)
  have hm1 : ((4 : Int32) = 1) = False := eq_false (by decide)
  have hty1 : (FieldType.int ∈ jtys) = True := eq_true (by decide)
  have hty2 : (FieldType.byte ∈ jtys) = True := eq_true (by decide)
  have hq1 : qr ≠ en := hne
  have hq2 : qr ≠ n := by omega
  have hq3 : en ≠ n := by omega
  have hq4 : n ≠ en := by omega
  have hq5 : en ≠ n + 1 := by omega
  refine jrun_ok jC X k_EN_build_0 0 _ _ _ o_EN_build_0 ?_
  simp only [k_EN_build_0, jrun, jstep, jldi, jldl, jlda, j1, j2, jl1, jl2, jli, ja1, jbr, jald, jast, jlald, jlast, jalen, jget, jput, jfit, jdup, jdupx, jdupx2, jdup2, jcat, jset1, jset2, jkill, List.getElem?_cons_zero, List.getElem?_cons_succ, List.set_cons_zero, List.set_cons_succ, List.length_cons, List.length_nil, Nat.reduceAdd, Nat.reduceLT, Int32.reduceToNatClampNeg, true_and, and_true, and_self, reduceCtorEq, not_false_eq_true, false_and, and_false, or_false, false_or, true_or, or_true, hs, hqs, hak, hak1, hqr1, hnn, jup_s, jup_n hq1, jup_n hq2, jup_n hq3, jup_n hq4, false_implies, true_implies, not_true_eq_false, Int32.reduceLT, Int32.reduceLE, Int32.reduceMul, Int32.le_refl, Int32.lt_irrefl, not_false_eq_true, and_true, true_and, hm1, hty1, hty2, Int32.reduceOfNat, Nat.add_one_ne_zero, ne_eq, not_true_eq_false, jtb]
  refine jrun_ok jC X k_EN_build_16 16 _ _ _ o_EN_build_16 ?_
  simp only [k_EN_build_16, jrun, jstep, jldi, jldl, jlda, j1, j2, jl1, jl2, jli, ja1, jbr, jald, jast, jlald, jlast, jalen, jget, jput, jfit, jdup, jdupx, jdupx2, jdup2, jcat, jset1, jset2, jkill, List.getElem?_cons_zero, List.getElem?_cons_succ, List.set_cons_zero, List.set_cons_succ, List.length_cons, List.length_nil, Nat.reduceAdd, Nat.reduceLT, Int32.reduceToNatClampNeg, true_and, and_true, and_self, reduceCtorEq, not_false_eq_true, false_and, and_false, or_false, false_or, true_or, or_true, hs, hqs, hak, hak1, hqr1, hnn, jup_s, jup_n hq1, jup_n hq2, jup_n hq3, jup_n hq4, false_implies, true_implies, not_true_eq_false, Int32.reduceLT, Int32.reduceLE, Int32.reduceMul, Int32.le_refl, Int32.lt_irrefl, not_false_eq_true, and_true, true_and, hm1, hty1, hty2, Int32.reduceOfNat, Nat.add_one_ne_zero, ne_eq, not_true_eq_false, jtb]
  refine jrun_ok jC X k_EN_build_20 20 _ _ _ o_EN_build_20 ?_
  simp only [k_EN_build_20, jrun, jstep, jldi, jldl, jlda, j1, j2, jl1, jl2, jli, ja1, jbr, jald, jast, jlald, jlast, jalen, jget, jput, jfit, jdup, jdupx, jdupx2, jdup2, jcat, jset1, jset2, jkill, List.getElem?_cons_zero, List.getElem?_cons_succ, List.set_cons_zero, List.set_cons_succ, List.length_cons, List.length_nil, Nat.reduceAdd, Nat.reduceLT, Int32.reduceToNatClampNeg, true_and, and_true, and_self, reduceCtorEq, not_false_eq_true, false_and, and_false, or_false, false_or, true_or, or_true, hs, hqs, hak, hak1, hqr1, hnn, jup_s, jup_n hq1, jup_n hq2, jup_n hq3, jup_n hq4, false_implies, true_implies, not_true_eq_false, Int32.reduceLT, Int32.reduceLE, Int32.reduceMul, Int32.le_refl, Int32.lt_irrefl, not_false_eq_true, and_true, true_and, hm1, hty1, hty2, Int32.reduceOfNat, Nat.add_one_ne_zero, ne_eq, not_true_eq_false, jtb]
  refine jk_na X hR d_EN_build_24 (ty := .byte) rfl (w1 := 361) (jtF_ok rfl) (by decide) (by decide) 81920 rfl (by decide) (z := (81920, .inl fun _ => 0)) rfl (n' := n + 1) rfl (c' := 1) rfl (s' := 81920) (Nat.zero_add _) ⟨by omega, by omega⟩ (pc' := 26) rfl ?_
  refine jrun_ok jC X k_EN_build_26 26 _ _ _ o_EN_build_26 ?_
  simp only [k_EN_build_26, jrun, jstep, jldi, jldl, jlda, j1, j2, jl1, jl2, jli, ja1, jbr, jald, jast, jlald, jlast, jalen, jget, jput, jfit, jdup, jdupx, jdupx2, jdup2, jcat, jset1, jset2, jkill, List.getElem?_cons_zero, List.getElem?_cons_succ, List.set_cons_zero, List.set_cons_succ, List.length_cons, List.length_nil, Nat.reduceAdd, Nat.reduceLT, Int32.reduceToNatClampNeg, true_and, and_true, and_self, reduceCtorEq, not_false_eq_true, false_and, and_false, or_false, false_or, true_or, or_true, hs, hqs, hak, hak1, hqr1, hnn, jup_s, jup_n hq1, jup_n hq2, jup_n hq3, jup_n hq4, false_implies, true_implies, not_true_eq_false, Int32.reduceLT, Int32.reduceLE, Int32.reduceMul, Int32.le_refl, Int32.lt_irrefl, not_false_eq_true, and_true, true_and, hm1, hty1, hty2, Int32.reduceOfNat, Nat.add_one_ne_zero, ne_eq, not_true_eq_false, jtb]
  refine jk_na X hR d_EN_build_48 (ty := .int) rfl (w1 := 387) (jtF_ok rfl) (by decide) (by decide) 81920 rfl (by decide) (z := (81920, .inl fun _ => 0)) rfl (n' := n + 2) rfl (c' := 2) rfl (s' := 163840) rfl ⟨by omega, by omega⟩ (pc' := 50) rfl ?_
  refine jrun_ok jC X k_EN_build_50 50 _ _ _ o_EN_build_50 ?_
  simp only [k_EN_build_50, jrun, jstep, jldi, jldl, jlda, j1, j2, jl1, jl2, jli, ja1, jbr, jald, jast, jlald, jlast, jalen, jget, jput, jfit, jdup, jdupx, jdupx2, jdup2, jcat, jset1, jset2, jkill, List.getElem?_cons_zero, List.getElem?_cons_succ, List.set_cons_zero, List.set_cons_succ, List.length_cons, List.length_nil, Nat.reduceAdd, Nat.reduceLT, Int32.reduceToNatClampNeg, true_and, and_true, and_self, reduceCtorEq, not_false_eq_true, false_and, and_false, or_false, false_or, true_or, or_true, hs, hqs, hak, hak1, hqr1, hnn, jup_s, jup_n hq1, jup_n hq2, jup_n hq3, jup_n hq4, false_implies, true_implies, not_true_eq_false, Int32.reduceLT, Int32.reduceLE, Int32.reduceMul, Int32.le_refl, Int32.lt_irrefl, not_false_eq_true, and_true, true_and, hm1, hty1, hty2, Int32.reduceOfNat, Nat.add_one_ne_zero, ne_eq, not_true_eq_false, jtb, jup_n hq5, hak2, hnn2]
  exact kk
set_option maxRecDepth 100000 in
set_option maxHeartbeats 4000000 in
theorem bd_Q5k {E : jE} {M : jM} {Q : State → Prop} {n : Nat} {rm : Room} (X : jX E "ChessHouse$Endings" lw_tbl jcl jtb 11 false prog_6_method_8_code M) (hR : M.2.2.2.1 = rm) (hc1 : 1 ≤ rm.cells) (hc2 : 81920 ≤ rm.slots) {σ : Nat → jcell} {en qr : Nat} {d b tl kd : Int32} {vl v3 v4 v5 v6 : jv} {g : Nat → Int32} (ha : en < n) (hs : σ en = .inr (8, [.inl d, .inl b, vl, v3, v4, v5, v6, .inr (.inr (some (.inl qr))), .inl tl, .inl kd])) (hqr : qr < n) (hne : qr ≠ en) (hqs : σ qr = .inl (.int, 81920, .inl g))
    (kk : jJ E jcl 11 M Q (n + 1) 1 81920 53 [some (.inr (.inr (some (.inl en)))), some (.inl 5), none, none, none, none, none, none, none, none, none] [] (bdA σ en n qr 81920 d b vl v3 v4 v5 v6 tl 5)) : jJ E jcl 11 M Q n 0 0 0 [some (.inr (.inr (some (.inl en)))), some (.inl 5), none, none, none, none, none, none, none, none, none] [] σ := by
  have hak : (en < n) = True := eq_true ha
  have hak1 : (en < n + 1) = True := eq_true (by omega)
  have hqr1 : (qr < n + 1) = True := eq_true (by omega)
  have hnn : (n < n + 1) = True := eq_true (by omega)
  have hak2 : (en < n + 1 + 1) = True := eq_true (by omega)
  have hnn2 : (n < n + 1 + 1) = True := eq_true (by omega)
  have hm1 : ((5 : Int32) = 1) = False := eq_false (by decide)
  have hty1 : (FieldType.int ∈ jtys) = True := eq_true (by decide)
  have hty2 : (FieldType.byte ∈ jtys) = True := eq_true (by decide)
  have hq1 : qr ≠ en := hne
  have hq2 : qr ≠ n := by omega
  have hq3 : en ≠ n := by omega
  have hq4 : n ≠ en := by omega
  have hq5 : en ≠ n + 1 := by omega
  refine jrun_ok jC X k_EN_build_0 0 _ _ _ o_EN_build_0 ?_
  simp only [k_EN_build_0, jrun, jstep, jldi, jldl, jlda, j1, j2, jl1, jl2, jli, ja1, jbr, jald, jast, jlald, jlast, jalen, jget, jput, jfit, jdup, jdupx, jdupx2, jdup2, jcat, jset1, jset2, jkill, List.getElem?_cons_zero, List.getElem?_cons_succ, List.set_cons_zero, List.set_cons_succ, List.length_cons, List.length_nil, Nat.reduceAdd, Nat.reduceLT, Int32.reduceToNatClampNeg, true_and, and_true, and_self, reduceCtorEq, not_false_eq_true, false_and, and_false, or_false, false_or, true_or, or_true, hs, hqs, hak, hak1, hqr1, hnn, jup_s, jup_n hq1, jup_n hq2, jup_n hq3, jup_n hq4, false_implies, true_implies, not_true_eq_false, Int32.reduceLT, Int32.reduceLE, Int32.reduceMul, Int32.le_refl, Int32.lt_irrefl, not_false_eq_true, and_true, true_and, hm1, hty1, hty2, Int32.reduceOfNat, Nat.add_one_ne_zero, ne_eq, not_true_eq_false, jtb]
  refine jrun_ok jC X k_EN_build_16 16 _ _ _ o_EN_build_16 ?_
  simp only [k_EN_build_16, jrun, jstep, jldi, jldl, jlda, j1, j2, jl1, jl2, jli, ja1, jbr, jald, jast, jlald, jlast, jalen, jget, jput, jfit, jdup, jdupx, jdupx2, jdup2, jcat, jset1, jset2, jkill, List.getElem?_cons_zero, List.getElem?_cons_succ, List.set_cons_zero, List.set_cons_succ, List.length_cons, List.length_nil, Nat.reduceAdd, Nat.reduceLT, Int32.reduceToNatClampNeg, true_and, and_true, and_self, reduceCtorEq, not_false_eq_true, false_and, and_false, or_false, false_or, true_or, or_true, hs, hqs, hak, hak1, hqr1, hnn, jup_s, jup_n hq1, jup_n hq2, jup_n hq3, jup_n hq4, false_implies, true_implies, not_true_eq_false, Int32.reduceLT, Int32.reduceLE, Int32.reduceMul, Int32.le_refl, Int32.lt_irrefl, not_false_eq_true, and_true, true_and, hm1, hty1, hty2, Int32.reduceOfNat, Nat.add_one_ne_zero, ne_eq, not_true_eq_false, jtb]
  refine jrun_ok jC X k_EN_build_20 20 _ _ _ o_EN_build_20 ?_
  simp only [k_EN_build_20, jrun, jstep, jldi, jldl, jlda, j1, j2, jl1, jl2, jli, ja1, jbr, jald, jast, jlald, jlast, jalen, jget, jput, jfit, jdup, jdupx, jdupx2, jdup2, jcat, jset1, jset2, jkill, List.getElem?_cons_zero, List.getElem?_cons_succ, List.set_cons_zero, List.set_cons_succ, List.length_cons, List.length_nil, Nat.reduceAdd, Nat.reduceLT, Int32.reduceToNatClampNeg, true_and, and_true, and_self, reduceCtorEq, not_false_eq_true, false_and, and_false, or_false, false_or, true_or, or_true, hs, hqs, hak, hak1, hqr1, hnn, jup_s, jup_n hq1, jup_n hq2, jup_n hq3, jup_n hq4, false_implies, true_implies, not_true_eq_false, Int32.reduceLT, Int32.reduceLE, Int32.reduceMul, Int32.le_refl, Int32.lt_irrefl, not_false_eq_true, and_true, true_and, hm1, hty1, hty2, Int32.reduceOfNat, Nat.add_one_ne_zero, ne_eq, not_true_eq_false, jtb]
  refine jk_na X hR d_EN_build_24 (ty := .byte) rfl (w1 := 361) (jtF_ok rfl) (by decide) (by decide) 81920 rfl (by decide) (z := (81920, .inl fun _ => 0)) rfl (n' := n + 1) rfl (c' := 1) rfl (s' := 81920) (Nat.zero_add _) ⟨by omega, by omega⟩ (pc' := 26) rfl ?_
  refine jrun_ok jC X k_EN_build_26 26 _ _ _ o_EN_build_26 ?_
  simp only [k_EN_build_26, jrun, jstep, jldi, jldl, jlda, j1, j2, jl1, jl2, jli, ja1, jbr, jald, jast, jlald, jlast, jalen, jget, jput, jfit, jdup, jdupx, jdupx2, jdup2, jcat, jset1, jset2, jkill, List.getElem?_cons_zero, List.getElem?_cons_succ, List.set_cons_zero, List.set_cons_succ, List.length_cons, List.length_nil, Nat.reduceAdd, Nat.reduceLT, Int32.reduceToNatClampNeg, true_and, and_true, and_self, reduceCtorEq, not_false_eq_true, false_and, and_false, or_false, false_or, true_or, or_true, hs, hqs, hak, hak1, hqr1, hnn, jup_s, jup_n hq1, jup_n hq2, jup_n hq3, jup_n hq4, false_implies, true_implies, not_true_eq_false, Int32.reduceLT, Int32.reduceLE, Int32.reduceMul, Int32.le_refl, Int32.lt_irrefl, not_false_eq_true, and_true, true_and, hm1, hty1, hty2, Int32.reduceOfNat, Nat.add_one_ne_zero, ne_eq, not_true_eq_false, jtb]
  exact kk
set_option maxRecDepth 100000 in
set_option maxHeartbeats 4000000 in
theorem bd_Q4k {E : jE} {M : jM} {Q : State → Prop} {n : Nat} {rm : Room} (X : jX E "ChessHouse$Endings" lw_tbl jcl jtb 11 false prog_6_method_8_code M) (hR : M.2.2.2.1 = rm) (hc1 : 1 ≤ rm.cells) (hc2 : 81920 ≤ rm.slots) {σ : Nat → jcell} {en qr : Nat} {d b tl kd : Int32} {vl v3 v4 v5 v6 : jv} {g : Nat → Int32} (ha : en < n) (hs : σ en = .inr (8, [.inl d, .inl b, vl, v3, v4, v5, v6, .inr (.inr (some (.inl qr))), .inl tl, .inl kd])) (hqr : qr < n) (hne : qr ≠ en) (hqs : σ qr = .inl (.int, 81920, .inl g))
    (kk : jJ E jcl 11 M Q (n + 1) 1 81920 53 [some (.inr (.inr (some (.inl en)))), some (.inl 4), none, none, none, none, none, none, none, none, none] [] (bdA σ en n qr 81920 d b vl v3 v4 v5 v6 tl 4)) : jJ E jcl 11 M Q n 0 0 0 [some (.inr (.inr (some (.inl en)))), some (.inl 4), none, none, none, none, none, none, none, none, none] [] σ := by
  have hak : (en < n) = True := eq_true ha
  have hak1 : (en < n + 1) = True := eq_true (by omega)
  have hqr1 : (qr < n + 1) = True := eq_true (by omega)
  have hnn : (n < n + 1) = True := eq_true (by omega)
  have hak2 : (en < n + 1 + 1) = True := eq_true (by omega)
  have hnn2 : (n < n + 1 + 1) = True := eq_true (by omega)
  have hm1 : ((4 : Int32) = 1) = False := eq_false (by decide)
  have hty1 : (FieldType.int ∈ jtys) = True := eq_true (by decide)
  have hty2 : (FieldType.byte ∈ jtys) = True := eq_true (by decide)
  have hq1 : qr ≠ en := hne
  have hq2 : qr ≠ n := by omega
  have hq3 : en ≠ n := by omega
  have hq4 : n ≠ en := by omega
  have hq5 : en ≠ n + 1 := by omega
  refine jrun_ok jC X k_EN_build_0 0 _ _ _ o_EN_build_0 ?_
  simp only [k_EN_build_0, jrun, jstep, jldi, jldl, jlda, j1, j2, jl1, jl2, jli, ja1, jbr, jald, jast, jlald, jlast, jalen, jget, jput, jfit, jdup, jdupx, jdupx2, jdup2, jcat, jset1, jset2, jkill, List.getElem?_cons_zero, List.getElem?_cons_succ, List.set_cons_zero, List.set_cons_succ, List.length_cons, List.length_nil, Nat.reduceAdd, Nat.reduceLT, Int32.reduceToNatClampNeg, true_and, and_true, and_self, reduceCtorEq, not_false_eq_true, false_and, and_false, or_false, false_or, true_or, or_true, hs, hqs, hak, hak1, hqr1, hnn, jup_s, jup_n hq1, jup_n hq2, jup_n hq3, jup_n hq4, false_implies, true_implies, not_true_eq_false, Int32.reduceLT, Int32.reduceLE, Int32.reduceMul, Int32.le_refl, Int32.lt_irrefl, not_false_eq_true, and_true, true_and, hm1, hty1, hty2, Int32.reduceOfNat, Nat.add_one_ne_zero, ne_eq, not_true_eq_false, jtb]
  refine jrun_ok jC X k_EN_build_16 16 _ _ _ o_EN_build_16 ?_
  simp only [k_EN_build_16, jrun, jstep, jldi, jldl, jlda, j1, j2, jl1, jl2, jli, ja1, jbr, jald, jast, jlald, jlast, jalen, jget, jput, jfit, jdup, jdupx, jdupx2, jdup2, jcat, jset1, jset2, jkill, List.getElem?_cons_zero, List.getElem?_cons_succ, List.set_cons_zero, List.set_cons_succ, List.length_cons, List.length_nil, Nat.reduceAdd, Nat.reduceLT, Int32.reduceToNatClampNeg, true_and, and_true, and_self, reduceCtorEq, not_false_eq_true, false_and, and_false, or_false, false_or, true_or, or_true, hs, hqs, hak, hak1, hqr1, hnn, jup_s, jup_n hq1, jup_n hq2, jup_n hq3, jup_n hq4, false_implies, true_implies, not_true_eq_false, Int32.reduceLT, Int32.reduceLE, Int32.reduceMul, Int32.le_refl, Int32.lt_irrefl, not_false_eq_true, and_true, true_and, hm1, hty1, hty2, Int32.reduceOfNat, Nat.add_one_ne_zero, ne_eq, not_true_eq_false, jtb]
  refine jrun_ok jC X k_EN_build_20 20 _ _ _ o_EN_build_20 ?_
  simp only [k_EN_build_20, jrun, jstep, jldi, jldl, jlda, j1, j2, jl1, jl2, jli, ja1, jbr, jald, jast, jlald, jlast, jalen, jget, jput, jfit, jdup, jdupx, jdupx2, jdup2, jcat, jset1, jset2, jkill, List.getElem?_cons_zero, List.getElem?_cons_succ, List.set_cons_zero, List.set_cons_succ, List.length_cons, List.length_nil, Nat.reduceAdd, Nat.reduceLT, Int32.reduceToNatClampNeg, true_and, and_true, and_self, reduceCtorEq, not_false_eq_true, false_and, and_false, or_false, false_or, true_or, or_true, hs, hqs, hak, hak1, hqr1, hnn, jup_s, jup_n hq1, jup_n hq2, jup_n hq3, jup_n hq4, false_implies, true_implies, not_true_eq_false, Int32.reduceLT, Int32.reduceLE, Int32.reduceMul, Int32.le_refl, Int32.lt_irrefl, not_false_eq_true, and_true, true_and, hm1, hty1, hty2, Int32.reduceOfNat, Nat.add_one_ne_zero, ne_eq, not_true_eq_false, jtb]
  refine jk_na X hR d_EN_build_24 (ty := .byte) rfl (w1 := 361) (jtF_ok rfl) (by decide) (by decide) 81920 rfl (by decide) (z := (81920, .inl fun _ => 0)) rfl (n' := n + 1) rfl (c' := 1) rfl (s' := 81920) (Nat.zero_add _) ⟨by omega, by omega⟩ (pc' := 26) rfl ?_
  refine jrun_ok jC X k_EN_build_26 26 _ _ _ o_EN_build_26 ?_
  simp only [k_EN_build_26, jrun, jstep, jldi, jldl, jlda, j1, j2, jl1, jl2, jli, ja1, jbr, jald, jast, jlald, jlast, jalen, jget, jput, jfit, jdup, jdupx, jdupx2, jdup2, jcat, jset1, jset2, jkill, List.getElem?_cons_zero, List.getElem?_cons_succ, List.set_cons_zero, List.set_cons_succ, List.length_cons, List.length_nil, Nat.reduceAdd, Nat.reduceLT, Int32.reduceToNatClampNeg, true_and, and_true, and_self, reduceCtorEq, not_false_eq_true, false_and, and_false, or_false, false_or, true_or, or_true, hs, hqs, hak, hak1, hqr1, hnn, jup_s, jup_n hq1, jup_n hq2, jup_n hq3, jup_n hq4, false_implies, true_implies, not_true_eq_false, Int32.reduceLT, Int32.reduceLE, Int32.reduceMul, Int32.le_refl, Int32.lt_irrefl, not_false_eq_true, and_true, true_and, hm1, hty1, hty2, Int32.reduceOfNat, Nat.add_one_ne_zero, ne_eq, not_true_eq_false, jtb]
  exact kk
set_option maxRecDepth 100000 in
set_option maxHeartbeats 4000000 in
theorem bd_Pn {E : jE} {M : jM} {Q : State → Prop} {n : Nat} {rm : Room} (X : jX E "ChessHouse$Endings" lw_tbl jcl jtb 11 false prog_6_method_8_code M) (hR : M.2.2.2.1 = rm) (hc1 : 2 ≤ rm.cells) (hc2 : 393216 ≤ rm.slots) {σ : Nat → jcell} {en qr : Nat} {d b tl kd : Int32} {vl v3 v4 v5 v6 : jv} {g : Nat → Int32} (ha : en < n) (hs : σ en = .inr (8, [.inl d, .inl b, vl, v3, v4, v5, v6, .inr (.inr (some (.inl qr))), .inl tl, .inl kd])) (hqr : qr < n) (hne : qr ≠ en) (hqs : σ qr = .inl (.int, 0, .inl g))
    (kk : jJ E jcl 11 M Q (n + 2) 2 393216 53 [some (.inr (.inr (some (.inl en)))), some (.inl 1), none, none, none, none, none, none, none, none, none] [] (bdN σ en n qr 196608 d b vl v3 v4 v5 v6 tl 1)) : jJ E jcl 11 M Q n 0 0 0 [some (.inr (.inr (some (.inl en)))), some (.inl 1), none, none, none, none, none, none, none, none, none] [] σ := by
  have hak : (en < n) = True := eq_true ha
  have hak1 : (en < n + 1) = True := eq_true (by omega)
  have hqr1 : (qr < n + 1) = True := eq_true (by omega)
  have hnn : (n < n + 1) = True := eq_true (by omega)
  have hak2 : (en < n + 1 + 1) = True := eq_true (by omega)
  have hnn2 : (n < n + 1 + 1) = True := eq_true (by omega)
  have hm1 : ((1 : Int32) = 1) = True := eq_true rfl
  have hty1 : (FieldType.int ∈ jtys) = True := eq_true (by decide)
  have hty2 : (FieldType.byte ∈ jtys) = True := eq_true (by decide)
  have hq1 : qr ≠ en := hne
  have hq2 : qr ≠ n := by omega
  have hq3 : en ≠ n := by omega
  have hq4 : n ≠ en := by omega
  have hq5 : en ≠ n + 1 := by omega
  refine jrun_ok jC X k_EN_build_0 0 _ _ _ o_EN_build_0 ?_
  simp only [k_EN_build_0, jrun, jstep, jldi, jldl, jlda, j1, j2, jl1, jl2, jli, ja1, jbr, jald, jast, jlald, jlast, jalen, jget, jput, jfit, jdup, jdupx, jdupx2, jdup2, jcat, jset1, jset2, jkill, List.getElem?_cons_zero, List.getElem?_cons_succ, List.set_cons_zero, List.set_cons_succ, List.length_cons, List.length_nil, Nat.reduceAdd, Nat.reduceLT, Int32.reduceToNatClampNeg, true_and, and_true, and_self, reduceCtorEq, not_false_eq_true, false_and, and_false, or_false, false_or, true_or, or_true, hs, hqs, hak, hak1, hqr1, hnn, jup_s, jup_n hq1, jup_n hq2, jup_n hq3, jup_n hq4, false_implies, true_implies, not_true_eq_false, Int32.reduceLT, Int32.reduceLE, Int32.reduceMul, Int32.le_refl, Int32.lt_irrefl, not_false_eq_true, and_true, true_and, hm1, hty1, hty2, Int32.reduceOfNat, Nat.add_one_ne_zero, ne_eq, not_true_eq_false, jtb]
  refine jrun_ok jC X k_EN_build_20 20 _ _ _ o_EN_build_20 ?_
  simp only [k_EN_build_20, jrun, jstep, jldi, jldl, jlda, j1, j2, jl1, jl2, jli, ja1, jbr, jald, jast, jlald, jlast, jalen, jget, jput, jfit, jdup, jdupx, jdupx2, jdup2, jcat, jset1, jset2, jkill, List.getElem?_cons_zero, List.getElem?_cons_succ, List.set_cons_zero, List.set_cons_succ, List.length_cons, List.length_nil, Nat.reduceAdd, Nat.reduceLT, Int32.reduceToNatClampNeg, true_and, and_true, and_self, reduceCtorEq, not_false_eq_true, false_and, and_false, or_false, false_or, true_or, or_true, hs, hqs, hak, hak1, hqr1, hnn, jup_s, jup_n hq1, jup_n hq2, jup_n hq3, jup_n hq4, false_implies, true_implies, not_true_eq_false, Int32.reduceLT, Int32.reduceLE, Int32.reduceMul, Int32.le_refl, Int32.lt_irrefl, not_false_eq_true, and_true, true_and, hm1, hty1, hty2, Int32.reduceOfNat, Nat.add_one_ne_zero, ne_eq, not_true_eq_false, jtb]
  refine jk_na X hR d_EN_build_24 (ty := .byte) rfl (w1 := 361) (jtF_ok rfl) (by decide) (by decide) 196608 rfl (by decide) (z := (196608, .inl fun _ => 0)) rfl (n' := n + 1) rfl (c' := 1) rfl (s' := 196608) (Nat.zero_add _) ⟨by omega, by omega⟩ (pc' := 26) rfl ?_
  refine jrun_ok jC X k_EN_build_26 26 _ _ _ o_EN_build_26 ?_
  simp only [k_EN_build_26, jrun, jstep, jldi, jldl, jlda, j1, j2, jl1, jl2, jli, ja1, jbr, jald, jast, jlald, jlast, jalen, jget, jput, jfit, jdup, jdupx, jdupx2, jdup2, jcat, jset1, jset2, jkill, List.getElem?_cons_zero, List.getElem?_cons_succ, List.set_cons_zero, List.set_cons_succ, List.length_cons, List.length_nil, Nat.reduceAdd, Nat.reduceLT, Int32.reduceToNatClampNeg, true_and, and_true, and_self, reduceCtorEq, not_false_eq_true, false_and, and_false, or_false, false_or, true_or, or_true, hs, hqs, hak, hak1, hqr1, hnn, jup_s, jup_n hq1, jup_n hq2, jup_n hq3, jup_n hq4, false_implies, true_implies, not_true_eq_false, Int32.reduceLT, Int32.reduceLE, Int32.reduceMul, Int32.le_refl, Int32.lt_irrefl, not_false_eq_true, and_true, true_and, hm1, hty1, hty2, Int32.reduceOfNat, Nat.add_one_ne_zero, ne_eq, not_true_eq_false, jtb]
  refine jk_na X hR d_EN_build_48 (ty := .int) rfl (w1 := 387) (jtF_ok rfl) (by decide) (by decide) 196608 rfl (by decide) (z := (196608, .inl fun _ => 0)) rfl (n' := n + 2) rfl (c' := 2) rfl (s' := 393216) rfl ⟨by omega, by omega⟩ (pc' := 50) rfl ?_
  refine jrun_ok jC X k_EN_build_50 50 _ _ _ o_EN_build_50 ?_
  simp only [k_EN_build_50, jrun, jstep, jldi, jldl, jlda, j1, j2, jl1, jl2, jli, ja1, jbr, jald, jast, jlald, jlast, jalen, jget, jput, jfit, jdup, jdupx, jdupx2, jdup2, jcat, jset1, jset2, jkill, List.getElem?_cons_zero, List.getElem?_cons_succ, List.set_cons_zero, List.set_cons_succ, List.length_cons, List.length_nil, Nat.reduceAdd, Nat.reduceLT, Int32.reduceToNatClampNeg, true_and, and_true, and_self, reduceCtorEq, not_false_eq_true, false_and, and_false, or_false, false_or, true_or, or_true, hs, hqs, hak, hak1, hqr1, hnn, jup_s, jup_n hq1, jup_n hq2, jup_n hq3, jup_n hq4, false_implies, true_implies, not_true_eq_false, Int32.reduceLT, Int32.reduceLE, Int32.reduceMul, Int32.le_refl, Int32.lt_irrefl, not_false_eq_true, and_true, true_and, hm1, hty1, hty2, Int32.reduceOfNat, Nat.add_one_ne_zero, ne_eq, not_true_eq_false, jtb, jup_n hq5, hak2, hnn2]
  exact kk
set_option maxRecDepth 100000 in
set_option maxHeartbeats 4000000 in
theorem bd_Pq {E : jE} {M : jM} {Q : State → Prop} {n : Nat} {rm : Room} (X : jX E "ChessHouse$Endings" lw_tbl jcl jtb 11 false prog_6_method_8_code M) (hR : M.2.2.2.1 = rm) (hc1 : 2 ≤ rm.cells) (hc2 : 393216 ≤ rm.slots) {σ : Nat → jcell} {en qr : Nat} {d b tl kd : Int32} {vl v3 v4 v5 v6 : jv} {g : Nat → Int32} (ha : en < n) (hs : σ en = .inr (8, [.inl d, .inl b, vl, v3, v4, v5, v6, .inr (.inr (some (.inl qr))), .inl tl, .inl kd])) (hqr : qr < n) (hne : qr ≠ en) (hqs : σ qr = .inl (.int, 81920, .inl g))
    (kk : jJ E jcl 11 M Q (n + 2) 2 393216 53 [some (.inr (.inr (some (.inl en)))), some (.inl 1), none, none, none, none, none, none, none, none, none] [] (bdN σ en n qr 196608 d b vl v3 v4 v5 v6 tl 1)) : jJ E jcl 11 M Q n 0 0 0 [some (.inr (.inr (some (.inl en)))), some (.inl 1), none, none, none, none, none, none, none, none, none] [] σ := by
  have hak : (en < n) = True := eq_true ha
  have hak1 : (en < n + 1) = True := eq_true (by omega)
  have hqr1 : (qr < n + 1) = True := eq_true (by omega)
  have hnn : (n < n + 1) = True := eq_true (by omega)
  have hak2 : (en < n + 1 + 1) = True := eq_true (by omega)
  have hnn2 : (n < n + 1 + 1) = True := eq_true (by omega)
  have hm1 : ((1 : Int32) = 1) = True := eq_true rfl
  have hty1 : (FieldType.int ∈ jtys) = True := eq_true (by decide)
  have hty2 : (FieldType.byte ∈ jtys) = True := eq_true (by decide)
  have hq1 : qr ≠ en := hne
  have hq2 : qr ≠ n := by omega
  have hq3 : en ≠ n := by omega
  have hq4 : n ≠ en := by omega
  have hq5 : en ≠ n + 1 := by omega
  refine jrun_ok jC X k_EN_build_0 0 _ _ _ o_EN_build_0 ?_
  simp only [k_EN_build_0, jrun, jstep, jldi, jldl, jlda, j1, j2, jl1, jl2, jli, ja1, jbr, jald, jast, jlald, jlast, jalen, jget, jput, jfit, jdup, jdupx, jdupx2, jdup2, jcat, jset1, jset2, jkill, List.getElem?_cons_zero, List.getElem?_cons_succ, List.set_cons_zero, List.set_cons_succ, List.length_cons, List.length_nil, Nat.reduceAdd, Nat.reduceLT, Int32.reduceToNatClampNeg, true_and, and_true, and_self, reduceCtorEq, not_false_eq_true, false_and, and_false, or_false, false_or, true_or, or_true, hs, hqs, hak, hak1, hqr1, hnn, jup_s, jup_n hq1, jup_n hq2, jup_n hq3, jup_n hq4, false_implies, true_implies, not_true_eq_false, Int32.reduceLT, Int32.reduceLE, Int32.reduceMul, Int32.le_refl, Int32.lt_irrefl, not_false_eq_true, and_true, true_and, hm1, hty1, hty2, Int32.reduceOfNat, Nat.add_one_ne_zero, ne_eq, not_true_eq_false, jtb]
  refine jrun_ok jC X k_EN_build_20 20 _ _ _ o_EN_build_20 ?_
  simp only [k_EN_build_20, jrun, jstep, jldi, jldl, jlda, j1, j2, jl1, jl2, jli, ja1, jbr, jald, jast, jlald, jlast, jalen, jget, jput, jfit, jdup, jdupx, jdupx2, jdup2, jcat, jset1, jset2, jkill, List.getElem?_cons_zero, List.getElem?_cons_succ, List.set_cons_zero, List.set_cons_succ, List.length_cons, List.length_nil, Nat.reduceAdd, Nat.reduceLT, Int32.reduceToNatClampNeg, true_and, and_true, and_self, reduceCtorEq, not_false_eq_true, false_and, and_false, or_false, false_or, true_or, or_true, hs, hqs, hak, hak1, hqr1, hnn, jup_s, jup_n hq1, jup_n hq2, jup_n hq3, jup_n hq4, false_implies, true_implies, not_true_eq_false, Int32.reduceLT, Int32.reduceLE, Int32.reduceMul, Int32.le_refl, Int32.lt_irrefl, not_false_eq_true, and_true, true_and, hm1, hty1, hty2, Int32.reduceOfNat, Nat.add_one_ne_zero, ne_eq, not_true_eq_false, jtb]
  refine jk_na X hR d_EN_build_24 (ty := .byte) rfl (w1 := 361) (jtF_ok rfl) (by decide) (by decide) 196608 rfl (by decide) (z := (196608, .inl fun _ => 0)) rfl (n' := n + 1) rfl (c' := 1) rfl (s' := 196608) (Nat.zero_add _) ⟨by omega, by omega⟩ (pc' := 26) rfl ?_
  refine jrun_ok jC X k_EN_build_26 26 _ _ _ o_EN_build_26 ?_
  simp only [k_EN_build_26, jrun, jstep, jldi, jldl, jlda, j1, j2, jl1, jl2, jli, ja1, jbr, jald, jast, jlald, jlast, jalen, jget, jput, jfit, jdup, jdupx, jdupx2, jdup2, jcat, jset1, jset2, jkill, List.getElem?_cons_zero, List.getElem?_cons_succ, List.set_cons_zero, List.set_cons_succ, List.length_cons, List.length_nil, Nat.reduceAdd, Nat.reduceLT, Int32.reduceToNatClampNeg, true_and, and_true, and_self, reduceCtorEq, not_false_eq_true, false_and, and_false, or_false, false_or, true_or, or_true, hs, hqs, hak, hak1, hqr1, hnn, jup_s, jup_n hq1, jup_n hq2, jup_n hq3, jup_n hq4, false_implies, true_implies, not_true_eq_false, Int32.reduceLT, Int32.reduceLE, Int32.reduceMul, Int32.le_refl, Int32.lt_irrefl, not_false_eq_true, and_true, true_and, hm1, hty1, hty2, Int32.reduceOfNat, Nat.add_one_ne_zero, ne_eq, not_true_eq_false, jtb]
  refine jk_na X hR d_EN_build_48 (ty := .int) rfl (w1 := 387) (jtF_ok rfl) (by decide) (by decide) 196608 rfl (by decide) (z := (196608, .inl fun _ => 0)) rfl (n' := n + 2) rfl (c' := 2) rfl (s' := 393216) rfl ⟨by omega, by omega⟩ (pc' := 50) rfl ?_
  refine jrun_ok jC X k_EN_build_50 50 _ _ _ o_EN_build_50 ?_
  simp only [k_EN_build_50, jrun, jstep, jldi, jldl, jlda, j1, j2, jl1, jl2, jli, ja1, jbr, jald, jast, jlald, jlast, jalen, jget, jput, jfit, jdup, jdupx, jdupx2, jdup2, jcat, jset1, jset2, jkill, List.getElem?_cons_zero, List.getElem?_cons_succ, List.set_cons_zero, List.set_cons_succ, List.length_cons, List.length_nil, Nat.reduceAdd, Nat.reduceLT, Int32.reduceToNatClampNeg, true_and, and_true, and_self, reduceCtorEq, not_false_eq_true, false_and, and_false, or_false, false_or, true_or, or_true, hs, hqs, hak, hak1, hqr1, hnn, jup_s, jup_n hq1, jup_n hq2, jup_n hq3, jup_n hq4, false_implies, true_implies, not_true_eq_false, Int32.reduceLT, Int32.reduceLE, Int32.reduceMul, Int32.le_refl, Int32.lt_irrefl, not_false_eq_true, and_true, true_and, hm1, hty1, hty2, Int32.reduceOfNat, Nat.add_one_ne_zero, ne_eq, not_true_eq_false, jtb, jup_n hq5, hak2, hnn2]
  exact kk
def tEN : List aT := [.inl (-2147483648, 2147483647), .inl (-2147483648, 2147483647), .inr (some (.inl (false, 24))), .inr (some (.inl (true, 114))), .inr (some (.inl (true, 114))), .inr (some (.inl (true, 52))), .inr (some (.inl (true, 99999))), .inr (some (.inl (false, 99999))), .inl (0, 196608), .inl (0, 5)]
theorem tEN_T : fa_T[23]? = some (.inr (8, tEN)) := rfl
theorem en_ce {K : Nat → Nat} {n : Nat} {d b tl kd : Int32} {vl v3 v4 v5 v6 v7 : jv} (h2 : aG K n (.inr (some (.inl (false, 24)))) vl) (h3 : aG K n (.inr (some (.inl (true, 114)))) v3) (h4 : aG K n (.inr (some (.inl (true, 114)))) v4) (h5 : aG K n (.inr (some (.inl (true, 52)))) v5) (h6 : aG K n (.inr (some (.inl (true, 99999)))) v6) (h7 : aG K n (.inr (some (.inl (false, 99999)))) v7) (h8 : aIn (0, 196608) tl) (h9 : aIn (0, 5) kd) : aCe K n (.inr (8, tEN)) (.inr (8, [.inl d, .inl b, vl, v3, v4, v5, v6, v7, .inl tl, .inl kd])) := by
  refine ⟨rfl, rfl, fun f t v ht hv => ?_⟩
  match f, ht, hv with
  | 0, ht, hv => cases ht; cases hv; exact aIn_32 d
  | 1, ht, hv => cases ht; cases hv; exact aIn_32 b
  | 2, ht, hv => cases ht; cases hv; exact h2
  | 3, ht, hv => cases ht; cases hv; exact h3
  | 4, ht, hv => cases ht; cases hv; exact h4
  | 5, ht, hv => cases ht; cases hv; exact h5
  | 6, ht, hv => cases ht; cases hv; exact h6
  | 7, ht, hv => cases ht; cases hv; exact h7
  | 8, ht, hv => cases ht; cases hv; exact h8
  | 9, ht, hv => cases ht; cases hv; exact h9
  | f + 10, ht, _ => cases ht
/-- the fields of the tables' object -/
theorem en_fs {K : Nat → Nat} {n en : Nat} {σ : Nat → jcell} (h : aH fa_T K n σ) (he : en < n) (hk : K en = 23) : ∃ (d b tl kd : Int32) (vl v3 v4 v5 v6 : jv) (qr : Nat), σ en = .inr (8, [.inl d, .inl b, vl, v3, v4, v5, v6, .inr (.inr (some (.inl qr))), .inl tl, .inl kd]) ∧ aG K n (.inr (some (.inl (false, 24)))) vl ∧ aG K n (.inr (some (.inl (true, 114)))) v3 ∧ aG K n (.inr (some (.inl (true, 114)))) v4 ∧ aG K n (.inr (some (.inl (true, 52)))) v5 ∧ aG K n (.inr (some (.inl (true, 99999)))) v6 ∧ qr < n ∧ aIn (0, 196608) tl ∧ aIn (0, 5) kd := by
  obtain ⟨fs, e1, e2, e3⟩ := aCe_obj (h en he _ (by rw [hk]; exact tEN_T))
  match fs, e2 with
  | [x0, x1, x2, x3, x4, x5, x6, x7, x8, x9], _ =>
    obtain ⟨d, rfl, -⟩ := aG_int (e3 0 _ _ rfl rfl)
    obtain ⟨b, rfl, -⟩ := aG_int (e3 1 _ _ rfl rfl)
    obtain ⟨tl, rfl, t8⟩ := aG_int (e3 8 _ _ rfl rfl)
    obtain ⟨kd, rfl, t9⟩ := aG_int (e3 9 _ _ rfl rfl)
    obtain ⟨qr, rfl, t7⟩ := rG_any (e3 7 _ _ rfl rfl)
    exact ⟨d, b, tl, kd, x2, x3, x4, x5, x6, qr, e1, e3 2 _ _ rfl rfl, e3 3 _ _ rfl rfl, e3 4 _ _ rfl rfl, e3 5 _ _ rfl rfl, e3 6 _ _ rfl rfl, t7, t8, t9⟩
theorem aIn_mo {q q2 : Int × Int} {x : Int32} (h : aIn q x) (h1 : q2.1 ≤ q.1) (h2 : q.2 ≤ q2.2) : aIn q2 x := ⟨Int.le_trans h1 h.1, Int.le_trans h.2 h2⟩
def bK1 (K : Nat → Nat) (n tk : Nat) : Nat → Nat := gK K n tk
def bK2 (K : Nat → Nat) (n tk qk : Nat) : Nat → Nat := gK (gK K n tk) (n + 1) qk
theorem zTy : fa_T[114]? = some (.inl (.byte, 81920, (-128, 127), [])) ∧ fa_T[52]? = some (.inl (.byte, 196608, (-128, 127), [])) ∧ fa_T[53]? = some (.inl (.int, 81920, (0, 81919), [])) ∧ fa_T[54]? = some (.inl (.int, 196608, (0, 196607), [])) := ⟨rfl, rfl, rfl, rfl⟩
section BDH
variable {K : Nat → Nat} {n : Nat} {σ : Nat → jcell} {en qr L tk qk : Nat} {d b tl kd man : Int32} {vl v3 v4 v5 v6 : jv} {q1 q2 : Int × Int}
theorem bdA_H (h : aH fa_T K n σ) (he : en < n) (hk : K en = 23) (hs : σ en = .inr (8, [.inl d, .inl b, vl, v3, v4, v5, v6, .inr (.inr (some (.inl qr))), .inl tl, .inl kd])) (h2 : aG K n (.inr (some (.inl (false, 24)))) vl) (h3 : aG K n (.inr (some (.inl (true, 114)))) v3) (h4 : aG K n (.inr (some (.inl (true, 114)))) v4) (h5 : aG K n (.inr (some (.inl (true, 52)))) v5) (h6 : aG K n (.inr (some (.inl (true, 99999)))) v6) (hqr : qr < n) (h8 : aIn (0, 196608) tl) (hm : aIn (0, 5) man) (hT : fa_T[tk]? = some (.inl (.byte, L, (-128, 127), []))) : aH fa_T (bK1 K n tk) (n + 1) (bdA σ en n qr L d b vl v3 v4 v5 v6 tl man) := by
  have hd : ∀ d0, fa_T[K en]? = some d0 → d0 = .inr (8, tEN) := fun d0 h9 => by
    rw [hk, tEN_T] at h9
    exact (Option.some.inj h9).symm
  have a1 := aH_up (a := en) (x := .inr (8, [.inl d, .inl b, vl, v3, v4, v5, v6, .inr (.inr (some (.inl qr))), .inl tl, .inl man])) h (fun d0 h9 => by rw [hd d0 h9]; exact en_ce h2 h3 h4 h5 h6 ⟨hqr, Or.inr rfl⟩ h8 hm)
  have a2 := aH_gK (k := tk) (c := .inl (.byte, L, .inl fun _ => 0)) a1 (fun d0 h9 => by
    rw [hT] at h9
    obtain rfl := Option.some.inj h9
    exact aCe_z (by decide) (by decide) (by decide))
  have w : gW K n (gK K n tk) (n + 1) := gK_gw
  refine aH_up a2 (fun d0 h9 => ?_)
  rw [gK_lo he] at h9
  rw [hd d0 h9]
  exact en_ce (aG_gw w h2) (aG_gw w h3) (aG_gw w h4) (aG_gw w h5) ⟨Nat.lt_succ_self n, Or.inr rfl⟩ ⟨Nat.lt_succ_of_lt hqr, Or.inr rfl⟩ h8 hm
theorem bdA_en : bdA σ en n qr L d b vl v3 v4 v5 v6 tl man en = .inr (8, [.inl d, .inl b, vl, v3, v4, v5, .inr (.inr (some (.inl n))), .inr (.inr (some (.inl qr))), .inl tl, .inl man]) := jup_s
theorem bdN_en : bdN σ en n qr L d b vl v3 v4 v5 v6 tl man en = .inr (8, [.inl d, .inl b, vl, v3, v4, v5, .inr (.inr (some (.inl n))), .inr (.inr (some (.inl (n + 1)))), .inl tl, .inl man]) := jup_s
theorem bdA_o {a : Nat} (h1 : a ≠ en) (h2 : a ≠ n) : bdA σ en n qr L d b vl v3 v4 v5 v6 tl man a = σ a := by
  unfold bdA
  rw [jup_n h1, jup_n h2, jup_n h1]
theorem bdN_o {a : Nat} (h1 : a ≠ en) (h2 : a ≠ n) (h3 : a ≠ n + 1) : bdN σ en n qr L d b vl v3 v4 v5 v6 tl man a = σ a := by
  unfold bdN
  rw [jup_n h1, jup_n h3, bdA_o h1 h2]
theorem bdN_H (h : aH fa_T K n σ) (he : en < n) (hk : K en = 23) (hs : σ en = .inr (8, [.inl d, .inl b, vl, v3, v4, v5, v6, .inr (.inr (some (.inl qr))), .inl tl, .inl kd])) (h2 : aG K n (.inr (some (.inl (false, 24)))) vl) (h3 : aG K n (.inr (some (.inl (true, 114)))) v3) (h4 : aG K n (.inr (some (.inl (true, 114)))) v4) (h5 : aG K n (.inr (some (.inl (true, 52)))) v5) (h6 : aG K n (.inr (some (.inl (true, 99999)))) v6) (hqr : qr < n) (h8 : aIn (0, 196608) tl) (hm : aIn (0, 5) man) (hT : fa_T[tk]? = some (.inl (.byte, L, (-128, 127), []))) (hQ : fa_T[qk]? = some (.inl (.int, L, q2, []))) (hq2 : q2.1 ≤ 0) (hq3 : 0 ≤ q2.2) : aH fa_T (bK2 K n tk qk) (n + 2) (bdN σ en n qr L d b vl v3 v4 v5 v6 tl man) := by
  have a1 := bdA_H (L := L) (tk := tk) h he hk hs h2 h3 h4 h5 h6 hqr h8 hm hT
  have a2 := aH_gK (k := qk) (c := .inl (.int, L, .inl fun _ => 0)) a1 (fun d0 h9 => by
    rw [hQ] at h9
    obtain rfl := Option.some.inj h9
    exact aCe_z (by decide) hq2 hq3)
  have w : gW K n (bK2 K n tk qk) (n + 2) := gW_tr gK_gw gK_gw
  refine aH_up a2 (fun d0 h9 => ?_)
  rw [show gK (bK1 K n tk) (n + 1) qk en = K en from (gK_lo (by omega)).trans (gK_lo he), hk, tEN_T] at h9
  obtain rfl := Option.some.inj h9
  exact en_ce (aG_gw w h2) (aG_gw w h3) (aG_gw w h4) (aG_gw w h5) ⟨by omega, Or.inr rfl⟩ ⟨by omega, Or.inr rfl⟩ h8 hm
theorem fJX_up {a : Nat} {c : jcell} (h : fJX K n σ) (hk : ¬ (25 ≤ K a ∧ K a ≤ 51)) : fJX K n (jup σ a c) := fJX_eq h (fun x _ h1 h2 => jup_n (fun e => hk (by rw [← e]; exact ⟨h1, h2⟩)))
theorem bdA_X (h : fJX K n σ) (he : en < n) (hk : K en = 23) (ht : ¬ (25 ≤ tk ∧ tk ≤ 51)) : fJX (bK1 K n tk) (n + 1) (bdA σ en n qr L d b vl v3 v4 v5 v6 tl man) := fJX_up (fJX_gK (fJX_up h (by rw [hk]; decide)) ht) (by rw [show bK1 K n tk en = K en from gK_lo he, hk]; decide)
theorem bdN_X (h : fJX K n σ) (he : en < n) (hk : K en = 23) (ht : ¬ (25 ≤ tk ∧ tk ≤ 51)) (hq : ¬ (25 ≤ qk ∧ qk ≤ 51)) : fJX (bK2 K n tk qk) (n + 2) (bdN σ en n qr L d b vl v3 v4 v5 v6 tl man) := fJX_up (fJX_gK (bdA_X h he hk ht) hq) (by rw [show bK2 K n tk qk en = K en from (gK_lo (by omega)).trans (gK_lo he), hk]; decide)
end BDH
def bP0 : fP := .inl (fun _ => 0, fun _ => 0)
section BDZ
variable {l : Launch} {E : jE}
set_option maxRecDepth 100000 in
set_option maxHeartbeats 4000000 in
theorem bz_Q5n {K : Nat → Nat} {n : Nat} {σ : Nat → jcell} {en qr : Nat} {d b tl kd : Int32} {vl v3 v4 v5 v6 : jv} {g : Nat → Int32} (h : aH fa_T K n σ) (hX : fJX K n σ) (he : en < n) (hk : K en = 23) (hs : σ en = .inr (8, [.inl d, .inl b, vl, v3, v4, v5, v6, .inr (.inr (some (.inl qr))), .inl tl, .inl kd])) (h2 : aG K n (.inr (some (.inl (false, 24)))) vl) (h3 : aG K n (.inr (some (.inl (true, 114)))) v3) (h4 : aG K n (.inr (some (.inl (true, 114)))) v4) (h5 : aG K n (.inr (some (.inl (true, 52)))) v5) (h6 : aG K n (.inr (some (.inl (true, 99999)))) v6) (hqr : qr < n) (h8 : aIn (0, 196608) tl) (hqs : σ qr = .inl (.int, 0, .inl g)) : jMet l E jcl jtb lw_tbl y_EN_build { frames := 3, cells := 2, slots := 163840, locals := 85 } [.inr (.inr (some (.inl en))), .inl 5] σ n (fun r σ' n' => n' = n + 2 ∧ ∃ t, r = some (.inr (.inr (some (.inl t)))) ∧ t < n + 2 ∧ (bK2 K n 114 53) t = 114 ∧ aH fa_T (bK2 K n 114 53) (n + 2) σ' ∧ fJX (bK2 K n 114 53) (n + 2) σ' ∧ aFr (bK2 K n 114 53) (n + 2) [(23, 8)] (bdN σ en n qr 81920 d b vl v3 v4 v5 v6 tl 5) σ' ∧ aFa (bK2 K n 114 53) (n + 2) [(114, ([], 0)), (53, ([], 0))] [.inr (.inr (some (.inl en))), .inl 5] (bdN σ en n qr 81920 d b vl v3 v4 v5 v6 tl 5) σ') := by
  have hne : qr ≠ en := fun e => by
    rw [e, hs] at hqs
    cases hqs
  have hH : aH fa_T (bK2 K n 114 53) (n + 2) (bdN σ en n qr 81920 d b vl v3 v4 v5 v6 tl 5) := bdN_H h he hk hs h2 h3 h4 h5 h6 hqr h8 ⟨by decide, by decide⟩ rfl rfl (by decide) (by decide)
  have hJ : fJX (bK2 K n 114 53) (n + 2) (bdN σ en n qr 81920 d b vl v3 v4 v5 v6 tl 5) := bdN_X hX he hk (by decide) (by decide)
  have hke : (bK2 K n 114 53) en = 23 := by
    rw [← hk]
    exact (gK_lo (by omega)).trans (gK_lo he)
  refine jMet_ofG (hY := rfl) false (fun h => by cases h) (by decide) (Nat.le_of_ble_eq_true rfl) [some (.inr (.inr (some (.inl en)))), some (.inl 5), none, none, none, none, none, none, none, none, none] rfl ?_
  intro M hl hR X hr hsz
  refine bd_Q5n X hR (Nat.le_refl _) (Nat.le_refl _) he hs hqr hne hqs ?_
  refine zc_ENbuildQ5 (l := l) (E := E) _ { frames := 3, cells := 2, slots := 163840, locals := 85 } ⟨Nat.le_of_ble_eq_true rfl, Nat.le_of_ble_eq_true rfl⟩ n bP0 [.inr (.inr (some (.inl en))), .inl 5] (fun w => w = ((bK2 K n 114 53), n + 2, (bdN σ en n qr 81920 d b vl v3 v4 v5 v6 tl 5), 2, 163840)) rfl ?_ M hl hR hsz X hr (bK2 K n 114 53) (n + 2) (bdN σ en n qr 81920 d b vl v3 v4 v5 v6 tl 5) 2 163840 rfl _ (List.mem_of_getElem? (i := 0) rfl) [.inr (.inr (some (.inl en))), .inl 5, .inr (.inr (some (.inl n))), .inr (.inr (some (.inl (n + 1)))), .inl tl] [some (.inr (.inr (some (.inl en)))), some (.inl 5), none, none, none, none, none, none, none, none, none] [] (bdN σ en n qr 81920 d b vl v3 v4 v5 v6 tl 5) (fun i v hv => ?_) ?_
  · intro K1 n1 σ0 ca sl hw
    cases hw
    refine ⟨⟨Nat.le_refl _, Nat.le_refl _⟩, fun r σ' hp => ?_⟩
    obtain ⟨-, p1, p2, p3, p4, p5, xs, p6, -⟩ := hp
    cases r with
    | none => cases p5
    | some v =>
      obtain ⟨t, rfl, t1, t2⟩ := aG_obj (by decide) (p6.2 2 _ v rfl rfl).1
      exact ⟨rfl, t, rfl, t1, t2, p1, p2, p3, p4⟩
  · match i, hv with
    | 0, hv => exact hv
    | 1, hv => exact hv
    | i + 2, hv => cases hv
  · refine ⟨⟨rfl, fun i e v he9 hv => ?_⟩, ⟨rfl, fun i k hk9 => ?_⟩, trivial, ⟨bP0, ?_, fun q hq => (by cases hq), fun q hq => (by cases hq), aAllc ⟨[], rfl, rfl⟩ (fun f hf => by cases hf)⟩, hH, hJ, aFr_rf, aFa_rf⟩
    · match i, he9, hv with
      | 0, he9, hv => cases he9; cases hv; exact ⟨⟨by omega, Or.inl hke⟩, trivial⟩
      | 1, he9, hv => cases he9; cases hv; exact ⟨⟨by decide, by decide⟩, trivial⟩
      | 2, he9, hv => cases he9; cases hv; exact ⟨⟨by omega, Or.inl ((gK_lo (Nat.lt_succ_self n)).trans gK_at)⟩, trivial⟩
      | 3, he9, hv => cases he9; cases hv; exact ⟨⟨by omega, Or.inl (gK_at)⟩, trivial⟩
      | 4, he9, hv => cases he9; cases hv; exact ⟨h8, trivial⟩
      | i + 5, he9, _ => cases he9
    · match i, hk9 with
      | 0, hk9 => cases hk9; exact ⟨_, rfl, rfl⟩
      | 1, hk9 => cases hk9; exact ⟨_, rfl, rfl⟩
      | i + 2, hk9 => exact absurd hk9 (by
          match i with
          | 0 | 1 | 2 | 3 | 4 | 5 | 6 | 7 | 8 => intro h9; cases h9
          | i + 9 => intro h9; cases h9)
    · exact aAllc ⟨en, 8, _, .inr (.inr (some (.inl n))), rfl, bdN_en, rfl, rfl⟩ (aAllc ⟨en, 8, _, .inr (.inr (some (.inl (n + 1)))), rfl, bdN_en, rfl, rfl⟩ (aAllc ⟨en, 8, _, .inl 5, rfl, bdN_en, rfl, rfl⟩ (aAllc ⟨en, 8, _, .inl tl, rfl, bdN_en, rfl, rfl⟩ (fun f hf => by cases hf))))
set_option maxRecDepth 100000 in
set_option maxHeartbeats 4000000 in
theorem bz_Q4n {K : Nat → Nat} {n : Nat} {σ : Nat → jcell} {en qr : Nat} {d b tl kd : Int32} {vl v3 v4 v5 v6 : jv} {g : Nat → Int32} (h : aH fa_T K n σ) (hX : fJX K n σ) (he : en < n) (hk : K en = 23) (hs : σ en = .inr (8, [.inl d, .inl b, vl, v3, v4, v5, v6, .inr (.inr (some (.inl qr))), .inl tl, .inl kd])) (h2 : aG K n (.inr (some (.inl (false, 24)))) vl) (h3 : aG K n (.inr (some (.inl (true, 114)))) v3) (h4 : aG K n (.inr (some (.inl (true, 114)))) v4) (h5 : aG K n (.inr (some (.inl (true, 52)))) v5) (h6 : aG K n (.inr (some (.inl (true, 99999)))) v6) (hqr : qr < n) (h8 : aIn (0, 196608) tl) (hqs : σ qr = .inl (.int, 0, .inl g)) : jMet l E jcl jtb lw_tbl y_EN_build { frames := 3, cells := 2, slots := 163840, locals := 85 } [.inr (.inr (some (.inl en))), .inl 4] σ n (fun r σ' n' => n' = n + 2 ∧ ∃ t, r = some (.inr (.inr (some (.inl t)))) ∧ t < n + 2 ∧ (bK2 K n 114 53) t = 114 ∧ aH fa_T (bK2 K n 114 53) (n + 2) σ' ∧ fJX (bK2 K n 114 53) (n + 2) σ' ∧ aFr (bK2 K n 114 53) (n + 2) [(23, 8)] (bdN σ en n qr 81920 d b vl v3 v4 v5 v6 tl 4) σ' ∧ aFa (bK2 K n 114 53) (n + 2) [(114, ([], 0)), (53, ([], 0))] [.inr (.inr (some (.inl en))), .inl 4] (bdN σ en n qr 81920 d b vl v3 v4 v5 v6 tl 4) σ') := by
  have hne : qr ≠ en := fun e => by
    rw [e, hs] at hqs
    cases hqs
  have hH : aH fa_T (bK2 K n 114 53) (n + 2) (bdN σ en n qr 81920 d b vl v3 v4 v5 v6 tl 4) := bdN_H h he hk hs h2 h3 h4 h5 h6 hqr h8 ⟨by decide, by decide⟩ rfl rfl (by decide) (by decide)
  have hJ : fJX (bK2 K n 114 53) (n + 2) (bdN σ en n qr 81920 d b vl v3 v4 v5 v6 tl 4) := bdN_X hX he hk (by decide) (by decide)
  have hke : (bK2 K n 114 53) en = 23 := by
    rw [← hk]
    exact (gK_lo (by omega)).trans (gK_lo he)
  refine jMet_ofG (hY := rfl) false (fun h => by cases h) (by decide) (Nat.le_of_ble_eq_true rfl) [some (.inr (.inr (some (.inl en)))), some (.inl 4), none, none, none, none, none, none, none, none, none] rfl ?_
  intro M hl hR X hr hsz
  refine bd_Q4n X hR (Nat.le_refl _) (Nat.le_refl _) he hs hqr hne hqs ?_
  refine zc_ENbuildQ4 (l := l) (E := E) _ { frames := 3, cells := 2, slots := 163840, locals := 85 } ⟨Nat.le_of_ble_eq_true rfl, Nat.le_of_ble_eq_true rfl⟩ n bP0 [.inr (.inr (some (.inl en))), .inl 4] (fun w => w = ((bK2 K n 114 53), n + 2, (bdN σ en n qr 81920 d b vl v3 v4 v5 v6 tl 4), 2, 163840)) rfl ?_ M hl hR hsz X hr (bK2 K n 114 53) (n + 2) (bdN σ en n qr 81920 d b vl v3 v4 v5 v6 tl 4) 2 163840 rfl _ (List.mem_of_getElem? (i := 0) rfl) [.inr (.inr (some (.inl en))), .inl 4, .inr (.inr (some (.inl n))), .inr (.inr (some (.inl (n + 1)))), .inl tl] [some (.inr (.inr (some (.inl en)))), some (.inl 4), none, none, none, none, none, none, none, none, none] [] (bdN σ en n qr 81920 d b vl v3 v4 v5 v6 tl 4) (fun i v hv => ?_) ?_
  · intro K1 n1 σ0 ca sl hw
    cases hw
    refine ⟨⟨Nat.le_refl _, Nat.le_refl _⟩, fun r σ' hp => ?_⟩
    obtain ⟨-, p1, p2, p3, p4, p5, xs, p6, -⟩ := hp
    cases r with
    | none => cases p5
    | some v =>
      obtain ⟨t, rfl, t1, t2⟩ := aG_obj (by decide) (p6.2 2 _ v rfl rfl).1
      exact ⟨rfl, t, rfl, t1, t2, p1, p2, p3, p4⟩
  · match i, hv with
    | 0, hv => exact hv
    | 1, hv => exact hv
    | i + 2, hv => cases hv
  · refine ⟨⟨rfl, fun i e v he9 hv => ?_⟩, ⟨rfl, fun i k hk9 => ?_⟩, trivial, ⟨bP0, ?_, fun q hq => (by cases hq), fun q hq => (by cases hq), aAllc ⟨[], rfl, rfl⟩ (fun f hf => by cases hf)⟩, hH, hJ, aFr_rf, aFa_rf⟩
    · match i, he9, hv with
      | 0, he9, hv => cases he9; cases hv; exact ⟨⟨by omega, Or.inl hke⟩, trivial⟩
      | 1, he9, hv => cases he9; cases hv; exact ⟨⟨by decide, by decide⟩, trivial⟩
      | 2, he9, hv => cases he9; cases hv; exact ⟨⟨by omega, Or.inl ((gK_lo (Nat.lt_succ_self n)).trans gK_at)⟩, trivial⟩
      | 3, he9, hv => cases he9; cases hv; exact ⟨⟨by omega, Or.inl (gK_at)⟩, trivial⟩
      | 4, he9, hv => cases he9; cases hv; exact ⟨h8, trivial⟩
      | i + 5, he9, _ => cases he9
    · match i, hk9 with
      | 0, hk9 => cases hk9; exact ⟨_, rfl, rfl⟩
      | 1, hk9 => cases hk9; exact ⟨_, rfl, rfl⟩
      | i + 2, hk9 => exact absurd hk9 (by
          match i with
          | 0 | 1 | 2 | 3 | 4 | 5 | 6 | 7 | 8 => intro h9; cases h9
          | i + 9 => intro h9; cases h9)
    · exact aAllc ⟨en, 8, _, .inr (.inr (some (.inl n))), rfl, bdN_en, rfl, rfl⟩ (aAllc ⟨en, 8, _, .inr (.inr (some (.inl (n + 1)))), rfl, bdN_en, rfl, rfl⟩ (aAllc ⟨en, 8, _, .inl 4, rfl, bdN_en, rfl, rfl⟩ (aAllc ⟨en, 8, _, .inl tl, rfl, bdN_en, rfl, rfl⟩ (fun f hf => by cases hf))))
set_option maxRecDepth 100000 in
set_option maxHeartbeats 4000000 in
theorem bz_Q5k {K : Nat → Nat} {n : Nat} {σ : Nat → jcell} {en qr : Nat} {d b tl kd : Int32} {vl v3 v4 v5 v6 : jv} {g : Nat → Int32} (h : aH fa_T K n σ) (hX : fJX K n σ) (he : en < n) (hk : K en = 23) (hs : σ en = .inr (8, [.inl d, .inl b, vl, v3, v4, v5, v6, .inr (.inr (some (.inl qr))), .inl tl, .inl kd])) (h2 : aG K n (.inr (some (.inl (false, 24)))) vl) (h3 : aG K n (.inr (some (.inl (true, 114)))) v3) (h4 : aG K n (.inr (some (.inl (true, 114)))) v4) (h5 : aG K n (.inr (some (.inl (true, 52)))) v5) (h6 : aG K n (.inr (some (.inl (true, 99999)))) v6) (hqr : qr < n) (h8 : aIn (0, 196608) tl) (hqs : σ qr = .inl (.int, 81920, .inl g)) (hqk : K qr = 53) : jMet l E jcl jtb lw_tbl y_EN_build { frames := 3, cells := 1, slots := 81920, locals := 85 } [.inr (.inr (some (.inl en))), .inl 5] σ n (fun r σ' n' => n' = n + 1 ∧ ∃ t, r = some (.inr (.inr (some (.inl t)))) ∧ t < n + 1 ∧ (bK1 K n 114) t = 114 ∧ aH fa_T (bK1 K n 114) (n + 1) σ' ∧ fJX (bK1 K n 114) (n + 1) σ' ∧ aFr (bK1 K n 114) (n + 1) [(23, 8)] (bdA σ en n qr 81920 d b vl v3 v4 v5 v6 tl 5) σ' ∧ aFa (bK1 K n 114) (n + 1) [(114, ([], 0)), (53, ([], 0))] [.inr (.inr (some (.inl en))), .inl 5] (bdA σ en n qr 81920 d b vl v3 v4 v5 v6 tl 5) σ') := by
  have hne : qr ≠ en := fun e => by
    rw [e, hs] at hqs
    cases hqs
  have hH : aH fa_T (bK1 K n 114) (n + 1) (bdA σ en n qr 81920 d b vl v3 v4 v5 v6 tl 5) := bdA_H h he hk hs h2 h3 h4 h5 h6 hqr h8 ⟨by decide, by decide⟩ rfl
  have hJ : fJX (bK1 K n 114) (n + 1) (bdA σ en n qr 81920 d b vl v3 v4 v5 v6 tl 5) := bdA_X hX he hk (by decide)
  have hke : (bK1 K n 114) en = 23 := by
    rw [← hk]
    exact gK_lo he
  refine jMet_ofG (hY := rfl) false (fun h => by cases h) (by decide) (Nat.le_of_ble_eq_true rfl) [some (.inr (.inr (some (.inl en)))), some (.inl 5), none, none, none, none, none, none, none, none, none] rfl ?_
  intro M hl hR X hr hsz
  refine bd_Q5k X hR (Nat.le_refl _) (Nat.le_refl _) he hs hqr hne hqs ?_
  refine zc_ENbuildQ5 (l := l) (E := E) _ { frames := 3, cells := 1, slots := 81920, locals := 85 } ⟨Nat.le_of_ble_eq_true rfl, Nat.le_of_ble_eq_true rfl⟩ n bP0 [.inr (.inr (some (.inl en))), .inl 5] (fun w => w = ((bK1 K n 114), n + 1, (bdA σ en n qr 81920 d b vl v3 v4 v5 v6 tl 5), 1, 81920)) rfl ?_ M hl hR hsz X hr (bK1 K n 114) (n + 1) (bdA σ en n qr 81920 d b vl v3 v4 v5 v6 tl 5) 1 81920 rfl _ (List.mem_of_getElem? (i := 0) rfl) [.inr (.inr (some (.inl en))), .inl 5, .inr (.inr (some (.inl n))), .inr (.inr (some (.inl qr))), .inl tl] [some (.inr (.inr (some (.inl en)))), some (.inl 5), none, none, none, none, none, none, none, none, none] [] (bdA σ en n qr 81920 d b vl v3 v4 v5 v6 tl 5) (fun i v hv => ?_) ?_
  · intro K1 n1 σ0 ca sl hw
    cases hw
    refine ⟨⟨Nat.le_refl _, Nat.le_refl _⟩, fun r σ' hp => ?_⟩
    obtain ⟨-, p1, p2, p3, p4, p5, xs, p6, -⟩ := hp
    cases r with
    | none => cases p5
    | some v =>
      obtain ⟨t, rfl, t1, t2⟩ := aG_obj (by decide) (p6.2 2 _ v rfl rfl).1
      exact ⟨rfl, t, rfl, t1, t2, p1, p2, p3, p4⟩
  · match i, hv with
    | 0, hv => exact hv
    | 1, hv => exact hv
    | i + 2, hv => cases hv
  · refine ⟨⟨rfl, fun i e v he9 hv => ?_⟩, ⟨rfl, fun i k hk9 => ?_⟩, trivial, ⟨bP0, ?_, fun q hq => (by cases hq), fun q hq => (by cases hq), aAllc ⟨[], rfl, rfl⟩ (fun f hf => by cases hf)⟩, hH, hJ, aFr_rf, aFa_rf⟩
    · match i, he9, hv with
      | 0, he9, hv => cases he9; cases hv; exact ⟨⟨by omega, Or.inl hke⟩, trivial⟩
      | 1, he9, hv => cases he9; cases hv; exact ⟨⟨by decide, by decide⟩, trivial⟩
      | 2, he9, hv => cases he9; cases hv; exact ⟨⟨by omega, Or.inl (gK_at)⟩, trivial⟩
      | 3, he9, hv => cases he9; cases hv; exact ⟨⟨by omega, Or.inl ((gK_lo hqr).trans hqk)⟩, trivial⟩
      | 4, he9, hv => cases he9; cases hv; exact ⟨h8, trivial⟩
      | i + 5, he9, _ => cases he9
    · match i, hk9 with
      | 0, hk9 => cases hk9; exact ⟨_, rfl, rfl⟩
      | 1, hk9 => cases hk9; exact ⟨_, rfl, rfl⟩
      | i + 2, hk9 => exact absurd hk9 (by
          match i with
          | 0 | 1 | 2 | 3 | 4 | 5 | 6 | 7 | 8 => intro h9; cases h9
          | i + 9 => intro h9; cases h9)
    · exact aAllc ⟨en, 8, _, .inr (.inr (some (.inl n))), rfl, bdA_en, rfl, rfl⟩ (aAllc ⟨en, 8, _, .inr (.inr (some (.inl qr))), rfl, bdA_en, rfl, rfl⟩ (aAllc ⟨en, 8, _, .inl 5, rfl, bdA_en, rfl, rfl⟩ (aAllc ⟨en, 8, _, .inl tl, rfl, bdA_en, rfl, rfl⟩ (fun f hf => by cases hf))))
set_option maxRecDepth 100000 in
set_option maxHeartbeats 4000000 in
theorem bz_Q4k {K : Nat → Nat} {n : Nat} {σ : Nat → jcell} {en qr : Nat} {d b tl kd : Int32} {vl v3 v4 v5 v6 : jv} {g : Nat → Int32} (h : aH fa_T K n σ) (hX : fJX K n σ) (he : en < n) (hk : K en = 23) (hs : σ en = .inr (8, [.inl d, .inl b, vl, v3, v4, v5, v6, .inr (.inr (some (.inl qr))), .inl tl, .inl kd])) (h2 : aG K n (.inr (some (.inl (false, 24)))) vl) (h3 : aG K n (.inr (some (.inl (true, 114)))) v3) (h4 : aG K n (.inr (some (.inl (true, 114)))) v4) (h5 : aG K n (.inr (some (.inl (true, 52)))) v5) (h6 : aG K n (.inr (some (.inl (true, 99999)))) v6) (hqr : qr < n) (h8 : aIn (0, 196608) tl) (hqs : σ qr = .inl (.int, 81920, .inl g)) (hqk : K qr = 53) : jMet l E jcl jtb lw_tbl y_EN_build { frames := 3, cells := 1, slots := 81920, locals := 85 } [.inr (.inr (some (.inl en))), .inl 4] σ n (fun r σ' n' => n' = n + 1 ∧ ∃ t, r = some (.inr (.inr (some (.inl t)))) ∧ t < n + 1 ∧ (bK1 K n 114) t = 114 ∧ aH fa_T (bK1 K n 114) (n + 1) σ' ∧ fJX (bK1 K n 114) (n + 1) σ' ∧ aFr (bK1 K n 114) (n + 1) [(23, 8)] (bdA σ en n qr 81920 d b vl v3 v4 v5 v6 tl 4) σ' ∧ aFa (bK1 K n 114) (n + 1) [(114, ([], 0)), (53, ([], 0))] [.inr (.inr (some (.inl en))), .inl 4] (bdA σ en n qr 81920 d b vl v3 v4 v5 v6 tl 4) σ') := by
  have hne : qr ≠ en := fun e => by
    rw [e, hs] at hqs
    cases hqs
  have hH : aH fa_T (bK1 K n 114) (n + 1) (bdA σ en n qr 81920 d b vl v3 v4 v5 v6 tl 4) := bdA_H h he hk hs h2 h3 h4 h5 h6 hqr h8 ⟨by decide, by decide⟩ rfl
  have hJ : fJX (bK1 K n 114) (n + 1) (bdA σ en n qr 81920 d b vl v3 v4 v5 v6 tl 4) := bdA_X hX he hk (by decide)
  have hke : (bK1 K n 114) en = 23 := by
    rw [← hk]
    exact gK_lo he
  refine jMet_ofG (hY := rfl) false (fun h => by cases h) (by decide) (Nat.le_of_ble_eq_true rfl) [some (.inr (.inr (some (.inl en)))), some (.inl 4), none, none, none, none, none, none, none, none, none] rfl ?_
  intro M hl hR X hr hsz
  refine bd_Q4k X hR (Nat.le_refl _) (Nat.le_refl _) he hs hqr hne hqs ?_
  refine zc_ENbuildQ4 (l := l) (E := E) _ { frames := 3, cells := 1, slots := 81920, locals := 85 } ⟨Nat.le_of_ble_eq_true rfl, Nat.le_of_ble_eq_true rfl⟩ n bP0 [.inr (.inr (some (.inl en))), .inl 4] (fun w => w = ((bK1 K n 114), n + 1, (bdA σ en n qr 81920 d b vl v3 v4 v5 v6 tl 4), 1, 81920)) rfl ?_ M hl hR hsz X hr (bK1 K n 114) (n + 1) (bdA σ en n qr 81920 d b vl v3 v4 v5 v6 tl 4) 1 81920 rfl _ (List.mem_of_getElem? (i := 0) rfl) [.inr (.inr (some (.inl en))), .inl 4, .inr (.inr (some (.inl n))), .inr (.inr (some (.inl qr))), .inl tl] [some (.inr (.inr (some (.inl en)))), some (.inl 4), none, none, none, none, none, none, none, none, none] [] (bdA σ en n qr 81920 d b vl v3 v4 v5 v6 tl 4) (fun i v hv => ?_) ?_
  · intro K1 n1 σ0 ca sl hw
    cases hw
    refine ⟨⟨Nat.le_refl _, Nat.le_refl _⟩, fun r σ' hp => ?_⟩
    obtain ⟨-, p1, p2, p3, p4, p5, xs, p6, -⟩ := hp
    cases r with
    | none => cases p5
    | some v =>
      obtain ⟨t, rfl, t1, t2⟩ := aG_obj (by decide) (p6.2 2 _ v rfl rfl).1
      exact ⟨rfl, t, rfl, t1, t2, p1, p2, p3, p4⟩
  · match i, hv with
    | 0, hv => exact hv
    | 1, hv => exact hv
    | i + 2, hv => cases hv
  · refine ⟨⟨rfl, fun i e v he9 hv => ?_⟩, ⟨rfl, fun i k hk9 => ?_⟩, trivial, ⟨bP0, ?_, fun q hq => (by cases hq), fun q hq => (by cases hq), aAllc ⟨[], rfl, rfl⟩ (fun f hf => by cases hf)⟩, hH, hJ, aFr_rf, aFa_rf⟩
    · match i, he9, hv with
      | 0, he9, hv => cases he9; cases hv; exact ⟨⟨by omega, Or.inl hke⟩, trivial⟩
      | 1, he9, hv => cases he9; cases hv; exact ⟨⟨by decide, by decide⟩, trivial⟩
      | 2, he9, hv => cases he9; cases hv; exact ⟨⟨by omega, Or.inl (gK_at)⟩, trivial⟩
      | 3, he9, hv => cases he9; cases hv; exact ⟨⟨by omega, Or.inl ((gK_lo hqr).trans hqk)⟩, trivial⟩
      | 4, he9, hv => cases he9; cases hv; exact ⟨h8, trivial⟩
      | i + 5, he9, _ => cases he9
    · match i, hk9 with
      | 0, hk9 => cases hk9; exact ⟨_, rfl, rfl⟩
      | 1, hk9 => cases hk9; exact ⟨_, rfl, rfl⟩
      | i + 2, hk9 => exact absurd hk9 (by
          match i with
          | 0 | 1 | 2 | 3 | 4 | 5 | 6 | 7 | 8 => intro h9; cases h9
          | i + 9 => intro h9; cases h9)
    · exact aAllc ⟨en, 8, _, .inr (.inr (some (.inl n))), rfl, bdA_en, rfl, rfl⟩ (aAllc ⟨en, 8, _, .inr (.inr (some (.inl qr))), rfl, bdA_en, rfl, rfl⟩ (aAllc ⟨en, 8, _, .inl 4, rfl, bdA_en, rfl, rfl⟩ (aAllc ⟨en, 8, _, .inl tl, rfl, bdA_en, rfl, rfl⟩ (fun f hf => by cases hf))))
set_option maxRecDepth 100000 in
set_option maxHeartbeats 4000000 in
theorem bz_Pn {K : Nat → Nat} {n : Nat} {σ : Nat → jcell} {en qr : Nat} {d b tl kd : Int32} {vl v3 v4 v5 v6 : jv} {g : Nat → Int32} (h : aH fa_T K n σ) (hX : fJX K n σ) (he : en < n) (hk : K en = 23) (hs : σ en = .inr (8, [.inl d, .inl b, vl, v3, v4, v5, v6, .inr (.inr (some (.inl qr))), .inl tl, .inl kd])) (h2 : aG K n (.inr (some (.inl (false, 24)))) vl) (h3 : aG K n (.inr (some (.inl (true, 114)))) v3) (h4 : aG K n (.inr (some (.inl (true, 114)))) v4) (h5 : aG K n (.inr (some (.inl (true, 52)))) v5) (h6 : aG K n (.inr (some (.inl (true, 99999)))) v6) (hqr : qr < n) (h8 : aIn (0, 196608) tl) (hqs : σ qr = .inl (.int, 0, .inl g)) : jMet l E jcl jtb lw_tbl y_EN_build { frames := 3, cells := 2, slots := 393216, locals := 86 } [.inr (.inr (some (.inl en))), .inl 1] σ n (fun r σ' n' => n' = n + 2 ∧ ∃ t, r = some (.inr (.inr (some (.inl t)))) ∧ t < n + 2 ∧ (bK2 K n 52 54) t = 52 ∧ aH fa_T (bK2 K n 52 54) (n + 2) σ' ∧ fJX (bK2 K n 52 54) (n + 2) σ' ∧ aFr (bK2 K n 52 54) (n + 2) [(23, 8)] (bdN σ en n qr 196608 d b vl v3 v4 v5 v6 tl 1) σ' ∧ aFa (bK2 K n 52 54) (n + 2) [(52, ([], 0)), (54, ([], 0))] [.inr (.inr (some (.inl en))), .inl 1] (bdN σ en n qr 196608 d b vl v3 v4 v5 v6 tl 1) σ') := by
  have hne : qr ≠ en := fun e => by
    rw [e, hs] at hqs
    cases hqs
  have hH : aH fa_T (bK2 K n 52 54) (n + 2) (bdN σ en n qr 196608 d b vl v3 v4 v5 v6 tl 1) := bdN_H h he hk hs h2 h3 h4 h5 h6 hqr h8 ⟨by decide, by decide⟩ rfl rfl (by decide) (by decide)
  have hJ : fJX (bK2 K n 52 54) (n + 2) (bdN σ en n qr 196608 d b vl v3 v4 v5 v6 tl 1) := bdN_X hX he hk (by decide) (by decide)
  have hke : (bK2 K n 52 54) en = 23 := by
    rw [← hk]
    exact (gK_lo (by omega)).trans (gK_lo he)
  refine jMet_ofG (hY := rfl) false (fun h => by cases h) (by decide) (Nat.le_of_ble_eq_true rfl) [some (.inr (.inr (some (.inl en)))), some (.inl 1), none, none, none, none, none, none, none, none, none] rfl ?_
  intro M hl hR X hr hsz
  refine bd_Pn X hR (Nat.le_refl _) (Nat.le_refl _) he hs hqr hne hqs ?_
  refine zc_ENbuildP (l := l) (E := E) _ { frames := 3, cells := 2, slots := 393216, locals := 86 } ⟨Nat.le_of_ble_eq_true rfl, Nat.le_of_ble_eq_true rfl⟩ n bP0 [.inr (.inr (some (.inl en))), .inl 1] (fun w => w = ((bK2 K n 52 54), n + 2, (bdN σ en n qr 196608 d b vl v3 v4 v5 v6 tl 1), 2, 393216)) rfl ?_ M hl hR hsz X hr (bK2 K n 52 54) (n + 2) (bdN σ en n qr 196608 d b vl v3 v4 v5 v6 tl 1) 2 393216 rfl _ (List.mem_of_getElem? (i := 0) rfl) [.inr (.inr (some (.inl en))), .inl 1, .inr (.inr (some (.inl n))), .inr (.inr (some (.inl (n + 1))))] [some (.inr (.inr (some (.inl en)))), some (.inl 1), none, none, none, none, none, none, none, none, none] [] (bdN σ en n qr 196608 d b vl v3 v4 v5 v6 tl 1) (fun i v hv => ?_) ?_
  · intro K1 n1 σ0 ca sl hw
    cases hw
    refine ⟨⟨Nat.le_refl _, Nat.le_refl _⟩, fun r σ' hp => ?_⟩
    obtain ⟨-, p1, p2, p3, p4, p5, xs, p6, -⟩ := hp
    cases r with
    | none => cases p5
    | some v =>
      obtain ⟨t, rfl, t1, t2⟩ := aG_obj (by decide) (p6.2 2 _ v rfl rfl).1
      exact ⟨rfl, t, rfl, t1, t2, p1, p2, p3, p4⟩
  · match i, hv with
    | 0, hv => exact hv
    | 1, hv => exact hv
    | i + 2, hv => cases hv
  · refine ⟨⟨rfl, fun i e v he9 hv => ?_⟩, ⟨rfl, fun i k hk9 => ?_⟩, trivial, ⟨bP0, ?_, fun q hq => (by cases hq), fun q hq => (by cases hq), aAllc ⟨[], rfl, rfl⟩ (fun f hf => by cases hf)⟩, hH, hJ, aFr_rf, aFa_rf⟩
    · match i, he9, hv with
      | 0, he9, hv => cases he9; cases hv; exact ⟨⟨by omega, Or.inl hke⟩, trivial⟩
      | 1, he9, hv => cases he9; cases hv; exact ⟨⟨by decide, by decide⟩, trivial⟩
      | 2, he9, hv => cases he9; cases hv; exact ⟨⟨by omega, Or.inl ((gK_lo (Nat.lt_succ_self n)).trans gK_at)⟩, trivial⟩
      | 3, he9, hv => cases he9; cases hv; exact ⟨⟨by omega, Or.inl (gK_at)⟩, trivial⟩
      | i + 4, he9, _ => cases he9
    · match i, hk9 with
      | 0, hk9 => cases hk9; exact ⟨_, rfl, rfl⟩
      | 1, hk9 => cases hk9; exact ⟨_, rfl, rfl⟩
      | i + 2, hk9 => exact absurd hk9 (by
          match i with
          | 0 | 1 | 2 | 3 | 4 | 5 | 6 | 7 | 8 => intro h9; cases h9
          | i + 9 => intro h9; cases h9)
    · exact aAllc ⟨en, 8, _, .inr (.inr (some (.inl n))), rfl, bdN_en, rfl, rfl⟩ (aAllc ⟨en, 8, _, .inr (.inr (some (.inl (n + 1)))), rfl, bdN_en, rfl, rfl⟩ (aAllc ⟨en, 8, _, .inl 1, rfl, bdN_en, rfl, rfl⟩ ((fun f hf => by cases hf))))
set_option maxRecDepth 100000 in
set_option maxHeartbeats 4000000 in
theorem bz_Pq {K : Nat → Nat} {n : Nat} {σ : Nat → jcell} {en qr : Nat} {d b tl kd : Int32} {vl v3 v4 v5 v6 : jv} {g : Nat → Int32} (h : aH fa_T K n σ) (hX : fJX K n σ) (he : en < n) (hk : K en = 23) (hs : σ en = .inr (8, [.inl d, .inl b, vl, v3, v4, v5, v6, .inr (.inr (some (.inl qr))), .inl tl, .inl kd])) (h2 : aG K n (.inr (some (.inl (false, 24)))) vl) (h3 : aG K n (.inr (some (.inl (true, 114)))) v3) (h4 : aG K n (.inr (some (.inl (true, 114)))) v4) (h5 : aG K n (.inr (some (.inl (true, 52)))) v5) (h6 : aG K n (.inr (some (.inl (true, 99999)))) v6) (hqr : qr < n) (h8 : aIn (0, 196608) tl) (hqs : σ qr = .inl (.int, 81920, .inl g)) : jMet l E jcl jtb lw_tbl y_EN_build { frames := 3, cells := 2, slots := 393216, locals := 86 } [.inr (.inr (some (.inl en))), .inl 1] σ n (fun r σ' n' => n' = n + 2 ∧ ∃ t, r = some (.inr (.inr (some (.inl t)))) ∧ t < n + 2 ∧ (bK2 K n 52 54) t = 52 ∧ aH fa_T (bK2 K n 52 54) (n + 2) σ' ∧ fJX (bK2 K n 52 54) (n + 2) σ' ∧ aFr (bK2 K n 52 54) (n + 2) [(23, 8)] (bdN σ en n qr 196608 d b vl v3 v4 v5 v6 tl 1) σ' ∧ aFa (bK2 K n 52 54) (n + 2) [(52, ([], 0)), (54, ([], 0))] [.inr (.inr (some (.inl en))), .inl 1] (bdN σ en n qr 196608 d b vl v3 v4 v5 v6 tl 1) σ') := by
  have hne : qr ≠ en := fun e => by
    rw [e, hs] at hqs
    cases hqs
  have hH : aH fa_T (bK2 K n 52 54) (n + 2) (bdN σ en n qr 196608 d b vl v3 v4 v5 v6 tl 1) := bdN_H h he hk hs h2 h3 h4 h5 h6 hqr h8 ⟨by decide, by decide⟩ rfl rfl (by decide) (by decide)
  have hJ : fJX (bK2 K n 52 54) (n + 2) (bdN σ en n qr 196608 d b vl v3 v4 v5 v6 tl 1) := bdN_X hX he hk (by decide) (by decide)
  have hke : (bK2 K n 52 54) en = 23 := by
    rw [← hk]
    exact (gK_lo (by omega)).trans (gK_lo he)
  refine jMet_ofG (hY := rfl) false (fun h => by cases h) (by decide) (Nat.le_of_ble_eq_true rfl) [some (.inr (.inr (some (.inl en)))), some (.inl 1), none, none, none, none, none, none, none, none, none] rfl ?_
  intro M hl hR X hr hsz
  refine bd_Pq X hR (Nat.le_refl _) (Nat.le_refl _) he hs hqr hne hqs ?_
  refine zc_ENbuildP (l := l) (E := E) _ { frames := 3, cells := 2, slots := 393216, locals := 86 } ⟨Nat.le_of_ble_eq_true rfl, Nat.le_of_ble_eq_true rfl⟩ n bP0 [.inr (.inr (some (.inl en))), .inl 1] (fun w => w = ((bK2 K n 52 54), n + 2, (bdN σ en n qr 196608 d b vl v3 v4 v5 v6 tl 1), 2, 393216)) rfl ?_ M hl hR hsz X hr (bK2 K n 52 54) (n + 2) (bdN σ en n qr 196608 d b vl v3 v4 v5 v6 tl 1) 2 393216 rfl _ (List.mem_of_getElem? (i := 0) rfl) [.inr (.inr (some (.inl en))), .inl 1, .inr (.inr (some (.inl n))), .inr (.inr (some (.inl (n + 1))))] [some (.inr (.inr (some (.inl en)))), some (.inl 1), none, none, none, none, none, none, none, none, none] [] (bdN σ en n qr 196608 d b vl v3 v4 v5 v6 tl 1) (fun i v hv => ?_) ?_
  · intro K1 n1 σ0 ca sl hw
    cases hw
    refine ⟨⟨Nat.le_refl _, Nat.le_refl _⟩, fun r σ' hp => ?_⟩
    obtain ⟨-, p1, p2, p3, p4, p5, xs, p6, -⟩ := hp
    cases r with
    | none => cases p5
    | some v =>
      obtain ⟨t, rfl, t1, t2⟩ := aG_obj (by decide) (p6.2 2 _ v rfl rfl).1
      exact ⟨rfl, t, rfl, t1, t2, p1, p2, p3, p4⟩
  · match i, hv with
    | 0, hv => exact hv
    | 1, hv => exact hv
    | i + 2, hv => cases hv
  · refine ⟨⟨rfl, fun i e v he9 hv => ?_⟩, ⟨rfl, fun i k hk9 => ?_⟩, trivial, ⟨bP0, ?_, fun q hq => (by cases hq), fun q hq => (by cases hq), aAllc ⟨[], rfl, rfl⟩ (fun f hf => by cases hf)⟩, hH, hJ, aFr_rf, aFa_rf⟩
    · match i, he9, hv with
      | 0, he9, hv => cases he9; cases hv; exact ⟨⟨by omega, Or.inl hke⟩, trivial⟩
      | 1, he9, hv => cases he9; cases hv; exact ⟨⟨by decide, by decide⟩, trivial⟩
      | 2, he9, hv => cases he9; cases hv; exact ⟨⟨by omega, Or.inl ((gK_lo (Nat.lt_succ_self n)).trans gK_at)⟩, trivial⟩
      | 3, he9, hv => cases he9; cases hv; exact ⟨⟨by omega, Or.inl (gK_at)⟩, trivial⟩
      | i + 4, he9, _ => cases he9
    · match i, hk9 with
      | 0, hk9 => cases hk9; exact ⟨_, rfl, rfl⟩
      | 1, hk9 => cases hk9; exact ⟨_, rfl, rfl⟩
      | i + 2, hk9 => exact absurd hk9 (by
          match i with
          | 0 | 1 | 2 | 3 | 4 | 5 | 6 | 7 | 8 => intro h9; cases h9
          | i + 9 => intro h9; cases h9)
    · exact aAllc ⟨en, 8, _, .inr (.inr (some (.inl n))), rfl, bdN_en, rfl, rfl⟩ (aAllc ⟨en, 8, _, .inr (.inr (some (.inl (n + 1)))), rfl, bdN_en, rfl, rfl⟩ (aAllc ⟨en, 8, _, .inl 1, rfl, bdN_en, rfl, rfl⟩ ((fun f hf => by cases hf))))
end BDZ
