def bd_lg (j : Nat) : Bool := [false, false, true, false, false, false, false, false, false, true, false].getD j false
def bd_ty (j : Nat) : FieldType := [.int, .int, .long, .int, .int, .int, .int, .int, .int, .long, .int].getD j .int
def bd_len (j : Nat) : Nat := [64, 2, 4, 2, 16, 2, 1024, 512, 512, 1280, 320].getD j 0
def bd_c (A : Nat → Nat → Int32) (L : Nat → Nat → Int64) (j : Nat) : jcell := bif bd_lg j then .inl (.long, bd_len j, .inr (.inl (L j))) else .inl (bd_ty j, bd_len j, .inl (A j))
def bd_fl (n : Nat) (F : Nat → Int32) : List jv := [.inr (.inr (some (.inl (n)))), .inr (.inr (some (.inl (n + 1)))), .inl (F 2), .inl (F 3), .inl (F 4), .inl (F 5), .inl (F 6), .inr (.inr (some (.inl (n + 2)))), .inr (.inr (some (.inl (n + 3)))), .inr (.inr (some (.inl (n + 4)))), .inr (.inr (some (.inl (n + 5)))), .inr (.inr (some (.inl (n + 6)))), .inr (.inr (some (.inl (n + 7)))), .inr (.inr (some (.inl (n + 8)))), .inr (.inr (some (.inl (n + 9)))), .inr (.inr (some (.inl (n + 10)))), .inl (F 16)]
def bdP (σ : Nat → jcell) (a n : Nat) (F : Nat → Int32) (A : Nat → Nat → Int32) (L : Nat → Nat → Int64) : Nat → jcell := fun p => if p = a then .inr (10, bd_fl n F) else if n ≤ p ∧ p < n + 11 then bd_c A L (p - n) else σ p
section PICbd
variable {σ : Nat → jcell} {a n : Nat} {F : Nat → Int32} {A : Nat → Nat → Int32} {L : Nat → Nat → Int64}
theorem bd_a : bdP σ a n F A L a = .inr (10, bd_fl n F) := if_pos rfl
theorem bd_g {j : Nat} (ha : a < n) (hj : j < 11) : bdP σ a n F A L (n + j) = bd_c A L j := by
  unfold bdP
  rw [if_neg (by omega), if_pos ⟨by omega, by omega⟩, Nat.add_sub_cancel_left]
theorem bd_ug {j : Nat} {f : Nat → Int32} (ha : a < n) (hj : j < 11) (hl : bd_lg j = false) : jup (bdP σ a n F A L) (n + j) (.inl (bd_ty j, bd_len j, .inl f)) = bdP σ a n F (va_up A j f) L := by
  funext p
  by_cases h : p = n + j
  · subst h
    rw [jup_s, bd_g ha hj]
    simp [bd_c, va_up, hl]
  · rw [jup_n h]
    unfold bdP
    by_cases h1 : p = a
    · rw [if_pos h1, if_pos h1]
    · rw [if_neg h1, if_neg h1]
      by_cases h2 : n ≤ p ∧ p < n + 11
      · rw [if_pos h2, if_pos h2]
        have h3 : ¬ p - n = j := by omega
        simp [bd_c, va_up, h3]
      · rw [if_neg h2, if_neg h2]
theorem bd_ul {j : Nat} {f : Nat → Int64} (ha : a < n) (hj : j < 11) (hl : bd_lg j = true) : jup (bdP σ a n F A L) (n + j) (.inl (.long, bd_len j, .inr (.inl f))) = bdP σ a n F A (va_up L j f) := by
  funext p
  by_cases h : p = n + j
  · subst h
    rw [jup_s, bd_g ha hj]
    simp [bd_c, va_up, hl]
  · rw [jup_n h]
    unfold bdP
    by_cases h1 : p = a
    · rw [if_pos h1, if_pos h1]
    · rw [if_neg h1, if_neg h1]
      by_cases h2 : n ≤ p ∧ p < n + 11
      · rw [if_pos h2, if_pos h2]
        have h3 : ¬ p - n = j := by omega
        simp [bd_c, va_up, h3]
      · rw [if_neg h2, if_neg h2]
theorem bd_ua {F' : Nat → Int32} : jup (bdP σ a n F A L) a (.inr (10, bd_fl n F')) = bdP σ a n F' A L := by
  funext p
  by_cases h : p = a
  · subst h
    rw [jup_s, bd_a]
  · rw [jup_n h]
    unfold bdP
    rw [if_neg h, if_neg h]
theorem bd_jmk (ha : a < n) {fs : List jv} {cs : List jcell} (hf : fs = bd_fl n F) (hc : cs = (List.range 11).map (bd_c A L)) (k : Nat) (hk : k < n + 11) : jmk σ a n (.inr (10, fs)) cs k = bdP σ a n F A L k := by
  subst hf; subst hc
  unfold jmk bdP
  by_cases h1 : k = a
  · rw [if_pos h1, if_pos h1]
  · rw [if_neg h1, if_neg h1]
    by_cases h2 : k < n
    · rw [if_pos h2, if_neg (by omega)]
    · rw [if_neg h2, if_pos ⟨by omega, hk⟩]
      simp only [List.getD, List.getElem?_map]
      rw [List.getElem?_range (by omega)]
      rfl
theorem bd_r0 (ha : a < n) : bdP σ a n F A L (n) = .inl (.int, 64, .inl (A 0)) := bd_g (j := 0) ha (by decide)
theorem bd_u0 {f : Nat → Int32} (ha : a < n) : jup (bdP σ a n F A L) (n) (.inl (.int, 64, .inl f)) = bdP σ a n F (va_up A 0 f) L := bd_ug (j := 0) ha (by decide) rfl
theorem bd_r1 (ha : a < n) : bdP σ a n F A L (n + 1) = .inl (.int, 2, .inl (A 1)) := bd_g (j := 1) ha (by decide)
theorem bd_u1 {f : Nat → Int32} (ha : a < n) : jup (bdP σ a n F A L) (n + 1) (.inl (.int, 2, .inl f)) = bdP σ a n F (va_up A 1 f) L := bd_ug (j := 1) ha (by decide) rfl
theorem bd_r2 (ha : a < n) : bdP σ a n F A L (n + 2) = .inl (.long, 4, .inr (.inl (L 2))) := bd_g (j := 2) ha (by decide)
theorem bd_u2 {f : Nat → Int64} (ha : a < n) : jup (bdP σ a n F A L) (n + 2) (.inl (.long, 4, .inr (.inl f))) = bdP σ a n F A (va_up L 2 f) := bd_ul (j := 2) ha (by decide) rfl
theorem bd_r3 (ha : a < n) : bdP σ a n F A L (n + 3) = .inl (.int, 2, .inl (A 3)) := bd_g (j := 3) ha (by decide)
theorem bd_u3 {f : Nat → Int32} (ha : a < n) : jup (bdP σ a n F A L) (n + 3) (.inl (.int, 2, .inl f)) = bdP σ a n F (va_up A 3 f) L := bd_ug (j := 3) ha (by decide) rfl
theorem bd_r4 (ha : a < n) : bdP σ a n F A L (n + 4) = .inl (.int, 16, .inl (A 4)) := bd_g (j := 4) ha (by decide)
theorem bd_u4 {f : Nat → Int32} (ha : a < n) : jup (bdP σ a n F A L) (n + 4) (.inl (.int, 16, .inl f)) = bdP σ a n F (va_up A 4 f) L := bd_ug (j := 4) ha (by decide) rfl
theorem bd_r5 (ha : a < n) : bdP σ a n F A L (n + 5) = .inl (.int, 2, .inl (A 5)) := bd_g (j := 5) ha (by decide)
theorem bd_u5 {f : Nat → Int32} (ha : a < n) : jup (bdP σ a n F A L) (n + 5) (.inl (.int, 2, .inl f)) = bdP σ a n F (va_up A 5 f) L := bd_ug (j := 5) ha (by decide) rfl
theorem bd_r6 (ha : a < n) : bdP σ a n F A L (n + 6) = .inl (.int, 1024, .inl (A 6)) := bd_g (j := 6) ha (by decide)
theorem bd_u6 {f : Nat → Int32} (ha : a < n) : jup (bdP σ a n F A L) (n + 6) (.inl (.int, 1024, .inl f)) = bdP σ a n F (va_up A 6 f) L := bd_ug (j := 6) ha (by decide) rfl
theorem bd_r7 (ha : a < n) : bdP σ a n F A L (n + 7) = .inl (.int, 512, .inl (A 7)) := bd_g (j := 7) ha (by decide)
theorem bd_u7 {f : Nat → Int32} (ha : a < n) : jup (bdP σ a n F A L) (n + 7) (.inl (.int, 512, .inl f)) = bdP σ a n F (va_up A 7 f) L := bd_ug (j := 7) ha (by decide) rfl
theorem bd_r8 (ha : a < n) : bdP σ a n F A L (n + 8) = .inl (.int, 512, .inl (A 8)) := bd_g (j := 8) ha (by decide)
theorem bd_u8 {f : Nat → Int32} (ha : a < n) : jup (bdP σ a n F A L) (n + 8) (.inl (.int, 512, .inl f)) = bdP σ a n F (va_up A 8 f) L := bd_ug (j := 8) ha (by decide) rfl
theorem bd_r9 (ha : a < n) : bdP σ a n F A L (n + 9) = .inl (.long, 1280, .inr (.inl (L 9))) := bd_g (j := 9) ha (by decide)
theorem bd_u9 {f : Nat → Int64} (ha : a < n) : jup (bdP σ a n F A L) (n + 9) (.inl (.long, 1280, .inr (.inl f))) = bdP σ a n F A (va_up L 9 f) := bd_ul (j := 9) ha (by decide) rfl
theorem bd_r10 (ha : a < n) : bdP σ a n F A L (n + 10) = .inl (.int, 320, .inl (A 10)) := bd_g (j := 10) ha (by decide)
theorem bd_u10 {f : Nat → Int32} (ha : a < n) : jup (bdP σ a n F A L) (n + 10) (.inl (.int, 320, .inl f)) = bdP σ a n F (va_up A 10 f) L := bd_ug (j := 10) ha (by decide) rfl
theorem bd_f2 : (bd_fl n F)[2]? = some (.inl (F 2)) := rfl
theorem bd_s2 {x : Int32} : (bd_fl n F).set 2 (.inl x) = bd_fl n (va_up F 2 x) := by
  simp [bd_fl, va_up]
theorem bd_f3 : (bd_fl n F)[3]? = some (.inl (F 3)) := rfl
theorem bd_s3 {x : Int32} : (bd_fl n F).set 3 (.inl x) = bd_fl n (va_up F 3 x) := by
  simp [bd_fl, va_up]
theorem bd_f4 : (bd_fl n F)[4]? = some (.inl (F 4)) := rfl
theorem bd_s4 {x : Int32} : (bd_fl n F).set 4 (.inl x) = bd_fl n (va_up F 4 x) := by
  simp [bd_fl, va_up]
theorem bd_f5 : (bd_fl n F)[5]? = some (.inl (F 5)) := rfl
theorem bd_s5 {x : Int32} : (bd_fl n F).set 5 (.inl x) = bd_fl n (va_up F 5 x) := by
  simp [bd_fl, va_up]
theorem bd_f6 : (bd_fl n F)[6]? = some (.inl (F 6)) := rfl
theorem bd_s6 {x : Int32} : (bd_fl n F).set 6 (.inl x) = bd_fl n (va_up F 6 x) := by
  simp [bd_fl, va_up]
theorem bd_f16 : (bd_fl n F)[16]? = some (.inl (F 16)) := rfl
theorem bd_s16 {x : Int32} : (bd_fl n F).set 16 (.inl x) = bd_fl n (va_up F 16 x) := by
  simp [bd_fl, va_up]
theorem bd_f0 : (bd_fl n F)[0]? = some (.inr (.inr (some (.inl (n))))) := rfl
theorem bd_f1 : (bd_fl n F)[1]? = some (.inr (.inr (some (.inl (n + 1))))) := rfl
theorem bd_f7 : (bd_fl n F)[7]? = some (.inr (.inr (some (.inl (n + 2))))) := rfl
theorem bd_f8 : (bd_fl n F)[8]? = some (.inr (.inr (some (.inl (n + 3))))) := rfl
theorem bd_f9 : (bd_fl n F)[9]? = some (.inr (.inr (some (.inl (n + 4))))) := rfl
theorem bd_f10 : (bd_fl n F)[10]? = some (.inr (.inr (some (.inl (n + 5))))) := rfl
theorem bd_f11 : (bd_fl n F)[11]? = some (.inr (.inr (some (.inl (n + 6))))) := rfl
theorem bd_f12 : (bd_fl n F)[12]? = some (.inr (.inr (some (.inl (n + 7))))) := rfl
theorem bd_f13 : (bd_fl n F)[13]? = some (.inr (.inr (some (.inl (n + 8))))) := rfl
theorem bd_f14 : (bd_fl n F)[14]? = some (.inr (.inr (some (.inl (n + 9))))) := rfl
theorem bd_f15 : (bd_fl n F)[15]? = some (.inr (.inr (some (.inl (n + 10))))) := rfl
theorem bd_l : (bd_fl n F).length = 17 := rfl
end PICbd
set_option maxRecDepth 100000 in
set_option maxHeartbeats 4000000 in
theorem c_BO_clear (l : Launch) (E : jE) (σ : Nat → jcell) (n : Nat) (a n0 : Nat) (hab : a < n0) (hn0 : n0 + 11 ≤ n) (F : Nat → Int32) (A : Nat → Nat → Int32) (L : Nat → Nat → Int64) : jMet l E jcl jtb lw_tbl y_BO_clear { frames := 1, cells := 0, slots := 0, locals := 40 } [.inr (.inr (some (.inl (a))))] (bdP σ a n0 F A L) n (fun r σ' n' => ∃ (F' : Nat → Int32) (A' : Nat → Nat → Int32) (L' : Nat → Nat → Int64), r = none ∧ n' = n ∧ σ' = (bdP σ a n0 F' A' L')) := by
  refine jMet_of (hY := rfl) false (fun h => by cases h) (by decide) (Nat.le_of_ble_eq_true rfl) [some (.inr (.inr (some (.inl (a)))))] rfl ?_
  intro M hl hR X hr
  have hb0 : (n0 < n) = True := eq_true (by omega)
  have hb1 : (n0 + 1 < n) = True := eq_true (by omega)
  have hb2 : (n0 + 2 < n) = True := eq_true (by omega)
  have hb3 : (n0 + 3 < n) = True := eq_true (by omega)
  have hb4 : (n0 + 4 < n) = True := eq_true (by omega)
  have hb5 : (n0 + 5 < n) = True := eq_true (by omega)
  have hb6 : (n0 + 6 < n) = True := eq_true (by omega)
  have hb7 : (n0 + 7 < n) = True := eq_true (by omega)
  have hb8 : (n0 + 8 < n) = True := eq_true (by omega)
  have hb9 : (n0 + 9 < n) = True := eq_true (by omega)
  have hb10 : (n0 + 10 < n) = True := eq_true (by omega)
  have haa : (a < n) = True := eq_true (by omega)
  refine jrun_ok jC X k_BO_clear_0 0 _ _ _ o_BO_clear_0 ?_
  simp only [k_BO_clear_0, jrun, jstep, jldi, jldl, jlda, j1, j2, jl1, jl2, jli, ja1, jbr, jald, jast, jlald, jlast, jalen, jget, jput, jfit, jdup, jdupx, jdupx2, jdup2, jcat, jset1, jset2, jkill, List.getElem?_cons_zero, List.getElem?_cons_succ, List.set_cons_zero, List.set_cons_succ, List.length_cons, List.length_nil, Nat.reduceAdd, Nat.reduceLT, Int32.reduceToNatClampNeg, true_and, and_true, and_self, reduceCtorEq, not_false_eq_true, false_and, and_false, or_false, false_or, true_or, or_true, bd_a, bd_ua, bd_l, vp_nar_int32, haa, bd_r0 hab, bd_u0 hab, hb0, bd_r1 hab, bd_u1 hab, hb1, bd_r2 hab, bd_u2 hab, hb2, bd_r3 hab, bd_u3 hab, hb3, bd_r4 hab, bd_u4 hab, hb4, bd_r5 hab, bd_u5 hab, hb5, bd_r6 hab, bd_u6 hab, hb6, bd_r7 hab, bd_u7 hab, hb7, bd_r8 hab, bd_u8 hab, hb8, bd_r9 hab, bd_u9 hab, hb9, bd_r10 hab, bd_u10 hab, hb10, bd_f0, bd_f1, bd_f2, bd_f3, bd_f4, bd_f5, bd_f6, bd_f7, bd_f8, bd_f9, bd_f10, bd_f11, bd_f12, bd_f13, bd_f14, bd_f15, bd_f16, bd_s2, bd_s3, bd_s4, bd_s5, bd_s6, bd_s16]
  refine jk_Sg X hR d_BO_clear_5 q_BO_clear_5 m_AR_fill2 s_AR_fill2 (r := []) (c_AR_fill2 M.2.1 E _ _ (n0) (by omega) 64 (by decide) _ (bd_r0 hab) 0) rfl rfl ⟨Nat.le_of_ble_eq_true rfl, Nat.le_of_ble_eq_true rfl⟩ (c' := 0) rfl (s' := 0) rfl ⟨Nat.le_of_ble_eq_true rfl, Nat.le_of_ble_eq_true rfl⟩ (Nat.le_of_ble_eq_true rfl) (pc' := 8) rfl ?_
  rintro _ _ _ ⟨g0, rfl, hn2, rfl, -⟩
  obtain rfl : n = _ := hn2.symm
  simp only [Option.toList_none, List.nil_append, bd_u0 hab]
  refine jrun_ok jC X k_BO_clear_8 8 _ _ _ o_BO_clear_8 ?_
  simp only [k_BO_clear_8, jrun, jstep, jldi, jldl, jlda, j1, j2, jl1, jl2, jli, ja1, jbr, jald, jast, jlald, jlast, jalen, jget, jput, jfit, jdup, jdupx, jdupx2, jdup2, jcat, jset1, jset2, jkill, List.getElem?_cons_zero, List.getElem?_cons_succ, List.set_cons_zero, List.set_cons_succ, List.length_cons, List.length_nil, Nat.reduceAdd, Nat.reduceLT, Int32.reduceToNatClampNeg, true_and, and_true, and_self, reduceCtorEq, not_false_eq_true, false_and, and_false, or_false, false_or, true_or, or_true, bd_a, bd_ua, bd_l, vp_nar_int32, haa, bd_r0 hab, bd_u0 hab, hb0, bd_r1 hab, bd_u1 hab, hb1, bd_r2 hab, bd_u2 hab, hb2, bd_r3 hab, bd_u3 hab, hb3, bd_r4 hab, bd_u4 hab, hb4, bd_r5 hab, bd_u5 hab, hb5, bd_r6 hab, bd_u6 hab, hb6, bd_r7 hab, bd_u7 hab, hb7, bd_r8 hab, bd_u8 hab, hb8, bd_r9 hab, bd_u9 hab, hb9, bd_r10 hab, bd_u10 hab, hb10, bd_f0, bd_f1, bd_f2, bd_f3, bd_f4, bd_f5, bd_f6, bd_f7, bd_f8, bd_f9, bd_f10, bd_f11, bd_f12, bd_f13, bd_f14, bd_f15, bd_f16, bd_s2, bd_s3, bd_s4, bd_s5, bd_s6, bd_s16]
  refine jk_Sg X hR d_BO_clear_13 q_BO_clear_13 m_AR_fill2 s_AR_fill2 (r := []) (c_AR_fill2 M.2.1 E _ _ (n0 + 1) (by omega) 2 (by decide) _ (bd_r1 hab) 0) rfl rfl ⟨Nat.le_of_ble_eq_true rfl, Nat.le_of_ble_eq_true rfl⟩ (c' := 0) rfl (s' := 0) rfl ⟨Nat.le_of_ble_eq_true rfl, Nat.le_of_ble_eq_true rfl⟩ (Nat.le_of_ble_eq_true rfl) (pc' := 16) rfl ?_
  rintro _ _ _ ⟨g1, rfl, hn2, rfl, -⟩
  obtain rfl : n = _ := hn2.symm
  simp only [Option.toList_none, List.nil_append, bd_u1 hab]
  refine jrun_ok jC X k_BO_clear_16 16 _ _ _ o_BO_clear_16 ?_
  simp only [k_BO_clear_16, jrun, jstep, jldi, jldl, jlda, j1, j2, jl1, jl2, jli, ja1, jbr, jald, jast, jlald, jlast, jalen, jget, jput, jfit, jdup, jdupx, jdupx2, jdup2, jcat, jset1, jset2, jkill, List.getElem?_cons_zero, List.getElem?_cons_succ, List.set_cons_zero, List.set_cons_succ, List.length_cons, List.length_nil, Nat.reduceAdd, Nat.reduceLT, Int32.reduceToNatClampNeg, true_and, and_true, and_self, reduceCtorEq, not_false_eq_true, false_and, and_false, or_false, false_or, true_or, or_true, bd_a, bd_ua, bd_l, vp_nar_int32, haa, bd_r0 hab, bd_u0 hab, hb0, bd_r1 hab, bd_u1 hab, hb1, bd_r2 hab, bd_u2 hab, hb2, bd_r3 hab, bd_u3 hab, hb3, bd_r4 hab, bd_u4 hab, hb4, bd_r5 hab, bd_u5 hab, hb5, bd_r6 hab, bd_u6 hab, hb6, bd_r7 hab, bd_u7 hab, hb7, bd_r8 hab, bd_u8 hab, hb8, bd_r9 hab, bd_u9 hab, hb9, bd_r10 hab, bd_u10 hab, hb10, bd_f0, bd_f1, bd_f2, bd_f3, bd_f4, bd_f5, bd_f6, bd_f7, bd_f8, bd_f9, bd_f10, bd_f11, bd_f12, bd_f13, bd_f14, bd_f15, bd_f16, bd_s2, bd_s3, bd_s4, bd_s5, bd_s6, bd_s16]
  refine jk_Sg X hR d_BO_clear_21 q_BO_clear_21 m_AR_fill3 s_AR_fill3 (r := []) (c_AR_fill3 M.2.1 E _ _ (n0 + 2) (by omega) 4 (by decide) _ (bd_r2 hab) 0) rfl rfl ⟨Nat.le_of_ble_eq_true rfl, Nat.le_of_ble_eq_true rfl⟩ (c' := 0) rfl (s' := 0) rfl ⟨Nat.le_of_ble_eq_true rfl, Nat.le_of_ble_eq_true rfl⟩ (Nat.le_of_ble_eq_true rfl) (pc' := 24) rfl ?_
  rintro _ _ _ ⟨g2, rfl, hn2, rfl, -⟩
  obtain rfl : n = _ := hn2.symm
  simp only [Option.toList_none, List.nil_append, bd_u2 hab]
  refine jrun_ok jC X k_BO_clear_24 24 _ _ _ o_BO_clear_24 ?_
  simp only [k_BO_clear_24, jrun, jstep, jldi, jldl, jlda, j1, j2, jl1, jl2, jli, ja1, jbr, jald, jast, jlald, jlast, jalen, jget, jput, jfit, jdup, jdupx, jdupx2, jdup2, jcat, jset1, jset2, jkill, List.getElem?_cons_zero, List.getElem?_cons_succ, List.set_cons_zero, List.set_cons_succ, List.length_cons, List.length_nil, Nat.reduceAdd, Nat.reduceLT, Int32.reduceToNatClampNeg, true_and, and_true, and_self, reduceCtorEq, not_false_eq_true, false_and, and_false, or_false, false_or, true_or, or_true, bd_a, bd_ua, bd_l, vp_nar_int32, haa, bd_r0 hab, bd_u0 hab, hb0, bd_r1 hab, bd_u1 hab, hb1, bd_r2 hab, bd_u2 hab, hb2, bd_r3 hab, bd_u3 hab, hb3, bd_r4 hab, bd_u4 hab, hb4, bd_r5 hab, bd_u5 hab, hb5, bd_r6 hab, bd_u6 hab, hb6, bd_r7 hab, bd_u7 hab, hb7, bd_r8 hab, bd_u8 hab, hb8, bd_r9 hab, bd_u9 hab, hb9, bd_r10 hab, bd_u10 hab, hb10, bd_f0, bd_f1, bd_f2, bd_f3, bd_f4, bd_f5, bd_f6, bd_f7, bd_f8, bd_f9, bd_f10, bd_f11, bd_f12, bd_f13, bd_f14, bd_f15, bd_f16, bd_s2, bd_s3, bd_s4, bd_s5, bd_s6, bd_s16]
  refine jk_Sg X hR d_BO_clear_29 q_BO_clear_29 m_AR_fill2 s_AR_fill2 (r := []) (c_AR_fill2 M.2.1 E _ _ (n0 + 3) (by omega) 2 (by decide) _ (bd_r3 hab) 0) rfl rfl ⟨Nat.le_of_ble_eq_true rfl, Nat.le_of_ble_eq_true rfl⟩ (c' := 0) rfl (s' := 0) rfl ⟨Nat.le_of_ble_eq_true rfl, Nat.le_of_ble_eq_true rfl⟩ (Nat.le_of_ble_eq_true rfl) (pc' := 32) rfl ?_
  rintro _ _ _ ⟨g3, rfl, hn2, rfl, -⟩
  obtain rfl : n = _ := hn2.symm
  simp only [Option.toList_none, List.nil_append, bd_u3 hab]
  refine jrun_ok jC X k_BO_clear_32 32 _ _ _ o_BO_clear_32 ?_
  simp only [k_BO_clear_32, jrun, jstep, jldi, jldl, jlda, j1, j2, jl1, jl2, jli, ja1, jbr, jald, jast, jlald, jlast, jalen, jget, jput, jfit, jdup, jdupx, jdupx2, jdup2, jcat, jset1, jset2, jkill, List.getElem?_cons_zero, List.getElem?_cons_succ, List.set_cons_zero, List.set_cons_succ, List.length_cons, List.length_nil, Nat.reduceAdd, Nat.reduceLT, Int32.reduceToNatClampNeg, true_and, and_true, and_self, reduceCtorEq, not_false_eq_true, false_and, and_false, or_false, false_or, true_or, or_true, bd_a, bd_ua, bd_l, vp_nar_int32, haa, bd_r0 hab, bd_u0 hab, hb0, bd_r1 hab, bd_u1 hab, hb1, bd_r2 hab, bd_u2 hab, hb2, bd_r3 hab, bd_u3 hab, hb3, bd_r4 hab, bd_u4 hab, hb4, bd_r5 hab, bd_u5 hab, hb5, bd_r6 hab, bd_u6 hab, hb6, bd_r7 hab, bd_u7 hab, hb7, bd_r8 hab, bd_u8 hab, hb8, bd_r9 hab, bd_u9 hab, hb9, bd_r10 hab, bd_u10 hab, hb10, bd_f0, bd_f1, bd_f2, bd_f3, bd_f4, bd_f5, bd_f6, bd_f7, bd_f8, bd_f9, bd_f10, bd_f11, bd_f12, bd_f13, bd_f14, bd_f15, bd_f16, bd_s2, bd_s3, bd_s4, bd_s5, bd_s6, bd_s16]
  refine jk_Sg X hR d_BO_clear_37 q_BO_clear_37 m_AR_fill2 s_AR_fill2 (r := []) (c_AR_fill2 M.2.1 E _ _ (n0 + 4) (by omega) 16 (by decide) _ (bd_r4 hab) 0) rfl rfl ⟨Nat.le_of_ble_eq_true rfl, Nat.le_of_ble_eq_true rfl⟩ (c' := 0) rfl (s' := 0) rfl ⟨Nat.le_of_ble_eq_true rfl, Nat.le_of_ble_eq_true rfl⟩ (Nat.le_of_ble_eq_true rfl) (pc' := 40) rfl ?_
  rintro _ _ _ ⟨g4, rfl, hn2, rfl, -⟩
  obtain rfl : n = _ := hn2.symm
  simp only [Option.toList_none, List.nil_append, bd_u4 hab]
  refine jrun_ok jC X k_BO_clear_40 40 _ _ _ o_BO_clear_40 ?_
  simp only [k_BO_clear_40, jrun, jstep, jldi, jldl, jlda, j1, j2, jl1, jl2, jli, ja1, jbr, jald, jast, jlald, jlast, jalen, jget, jput, jfit, jdup, jdupx, jdupx2, jdup2, jcat, jset1, jset2, jkill, List.getElem?_cons_zero, List.getElem?_cons_succ, List.set_cons_zero, List.set_cons_succ, List.length_cons, List.length_nil, Nat.reduceAdd, Nat.reduceLT, Int32.reduceToNatClampNeg, true_and, and_true, and_self, reduceCtorEq, not_false_eq_true, false_and, and_false, or_false, false_or, true_or, or_true, bd_a, bd_ua, bd_l, vp_nar_int32, haa, bd_r0 hab, bd_u0 hab, hb0, bd_r1 hab, bd_u1 hab, hb1, bd_r2 hab, bd_u2 hab, hb2, bd_r3 hab, bd_u3 hab, hb3, bd_r4 hab, bd_u4 hab, hb4, bd_r5 hab, bd_u5 hab, hb5, bd_r6 hab, bd_u6 hab, hb6, bd_r7 hab, bd_u7 hab, hb7, bd_r8 hab, bd_u8 hab, hb8, bd_r9 hab, bd_u9 hab, hb9, bd_r10 hab, bd_u10 hab, hb10, bd_f0, bd_f1, bd_f2, bd_f3, bd_f4, bd_f5, bd_f6, bd_f7, bd_f8, bd_f9, bd_f10, bd_f11, bd_f12, bd_f13, bd_f14, bd_f15, bd_f16, bd_s2, bd_s3, bd_s4, bd_s5, bd_s6, bd_s16]
  refine jk_Sg X hR d_BO_clear_45 q_BO_clear_45 m_AR_fill2 s_AR_fill2 (r := []) (c_AR_fill2 M.2.1 E _ _ (n0 + 5) (by omega) 2 (by decide) _ (bd_r5 hab) 0) rfl rfl ⟨Nat.le_of_ble_eq_true rfl, Nat.le_of_ble_eq_true rfl⟩ (c' := 0) rfl (s' := 0) rfl ⟨Nat.le_of_ble_eq_true rfl, Nat.le_of_ble_eq_true rfl⟩ (Nat.le_of_ble_eq_true rfl) (pc' := 48) rfl ?_
  rintro _ _ _ ⟨g5, rfl, hn2, rfl, -⟩
  obtain rfl : n = _ := hn2.symm
  simp only [Option.toList_none, List.nil_append, bd_u5 hab]
  refine jrun_ok jC X k_BO_clear_48 48 _ _ _ o_BO_clear_48 ?_
  simp only [k_BO_clear_48, jrun, jstep, jldi, jldl, jlda, j1, j2, jl1, jl2, jli, ja1, jbr, jald, jast, jlald, jlast, jalen, jget, jput, jfit, jdup, jdupx, jdupx2, jdup2, jcat, jset1, jset2, jkill, List.getElem?_cons_zero, List.getElem?_cons_succ, List.set_cons_zero, List.set_cons_succ, List.length_cons, List.length_nil, Nat.reduceAdd, Nat.reduceLT, Int32.reduceToNatClampNeg, true_and, and_true, and_self, reduceCtorEq, not_false_eq_true, false_and, and_false, or_false, false_or, true_or, or_true, bd_a, bd_ua, bd_l, vp_nar_int32, haa, bd_r0 hab, bd_u0 hab, hb0, bd_r1 hab, bd_u1 hab, hb1, bd_r2 hab, bd_u2 hab, hb2, bd_r3 hab, bd_u3 hab, hb3, bd_r4 hab, bd_u4 hab, hb4, bd_r5 hab, bd_u5 hab, hb5, bd_r6 hab, bd_u6 hab, hb6, bd_r7 hab, bd_u7 hab, hb7, bd_r8 hab, bd_u8 hab, hb8, bd_r9 hab, bd_u9 hab, hb9, bd_r10 hab, bd_u10 hab, hb10, bd_f0, bd_f1, bd_f2, bd_f3, bd_f4, bd_f5, bd_f6, bd_f7, bd_f8, bd_f9, bd_f10, bd_f11, bd_f12, bd_f13, bd_f14, bd_f15, bd_f16, bd_s2, bd_s3, bd_s4, bd_s5, bd_s6, bd_s16]
  exact jk_vret X d_BO_clear_78 hr (Nat.le_refl _) (Nat.le_refl _) ⟨_, _, _, rfl, rfl, rfl⟩
theorem bd_p1 : ∀ s, s < 64 → vp_in (nI s >>> (4 &&& 31)) 4 ∧ vp_in ((nI s ^^^ nI s >>> (3 &&& 31)) &&& 1) 2 := by
  unfold vp_in
  decide +kernel
theorem bd_p2 : ∀ m, m < 16 → vp_in (nI m >>> (3 &&& 31)) 2 := by
  unfold vp_in
  decide +kernel
theorem bd_p3 : ∀ m, m < 16 → ∀ s, s < 64 → vp_in (nI m <<< (6 &&& 31) ||| nI s) 1024 := by
  unfold vp_in
  decide +kernel
set_option maxRecDepth 100000 in
set_option maxHeartbeats 4000000 in
theorem c_BO_put (l : Launch) (E : jE) (σ : Nat → jcell) (n : Nat) (a n0 : Nat) (hab : a < n0) (hn0 : n0 + 11 ≤ n) (F : Nat → Int32) (A : Nat → Nat → Int32) (L : Nat → Nat → Int64) (x y : Int32) (s m : Nat) (hs : s < 64) (hm : m < 16) (hx : x = nI s) (hy : y = nI m) : jMet l E jcl jtb lw_tbl y_BO_put { frames := 0, cells := 0, slots := 0, locals := 0 } [.inr (.inr (some (.inl (a)))), .inl x, .inl y] (bdP σ a n0 F A L) n (fun r σ' n' => ∃ (A' : Nat → Nat → Int32) (L' : Nat → Nat → Int64), r = none ∧ n' = n ∧ σ' = (bdP σ a n0 F A' L')) := by
  refine jMet_of (hY := rfl) false (fun h => by cases h) (by decide) (Nat.le_of_ble_eq_true rfl) [some (.inr (.inr (some (.inl (a))))), some (.inl x), some (.inl y)] rfl ?_
  intro M hl hR X hr
  have hb0 : (n0 < n) = True := eq_true (by omega)
  have hb1 : (n0 + 1 < n) = True := eq_true (by omega)
  have hb2 : (n0 + 2 < n) = True := eq_true (by omega)
  have hb3 : (n0 + 3 < n) = True := eq_true (by omega)
  have hb4 : (n0 + 4 < n) = True := eq_true (by omega)
  have hb5 : (n0 + 5 < n) = True := eq_true (by omega)
  have hb6 : (n0 + 6 < n) = True := eq_true (by omega)
  have hb7 : (n0 + 7 < n) = True := eq_true (by omega)
  have hb8 : (n0 + 8 < n) = True := eq_true (by omega)
  have hb9 : (n0 + 9 < n) = True := eq_true (by omega)
  have hb10 : (n0 + 10 < n) = True := eq_true (by omega)
  have haa : (a < n) = True := eq_true (by omega)
  subst hx; subst hy
  have v1 : vp_in (nI s) 64 = True := eq_true (vp_in_nI hs (by decide))
  have v2 : vp_in (nI s >>> (4 &&& 31)) 4 = True := eq_true (bd_p1 s hs).1
  have v3 : vp_in (nI m >>> (3 &&& 31)) 2 = True := eq_true (bd_p2 m hm)
  have v4 : vp_in (nI m <<< (6 &&& 31) ||| nI s) 1024 = True := eq_true (bd_p3 m hm s hs)
  have v5 : vp_in (nI m) 16 = True := eq_true (vp_in_nI hm (by decide))
  have v6 : vp_in ((nI s ^^^ nI s >>> (3 &&& 31)) &&& 1) 2 = True := eq_true (bd_p1 s hs).2
  refine jrun_ok jC X k_BO_put_0 0 _ _ _ o_BO_put_0 ?_
  simp only [k_BO_put_0, jrun, jstep, jldi, jldl, jlda, j1, j2, jl1, jl2, jli, ja1, jbr, jald, jast, jlald, jlast, jalen, jget, jput, jfit, jdup, jdupx, jdupx2, jdup2, jcat, jset1, jset2, jkill, List.getElem?_cons_zero, List.getElem?_cons_succ, List.set_cons_zero, List.set_cons_succ, List.length_cons, List.length_nil, Nat.reduceAdd, Nat.reduceLT, Int32.reduceToNatClampNeg, true_and, and_true, and_self, reduceCtorEq, not_false_eq_true, false_and, and_false, or_false, false_or, true_or, or_true, bd_a, bd_ua, bd_l, vp_nar_int32, haa, bd_r0 hab, bd_u0 hab, hb0, bd_r1 hab, bd_u1 hab, hb1, bd_r2 hab, bd_u2 hab, hb2, bd_r3 hab, bd_u3 hab, hb3, bd_r4 hab, bd_u4 hab, hb4, bd_r5 hab, bd_u5 hab, hb5, bd_r6 hab, bd_u6 hab, hb6, bd_r7 hab, bd_u7 hab, hb7, bd_r8 hab, bd_u8 hab, hb8, bd_r9 hab, bd_u9 hab, hb9, bd_r10 hab, bd_u10 hab, hb10, bd_f0, bd_f1, bd_f2, bd_f3, bd_f4, bd_f5, bd_f6, bd_f7, bd_f8, bd_f9, bd_f10, bd_f11, bd_f12, bd_f13, bd_f14, bd_f15, bd_f16, bd_s2, bd_s3, bd_s4, bd_s5, bd_s6, bd_s16, v1, v2, v3, v4, v5, v6]
  refine ⟨fun _ => ?_, fun _ => ?_⟩
  · refine jrun_ok jC X k_BO_put_86 86 _ _ _ o_BO_put_86 ?_
    simp only [k_BO_put_86, jrun, jstep, jldi, jldl, jlda, j1, j2, jl1, jl2, jli, ja1, jbr, jald, jast, jlald, jlast, jalen, jget, jput, jfit, jdup, jdupx, jdupx2, jdup2, jcat, jset1, jset2, jkill, List.getElem?_cons_zero, List.getElem?_cons_succ, List.set_cons_zero, List.set_cons_succ, List.length_cons, List.length_nil, Nat.reduceAdd, Nat.reduceLT, Int32.reduceToNatClampNeg, true_and, and_true, and_self, reduceCtorEq, not_false_eq_true, false_and, and_false, or_false, false_or, true_or, or_true, bd_a, bd_ua, bd_l, vp_nar_int32, haa, bd_r0 hab, bd_u0 hab, hb0, bd_r1 hab, bd_u1 hab, hb1, bd_r2 hab, bd_u2 hab, hb2, bd_r3 hab, bd_u3 hab, hb3, bd_r4 hab, bd_u4 hab, hb4, bd_r5 hab, bd_u5 hab, hb5, bd_r6 hab, bd_u6 hab, hb6, bd_r7 hab, bd_u7 hab, hb7, bd_r8 hab, bd_u8 hab, hb8, bd_r9 hab, bd_u9 hab, hb9, bd_r10 hab, bd_u10 hab, hb10, bd_f0, bd_f1, bd_f2, bd_f3, bd_f4, bd_f5, bd_f6, bd_f7, bd_f8, bd_f9, bd_f10, bd_f11, bd_f12, bd_f13, bd_f14, bd_f15, bd_f16, bd_s2, bd_s3, bd_s4, bd_s5, bd_s6, bd_s16, v1, v2, v3, v4, v5, v6]
    refine ⟨fun _ => ?_, fun _ => ?_⟩
    · exact jk_vret X d_BO_put_104 hr (Nat.le_refl _) (Nat.le_refl _) ⟨_, _, rfl, rfl, rfl⟩
    · exact jk_vret X d_BO_put_104 hr (Nat.le_refl _) (Nat.le_refl _) ⟨_, _, rfl, rfl, rfl⟩
  · exact jk_vret X d_BO_put_104 hr (Nat.le_refl _) (Nat.le_refl _) ⟨_, _, rfl, rfl, rfl⟩

