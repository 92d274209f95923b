/-! what takes a move back: its bits -/
theorem ud_bits (l s m : Nat) (C : BitVec 64) (hs : s + m ≤ 16) : ((BitVec.ofNat 64 l ||| C <<< 16).sshiftRight s).signExtend 32 &&& BitVec.ofNat 32 (2 ^ m - 1) = BitVec.ofNat 32 (l / 2 ^ s % 2 ^ m) := by
  apply BitVec.eq_of_getLsbD_eq
  intro i hi
  rw [BitVec.getLsbD_and, BitVec.getLsbD_ofNat, BitVec.getLsbD_ofNat, Nat.testBit_two_pow_sub_one, Nat.testBit_mod_two_pow, Nat.testBit_div_two_pow]
  by_cases him : i < m
  · have h1 : i < 64 := by omega
    have h2 : s + i < 64 := by omega
    have h3 : s + i < 16 := by omega
    have h4 : ¬ 64 ≤ i := by omega
    rw [BitVec.getLsbD_signExtend, BitVec.getLsbD_sshiftRight, BitVec.getLsbD_or, BitVec.getLsbD_ofNat, BitVec.getLsbD_shiftLeft]
    simp [hi, him, h1, h2, h3, h4, Nat.add_comm]
  · simp [him]
def ud64 (l : Nat) (c : Int32) : Int64 := lN l ||| c.toInt64 <<< (Int32.toInt64 16 &&& 63)
theorem ud_se (l : Nat) : BitVec.signExtend 32 (BitVec.ofNat 64 l) = BitVec.ofNat 32 l := by
  rw [BitVec.signExtend_eq_setWidth_of_le _ (by decide)]
  simp
theorem ud_0 (l : Nat) (c : Int32) : (ud64 l c).toInt32 &&& 15 = nI (l % 16) := by
  apply Int32.toBitVec_inj.mp
  have h := ud_bits l 0 4 (c.toBitVec.signExtend 64) (by decide)
  simpa [ud64, lN, nI, ud_se] using h
theorem ud_4 (l : Nat) (c : Int32) : (ud64 l c >>> (Int32.toInt64 4 &&& 63)).toInt32 &&& 15 = nI (l / 16 % 16) := by
  apply Int32.toBitVec_inj.mp
  have h := ud_bits l 4 4 (c.toBitVec.signExtend 64) (by decide)
  simpa [ud64, lN, nI] using h
theorem ud_8 (l : Nat) (c : Int32) : (ud64 l c >>> (Int32.toInt64 8 &&& 63)).toInt32 &&& 127 = nI (l / 256 % 128) := by
  apply Int32.toBitVec_inj.mp
  have h := ud_bits l 8 7 (c.toBitVec.signExtend 64) (by decide)
  simpa [ud64, lN, nI] using h
theorem brest1 {men0 : Nat → Int32} {f t w k mm q : Nat} (hman : men0 f = nI mm) (htk : men0 w = nI k) (hwf : w ≠ f) (hep : w = t ∨ men0 t = 0) : upd (upd (upd (upd (upd (upd men0 f 0) w 0) t (nI q)) t 0) f (nI mm)) w (nI k) = men0 := by
  funext i
  simp only [upd]
  by_cases h1 : i = w
  · rw [if_pos h1, h1, htk]
  · rw [if_neg h1]
    by_cases h2 : i = f
    · rw [if_pos h2, h2, hman]
    · rw [if_neg h2]
      by_cases h3 : i = t
      · rw [if_pos h3]
        rcases hep with e | e
        · exact absurd (h3.trans e.symm) h1
        · rw [h3, e]
      · rw [if_neg h3, if_neg h3, if_neg h1, if_neg h2]
theorem brest0 {men0 : Nat → Int32} {f t w mm q : Nat} (hman : men0 f = nI mm) (htk : men0 w = nI 0) (hwf : w ≠ f) (hep : w = t ∨ men0 t = 0) : upd (upd (upd (upd (upd men0 f 0) w 0) t (nI q)) t 0) f (nI mm) = men0 := by
  have h := brest1 (q := q) hman htk hwf hep
  rw [upd_sm] at h
  · exact h
  · simp only [upd]
    rw [if_neg hwf]
    by_cases e : w = t
    · rw [if_pos e]; rfl
    · rw [if_neg e, if_neg e, if_pos trivial]; rfl
theorem brest2 {men0 : Nat → Int32} {f t x y mm q : Nat} {ro : Int32} (hman : men0 f = nI mm) (ht : men0 t = nI 0) (hx : men0 x = ro) (hy : men0 y = 0) (h1 : f ≠ t) (h2 : f ≠ x) (h3 : f ≠ y) (h4 : t ≠ x) (h5 : t ≠ y) (h6 : x ≠ y) : upd (upd (upd (upd (upd (upd (upd (upd (upd men0 f 0) t 0) t (nI q)) x 0) y ro) t 0) f (nI mm)) y 0) x ro = men0 := by
  funext i
  simp only [upd]
  by_cases a1 : i = x
  · rw [if_pos a1, a1, hx]
  · rw [if_neg a1]
    by_cases a2 : i = y
    · rw [if_pos a2, a2, hy]
    · rw [if_neg a2]
      by_cases a3 : i = f
      · rw [if_pos a3, a3, hman]
      · rw [if_neg a3]
        by_cases a4 : i = t
        · rw [if_pos a4, a4, ht]; rfl
        · rw [if_neg a4, if_neg a2, if_neg a1, if_neg a4, if_neg a4, if_neg a3]
theorem menOK_bMen {men : Nat → Int32} (h : menOK men) {f t w q mm sd : Nat} (hq : q < 16) (hsd : sd < 2) : menOK (bMen men f t w q mm sd) := by
  have h3 : menOK (upd (upd (upd men f 0) w 0) t (nI q)) := menOK_up (menOK_up (menOK_up h (m := 0) (by decide)) (m := 0) (by decide)) hq
  unfold bMen
  split
  · exact menOK_up (menOK_up h3 (m := 0) (by decide)) (by omega)
  · split
    · exact menOK_up (menOK_up h3 (m := 0) (by decide)) (by omega)
    · exact h3
theorem b_w0 {men : Nat → Int32} {f w t : Nat} {q : Int32} : upd (upd (upd (upd men f 0) w 0) t q) t 0 w = 0 := by
  by_cases e : w = t
  · subst e; exact upd_s
  · rw [upd_o e, upd_o e, upd_s]
theorem bPawn : ∀ sd, sd < 2 → nI sd <<< (3 &&& 31) ||| 1 = nI (sd * 8 + 1) := by decide +kernel
set_option maxRecDepth 100000 in
set_option maxHeartbeats 4000000 in
theorem c_BO_unmake (l : Launch) (E : jE) (σ : Nat → jcell) (n : Nat) (a n0 : Nat) (hab : a < n0) (hn0 : n0 + 11 ≤ n) (F : Nat → Int32) (A : Nat → Nat → Int32) (L : Nat → Nat → Int64) (mv : Int32) (ud : Int64) (f t b w mm k sd : Nat) (men0 F0 : Nat → Int32) (hf : f < 64) (ht : t < 64) (hb : b < 8) (hw : w < 64) (hmm : mm < 16) (hk : k < 16) (hsd : sd < 2) (e1 : mv >>> (9 &&& 31) = nI f) (e2 : mv >>> (3 &&& 31) &&& 63 = nI t) (e3 : mv &&& 7 = nI b) (hM : menOK men0) (hA : A 0 = bMen men0 f t w (bQ mm b) mm sd) (hs2 : F 2 ^^^ 1 = nI sd) (hk0 : ud.toInt32 &&& 15 = nI k) (hr0 : (ud >>> (Int32.toInt64 4 &&& 63)).toInt32 &&& 15 = F0 3) (hp0 : ((ud >>> (Int32.toInt64 8 &&& 63)).toInt32 &&& 127) - 1 = F0 4) (h02 : F0 2 = nI sd) (hman : men0 f = nI mm) (htk : men0 w = nI k) (hwh : bWh men0 F0 f t = nI w) (hft : f ≠ t) (hwf : w ≠ f) (hep : w = t ∨ men0 t = 0) (hpr : ¬ nI b = 0 → mm = sd * 8 + 1) (hc1 : nI mm &&& 7 = 6 → nI t - nI f = 2 → t = f + 2 ∧ f + 3 < 64 ∧ w = t ∧ k = 0 ∧ men0 (f + 3) = nI (sd * 8 + 4) ∧ men0 (f + 1) = 0) (hc2 : nI mm &&& 7 = 6 → nI f - nI t = 2 → f = t + 2 ∧ 4 ≤ f ∧ w = t ∧ k = 0 ∧ men0 (f - 4) = nI (sd * 8 + 4) ∧ men0 (f - 1) = 0) (hq1 : ¬ mm = 0) : jMet l E jcl jtb lw_tbl y_BO_unmake { frames := 1, cells := 0, slots := 0, locals := 40 } [.inr (.inr (some (.inl (a)))), .inl mv, .inr (.inl ud)] (bdP σ a n0 F A L) n (fun r σ' n' => ∃ (F' : Nat → Int32) (A' : Nat → Nat → Int32) (L' : Nat → Nat → Int64), r = none ∧ n' = n ∧ σ' = (bdP σ a n0 F' A' L') ∧ bKeep A A' L L' ∧ A' 0 = men0 ∧ (kOK (A 1) → kOK (A' 1)) ∧ (bWs A → bWs A') ∧ F' 2 = F0 2 ∧ F' 3 = F0 3 ∧ F' 4 = F0 4 ∧ F' 5 = (ud >>> (Int32.toInt64 16 &&& 63)).toInt32 ∧ F' 16 = F 16) := by
  refine jMet_of (hY := rfl) false (fun h => by cases h) (by decide) (Nat.le_of_ble_eq_true rfl) [some (.inr (.inr (some (.inl (a))))), some (.inl mv), some (.inr (.inl ud)), none, none, none, none, none, none] rfl ?_
  intro M hl hR X hr
  have hb0 : (n0 < n) = True := eq_true (by omega)
  have hb1 : (n0 + 1 < n) = True := eq_true (by omega)
  have hb2 : (n0 + 2 < n) = True := eq_true (by omega)
  have hb3 : (n0 + 3 < n) = True := eq_true (by omega)
  have hb4 : (n0 + 4 < n) = True := eq_true (by omega)
  have hb5 : (n0 + 5 < n) = True := eq_true (by omega)
  have hb6 : (n0 + 6 < n) = True := eq_true (by omega)
  have hb7 : (n0 + 7 < n) = True := eq_true (by omega)
  have hb8 : (n0 + 8 < n) = True := eq_true (by omega)
  have hb9 : (n0 + 9 < n) = True := eq_true (by omega)
  have hb10 : (n0 + 10 < n) = True := eq_true (by omega)
  have haa : (a < n) = True := eq_true (by omega)
  have cf : (nI f).toNatClampNeg = f := nI_clamp (by omega)
  have ct : (nI t).toNatClampNeg = t := nI_clamp (by omega)
  have uf : vp_in (nI f) 64 = True := eq_true (vp_in_nI hf (by decide))
  have ut : vp_in (nI t) 64 = True := eq_true (vp_in_nI ht (by decide))
  have hMA : menOK (A 0) := by rw [hA]; exact menOK_bMen hM (bQ_lt mm hmm b hb) hsd
  have hAt : A 0 t = nI (bQ mm b) := by
    rw [hA]
    unfold bMen
    split
    · next h =>
      obtain ⟨z, -⟩ := hc1 h.1 h.2
      simp only [upd]
      rw [if_neg (by omega), if_neg (by omega), if_pos trivial]
    · split
      · next h =>
        obtain ⟨z, z4, -⟩ := hc2 h.1 h.2
        simp only [upd]
        rw [if_neg (by omega), if_neg (by omega), if_pos trivial]
      · simp only [upd, if_true, ite_true]
  have hAf : A 0 f = 0 := by
    rw [hA]
    unfold bMen
    split
    · next h =>
      obtain ⟨z, -⟩ := hc1 h.1 h.2
      rw [upd_o (by omega), upd_o (by omega), upd_o hft]
      unfold upd
      split
      · rfl
      · rw [if_pos rfl]
    · split
      · next h =>
        obtain ⟨z, z4, -⟩ := hc2 h.1 h.2
        rw [upd_o (by omega), upd_o (by omega), upd_o hft]
        unfold upd
        split
        · rfl
        · rw [if_pos rfl]
      · rw [upd_o hft]
        unfold upd
        split
        · rfl
        · rw [if_pos rfl]
  have hS : (nI mm &&& 7 = 6 ∧ nI t - nI f = 2) → A 0 (f + 1) = nI (sd * 8 + 4) ∧ A 0 (f + 3) = 0 := by
    intro h
    rw [hA]
    unfold bMen
    rw [if_pos h]
    exact ⟨upd_s, by rw [upd_o (by omega), upd_s]⟩
  have hL : (nI mm &&& 7 = 6 ∧ nI f - nI t = 2) → ¬ (nI mm &&& 7 = 6 ∧ nI t - nI f = 2) → A 0 (f - 1) = nI (sd * 8 + 4) ∧ A 0 (f - 4) = 0 := by
    intro h hn
    have z4 := (hc2 h.1 h.2).2.1
    rw [hA]
    unfold bMen
    rw [if_neg hn, if_pos h]
    exact ⟨upd_s, by rw [upd_o (by omega), upd_s]⟩
  have hfin : ∀ (F1 : Nat → Int32) (q2 : F1 2 = nI sd) (q3 : F1 3 = F0 3) (q4 : F1 4 = F0 4) (q5 : F1 5 = (ud >>> (Int32.toInt64 16 &&& 63)).toInt32) (q16 : F1 16 = F 16) (A2 : Nat → Nat → Int32) (L2 : Nat → Nat → Int64), bKeep A A2 L L2 → A2 0 = men0 → (kOK (A 1) → kOK (A2 1)) → (bWs A → bWs A2) → jJ E jcl 9 M (jQ E jcl M (fun r σ' n' => ∃ (F' : Nat → Int32) (A' : Nat → Nat → Int32) (L' : Nat → Nat → Int64), r = none ∧ n' = n ∧ σ' = (bdP σ a n0 F' A' L') ∧ bKeep A A' L L' ∧ A' 0 = men0 ∧ (kOK (A 1) → kOK (A' 1)) ∧ (bWs A → bWs A') ∧ F' 2 = F0 2 ∧ F' 3 = F0 3 ∧ F' 4 = F0 4 ∧ F' 5 = (ud >>> (Int32.toInt64 16 &&& 63)).toInt32 ∧ F' 16 = F 16) 0 0) n 0 0 244 [some (.inr (.inr (some (.inl (a))))), some (.inl mv), some (.inr (.inl ud)), none, some (.inl (nI f)), some (.inl (nI t)), some (.inl (nI mm)), some (.inl (nI mm &&& 7)), some (.inl (nI k))] [] (bdP σ a n0 F1 A2 L2) := by
    intro F1 q2 q3 q4 q5 q16 A2 L2 k1 k2 k3 k5
    exact jk_vret X d_BO_unmake_244 hr (Nat.le_refl _) (Nat.le_refl _) ⟨F1, A2, L2, rfl, rfl, rfl, k1, k2, k3, k5, by rw [q2, h02], q3, q4, q5, q16⟩
  have C161 : ∀ (F1 : Nat → Int32) (q2 : F1 2 = nI sd) (q3 : F1 3 = F0 3) (q4 : F1 4 = F0 4) (q5 : F1 5 = (ud >>> (Int32.toInt64 16 &&& 63)).toInt32) (q16 : F1 16 = F 16) (A2 : Nat → Nat → Int32) (L2 : Nat → Nat → Int64), bKeep A A2 L L2 → ((¬ (nI mm &&& 7 = 6 ∧ nI t - nI f = 2) ∧ ¬ (nI mm &&& 7 = 6 ∧ nI f - nI t = 2) ∧ A2 0 = men0) ∨ ((nI mm &&& 7 = 6 ∧ (nI t - nI f = 2 ∨ nI f - nI t = 2)) ∧ A2 0 = upd (upd (A 0) t 0) f (nI mm))) → (kOK (A 1) → kOK (A2 1)) → (bWs A → bWs A2) → jJ E jcl 9 M (jQ E jcl M (fun r σ' n' => ∃ (F' : Nat → Int32) (A' : Nat → Nat → Int32) (L' : Nat → Nat → Int64), r = none ∧ n' = n ∧ σ' = (bdP σ a n0 F' A' L') ∧ bKeep A A' L L' ∧ A' 0 = men0 ∧ (kOK (A 1) → kOK (A' 1)) ∧ (bWs A → bWs A') ∧ F' 2 = F0 2 ∧ F' 3 = F0 3 ∧ F' 4 = F0 4 ∧ F' 5 = (ud >>> (Int32.toInt64 16 &&& 63)).toInt32 ∧ F' 16 = F 16) 0 0) n 0 0 161 [some (.inr (.inr (some (.inl (a))))), some (.inl mv), some (.inr (.inl ud)), none, some (.inl (nI f)), some (.inl (nI t)), some (.inl (nI mm)), some (.inl (nI mm &&& 7)), some (.inl (nI k))] [] (bdP σ a n0 F1 A2 L2) := by
    intro F1 q2 q3 q4 q5 q16 A2 L2 k1 k2 k3 k5
    have C204 : ¬ (nI mm &&& 7 = 6 ∧ nI t - nI f = 2) → jJ E jcl 9 M (jQ E jcl M (fun r σ' n' => ∃ (F' : Nat → Int32) (A' : Nat → Nat → Int32) (L' : Nat → Nat → Int64), r = none ∧ n' = n ∧ σ' = (bdP σ a n0 F' A' L') ∧ bKeep A A' L L' ∧ A' 0 = men0 ∧ (kOK (A 1) → kOK (A' 1)) ∧ (bWs A → bWs A') ∧ F' 2 = F0 2 ∧ F' 3 = F0 3 ∧ F' 4 = F0 4 ∧ F' 5 = (ud >>> (Int32.toInt64 16 &&& 63)).toInt32 ∧ F' 16 = F 16) 0 0) n 0 0 204 [some (.inr (.inr (some (.inl (a))))), some (.inl mv), some (.inr (.inl ud)), none, some (.inl (nI f)), some (.inl (nI t)), some (.inl (nI mm)), some (.inl (nI mm &&& 7)), some (.inl (nI k))] [] (bdP σ a n0 F1 A2 L2) := by
      intro hn
      refine jrun_ok jC X k_BO_unmake_204 204 _ _ _ o_BO_unmake_204 ?_
      simp only [k_BO_unmake_204, jrun, jstep, jldi, jldl, jlda, j1, j2, jl1, jl2, jli, ja1, jbr, jald, jast, jlald, jlast, jalen, jget, jput, jfit, jdup, jdupx, jdupx2, jdup2, jcat, jset1, jset2, jkill, List.getElem?_cons_zero, List.getElem?_cons_succ, List.set_cons_zero, List.set_cons_succ, List.length_cons, List.length_nil, Nat.reduceAdd, Nat.reduceLT, Int32.reduceToNatClampNeg, true_and, and_true, and_self, reduceCtorEq, not_false_eq_true, false_and, and_false, or_false, false_or, true_or, or_true, bd_a, bd_ua, bd_l, vp_nar_int32, haa, bd_r0 hab, bd_u0 hab, hb0, bd_r1 hab, bd_u1 hab, hb1, bd_r2 hab, bd_u2 hab, hb2, bd_r3 hab, bd_u3 hab, hb3, bd_r4 hab, bd_u4 hab, hb4, bd_r5 hab, bd_u5 hab, hb5, bd_r6 hab, bd_u6 hab, hb6, bd_r7 hab, bd_u7 hab, hb7, bd_r8 hab, bd_u8 hab, hb8, bd_r9 hab, bd_u9 hab, hb9, bd_r10 hab, bd_u10 hab, hb10, bd_f0, bd_f1, bd_f2, bd_f3, bd_f4, bd_f5, bd_f6, bd_f7, bd_f8, bd_f9, bd_f10, bd_f11, bd_f12, bd_f13, bd_f14, bd_f15, bd_f16, bd_s2, bd_s3, bd_s4, bd_s5, bd_s6, bd_s16]
      refine ⟨fun h => ?_, fun h => ⟨fun h2 => ?_, fun h2 => ?_⟩⟩
      · exact hfin F1 q2 q3 q4 q5 q16 A2 L2 k1 (k2.elim (fun z => z.2.2) (fun z => absurd z.1.1 h)) k3 k5
      · exact hfin F1 q2 q3 q4 q5 q16 A2 L2 k1 (k2.elim (fun z => z.2.2) (fun z => z.1.2.elim (fun y => absurd ⟨h, y⟩ hn) (fun y => absurd y h2))) k3 k5
      · obtain ⟨z1, z2, rfl, rfl, z5, z6⟩ := hc2 h h2
        have k4 := k2.elim (fun z => absurd ⟨h, h2⟩ z.2.1) (fun z => z.2)
        rw [nI_m1 (by omega)]
        refine jk_Vg X hR d_BO_unmake_225 q_BO_unmake_225 m_BO_lift i_BO_lift e_BO_lift (ci := 10) rfl rfl (by omega) bd_a (c_BO_lift M.2.1 E _ _ _ _ hab hn0 _ _ _ (f - 1) (by omega) (by rw [k4]; exact menOK_up (menOK_up hMA (m := 0) (by decide)) hmm)) (by rfl) rfl ⟨Nat.le_of_ble_eq_true rfl, Nat.le_of_ble_eq_true rfl⟩ (c' := 0) rfl (s' := 0) rfl ⟨Nat.le_of_ble_eq_true rfl, Nat.le_of_ble_eq_true rfl⟩ (by exact Nat.le_of_ble_eq_true rfl) (pc' := 228) rfl ?_
        rintro _ _ _ ⟨A3, L3, rfl, hn2, rfl, y1, y2, y3, y4⟩
        obtain rfl : n = _ := hn2.symm
        simp only [Option.toList_none, List.nil_append]
        refine jrun_ok jC X k_BO_unmake_228 228 _ _ _ o_BO_unmake_228 ?_
        simp only [k_BO_unmake_228, jrun, jstep, jldi, jldl, jlda, j1, j2, jl1, jl2, jli, ja1, jbr, jald, jast, jlald, jlast, jalen, jget, jput, jfit, jdup, jdupx, jdupx2, jdup2, jcat, jset1, jset2, jkill, List.getElem?_cons_zero, List.getElem?_cons_succ, List.set_cons_zero, List.set_cons_succ, List.length_cons, List.length_nil, Nat.reduceAdd, Nat.reduceLT, Int32.reduceToNatClampNeg, true_and, and_true, and_self, reduceCtorEq, not_false_eq_true, false_and, and_false, or_false, false_or, true_or, or_true, bd_a, bd_ua, bd_l, vp_nar_int32, haa, bd_r0 hab, bd_u0 hab, hb0, bd_r1 hab, bd_u1 hab, hb1, bd_r2 hab, bd_u2 hab, hb2, bd_r3 hab, bd_u3 hab, hb3, bd_r4 hab, bd_u4 hab, hb4, bd_r5 hab, bd_u5 hab, hb5, bd_r6 hab, bd_u6 hab, hb6, bd_r7 hab, bd_u7 hab, hb7, bd_r8 hab, bd_u8 hab, hb8, bd_r9 hab, bd_u9 hab, hb9, bd_r10 hab, bd_u10 hab, hb10, bd_f0, bd_f1, bd_f2, bd_f3, bd_f4, bd_f5, bd_f6, bd_f7, bd_f8, bd_f9, bd_f10, bd_f11, bd_f12, bd_f13, bd_f14, bd_f15, bd_f16, bd_s2, bd_s3, bd_s4, bd_s5, bd_s6, bd_s16, q2, bRook sd hsd, nI_m4 z2]
        refine jk_Vg X hR d_BO_unmake_241 q_BO_unmake_241 m_BO_put i_BO_put e_BO_put (ci := 10) rfl rfl (by omega) bd_a (c_BO_put2 M.2.1 E _ _ _ _ hab hn0 _ _ _ (f - 4) (sd * 8 + 4) (by omega) (by omega)) (by rfl) rfl ⟨Nat.le_of_ble_eq_true rfl, Nat.le_of_ble_eq_true rfl⟩ (c' := 0) rfl (s' := 0) rfl ⟨Nat.le_of_ble_eq_true rfl, Nat.le_of_ble_eq_true rfl⟩ (by exact Nat.le_of_ble_eq_true rfl) (pc' := 244) rfl ?_
        rintro _ _ _ ⟨A4, L4, rfl, hn2, rfl, i1, i2, i3, i4⟩
        obtain rfl : n = _ := hn2.symm
        simp only [Option.toList_none, List.nil_append]
        refine hfin F1 q2 q3 q4 q5 q16 A4 L4 (k1.tr (y1.tr i1)) ?_ (fun q => i3 (by rw [y3]; exact k3 q)) (fun q => i4 (by rw [y2, k4, upd_o (by omega), upd_o (by omega), upd_o (by omega)]; exact (hL ⟨h, h2⟩ hn).2) (by omega) (y4 (by rw [k4, upd_o (by omega), upd_o (by omega), (hL ⟨h, h2⟩ hn).1]; exact nI4_ne sd hsd) (k5 q)))
        rw [i2, y2, k4, hA]
        unfold bMen
        rw [if_neg hn, if_pos ⟨h, h2⟩]
        exact brest2 hman htk z5 z6 (by omega) (by omega) (by omega) (by omega) (by omega) (by omega)
    refine jrun_ok jC X k_BO_unmake_161 161 _ _ _ o_BO_unmake_161 ?_
    simp only [k_BO_unmake_161, jrun, jstep, jldi, jldl, jlda, j1, j2, jl1, jl2, jli, ja1, jbr, jald, jast, jlald, jlast, jalen, jget, jput, jfit, jdup, jdupx, jdupx2, jdup2, jcat, jset1, jset2, jkill, List.getElem?_cons_zero, List.getElem?_cons_succ, List.set_cons_zero, List.set_cons_succ, List.length_cons, List.length_nil, Nat.reduceAdd, Nat.reduceLT, Int32.reduceToNatClampNeg, true_and, and_true, and_self, reduceCtorEq, not_false_eq_true, false_and, and_false, or_false, false_or, true_or, or_true, bd_a, bd_ua, bd_l, vp_nar_int32, haa, bd_r0 hab, bd_u0 hab, hb0, bd_r1 hab, bd_u1 hab, hb1, bd_r2 hab, bd_u2 hab, hb2, bd_r3 hab, bd_u3 hab, hb3, bd_r4 hab, bd_u4 hab, hb4, bd_r5 hab, bd_u5 hab, hb5, bd_r6 hab, bd_u6 hab, hb6, bd_r7 hab, bd_u7 hab, hb7, bd_r8 hab, bd_u8 hab, hb8, bd_r9 hab, bd_u9 hab, hb9, bd_r10 hab, bd_u10 hab, hb10, bd_f0, bd_f1, bd_f2, bd_f3, bd_f4, bd_f5, bd_f6, bd_f7, bd_f8, bd_f9, bd_f10, bd_f11, bd_f12, bd_f13, bd_f14, bd_f15, bd_f16, bd_s2, bd_s3, bd_s4, bd_s5, bd_s6, bd_s16]
    refine ⟨fun h => C204 (fun q => h q.1), fun h => ⟨fun h2 => C204 (fun q => h2 q.2), fun h2 => ?_⟩⟩
    obtain ⟨z1, z2, rfl, rfl, z5, z6⟩ := hc1 h h2
    have k4 := k2.elim (fun z => absurd ⟨h, h2⟩ z.1) (fun z => z.2)
    rw [nI_1]
    refine jk_Vg X hR d_BO_unmake_182 q_BO_unmake_182 m_BO_lift i_BO_lift e_BO_lift (ci := 10) rfl rfl (by omega) bd_a (c_BO_lift M.2.1 E _ _ _ _ hab hn0 _ _ _ (f + 1) (by omega) (by rw [k4]; exact menOK_up (menOK_up hMA (m := 0) (by decide)) hmm)) (by rfl) rfl ⟨Nat.le_of_ble_eq_true rfl, Nat.le_of_ble_eq_true rfl⟩ (c' := 0) rfl (s' := 0) rfl ⟨Nat.le_of_ble_eq_true rfl, Nat.le_of_ble_eq_true rfl⟩ (by exact Nat.le_of_ble_eq_true rfl) (pc' := 185) rfl ?_
    rintro _ _ _ ⟨A3, L3, rfl, hn2, rfl, y1, y2, y3, y4⟩
    obtain rfl : n = _ := hn2.symm
    simp only [Option.toList_none, List.nil_append]
    refine jrun_ok jC X k_BO_unmake_185 185 _ _ _ o_BO_unmake_185 ?_
    simp only [k_BO_unmake_185, jrun, jstep, jldi, jldl, jlda, j1, j2, jl1, jl2, jli, ja1, jbr, jald, jast, jlald, jlast, jalen, jget, jput, jfit, jdup, jdupx, jdupx2, jdup2, jcat, jset1, jset2, jkill, List.getElem?_cons_zero, List.getElem?_cons_succ, List.set_cons_zero, List.set_cons_succ, List.length_cons, List.length_nil, Nat.reduceAdd, Nat.reduceLT, Int32.reduceToNatClampNeg, true_and, and_true, and_self, reduceCtorEq, not_false_eq_true, false_and, and_false, or_false, false_or, true_or, or_true, bd_a, bd_ua, bd_l, vp_nar_int32, haa, bd_r0 hab, bd_u0 hab, hb0, bd_r1 hab, bd_u1 hab, hb1, bd_r2 hab, bd_u2 hab, hb2, bd_r3 hab, bd_u3 hab, hb3, bd_r4 hab, bd_u4 hab, hb4, bd_r5 hab, bd_u5 hab, hb5, bd_r6 hab, bd_u6 hab, hb6, bd_r7 hab, bd_u7 hab, hb7, bd_r8 hab, bd_u8 hab, hb8, bd_r9 hab, bd_u9 hab, hb9, bd_r10 hab, bd_u10 hab, hb10, bd_f0, bd_f1, bd_f2, bd_f3, bd_f4, bd_f5, bd_f6, bd_f7, bd_f8, bd_f9, bd_f10, bd_f11, bd_f12, bd_f13, bd_f14, bd_f15, bd_f16, bd_s2, bd_s3, bd_s4, bd_s5, bd_s6, bd_s16, q2, bRook sd hsd, nI_p3]
    refine jk_Vg X hR d_BO_unmake_198 q_BO_unmake_198 m_BO_put i_BO_put e_BO_put (ci := 10) rfl rfl (by omega) bd_a (c_BO_put2 M.2.1 E _ _ _ _ hab hn0 _ _ _ (f + 3) (sd * 8 + 4) (by omega) (by omega)) (by rfl) rfl ⟨Nat.le_of_ble_eq_true rfl, Nat.le_of_ble_eq_true rfl⟩ (c' := 0) rfl (s' := 0) rfl ⟨Nat.le_of_ble_eq_true rfl, Nat.le_of_ble_eq_true rfl⟩ (by exact Nat.le_of_ble_eq_true rfl) (pc' := 201) rfl ?_
    rintro _ _ _ ⟨A4, L4, rfl, hn2, rfl, i1, i2, i3, i4⟩
    obtain rfl : n = _ := hn2.symm
    simp only [Option.toList_none, List.nil_append]
    refine jrun_ok jC X k_BO_unmake_201 201 _ _ _ o_BO_unmake_201 ?_
    simp only [k_BO_unmake_201, jrun, jstep, jldi, jldl, jlda, j1, j2, jl1, jl2, jli, ja1, jbr, jald, jast, jlald, jlast, jalen, jget, jput, jfit, jdup, jdupx, jdupx2, jdup2, jcat, jset1, jset2, jkill, List.getElem?_cons_zero, List.getElem?_cons_succ, List.set_cons_zero, List.set_cons_succ, List.length_cons, List.length_nil, Nat.reduceAdd, Nat.reduceLT, Int32.reduceToNatClampNeg, true_and, and_true, and_self, reduceCtorEq, not_false_eq_true, false_and, and_false, or_false, false_or, true_or, or_true, bd_a, bd_ua, bd_l, vp_nar_int32, haa, bd_r0 hab, bd_u0 hab, hb0, bd_r1 hab, bd_u1 hab, hb1, bd_r2 hab, bd_u2 hab, hb2, bd_r3 hab, bd_u3 hab, hb3, bd_r4 hab, bd_u4 hab, hb4, bd_r5 hab, bd_u5 hab, hb5, bd_r6 hab, bd_u6 hab, hb6, bd_r7 hab, bd_u7 hab, hb7, bd_r8 hab, bd_u8 hab, hb8, bd_r9 hab, bd_u9 hab, hb9, bd_r10 hab, bd_u10 hab, hb10, bd_f0, bd_f1, bd_f2, bd_f3, bd_f4, bd_f5, bd_f6, bd_f7, bd_f8, bd_f9, bd_f10, bd_f11, bd_f12, bd_f13, bd_f14, bd_f15, bd_f16, bd_s2, bd_s3, bd_s4, bd_s5, bd_s6, bd_s16]
    refine hfin F1 q2 q3 q4 q5 q16 A4 L4 (k1.tr (y1.tr i1)) ?_ (fun q => i3 (by rw [y3]; exact k3 q)) (fun q => i4 (by rw [y2, k4, upd_o (by omega), upd_o (by omega), upd_o (by omega)]; exact (hS ⟨h, h2⟩).2) (by omega) (y4 (by rw [k4, upd_o (by omega), upd_o (by omega), (hS ⟨h, h2⟩).1]; exact nI4_ne sd hsd) (k5 q)))
    rw [i2, y2, k4, hA]
    unfold bMen
    rw [if_pos ⟨h, h2⟩]
    exact brest2 hman htk z5 z6 (by omega) (by omega) (by omega) (by omega) (by omega) (by omega)
  have hA3 : ¬ (nI mm &&& 7 = 6 ∧ nI t - nI f = 2) → ¬ (nI mm &&& 7 = 6 ∧ nI f - nI t = 2) → A 0 = (upd (upd (upd men0 f 0) w 0) t (nI (bQ mm b))) := by
    intro h1 h2
    rw [hA]
    unfold bMen
    rw [if_neg h1, if_neg h2]
  have C156 : ∀ (F1 : Nat → Int32) (q2 : F1 2 = nI sd) (q3 : F1 3 = F0 3) (q4 : F1 4 = F0 4) (q5 : F1 5 = (ud >>> (Int32.toInt64 16 &&& 63)).toInt32) (q16 : F1 16 = F 16) (A2 : Nat → Nat → Int32) (L2 : Nat → Nat → Int64), bKeep A A2 L L2 → A2 0 = upd (upd (A 0) t 0) f (nI mm) → (kOK (A 1) → kOK (A2 1)) → (bWs A → bWs A2) → ¬ nI k = 0 → jJ E jcl 9 M (jQ E jcl M (fun r σ' n' => ∃ (F' : Nat → Int32) (A' : Nat → Nat → Int32) (L' : Nat → Nat → Int64), r = none ∧ n' = n ∧ σ' = (bdP σ a n0 F' A' L') ∧ bKeep A A' L L' ∧ A' 0 = men0 ∧ (kOK (A 1) → kOK (A' 1)) ∧ (bWs A → bWs A') ∧ F' 2 = F0 2 ∧ F' 3 = F0 3 ∧ F' 4 = F0 4 ∧ F' 5 = (ud >>> (Int32.toInt64 16 &&& 63)).toInt32 ∧ F' 16 = F 16) 0 0) n 0 0 156 [some (.inr (.inr (some (.inl (a))))), some (.inl mv), some (.inr (.inl ud)), none, some (.inl (nI f)), some (.inl (nI t)), some (.inl (nI mm)), some (.inl (nI mm &&& 7)), some (.inl (nI k))] [.inl (nI w), .inr (.inr (some (.inl (a))))] (bdP σ a n0 F1 A2 L2) := by
    intro F1 q2 q3 q4 q5 q16 A2 L2 k1 k2 k3 k5 hne
    have n1 : ¬ (nI mm &&& 7 = 6 ∧ nI t - nI f = 2) := fun q => hne (by rw [(hc1 q.1 q.2).2.2.2.1]; rfl)
    have n2 : ¬ (nI mm &&& 7 = 6 ∧ nI f - nI t = 2) := fun q => hne (by rw [(hc2 q.1 q.2).2.2.2.1]; rfl)
    refine jrun_ok jC X k_BO_unmake_156 156 _ _ _ o_BO_unmake_156 ?_
    simp only [k_BO_unmake_156, jrun, jstep, jldi, jldl, jlda, j1, j2, jl1, jl2, jli, ja1, jbr, jald, jast, jlald, jlast, jalen, jget, jput, jfit, jdup, jdupx, jdupx2, jdup2, jcat, jset1, jset2, jkill, List.getElem?_cons_zero, List.getElem?_cons_succ, List.set_cons_zero, List.set_cons_succ, List.length_cons, List.length_nil, Nat.reduceAdd, Nat.reduceLT, Int32.reduceToNatClampNeg, true_and, and_true, and_self, reduceCtorEq, not_false_eq_true, false_and, and_false, or_false, false_or, true_or, or_true, bd_a, bd_ua, bd_l, vp_nar_int32, haa, bd_r0 hab, bd_u0 hab, hb0, bd_r1 hab, bd_u1 hab, hb1, bd_r2 hab, bd_u2 hab, hb2, bd_r3 hab, bd_u3 hab, hb3, bd_r4 hab, bd_u4 hab, hb4, bd_r5 hab, bd_u5 hab, hb5, bd_r6 hab, bd_u6 hab, hb6, bd_r7 hab, bd_u7 hab, hb7, bd_r8 hab, bd_u8 hab, hb8, bd_r9 hab, bd_u9 hab, hb9, bd_r10 hab, bd_u10 hab, hb10, bd_f0, bd_f1, bd_f2, bd_f3, bd_f4, bd_f5, bd_f6, bd_f7, bd_f8, bd_f9, bd_f10, bd_f11, bd_f12, bd_f13, bd_f14, bd_f15, bd_f16, bd_s2, bd_s3, bd_s4, bd_s5, bd_s6, bd_s16]
    refine jk_Vg X hR d_BO_unmake_158 q_BO_unmake_158 m_BO_put i_BO_put e_BO_put (ci := 10) rfl rfl (by omega) bd_a (c_BO_put2 M.2.1 E _ _ _ _ hab hn0 _ _ _ w k hw hk) (by rfl) rfl ⟨Nat.le_of_ble_eq_true rfl, Nat.le_of_ble_eq_true rfl⟩ (c' := 0) rfl (s' := 0) rfl ⟨Nat.le_of_ble_eq_true rfl, Nat.le_of_ble_eq_true rfl⟩ (by exact Nat.le_of_ble_eq_true rfl) (pc' := 161) rfl ?_
    rintro _ _ _ ⟨A4, L4, rfl, hn2, rfl, i1, i2, i3, i4⟩
    obtain rfl : n = _ := hn2.symm
    simp only [Option.toList_none, List.nil_append]
    exact C161 F1 q2 q3 q4 q5 q16 A4 L4 (k1.tr i1) (Or.inl ⟨n1, n2, by rw [i2, k2, hA3 n1 n2]; exact brest1 hman htk hwf hep⟩) (fun q => i3 (k3 q)) (fun q => i4 (by rw [k2, upd_o hwf, hA3 n1 n2]; exact b_w0) (fun z => hne (by rw [z]; rfl)) (k5 q))
  have C126 : ∀ (F1 : Nat → Int32) (q2 : F1 2 = nI sd) (q3 : F1 3 = F0 3) (q4 : F1 4 = F0 4) (q5 : F1 5 = (ud >>> (Int32.toInt64 16 &&& 63)).toInt32) (q16 : F1 16 = F 16) (A2 : Nat → Nat → Int32) (L2 : Nat → Nat → Int64), bKeep A A2 L L2 → A2 0 = upd (upd (A 0) t 0) f (nI mm) → (kOK (A 1) → kOK (A2 1)) → (bWs A → bWs A2) → jJ E jcl 9 M (jQ E jcl M (fun r σ' n' => ∃ (F' : Nat → Int32) (A' : Nat → Nat → Int32) (L' : Nat → Nat → Int64), r = none ∧ n' = n ∧ σ' = (bdP σ a n0 F' A' L') ∧ bKeep A A' L L' ∧ A' 0 = men0 ∧ (kOK (A 1) → kOK (A' 1)) ∧ (bWs A → bWs A') ∧ F' 2 = F0 2 ∧ F' 3 = F0 3 ∧ F' 4 = F0 4 ∧ F' 5 = (ud >>> (Int32.toInt64 16 &&& 63)).toInt32 ∧ F' 16 = F 16) 0 0) n 0 0 126 [some (.inr (.inr (some (.inl (a))))), some (.inl mv), some (.inr (.inl ud)), none, some (.inl (nI f)), some (.inl (nI t)), some (.inl (nI mm)), some (.inl (nI mm &&& 7)), some (.inl (nI k))] [] (bdP σ a n0 F1 A2 L2) := by
    intro F1 q2 q3 q4 q5 q16 A2 L2 k1 k2 k3 k5
    refine jrun_ok jC X k_BO_unmake_126 126 _ _ _ o_BO_unmake_126 ?_
    simp only [k_BO_unmake_126, jrun, jstep, jldi, jldl, jlda, j1, j2, jl1, jl2, jli, ja1, jbr, jald, jast, jlald, jlast, jalen, jget, jput, jfit, jdup, jdupx, jdupx2, jdup2, jcat, jset1, jset2, jkill, List.getElem?_cons_zero, List.getElem?_cons_succ, List.set_cons_zero, List.set_cons_succ, List.length_cons, List.length_nil, Nat.reduceAdd, Nat.reduceLT, Int32.reduceToNatClampNeg, true_and, and_true, and_self, reduceCtorEq, not_false_eq_true, false_and, and_false, or_false, false_or, true_or, or_true, bd_a, bd_ua, bd_l, vp_nar_int32, haa, bd_r0 hab, bd_u0 hab, hb0, bd_r1 hab, bd_u1 hab, hb1, bd_r2 hab, bd_u2 hab, hb2, bd_r3 hab, bd_u3 hab, hb3, bd_r4 hab, bd_u4 hab, hb4, bd_r5 hab, bd_u5 hab, hb5, bd_r6 hab, bd_u6 hab, hb6, bd_r7 hab, bd_u7 hab, hb7, bd_r8 hab, bd_u8 hab, hb8, bd_r9 hab, bd_u9 hab, hb9, bd_r10 hab, bd_u10 hab, hb10, bd_f0, bd_f1, bd_f2, bd_f3, bd_f4, bd_f5, bd_f6, bd_f7, bd_f8, bd_f9, bd_f10, bd_f11, bd_f12, bd_f13, bd_f14, bd_f15, bd_f16, bd_s2, bd_s3, bd_s4, bd_s5, bd_s6, bd_s16]
    refine ⟨fun h => ?_, fun h => ⟨fun h2 => ?_, fun h2 => ⟨fun h3 => ?_, fun h3 => ?_⟩⟩⟩
    · refine C161 F1 q2 q3 q4 q5 q16 A2 L2 k1 ?_ k3 k5
      have hk9 : k = 0 := by
        have h9 := (nI_eq (a := k) (b := 0) (by omega) (by omega)).mp h
        exact h9
      by_cases n1 : nI mm &&& 7 = 6 ∧ nI t - nI f = 2
      · exact Or.inr ⟨⟨n1.1, Or.inl n1.2⟩, k2⟩
      · by_cases n2 : nI mm &&& 7 = 6 ∧ nI f - nI t = 2
        · exact Or.inr ⟨⟨n2.1, Or.inr n2.2⟩, k2⟩
        · exact Or.inl ⟨n1, n2, by rw [k2, hA3 n1 n2]; exact brest0 hman (by rw [htk, hk9]) hwf hep⟩
    · refine jrun_ok jC X k_BO_unmake_154 154 _ _ _ o_BO_unmake_154 ?_
      simp only [k_BO_unmake_154, jrun, jstep, jldi, jldl, jlda, j1, j2, jl1, jl2, jli, ja1, jbr, jald, jast, jlald, jlast, jalen, jget, jput, jfit, jdup, jdupx, jdupx2, jdup2, jcat, jset1, jset2, jkill, List.getElem?_cons_zero, List.getElem?_cons_succ, List.set_cons_zero, List.set_cons_succ, List.length_cons, List.length_nil, Nat.reduceAdd, Nat.reduceLT, Int32.reduceToNatClampNeg, true_and, and_true, and_self, reduceCtorEq, not_false_eq_true, false_and, and_false, or_false, false_or, true_or, or_true, bd_a, bd_ua, bd_l, vp_nar_int32, haa, bd_r0 hab, bd_u0 hab, hb0, bd_r1 hab, bd_u1 hab, hb1, bd_r2 hab, bd_u2 hab, hb2, bd_r3 hab, bd_u3 hab, hb3, bd_r4 hab, bd_u4 hab, hb4, bd_r5 hab, bd_u5 hab, hb5, bd_r6 hab, bd_u6 hab, hb6, bd_r7 hab, bd_u7 hab, hb7, bd_r8 hab, bd_u8 hab, hb8, bd_r9 hab, bd_u9 hab, hb9, bd_r10 hab, bd_u10 hab, hb10, bd_f0, bd_f1, bd_f2, bd_f3, bd_f4, bd_f5, bd_f6, bd_f7, bd_f8, bd_f9, bd_f10, bd_f11, bd_f12, bd_f13, bd_f14, bd_f15, bd_f16, bd_s2, bd_s3, bd_s4, bd_s5, bd_s6, bd_s16]
      obtain rfl : t = w := (nI_eq (by omega) (by omega)).mp (by rw [← hwh]; unfold bWh; rw [hman, if_neg (fun q => h2 q.1)])
      exact C156 F1 q2 q3 q4 q5 q16 A2 L2 k1 k2 k3 k5 h
    · refine jrun_ok jC X k_BO_unmake_154 154 _ _ _ o_BO_unmake_154 ?_
      simp only [k_BO_unmake_154, jrun, jstep, jldi, jldl, jlda, j1, j2, jl1, jl2, jli, ja1, jbr, jald, jast, jlald, jlast, jalen, jget, jput, jfit, jdup, jdupx, jdupx2, jdup2, jcat, jset1, jset2, jkill, List.getElem?_cons_zero, List.getElem?_cons_succ, List.set_cons_zero, List.set_cons_succ, List.length_cons, List.length_nil, Nat.reduceAdd, Nat.reduceLT, Int32.reduceToNatClampNeg, true_and, and_true, and_self, reduceCtorEq, not_false_eq_true, false_and, and_false, or_false, false_or, true_or, or_true, bd_a, bd_ua, bd_l, vp_nar_int32, haa, bd_r0 hab, bd_u0 hab, hb0, bd_r1 hab, bd_u1 hab, hb1, bd_r2 hab, bd_u2 hab, hb2, bd_r3 hab, bd_u3 hab, hb3, bd_r4 hab, bd_u4 hab, hb4, bd_r5 hab, bd_u5 hab, hb5, bd_r6 hab, bd_u6 hab, hb6, bd_r7 hab, bd_u7 hab, hb7, bd_r8 hab, bd_u8 hab, hb8, bd_r9 hab, bd_u9 hab, hb9, bd_r10 hab, bd_u10 hab, hb10, bd_f0, bd_f1, bd_f2, bd_f3, bd_f4, bd_f5, bd_f6, bd_f7, bd_f8, bd_f9, bd_f10, bd_f11, bd_f12, bd_f13, bd_f14, bd_f15, bd_f16, bd_s2, bd_s3, bd_s4, bd_s5, bd_s6, bd_s16]
      obtain rfl : t = w := (nI_eq (by omega) (by omega)).mp (by rw [← hwh]; unfold bWh; rw [hman, if_neg (fun q => h3 (by rw [q4]; exact q.2))])
      exact C156 F1 q2 q3 q4 q5 q16 A2 L2 k1 k2 k3 k5 h
    · refine jk_Vg X hR d_BO_unmake_148 q_BO_unmake_148 m_BO_passedPawn i_BO_passedPawn e_BO_passedPawn (ci := 10) rfl rfl (by omega) bd_a (c_BO_passedPawn M.2.1 E _ _ _ _ hab hn0 _ _ _) (by rfl) rfl ⟨Nat.le_of_ble_eq_true rfl, Nat.le_of_ble_eq_true rfl⟩ (c' := 0) rfl (s' := 0) rfl ⟨Nat.le_of_ble_eq_true rfl, Nat.le_of_ble_eq_true rfl⟩ (by exact Nat.le_of_ble_eq_true rfl) (pc' := 151) rfl ?_
      rintro _ _ _ ⟨rfl, hn2, rfl⟩
      obtain rfl : n = _ := hn2.symm
      simp only [Option.toList_some, List.cons_append, List.nil_append]
      refine jrun_ok jC X k_BO_unmake_151 151 _ _ _ o_BO_unmake_151 ?_
      simp only [k_BO_unmake_151, jrun, jstep, jldi, jldl, jlda, j1, j2, jl1, jl2, jli, ja1, jbr, jald, jast, jlald, jlast, jalen, jget, jput, jfit, jdup, jdupx, jdupx2, jdup2, jcat, jset1, jset2, jkill, List.getElem?_cons_zero, List.getElem?_cons_succ, List.set_cons_zero, List.set_cons_succ, List.length_cons, List.length_nil, Nat.reduceAdd, Nat.reduceLT, Int32.reduceToNatClampNeg, true_and, and_true, and_self, reduceCtorEq, not_false_eq_true, false_and, and_false, or_false, false_or, true_or, or_true, bd_a, bd_ua, bd_l, vp_nar_int32, haa, bd_r0 hab, bd_u0 hab, hb0, bd_r1 hab, bd_u1 hab, hb1, bd_r2 hab, bd_u2 hab, hb2, bd_r3 hab, bd_u3 hab, hb3, bd_r4 hab, bd_u4 hab, hb4, bd_r5 hab, bd_u5 hab, hb5, bd_r6 hab, bd_u6 hab, hb6, bd_r7 hab, bd_u7 hab, hb7, bd_r8 hab, bd_u8 hab, hb8, bd_r9 hab, bd_u9 hab, hb9, bd_r10 hab, bd_u10 hab, hb10, bd_f0, bd_f1, bd_f2, bd_f3, bd_f4, bd_f5, bd_f6, bd_f7, bd_f8, bd_f9, bd_f10, bd_f11, bd_f12, bd_f13, bd_f14, bd_f15, bd_f16, bd_s2, bd_s3, bd_s4, bd_s5, bd_s6, bd_s16]
      have e : bPP F1 = nI w := by
        rw [← hwh]
        unfold bWh
        rw [hman, if_pos ⟨h2, by rw [h3, q4]⟩]
        unfold bPP
        rw [q2, q4, h02]
      rw [e]
      exact C156 F1 q2 q3 q4 q5 q16 A2 L2 k1 k2 k3 k5 h
  have C96 : ∀ (F1 : Nat → Int32) (q2 : F1 2 = nI sd) (q3 : F1 3 = F0 3) (q4 : F1 4 = F0 4) (q5 : F1 5 = (ud >>> (Int32.toInt64 16 &&& 63)).toInt32) (q16 : F1 16 = F 16), jJ E jcl 9 M (jQ E jcl M (fun r σ' n' => ∃ (F' : Nat → Int32) (A' : Nat → Nat → Int32) (L' : Nat → Nat → Int64), r = none ∧ n' = n ∧ σ' = (bdP σ a n0 F' A' L') ∧ bKeep A A' L L' ∧ A' 0 = men0 ∧ (kOK (A 1) → kOK (A' 1)) ∧ (bWs A → bWs A') ∧ F' 2 = F0 2 ∧ F' 3 = F0 3 ∧ F' 4 = F0 4 ∧ F' 5 = (ud >>> (Int32.toInt64 16 &&& 63)).toInt32 ∧ F' 16 = F 16) 0 0) n 0 0 96 [some (.inr (.inr (some (.inl (a))))), some (.inl mv), some (.inr (.inl ud)), none, some (.inl (nI f)), some (.inl (nI t)), none, none, none] [.inl (nI mm)] (bdP σ a n0 F1 A L) := by
    intro F1 q2 q3 q4 q5 q16
    refine jrun_ok jC X k_BO_unmake_96 96 _ _ _ o_BO_unmake_96 ?_
    simp only [k_BO_unmake_96, jrun, jstep, jldi, jldl, jlda, j1, j2, jl1, jl2, jli, ja1, jbr, jald, jast, jlald, jlast, jalen, jget, jput, jfit, jdup, jdupx, jdupx2, jdup2, jcat, jset1, jset2, jkill, List.getElem?_cons_zero, List.getElem?_cons_succ, List.set_cons_zero, List.set_cons_succ, List.length_cons, List.length_nil, Nat.reduceAdd, Nat.reduceLT, Int32.reduceToNatClampNeg, true_and, and_true, and_self, reduceCtorEq, not_false_eq_true, false_and, and_false, or_false, false_or, true_or, or_true, bd_a, bd_ua, bd_l, vp_nar_int32, haa, bd_r0 hab, bd_u0 hab, hb0, bd_r1 hab, bd_u1 hab, hb1, bd_r2 hab, bd_u2 hab, hb2, bd_r3 hab, bd_u3 hab, hb3, bd_r4 hab, bd_u4 hab, hb4, bd_r5 hab, bd_u5 hab, hb5, bd_r6 hab, bd_u6 hab, hb6, bd_r7 hab, bd_u7 hab, hb7, bd_r8 hab, bd_u8 hab, hb8, bd_r9 hab, bd_u9 hab, hb9, bd_r10 hab, bd_u10 hab, hb10, bd_f0, bd_f1, bd_f2, bd_f3, bd_f4, bd_f5, bd_f6, bd_f7, bd_f8, bd_f9, bd_f10, bd_f11, bd_f12, bd_f13, bd_f14, bd_f15, bd_f16, bd_s2, bd_s3, bd_s4, bd_s5, bd_s6, bd_s16, hk0]
    refine jk_Vg X hR d_BO_unmake_115 q_BO_unmake_115 m_BO_lift i_BO_lift e_BO_lift (ci := 10) rfl rfl (by omega) bd_a (c_BO_lift M.2.1 E _ _ _ _ hab hn0 _ _ _ t ht hMA) (by rfl) rfl ⟨Nat.le_of_ble_eq_true rfl, Nat.le_of_ble_eq_true rfl⟩ (c' := 0) rfl (s' := 0) rfl ⟨Nat.le_of_ble_eq_true rfl, Nat.le_of_ble_eq_true rfl⟩ (by exact Nat.le_of_ble_eq_true rfl) (pc' := 118) rfl ?_
    rintro _ _ _ ⟨A3, L3, rfl, hn2, rfl, y1, y2, y3, y4⟩
    obtain rfl : n = _ := hn2.symm
    simp only [Option.toList_none, List.nil_append]
    refine jrun_ok jC X k_BO_unmake_118 118 _ _ _ o_BO_unmake_118 ?_
    simp only [k_BO_unmake_118, jrun, jstep, jldi, jldl, jlda, j1, j2, jl1, jl2, jli, ja1, jbr, jald, jast, jlald, jlast, jalen, jget, jput, jfit, jdup, jdupx, jdupx2, jdup2, jcat, jset1, jset2, jkill, List.getElem?_cons_zero, List.getElem?_cons_succ, List.set_cons_zero, List.set_cons_succ, List.length_cons, List.length_nil, Nat.reduceAdd, Nat.reduceLT, Int32.reduceToNatClampNeg, true_and, and_true, and_self, reduceCtorEq, not_false_eq_true, false_and, and_false, or_false, false_or, true_or, or_true, bd_a, bd_ua, bd_l, vp_nar_int32, haa, bd_r0 hab, bd_u0 hab, hb0, bd_r1 hab, bd_u1 hab, hb1, bd_r2 hab, bd_u2 hab, hb2, bd_r3 hab, bd_u3 hab, hb3, bd_r4 hab, bd_u4 hab, hb4, bd_r5 hab, bd_u5 hab, hb5, bd_r6 hab, bd_u6 hab, hb6, bd_r7 hab, bd_u7 hab, hb7, bd_r8 hab, bd_u8 hab, hb8, bd_r9 hab, bd_u9 hab, hb9, bd_r10 hab, bd_u10 hab, hb10, bd_f0, bd_f1, bd_f2, bd_f3, bd_f4, bd_f5, bd_f6, bd_f7, bd_f8, bd_f9, bd_f10, bd_f11, bd_f12, bd_f13, bd_f14, bd_f15, bd_f16, bd_s2, bd_s3, bd_s4, bd_s5, bd_s6, bd_s16]
    refine jk_Vg X hR d_BO_unmake_123 q_BO_unmake_123 m_BO_put i_BO_put e_BO_put (ci := 10) rfl rfl (by omega) bd_a (c_BO_put2 M.2.1 E _ _ _ _ hab hn0 _ _ _ f mm hf hmm) (by rfl) rfl ⟨Nat.le_of_ble_eq_true rfl, Nat.le_of_ble_eq_true rfl⟩ (c' := 0) rfl (s' := 0) rfl ⟨Nat.le_of_ble_eq_true rfl, Nat.le_of_ble_eq_true rfl⟩ (by exact Nat.le_of_ble_eq_true rfl) (pc' := 126) rfl ?_
    rintro _ _ _ ⟨A4, L4, rfl, hn2, rfl, i1, i2, i3, i4⟩
    obtain rfl : n = _ := hn2.symm
    simp only [Option.toList_none, List.nil_append]
    exact C126 F1 q2 q3 q4 q5 q16 A4 L4 (y1.tr i1) (by rw [i2, y2]) (fun q => i3 (by rw [y3]; exact q)) (fun q => i4 (by rw [y2, upd_o hft]; exact hAf) hq1 (y4 (by rw [hAt]; exact b_n0 (bQ_lt mm hmm b hb) (b_q0 hmm hq1 hb)) q))
  refine jrun_ok jC X k_BO_unmake_0 0 _ _ _ o_BO_unmake_0 ?_
  simp only [k_BO_unmake_0, jrun, jstep, jldi, jldl, jlda, j1, j2, jl1, jl2, jli, ja1, jbr, jald, jast, jlald, jlast, jalen, jget, jput, jfit, jdup, jdupx, jdupx2, jdup2, jcat, jset1, jset2, jkill, List.getElem?_cons_zero, List.getElem?_cons_succ, List.set_cons_zero, List.set_cons_succ, List.length_cons, List.length_nil, Nat.reduceAdd, Nat.reduceLT, Int32.reduceToNatClampNeg, true_and, and_true, and_self, reduceCtorEq, not_false_eq_true, false_and, and_false, or_false, false_or, true_or, or_true, bd_a, bd_ua, bd_l, vp_nar_int32, haa, bd_r0 hab, bd_u0 hab, hb0, bd_r1 hab, bd_u1 hab, hb1, bd_r2 hab, bd_u2 hab, hb2, bd_r3 hab, bd_u3 hab, hb3, bd_r4 hab, bd_u4 hab, hb4, bd_r5 hab, bd_u5 hab, hb5, bd_r6 hab, bd_u6 hab, hb6, bd_r7 hab, bd_u7 hab, hb7, bd_r8 hab, bd_u8 hab, hb8, bd_r9 hab, bd_u9 hab, hb9, bd_r10 hab, bd_u10 hab, hb10, bd_f0, bd_f1, bd_f2, bd_f3, bd_f4, bd_f5, bd_f6, bd_f7, bd_f8, bd_f9, bd_f10, bd_f11, bd_f12, bd_f13, bd_f14, bd_f15, bd_f16, bd_s2, bd_s3, bd_s4, bd_s5, bd_s6, bd_s16, ct, ut, hAt, e1, e2, e3]
  refine jrun_ok jC X k_BO_unmake_14 14 _ _ _ o_BO_unmake_14 ?_
  simp only [k_BO_unmake_14, jrun, jstep, jldi, jldl, jlda, j1, j2, jl1, jl2, jli, ja1, jbr, jald, jast, jlald, jlast, jalen, jget, jput, jfit, jdup, jdupx, jdupx2, jdup2, jcat, jset1, jset2, jkill, List.getElem?_cons_zero, List.getElem?_cons_succ, List.set_cons_zero, List.set_cons_succ, List.length_cons, List.length_nil, Nat.reduceAdd, Nat.reduceLT, Int32.reduceToNatClampNeg, true_and, and_true, and_self, reduceCtorEq, not_false_eq_true, false_and, and_false, or_false, false_or, true_or, or_true, bd_a, bd_ua, bd_l, vp_nar_int32, haa, bd_r0 hab, bd_u0 hab, hb0, bd_r1 hab, bd_u1 hab, hb1, bd_r2 hab, bd_u2 hab, hb2, bd_r3 hab, bd_u3 hab, hb3, bd_r4 hab, bd_u4 hab, hb4, bd_r5 hab, bd_u5 hab, hb5, bd_r6 hab, bd_u6 hab, hb6, bd_r7 hab, bd_u7 hab, hb7, bd_r8 hab, bd_u8 hab, hb8, bd_r9 hab, bd_u9 hab, hb9, bd_r10 hab, bd_u10 hab, hb10, bd_f0, bd_f1, bd_f2, bd_f3, bd_f4, bd_f5, bd_f6, bd_f7, bd_f8, bd_f9, bd_f10, bd_f11, bd_f12, bd_f13, bd_f14, bd_f15, bd_f16, bd_s2, bd_s3, bd_s4, bd_s5, bd_s6, bd_s16, ct, ut, hAt, e1, e2, e3]
  refine jrun_ok jC X k_BO_unmake_24 24 _ _ _ o_BO_unmake_24 ?_
  simp only [k_BO_unmake_24, jrun, jstep, jldi, jldl, jlda, j1, j2, jl1, jl2, jli, ja1, jbr, jald, jast, jlald, jlast, jalen, jget, jput, jfit, jdup, jdupx, jdupx2, jdup2, jcat, jset1, jset2, jkill, List.getElem?_cons_zero, List.getElem?_cons_succ, List.set_cons_zero, List.set_cons_succ, List.length_cons, List.length_nil, Nat.reduceAdd, Nat.reduceLT, Int32.reduceToNatClampNeg, true_and, and_true, and_self, reduceCtorEq, not_false_eq_true, false_and, and_false, or_false, false_or, true_or, or_true, bd_a, bd_ua, bd_l, vp_nar_int32, haa, bd_r0 hab, bd_u0 hab, hb0, bd_r1 hab, bd_u1 hab, hb1, bd_r2 hab, bd_u2 hab, hb2, bd_r3 hab, bd_u3 hab, hb3, bd_r4 hab, bd_u4 hab, hb4, bd_r5 hab, bd_u5 hab, hb5, bd_r6 hab, bd_u6 hab, hb6, bd_r7 hab, bd_u7 hab, hb7, bd_r8 hab, bd_u8 hab, hb8, bd_r9 hab, bd_u9 hab, hb9, bd_r10 hab, bd_u10 hab, hb10, bd_f0, bd_f1, bd_f2, bd_f3, bd_f4, bd_f5, bd_f6, bd_f7, bd_f8, bd_f9, bd_f10, bd_f11, bd_f12, bd_f13, bd_f14, bd_f15, bd_f16, bd_s2, bd_s3, bd_s4, bd_s5, bd_s6, bd_s16, ct, ut, hAt, e1, e2, e3]
  refine jrun_ok jC X k_BO_unmake_37 37 _ _ _ o_BO_unmake_37 ?_
  simp only [k_BO_unmake_37, jrun, jstep, jldi, jldl, jlda, j1, j2, jl1, jl2, jli, ja1, jbr, jald, jast, jlald, jlast, jalen, jget, jput, jfit, jdup, jdupx, jdupx2, jdup2, jcat, jset1, jset2, jkill, List.getElem?_cons_zero, List.getElem?_cons_succ, List.set_cons_zero, List.set_cons_succ, List.length_cons, List.length_nil, Nat.reduceAdd, Nat.reduceLT, Int32.reduceToNatClampNeg, true_and, and_true, and_self, reduceCtorEq, not_false_eq_true, false_and, and_false, or_false, false_or, true_or, or_true, bd_a, bd_ua, bd_l, vp_nar_int32, haa, bd_r0 hab, bd_u0 hab, hb0, bd_r1 hab, bd_u1 hab, hb1, bd_r2 hab, bd_u2 hab, hb2, bd_r3 hab, bd_u3 hab, hb3, bd_r4 hab, bd_u4 hab, hb4, bd_r5 hab, bd_u5 hab, hb5, bd_r6 hab, bd_u6 hab, hb6, bd_r7 hab, bd_u7 hab, hb7, bd_r8 hab, bd_u8 hab, hb8, bd_r9 hab, bd_u9 hab, hb9, bd_r10 hab, bd_u10 hab, hb10, bd_f0, bd_f1, bd_f2, bd_f3, bd_f4, bd_f5, bd_f6, bd_f7, bd_f8, bd_f9, bd_f10, bd_f11, bd_f12, bd_f13, bd_f14, bd_f15, bd_f16, bd_s2, bd_s3, bd_s4, bd_s5, bd_s6, bd_s16, ct, ut, hAt, e1, e2, e3]
  refine jrun_ok jC X k_BO_unmake_48 48 _ _ _ o_BO_unmake_48 ?_
  simp only [k_BO_unmake_48, jrun, jstep, jldi, jldl, jlda, j1, j2, jl1, jl2, jli, ja1, jbr, jald, jast, jlald, jlast, jalen, jget, jput, jfit, jdup, jdupx, jdupx2, jdup2, jcat, jset1, jset2, jkill, List.getElem?_cons_zero, List.getElem?_cons_succ, List.set_cons_zero, List.set_cons_succ, List.length_cons, List.length_nil, Nat.reduceAdd, Nat.reduceLT, Int32.reduceToNatClampNeg, true_and, and_true, and_self, reduceCtorEq, not_false_eq_true, false_and, and_false, or_false, false_or, true_or, or_true, bd_a, bd_ua, bd_l, vp_nar_int32, haa, bd_r0 hab, bd_u0 hab, hb0, bd_r1 hab, bd_u1 hab, hb1, bd_r2 hab, bd_u2 hab, hb2, bd_r3 hab, bd_u3 hab, hb3, bd_r4 hab, bd_u4 hab, hb4, bd_r5 hab, bd_u5 hab, hb5, bd_r6 hab, bd_u6 hab, hb6, bd_r7 hab, bd_u7 hab, hb7, bd_r8 hab, bd_u8 hab, hb8, bd_r9 hab, bd_u9 hab, hb9, bd_r10 hab, bd_u10 hab, hb10, bd_f0, bd_f1, bd_f2, bd_f3, bd_f4, bd_f5, bd_f6, bd_f7, bd_f8, bd_f9, bd_f10, bd_f11, bd_f12, bd_f13, bd_f14, bd_f15, bd_f16, bd_s2, bd_s3, bd_s4, bd_s5, bd_s6, bd_s16, ct, ut, hAt, e1, e2, e3]
  refine jrun_ok jC X k_BO_unmake_62 62 _ _ _ o_BO_unmake_62 ?_
  simp only [k_BO_unmake_62, jrun, jstep, jldi, jldl, jlda, j1, j2, jl1, jl2, jli, ja1, jbr, jald, jast, jlald, jlast, jalen, jget, jput, jfit, jdup, jdupx, jdupx2, jdup2, jcat, jset1, jset2, jkill, List.getElem?_cons_zero, List.getElem?_cons_succ, List.set_cons_zero, List.set_cons_succ, List.length_cons, List.length_nil, Nat.reduceAdd, Nat.reduceLT, Int32.reduceToNatClampNeg, true_and, and_true, and_self, reduceCtorEq, not_false_eq_true, false_and, and_false, or_false, false_or, true_or, or_true, bd_a, bd_ua, bd_l, vp_nar_int32, haa, bd_r0 hab, bd_u0 hab, hb0, bd_r1 hab, bd_u1 hab, hb1, bd_r2 hab, bd_u2 hab, hb2, bd_r3 hab, bd_u3 hab, hb3, bd_r4 hab, bd_u4 hab, hb4, bd_r5 hab, bd_u5 hab, hb5, bd_r6 hab, bd_u6 hab, hb6, bd_r7 hab, bd_u7 hab, hb7, bd_r8 hab, bd_u8 hab, hb8, bd_r9 hab, bd_u9 hab, hb9, bd_r10 hab, bd_u10 hab, hb10, bd_f0, bd_f1, bd_f2, bd_f3, bd_f4, bd_f5, bd_f6, bd_f7, bd_f8, bd_f9, bd_f10, bd_f11, bd_f12, bd_f13, bd_f14, bd_f15, bd_f16, bd_s2, bd_s3, bd_s4, bd_s5, bd_s6, bd_s16, ct, ut, hAt, e1, e2, e3]
  refine jrun_ok jC X k_BO_unmake_71 71 _ _ _ o_BO_unmake_71 ?_
  simp only [k_BO_unmake_71, jrun, jstep, jldi, jldl, jlda, j1, j2, jl1, jl2, jli, ja1, jbr, jald, jast, jlald, jlast, jalen, jget, jput, jfit, jdup, jdupx, jdupx2, jdup2, jcat, jset1, jset2, jkill, List.getElem?_cons_zero, List.getElem?_cons_succ, List.set_cons_zero, List.set_cons_succ, List.length_cons, List.length_nil, Nat.reduceAdd, Nat.reduceLT, Int32.reduceToNatClampNeg, true_and, and_true, and_self, reduceCtorEq, not_false_eq_true, false_and, and_false, or_false, false_or, true_or, or_true, bd_a, bd_ua, bd_l, vp_nar_int32, haa, bd_r0 hab, bd_u0 hab, hb0, bd_r1 hab, bd_u1 hab, hb1, bd_r2 hab, bd_u2 hab, hb2, bd_r3 hab, bd_u3 hab, hb3, bd_r4 hab, bd_u4 hab, hb4, bd_r5 hab, bd_u5 hab, hb5, bd_r6 hab, bd_u6 hab, hb6, bd_r7 hab, bd_u7 hab, hb7, bd_r8 hab, bd_u8 hab, hb8, bd_r9 hab, bd_u9 hab, hb9, bd_r10 hab, bd_u10 hab, hb10, bd_f0, bd_f1, bd_f2, bd_f3, bd_f4, bd_f5, bd_f6, bd_f7, bd_f8, bd_f9, bd_f10, bd_f11, bd_f12, bd_f13, bd_f14, bd_f15, bd_f16, bd_s2, bd_s3, bd_s4, bd_s5, bd_s6, bd_s16, ct, ut, hAt, e1, e2, e3]
  refine ⟨fun h => ?_, fun h => ?_⟩
  · have e9 : (F 2 ^^^ 1) <<< (3 &&& 31) ||| 1 = nI mm := by rw [hs2, bPawn sd hsd, hpr h]
    refine jrun_ok jC X k_BO_unmake_88 88 _ _ _ o_BO_unmake_88 ?_
    simp only [k_BO_unmake_88, jrun, jstep, jldi, jldl, jlda, j1, j2, jl1, jl2, jli, ja1, jbr, jald, jast, jlald, jlast, jalen, jget, jput, jfit, jdup, jdupx, jdupx2, jdup2, jcat, jset1, jset2, jkill, List.getElem?_cons_zero, List.getElem?_cons_succ, List.set_cons_zero, List.set_cons_succ, List.length_cons, List.length_nil, Nat.reduceAdd, Nat.reduceLT, Int32.reduceToNatClampNeg, true_and, and_true, and_self, reduceCtorEq, not_false_eq_true, false_and, and_false, or_false, false_or, true_or, or_true, bd_a, bd_ua, bd_l, vp_nar_int32, haa, bd_r0 hab, bd_u0 hab, hb0, bd_r1 hab, bd_u1 hab, hb1, bd_r2 hab, bd_u2 hab, hb2, bd_r3 hab, bd_u3 hab, hb3, bd_r4 hab, bd_u4 hab, hb4, bd_r5 hab, bd_u5 hab, hb5, bd_r6 hab, bd_u6 hab, hb6, bd_r7 hab, bd_u7 hab, hb7, bd_r8 hab, bd_u8 hab, hb8, bd_r9 hab, bd_u9 hab, hb9, bd_r10 hab, bd_u10 hab, hb10, bd_f0, bd_f1, bd_f2, bd_f3, bd_f4, bd_f5, bd_f6, bd_f7, bd_f8, bd_f9, bd_f10, bd_f11, bd_f12, bd_f13, bd_f14, bd_f15, bd_f16, bd_s2, bd_s3, bd_s4, bd_s5, bd_s6, bd_s16, va_up, Nat.reduceEqDiff, if_false, ite_false, reduceIte, if_true, ite_true, e9]
    exact C96 _ hs2 hr0 hp0 rfl rfl
  · rw [← bQ_0 mm hmm b hb h]
    exact C96 _ hs2 hr0 hp0 rfl rfl

