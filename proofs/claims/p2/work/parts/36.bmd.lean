section
/-! what takes a move back: its bits -/
theorem ud_bits (l s m : Nat) (C : BitVec 64) (hs : s + m ≤ 16) : ((BitVec.ofNat 64 l ||| C <<< 16).sshiftRight s).signExtend 32 &&& BitVec.ofNat 32 (2 ^ m - 1) = BitVec.ofNat 32 (l / 2 ^ s % 2 ^ m) := by
  apply BitVec.eq_of_getLsbD_eq
  intro i hi
  rw [BitVec.getLsbD_and, BitVec.getLsbD_ofNat, BitVec.getLsbD_ofNat, Nat.testBit_two_pow_sub_one, Nat.testBit_mod_two_pow, Nat.testBit_div_two_pow]
  by_cases him : i < m
  · have h1 : i < 64 := by omega
    have h2 : s + i < 64 := by omega
    have h3 : s + i < 16 := by omega
    have h4 : ¬ 64 ≤ i := by omega
    rw [BitVec.getLsbD_signExtend, BitVec.getLsbD_sshiftRight, BitVec.getLsbD_or, BitVec.getLsbD_ofNat, BitVec.getLsbD_shiftLeft]
    simp [hi, him, h1, h2, h3, h4, Nat.add_comm]
  · simp [him]
noncomputable def ud64 (l : Nat) (c : Int32) : Int64 := lN l ||| c.toInt64 <<< (Int32.toInt64 16 &&& 63)
theorem ud_se (l : Nat) : BitVec.signExtend 32 (BitVec.ofNat 64 l) = BitVec.ofNat 32 l := by
  rw [BitVec.signExtend_eq_setWidth_of_le _ (by decide)]
  simp
theorem ud_0 (l : Nat) (c : Int32) : (ud64 l c).toInt32 &&& 15 = nI (l % 16) := by
  apply Int32.toBitVec_inj.mp
  have h := ud_bits l 0 4 (c.toBitVec.signExtend 64) (by decide)
  simpa [ud64, lN, nI, ud_se] using h
theorem ud_4 (l : Nat) (c : Int32) : (ud64 l c >>> (Int32.toInt64 4 &&& 63)).toInt32 &&& 15 = nI (l / 16 % 16) := by
  apply Int32.toBitVec_inj.mp
  have h := ud_bits l 4 4 (c.toBitVec.signExtend 64) (by decide)
  simpa [ud64, lN, nI] using h
theorem ud_8 (l : Nat) (c : Int32) : (ud64 l c >>> (Int32.toInt64 8 &&& 63)).toInt32 &&& 127 = nI (l / 256 % 128) := by
  apply Int32.toBitVec_inj.mp
  have h := ud_bits l 8 7 (c.toBitVec.signExtend 64) (by decide)
  simpa [ud64, lN, nI] using h
theorem brest1 {men0 : Nat → Int32} {f t w k mm q : Nat} (hman : men0 f = nI mm) (htk : men0 w = nI k) (hwf : w ≠ f) (hep : w = t ∨ men0 t = 0) : upd (upd (upd (upd (upd (upd men0 f 0) w 0) t (nI q)) t 0) f (nI mm)) w (nI k) = men0 := by
  funext i
  simp only [upd]
  by_cases h1 : i = w
  · rw [if_pos h1, h1, htk]
  · rw [if_neg h1]
    by_cases h2 : i = f
    · rw [if_pos h2, h2, hman]
    · rw [if_neg h2]
      by_cases h3 : i = t
      · rw [if_pos h3]
        rcases hep with e | e
        · exact absurd (h3.trans e.symm) h1
        · rw [h3, e]
      · rw [if_neg h3, if_neg h3, if_neg h1, if_neg h2]
theorem brest0 {men0 : Nat → Int32} {f t w mm q : Nat} (hman : men0 f = nI mm) (htk : men0 w = nI 0) (hwf : w ≠ f) (hep : w = t ∨ men0 t = 0) : upd (upd (upd (upd (upd men0 f 0) w 0) t (nI q)) t 0) f (nI mm) = men0 := by
  have h := brest1 (q := q) hman htk hwf hep
  rw [upd_sm] at h
  · exact h
  · simp only [upd]
    rw [if_neg hwf]
    by_cases e : w = t
    · rw [if_pos e]; rfl
    · rw [if_neg e, if_neg e, if_pos trivial]; rfl
theorem brest2 {men0 : Nat → Int32} {f t x y mm q : Nat} {ro : Int32} (hman : men0 f = nI mm) (ht : men0 t = nI 0) (hx : men0 x = ro) (hy : men0 y = 0) (h1 : f ≠ t) (h2 : f ≠ x) (h3 : f ≠ y) (h4 : t ≠ x) (h5 : t ≠ y) (h6 : x ≠ y) : upd (upd (upd (upd (upd (upd (upd (upd (upd men0 f 0) t 0) t (nI q)) x 0) y ro) t 0) f (nI mm)) y 0) x ro = men0 := by
  funext i
  simp only [upd]
  by_cases a1 : i = x
  · rw [if_pos a1, a1, hx]
  · rw [if_neg a1]
    by_cases a2 : i = y
    · rw [if_pos a2, a2, hy]
    · rw [if_neg a2]
      by_cases a3 : i = f
      · rw [if_pos a3, a3, hman]
      · rw [if_neg a3]
        by_cases a4 : i = t
        · rw [if_pos a4, a4, ht]; rfl
        · rw [if_neg a4, if_neg a2, if_neg a1, if_neg a4, if_neg a4, if_neg a3]
theorem menOK_bMen {men : Nat → Int32} (h : menOK men) {f t w q mm sd : Nat} (hq : q < 16) (hsd : sd < 2) : menOK (bMen men f t w q mm sd) := by
  have h3 : menOK (upd (upd (upd men f 0) w 0) t (nI q)) := menOK_up (menOK_up (menOK_up h (m := 0) (by decide)) (m := 0) (by decide)) hq
  unfold bMen
  split
  · exact menOK_up (menOK_up h3 (m := 0) (by decide)) (by omega)
  · split
    · exact menOK_up (menOK_up h3 (m := 0) (by decide)) (by omega)
    · exact h3
theorem b_w0 {men : Nat → Int32} {f w t : Nat} {q : Int32} : upd (upd (upd (upd men f 0) w 0) t q) t 0 w = 0 := by
  by_cases e : w = t
  · subst e; exact upd_s
  · rw [upd_o e, upd_o e, upd_s]
theorem bPawn : ∀ sd, sd < 2 → nI sd <<< (3 &&& 31) ||| 1 = nI (sd * 8 + 1) := by decide +kernel
set_option maxRecDepth 100000 in
set_option maxHeartbeats 4000000 in
theorem c_BO_unmake (l : Launch) (E : jE) (σ : Nat → jcell) (n : Nat) (a n0 : Nat) (hab : a < n0) (hn0 : n0 + 11 ≤ n) (F : Nat → Int32) (A : Nat → Nat → Int32) (L : Nat → Nat → Int64) (mv : Int32) (ud : Int64) (f t b w mm k sd : Nat) (men0 F0 : Nat → Int32) (hf : f < 64) (ht : t < 64) (hb : b < 8) (hw : w < 64) (hmm : mm < 16) (hk : k < 16) (hsd : sd < 2) (e1 : mv >>> (9 &&& 31) = nI f) (e2 : mv >>> (3 &&& 31) &&& 63 = nI t) (e3 : mv &&& 7 = nI b) (hM : menOK men0) (hA : A 0 = bMen men0 f t w (bQ mm b) mm sd) (hs2 : F 2 ^^^ 1 = nI sd) (hk0 : ud.toInt32 &&& 15 = nI k) (hr0 : (ud >>> (Int32.toInt64 4 &&& 63)).toInt32 &&& 15 = F0 3) (hp0 : ((ud >>> (Int32.toInt64 8 &&& 63)).toInt32 &&& 127) - 1 = F0 4) (h02 : F0 2 = nI sd) (hman : men0 f = nI mm) (htk : men0 w = nI k) (hwh : bWh men0 F0 f t = nI w) (hft : f ≠ t) (hwf : w ≠ f) (hep : w = t ∨ men0 t = 0) (hpr : ¬ nI b = 0 → mm = sd * 8 + 1) (hc1 : nI mm &&& 7 = 6 → nI t - nI f = 2 → t = f + 2 ∧ f + 3 < 64 ∧ w = t ∧ k = 0 ∧ men0 (f + 3) = nI (sd * 8 + 4) ∧ men0 (f + 1) = 0) (hc2 : nI mm &&& 7 = 6 → nI f - nI t = 2 → f = t + 2 ∧ 4 ≤ f ∧ w = t ∧ k = 0 ∧ men0 (f - 4) = nI (sd * 8 + 4) ∧ men0 (f - 1) = 0) (hq1 : ¬ mm = 0) : jMet l E jcl jtb lw_tbl y_BO_unmake { frames := 1, cells := 0, slots := 0, locals := 40 } [.inr (.inr (some (.inl (a)))), .inl mv, .inr (.inl ud)] (bdP σ a n0 F A L) n (fun r σ' n' => ∃ (F' : Nat → Int32) (A' : Nat → Nat → Int32) (L' : Nat → Nat → Int64), r = none ∧ n' = n ∧ σ' = (bdP σ a n0 F' A' L') ∧ bKeep A A' L L' ∧ A' 0 = men0 ∧ (kOK (A 1) → kOK (A' 1)) ∧ (bWs A → bWs A') ∧ F' 2 = F0 2 ∧ F' 3 = F0 3 ∧ F' 4 = F0 4 ∧ F' 5 = (ud >>> (Int32.toInt64 16 &&& 63)).toInt32 ∧ F' 16 = F 16) := by
  refine jMet_of (hY := rfl) false (fun h => by cases h) (by decide) (Nat.le_of_ble_eq_true rfl) [some (.inr (.inr (some (.inl (a))))), some (.inl mv), some (.inr (.inl ud)), none, none, none, none, none, none] rfl ?_
  intro M hl hR X hr
  have hb0 : (n0 < n) = True := eq_true (by omega)
  have hb1 : (n0 + 1 < n) = True := eq_true (by omega)
  have hb2 : (n0 + 2 < n) = True := eq_true (by omega)
  have hb3 : (n0 + 3 < n) = True := eq_true (by omega)
  have hb4 : (n0 + 4 < n) = True := eq_true (by omega)
  have hb5 : (n0 + 5 < n) = True := eq_true (by omega)
  have hb6 : (n0 + 6 < n) = True := eq_true (by omega)
  have hb7 : (n0 + 7 < n) = True := eq_true (by omega)
  have hb8 : (n0 + 8 < n) = True := eq_true (by omega)
  have hb9 : (n0 + 9 < n) = True := eq_true (by omega)
  have hb10 : (n0 + 10 < n) = True := eq_true (by omega)
  have haa : (a < n) = True := eq_true (by omega)
  have cf : (nI f).toNatClampNeg = f := nI_clamp (by omega)
  have ct : (nI t).toNatClampNeg = t := nI_clamp (by omega)
  have uf : vp_in (nI f) 64 = True := eq_true (vp_in_nI hf (by decide))
  have ut : vp_in (nI t) 64 = True := eq_true (vp_in_nI ht (by decide))
  have hMA : menOK (A 0) := by rw [hA]; exact menOK_bMen hM (bQ_lt mm hmm b hb) hsd
  have hAt : A 0 t = nI (bQ mm b) := by
    rw [hA]
    unfold bMen
    split
    · next h =>
      obtain ⟨z, -⟩ := hc1 h.1 h.2
      simp only [upd]
      rw [if_neg (by omega), if_neg (by omega), if_pos trivial]
    · split
      · next h =>
        obtain ⟨z, z4, -⟩ := hc2 h.1 h.2
        simp only [upd]
        rw [if_neg (by omega), if_neg (by omega), if_pos trivial]
      · simp only [upd, if_true, ite_true]
  have hAf : A 0 f = 0 := by
    rw [hA]
    unfold bMen
    split
    · next h =>
      obtain ⟨z, -⟩ := hc1 h.1 h.2
      rw [upd_o (by omega), upd_o (by omega), upd_o hft]
      unfold upd
      split
      · rfl
      · rw [if_pos rfl]
    · split
      · next h =>
        obtain ⟨z, z4, -⟩ := hc2 h.1 h.2
        rw [upd_o (by omega), upd_o (by omega), upd_o hft]
        unfold upd
        split
        · rfl
        · rw [if_pos rfl]
      · rw [upd_o hft]
        unfold upd
        split
        · rfl
        · rw [if_pos rfl]
  have hS : (nI mm &&& 7 = 6 ∧ nI t - nI f = 2) → A 0 (f + 1) = nI (sd * 8 + 4) ∧ A 0 (f + 3) = 0 := by
    intro h
    rw [hA]
    unfold bMen
    rw [if_pos h]
    exact ⟨upd_s, by rw [upd_o (by omega), upd_s]⟩
  have hL : (nI mm &&& 7 = 6 ∧ nI f - nI t = 2) → ¬ (nI mm &&& 7 = 6 ∧ nI t - nI f = 2) → A 0 (f - 1) = nI (sd * 8 + 4) ∧ A 0 (f - 4) = 0 := by
    intro h hn
    have z4 := (hc2 h.1 h.2).2.1
    rw [hA]
    unfold bMen
    rw [if_neg hn, if_pos h]
    exact ⟨upd_s, by rw [upd_o (by omega), upd_s]⟩
  have hfin : ∀ (F1 : Nat → Int32) (q2 : F1 2 = nI sd) (q3 : F1 3 = F0 3) (q4 : F1 4 = F0 4) (q5 : F1 5 = (ud >>> (Int32.toInt64 16 &&& 63)).toInt32) (q16 : F1 16 = F 16) (A2 : Nat → Nat → Int32) (L2 : Nat → Nat → Int64), bKeep A A2 L L2 → A2 0 = men0 → (kOK (A 1) → kOK (A2 1)) → (bWs A → bWs A2) → jJ E jcl 9 M (jQ E jcl M (fun r σ' n' => ∃ (F' : Nat → Int32) (A' : Nat → Nat → Int32) (L' : Nat → Nat → Int64), r = none ∧ n' = n ∧ σ' = (bdP σ a n0 F' A' L') ∧ bKeep A A' L L' ∧ A' 0 = men0 ∧ (kOK (A 1) → kOK (A' 1)) ∧ (bWs A → bWs A') ∧ F' 2 = F0 2 ∧ F' 3 = F0 3 ∧ F' 4 = F0 4 ∧ F' 5 = (ud >>> (Int32.toInt64 16 &&& 63)).toInt32 ∧ F' 16 = F 16) 0 0) n 0 0 244 [some (.inr (.inr (some (.inl (a))))), some (.inl mv), some (.inr (.inl ud)), none, some (.inl (nI f)), some (.inl (nI t)), some (.inl (nI mm)), some (.inl (nI mm &&& 7)), some (.inl (nI k))] [] (bdP σ a n0 F1 A2 L2) := by
    intro F1 q2 q3 q4 q5 q16 A2 L2 k1 k2 k3 k5
    exact jk_vret X d_BO_unmake_244 hr (Nat.le_refl _) (Nat.le_refl _) ⟨F1, A2, L2, rfl, rfl, rfl, k1, k2, k3, k5, by rw [q2, h02], q3, q4, q5, q16⟩
  have C161 : ∀ (F1 : Nat → Int32) (q2 : F1 2 = nI sd) (q3 : F1 3 = F0 3) (q4 : F1 4 = F0 4) (q5 : F1 5 = (ud >>> (Int32.toInt64 16 &&& 63)).toInt32) (q16 : F1 16 = F 16) (A2 : Nat → Nat → Int32) (L2 : Nat → Nat → Int64), bKeep A A2 L L2 → ((¬ (nI mm &&& 7 = 6 ∧ nI t - nI f = 2) ∧ ¬ (nI mm &&& 7 = 6 ∧ nI f - nI t = 2) ∧ A2 0 = men0) ∨ ((nI mm &&& 7 = 6 ∧ (nI t - nI f = 2 ∨ nI f - nI t = 2)) ∧ A2 0 = upd (upd (A 0) t 0) f (nI mm))) → (kOK (A 1) → kOK (A2 1)) → (bWs A → bWs A2) → jJ E jcl 9 M (jQ E jcl M (fun r σ' n' => ∃ (F' : Nat → Int32) (A' : Nat → Nat → Int32) (L' : Nat → Nat → Int64), r = none ∧ n' = n ∧ σ' = (bdP σ a n0 F' A' L') ∧ bKeep A A' L L' ∧ A' 0 = men0 ∧ (kOK (A 1) → kOK (A' 1)) ∧ (bWs A → bWs A') ∧ F' 2 = F0 2 ∧ F' 3 = F0 3 ∧ F' 4 = F0 4 ∧ F' 5 = (ud >>> (Int32.toInt64 16 &&& 63)).toInt32 ∧ F' 16 = F 16) 0 0) n 0 0 161 [some (.inr (.inr (some (.inl (a))))), some (.inl mv), some (.inr (.inl ud)), none, some (.inl (nI f)), some (.inl (nI t)), some (.inl (nI mm)), some (.inl (nI mm &&& 7)), some (.inl (nI k))] [] (bdP σ a n0 F1 A2 L2) := by
    intro F1 q2 q3 q4 q5 q16 A2 L2 k1 k2 k3 k5
    have C204 : ¬ (nI mm &&& 7 = 6 ∧ nI t - nI f = 2) → jJ E jcl 9 M (jQ E jcl M (fun r σ' n' => ∃ (F' : Nat → Int32) (A' : Nat → Nat → Int32) (L' : Nat → Nat → Int64), r = none ∧ n' = n ∧ σ' = (bdP σ a n0 F' A' L') ∧ bKeep A A' L L' ∧ A' 0 = men0 ∧ (kOK (A 1) → kOK (A' 1)) ∧ (bWs A → bWs A') ∧ F' 2 = F0 2 ∧ F' 3 = F0 3 ∧ F' 4 = F0 4 ∧ F' 5 = (ud >>> (Int32.toInt64 16 &&& 63)).toInt32 ∧ F' 16 = F 16) 0 0) n 0 0 204 [some (.inr (.inr (some (.inl (a))))), some (.inl mv), some (.inr (.inl ud)), none, some (.inl (nI f)), some (.inl (nI t)), some (.inl (nI mm)), some (.inl (nI mm &&& 7)), some (.inl (nI k))] [] (bdP σ a n0 F1 A2 L2) := by
      intro hn
      refine jrun_ok jC X k_BO_unmake_204 204 _ _ _ o_BO_unmake_204 ?_
      simp only [k_BO_unmake_204, jrun, jstep, jldi, jldl, jlda, j1, j2, jl1, jl2, jli, ja1, jbr, jald, jast, jlald, jlast, jalen, jget, jput, jfit, jdup, jdupx, jdupx2, jdup2, jcat, jset1, jset2, jkill, List.getElem?_cons_zero, List.getElem?_cons_succ, List.set_cons_zero, List.set_cons_succ, List.length_cons, List.length_nil, Nat.reduceAdd, Nat.reduceLT, Int32.reduceToNatClampNeg, true_and, and_true, and_self, reduceCtorEq, not_false_eq_true, false_and, and_false, or_false, false_or, true_or, or_true, bd_a, bd_ua, bd_l, vp_nar_int32, haa, bd_r0 hab, bd_u0 hab, hb0, bd_r1 hab, bd_u1 hab, hb1, bd_r2 hab, bd_u2 hab, hb2, bd_r3 hab, bd_u3 hab, hb3, bd_r4 hab, bd_u4 hab, hb4, bd_r5 hab, bd_u5 hab, hb5, bd_r6 hab, bd_u6 hab, hb6, bd_r7 hab, bd_u7 hab, hb7, bd_r8 hab, bd_u8 hab, hb8, bd_r9 hab, bd_u9 hab, hb9, bd_r10 hab, bd_u10 hab, hb10, bd_f0, bd_f1, bd_f2, bd_f3, bd_f4, bd_f5, bd_f6, bd_f7, bd_f8, bd_f9, bd_f10, bd_f11, bd_f12, bd_f13, bd_f14, bd_f15, bd_f16, bd_s2, bd_s3, bd_s4, bd_s5, bd_s6, bd_s16]
      refine ⟨fun h => ?_, fun h => ⟨fun h2 => ?_, fun h2 => ?_⟩⟩
      · exact hfin F1 q2 q3 q4 q5 q16 A2 L2 k1 (k2.elim (fun z => z.2.2) (fun z => absurd z.1.1 h)) k3 k5
      · exact hfin F1 q2 q3 q4 q5 q16 A2 L2 k1 (k2.elim (fun z => z.2.2) (fun z => z.1.2.elim (fun y => absurd ⟨h, y⟩ hn) (fun y => absurd y h2))) k3 k5
      · obtain ⟨z1, z2, rfl, rfl, z5, z6⟩ := hc2 h h2
        have k4 := k2.elim (fun z => absurd ⟨h, h2⟩ z.2.1) (fun z => z.2)
        rw [nI_m1 (by omega)]
        refine jk_Vg X hR d_BO_unmake_225 q_BO_unmake_225 m_BO_lift i_BO_lift e_BO_lift (ci := 10) rfl rfl (by omega) bd_a (c_BO_lift M.2.1 E _ _ _ _ hab hn0 _ _ _ (f - 1) (by omega) (by rw [k4]; exact menOK_up (menOK_up hMA (m := 0) (by decide)) hmm)) (by rfl) rfl ⟨Nat.le_of_ble_eq_true rfl, Nat.le_of_ble_eq_true rfl⟩ (c' := 0) rfl (s' := 0) rfl ⟨Nat.le_of_ble_eq_true rfl, Nat.le_of_ble_eq_true rfl⟩ (by exact Nat.le_of_ble_eq_true rfl) (pc' := 228) rfl ?_
        rintro _ _ _ ⟨A3, L3, rfl, hn2, rfl, y1, y2, y3, y4⟩
        obtain rfl : n = _ := hn2.symm
        simp only [Option.toList_none, List.nil_append]
        refine jrun_ok jC X k_BO_unmake_228 228 _ _ _ o_BO_unmake_228 ?_
        simp only [k_BO_unmake_228, jrun, jstep, jldi, jldl, jlda, j1, j2, jl1, jl2, jli, ja1, jbr, jald, jast, jlald, jlast, jalen, jget, jput, jfit, jdup, jdupx, jdupx2, jdup2, jcat, jset1, jset2, jkill, List.getElem?_cons_zero, List.getElem?_cons_succ, List.set_cons_zero, List.set_cons_succ, List.length_cons, List.length_nil, Nat.reduceAdd, Nat.reduceLT, Int32.reduceToNatClampNeg, true_and, and_true, and_self, reduceCtorEq, not_false_eq_true, false_and, and_false, or_false, false_or, true_or, or_true, bd_a, bd_ua, bd_l, vp_nar_int32, haa, bd_r0 hab, bd_u0 hab, hb0, bd_r1 hab, bd_u1 hab, hb1, bd_r2 hab, bd_u2 hab, hb2, bd_r3 hab, bd_u3 hab, hb3, bd_r4 hab, bd_u4 hab, hb4, bd_r5 hab, bd_u5 hab, hb5, bd_r6 hab, bd_u6 hab, hb6, bd_r7 hab, bd_u7 hab, hb7, bd_r8 hab, bd_u8 hab, hb8, bd_r9 hab, bd_u9 hab, hb9, bd_r10 hab, bd_u10 hab, hb10, bd_f0, bd_f1, bd_f2, bd_f3, bd_f4, bd_f5, bd_f6, bd_f7, bd_f8, bd_f9, bd_f10, bd_f11, bd_f12, bd_f13, bd_f14, bd_f15, bd_f16, bd_s2, bd_s3, bd_s4, bd_s5, bd_s6, bd_s16, q2, bRook sd hsd, nI_m4 z2]
        refine jk_Vg X hR d_BO_unmake_241 q_BO_unmake_241 m_BO_put i_BO_put e_BO_put (ci := 10) rfl rfl (by omega) bd_a (c_BO_put2 M.2.1 E _ _ _ _ hab hn0 _ _ _ (f - 4) (sd * 8 + 4) (by omega) (by omega)) (by rfl) rfl ⟨Nat.le_of_ble_eq_true rfl, Nat.le_of_ble_eq_true rfl⟩ (c' := 0) rfl (s' := 0) rfl ⟨Nat.le_of_ble_eq_true rfl, Nat.le_of_ble_eq_true rfl⟩ (by exact Nat.le_of_ble_eq_true rfl) (pc' := 244) rfl ?_
        rintro _ _ _ ⟨A4, L4, rfl, hn2, rfl, i1, i2, i3, i4⟩
        obtain rfl : n = _ := hn2.symm
        simp only [Option.toList_none, List.nil_append]
        refine hfin F1 q2 q3 q4 q5 q16 A4 L4 (k1.tr (y1.tr i1)) ?_ (fun q => i3 (by rw [y3]; exact k3 q)) (fun q => i4 (by rw [y2, k4, upd_o (by omega), upd_o (by omega), upd_o (by omega)]; exact (hL ⟨h, h2⟩ hn).2) (by omega) (y4 (by rw [k4, upd_o (by omega), upd_o (by omega), (hL ⟨h, h2⟩ hn).1]; exact nI4_ne sd hsd) (k5 q)))
        rw [i2, y2, k4, hA]
        unfold bMen
        rw [if_neg hn, if_pos ⟨h, h2⟩]
        exact brest2 hman htk z5 z6 (by omega) (by omega) (by omega) (by omega) (by omega) (by omega)
    refine jrun_ok jC X k_BO_unmake_161 161 _ _ _ o_BO_unmake_161 ?_
    simp only [k_BO_unmake_161, jrun, jstep, jldi, jldl, jlda, j1, j2, jl1, jl2, jli, ja1, jbr, jald, jast, jlald, jlast, jalen, jget, jput, jfit, jdup, jdupx, jdupx2, jdup2, jcat, jset1, jset2, jkill, List.getElem?_cons_zero, List.getElem?_cons_succ, List.set_cons_zero, List.set_cons_succ, List.length_cons, List.length_nil, Nat.reduceAdd, Nat.reduceLT, Int32.reduceToNatClampNeg, true_and, and_true, and_self, reduceCtorEq, not_false_eq_true, false_and, and_false, or_false, false_or, true_or, or_true, bd_a, bd_ua, bd_l, vp_nar_int32, haa, bd_r0 hab, bd_u0 hab, hb0, bd_r1 hab, bd_u1 hab, hb1, bd_r2 hab, bd_u2 hab, hb2, bd_r3 hab, bd_u3 hab, hb3, bd_r4 hab, bd_u4 hab, hb4, bd_r5 hab, bd_u5 hab, hb5, bd_r6 hab, bd_u6 hab, hb6, bd_r7 hab, bd_u7 hab, hb7, bd_r8 hab, bd_u8 hab, hb8, bd_r9 hab, bd_u9 hab, hb9, bd_r10 hab, bd_u10 hab, hb10, bd_f0, bd_f1, bd_f2, bd_f3, bd_f4, bd_f5, bd_f6, bd_f7, bd_f8, bd_f9, bd_f10, bd_f11, bd_f12, bd_f13, bd_f14, bd_f15, bd_f16, bd_s2, bd_s3, bd_s4, bd_s5, bd_s6, bd_s16]
    refine ⟨fun h => C204 (fun q => h q.1), fun h => ⟨fun h2 => C204 (fun q => h2 q.2), fun h2 => ?_⟩⟩
    obtain ⟨z1, z2, rfl, rfl, z5, z6⟩ := hc1 h h2
    have k4 := k2.elim (fun z => absurd ⟨h, h2⟩ z.1) (fun z => z.2)
    rw [nI_1]
    refine jk_Vg X hR d_BO_unmake_182 q_BO_unmake_182 m_BO_lift i_BO_lift e_BO_lift (ci := 10) rfl rfl (by omega) bd_a (c_BO_lift M.2.1 E _ _ _ _ hab hn0 _ _ _ (f + 1) (by omega) (by rw [k4]; exact menOK_up (menOK_up hMA (m := 0) (by decide)) hmm)) (by rfl) rfl ⟨Nat.le_of_ble_eq_true rfl, Nat.le_of_ble_eq_true rfl⟩ (c' := 0) rfl (s' := 0) rfl ⟨Nat.le_of_ble_eq_true rfl, Nat.le_of_ble_eq_true rfl⟩ (by exact Nat.le_of_ble_eq_true rfl) (pc' := 185) rfl ?_
    rintro _ _ _ ⟨A3, L3, rfl, hn2, rfl, y1, y2, y3, y4⟩
    obtain rfl : n = _ := hn2.symm
    simp only [Option.toList_none, List.nil_append]
    refine jrun_ok jC X k_BO_unmake_185 185 _ _ _ o_BO_unmake_185 ?_
    simp only [k_BO_unmake_185, jrun, jstep, jldi, jldl, jlda, j1, j2, jl1, jl2, jli, ja1, jbr, jald, jast, jlald, jlast, jalen, jget, jput, jfit, jdup, jdupx, jdupx2, jdup2, jcat, jset1, jset2, jkill, List.getElem?_cons_zero, List.getElem?_cons_succ, List.set_cons_zero, List.set_cons_succ, List.length_cons, List.length_nil, Nat.reduceAdd, Nat.reduceLT, Int32.reduceToNatClampNeg, true_and, and_true, and_self, reduceCtorEq, not_false_eq_true, false_and, and_false, or_false, false_or, true_or, or_true, bd_a, bd_ua, bd_l, vp_nar_int32, haa, bd_r0 hab, bd_u0 hab, hb0, bd_r1 hab, bd_u1 hab, hb1, bd_r2 hab, bd_u2 hab, hb2, bd_r3 hab, bd_u3 hab, hb3, bd_r4 hab, bd_u4 hab, hb4, bd_r5 hab, bd_u5 hab, hb5, bd_r6 hab, bd_u6 hab, hb6, bd_r7 hab, bd_u7 hab, hb7, bd_r8 hab, bd_u8 hab, hb8, bd_r9 hab, bd_u9 hab, hb9, bd_r10 hab, bd_u10 hab, hb10, bd_f0, bd_f1, bd_f2, bd_f3, bd_f4, bd_f5, bd_f6, bd_f7, bd_f8, bd_f9, bd_f10, bd_f11, bd_f12, bd_f13, bd_f14, bd_f15, bd_f16, bd_s2, bd_s3, bd_s4, bd_s5, bd_s6, bd_s16, q2, bRook sd hsd, nI_p3]
    refine jk_Vg X hR d_BO_unmake_198 q_BO_unmake_198 m_BO_put i_BO_put e_BO_put (ci := 10) rfl rfl (by omega) bd_a (c_BO_put2 M.2.1 E _ _ _ _ hab hn0 _ _ _ (f + 3) (sd * 8 + 4) (by omega) (by omega)) (by rfl) rfl ⟨Nat.le_of_ble_eq_true rfl, Nat.le_of_ble_eq_true rfl⟩ (c' := 0) rfl (s' := 0) rfl ⟨Nat.le_of_ble_eq_true rfl, Nat.le_of_ble_eq_true rfl⟩ (by exact Nat.le_of_ble_eq_true rfl) (pc' := 201) rfl ?_
    rintro _ _ _ ⟨A4, L4, rfl, hn2, rfl, i1, i2, i3, i4⟩
    obtain rfl : n = _ := hn2.symm
    simp only [Option.toList_none, List.nil_append]
    refine jrun_ok jC X k_BO_unmake_201 201 _ _ _ o_BO_unmake_201 ?_
    simp only [k_BO_unmake_201, jrun, jstep, jldi, jldl, jlda, j1, j2, jl1, jl2, jli, ja1, jbr, jald, jast, jlald, jlast, jalen, jget, jput, jfit, jdup, jdupx, jdupx2, jdup2, jcat, jset1, jset2, jkill, List.getElem?_cons_zero, List.getElem?_cons_succ, List.set_cons_zero, List.set_cons_succ, List.length_cons, List.length_nil, Nat.reduceAdd, Nat.reduceLT, Int32.reduceToNatClampNeg, true_and, and_true, and_self, reduceCtorEq, not_false_eq_true, false_and, and_false, or_false, false_or, true_or, or_true, bd_a, bd_ua, bd_l, vp_nar_int32, haa, bd_r0 hab, bd_u0 hab, hb0, bd_r1 hab, bd_u1 hab, hb1, bd_r2 hab, bd_u2 hab, hb2, bd_r3 hab, bd_u3 hab, hb3, bd_r4 hab, bd_u4 hab, hb4, bd_r5 hab, bd_u5 hab, hb5, bd_r6 hab, bd_u6 hab, hb6, bd_r7 hab, bd_u7 hab, hb7, bd_r8 hab, bd_u8 hab, hb8, bd_r9 hab, bd_u9 hab, hb9, bd_r10 hab, bd_u10 hab, hb10, bd_f0, bd_f1, bd_f2, bd_f3, bd_f4, bd_f5, bd_f6, bd_f7, bd_f8, bd_f9, bd_f10, bd_f11, bd_f12, bd_f13, bd_f14, bd_f15, bd_f16, bd_s2, bd_s3, bd_s4, bd_s5, bd_s6, bd_s16]
    refine hfin F1 q2 q3 q4 q5 q16 A4 L4 (k1.tr (y1.tr i1)) ?_ (fun q => i3 (by rw [y3]; exact k3 q)) (fun q => i4 (by rw [y2, k4, upd_o (by omega), upd_o (by omega), upd_o (by omega)]; exact (hS ⟨h, h2⟩).2) (by omega) (y4 (by rw [k4, upd_o (by omega), upd_o (by omega), (hS ⟨h, h2⟩).1]; exact nI4_ne sd hsd) (k5 q)))
    rw [i2, y2, k4, hA]
    unfold bMen
    rw [if_pos ⟨h, h2⟩]
    exact brest2 hman htk z5 z6 (by omega) (by omega) (by omega) (by omega) (by omega) (by omega)
  have hA3 : ¬ (nI mm &&& 7 = 6 ∧ nI t - nI f = 2) → ¬ (nI mm &&& 7 = 6 ∧ nI f - nI t = 2) → A 0 = (upd (upd (upd men0 f 0) w 0) t (nI (bQ mm b))) := by
    intro h1 h2
    rw [hA]
    unfold bMen
    rw [if_neg h1, if_neg h2]
  have C156 : ∀ (F1 : Nat → Int32) (q2 : F1 2 = nI sd) (q3 : F1 3 = F0 3) (q4 : F1 4 = F0 4) (q5 : F1 5 = (ud >>> (Int32.toInt64 16 &&& 63)).toInt32) (q16 : F1 16 = F 16) (A2 : Nat → Nat → Int32) (L2 : Nat → Nat → Int64), bKeep A A2 L L2 → A2 0 = upd (upd (A 0) t 0) f (nI mm) → (kOK (A 1) → kOK (A2 1)) → (bWs A → bWs A2) → ¬ nI k = 0 → jJ E jcl 9 M (jQ E jcl M (fun r σ' n' => ∃ (F' : Nat → Int32) (A' : Nat → Nat → Int32) (L' : Nat → Nat → Int64), r = none ∧ n' = n ∧ σ' = (bdP σ a n0 F' A' L') ∧ bKeep A A' L L' ∧ A' 0 = men0 ∧ (kOK (A 1) → kOK (A' 1)) ∧ (bWs A → bWs A') ∧ F' 2 = F0 2 ∧ F' 3 = F0 3 ∧ F' 4 = F0 4 ∧ F' 5 = (ud >>> (Int32.toInt64 16 &&& 63)).toInt32 ∧ F' 16 = F 16) 0 0) n 0 0 156 [some (.inr (.inr (some (.inl (a))))), some (.inl mv), some (.inr (.inl ud)), none, some (.inl (nI f)), some (.inl (nI t)), some (.inl (nI mm)), some (.inl (nI mm &&& 7)), some (.inl (nI k))] [.inl (nI w), .inr (.inr (some (.inl (a))))] (bdP σ a n0 F1 A2 L2) := by
    intro F1 q2 q3 q4 q5 q16 A2 L2 k1 k2 k3 k5 hne
    have n1 : ¬ (nI mm &&& 7 = 6 ∧ nI t - nI f = 2) := fun q => hne (by rw [(hc1 q.1 q.2).2.2.2.1]; rfl)
    have n2 : ¬ (nI mm &&& 7 = 6 ∧ nI f - nI t = 2) := fun q => hne (by rw [(hc2 q.1 q.2).2.2.2.1]; rfl)
    refine jrun_ok jC X k_BO_unmake_156 156 _ _ _ o_BO_unmake_156 ?_
    simp only [k_BO_unmake_156, jrun, jstep, jldi, jldl, jlda, j1, j2, jl1, jl2, jli, ja1, jbr, jald, jast, jlald, jlast, jalen, jget, jput, jfit, jdup, jdupx, jdupx2, jdup2, jcat, jset1, jset2, jkill, List.getElem?_cons_zero, List.getElem?_cons_succ, List.set_cons_zero, List.set_cons_succ, List.length_cons, List.length_nil, Nat.reduceAdd, Nat.reduceLT, Int32.reduceToNatClampNeg, true_and, and_true, and_self, reduceCtorEq, not_false_eq_true, false_and, and_false, or_false, false_or, true_or, or_true, bd_a, bd_ua, bd_l, vp_nar_int32, haa, bd_r0 hab, bd_u0 hab, hb0, bd_r1 hab, bd_u1 hab, hb1, bd_r2 hab, bd_u2 hab, hb2, bd_r3 hab, bd_u3 hab, hb3, bd_r4 hab, bd_u4 hab, hb4, bd_r5 hab, bd_u5 hab, hb5, bd_r6 hab, bd_u6 hab, hb6, bd_r7 hab, bd_u7 hab, hb7, bd_r8 hab, bd_u8 hab, hb8, bd_r9 hab, bd_u9 hab, hb9, bd_r10 hab, bd_u10 hab, hb10, bd_f0, bd_f1, bd_f2, bd_f3, bd_f4, bd_f5, bd_f6, bd_f7, bd_f8, bd_f9, bd_f10, bd_f11, bd_f12, bd_f13, bd_f14, bd_f15, bd_f16, bd_s2, bd_s3, bd_s4, bd_s5, bd_s6, bd_s16]
    refine jk_Vg X hR d_BO_unmake_158 q_BO_unmake_158 m_BO_put i_BO_put e_BO_put (ci := 10) rfl rfl (by omega) bd_a (c_BO_put2 M.2.1 E _ _ _ _ hab hn0 _ _ _ w k hw hk) (by rfl) rfl ⟨Nat.le_of_ble_eq_true rfl, Nat.le_of_ble_eq_true rfl⟩ (c' := 0) rfl (s' := 0) rfl ⟨Nat.le_of_ble_eq_true rfl, Nat.le_of_ble_eq_true rfl⟩ (by exact Nat.le_of_ble_eq_true rfl) (pc' := 161) rfl ?_
    rintro _ _ _ ⟨A4, L4, rfl, hn2, rfl, i1, i2, i3, i4⟩
    obtain rfl : n = _ := hn2.symm
    simp only [Option.toList_none, List.nil_append]
    exact C161 F1 q2 q3 q4 q5 q16 A4 L4 (k1.tr i1) (Or.inl ⟨n1, n2, by rw [i2, k2, hA3 n1 n2]; exact brest1 hman htk hwf hep⟩) (fun q => i3 (k3 q)) (fun q => i4 (by rw [k2, upd_o hwf, hA3 n1 n2]; exact b_w0) (fun z => hne (by rw [z]; rfl)) (k5 q))
  have C126 : ∀ (F1 : Nat → Int32) (q2 : F1 2 = nI sd) (q3 : F1 3 = F0 3) (q4 : F1 4 = F0 4) (q5 : F1 5 = (ud >>> (Int32.toInt64 16 &&& 63)).toInt32) (q16 : F1 16 = F 16) (A2 : Nat → Nat → Int32) (L2 : Nat → Nat → Int64), bKeep A A2 L L2 → A2 0 = upd (upd (A 0) t 0) f (nI mm) → (kOK (A 1) → kOK (A2 1)) → (bWs A → bWs A2) → jJ E jcl 9 M (jQ E jcl M (fun r σ' n' => ∃ (F' : Nat → Int32) (A' : Nat → Nat → Int32) (L' : Nat → Nat → Int64), r = none ∧ n' = n ∧ σ' = (bdP σ a n0 F' A' L') ∧ bKeep A A' L L' ∧ A' 0 = men0 ∧ (kOK (A 1) → kOK (A' 1)) ∧ (bWs A → bWs A') ∧ F' 2 = F0 2 ∧ F' 3 = F0 3 ∧ F' 4 = F0 4 ∧ F' 5 = (ud >>> (Int32.toInt64 16 &&& 63)).toInt32 ∧ F' 16 = F 16) 0 0) n 0 0 126 [some (.inr (.inr (some (.inl (a))))), some (.inl mv), some (.inr (.inl ud)), none, some (.inl (nI f)), some (.inl (nI t)), some (.inl (nI mm)), some (.inl (nI mm &&& 7)), some (.inl (nI k))] [] (bdP σ a n0 F1 A2 L2) := by
    intro F1 q2 q3 q4 q5 q16 A2 L2 k1 k2 k3 k5
    refine jrun_ok jC X k_BO_unmake_126 126 _ _ _ o_BO_unmake_126 ?_
    simp only [k_BO_unmake_126, jrun, jstep, jldi, jldl, jlda, j1, j2, jl1, jl2, jli, ja1, jbr, jald, jast, jlald, jlast, jalen, jget, jput, jfit, jdup, jdupx, jdupx2, jdup2, jcat, jset1, jset2, jkill, List.getElem?_cons_zero, List.getElem?_cons_succ, List.set_cons_zero, List.set_cons_succ, List.length_cons, List.length_nil, Nat.reduceAdd, Nat.reduceLT, Int32.reduceToNatClampNeg, true_and, and_true, and_self, reduceCtorEq, not_false_eq_true, false_and, and_false, or_false, false_or, true_or, or_true, bd_a, bd_ua, bd_l, vp_nar_int32, haa, bd_r0 hab, bd_u0 hab, hb0, bd_r1 hab, bd_u1 hab, hb1, bd_r2 hab, bd_u2 hab, hb2, bd_r3 hab, bd_u3 hab, hb3, bd_r4 hab, bd_u4 hab, hb4, bd_r5 hab, bd_u5 hab, hb5, bd_r6 hab, bd_u6 hab, hb6, bd_r7 hab, bd_u7 hab, hb7, bd_r8 hab, bd_u8 hab, hb8, bd_r9 hab, bd_u9 hab, hb9, bd_r10 hab, bd_u10 hab, hb10, bd_f0, bd_f1, bd_f2, bd_f3, bd_f4, bd_f5, bd_f6, bd_f7, bd_f8, bd_f9, bd_f10, bd_f11, bd_f12, bd_f13, bd_f14, bd_f15, bd_f16, bd_s2, bd_s3, bd_s4, bd_s5, bd_s6, bd_s16]
    refine ⟨fun h => ?_, fun h => ⟨fun h2 => ?_, fun h2 => ⟨fun h3 => ?_, fun h3 => ?_⟩⟩⟩
    · refine C161 F1 q2 q3 q4 q5 q16 A2 L2 k1 ?_ k3 k5
      have hk9 : k = 0 := by
        have h9 := (nI_eq (a := k) (b := 0) (by omega) (by omega)).mp h
        exact h9
      by_cases n1 : nI mm &&& 7 = 6 ∧ nI t - nI f = 2
      · exact Or.inr ⟨⟨n1.1, Or.inl n1.2⟩, k2⟩
      · by_cases n2 : nI mm &&& 7 = 6 ∧ nI f - nI t = 2
        · exact Or.inr ⟨⟨n2.1, Or.inr n2.2⟩, k2⟩
        · exact Or.inl ⟨n1, n2, by rw [k2, hA3 n1 n2]; exact brest0 hman (by rw [htk, hk9]) hwf hep⟩
    · refine jrun_ok jC X k_BO_unmake_154 154 _ _ _ o_BO_unmake_154 ?_
      simp only [k_BO_unmake_154, jrun, jstep, jldi, jldl, jlda, j1, j2, jl1, jl2, jli, ja1, jbr, jald, jast, jlald, jlast, jalen, jget, jput, jfit, jdup, jdupx, jdupx2, jdup2, jcat, jset1, jset2, jkill, List.getElem?_cons_zero, List.getElem?_cons_succ, List.set_cons_zero, List.set_cons_succ, List.length_cons, List.length_nil, Nat.reduceAdd, Nat.reduceLT, Int32.reduceToNatClampNeg, true_and, and_true, and_self, reduceCtorEq, not_false_eq_true, false_and, and_false, or_false, false_or, true_or, or_true, bd_a, bd_ua, bd_l, vp_nar_int32, haa, bd_r0 hab, bd_u0 hab, hb0, bd_r1 hab, bd_u1 hab, hb1, bd_r2 hab, bd_u2 hab, hb2, bd_r3 hab, bd_u3 hab, hb3, bd_r4 hab, bd_u4 hab, hb4, bd_r5 hab, bd_u5 hab, hb5, bd_r6 hab, bd_u6 hab, hb6, bd_r7 hab, bd_u7 hab, hb7, bd_r8 hab, bd_u8 hab, hb8, bd_r9 hab, bd_u9 hab, hb9, bd_r10 hab, bd_u10 hab, hb10, bd_f0, bd_f1, bd_f2, bd_f3, bd_f4, bd_f5, bd_f6, bd_f7, bd_f8, bd_f9, bd_f10, bd_f11, bd_f12, bd_f13, bd_f14, bd_f15, bd_f16, bd_s2, bd_s3, bd_s4, bd_s5, bd_s6, bd_s16]
      obtain rfl : t = w := (nI_eq (by omega) (by omega)).mp (by rw [← hwh]; unfold bWh; rw [hman, if_neg (fun q => h2 q.1)])
      exact C156 F1 q2 q3 q4 q5 q16 A2 L2 k1 k2 k3 k5 h
    · refine jrun_ok jC X k_BO_unmake_154 154 _ _ _ o_BO_unmake_154 ?_
      simp only [k_BO_unmake_154, jrun, jstep, jldi, jldl, jlda, j1, j2, jl1, jl2, jli, ja1, jbr, jald, jast, jlald, jlast, jalen, jget, jput, jfit, jdup, jdupx, jdupx2, jdup2, jcat, jset1, jset2, jkill, List.getElem?_cons_zero, List.getElem?_cons_succ, List.set_cons_zero, List.set_cons_succ, List.length_cons, List.length_nil, Nat.reduceAdd, Nat.reduceLT, Int32.reduceToNatClampNeg, true_and, and_true, and_self, reduceCtorEq, not_false_eq_true, false_and, and_false, or_false, false_or, true_or, or_true, bd_a, bd_ua, bd_l, vp_nar_int32, haa, bd_r0 hab, bd_u0 hab, hb0, bd_r1 hab, bd_u1 hab, hb1, bd_r2 hab, bd_u2 hab, hb2, bd_r3 hab, bd_u3 hab, hb3, bd_r4 hab, bd_u4 hab, hb4, bd_r5 hab, bd_u5 hab, hb5, bd_r6 hab, bd_u6 hab, hb6, bd_r7 hab, bd_u7 hab, hb7, bd_r8 hab, bd_u8 hab, hb8, bd_r9 hab, bd_u9 hab, hb9, bd_r10 hab, bd_u10 hab, hb10, bd_f0, bd_f1, bd_f2, bd_f3, bd_f4, bd_f5, bd_f6, bd_f7, bd_f8, bd_f9, bd_f10, bd_f11, bd_f12, bd_f13, bd_f14, bd_f15, bd_f16, bd_s2, bd_s3, bd_s4, bd_s5, bd_s6, bd_s16]
      obtain rfl : t = w := (nI_eq (by omega) (by omega)).mp (by rw [← hwh]; unfold bWh; rw [hman, if_neg (fun q => h3 (by rw [q4]; exact q.2))])
      exact C156 F1 q2 q3 q4 q5 q16 A2 L2 k1 k2 k3 k5 h
    · refine jk_Vg X hR d_BO_unmake_148 q_BO_unmake_148 m_BO_passedPawn i_BO_passedPawn e_BO_passedPawn (ci := 10) rfl rfl (by omega) bd_a (c_BO_passedPawn M.2.1 E _ _ _ _ hab hn0 _ _ _) (by rfl) rfl ⟨Nat.le_of_ble_eq_true rfl, Nat.le_of_ble_eq_true rfl⟩ (c' := 0) rfl (s' := 0) rfl ⟨Nat.le_of_ble_eq_true rfl, Nat.le_of_ble_eq_true rfl⟩ (by exact Nat.le_of_ble_eq_true rfl) (pc' := 151) rfl ?_
      rintro _ _ _ ⟨rfl, hn2, rfl⟩
      obtain rfl : n = _ := hn2.symm
      simp only [Option.toList_some, List.cons_append, List.nil_append]
      refine jrun_ok jC X k_BO_unmake_151 151 _ _ _ o_BO_unmake_151 ?_
      simp only [k_BO_unmake_151, jrun, jstep, jldi, jldl, jlda, j1, j2, jl1, jl2, jli, ja1, jbr, jald, jast, jlald, jlast, jalen, jget, jput, jfit, jdup, jdupx, jdupx2, jdup2, jcat, jset1, jset2, jkill, List.getElem?_cons_zero, List.getElem?_cons_succ, List.set_cons_zero, List.set_cons_succ, List.length_cons, List.length_nil, Nat.reduceAdd, Nat.reduceLT, Int32.reduceToNatClampNeg, true_and, and_true, and_self, reduceCtorEq, not_false_eq_true, false_and, and_false, or_false, false_or, true_or, or_true, bd_a, bd_ua, bd_l, vp_nar_int32, haa, bd_r0 hab, bd_u0 hab, hb0, bd_r1 hab, bd_u1 hab, hb1, bd_r2 hab, bd_u2 hab, hb2, bd_r3 hab, bd_u3 hab, hb3, bd_r4 hab, bd_u4 hab, hb4, bd_r5 hab, bd_u5 hab, hb5, bd_r6 hab, bd_u6 hab, hb6, bd_r7 hab, bd_u7 hab, hb7, bd_r8 hab, bd_u8 hab, hb8, bd_r9 hab, bd_u9 hab, hb9, bd_r10 hab, bd_u10 hab, hb10, bd_f0, bd_f1, bd_f2, bd_f3, bd_f4, bd_f5, bd_f6, bd_f7, bd_f8, bd_f9, bd_f10, bd_f11, bd_f12, bd_f13, bd_f14, bd_f15, bd_f16, bd_s2, bd_s3, bd_s4, bd_s5, bd_s6, bd_s16]
      have e : bPP F1 = nI w := by
        rw [← hwh]
        unfold bWh
        rw [hman, if_pos ⟨h2, by rw [h3, q4]⟩]
        unfold bPP
        rw [q2, q4, h02]
      rw [e]
      exact C156 F1 q2 q3 q4 q5 q16 A2 L2 k1 k2 k3 k5 h
  have C96 : ∀ (F1 : Nat → Int32) (q2 : F1 2 = nI sd) (q3 : F1 3 = F0 3) (q4 : F1 4 = F0 4) (q5 : F1 5 = (ud >>> (Int32.toInt64 16 &&& 63)).toInt32) (q16 : F1 16 = F 16), jJ E jcl 9 M (jQ E jcl M (fun r σ' n' => ∃ (F' : Nat → Int32) (A' : Nat → Nat → Int32) (L' : Nat → Nat → Int64), r = none ∧ n' = n ∧ σ' = (bdP σ a n0 F' A' L') ∧ bKeep A A' L L' ∧ A' 0 = men0 ∧ (kOK (A 1) → kOK (A' 1)) ∧ (bWs A → bWs A') ∧ F' 2 = F0 2 ∧ F' 3 = F0 3 ∧ F' 4 = F0 4 ∧ F' 5 = (ud >>> (Int32.toInt64 16 &&& 63)).toInt32 ∧ F' 16 = F 16) 0 0) n 0 0 96 [some (.inr (.inr (some (.inl (a))))), some (.inl mv), some (.inr (.inl ud)), none, some (.inl (nI f)), some (.inl (nI t)), none, none, none] [.inl (nI mm)] (bdP σ a n0 F1 A L) := by
    intro F1 q2 q3 q4 q5 q16
    refine jrun_ok jC X k_BO_unmake_96 96 _ _ _ o_BO_unmake_96 ?_
    simp only [k_BO_unmake_96, jrun, jstep, jldi, jldl, jlda, j1, j2, jl1, jl2, jli, ja1, jbr, jald, jast, jlald, jlast, jalen, jget, jput, jfit, jdup, jdupx, jdupx2, jdup2, jcat, jset1, jset2, jkill, List.getElem?_cons_zero, List.getElem?_cons_succ, List.set_cons_zero, List.set_cons_succ, List.length_cons, List.length_nil, Nat.reduceAdd, Nat.reduceLT, Int32.reduceToNatClampNeg, true_and, and_true, and_self, reduceCtorEq, not_false_eq_true, false_and, and_false, or_false, false_or, true_or, or_true, bd_a, bd_ua, bd_l, vp_nar_int32, haa, bd_r0 hab, bd_u0 hab, hb0, bd_r1 hab, bd_u1 hab, hb1, bd_r2 hab, bd_u2 hab, hb2, bd_r3 hab, bd_u3 hab, hb3, bd_r4 hab, bd_u4 hab, hb4, bd_r5 hab, bd_u5 hab, hb5, bd_r6 hab, bd_u6 hab, hb6, bd_r7 hab, bd_u7 hab, hb7, bd_r8 hab, bd_u8 hab, hb8, bd_r9 hab, bd_u9 hab, hb9, bd_r10 hab, bd_u10 hab, hb10, bd_f0, bd_f1, bd_f2, bd_f3, bd_f4, bd_f5, bd_f6, bd_f7, bd_f8, bd_f9, bd_f10, bd_f11, bd_f12, bd_f13, bd_f14, bd_f15, bd_f16, bd_s2, bd_s3, bd_s4, bd_s5, bd_s6, bd_s16, hk0]
    refine jk_Vg X hR d_BO_unmake_115 q_BO_unmake_115 m_BO_lift i_BO_lift e_BO_lift (ci := 10) rfl rfl (by omega) bd_a (c_BO_lift M.2.1 E _ _ _ _ hab hn0 _ _ _ t ht hMA) (by rfl) rfl ⟨Nat.le_of_ble_eq_true rfl, Nat.le_of_ble_eq_true rfl⟩ (c' := 0) rfl (s' := 0) rfl ⟨Nat.le_of_ble_eq_true rfl, Nat.le_of_ble_eq_true rfl⟩ (by exact Nat.le_of_ble_eq_true rfl) (pc' := 118) rfl ?_
    rintro _ _ _ ⟨A3, L3, rfl, hn2, rfl, y1, y2, y3, y4⟩
    obtain rfl : n = _ := hn2.symm
    simp only [Option.toList_none, List.nil_append]
    refine jrun_ok jC X k_BO_unmake_118 118 _ _ _ o_BO_unmake_118 ?_
    simp only [k_BO_unmake_118, jrun, jstep, jldi, jldl, jlda, j1, j2, jl1, jl2, jli, ja1, jbr, jald, jast, jlald, jlast, jalen, jget, jput, jfit, jdup, jdupx, jdupx2, jdup2, jcat, jset1, jset2, jkill, List.getElem?_cons_zero, List.getElem?_cons_succ, List.set_cons_zero, List.set_cons_succ, List.length_cons, List.length_nil, Nat.reduceAdd, Nat.reduceLT, Int32.reduceToNatClampNeg, true_and, and_true, and_self, reduceCtorEq, not_false_eq_true, false_and, and_false, or_false, false_or, true_or, or_true, bd_a, bd_ua, bd_l, vp_nar_int32, haa, bd_r0 hab, bd_u0 hab, hb0, bd_r1 hab, bd_u1 hab, hb1, bd_r2 hab, bd_u2 hab, hb2, bd_r3 hab, bd_u3 hab, hb3, bd_r4 hab, bd_u4 hab, hb4, bd_r5 hab, bd_u5 hab, hb5, bd_r6 hab, bd_u6 hab, hb6, bd_r7 hab, bd_u7 hab, hb7, bd_r8 hab, bd_u8 hab, hb8, bd_r9 hab, bd_u9 hab, hb9, bd_r10 hab, bd_u10 hab, hb10, bd_f0, bd_f1, bd_f2, bd_f3, bd_f4, bd_f5, bd_f6, bd_f7, bd_f8, bd_f9, bd_f10, bd_f11, bd_f12, bd_f13, bd_f14, bd_f15, bd_f16, bd_s2, bd_s3, bd_s4, bd_s5, bd_s6, bd_s16]
    refine jk_Vg X hR d_BO_unmake_123 q_BO_unmake_123 m_BO_put i_BO_put e_BO_put (ci := 10) rfl rfl (by omega) bd_a (c_BO_put2 M.2.1 E _ _ _ _ hab hn0 _ _ _ f mm hf hmm) (by rfl) rfl ⟨Nat.le_of_ble_eq_true rfl, Nat.le_of_ble_eq_true rfl⟩ (c' := 0) rfl (s' := 0) rfl ⟨Nat.le_of_ble_eq_true rfl, Nat.le_of_ble_eq_true rfl⟩ (by exact Nat.le_of_ble_eq_true rfl) (pc' := 126) rfl ?_
    rintro _ _ _ ⟨A4, L4, rfl, hn2, rfl, i1, i2, i3, i4⟩
    obtain rfl : n = _ := hn2.symm
    simp only [Option.toList_none, List.nil_append]
    exact C126 F1 q2 q3 q4 q5 q16 A4 L4 (y1.tr i1) (by rw [i2, y2]) (fun q => i3 (by rw [y3]; exact q)) (fun q => i4 (by rw [y2, upd_o hft]; exact hAf) hq1 (y4 (by rw [hAt]; exact b_n0 (bQ_lt mm hmm b hb) (b_q0 hmm hq1 hb)) q))
  refine jrun_ok jC X k_BO_unmake_0 0 _ _ _ o_BO_unmake_0 ?_
  simp only [k_BO_unmake_0, jrun, jstep, jldi, jldl, jlda, j1, j2, jl1, jl2, jli, ja1, jbr, jald, jast, jlald, jlast, jalen, jget, jput, jfit, jdup, jdupx, jdupx2, jdup2, jcat, jset1, jset2, jkill, List.getElem?_cons_zero, List.getElem?_cons_succ, List.set_cons_zero, List.set_cons_succ, List.length_cons, List.length_nil, Nat.reduceAdd, Nat.reduceLT, Int32.reduceToNatClampNeg, true_and, and_true, and_self, reduceCtorEq, not_false_eq_true, false_and, and_false, or_false, false_or, true_or, or_true, bd_a, bd_ua, bd_l, vp_nar_int32, haa, bd_r0 hab, bd_u0 hab, hb0, bd_r1 hab, bd_u1 hab, hb1, bd_r2 hab, bd_u2 hab, hb2, bd_r3 hab, bd_u3 hab, hb3, bd_r4 hab, bd_u4 hab, hb4, bd_r5 hab, bd_u5 hab, hb5, bd_r6 hab, bd_u6 hab, hb6, bd_r7 hab, bd_u7 hab, hb7, bd_r8 hab, bd_u8 hab, hb8, bd_r9 hab, bd_u9 hab, hb9, bd_r10 hab, bd_u10 hab, hb10, bd_f0, bd_f1, bd_f2, bd_f3, bd_f4, bd_f5, bd_f6, bd_f7, bd_f8, bd_f9, bd_f10, bd_f11, bd_f12, bd_f13, bd_f14, bd_f15, bd_f16, bd_s2, bd_s3, bd_s4, bd_s5, bd_s6, bd_s16, ct, ut, hAt, e1, e2, e3]
  refine jrun_ok jC X k_BO_unmake_14 14 _ _ _ o_BO_unmake_14 ?_
  simp only [k_BO_unmake_14, jrun, jstep, jldi, jldl, jlda, j1, j2, jl1, jl2, jli, ja1, jbr, jald, jast, jlald, jlast, jalen, jget, jput, jfit, jdup, jdupx, jdupx2, jdup2, jcat, jset1, jset2, jkill, List.getElem?_cons_zero, List.getElem?_cons_succ, List.set_cons_zero, List.set_cons_succ, List.length_cons, List.length_nil, Nat.reduceAdd, Nat.reduceLT, Int32.reduceToNatClampNeg, true_and, and_true, and_self, reduceCtorEq, not_false_eq_true, false_and, and_false, or_false, false_or, true_or, or_true, bd_a, bd_ua, bd_l, vp_nar_int32, haa, bd_r0 hab, bd_u0 hab, hb0, bd_r1 hab, bd_u1 hab, hb1, bd_r2 hab, bd_u2 hab, hb2, bd_r3 hab, bd_u3 hab, hb3, bd_r4 hab, bd_u4 hab, hb4, bd_r5 hab, bd_u5 hab, hb5, bd_r6 hab, bd_u6 hab, hb6, bd_r7 hab, bd_u7 hab, hb7, bd_r8 hab, bd_u8 hab, hb8, bd_r9 hab, bd_u9 hab, hb9, bd_r10 hab, bd_u10 hab, hb10, bd_f0, bd_f1, bd_f2, bd_f3, bd_f4, bd_f5, bd_f6, bd_f7, bd_f8, bd_f9, bd_f10, bd_f11, bd_f12, bd_f13, bd_f14, bd_f15, bd_f16, bd_s2, bd_s3, bd_s4, bd_s5, bd_s6, bd_s16, ct, ut, hAt, e1, e2, e3]
  refine jrun_ok jC X k_BO_unmake_24 24 _ _ _ o_BO_unmake_24 ?_
  simp only [k_BO_unmake_24, jrun, jstep, jldi, jldl, jlda, j1, j2, jl1, jl2, jli, ja1, jbr, jald, jast, jlald, jlast, jalen, jget, jput, jfit, jdup, jdupx, jdupx2, jdup2, jcat, jset1, jset2, jkill, List.getElem?_cons_zero, List.getElem?_cons_succ, List.set_cons_zero, List.set_cons_succ, List.length_cons, List.length_nil, Nat.reduceAdd, Nat.reduceLT, Int32.reduceToNatClampNeg, true_and, and_true, and_self, reduceCtorEq, not_false_eq_true, false_and, and_false, or_false, false_or, true_or, or_true, bd_a, bd_ua, bd_l, vp_nar_int32, haa, bd_r0 hab, bd_u0 hab, hb0, bd_r1 hab, bd_u1 hab, hb1, bd_r2 hab, bd_u2 hab, hb2, bd_r3 hab, bd_u3 hab, hb3, bd_r4 hab, bd_u4 hab, hb4, bd_r5 hab, bd_u5 hab, hb5, bd_r6 hab, bd_u6 hab, hb6, bd_r7 hab, bd_u7 hab, hb7, bd_r8 hab, bd_u8 hab, hb8, bd_r9 hab, bd_u9 hab, hb9, bd_r10 hab, bd_u10 hab, hb10, bd_f0, bd_f1, bd_f2, bd_f3, bd_f4, bd_f5, bd_f6, bd_f7, bd_f8, bd_f9, bd_f10, bd_f11, bd_f12, bd_f13, bd_f14, bd_f15, bd_f16, bd_s2, bd_s3, bd_s4, bd_s5, bd_s6, bd_s16, ct, ut, hAt, e1, e2, e3]
  refine jrun_ok jC X k_BO_unmake_37 37 _ _ _ o_BO_unmake_37 ?_
  simp only [k_BO_unmake_37, jrun, jstep, jldi, jldl, jlda, j1, j2, jl1, jl2, jli, ja1, jbr, jald, jast, jlald, jlast, jalen, jget, jput, jfit, jdup, jdupx, jdupx2, jdup2, jcat, jset1, jset2, jkill, List.getElem?_cons_zero, List.getElem?_cons_succ, List.set_cons_zero, List.set_cons_succ, List.length_cons, List.length_nil, Nat.reduceAdd, Nat.reduceLT, Int32.reduceToNatClampNeg, true_and, and_true, and_self, reduceCtorEq, not_false_eq_true, false_and, and_false, or_false, false_or, true_or, or_true, bd_a, bd_ua, bd_l, vp_nar_int32, haa, bd_r0 hab, bd_u0 hab, hb0, bd_r1 hab, bd_u1 hab, hb1, bd_r2 hab, bd_u2 hab, hb2, bd_r3 hab, bd_u3 hab, hb3, bd_r4 hab, bd_u4 hab, hb4, bd_r5 hab, bd_u5 hab, hb5, bd_r6 hab, bd_u6 hab, hb6, bd_r7 hab, bd_u7 hab, hb7, bd_r8 hab, bd_u8 hab, hb8, bd_r9 hab, bd_u9 hab, hb9, bd_r10 hab, bd_u10 hab, hb10, bd_f0, bd_f1, bd_f2, bd_f3, bd_f4, bd_f5, bd_f6, bd_f7, bd_f8, bd_f9, bd_f10, bd_f11, bd_f12, bd_f13, bd_f14, bd_f15, bd_f16, bd_s2, bd_s3, bd_s4, bd_s5, bd_s6, bd_s16, ct, ut, hAt, e1, e2, e3]
  refine jrun_ok jC X k_BO_unmake_48 48 _ _ _ o_BO_unmake_48 ?_
  simp only [k_BO_unmake_48, jrun, jstep, jldi, jldl, jlda, j1, j2, jl1, jl2, jli, ja1, jbr, jald, jast, jlald, jlast, jalen, jget, jput, jfit, jdup, jdupx, jdupx2, jdup2, jcat, jset1, jset2, jkill, List.getElem?_cons_zero, List.getElem?_cons_succ, List.set_cons_zero, List.set_cons_succ, List.length_cons, List.length_nil, Nat.reduceAdd, Nat.reduceLT, Int32.reduceToNatClampNeg, true_and, and_true, and_self, reduceCtorEq, not_false_eq_true, false_and, and_false, or_false, false_or, true_or, or_true, bd_a, bd_ua, bd_l, vp_nar_int32, haa, bd_r0 hab, bd_u0 hab, hb0, bd_r1 hab, bd_u1 hab, hb1, bd_r2 hab, bd_u2 hab, hb2, bd_r3 hab, bd_u3 hab, hb3, bd_r4 hab, bd_u4 hab, hb4, bd_r5 hab, bd_u5 hab, hb5, bd_r6 hab, bd_u6 hab, hb6, bd_r7 hab, bd_u7 hab, hb7, bd_r8 hab, bd_u8 hab, hb8, bd_r9 hab, bd_u9 hab, hb9, bd_r10 hab, bd_u10 hab, hb10, bd_f0, bd_f1, bd_f2, bd_f3, bd_f4, bd_f5, bd_f6, bd_f7, bd_f8, bd_f9, bd_f10, bd_f11, bd_f12, bd_f13, bd_f14, bd_f15, bd_f16, bd_s2, bd_s3, bd_s4, bd_s5, bd_s6, bd_s16, ct, ut, hAt, e1, e2, e3]
  refine jrun_ok jC X k_BO_unmake_62 62 _ _ _ o_BO_unmake_62 ?_
  simp only [k_BO_unmake_62, jrun, jstep, jldi, jldl, jlda, j1, j2, jl1, jl2, jli, ja1, jbr, jald, jast, jlald, jlast, jalen, jget, jput, jfit, jdup, jdupx, jdupx2, jdup2, jcat, jset1, jset2, jkill, List.getElem?_cons_zero, List.getElem?_cons_succ, List.set_cons_zero, List.set_cons_succ, List.length_cons, List.length_nil, Nat.reduceAdd, Nat.reduceLT, Int32.reduceToNatClampNeg, true_and, and_true, and_self, reduceCtorEq, not_false_eq_true, false_and, and_false, or_false, false_or, true_or, or_true, bd_a, bd_ua, bd_l, vp_nar_int32, haa, bd_r0 hab, bd_u0 hab, hb0, bd_r1 hab, bd_u1 hab, hb1, bd_r2 hab, bd_u2 hab, hb2, bd_r3 hab, bd_u3 hab, hb3, bd_r4 hab, bd_u4 hab, hb4, bd_r5 hab, bd_u5 hab, hb5, bd_r6 hab, bd_u6 hab, hb6, bd_r7 hab, bd_u7 hab, hb7, bd_r8 hab, bd_u8 hab, hb8, bd_r9 hab, bd_u9 hab, hb9, bd_r10 hab, bd_u10 hab, hb10, bd_f0, bd_f1, bd_f2, bd_f3, bd_f4, bd_f5, bd_f6, bd_f7, bd_f8, bd_f9, bd_f10, bd_f11, bd_f12, bd_f13, bd_f14, bd_f15, bd_f16, bd_s2, bd_s3, bd_s4, bd_s5, bd_s6, bd_s16, ct, ut, hAt, e1, e2, e3]
  refine jrun_ok jC X k_BO_unmake_71 71 _ _ _ o_BO_unmake_71 ?_
  simp only [k_BO_unmake_71, jrun, jstep, jldi, jldl, jlda, j1, j2, jl1, jl2, jli, ja1, jbr, jald, jast, jlald, jlast, jalen, jget, jput, jfit, jdup, jdupx, jdupx2, jdup2, jcat, jset1, jset2, jkill, List.getElem?_cons_zero, List.getElem?_cons_succ, List.set_cons_zero, List.set_cons_succ, List.length_cons, List.length_nil, Nat.reduceAdd, Nat.reduceLT, Int32.reduceToNatClampNeg, true_and, and_true, and_self, reduceCtorEq, not_false_eq_true, false_and, and_false, or_false, false_or, true_or, or_true, bd_a, bd_ua, bd_l, vp_nar_int32, haa, bd_r0 hab, bd_u0 hab, hb0, bd_r1 hab, bd_u1 hab, hb1, bd_r2 hab, bd_u2 hab, hb2, bd_r3 hab, bd_u3 hab, hb3, bd_r4 hab, bd_u4 hab, hb4, bd_r5 hab, bd_u5 hab, hb5, bd_r6 hab, bd_u6 hab, hb6, bd_r7 hab, bd_u7 hab, hb7, bd_r8 hab, bd_u8 hab, hb8, bd_r9 hab, bd_u9 hab, hb9, bd_r10 hab, bd_u10 hab, hb10, bd_f0, bd_f1, bd_f2, bd_f3, bd_f4, bd_f5, bd_f6, bd_f7, bd_f8, bd_f9, bd_f10, bd_f11, bd_f12, bd_f13, bd_f14, bd_f15, bd_f16, bd_s2, bd_s3, bd_s4, bd_s5, bd_s6, bd_s16, ct, ut, hAt, e1, e2, e3]
  refine ⟨fun h => ?_, fun h => ?_⟩
  · have e9 : (F 2 ^^^ 1) <<< (3 &&& 31) ||| 1 = nI mm := by rw [hs2, bPawn sd hsd, hpr h]
    refine jrun_ok jC X k_BO_unmake_88 88 _ _ _ o_BO_unmake_88 ?_
    simp only [k_BO_unmake_88, jrun, jstep, jldi, jldl, jlda, j1, j2, jl1, jl2, jli, ja1, jbr, jald, jast, jlald, jlast, jalen, jget, jput, jfit, jdup, jdupx, jdupx2, jdup2, jcat, jset1, jset2, jkill, List.getElem?_cons_zero, List.getElem?_cons_succ, List.set_cons_zero, List.set_cons_succ, List.length_cons, List.length_nil, Nat.reduceAdd, Nat.reduceLT, Int32.reduceToNatClampNeg, true_and, and_true, and_self, reduceCtorEq, not_false_eq_true, false_and, and_false, or_false, false_or, true_or, or_true, bd_a, bd_ua, bd_l, vp_nar_int32, haa, bd_r0 hab, bd_u0 hab, hb0, bd_r1 hab, bd_u1 hab, hb1, bd_r2 hab, bd_u2 hab, hb2, bd_r3 hab, bd_u3 hab, hb3, bd_r4 hab, bd_u4 hab, hb4, bd_r5 hab, bd_u5 hab, hb5, bd_r6 hab, bd_u6 hab, hb6, bd_r7 hab, bd_u7 hab, hb7, bd_r8 hab, bd_u8 hab, hb8, bd_r9 hab, bd_u9 hab, hb9, bd_r10 hab, bd_u10 hab, hb10, bd_f0, bd_f1, bd_f2, bd_f3, bd_f4, bd_f5, bd_f6, bd_f7, bd_f8, bd_f9, bd_f10, bd_f11, bd_f12, bd_f13, bd_f14, bd_f15, bd_f16, bd_s2, bd_s3, bd_s4, bd_s5, bd_s6, bd_s16, va_up, Nat.reduceEqDiff, if_false, ite_false, reduceIte, if_true, ite_true, e9]
    exact C96 _ hs2 hr0 hp0 rfl rfl
  · rw [← bQ_0 mm hmm b hb h]
    exact C96 _ hs2 hr0 hp0 rfl rfl
end
section
/-! the tables of the board, and what attacks a square -/
noncomputable def y_BO_attacked : jY := (⟨"ChessHouse$Board", "attacked", "(II)Z"⟩, prog_3_method_10_code, 10, (some .boolean))
theorem m_BO_attacked : jmth lw_tbl y_BO_attacked 2 := ⟨jTA_in (wi := 1170) (jtF_ok rfl) rfl, jTA_in (wi := 312) (jtF_ok rfl) rfl, by decide, by decide, by decide +kernel⟩
theorem i_BO_attacked : Jvm.Cond.instanceMethod y_BO_attacked.1 ∈ jTA lw_tbl := jTA_in (wi := 1168) (jtF_ok rfl) rfl
theorem e_BO_attacked : Jvm.Cond.selects y_BO_attacked.1.cls y_BO_attacked.1 y_BO_attacked.1 ∈ jTA lw_tbl := jTA_in (wi := 1169) (jtF_ok rfl) rfl
noncomputable def y_BO_inCheck : jY := (⟨"ChessHouse$Board", "inCheck", "()Z"⟩, prog_3_method_11_code, 1, (some .boolean))
theorem m_BO_inCheck : jmth lw_tbl y_BO_inCheck 0 := ⟨jTA_in (wi := 1419) (jtF_ok rfl) rfl, jTA_in (wi := 312) (jtF_ok rfl) rfl, by decide, by decide, by decide +kernel⟩
theorem i_BO_inCheck : Jvm.Cond.instanceMethod y_BO_inCheck.1 ∈ jTA lw_tbl := jTA_in (wi := 1417) (jtF_ok rfl) rfl
theorem e_BO_inCheck : Jvm.Cond.selects y_BO_inCheck.1.cls y_BO_inCheck.1 y_BO_inCheck.1 ∈ jTA lw_tbl := jTA_in (wi := 1418) (jtF_ok rfl) rfl
noncomputable def knB (s t : Nat) : Bool := let a : Int := (t % 8 : Nat) - (s % 8 : Nat); let b : Int := (t / 8 : Nat) - (s / 8 : Nat); a * a + b * b == 5
noncomputable def hpL (s : Nat) : List Nat := (List.range 64).filter (knB s)
noncomputable def hT (i : Nat) : Int32 := match (hpL (i / 8))[i % 8]? with
  | some t => nI t
  | none => -1
noncomputable def pt (s d k : Nat) : Nat := ((s : Int) + (k : Int) * (tv_0.getD d 0).toInt).toNat
end
section
/-! a text's constant by the wide form -/
section JK8
variable {E : jE} {own : String} {Ts : List Jvm.Cond} {cl : List vw_C} {tb : jTb} {nL : Nat} {ini : Bool} {cc : ByteArray} {M : jM} {Q : State → Prop} {n cells slots : Nat}
theorem jk_stW {p : Program} {l : Launch} {e : Env} {R : Room} {s : State} {m : MethodId} {args : Array Value} {below : List Frame} {meth : Method} {c : Code} {T : State} {locs : List Loc} {cells slots : Nat} (X : Stand p l e R s m args below meth c T locs cells slots) (hexec : p.tables.exec = Jvm.exec) {own text : String} {index : Nat} {a : Addr} (hown : s.vm.findClass own = some m.cls) (hconst : (Jvm.Cond.stringRef own index text).before args s = true) (hev : (Term.string own index).eval args s none [] s = some (.ref a)) {g : JFrame} (hg : g.method = m) (hdg : decode c.code g.pc = .ok (.ldc_w index, 3)) :
    ∀ target, Steps p.tables e below (T.setTop { g with pc := g.pc + 3, stack := .ref a :: g.stack }) target → Steps p.tables e below (T.setTop g) target := by
  obtain ⟨k, cf, i, a', hk, hcf, hcp, -, hr, hev'⟩ := Cond.stringRef_spec hown hconst
  cases hev.symm.trans hev'
  obtain ⟨k', hk', he⟩ := X.warmed.alike.2.2 _ _ hk
  have hr' : k'.resolved[index]? = some (some (.string a)) := by
    rcases X.warmed.entry hk hk' index with h | ⟨h, -⟩
    · rw [h]; exact hr
    · rw [hr] at h; cases h
  intro target hrest
  subst hg
  jvm_step X.here [hexec, hdg, ldc_w.wp_string (e := e) (s := T) (f := g) X.here.top hk' (by rw [he]; exact hcf) hcp hr']
  exact hrest
theorem jk_ldx (X : jX E own Ts cl tb nL ini cc M) {pc i j : Nat} {tx : String} (hd : decode cc pc = .ok (.ldc_w i, 3)) (hm : (own, i, tx, j) ∈ js0.2.2.2.2) {lv : List (Option jv)} {r : List jv} {σ : Nat → jcell} (k : jJ E cl nL M Q n cells slots (pc + 3) lv (.inr (.inr (some (.inr j))) :: r) σ) : jJ E cl nL M Q n cells slots pc lv r σ := by
  obtain ⟨p, l, e, R, s, m, args, below, meth, c⟩ := M
  obtain ⟨hx, hb, hml, ho, hts, ⟨hK, hSt, -⟩, -⟩ := X
  have hZ := hSt.2.2.2.2.2.1 _ hm
  intro H locs ls hW hS hL T hT X1
  obtain ⟨t, a1, b1⟩ := k H locs ls hW hS hL T hT X1
  exact ⟨t, jk_stW X1 hx ho (text := tx) (a := E.2.2.1 j) (by have h9 := hZ.1; simpa [Cond.before, Cond.holds, Cond.value] using h9) (by have h9 := hZ.2; simpa [Term.eval] using h9) (g := F0 m pc ls (r.map (jc E))) rfl (by rw [hb]; exact hd) t a1, b1⟩
end JK8
end
section
/-! THE A KIT: intervals of ints, and what the machine's operations make of them -/
noncomputable def a32 : Int × Int := (-2147483648, 2147483647)
noncomputable def aIn (q : Int × Int) (x : Int32) : Prop := q.1 ≤ x.toInt ∧ x.toInt ≤ q.2
noncomputable def aFit (q : Int × Int) : Int × Int := if -2147483648 ≤ q.1 ∧ q.2 ≤ 2147483647 then q else a32
theorem aIn_32 (x : Int32) : aIn a32 x := ⟨Int32.le_toInt x, by have := Int32.toInt_lt x; show x.toInt ≤ 2147483647; omega⟩
theorem aFit_ok {q : Int × Int} {x : Int32} {v : Int} (hx : x.toInt = v.bmod (2 ^ 32)) (h1 : q.1 ≤ v) (h2 : v ≤ q.2) : aIn (aFit q) x := by
  unfold aFit
  split
  next h =>
    have h3 : v.bmod (2 ^ 32) = v := Int.bmod_eq_of_le (by omega) (by omega)
    rw [h3] at hx
    exact ⟨by omega, by omega⟩
  next => exact aIn_32 x
noncomputable def aAdd (A B : Int × Int) : Int × Int := aFit (A.1 + B.1, A.2 + B.2)
theorem aAdd_ok {A B : Int × Int} {x y : Int32} (h1 : aIn A x) (h2 : aIn B y) : aIn (aAdd A B) (x + y) :=
  aFit_ok (Int32.toInt_add x y) (by have := h1.1; have := h2.1; dsimp only; omega) (by have := h1.2; have := h2.2; dsimp only; omega)
noncomputable def aSub (A B : Int × Int) : Int × Int := aFit (A.1 - B.2, A.2 - B.1)
theorem aSub_ok {A B : Int × Int} {x y : Int32} (h1 : aIn A x) (h2 : aIn B y) : aIn (aSub A B) (x - y) :=
  aFit_ok (Int32.toInt_sub x y) (by have := h1.1; have := h2.2; dsimp only; omega) (by have := h1.2; have := h2.1; dsimp only; omega)
noncomputable def aNeg (A : Int × Int) : Int × Int := aFit (-A.2, -A.1)
theorem aNeg_ok {A : Int × Int} {x : Int32} (h1 : aIn A x) : aIn (aNeg A) (-x) :=
  aFit_ok (Int32.toInt_neg x) (by have := h1.2; dsimp only; omega) (by have := h1.1; dsimp only; omega)
noncomputable def aMul (A B : Int × Int) : Int × Int := aFit (min (min (A.1 * B.1) (A.1 * B.2)) (min (A.2 * B.1) (A.2 * B.2)), max (max (A.1 * B.1) (A.1 * B.2)) (max (A.2 * B.1) (A.2 * B.2)))
theorem aMul_l {a b x y : Int} (h1 : a ≤ x) (h2 : x ≤ b) : min (a * y) (b * y) ≤ x * y ∧ x * y ≤ max (a * y) (b * y) := by
  rcases Int.le_total 0 y with hy | hy
  · have h3 := Int.mul_le_mul_of_nonneg_right h1 hy
    have h4 := Int.mul_le_mul_of_nonneg_right h2 hy
    omega
  · have h3 := Int.mul_le_mul_of_nonpos_right h1 hy
    have h4 := Int.mul_le_mul_of_nonpos_right h2 hy
    omega
theorem aMul_ok {A B : Int × Int} {x y : Int32} (h1 : aIn A x) (h2 : aIn B y) : aIn (aMul A B) (x * y) := by
  have e1 := aMul_l (y := y.toInt) h1.1 h1.2
  have e2 := aMul_l (y := A.1) h2.1 h2.2
  have e3 := aMul_l (y := A.2) h2.1 h2.2
  rw [Int.mul_comm B.1, Int.mul_comm B.2, Int.mul_comm y.toInt] at e2 e3
  exact aFit_ok (Int32.toInt_mul x y) (by dsimp only; omega) (by dsimp only; omega)
/-- an int that is not below zero, as its bits -/
theorem aNat {x : Int32} (h : 0 ≤ x.toInt) : x.toInt = (x.toBitVec.toNat : Int) ∧ x.toBitVec.toNat < 2147483648 := by
  have h1 : x.toInt = x.toBitVec.toInt := rfl
  rw [h1] at h ⊢
  rw [BitVec.toInt_eq_toNat_cond] at h ⊢
  have h2 := x.toBitVec.isLt
  split at h
  next h3 => rw [if_pos h3]; exact ⟨rfl, by omega⟩
  next h3 => exfalso; omega
theorem aNat' {x : Int32} {k : Nat} (h : x.toBitVec.toNat = k) (hk : k < 2147483648) : x.toInt = (k : Int) := by
  have h1 : x.toInt = x.toBitVec.toInt := rfl
  rw [h1, BitVec.toInt_eq_toNat_cond, h, if_pos (by omega)]
noncomputable def aAnd (A B : Int × Int) : Int × Int := if 0 ≤ A.1 then (0, if 0 ≤ B.1 ∧ B.2 ≤ A.2 then B.2 else A.2) else if 0 ≤ B.1 then (0, B.2) else a32
theorem aAnd_l {x y : Int32} (h : 0 ≤ x.toInt) : 0 ≤ (x &&& y).toInt ∧ (x &&& y).toInt ≤ x.toInt := by
  obtain ⟨h1, h2⟩ := aNat h
  have h3 : (x &&& y).toBitVec.toNat = x.toBitVec.toNat &&& y.toBitVec.toNat := by rw [Int32.toBitVec_and, BitVec.toNat_and]
  have h4 : x.toBitVec.toNat &&& y.toBitVec.toNat ≤ x.toBitVec.toNat := Nat.and_le_left
  have h5 := aNat' h3 (by omega)
  omega
theorem aAnd_r {x y : Int32} (h : 0 ≤ y.toInt) : 0 ≤ (x &&& y).toInt ∧ (x &&& y).toInt ≤ y.toInt := by
  rw [Int32.and_comm]
  exact aAnd_l h
theorem aAnd_ok {A B : Int × Int} {x y : Int32} (h1 : aIn A x) (h2 : aIn B y) : aIn (aAnd A B) (x &&& y) := by
  unfold aAnd
  obtain ⟨h3, h4⟩ := h1
  obtain ⟨h5, h6⟩ := h2
  split
  next h =>
    have e1 := aAnd_l (x := x) (y := y) (by omega)
    refine ⟨e1.1, ?_⟩
    dsimp only
    split
    next h7 => have e2 := aAnd_r (x := x) (y := y) (by omega); omega
    next => omega
  next =>
    split
    next h => have e2 := aAnd_r (x := x) (y := y) (by omega); exact ⟨e2.1, by dsimp only; omega⟩
    next => exact aIn_32 _
noncomputable def aTop (A B : Int × Int) : Int := ((2 ^ (Nat.log2 (max A.2.toNat B.2.toNat) + 1) : Nat) : Int) - 1
noncomputable def aOr (A B : Int × Int) : Int × Int := if 0 ≤ A.1 ∧ 0 ≤ B.1 then aFit (0, aTop A B) else a32
theorem aOr_l {A B : Int × Int} {x y z : Int32} (h1 : aIn A x) (h2 : aIn B y) (hA : 0 ≤ A.1) (hB : 0 ≤ B.1) (hz : ∀ m, x.toBitVec.toNat < 2 ^ m → y.toBitVec.toNat < 2 ^ m → z.toBitVec.toNat < 2 ^ m) : aIn (aFit (0, aTop A B)) z := by
  obtain ⟨h3, h4⟩ := h1
  obtain ⟨h5, h6⟩ := h2
  have e1 := aNat (x := x) (by omega)
  have e2 := aNat (x := y) (by omega)
  have l1 : max A.2.toNat B.2.toNat < 2 ^ (Nat.log2 (max A.2.toNat B.2.toNat) + 1) := Nat.lt_log2_self
  have l2 := hz (Nat.log2 (max A.2.toNat B.2.toNat) + 1) (by omega) (by omega)
  have l3 := hz 31 (by omega) (by omega)
  have l4 := aNat' (x := z) rfl (by omega)
  unfold aFit
  split
  next => exact ⟨by dsimp only; omega, by unfold aTop; dsimp only; omega⟩
  next => exact aIn_32 _
theorem aOr_ok {A B : Int × Int} {x y : Int32} (h1 : aIn A x) (h2 : aIn B y) : aIn (aOr A B) (x ||| y) := by
  unfold aOr
  split
  next h => exact aOr_l h1 h2 h.1 h.2 (fun m hx hy => by rw [Int32.toBitVec_or, BitVec.toNat_or]; exact Nat.or_lt_two_pow hx hy)
  next => exact aIn_32 _
theorem aXor_ok {A B : Int × Int} {x y : Int32} (h1 : aIn A x) (h2 : aIn B y) : aIn (aOr A B) (x ^^^ y) := by
  unfold aOr
  split
  next h => exact aOr_l h1 h2 h.1 h.2 (fun m hx hy => by rw [Int32.toBitVec_xor, BitVec.toNat_xor]; exact Nat.xor_lt_two_pow hx hy)
  next => exact aIn_32 _
end
section
/-! shifts, quotients, rests -/
theorem aSc (c : Nat) (hc : c < 32) : ((Int32.ofInt (c : Int) &&& 31).toBitVec.smod 32).toNat = c := by
  have h : ∀ k : Fin 32, ((Int32.ofInt (k.val : Int) &&& 31).toBitVec.smod 32).toNat = k.val := by decide +kernel
  exact h ⟨c, hc⟩
theorem aYc {y : Int32} {c : Nat} (h : y.toInt = (c : Int)) : y = Int32.ofInt (c : Int) := by rw [← h, Int32.ofInt_toInt]
theorem aShl_l {x y : Int32} {c : Nat} (hy : y.toInt = (c : Int)) (hc : c < 32) : (x <<< (y &&& 31)).toBitVec.toNat = (x.toBitVec.toNat * 2 ^ c) % 2 ^ 32 := by
  rw [Int32.toBitVec_shiftLeft, BitVec.shiftLeft_eq', BitVec.toNat_shiftLeft, aYc hy, aSc c hc, Nat.shiftLeft_eq]
noncomputable def aK1 (B : Int × Int) : Bool := decide (B.1 = B.2) && decide (0 ≤ B.1) && decide (B.1 < 32)
theorem aK1_ok {B : Int × Int} {y : Int32} (h : aK1 B = true) (hy : aIn B y) : y.toInt = (B.1.toNat : Int) ∧ B.1.toNat < 32 := by
  simp only [aK1, Bool.and_eq_true, decide_eq_true_eq] at h
  obtain ⟨h1, h2⟩ := hy
  omega
noncomputable def aShl (A B : Int × Int) : Int × Int := if aK1 B = true ∧ 0 ≤ A.1 then (if A.2 * 2 ^ B.1.toNat ≤ 2147483647 then (A.1 * 2 ^ B.1.toNat, A.2 * 2 ^ B.1.toNat) else a32) else a32
theorem aShl_ok {A B : Int × Int} {x y : Int32} (h1 : aIn A x) (h2 : aIn B y) : aIn (aShl A B) (x <<< (y &&& 31)) := by
  unfold aShl
  split
  next h =>
    split
    next hb =>
      obtain ⟨k1, k2⟩ := aK1_ok h.1 h2
      obtain ⟨h3, h4⟩ := h1
      obtain ⟨e1, e2⟩ := aNat (x := x) (by omega)
      have h5 := aShl_l (x := x) k1 k2
      have hp : (0 : Int) ≤ 2 ^ B.1.toNat := Int.pow_nonneg (by decide)
      have m1 := Int.mul_le_mul_of_nonneg_right h3 hp
      have m2 := Int.mul_le_mul_of_nonneg_right h4 hp
      have c1 : ((x.toBitVec.toNat * 2 ^ B.1.toNat : Nat) : Int) = x.toInt * 2 ^ B.1.toNat := by rw [e1]; push_cast; rfl
      have h6 : x.toBitVec.toNat * 2 ^ B.1.toNat < 2147483648 := by omega
      rw [Nat.mod_eq_of_lt (by omega)] at h5
      have h7 := aNat' h5 h6
      exact ⟨by rw [h7, c1]; exact m1, by rw [h7, c1]; exact m2⟩
    next => exact aIn_32 _
  next => exact aIn_32 _
theorem aShr_l (x y : Int32) : ∃ c : Nat, (x >>> (y &&& 31)).toInt = x.toInt / 2 ^ c ∧ ∀ k : Nat, k < 32 → y.toInt = (k : Int) → c = k := by
  refine ⟨((y &&& 31).toBitVec.smod 32).toNat, ?_, fun k hk hy => by rw [aYc hy, aSc k hk]⟩
  show (x >>> (y &&& 31)).toBitVec.toInt = x.toBitVec.toInt / _
  rw [Int32.toBitVec_shiftRight, BitVec.sshiftRight_eq', BitVec.toInt_sshiftRight, Int.shiftRight_eq_div_pow]
  push_cast
  rfl
noncomputable def aShr (A B : Int × Int) : Int × Int := if aK1 B = true then (A.1 / 2 ^ B.1.toNat, A.2 / 2 ^ B.1.toNat) else if 0 ≤ A.1 then (0, A.2) else a32
theorem aShr_ok {A B : Int × Int} {x y : Int32} (h1 : aIn A x) (h2 : aIn B y) : aIn (aShr A B) (x >>> (y &&& 31)) := by
  obtain ⟨c, e1, e2⟩ := aShr_l x y
  have hp : (0 : Int) < 2 ^ c := Int.pow_pos (by decide)
  unfold aShr
  split
  next h =>
    obtain ⟨k1, k2⟩ := aK1_ok h h2
    obtain rfl := e2 _ k2 k1
    exact ⟨by rw [e1]; exact Int.ediv_le_ediv hp h1.1, by rw [e1]; exact Int.ediv_le_ediv hp h1.2⟩
  next =>
    split
    next h =>
      have h3 := h1.1
      have h4 := h1.2
      refine ⟨by rw [e1]; exact Int.ediv_nonneg (by omega) (by omega), ?_⟩
      rw [e1]
      exact Int.le_trans (Int.ediv_le_self _ (by omega)) h4
    next => exact aIn_32 _
theorem aUsh_l (x y : Int32) : ∃ c : Nat, ((x.toUInt32 >>> (y.toUInt32 &&& Int32.toUInt32 31)).toInt32).toBitVec.toNat = x.toBitVec.toNat / 2 ^ c ∧ ∀ k : Nat, k < 32 → y.toInt = (k : Int) → c = k := by
  refine ⟨(y.toUInt32 &&& Int32.toUInt32 31).toNat % 32, ?_, fun k hk hy => ?_⟩
  · show (x.toUInt32 >>> (y.toUInt32 &&& Int32.toUInt32 31)).toNat = _
    rw [UInt32.toNat_shiftRight, Nat.shiftRight_eq_div_pow]
    rfl
  · rw [aYc hy]
    have h : ∀ k : Fin 32, ((Int32.ofInt (k.val : Int)).toUInt32 &&& Int32.toUInt32 31).toNat % 32 = k.val := by decide +kernel
    exact h ⟨k, hk⟩
noncomputable def aUsh (A B : Int × Int) : Int × Int := if 0 ≤ A.1 then (if aK1 B = true then (0, A.2 / 2 ^ B.1.toNat) else (0, A.2)) else if aK1 B = true ∧ 1 ≤ B.1 then (0, 4294967295 / 2 ^ B.1.toNat) else a32
theorem aUsh_ok {A B : Int × Int} {x y : Int32} (h1 : aIn A x) (h2 : aIn B y) : aIn (aUsh A B) (x.toUInt32 >>> (y.toUInt32 &&& Int32.toUInt32 31)).toInt32 := by
  obtain ⟨c, e1, e2⟩ := aUsh_l x y
  have hp : (0 : Int) < 2 ^ c := Int.pow_pos (by decide)
  have hx := x.toBitVec.isLt
  have hd : x.toBitVec.toNat / 2 ^ c ≤ x.toBitVec.toNat := Nat.div_le_self _ _
  unfold aUsh
  split
  next h =>
    obtain ⟨h3, h4⟩ := h1
    obtain ⟨n1, n2⟩ := aNat (x := x) (by omega)
    have n3 := aNat' e1 (by omega)
    split
    next h5 =>
      obtain ⟨k1, k2⟩ := aK1_ok h5 h2
      obtain rfl := e2 _ k2 k1
      refine ⟨by rw [n3]; exact Int.natCast_nonneg _, ?_⟩
      rw [n3]
      push_cast
      rw [← n1]
      exact Int.ediv_le_ediv hp h4
    next => exact ⟨by rw [n3]; exact Int.natCast_nonneg _, by rw [n3]; dsimp only; omega⟩
  next =>
    split
    next h5 =>
      obtain ⟨k1, k2⟩ := aK1_ok h5.1 h2
      obtain rfl := e2 _ k2 k1
      have h6 : x.toBitVec.toNat / 2 ^ B.1.toNat ≤ 4294967295 / 2 ^ B.1.toNat := Nat.div_le_div_right (by omega)
      have h7 : 2 ^ 1 ≤ 2 ^ B.1.toNat := Nat.pow_le_pow_right (by decide) (by omega)
      have h8 : x.toBitVec.toNat / 2 ^ B.1.toNat ≤ x.toBitVec.toNat / 2 := Nat.div_le_div_left (by omega) (by decide)
      have n3 := aNat' e1 (by omega)
      refine ⟨by rw [n3]; exact Int.natCast_nonneg _, ?_⟩
      rw [n3]
      have h9 : ((4294967295 / 2 ^ B.1.toNat : Nat) : Int) = 4294967295 / 2 ^ B.1.toNat := by rw [Int.natCast_ediv, Int.natCast_pow]; rfl
      dsimp only
      omega
    next => exact aIn_32 _
noncomputable def aDiv (A B : Int × Int) : Int × Int := if 1 ≤ B.1 ∧ 0 ≤ A.1 then (0, A.2 / B.1) else a32
theorem aDiv_l {x y : Int32} (h1 : 0 ≤ x.toInt) (h2 : 1 ≤ y.toInt) : (x / y).toInt = x.toInt / y.toInt := by
  have h3 := Int32.toInt_lt x
  have h4 : x.toInt / y.toInt ≤ x.toInt := Int.ediv_le_self _ h1
  have h5 : 0 ≤ x.toInt / y.toInt := Int.ediv_nonneg h1 (by omega)
  rw [Int32.toInt_div, Int.tdiv_eq_ediv_of_nonneg h1]
  exact Int.bmod_eq_of_le (by omega) (by omega)
theorem aDiv_ok {A B : Int × Int} {x y : Int32} (h1 : aIn A x) (h2 : aIn B y) : aIn (aDiv A B) (x / y) := by
  unfold aDiv
  split
  next h =>
    obtain ⟨h3, h4⟩ := h1
    obtain ⟨h5, h6⟩ := h2
    have e9 := aDiv_l (x := x) (y := y) (by omega) (by omega)
    have h7 : x.toInt / y.toInt ≤ x.toInt / B.1 := by
      rw [Int.le_ediv_iff_mul_le (by omega)]
      have q1 := Int.mul_le_mul_of_nonneg_left h5 (Int.ediv_nonneg (a := x.toInt) (b := y.toInt) (by omega) (by omega))
      have q2 := Int.ediv_mul_le x.toInt (b := y.toInt) (by omega)
      omega
    have h8 : x.toInt / B.1 ≤ A.2 / B.1 := Int.ediv_le_ediv (by omega) h4
    exact ⟨by rw [e9]; exact Int.ediv_nonneg (by omega) (by omega), by rw [e9]; dsimp only; omega⟩
  next => exact aIn_32 _
noncomputable def aRem (A B : Int × Int) : Int × Int := if 1 ≤ B.1 ∧ 0 ≤ A.1 then (0, if A.2 ≤ B.2 - 1 then A.2 else B.2 - 1) else a32
theorem aRem_l {x y : Int32} (h1 : 0 ≤ x.toInt) (h2 : 1 ≤ y.toInt) : (x - x / y * y).toInt = x.toInt % y.toInt := by
  have h3 := Int32.toInt_lt x
  have h4 := aDiv_l h1 h2
  have h5 : x.toInt / y.toInt * y.toInt + x.toInt % y.toInt = x.toInt := Int.ediv_mul_add_emod _ _
  have h6 : 0 ≤ x.toInt % y.toInt := Int.emod_nonneg _ (by omega)
  have h7 : 0 ≤ x.toInt / y.toInt * y.toInt := Int.mul_nonneg (Int.ediv_nonneg h1 (by omega)) (by omega)
  have h8 : (x / y * y).toInt = x.toInt / y.toInt * y.toInt := by
    rw [Int32.toInt_mul, h4]
    exact Int.bmod_eq_of_le (by omega) (by omega)
  rw [Int32.toInt_sub, h8, show x.toInt - x.toInt / y.toInt * y.toInt = x.toInt % y.toInt by omega]
  exact Int.bmod_eq_of_le (by omega) (by omega)
theorem aRem_ok {A B : Int × Int} {x y : Int32} (h1 : aIn A x) (h2 : aIn B y) : aIn (aRem A B) (x - x / y * y) := by
  unfold aRem
  split
  next h =>
    obtain ⟨h3, h4⟩ := h1
    obtain ⟨h5, h6⟩ := h2
    have e9 := aRem_l (x := x) (y := y) (by omega) (by omega)
    have h7 : 0 ≤ x.toInt % y.toInt := Int.emod_nonneg _ (by omega)
    have h8 : x.toInt % y.toInt < y.toInt := Int.emod_lt_of_pos _ (by omega)
    have q1 : x.toInt / y.toInt * y.toInt + x.toInt % y.toInt = x.toInt := Int.ediv_mul_add_emod _ _
    have q2 : 0 ≤ x.toInt / y.toInt * y.toInt := Int.mul_nonneg (Int.ediv_nonneg (by omega) (by omega)) (by omega)
    refine ⟨by rw [e9]; exact h7, ?_⟩
    rw [e9]
    dsimp only
    split <;> omega
  next => exact aIn_32 _
theorem aB_ok (x : Int32) : aIn (-128, 127) x.toInt8.toInt32 := by
  have h := Int8.le_toInt x.toInt8
  have h2 := Int8.toInt_lt x.toInt8
  have h3 : x.toInt8.toInt32.toInt = x.toInt8.toInt := Int8.toInt_toInt32 _
  exact ⟨by rw [h3]; dsimp only; omega, by rw [h3]; dsimp only; omega⟩
theorem aC_ok (x : Int32) : aIn (0, 65535) (x.toUInt32 % 65536).toInt32 := by
  have h : (x.toUInt32 % 65536).toInt32.toBitVec.toNat = x.toUInt32.toNat % 65536 := by
    show (x.toUInt32 % 65536).toNat = _
    rw [UInt32.toNat_mod]; rfl
  have h3 := aNat' h (by omega)
  exact ⟨by rw [h3]; dsimp only; omega, by rw [h3]; dsimp only; omega⟩
end
section
/-! THE B KIT: states of the check. A value is a number into a row of (type, linear form); beside it a row of values; then fields, cells of rows, inequalities, facts. -/
abbrev aT : Type := (Int × Int) ⊕ Option ((Bool × Nat) ⊕ Nat)
abbrev aKd : Type := (FieldType × Nat × (Int × Int) × List (Nat × Nat × Int × Int × Int)) ⊕ (Nat × List aT)
abbrev aF : Type := List (Nat × Int) × Int
abbrev aE : Type := aT × Option aF
abbrev aM : Type := List (Nat × Nat × Nat) × List (Nat × aF × Nat) × List aF × List (Nat × List Nat)
abbrev aS : Type := List (Option Nat) × List Nat × List aE × aM
/-- a static thing, or one of some that stand one behind the other -/
noncomputable def aRj (j : Nat) : Nat × Nat := if j < 1000000 then (j, j) else ((j - 1000000) / 10000, (j - 1000000) % 10000)
noncomputable def aG (K : Nat → Nat) (n : Nat) (t : aT) (v : jv) : Prop := match t, v with
  | .inl q, .inl x => aIn q x
  | .inr none, .inr (.inl _) => True
  | .inr (some (.inl q)), .inr (.inr none) => q.1 = true
  | .inr (some (.inl q)), .inr (.inr (some (.inl a))) => a < n ∧ (K a = q.2 ∨ q.2 = 99999)
  | .inr (some (.inr j)), .inr (.inr (some (.inr i))) => (aRj j).1 ≤ i ∧ i ≤ (aRj j).2
  | _, _ => False
section AST
variable {K : Nat → Nat} {n : Nat}
theorem aG_int {q : Int × Int} {v : jv} (h : aG K n (.inl q) v) : ∃ x, v = .inl x ∧ aIn q x := by
  rcases v with x | x | _ | a | j
  · exact ⟨x, rfl, h⟩
  all_goals exact h.elim
theorem aG_lng {v : jv} (h : aG K n (.inr none) v) : ∃ x, v = .inr (.inl x) := by
  rcases v with x | x | _ | a | j
  · exact h.elim
  · exact ⟨x, rfl⟩
  all_goals exact h.elim
theorem aG_ref {b : Bool} {k : Nat} {v : jv} (h : aG K n (.inr (some (.inl (b, k)))) v) : (b = true ∧ v = .inr (.inr none)) ∨ ∃ a, v = .inr (.inr (some (.inl a))) ∧ a < n ∧ (K a = k ∨ k = 99999) := by
  rcases v with x | x | _ | a | j
  · exact h.elim
  · exact h.elim
  · exact Or.inl ⟨h, rfl⟩
  · exact Or.inr ⟨a, rfl, h⟩
  · exact h.elim
theorem aG_obj {k : Nat} (h9 : ¬ k = 99999) {v : jv} (h : aG K n (.inr (some (.inl (false, k)))) v) : ∃ a, v = .inr (.inr (some (.inl a))) ∧ a < n ∧ K a = k := by
  rcases aG_ref h with h | ⟨a, e, h1, h2⟩
  · cases h.1
  · exact ⟨a, e, h1, h2.resolve_right h9⟩
theorem aG_rng {j : Nat} {v : jv} (h : aG K n (.inr (some (.inr j))) v) : ∃ i, v = .inr (.inr (some (.inr i))) ∧ (aRj j).1 ≤ i ∧ i ≤ (aRj j).2 := by
  rcases v with x | x | _ | a | i
  · exact h.elim
  · exact h.elim
  · exact h.elim
  · exact h.elim
  · exact ⟨i, rfl, h⟩
theorem aG_tab {j : Nat} (hj : j < 1000000) {v : jv} (h : aG K n (.inr (some (.inr j))) v) : v = .inr (.inr (some (.inr j))) := by
  obtain ⟨i, rfl, h1, h2⟩ := aG_rng h
  unfold aRj at h1 h2
  rw [if_pos hj] at h1 h2
  dsimp only at h1 h2
  rw [show i = j by omega]
/-! linear forms -/
noncomputable def aI (v : jv) : Int := match v with
  | .inl x => x.toInt
  | .inr (.inl x) => x.toInt
  | _ => 0
noncomputable def aEv (ρ : List jv) : List (Nat × Int) → Option Int
  | [] => some 0
  | q :: r => match ρ[q.1]?, aEv ρ r with
    | some v, some z => some (q.2 * aI v + z)
    | _, _ => none
noncomputable def aHd (ρ : List jv) (f : aF) : Prop := ∃ z, aEv ρ f.1 = some z ∧ 0 ≤ z + f.2
noncomputable def aX (ρ ρ' : List jv) : Prop := ∀ (i : Nat) (v : jv), ρ[i]? = some v → ρ'[i]? = some v
theorem aEv_mo {ρ ρ' : List jv} (hx : aX ρ ρ') : ∀ {F : List (Nat × Int)} {z : Int}, aEv ρ F = some z → aEv ρ' F = some z
  | [], _, h => h
  | q :: r, z, h => by
    unfold aEv at h ⊢
    split at h
    next v y h1 h2 =>
      rw [hx _ _ h1, aEv_mo hx h2]
      exact h
    next => cases h
theorem aEv_c {ρ : List jv} {q : Nat × Int} {r : List (Nat × Int)} {z : Int} (h : aEv ρ (q :: r) = some z) : ∃ (v : jv) (y : Int), ρ[q.1]? = some v ∧ aEv ρ r = some y ∧ z = q.2 * aI v + y := by
  unfold aEv at h
  split at h
  next v y h1 h2 => cases h; exact ⟨v, y, h1, h2, rfl⟩
  next => cases h
theorem aEv_i {ρ : List jv} {q : Nat × Int} {r : List (Nat × Int)} {v : jv} {y : Int} (h1 : ρ[q.1]? = some v) (h2 : aEv ρ r = some y) : aEv ρ (q :: r) = some (q.2 * aI v + y) := by
  unfold aEv
  rw [h1, h2]
noncomputable def aFi (q : Nat × Int) : List (Nat × Int) → List (Nat × Int)
  | [] => [q]
  | p :: r => if p.1 = q.1 then (if p.2 + q.2 = 0 then r else (p.1, p.2 + q.2) :: r) else p :: aFi q r
theorem aFi_ok {ρ : List jv} {q : Nat × Int} {v : jv} (hv : ρ[q.1]? = some v) : ∀ {F : List (Nat × Int)} {z : Int}, aEv ρ F = some z → aEv ρ (aFi q F) = some (q.2 * aI v + z)
  | [], z, h => by cases h; exact aEv_i hv rfl
  | p :: r, z, h => by
    obtain ⟨w, y, h1, h2, rfl⟩ := aEv_c h
    unfold aFi
    split
    next e =>
      rw [e, hv] at h1
      cases h1
      split
      next e2 =>
        rw [h2]
        have : p.2 * aI v + q.2 * aI v = 0 := by rw [← Int.add_mul, e2, Int.zero_mul]
        congr 1
        omega
      next =>
        rw [aEv_i (q := (p.1, p.2 + q.2)) (by rw [e]; exact hv) h2]
        congr 1
        have : (p.2 + q.2) * aI v = p.2 * aI v + q.2 * aI v := Int.add_mul _ _ _
        dsimp only
        omega
    next =>
      rw [aEv_i h1 (aFi_ok hv h2)]
      congr 1
      omega
noncomputable def aFa1 : List (Nat × Int) → List (Nat × Int) → List (Nat × Int)
  | [], B => B
  | q :: r, B => aFi q (aFa1 r B)
theorem aFa1_ok {ρ : List jv} : ∀ {A B : List (Nat × Int)} {x y : Int}, aEv ρ A = some x → aEv ρ B = some y → aEv ρ (aFa1 A B) = some (x + y)
  | [], B, x, y, h1, h2 => by cases h1; unfold aFa1; rw [h2]; congr 1; omega
  | q :: r, B, x, y, h1, h2 => by
    obtain ⟨v, z, k1, k2, rfl⟩ := aEv_c h1
    unfold aFa1
    rw [aFi_ok k1 (aFa1_ok k2 h2)]
    congr 1
    omega
noncomputable def aSq (c : Int) (A : List (Nat × Int)) : List (Nat × Int) := if c = 0 then [] else A.map (fun q => (q.1, c * q.2))
theorem aSq_1 {ρ : List jv} {c : Int} : ∀ {A : List (Nat × Int)} {x : Int}, aEv ρ A = some x → aEv ρ (A.map (fun q => (q.1, c * q.2))) = some (c * x)
  | [], x, h => by cases h; show some 0 = _; rw [Int.mul_zero]
  | q :: r, x, h => by
    obtain ⟨v, z, k1, k2, rfl⟩ := aEv_c h
    rw [List.map_cons, aEv_i (q := (q.1, c * q.2)) k1 (aSq_1 k2)]
    congr 1
    rw [Int.mul_add, ← Int.mul_assoc]
theorem aSq_ok {ρ : List jv} {c : Int} {A : List (Nat × Int)} {x : Int} (h : aEv ρ A = some x) : aEv ρ (aSq c A) = some (c * x) := by
  unfold aSq
  split
  next e => rw [e, Int.zero_mul]; rfl
  next => exact aSq_1 h
noncomputable def aFp (A B : aF) : aF := (aFa1 A.1 B.1, A.2 + B.2)
noncomputable def aFm (c : Int) (A : aF) : aF := (aSq c A.1, c * A.2)
/-- a form's value -/
noncomputable def aVa (ρ : List jv) (f : aF) (x : Int) : Prop := ∃ z, aEv ρ f.1 = some z ∧ x = z + f.2
theorem aVa_p {ρ : List jv} {A B : aF} {x y : Int} (h1 : aVa ρ A x) (h2 : aVa ρ B y) : aVa ρ (aFp A B) (x + y) := by
  obtain ⟨a, a1, rfl⟩ := h1
  obtain ⟨b, b1, rfl⟩ := h2
  exact ⟨a + b, aFa1_ok a1 b1, by unfold aFp; dsimp only; omega⟩
theorem aVa_m {ρ : List jv} {A : aF} {x : Int} (c : Int) (h1 : aVa ρ A x) : aVa ρ (aFm c A) (c * x) := by
  obtain ⟨a, a1, rfl⟩ := h1
  exact ⟨c * a, aSq_ok a1, by unfold aFm; dsimp only; rw [Int.mul_add]⟩
theorem aVa_k {ρ : List jv} (c : Int) : aVa ρ ([], c) c := ⟨0, rfl, by dsimp only; omega⟩
theorem aVa_f {ρ : List jv} {A : aF} {x y : Int} (h1 : aVa ρ A x) (h2 : aVa ρ A y) : x = y := by
  obtain ⟨a, a1, rfl⟩ := h1
  obtain ⟨b, b1, rfl⟩ := h2
  rw [a1] at b1
  cases b1
  rfl
theorem aVa_mo {ρ ρ' : List jv} (hx : aX ρ ρ') {A : aF} {x : Int} (h : aVa ρ A x) : aVa ρ' A x := by
  obtain ⟨a, a1, rfl⟩ := h
  exact ⟨a, aEv_mo hx a1, rfl⟩
theorem aHd_va {ρ : List jv} {A : aF} : aHd ρ A ↔ ∃ x, aVa ρ A x ∧ 0 ≤ x :=
  ⟨fun ⟨z, h1, h2⟩ => ⟨_, ⟨z, h1, rfl⟩, h2⟩, fun ⟨x, ⟨z, h1, e⟩, h2⟩ => ⟨z, h1, by omega⟩⟩
noncomputable def aRl (ρ : List jv) (r : Option aF) (v : jv) : Prop := match r with
  | none => True
  | some f => aVa ρ f (aI v)
noncomputable def aR (K : Nat → Nat) (n : Nat) (env : List aE) (ρ : List jv) : Prop := ρ.length = env.length ∧ ∀ (i : Nat) (e : aE) (v : jv), env[i]? = some e → ρ[i]? = some v → aG K n e.1 v ∧ aRl ρ e.2 v
noncomputable def aLv (ρ : List jv) (al : List (Option Nat)) (lv : List (Option jv)) : Prop := al.length = lv.length ∧ ∀ (i k : Nat), al[i]? = some (some k) → ∃ v, ρ[k]? = some v ∧ lv[i]? = some (some v)
noncomputable def aSk (ρ : List jv) : List Nat → List jv → Prop
  | [], [] => True
  | i :: r, v :: s => ρ[i]? = some v ∧ aSk ρ r s
  | _, _ => False
/-- fields that are known -/
noncomputable def aCa (ρ : List jv) (σ : Nat → jcell) (cc : List (Nat × Nat × Nat)) : Prop := ∀ q ∈ cc, ∃ (a c : Nat) (fs : List jv) (v : jv), ρ[q.1]? = some (.inr (.inr (some (.inl a)))) ∧ σ a = .inr (c, fs) ∧ fs[q.2.1]? = some v ∧ ρ[q.2.2]? = some v
/-- cells of rows that are known, of ints or longs -/
noncomputable def aGc (ty : FieldType) (m : Nat) : ((Nat → Int32) ⊕ (Nat → Int64)) → jcell
  | .inl g => .inl (ty, m, .inl g)
  | .inr g => .inl (ty, m, .inr (.inl g))
noncomputable def aGv (i : Nat) : ((Nat → Int32) ⊕ (Nat → Int64)) → jv
  | .inl g => .inl (g i)
  | .inr g => .inr (.inl (g i))
noncomputable def aCb (ρ : List jv) (σ : Nat → jcell) (cb : List (Nat × aF × Nat)) : Prop := ∀ q ∈ cb, ∃ (a m : Nat) (ty : FieldType) (g : (Nat → Int32) ⊕ (Nat → Int64)) (i : Nat), ρ[q.1]? = some (.inr (.inr (some (.inl a)))) ∧ σ a = aGc ty m g ∧ i < m ∧ aVa ρ q.2.1 (i : Int) ∧ ρ[q.2.2]? = some (aGv i g)
noncomputable def aVs (ρ : List jv) : List Nat → Option (List jv)
  | [] => some []
  | i :: r => match ρ[i]?, aVs ρ r with
    | some v, some s => some (v :: s)
    | _, _ => none
theorem aVs_mo {ρ ρ' : List jv} (hx : aX ρ ρ') : ∀ {F : List Nat} {z : List jv}, aVs ρ F = some z → aVs ρ' F = some z
  | [], _, h => h
  | q :: r, z, h => by
    unfold aVs at h ⊢
    split at h
    next v y h1 h2 =>
      rw [hx _ _ h1, aVs_mo hx h2]
      exact h
    next => cases h
abbrev aFt (P : Type) : Type := P → Nat → List jv → (Nat → jcell) → Prop
noncomputable def aFx {P : Type} (F : aFt P) (p : P) (ρ : List jv) (σ : Nat → jcell) (fx : List (Nat × List Nat)) : Prop := ∀ q ∈ fx, ∃ vs, aVs ρ q.2 = some vs ∧ F p q.1 vs σ
noncomputable def aMm {P : Type} (F : aFt P) (p : P) (ρ : List jv) (σ : Nat → jcell) (m : aM) : Prop := aCa ρ σ m.1 ∧ aCb ρ σ m.2.1 ∧ (∀ f ∈ m.2.2.1, aHd ρ f) ∧ aFx F p ρ σ m.2.2.2
theorem aX_rf {ρ : List jv} : aX ρ ρ := fun _ _ h => h
theorem aX_app {ρ : List jv} {v : jv} : aX ρ (ρ ++ [v]) := fun i w h => by
  rw [List.getElem?_append_left (List.getElem?_eq_some_iff.mp h).1]; exact h
theorem aX.tr {ρ ρ1 ρ2 : List jv} (h : aX ρ ρ1) (h2 : aX ρ1 ρ2) : aX ρ ρ2 := fun i v q => h2 i v (h i v q)
theorem aRl.mo {ρ ρ' : List jv} (hx : aX ρ ρ') {r : Option aF} {v : jv} (h : aRl ρ r v) : aRl ρ' r v := by
  rcases r with _ | q
  · trivial
  · exact aVa_mo hx h
theorem aHd.mo {ρ ρ' : List jv} (hx : aX ρ ρ') {f : aF} (h : aHd ρ f) : aHd ρ' f := by
  obtain ⟨z, h1, h2⟩ := h
  exact ⟨z, aEv_mo hx h1, h2⟩
theorem aLv.mo {ρ ρ' : List jv} (hx : aX ρ ρ') {al : List (Option Nat)} {lv : List (Option jv)} (h : aLv ρ al lv) : aLv ρ' al lv :=
  ⟨h.1, fun i k q => by obtain ⟨v, h1, h2⟩ := h.2 i k q; exact ⟨v, hx _ _ h1, h2⟩⟩
theorem aSk.mo {ρ ρ' : List jv} (hx : aX ρ ρ') : ∀ {al : List Nat} {st : List jv}, aSk ρ al st → aSk ρ' al st
  | [], [], _ => trivial
  | _ :: _, _ :: _, h => ⟨hx _ _ h.1, aSk.mo hx h.2⟩
  | [], _ :: _, h => h.elim
  | _ :: _, [], h => h.elim
theorem aCa.mo {ρ ρ' : List jv} (hx : aX ρ ρ') {σ : Nat → jcell} {cc : List (Nat × Nat × Nat)} (h : aCa ρ σ cc) : aCa ρ' σ cc := fun q hq => by
  obtain ⟨a, c, fs, v, h1, h2, h3, h4⟩ := h q hq
  exact ⟨a, c, fs, v, hx _ _ h1, h2, h3, hx _ _ h4⟩
theorem aCb.mo {ρ ρ' : List jv} (hx : aX ρ ρ') {σ : Nat → jcell} {cc : List (Nat × aF × Nat)} (h : aCb ρ σ cc) : aCb ρ' σ cc := fun q hq => by
  obtain ⟨a, m, ty, g, i, h1, h2, h3, h4, h5⟩ := h q hq
  exact ⟨a, m, ty, g, i, hx _ _ h1, h2, h3, aVa_mo hx h4, hx _ _ h5⟩
theorem aFx.mo {P : Type} {F : aFt P} {p : P} {ρ ρ' : List jv} (hx : aX ρ ρ') {σ : Nat → jcell} {fx : List (Nat × List Nat)} (h : aFx F p ρ σ fx) : aFx F p ρ' σ fx := fun q hq => by
  obtain ⟨vs, h1, h2⟩ := h q hq
  exact ⟨vs, aVs_mo hx h1, h2⟩
theorem aMm.mo {P : Type} {F : aFt P} {p : P} {ρ ρ' : List jv} (hx : aX ρ ρ') {σ : Nat → jcell} {m : aM} (h : aMm F p ρ σ m) : aMm F p ρ' σ m := ⟨h.1.mo hx, h.2.1.mo hx, fun f hf => (h.2.2.1 f hf).mo hx, h.2.2.2.mo hx⟩
theorem aR_push {env : List aE} {ρ : List jv} (h : aR K n env ρ) {t : aT} {r : Option aF} {v : jv} (h1 : aG K n t v) (h2 : aRl ρ r v) : aR K n (env ++ [(t, r)]) (ρ ++ [v]) := by
  refine ⟨by simp [h.1], fun i e w he hw => ?_⟩
  by_cases hi : i < env.length
  · rw [List.getElem?_append_left hi] at he
    rw [List.getElem?_append_left (by rw [h.1]; exact hi)] at hw
    have h3 := h.2 i e w he hw
    exact ⟨h3.1, h3.2.mo aX_app⟩
  · have hl : i = env.length := by
      have := (List.getElem?_eq_some_iff.mp he).1
      simp at this
      omega
    subst hl
    have e1 : e = (t, r) := by simpa using he.symm
    have e2 : w = v := by
      rw [← h.1] at hw
      simpa using hw.symm
    subst e1; subst e2
    exact ⟨h1, h2.mo aX_app⟩
theorem aR_new {env : List aE} {ρ : List jv} (h : aR K n env ρ) {v : jv} : (ρ ++ [v])[env.length]? = some v := by
  rw [← h.1]; simp
noncomputable def aTy (env : List aE) (i : Nat) : Option aT := match env[i]? with
  | some e => some e.1
  | none => none
theorem aTy_ok {env : List aE} {ρ : List jv} (h : aR K n env ρ) {i : Nat} {t : aT} {v : jv} (ht : aTy env i = some t) (hv : ρ[i]? = some v) : aG K n t v := by
  unfold aTy at ht
  split at ht
  next e he => cases ht; exact (h.2 i e v he hv).1
  next => cases ht
/-- a value's form over the values that have none -/
noncomputable def aLi (env : List aE) (i : Nat) : aF := match env[i]? with
  | some (_, some r) => r
  | _ => ([(i, 1)], 0)
theorem aLi_ok {env : List aE} {ρ : List jv} (h : aR K n env ρ) {i : Nat} {v : jv} (hv : ρ[i]? = some v) : aVa ρ (aLi env i) (aI v) := by
  unfold aLi
  split
  next t r he => exact (h.2 i _ _ he hv).2
  next => exact ⟨aI v, by rw [aEv_i (q := (i, 1)) hv rfl]; congr 1; dsimp only; omega, by dsimp only; omega⟩
/-! bounds -/
noncomputable def aLo (env : List aE) (i : Nat) : Option Int := match env[i]? with
  | some (.inl A, _) => some A.1
  | _ => none
noncomputable def aHi (env : List aE) (i : Nat) : Option Int := match env[i]? with
  | some (.inl A, _) => some A.2
  | _ => none
theorem aLo_ok {env : List aE} {ρ : List jv} (h : aR K n env ρ) {i : Nat} {v : jv} (hv : ρ[i]? = some v) {z : Int} (hz : aLo env i = some z) : z ≤ aI v := by
  unfold aLo at hz
  split at hz
  next A r he =>
    cases hz
    obtain ⟨x, rfl, hx⟩ := aG_int (h.2 i _ _ he hv).1
    exact hx.1
  next => cases hz
theorem aHi_ok {env : List aE} {ρ : List jv} (h : aR K n env ρ) {i : Nat} {v : jv} (hv : ρ[i]? = some v) {z : Int} (hz : aHi env i = some z) : aI v ≤ z := by
  unfold aHi at hz
  split at hz
  next A r he =>
    cases hz
    obtain ⟨x, rfl, hx⟩ := aG_int (h.2 i _ _ he hv).1
    exact hx.2
  next => cases hz
noncomputable def aLb (env : List aE) : List (Nat × Int) → Option Int
  | [] => some 0
  | q :: r => match aLb env r with
    | some s => if 0 ≤ q.2 then (match aLo env q.1 with
        | some z => some (q.2 * z + s)
        | none => none) else (match aHi env q.1 with
        | some z => some (q.2 * z + s)
        | none => none)
    | none => none
theorem aLb_ok {env : List aE} {ρ : List jv} (h : aR K n env ρ) : ∀ {F : List (Nat × Int)} {s z : Int}, aLb env F = some s → aEv ρ F = some z → s ≤ z
  | [], s, z, h1, h2 => by cases h1; cases h2; exact Int.le_refl _
  | q :: r, s, z, h1, h2 => by
    obtain ⟨v, y, k1, k2, rfl⟩ := aEv_c h2
    unfold aLb at h1
    split at h1
    next s1 hs1 =>
      have i1 := aLb_ok h hs1 k2
      split at h1
      next hq =>
        split at h1
        next z1 hz1 =>
          cases h1
          have i2 := Int.mul_le_mul_of_nonneg_left (aLo_ok h k1 hz1) hq
          omega
        next => cases h1
      next hq =>
        split at h1
        next z1 hz1 =>
          cases h1
          have i2 := Int.mul_le_mul_of_nonpos_left (a := q.2) (by omega) (aHi_ok h k1 hz1)
          omega
        next => cases h1
    next => cases h1
/-- how often an inequality goes into a form: 0 if it does not help -/
noncomputable def aMu1 (q : Nat × Int) : List (Nat × Int) → Nat
  | [] => 0
  | p :: r => if p.1 = q.1 then (if 0 < p.2 * q.2 then (if q.2.natAbs / p.2.natAbs = 0 then 1 else q.2.natAbs / p.2.natAbs) else 0) else aMu1 q r
noncomputable def aMu (f : List (Nat × Int)) : List (Nat × Int) → Nat
  | [] => 0
  | q :: r => match aMu1 q f with
    | 0 => aMu f r
    | m => m
noncomputable def aPr (env : List aE) (cs : List aF) : Nat → aF → Bool
  | 0, f => (match aLb env f.1 with
    | some s => decide (0 ≤ s + f.2)
    | none => false)
  | d + 1, f => (match aLb env f.1 with
    | some s => decide (0 ≤ s + f.2)
    | none => false) || cs.any (fun c => match aMu c.1 f.1 with
      | 0 => false
      | m => aPr env cs d (aFp f (aFm (-(m : Int)) c)))
theorem aPr_b {env : List aE} {ρ : List jv} (h : aR K n env ρ) {f : aF} (hb : (match aLb env f.1 with
    | some s => decide (0 ≤ s + f.2)
    | none => false) = true) {x : Int} (hx : aVa ρ f x) : 0 ≤ x := by
  obtain ⟨z, z1, rfl⟩ := hx
  split at hb
  next s hs =>
    have := aLb_ok h hs z1
    have := of_decide_eq_true hb
    omega
  next => cases hb
theorem aPr_ok {env : List aE} {cs : List aF} {ρ : List jv} (h : aR K n env ρ) (hc : ∀ f ∈ cs, aHd ρ f) : ∀ {d : Nat} {f : aF}, aPr env cs d f = true → ∀ {x : Int}, aVa ρ f x → 0 ≤ x
  | 0, f, hp, x, hx => aPr_b h hp hx
  | d + 1, f, hp, x, hx => by
    unfold aPr at hp
    rw [Bool.or_eq_true] at hp
    rcases hp with hp | hp
    · exact aPr_b h hp hx
    · obtain ⟨c, c1, c2⟩ := List.any_eq_true.mp hp
      split at c2
      next => cases c2
      next m hm =>
        obtain ⟨y, y1, y2⟩ := aHd_va.mp (hc c c1)
        have h1 := aPr_ok h hc c2 (aVa_p hx (aVa_m (-((aMu c.1 f.1 : Nat) : Int)) y1))
        have h2 : 0 ≤ ((aMu c.1 f.1 : Nat) : Int) * y := Int.mul_nonneg (Int.natCast_nonneg _) y2
        rw [Int.neg_mul] at h1
        omega
/-- what a state says of locals, stack and picture -/
noncomputable def aCx {P : Type} (F : aFt P) (Hp : (Nat → jcell) → Prop) (K : Nat → Nat) (n : Nat) (S : aS) (ρ : List jv) (lv : List (Option jv)) (st : List jv) (σ : Nat → jcell) : Prop := aR K n S.2.2.1 ρ ∧ aLv ρ S.1 lv ∧ aSk ρ S.2.1 st ∧ (∃ p, aMm F p ρ σ S.2.2.2) ∧ Hp σ
/-- what is asked of the goals of a step -/
noncomputable def aNx {P : Type} (F : aFt P) (Hp : (Nat → jcell) → Prop) (K : Nat → Nat) (n : Nat) (J : jN) (ρ : List jv) (L : List (Nat × aS)) : Prop := ∀ q ∈ L, ∀ (ρ' : List jv) (lv' : List (Option jv)) (st' : List jv) (σ' : Nat → jcell), aX ρ ρ' → aCx F Hp K n q.2 ρ' lv' st' σ' → J q.1 lv' st' σ'
variable {P : Type} {F : aFt P} {Hp : (Nat → jcell) → Prop} {J : jN}
theorem aNx_in {ρ : List jv} {L : List (Nat × aS)} (h : aNx F Hp K n J ρ L) {p : Nat} {S : aS} (hm : (p, S) ∈ L) {ρ' : List jv} {lv : List (Option jv)} {st : List jv} {σ : Nat → jcell} (hx : aX ρ ρ') (hc : aCx F Hp K n S ρ' lv st σ) : J p lv st σ := h _ hm _ _ _ _ hx hc
/-- a new value on the stack, with inequalities -/
noncomputable def aPv (S : aS) (sk : List Nat) (t : aT) (r : Option aF) (cs : List aF) : aS := (S.1, S.2.2.1.length :: sk, S.2.2.1 ++ [(t, r)], (S.2.2.2.1, S.2.2.2.2.1, cs ++ S.2.2.2.2.2.1, S.2.2.2.2.2.2))
noncomputable def aPu (S : aS) (sk : List Nat) (t : aT) (r : Option aF) : aS := (S.1, S.2.2.1.length :: sk, S.2.2.1 ++ [(t, r)], S.2.2.2)
theorem aPv_ok {S : aS} {sk : List Nat} {t : aT} {r : Option aF} {cs : List aF} {ρ : List jv} {lv : List (Option jv)} {st st0 : List jv} {σ : Nat → jcell} (hc : aCx F Hp K n S ρ lv st0 σ) (hs : aSk ρ sk st) {v : jv} (h1 : aG K n t v) (h2 : aRl ρ r v) (h3 : ∀ f ∈ cs, aHd (ρ ++ [v]) f) {p : Nat} (h : aNx F Hp K n J ρ [(p, aPv S sk t r cs)]) : J p lv (v :: st) σ := by
  obtain ⟨c1, c2, c3, ⟨p, c4⟩, c5⟩ := hc
  have c6 := c4.mo (aX_app (v := v))
  exact aNx_in h List.mem_cons_self aX_app ⟨aR_push c1 h1 h2, c2.mo aX_app, ⟨aR_new c1, hs.mo aX_app⟩, ⟨p, c6.1, c6.2.1, fun f hf => (List.mem_append.mp hf).elim (h3 f) (c6.2.2.1 f), c6.2.2.2⟩, c5⟩
theorem aPu_ok {S : aS} {sk : List Nat} {t : aT} {r : Option aF} {ρ : List jv} {lv : List (Option jv)} {st st0 : List jv} {σ : Nat → jcell} (hc : aCx F Hp K n S ρ lv st0 σ) (hs : aSk ρ sk st) {v : jv} (h1 : aG K n t v) (h2 : aRl ρ r v) {p : Nat} (h : aNx F Hp K n J ρ [(p, aPu S sk t r)]) : J p lv (v :: st) σ := by
  obtain ⟨c1, c2, c3, ⟨p, c4⟩, c5⟩ := hc
  exact aNx_in h List.mem_cons_self aX_app ⟨aR_push c1 h1 h2, c2.mo aX_app, ⟨aR_new c1, hs.mo aX_app⟩, ⟨p, c4.mo aX_app⟩, c5⟩
theorem aSk_2 {ρ : List jv} {y x : Nat} {r : List Nat} {st : List jv} (h : aSk ρ (y :: x :: r) st) : ∃ (w v : jv) (s : List jv), st = w :: v :: s ∧ ρ[y]? = some w ∧ ρ[x]? = some v ∧ aSk ρ r s := by
  match st, h with
  | w :: v :: s, h => exact ⟨w, v, s, rfl, h.1, h.2.1, h.2.2⟩
theorem aSk_1 {ρ : List jv} {x : Nat} {r : List Nat} {st : List jv} (h : aSk ρ (x :: r) st) : ∃ (v : jv) (s : List jv), st = v :: s ∧ ρ[x]? = some v ∧ aSk ρ r s := by
  match st, h with
  | v :: s, h => exact ⟨v, s, rfl, h.1, h.2⟩
/-- the bounds of an int: those it was made with, and those of its form -/
noncomputable def aIv (env : List aE) (i : Nat) : Option (Int × Int) := match env[i]? with
  | some (.inl A, none) => some A
  | some (.inl A, some f) => some (match aLb env f.1 with
      | some s => max A.1 (s + f.2)
      | none => A.1, match aLb env (aSq (-1) f.1) with
      | some s => min A.2 (f.2 - s)
      | none => A.2)
  | _ => none
theorem aIv_ok {env : List aE} {ρ : List jv} (h : aR K n env ρ) {i : Nat} {A : Int × Int} (hA : aIv env i = some A) {v : jv} (hv : ρ[i]? = some v) : ∃ x, v = .inl x ∧ aIn A x := by
  unfold aIv at hA
  split at hA
  next B he => cases hA; exact aG_int (h.2 i _ _ he hv).1
  next B f he =>
    cases hA
    obtain ⟨x, rfl, hx⟩ := aG_int (h.2 i _ _ he hv).1
    obtain ⟨z, z1, z2⟩ := (h.2 i _ _ he hv).2
    replace z2 : x.toInt = z + f.2 := z2
    refine ⟨x, rfl, ?_, ?_⟩
    · dsimp only
      split
      next s hs =>
        have := aLb_ok h hs z1
        have := hx.1
        omega
      next => exact hx.1
    · dsimp only
      split
      next s hs =>
        have := aLb_ok h hs (aSq_ok (c := -1) z1)
        have := hx.2
        omega
      next => exact hx.2
  next => cases hA
/-- two ints off the stack, one on it -/
noncomputable def aFit3 (lo hi : Int) : Bool := decide (-2147483648 ≤ lo) && decide (hi ≤ 2147483647)
noncomputable def aAlg (c : Nat) (f : aF) : Bool := f.1.all (fun q => decide (q.2 % (c : Int) = 0)) && decide (f.2 % (c : Int) = 0)
theorem aAlg_ev {c : Nat} {ρ : List jv} : ∀ {f : List (Nat × Int)} {z : Int}, f.all (fun q => decide (q.2 % (c : Int) = 0)) = true → aEv ρ f = some z → z % (c : Int) = 0
  | [], z, _, h => by cases h; exact Int.zero_emod _
  | q :: r, z, ha, h => by
    rw [List.all_cons, Bool.and_eq_true] at ha
    unfold aEv at h
    split at h
    next v y h1 h2 =>
      cases h
      have i1 := aAlg_ev ha.2 h2
      have i2 : q.2 % (c : Int) = 0 := of_decide_eq_true ha.1
      rw [Int.add_emod, Int.mul_emod, i2, i1]
      simp
    next => cases h
theorem aAlg_ok {c : Nat} {ρ : List jv} {f : aF} {x : Int} (h : aAlg c f = true) (hv : aVa ρ f x) : x % (c : Int) = 0 := by
  obtain ⟨z, h1, rfl⟩ := hv
  unfold aAlg at h
  rw [Bool.and_eq_true] at h
  have i1 := aAlg_ev h.1 h1
  have i2 : f.2 % (c : Int) = 0 := of_decide_eq_true h.2
  rw [Int.add_emod, i1, i2]
  simp
noncomputable def aRel (k : Nat) (env : List aE) (x y : Nat) (A B : Int × Int) : Option aF := match k with
  | 1 => if aFit3 (A.1 + B.1) (A.2 + B.2) = true then some (aFp (aLi env x) (aLi env y)) else none
  | 2 => if aFit3 (A.1 - B.2) (A.2 - B.1) = true then some (aFp (aLi env x) (aFm (-1) (aLi env y))) else none
  | 3 => if B.1 = B.2 ∧ aFit3 (min (A.1 * B.1) (A.2 * B.1)) (max (A.1 * B.1) (A.2 * B.1)) = true then some (aFm B.1 (aLi env x)) else if A.1 = A.2 ∧ aFit3 (min (B.1 * A.1) (B.2 * A.1)) (max (B.1 * A.1) (B.2 * A.1)) = true then some (aFm A.1 (aLi env y)) else none
  | 4 => if aK1 B = true ∧ 0 ≤ A.1 ∧ A.2 * 2 ^ B.1.toNat ≤ 2147483647 then some (aFm (2 ^ B.1.toNat) (aLi env x)) else none
  | 5 => if 0 ≤ A.1 ∧ 0 ≤ B.1 ∧ aAlg (2 ^ (Nat.log2 B.2.toNat + 1)) (aLi env x) = true then some (aFp (aLi env x) (aLi env y)) else none
  | 6 => if B.1 = B.2 ∧ 0 ≤ A.1 ∧ A.2 ≤ B.1 ∧ ([1, 3, 7, 15, 31, 63] : List Int).any (fun c => decide (c = B.1)) = true then some (aFp ([], B.1) (aFm (-1) (aLi env x))) else none
  | _ => none
theorem aXor_i {x y : Int32} {A B : Int × Int} (hA : aIn A x) (hB : aIn B y) (h : B.1 = B.2 ∧ 0 ≤ A.1 ∧ A.2 ≤ B.1 ∧ ([1, 3, 7, 15, 31, 63] : List Int).any (fun c => decide (c = B.1)) = true) : (x ^^^ y).toInt = B.1 + -1 * x.toInt := by
  obtain ⟨h1, h2, h3, h4⟩ := h
  obtain ⟨a1, a2⟩ := hA
  obtain ⟨b1, b2⟩ := hB
  obtain ⟨c, c1, c2⟩ := List.any_eq_true.mp h4
  have c2 : c = B.1 := of_decide_eq_true c2
  have hc : 1 ≤ c ∧ c ≤ 63 := by
    simp only [List.mem_cons, List.not_mem_nil, or_false] at c1
    omega
  obtain ⟨e1, e2⟩ := aNat (x := x) (by omega)
  obtain ⟨e3, e4⟩ := aNat (x := y) (by omega)
  have key : ∀ (u : Fin 64) (v : Fin 64), (v.val = 1 ∨ v.val = 3 ∨ v.val = 7 ∨ v.val = 15 ∨ v.val = 31 ∨ v.val = 63) → u.val ≤ v.val → u.val ^^^ v.val = v.val - u.val := by decide +kernel
  have k1 := key ⟨x.toBitVec.toNat, by omega⟩ ⟨y.toBitVec.toNat, by omega⟩ (by
    simp only [List.mem_cons, List.not_mem_nil, or_false] at c1
    dsimp only
    omega) (by dsimp only; omega)
  dsimp only at k1
  have k2 : (x ^^^ y).toBitVec.toNat = y.toBitVec.toNat - x.toBitVec.toNat := by rw [Int32.toBitVec_xor, BitVec.toNat_xor]; exact k1
  have k3 := aNat' k2 (by omega)
  omega
theorem aOr_i {x y : Int32} {A B : Int × Int} (hA : aIn A x) (hB : aIn B y) {e : Nat} (he : e = Nat.log2 B.2.toNat + 1) (h1 : 0 ≤ A.1) (h2 : 0 ≤ B.1) (h3 : x.toInt % (2 ^ e : Nat) = 0) : (x ||| y).toInt = x.toInt + y.toInt := by
  obtain ⟨a1, a2⟩ := hA
  obtain ⟨b1, b2⟩ := hB
  obtain ⟨e1, e2⟩ := aNat (x := x) (by omega)
  obtain ⟨e3, e4⟩ := aNat (x := y) (by omega)
  have l1 : B.2.toNat < 2 ^ e := by rw [he]; exact Nat.lt_log2_self
  have l2 : y.toBitVec.toNat < 2 ^ e := by omega
  have l3 : x.toBitVec.toNat % 2 ^ e = 0 := by
    rw [e1] at h3
    exact_mod_cast h3
  have l4 : 2 ^ e * (x.toBitVec.toNat / 2 ^ e) = x.toBitVec.toNat := by
    have := Nat.div_add_mod x.toBitVec.toNat (2 ^ e)
    omega
  have l5 := Nat.two_pow_add_eq_or_of_lt l2 (x.toBitVec.toNat / 2 ^ e)
  rw [l4] at l5
  have l6 : (x ||| y).toBitVec.toNat = x.toBitVec.toNat + y.toBitVec.toNat := by rw [Int32.toBitVec_or, BitVec.toNat_or, ← l5]
  have l7 : x.toBitVec.toNat + y.toBitVec.toNat < 2147483648 := by
    rw [← l6, Int32.toBitVec_or, BitVec.toNat_or]
    exact Nat.or_lt_two_pow (n := 31) (by omega) (by omega)
  have l8 := aNat' l6 l7
  omega
noncomputable def aCop (k : Nat) (f : Int32 → Int32 → Int32) : Prop := (k = 5 → ∀ x y, f x y = x ||| y) ∧ (k = 6 → ∀ x y, f x y = x ^^^ y) ∧ (k = 1 → ∀ x y, f x y = x + y) ∧ (k = 2 → ∀ x y, f x y = x - y) ∧ (k = 3 → ∀ x y, f x y = x * y) ∧ (k = 4 → ∀ x y, f x y = x <<< (y &&& 31))
theorem aShl_i {x y : Int32} {A B : Int × Int} (hA : aIn A x) (hB : aIn B y) (h : aK1 B = true ∧ 0 ≤ A.1 ∧ A.2 * 2 ^ B.1.toNat ≤ 2147483647) : (x <<< (y &&& 31)).toInt = 2 ^ B.1.toNat * x.toInt := by
  obtain ⟨k1, k2⟩ := aK1_ok h.1 hB
  obtain ⟨h3, h4⟩ := hA
  obtain ⟨e1, e2⟩ := aNat (x := x) (by omega)
  have h5 := aShl_l (x := x) k1 k2
  have hp : (0 : Int) ≤ 2 ^ B.1.toNat := Int.pow_nonneg (by decide)
  have m2 := Int.mul_le_mul_of_nonneg_right h4 hp
  have c1 : ((x.toBitVec.toNat * 2 ^ B.1.toNat : Nat) : Int) = x.toInt * 2 ^ B.1.toNat := by rw [e1]; push_cast; rfl
  have h6 : x.toBitVec.toNat * 2 ^ B.1.toNat < 2147483648 := by omega
  rw [Nat.mod_eq_of_lt (by omega)] at h5
  rw [aNat' h5 h6, c1, Int.mul_comm]
theorem aRel_ok {env : List aE} {ρ : List jv} (h : aR K n env ρ) {k : Nat} {f : Int32 → Int32 → Int32} (hk : aCop k f) {i j : Nat} {x y : Int32} (hx : ρ[i]? = some (.inl x)) (hy : ρ[j]? = some (.inl y)) {A B : Int × Int} (hA : aIn A x) (hB : aIn B y) : aRl ρ (aRel k env i j A B) (.inl (f x y)) := by
  have rx := aLi_ok h hx
  have ry := aLi_ok h hy
  have a1 := hA.1
  have a2 := hA.2
  have b1 := hB.1
  have b2 := hB.2
  unfold aRel
  split
  · split
    next hf =>
      simp only [aFit3, Bool.and_eq_true, decide_eq_true_eq] at hf
      have e1 : (f x y).toInt = x.toInt + y.toInt := by
        rw [hk.2.2.1 rfl, Int32.toInt_add]
        exact Int.bmod_eq_of_le (by omega) (by omega)
      show aVa ρ _ (f x y).toInt
      rw [e1]
      exact aVa_p rx ry
    next => trivial
  · split
    next hf =>
      simp only [aFit3, Bool.and_eq_true, decide_eq_true_eq] at hf
      have e1 : (f x y).toInt = x.toInt + -1 * y.toInt := by
        rw [hk.2.2.2.1 rfl, Int32.toInt_sub, show x.toInt + -1 * y.toInt = x.toInt - y.toInt by omega]
        exact Int.bmod_eq_of_le (by omega) (by omega)
      show aVa ρ _ (f x y).toInt
      rw [e1]
      exact aVa_p rx (aVa_m (-1) ry)
    next => trivial
  · split
    next hf =>
      obtain ⟨hb, hf⟩ := hf
      simp only [aFit3, Bool.and_eq_true, decide_eq_true_eq] at hf
      have ey : y.toInt = B.1 := by omega
      have m1 := aMul_l (y := B.1) a1 a2
      have e1 : (f x y).toInt = B.1 * x.toInt := by
        rw [hk.2.2.2.2.1 rfl, Int32.toInt_mul, ey, Int.mul_comm B.1]
        exact Int.bmod_eq_of_le (by omega) (by omega)
      show aVa ρ _ (f x y).toInt
      rw [e1]
      exact aVa_m _ rx
    next =>
      split
      next hf =>
        obtain ⟨hb, hf⟩ := hf
        simp only [aFit3, Bool.and_eq_true, decide_eq_true_eq] at hf
        have ey : x.toInt = A.1 := by omega
        have m1 := aMul_l (y := A.1) b1 b2
        have e1 : (f x y).toInt = A.1 * y.toInt := by
          rw [hk.2.2.2.2.1 rfl, Int32.toInt_mul, ey, Int.mul_comm A.1]
          exact Int.bmod_eq_of_le (by omega) (by omega)
        show aVa ρ _ (f x y).toInt
        rw [e1]
        exact aVa_m _ ry
      next => trivial
  · split
    next hf =>
      show aVa ρ _ (f x y).toInt
      rw [hk.2.2.2.2.2 rfl, aShl_i hA hB hf]
      exact aVa_m _ rx
    next => trivial
  · split
    next hf =>
      show aVa ρ _ (f x y).toInt
      have h9 := aAlg_ok hf.2.2 rx
      replace h9 : x.toInt % ((2 ^ (Nat.log2 B.2.toNat + 1) : Nat) : Int) = 0 := h9
      rw [hk.1 rfl, aOr_i hA hB rfl hf.1 hf.2.1 h9]
      exact aVa_p rx ry
    next => trivial
  · split
    next hf =>
      show aVa ρ _ (f x y).toInt
      rw [hk.2.1 rfl, aXor_i hA hB hf]
      exact aVa_p (aVa_k _) (aVa_m (-1) rx)
    next => trivial
  · trivial
noncomputable def aBin (op : Int × Int → Int × Int → Int × Int) (k : Nat) (S : aS) (p : Nat) : Option (List (Nat × aS)) := match S.2.1 with
  | y :: x :: r => match aIv S.2.2.1 x, aIv S.2.2.1 y with
    | some A, some B => some [(p, aPu S r (.inl (op A B)) (aRel k S.2.2.1 x y A B))]
    | _, _ => none
  | _ => none
theorem aBin_ok {op : Int × Int → Int × Int → Int × Int} {k : Nat} {f : Int32 → Int32 → Int32} (hk : aCop k f) (hop : ∀ {A B : Int × Int} {x y : Int32}, aIn A x → aIn B y → aIn (op A B) (f x y)) {S : aS} {p : Nat} {L : List (Nat × aS)} (hb : aBin op k S p = some L) {ρ : List jv} {lv : List (Option jv)} {st : List jv} {σ : Nat → jcell} (hc : aCx F Hp K n S ρ lv st σ) (h : aNx F Hp K n J ρ L) : j2 st fun x y r => J p lv (.inl (f x y) :: r) σ := by
  unfold aBin at hb
  split at hb
  next y x r hs =>
    split at hb
    next A B hA hB =>
      cases hb
      obtain ⟨w, v, s, rfl, h1, h2, h3⟩ := aSk_2 (hs ▸ hc.2.2.1)
      obtain ⟨x0, rfl, hx⟩ := aIv_ok hc.1 hA h2
      obtain ⟨y0, rfl, hy⟩ := aIv_ok hc.1 hB h1
      exact aPu_ok (t := .inl (op A B)) (v := .inl (f x0 y0)) hc h3 (hop hx hy) (aRel_ok hc.1 hk h2 h1 hx hy) h
    next => cases hb
  next => cases hb
/-- a quotient or a shift to the right: two inequalities beside the bounds -/
noncomputable def aQcs (env : List aE) (x : Nat) (c : Int) : List aF := [aFp (aLi env x) ([(env.length, -c)], 0), aFp ([(env.length, c)], c - 1) (aFm (-1) (aLi env x))]
theorem aQcs_ok {env : List aE} {ρ : List jv} (h : aR K n env ρ) {i : Nat} {x z : Int32} (hx : ρ[i]? = some (.inl x)) {c : Int} (hc : 0 < c) (hz : z.toInt = x.toInt / c) : ∀ f ∈ aQcs env i c, aHd (ρ ++ [.inl z]) f := by
  have rx := aVa_mo (aX_app (v := (.inl z : jv))) (aLi_ok h hx)
  replace rx : aVa (ρ ++ [.inl z]) (aLi env i) x.toInt := rx
  have rz : ∀ k : Int, aVa (ρ ++ [.inl z]) ([(env.length, k)], 0) (k * z.toInt) := fun k => ⟨k * z.toInt, by rw [aEv_i (q := (env.length, k)) (aR_new h) rfl]; congr 1; exact Int.add_zero _, by dsimp only; omega⟩
  have d1 := Int.ediv_mul_add_emod x.toInt c
  have d2 := Int.emod_nonneg x.toInt (show c ≠ 0 by omega)
  have d3 := Int.emod_lt_of_pos x.toInt hc
  rw [← hz, Int.mul_comm] at d1
  intro f hf
  rcases List.mem_cons.mp hf with rfl | hf
  · refine aHd_va.mpr ⟨_, aVa_p rx (rz (-c)), ?_⟩
    rw [Int.neg_mul]
    omega
  · rcases List.mem_cons.mp hf with rfl | hf
    · have h9 : aVa (ρ ++ [.inl z]) ([(env.length, c)], c - 1) (c * z.toInt + (c - 1)) := ⟨c * z.toInt, by rw [aEv_i (q := (env.length, c)) (aR_new h) rfl]; congr 1; exact Int.add_zero _, rfl⟩
      refine aHd_va.mpr ⟨_, aVa_p h9 (aVa_m (-1) rx), by omega⟩
    · cases hf
/-- a quotient that is known already -/
noncomputable def aQj (env : List aE) (x j : Nat) (c : Int) : List aF := [aFp (aLi env x) ([(j, -c)], 0), aFp ([(j, c)], c - 1) (aFm (-1) (aLi env x))]
noncomputable def aQf (S : aS) (x : Nat) (A : Int × Int) (c : Int) : Option Nat := (List.range S.2.2.1.length).find? (fun j => match S.2.2.1[j]? with
  | some (.inl T, none) => decide (T.1 = A.1 / c) && (decide (T.2 = A.2 / c) && (aQj S.2.2.1 x j c).all (fun f => decide (f ∈ S.2.2.2.2.2.1)))
  | _ => false)
theorem aQf_ok {S : aS} {x j : Nat} {A : Int × Int} {c : Int} (h : aQf S x A c = some j) (hp : 0 < c) {ρ : List jv} {lv : List (Option jv)} {st : List jv} {σ : Nat → jcell} (hc : aCx F Hp K n S ρ lv st σ) {x0 : Int32} (hx : ρ[x]? = some (.inl x0)) : ∃ z : Int32, ρ[j]? = some (.inl z) ∧ z.toInt = x0.toInt / c := by
  have h1 := List.find?_some h
  split at h1
  next T he =>
    rw [Bool.and_eq_true, Bool.and_eq_true] at h1
    have h2 : ∀ f ∈ aQj S.2.2.1 x j c, f ∈ S.2.2.2.2.2.1 := fun f hf => of_decide_eq_true (List.all_eq_true.mp h1.2.2 f hf)
    obtain ⟨c1, c2, c3, ⟨p, m1, m2, m3, m4⟩, c5⟩ := hc
    have hj : j < ρ.length := by rw [c1.1]; exact (List.getElem?_eq_some_iff.mp he).1
    have hv : ρ[j]? = some (ρ[j]'hj) := List.getElem?_eq_getElem hj
    obtain ⟨z, hz, -⟩ := aG_int ((c1.2 j _ _ he hv).1)
    rw [hz] at hv
    refine ⟨z, hv, ?_⟩
    have rx := aLi_ok c1 hx
    replace rx : aVa ρ (aLi S.2.2.1 x) x0.toInt := rx
    have rz : aVa ρ ([(j, -c)], 0) (-c * z.toInt) := ⟨-c * z.toInt, by rw [aEv_i (q := (j, -c)) hv rfl]; congr 1; exact Int.add_zero _, by dsimp only; omega⟩
    have h9 : aVa ρ ([(j, c)], c - 1) (c * z.toInt + (c - 1)) := ⟨c * z.toInt, by rw [aEv_i (q := (j, c)) hv rfl]; congr 1; exact Int.add_zero _, rfl⟩
    obtain ⟨y1, y2, y3⟩ := aHd_va.mp (m3 _ (h2 _ List.mem_cons_self))
    have e1 := aVa_f y2 (aVa_p rx rz)
    obtain ⟨w1, w2, w3⟩ := aHd_va.mp (m3 _ (h2 _ (List.mem_cons_of_mem _ List.mem_cons_self)))
    have e2 := aVa_f w2 (aVa_p h9 (aVa_m (-1) rx))
    rw [Int.neg_mul] at e1
    have e3 : z.toInt ≤ x0.toInt / c := (Int.le_ediv_iff_mul_le hp).mpr (by rw [Int.mul_comm]; omega)
    have e4 : x0.toInt / c < z.toInt + 1 := (Int.ediv_lt_iff_lt_mul hp).mpr (by rw [Int.add_mul, Int.mul_comm z.toInt c]; omega)
    omega
  next => cases h1
/-- a remainder: its quotient first -/
noncomputable def aRmd (S : aS) (x : Nat) (r : List Nat) (A : Int × Int) (c : Int) (p : Nat) : List (Nat × aS) := match aQf S x A c with
  | some j => [(p, aPu S r (.inl (0, c - 1)) (some (aFp (aLi S.2.2.1 x) ([(j, -c)], 0))))]
  | none => [(p, aPu (S.1, S.2.1, S.2.2.1 ++ [(.inl (A.1 / c, A.2 / c), none)], (S.2.2.2.1, S.2.2.2.2.1, aQcs S.2.2.1 x c ++ S.2.2.2.2.2.1, S.2.2.2.2.2.2)) r (.inl (0, c - 1)) (some (aFp (aLi S.2.2.1 x) ([(S.2.2.1.length, -c)], 0))))]
theorem aRmd_ok {S : aS} {x : Nat} {r : List Nat} {A : Int × Int} {c : Int} {p : Nat} {ρ : List jv} {lv : List (Option jv)} {st st0 : List jv} {σ : Nat → jcell} (hc : aCx F Hp K n S ρ lv st0 σ) (hs : aSk ρ r st) {x0 : Int32} (hx : ρ[x]? = some (.inl x0)) (hA : aIn A x0) (hp : 0 < c) {q z : Int32} (hq : q.toInt = x0.toInt / c) (hz : z.toInt = x0.toInt % c) (h : aNx F Hp K n J ρ (aRmd S x r A c p)) : J p lv (.inl z :: st) σ := by
  have d2 := Int.emod_nonneg x0.toInt (show c ≠ 0 by omega)
  have d3 := Int.emod_lt_of_pos x0.toInt hp
  have hin : aIn (0, c - 1) z := ⟨by rw [hz]; exact d2, by rw [hz]; dsimp only; omega⟩
  have d4 : z.toInt = x0.toInt + -c * (x0.toInt / c) := by rw [hz, Int.emod_def, Int.neg_mul]; omega
  unfold aRmd at h
  split at h
  next j hj =>
    obtain ⟨z1, k1, k2⟩ := aQf_ok hj hp hc hx
    have rx := aLi_ok hc.1 hx
    replace rx : aVa ρ (aLi S.2.2.1 x) x0.toInt := rx
    have rz : aVa ρ ([(j, -c)], 0) (-c * z1.toInt) := ⟨-c * z1.toInt, by rw [aEv_i (q := (j, -c)) k1 rfl]; congr 1; exact Int.add_zero _, by dsimp only; omega⟩
    refine aPu_ok (t := .inl (0, c - 1)) (v := .inl z) hc hs hin ?_ h
    show aVa ρ _ z.toInt
    rw [d4, ← k2]
    exact aVa_p rx rz
  next =>
    have hq2 : aIn (A.1 / c, A.2 / c) q := ⟨by rw [hq]; exact Int.ediv_le_ediv hp hA.1, by rw [hq]; exact Int.ediv_le_ediv hp hA.2⟩
    have hcs := aQcs_ok hc.1 hx hp hq
    obtain ⟨c1, c2, c3, ⟨p9, c4⟩, c5⟩ := hc
    have c6 := c4.mo (aX_app (v := (.inl q : jv)))
    have hc1 : aCx F Hp K n (S.1, S.2.1, S.2.2.1 ++ [(.inl (A.1 / c, A.2 / c), none)], (S.2.2.2.1, S.2.2.2.2.1, aQcs S.2.2.1 x c ++ S.2.2.2.2.2.1, S.2.2.2.2.2.2)) (ρ ++ [.inl q]) lv st0 σ := ⟨aR_push (r := none) c1 hq2 trivial, c2.mo aX_app, c3.mo aX_app, ⟨p9, c6.1, c6.2.1, fun f hf => (List.mem_append.mp hf).elim (hcs f) (c6.2.2.1 f), c6.2.2.2⟩, c5⟩
    have rx := aVa_mo (aX_app (v := (.inl q : jv))) (aLi_ok c1 hx)
    replace rx : aVa (ρ ++ [.inl q]) (aLi S.2.2.1 x) x0.toInt := rx
    have rz : aVa (ρ ++ [.inl q]) ([(S.2.2.1.length, -c)], 0) (-c * q.toInt) := ⟨-c * q.toInt, by rw [aEv_i (q := (S.2.2.1.length, -c)) (aR_new c1) rfl]; congr 1; exact Int.add_zero _, by dsimp only; omega⟩
    refine aPu_ok (t := .inl (0, c - 1)) (v := .inl z) hc1 (hs.mo aX_app) hin ?_ (fun q9 hq9 ρ' lv' st' σ' hx9 hc9 => h q9 hq9 ρ' lv' st' σ' (aX_app.tr hx9) hc9)
    show aVa (ρ ++ [.inl q]) _ z.toInt
    rw [d4, ← hq]
    exact aVa_p rx rz
noncomputable def aDv (S : aS) (p : Nat) : Option (List (Nat × aS)) := match S.2.1 with
  | y :: x :: r => match aIv S.2.2.1 x, aIv S.2.2.1 y with
    | some A, some B => if B.1 = B.2 ∧ 1 ≤ B.1 ∧ 0 ≤ A.1 then (match aQf S x A B.1 with
      | some j => some [(p, (S.1, j :: r, S.2.2.1, S.2.2.2))]
      | none => some [(p, aPv S r (.inl (A.1 / B.1, A.2 / B.1)) none (aQcs S.2.2.1 x B.1))]) else none
    | _, _ => none
  | _ => none
theorem aDv_ok {S : aS} {p : Nat} {L : List (Nat × aS)} (hb : aDv S p = some L) {ρ : List jv} {lv : List (Option jv)} {st : List jv} {σ : Nat → jcell} (hc : aCx F Hp K n S ρ lv st σ) (h : aNx F Hp K n J ρ L) : j2 st fun x y r => ¬ y = 0 ∧ J p lv (.inl (x / y) :: r) σ := by
  unfold aDv at hb
  split at hb
  next y x r hs =>
    split at hb
    next A B hA hB =>
      split at hb
      next hz =>
        obtain ⟨w, v, s, rfl, h1, h2, h3⟩ := aSk_2 (hs ▸ hc.2.2.1)
        obtain ⟨x0, rfl, hx⟩ := aIv_ok hc.1 hA h2
        obtain ⟨y0, rfl, hy⟩ := aIv_ok hc.1 hB h1
        obtain ⟨z1, z2, z3⟩ := hz
        have a1 := hx.1
        have a2 := hx.2
        have ey : y0.toInt = B.1 := by have := hy.1; have := hy.2; omega
        have e1 : (x0 / y0).toInt = x0.toInt / B.1 := by rw [← ey]; exact aDiv_l (by omega) (by omega)
        have hne : ¬ y0 = 0 := fun q => by
          subst q
          have : (0 : Int32).toInt = 0 := by decide
          omega
        split at hb
        next j hj =>
          cases hb
          obtain ⟨z, k1, k2⟩ := aQf_ok hj (by omega) hc h2
          have e3 : x0 / y0 = z := Int32.toInt_inj.mp (e1.trans k2.symm)
          refine ⟨hne, ?_⟩
          rw [e3]
          exact aNx_in h List.mem_cons_self aX_rf ⟨hc.1, hc.2.1, ⟨k1, h3⟩, hc.2.2.2⟩
        next =>
          cases hb
          exact ⟨hne, aPv_ok (t := .inl (A.1 / B.1, A.2 / B.1)) (v := .inl (x0 / y0)) (r := none) hc h3 ⟨by rw [e1]; exact Int.ediv_le_ediv (by omega) a1, by rw [e1]; exact Int.ediv_le_ediv (by omega) a2⟩ trivial (aQcs_ok hc.1 h2 (by omega) e1) h⟩
      next => cases hb
    next => cases hb
  next => cases hb
noncomputable def aRm (S : aS) (p : Nat) : Option (List (Nat × aS)) := match S.2.1 with
  | y :: x :: r => match aIv S.2.2.1 x, aIv S.2.2.1 y with
    | some A, some B => if B.1 = B.2 ∧ 1 ≤ B.1 ∧ 0 ≤ A.1 then some (aRmd S x r A B.1 p) else none
    | _, _ => none
  | _ => none
theorem aRm_ok {S : aS} {p : Nat} {L : List (Nat × aS)} (hb : aRm S p = some L) {ρ : List jv} {lv : List (Option jv)} {st : List jv} {σ : Nat → jcell} (hc : aCx F Hp K n S ρ lv st σ) (h : aNx F Hp K n J ρ L) : j2 st fun x y r => ¬ y = 0 ∧ J p lv (.inl (x - x / y * y) :: r) σ := by
  unfold aRm at hb
  split at hb
  next y x r hs =>
    split at hb
    next A B hA hB =>
      split at hb
      next hz =>
        cases hb
        obtain ⟨w, v, s, rfl, h1, h2, h3⟩ := aSk_2 (hs ▸ hc.2.2.1)
        obtain ⟨x0, rfl, hx⟩ := aIv_ok hc.1 hA h2
        obtain ⟨y0, rfl, hy⟩ := aIv_ok hc.1 hB h1
        obtain ⟨z1, z2, z3⟩ := hz
        have a1 := hx.1
        have ey : y0.toInt = B.1 := by have := hy.1; have := hy.2; omega
        have e1 : (x0 / y0).toInt = x0.toInt / B.1 := by rw [← ey]; exact aDiv_l (by omega) (by omega)
        have e2 : (x0 - x0 / y0 * y0).toInt = x0.toInt % B.1 := by rw [← ey]; exact aRem_l (by omega) (by omega)
        refine ⟨fun q => ?_, aRmd_ok hc h3 h2 hx (by omega) e1 e2 h⟩
        subst q
        have : (0 : Int32).toInt = 0 := by decide
        omega
      next => cases hb
    next => cases hb
  next => cases hb
noncomputable def aSr (S : aS) (p : Nat) : Option (List (Nat × aS)) := match S.2.1 with
  | y :: x :: r => match aIv S.2.2.1 x, aIv S.2.2.1 y with
    | some A, some B => if aK1 B = true then (match aQf S x A (2 ^ B.1.toNat) with
      | some j => some [(p, (S.1, j :: r, S.2.2.1, S.2.2.2))]
      | none => some [(p, aPv S r (.inl (aShr A B)) none (aQcs S.2.2.1 x (2 ^ B.1.toNat)))]) else some [(p, aPu S r (.inl (aShr A B)) none)]
    | _, _ => none
  | _ => none
theorem aSr_ok {S : aS} {p : Nat} {L : List (Nat × aS)} (hb : aSr S p = some L) {ρ : List jv} {lv : List (Option jv)} {st : List jv} {σ : Nat → jcell} (hc : aCx F Hp K n S ρ lv st σ) (h : aNx F Hp K n J ρ L) : j2 st fun x y r => J p lv (.inl (x >>> (y &&& 31)) :: r) σ := by
  unfold aSr at hb
  split at hb
  next y x r hs =>
    split at hb
    next A B hA hB =>
      obtain ⟨w, v, s, rfl, h1, h2, h3⟩ := aSk_2 (hs ▸ hc.2.2.1)
      obtain ⟨x0, rfl, hx⟩ := aIv_ok hc.1 hA h2
      obtain ⟨y0, rfl, hy⟩ := aIv_ok hc.1 hB h1
      split at hb
      next hz =>
        obtain ⟨k1, k2⟩ := aK1_ok hz hy
        obtain ⟨c, e1, e2⟩ := aShr_l x0 y0
        obtain rfl := e2 _ k2 k1
        split at hb
        next j hj =>
          cases hb
          obtain ⟨z, q1, q2⟩ := aQf_ok hj (Int.pow_pos (by decide)) hc h2
          have e3 : x0 >>> (y0 &&& 31) = z := Int32.toInt_inj.mp (e1.trans q2.symm)
          show J p lv (.inl (x0 >>> (y0 &&& 31)) :: s) σ
          rw [e3]
          exact aNx_in h List.mem_cons_self aX_rf ⟨hc.1, hc.2.1, ⟨q1, h3⟩, hc.2.2.2⟩
        next =>
        cases hb
        exact aPv_ok (t := .inl (aShr A B)) (v := .inl (x0 >>> (y0 &&& 31))) (r := none) hc h3 (aShr_ok hx hy) trivial (aQcs_ok hc.1 h2 (Int.pow_pos (by decide)) e1) h
      next =>
        cases hb
        exact aPu_ok (t := .inl (aShr A B)) (v := .inl (x0 >>> (y0 &&& 31))) (r := none) hc h3 (aShr_ok hx hy) trivial h
    next => cases hb
  next => cases hb
noncomputable def aPw (c : Int) : Bool := (List.range 31).any (fun k => decide ((2 : Int) ^ k = c))
theorem aAnd_m {x y : Int32} (hx : 0 ≤ x.toInt) (hy : 0 ≤ y.toInt) (h : aPw (y.toInt + 1) = true) : (x &&& y).toInt = x.toInt % (y.toInt + 1) := by
  obtain ⟨k, k1, k2⟩ := List.any_eq_true.mp h
  rw [decide_eq_true_eq] at k2
  obtain ⟨e1, e2⟩ := aNat (x := x) hx
  obtain ⟨e3, e4⟩ := aNat (x := y) hy
  have h9 : ((2 ^ k : Nat) : Int) = y.toInt + 1 := by rw [← k2]; exact Int.natCast_pow 2 k
  have h2 : y.toBitVec.toNat = 2 ^ k - 1 := by omega
  have h1 : (x &&& y).toBitVec.toNat = x.toBitVec.toNat % 2 ^ k := by rw [Int32.toBitVec_and, BitVec.toNat_and, h2, Nat.and_two_pow_sub_one_eq_mod]
  have h4 : x.toBitVec.toNat % 2 ^ k ≤ x.toBitVec.toNat := Nat.mod_le _ _
  rw [aNat' h1 (by omega), Int.natCast_emod, h9, e1]
noncomputable def aAd (S : aS) (p : Nat) : Option (List (Nat × aS)) := match S.2.1 with
  | y :: x :: r => match aIv S.2.2.1 x, aIv S.2.2.1 y with
    | some A, some B => if B.1 = B.2 ∧ 0 ≤ B.1 ∧ 0 ≤ A.1 ∧ B.1 < A.2 ∧ aPw (B.1 + 1) = true then some (aRmd S x r A (B.1 + 1) p) else none
    | _, _ => none
  | _ => none
theorem aAd_ok {S : aS} {p : Nat} {L : List (Nat × aS)} (hb : aAd S p = some L) {ρ : List jv} {lv : List (Option jv)} {st : List jv} {σ : Nat → jcell} (hc : aCx F Hp K n S ρ lv st σ) (h : aNx F Hp K n J ρ L) : j2 st fun x y r => J p lv (.inl (x &&& y) :: r) σ := by
  unfold aAd at hb
  split at hb
  next y x r hs =>
    split at hb
    next A B hA hB =>
      split at hb
      next hz =>
        cases hb
        obtain ⟨w, v, s, rfl, h1, h2, h3⟩ := aSk_2 (hs ▸ hc.2.2.1)
        obtain ⟨x0, rfl, hx⟩ := aIv_ok hc.1 hA h2
        obtain ⟨y0, rfl, hy⟩ := aIv_ok hc.1 hB h1
        obtain ⟨z1, z2, z3, z4, z5⟩ := hz
        have a1 := hx.1
        have ey : y0.toInt = B.1 := by have := hy.1; have := hy.2; omega
        have e2 : (x0 &&& y0).toInt = x0.toInt % (B.1 + 1) := by rw [← ey]; exact aAnd_m (by omega) (by omega) (by rw [ey]; exact z5)
        have b1 : 0 ≤ x0.toInt / (B.1 + 1) := Int.ediv_nonneg (by omega) (by omega)
        have b2 : x0.toInt / (B.1 + 1) ≤ x0.toInt := Int.ediv_le_self _ (by omega)
        have b3 := Int32.toInt_lt x0
        have e1 : (Int32.ofInt (x0.toInt / (B.1 + 1))).toInt = x0.toInt / (B.1 + 1) := by
          rw [Int32.toInt_ofInt]
          have b4 : (Int32.size : Int) = 4294967296 := rfl
          exact Int.bmod_eq_of_le (by omega) (by omega)
        exact aRmd_ok hc h3 h2 hx (by omega) e1 e2 h
      next => cases hb
    next => cases hb
  next => cases hb
/-- a mask that takes nothing away -/
noncomputable def aAi (S : aS) (p : Nat) : Option (List (Nat × aS)) := match S.2.1 with
  | y :: x :: r => match aIv S.2.2.1 x, aIv S.2.2.1 y with
    | some A, some B => if B.1 = B.2 ∧ 0 ≤ B.1 ∧ 0 ≤ A.1 ∧ A.2 ≤ B.1 ∧ aPw (B.1 + 1) = true then some [(p, (S.1, x :: r, S.2.2.1, S.2.2.2))] else none
    | _, _ => none
  | _ => none
theorem aAi_ok {S : aS} {p : Nat} {L : List (Nat × aS)} (hb : aAi S p = some L) {ρ : List jv} {lv : List (Option jv)} {st : List jv} {σ : Nat → jcell} (hc : aCx F Hp K n S ρ lv st σ) (h : aNx F Hp K n J ρ L) : j2 st fun x y r => J p lv (.inl (x &&& y) :: r) σ := by
  unfold aAi at hb
  split at hb
  next y x r hs =>
    split at hb
    next A B hA hB =>
      split at hb
      next hz =>
        cases hb
        obtain ⟨w, v, s, rfl, h1, h2, h3⟩ := aSk_2 (hs ▸ hc.2.2.1)
        obtain ⟨x0, rfl, hx⟩ := aIv_ok hc.1 hA h2
        obtain ⟨y0, rfl, hy⟩ := aIv_ok hc.1 hB h1
        obtain ⟨z1, z2, z3, z4, z5⟩ := hz
        have a1 := hx.1
        have a2 := hx.2
        have ey : y0.toInt = B.1 := by have := hy.1; have := hy.2; omega
        have e2 : (x0 &&& y0).toInt = x0.toInt % (B.1 + 1) := by rw [← ey]; exact aAnd_m (by omega) (by omega) (by rw [ey]; exact z5)
        have e3 : x0 &&& y0 = x0 := Int32.toInt_inj.mp (by rw [e2]; exact Int.emod_eq_of_lt (by omega) (by omega))
        show J p lv (.inl (x0 &&& y0) :: s) σ
        rw [e3]
        exact aNx_in h List.mem_cons_self aX_rf ⟨hc.1, hc.2.1, ⟨h2, h3⟩, hc.2.2.2⟩
      next => cases hb
    next => cases hb
  next => cases hb
end AST
end
section
/-! locals, branches, and the operations that leave the picture as it is -/
section ASU
variable {K : Nat → Nat} {n : Nat} {P : Type} {F : aFt P} {Hp : (Nat → jcell) → Prop} {J : jN}
theorem jkill_keep {lv : List (Option jv)} {i j : Nat} {w : jv} (h : lv[j]? = some (some w)) (hn : ¬ (j + 1 = i ∧ jcat w = 2)) : (jkill lv i)[j]? = some (some w) := by
  cases i with
  | zero => exact h
  | succ k =>
    dsimp only [jkill]
    split
    next x hx =>
      have hjk : j ≠ k := by
        intro q
        subst q
        rw [h] at hx
        cases hx
        exact hn ⟨rfl, rfl⟩
      rw [List.getElem?_set_ne (fun q => hjk q.symm)]
      exact h
    next => exact h
theorem jkill_len (lv : List (Option jv)) (i : Nat) : (jkill lv i).length = lv.length := by
  cases i with
  | zero => rfl
  | succ k =>
    dsimp only [jkill]
    split
    · rw [List.length_set]
    · rfl
noncomputable def aKl (env : List aE) (al : List (Option Nat)) (i : Nat) : List (Option Nat) := match i with
  | 0 => al
  | j + 1 => match al[j]? with
    | some (some k) => (match aTy env k with
      | some (.inl _) => al
      | some (.inr (some _)) => al
      | _ => al.set j none)
    | _ => al
theorem aKl_len (env : List aE) (al : List (Option Nat)) (i : Nat) : (aKl env al i).length = al.length := by
  cases i with
  | zero => rfl
  | succ j =>
    dsimp only [aKl]
    split
    · split
      · rfl
      · rfl
      · rw [List.length_set]
    · rfl
theorem aKl_at {env : List aE} {ρ : List jv} (hR : aR K n env ρ) {al : List (Option Nat)} {i j k : Nat} (h : (aKl env al i)[j]? = some (some k)) {w : jv} (hw : ρ[k]? = some w) : al[j]? = some (some k) ∧ ¬ (j + 1 = i ∧ jcat w = 2) := by
  cases i with
  | zero => exact ⟨h, fun q => by omega⟩
  | succ m =>
    dsimp only [aKl] at h
    split at h
    next k1 hk =>
      split at h
      next q hq =>
        refine ⟨h, fun e => ?_⟩
        obtain rfl : j = m := by omega
        rw [hk] at h
        cases h
        obtain ⟨x, rfl, -⟩ := aG_int (aTy_ok hR hq hw)
        cases e.2
      next q hq =>
        refine ⟨h, fun e => ?_⟩
        obtain rfl : j = m := by omega
        rw [hk] at h
        cases h
        have h9 := aTy_ok hR hq hw
        rcases w with x | x | _ | a | b
        · cases e.2
        · rcases q with q | q <;> exact h9.elim
        · cases e.2
        · cases e.2
        · cases e.2
      next =>
        by_cases hjm : j = m
        · subst hjm
          rw [List.getElem?_set_self (by exact (List.getElem?_eq_some_iff.mp hk).1)] at h
          cases h
        · rw [List.getElem?_set_ne (fun q => hjm q.symm)] at h
          exact ⟨h, fun e => hjm (by omega)⟩
    next hk =>
      refine ⟨h, fun e => ?_⟩
      obtain rfl : j = m := by omega
      exact hk k h
theorem aLv_s1 {env : List aE} {ρ : List jv} (hR : aR K n env ρ) {al : List (Option Nat)} {lv : List (Option jv)} (h : aLv ρ al lv) {i k : Nat} {v : jv} (hv : ρ[k]? = some v) : aLv ρ ((aKl env al i).set i (some k)) (jset1 lv i v) := by
  refine ⟨by rw [List.length_set, aKl_len]; unfold jset1; rw [List.length_set, jkill_len]; exact h.1, fun j m hm => ?_⟩
  by_cases hji : j = i
  · subst hji
    have hl : j < (aKl env al j).length := by
      have := (List.getElem?_eq_some_iff.mp hm).1
      simpa using this
    rw [List.getElem?_set_self hl] at hm
    cases hm
    refine ⟨v, hv, ?_⟩
    unfold jset1
    rw [List.getElem?_set_self (by rw [jkill_len, ← h.1, ← aKl_len env al j]; exact hl)]
  · rw [List.getElem?_set_ne (fun q => hji q.symm)] at hm
    have hm2 : al[j]? = some (some m) := by
      by_cases hx : ∃ w, ρ[m]? = some w
      · exact (aKl_at hR hm hx.choose_spec).1
      · exfalso
        cases i with
        | zero =>
          obtain ⟨w, h1, -⟩ := h.2 j m hm
          exact hx ⟨w, h1⟩
        | succ q =>
          dsimp only [aKl] at hm
          split at hm
          · split at hm
            · obtain ⟨w, h1, -⟩ := h.2 j m hm; exact hx ⟨w, h1⟩
            · obtain ⟨w, h1, -⟩ := h.2 j m hm; exact hx ⟨w, h1⟩
            · by_cases hjq : j = q
              · subst hjq
                rw [List.getElem?_set] at hm
                simp at hm
              · rw [List.getElem?_set_ne (fun e => hjq e.symm)] at hm
                obtain ⟨w, h1, -⟩ := h.2 j m hm; exact hx ⟨w, h1⟩
          · obtain ⟨w, h1, -⟩ := h.2 j m hm; exact hx ⟨w, h1⟩
    obtain ⟨w, h1, h2⟩ := h.2 j m hm2
    refine ⟨w, h1, ?_⟩
    unfold jset1
    rw [List.getElem?_set_ne (fun q => hji q.symm)]
    exact jkill_keep h2 (aKl_at hR hm h1).2
theorem aLv_none {ρ : List jv} {al : List (Option Nat)} {lv : List (Option jv)} (h : aLv ρ al lv) (i : Nat) : aLv ρ (al.set i none) (lv.set i none) := by
  refine ⟨by rw [List.length_set, List.length_set]; exact h.1, fun j m hm => ?_⟩
  by_cases hji : j = i
  · subst hji
    rw [List.getElem?_set] at hm
    simp at hm
  · rw [List.getElem?_set_ne (fun q => hji q.symm)] at hm
    rw [List.getElem?_set_ne (fun q => hji q.symm)]
    exact h.2 j m hm
/-! loads and stores of locals -/
noncomputable def aLd (S : aS) (i w p : Nat) : Option (List (Nat × aS)) := match S.1[i]? with
  | some (some k) => (match aTy S.2.2.1 k with
    | some (.inl _) => if w = 0 then some [(p, (S.1, k :: S.2.1, S.2.2.1, S.2.2.2))] else none
    | some (.inr none) => if w = 1 then some [(p, (S.1, k :: S.2.1, S.2.2.1, S.2.2.2))] else none
    | some (.inr (some _)) => if w = 2 then some [(p, (S.1, k :: S.2.1, S.2.2.1, S.2.2.2))] else none
    | none => none)
  | _ => none
theorem aLd_ok {S : aS} {i w p : Nat} {L : List (Nat × aS)} (hb : aLd S i w p = some L) {ρ : List jv} {lv : List (Option jv)} {st : List jv} {σ : Nat → jcell} (hc : aCx F Hp K n S ρ lv st σ) (h : aNx F Hp K n J ρ L) : ∃ v, lv[i]? = some (some v) ∧ J p lv (v :: st) σ ∧ (w = 0 → ∃ x, v = .inl x) ∧ (w = 1 → ∃ x, v = .inr (.inl x)) ∧ (w = 2 → ∃ x, v = .inr (.inr x)) := by
  unfold aLd at hb
  split at hb
  next k hk =>
    obtain ⟨v, h1, h2⟩ := hc.2.1.2 i k hk
    have hg : ∀ {q : List (Nat × aS)}, [(p, (S.1, k :: S.2.1, S.2.2.1, S.2.2.2))] = q → aNx F Hp K n J ρ q → J p lv (v :: st) σ := fun e hq => by
      subst e
      exact aNx_in hq List.mem_cons_self aX_rf ⟨hc.1, hc.2.1, ⟨h1, hc.2.2.1⟩, hc.2.2.2.1, hc.2.2.2.2⟩
    refine ⟨v, h2, ?_⟩
    split at hb
    next hq =>
      split at hb
      next hw =>
        obtain ⟨x, rfl, -⟩ := aG_int (aTy_ok hc.1 hq h1)
        exact ⟨hg (Option.some.inj hb) h, fun _ => ⟨x, rfl⟩, fun e => by omega, fun e => by omega⟩
      next => cases hb
    next hq =>
      split at hb
      next hw =>
        obtain ⟨x, rfl⟩ := aG_lng (aTy_ok hc.1 hq h1)
        exact ⟨hg (Option.some.inj hb) h, fun e => by omega, fun _ => ⟨x, rfl⟩, fun e => by omega⟩
      next => cases hb
    next q hq =>
      split at hb
      next hw =>
        have h9 := aTy_ok hc.1 hq h1
        refine ⟨hg (Option.some.inj hb) h, fun e => by omega, fun e => by omega, fun _ => ?_⟩
        rcases v with x | x | x
        · rcases q with q | q <;> exact h9.elim
        · rcases q with q | q <;> exact h9.elim
        · exact ⟨x, rfl⟩
      next => cases hb
    next => cases hb
  next => cases hb
theorem aLdi_ok {S : aS} {i p : Nat} {L : List (Nat × aS)} (hb : aLd S i 0 p = some L) {ρ : List jv} {lv : List (Option jv)} {st : List jv} {σ : Nat → jcell} (hc : aCx F Hp K n S ρ lv st σ) (h : aNx F Hp K n J ρ L) : jldi lv i fun x => J p lv (.inl x :: st) σ := by
  obtain ⟨v, h1, h2, h3, -⟩ := aLd_ok hb hc h
  obtain ⟨x, rfl⟩ := h3 rfl
  simp only [jldi, h1]
  exact h2
theorem aLdl_ok {S : aS} {i p : Nat} {L : List (Nat × aS)} (hb : aLd S i 1 p = some L) {ρ : List jv} {lv : List (Option jv)} {st : List jv} {σ : Nat → jcell} (hc : aCx F Hp K n S ρ lv st σ) (h : aNx F Hp K n J ρ L) : jldl lv i fun x => J p lv (.inr (.inl x) :: st) σ := by
  obtain ⟨v, h1, h2, -, h3, -⟩ := aLd_ok hb hc h
  obtain ⟨x, rfl⟩ := h3 rfl
  simp only [jldl, h1]
  exact h2
theorem aLda_ok {S : aS} {i p : Nat} {L : List (Nat × aS)} (hb : aLd S i 2 p = some L) {ρ : List jv} {lv : List (Option jv)} {st : List jv} {σ : Nat → jcell} (hc : aCx F Hp K n S ρ lv st σ) (h : aNx F Hp K n J ρ L) : jlda lv i fun x => J p lv (.inr (.inr x) :: st) σ := by
  obtain ⟨v, h1, h2, -, -, h3⟩ := aLd_ok hb hc h
  obtain ⟨x, rfl⟩ := h3 rfl
  simp only [jlda, h1]
  exact h2
noncomputable def aSo (S : aS) (i w p : Nat) : Option (List (Nat × aS)) := match S.2.1 with
  | k :: r => (match aTy S.2.2.1 k with
    | some (.inl _) => if w = 0 then some [(p, ((aKl S.2.2.1 S.1 i).set i (some k), r, S.2.2.1, S.2.2.2))] else none
    | some (.inr none) => if w = 1 then some [(p, (((aKl S.2.2.1 S.1 i).set i (some k)).set (i + 1) none, r, S.2.2.1, S.2.2.2))] else none
    | some (.inr (some _)) => if w = 2 then some [(p, ((aKl S.2.2.1 S.1 i).set i (some k), r, S.2.2.1, S.2.2.2))] else none
    | none => none)
  | _ => none
theorem aSoi_ok {S : aS} {i p : Nat} {L : List (Nat × aS)} (hb : aSo S i 0 p = some L) {ρ : List jv} {lv : List (Option jv)} {st : List jv} {σ : Nat → jcell} (hc : aCx F Hp K n S ρ lv st σ) (h : aNx F Hp K n J ρ L) : j1 st fun x r => J p (jset1 lv i (.inl x)) r σ := by
  unfold aSo at hb
  split at hb
  next k r hs =>
    obtain ⟨v, s, rfl, h1, h2⟩ := aSk_1 (hs ▸ hc.2.2.1)
    split at hb
    next hq =>
      obtain ⟨x, rfl, -⟩ := aG_int (aTy_ok hc.1 hq h1)
      rw [if_pos rfl] at hb
      cases hb
      exact aNx_in h List.mem_cons_self aX_rf ⟨hc.1, aLv_s1 hc.1 hc.2.1 h1, h2, hc.2.2.2.1, hc.2.2.2.2⟩
    next => cases hb
    next => cases hb
    next => cases hb
  next => cases hb
theorem aSol_ok {S : aS} {i p : Nat} {L : List (Nat × aS)} (hb : aSo S i 1 p = some L) {ρ : List jv} {lv : List (Option jv)} {st : List jv} {σ : Nat → jcell} (hc : aCx F Hp K n S ρ lv st σ) (h : aNx F Hp K n J ρ L) : jl1 st fun x r => J p (jset2 lv i (.inr (.inl x))) r σ := by
  unfold aSo at hb
  split at hb
  next k r hs =>
    obtain ⟨v, s, rfl, h1, h2⟩ := aSk_1 (hs ▸ hc.2.2.1)
    split at hb
    next => cases hb
    next hq =>
      obtain ⟨x, rfl⟩ := aG_lng (aTy_ok hc.1 hq h1)
      rw [if_pos rfl] at hb
      cases hb
      exact aNx_in h List.mem_cons_self aX_rf ⟨hc.1, aLv_none (aLv_s1 hc.1 hc.2.1 h1) (i + 1), h2, hc.2.2.2.1, hc.2.2.2.2⟩
    next => cases hb
    next => cases hb
  next => cases hb
theorem aSoa_ok {S : aS} {i p : Nat} {L : List (Nat × aS)} (hb : aSo S i 2 p = some L) {ρ : List jv} {lv : List (Option jv)} {st : List jv} {σ : Nat → jcell} (hc : aCx F Hp K n S ρ lv st σ) (h : aNx F Hp K n J ρ L) : ja1 st fun x r => J p (jset1 lv i (.inr (.inr x))) r σ := by
  unfold aSo at hb
  split at hb
  next k r hs =>
    obtain ⟨v, s, rfl, h1, h2⟩ := aSk_1 (hs ▸ hc.2.2.1)
    split at hb
    next => cases hb
    next => cases hb
    next q hq =>
      have h9 := aTy_ok hc.1 hq h1
      rw [if_pos rfl] at hb
      cases hb
      rcases v with x | x | x
      · rcases q with q | q <;> exact h9.elim
      · rcases q with q | q <;> exact h9.elim
      · exact aNx_in h List.mem_cons_self aX_rf ⟨hc.1, aLv_s1 hc.1 hc.2.1 h1, h2, hc.2.2.2.1, hc.2.2.2.2⟩
    next => cases hb
  next => cases hb
noncomputable def aInc (S : aS) (i : Nat) (c : Int32) (p : Nat) : Option (List (Nat × aS)) := match S.1[i]? with
  | some (some k) => (match aIv S.2.2.1 k with
    | some A => some [(p, ((aKl S.2.2.1 S.1 i).set i (some S.2.2.1.length), S.2.1, S.2.2.1 ++ [(.inl (aAdd A (c.toInt, c.toInt)), if aFit3 (A.1 + c.toInt) (A.2 + c.toInt) = true then some (aFp (aLi S.2.2.1 k) ([], c.toInt)) else none)], S.2.2.2))]
    | _ => none)
  | _ => none
theorem aKl_mo {env : List aE} {al : List (Option Nat)} {i : Nat} {x : aE} (h : ∀ (j k : Nat), al[j]? = some (some k) → k < env.length) : aKl (env ++ [x]) al i = aKl env al i := by
  cases i with
  | zero => rfl
  | succ j =>
    dsimp only [aKl]
    split
    next k hk =>
      have e : aTy (env ++ [x]) k = aTy env k := by
        unfold aTy
        rw [List.getElem?_append_left (h j k hk)]
      rw [e]
    next => rfl
theorem aInc_ok {S : aS} {i p : Nat} {c : Int32} {L : List (Nat × aS)} (hb : aInc S i c p = some L) {ρ : List jv} {lv : List (Option jv)} {st : List jv} {σ : Nat → jcell} (hc : aCx F Hp K n S ρ lv st σ) (h : aNx F Hp K n J ρ L) : jldi lv i fun x => J p (jset1 lv i (.inl (x + c))) st σ := by
  unfold aInc at hb
  split at hb
  next k hk =>
    split at hb
    next A hA =>
      cases hb
      obtain ⟨v, h1, h2⟩ := hc.2.1.2 i k hk
      obtain ⟨x, rfl, hx⟩ := aIv_ok hc.1 hA h1
      simp only [jldi, h2]
      have hC : aIn (c.toInt, c.toInt) c := ⟨Int.le_refl _, Int.le_refl _⟩
      have hr : aRl ρ (if aFit3 (A.1 + c.toInt) (A.2 + c.toInt) = true then some (aFp (aLi S.2.2.1 k) ([], c.toInt)) else none) (.inl (x + c)) := by
        split
        next hf =>
          simp only [aFit3, Bool.and_eq_true, decide_eq_true_eq] at hf
          obtain ⟨a1, a2⟩ := hx
          have e1 : (x + c).toInt = x.toInt + c.toInt := by
            rw [Int32.toInt_add]
            exact Int.bmod_eq_of_le (by omega) (by omega)
          show aVa ρ _ (x + c).toInt
          rw [e1]
          exact aVa_p (aLi_ok hc.1 h1) (aVa_k _)
        next => trivial
      have hR2 := aR_push (t := .inl (aAdd A (c.toInt, c.toInt))) (v := .inl (x + c)) hc.1 (aAdd_ok hx hC) hr
      have hl := aLv_s1 (i := i) (k := S.2.2.1.length) (v := .inl (x + c)) hR2 (hc.2.1.mo aX_app) (aR_new hc.1)
      rw [aKl_mo (fun j k q => by
        obtain ⟨v, h8, -⟩ := hc.2.1.2 j k q
        have := (List.getElem?_eq_some_iff.mp h8).1
        rw [hc.1.1] at this
        exact this)] at hl
      obtain ⟨p9, c4⟩ := hc.2.2.2.1
      exact aNx_in h List.mem_cons_self aX_app ⟨hR2, hl, hc.2.2.1.mo aX_app, ⟨p9, c4.mo aX_app⟩, hc.2.2.2.2⟩
    next => cases hb
  next => cases hb
end ASU
end
section
/-! branches, one and two values off the stack -/
section ASV
variable {K : Nat → Nat} {n : Nat} {P : Type} {F : aFt P} {Hp : (Nat → jcell) → Prop} {J : jN}
noncomputable def aNot (c : Jvm.ClassFile.Cond) : Jvm.ClassFile.Cond := match c with
  | .eq => .ne
  | .ne => .eq
  | .lt => .ge
  | .ge => .lt
  | .gt => .le
  | .le => .gt
noncomputable def aHo (c : Jvm.ClassFile.Cond) (x y : Int) : Prop := match c with
  | .eq => x = y
  | .ne => ¬ x = y
  | .lt => x < y
  | .ge => y ≤ x
  | .gt => y < x
  | .le => x ≤ y
theorem aBr_of {c : Jvm.ClassFile.Cond} {x y : Int32} {P Q : Prop} (h1 : aHo c x.toInt y.toInt → P) (h2 : aHo (aNot c) x.toInt y.toInt → Q) : jbr c x y P Q := by
  have e1 : ∀ a b : Int32, a < b ↔ a.toInt < b.toInt := fun a b => Int32.lt_iff_toInt_lt
  have e2 : ∀ a b : Int32, a ≤ b ↔ a.toInt ≤ b.toInt := fun a b => Int32.le_iff_toInt_le
  have e3 : ∀ a b : Int32, a = b ↔ a.toInt = b.toInt := fun a b => Int32.toInt_inj.symm
  cases c
  all_goals
    simp only [aHo, aNot] at h1 h2
    simp only [jbr, e1, e2, e3]
    exact ⟨fun h => h1 (by omega), fun h => h2 (by omega)⟩
noncomputable def aNar (env : List aE) (i : Nat) (t : aT) : List aE := match env[i]? with
  | some e => env.set i (t, e.2)
  | none => env
theorem aNar_ok {env : List aE} {ρ : List jv} (h : aR K n env ρ) {i : Nat} {t : aT} (ht : ∀ v, ρ[i]? = some v → aG K n t v) : aR K n (aNar env i t) ρ := by
  unfold aNar
  split
  next e he =>
    refine ⟨by rw [List.length_set]; exact h.1, fun j e1 w h1 h2 => ?_⟩
    by_cases hji : j = i
    · subst hji
      rw [List.getElem?_set_self (List.getElem?_eq_some_iff.mp he).1] at h1
      cases h1
      exact ⟨ht w h2, (h.2 _ _ _ he h2).2⟩
    · rw [List.getElem?_set_ne (fun q => hji q.symm)] at h1
      exact h.2 j e1 w h1 h2
  next => exact h
/-- c * x + r is not below zero, and r is at most u -/
noncomputable def aTg1 (c u : Int) (A : Int × Int) : Int × Int := if 0 < c then (max A.1 (-(u / c)), A.2) else if c < 0 then (A.1, min A.2 (u / (-c))) else A
theorem aTg1_ok {c u : Int} {A : Int × Int} {x : Int32} (hx : aIn A x) (h : 0 ≤ c * x.toInt + u) : aIn (aTg1 c u A) x := by
  unfold aTg1
  obtain ⟨h1, h2⟩ := hx
  split
  next hc =>
    refine ⟨?_, h2⟩
    have : -(u / c) ≤ x.toInt := by
      have q1 : -x.toInt ≤ u / c := by
        rw [Int.le_ediv_iff_mul_le hc, Int.neg_mul, Int.mul_comm]
        omega
      omega
    dsimp only
    omega
  next =>
    split
    next hc =>
      refine ⟨h1, ?_⟩
      have : x.toInt ≤ u / (-c) := by
        rw [Int.le_ediv_iff_mul_le (by omega), Int.mul_neg, Int.mul_comm]
        omega
      dsimp only
      omega
    next => exact ⟨h1, h2⟩
noncomputable def aTg (f : aF) : List (Nat × Int) → List aE → List aE
  | [], env => env
  | q :: r, env => aTg f r (match env[q.1]? with
    | some (.inl A, _) => (match aLb env (aSq (-1) (aFi (q.1, -q.2) f.1)) with
      | some s => aNar env q.1 (.inl (aTg1 q.2 (f.2 - s) A))
      | none => env)
    | _ => env)
theorem aTg_ok {ρ : List jv} {f : aF} (hf : aHd ρ f) : ∀ {L : List (Nat × Int)} {env : List aE}, aR K n env ρ → aR K n (aTg f L env) ρ
  | [], env, h => h
  | q :: r, env, h => by
    unfold aTg
    refine aTg_ok hf ?_
    split
    next A o he =>
      split
      next s hs =>
        refine aNar_ok h (fun v hv => ?_)
        obtain ⟨x, rfl, hx⟩ := aG_int (h.2 _ _ _ he hv).1
        obtain ⟨z, z1, z2⟩ := hf
        have e1 := aLb_ok h hs (aSq_ok (c := -1) (aFi_ok (q := (q.1, -q.2)) hv z1))
        refine aTg1_ok hx ?_
        replace e1 : s ≤ -1 * (-q.2 * x.toInt + z) := e1
        have e2 : -q.2 * x.toInt = -(q.2 * x.toInt) := Int.neg_mul _ _
        rw [e2] at e1
        omega
      next => exact h
    next => exact h
noncomputable def aNe1 (env : List aE) (i : Nat) : Bool := match env[i]? with
  | some (.inl A, _) => decide (A.1 ≤ A.2)
  | _ => true
noncomputable def aKeepC (env : List aE) (f : aF) (cs : List aF) : List aF := match f.1 with
  | [] => cs
  | [q] => (match aLo env q.1 with
    | some _ => cs
    | none => f :: cs)
  | _ => f :: cs
noncomputable def aAsm (env : List aE) (cs : List aF) (f : aF) : Option (List aE × List aF) := if aPr env cs 1 (aFp ([], -1) (aFm (-1) f)) = true then none else (if f.1.all (fun q => aNe1 (aTg f f.1 env) q.1) = true then some (aTg f f.1 env, aKeepC env f cs) else none)
theorem aAsm_ok {env : List aE} {ρ : List jv} (h : aR K n env ρ) {cs : List aF} (hc : ∀ f ∈ cs, aHd ρ f) {f : aF} (hf : aHd ρ f) : ∃ q, aAsm env cs f = some q ∧ aR K n q.1 ρ ∧ ∀ f ∈ q.2, aHd ρ f := by
  obtain ⟨x, x1, x2⟩ := aHd_va.mp hf
  have h9 := aTg_ok hf (L := f.1) h
  unfold aAsm
  rw [if_neg (fun q => by
    have := aPr_ok h hc q (aVa_p (aVa_k (-1)) (aVa_m (-1) x1))
    omega)]
  rw [if_pos (List.all_eq_true.mpr (fun q hq => by
    unfold aNe1
    split
    next A o he =>
      have hl := (List.getElem?_eq_some_iff.mp he).1
      rw [← h9.1] at hl
      obtain ⟨y, -, hy⟩ := aG_int (h9.2 _ _ _ he (List.getElem?_eq_getElem hl)).1
      have := hy.1
      have := hy.2
      exact decide_eq_true (by omega)
    next => rfl))]
  refine ⟨_, rfl, h9, fun g hg => ?_⟩
  unfold aKeepC at hg
  have hx : ∀ g ∈ f :: cs, aHd ρ g := fun g hg => by
    rcases List.mem_cons.mp hg with rfl | hg
    · exact hf
    · exact hc g hg
  dsimp only at hg
  split at hg
  · exact hc g hg
  · split at hg
    · exact hc g hg
    · exact hx g hg
  · exact hx g hg
noncomputable def aAsL (env : List aE) (cs : List aF) : List aF → Option (List aE × List aF)
  | [] => some (env, cs)
  | f :: r => match aAsm env cs f with
    | some q => aAsL q.1 q.2 r
    | none => none
theorem aAsL_ok {ρ : List jv} : ∀ {fs : List aF} {env : List aE} {cs : List aF}, aR K n env ρ → (∀ f ∈ cs, aHd ρ f) → (∀ f ∈ fs, aHd ρ f) → ∃ q, aAsL env cs fs = some q ∧ aR K n q.1 ρ ∧ ∀ f ∈ q.2, aHd ρ f
  | [], env, cs, h, hc, _ => ⟨(env, cs), rfl, h, hc⟩
  | f :: r, env, cs, h, hc, hf => by
    obtain ⟨q, q1, q2, q3⟩ := aAsm_ok h hc (hf f List.mem_cons_self)
    unfold aAsL
    rw [q1]
    exact aAsL_ok q2 q3 (fun g hg => hf g (List.mem_cons_of_mem _ hg))
noncomputable def aBs (S : aS) (r : List Nat) (fs : List aF) (p : Nat) : List (Nat × aS) := match aAsL S.2.2.1 S.2.2.2.2.2.1 fs with
  | some q => [(p, (S.1, r, q.1, (S.2.2.2.1, S.2.2.2.2.1, q.2, S.2.2.2.2.2.2)))]
  | none => []
theorem aBs_ok {S : aS} {r : List Nat} {fs : List aF} {p : Nat} {ρ : List jv} {lv : List (Option jv)} {st st0 : List jv} {σ : Nat → jcell} (hc : aCx F Hp K n S ρ lv st0 σ) (hs : aSk ρ r st) (hf : ∀ f ∈ fs, aHd ρ f) (h : aNx F Hp K n J ρ (aBs S r fs p)) : J p lv st σ := by
  obtain ⟨c1, c2, c3, ⟨p9, m1, m2, m3, m4⟩, c5⟩ := hc
  obtain ⟨q, q1, q2, q3⟩ := aAsL_ok c1 m3 hf
  unfold aBs at h
  rw [q1] at h
  exact aNx_in h List.mem_cons_self aX_rf ⟨q2, c2, hs, ⟨p9, m1, m2, q3, m4⟩, c5⟩
noncomputable def aCd (env : List aE) (cs : List aF) (c : Jvm.ClassFile.Cond) (D : aF) : List aF := match c with
  | .eq => [D, aFm (-1) D]
  | .ne => if aPr env cs 1 D = true then [aFp ([], -1) D] else if aPr env cs 1 (aFm (-1) D) = true then [aFp ([], -1) (aFm (-1) D)] else []
  | .lt => [aFp ([], -1) (aFm (-1) D)]
  | .ge => [D]
  | .gt => [aFp ([], -1) D]
  | .le => [aFm (-1) D]
theorem aCd_ok {env : List aE} {ρ : List jv} (h : aR K n env ρ) {cs : List aF} (hc : ∀ f ∈ cs, aHd ρ f) {c : Jvm.ClassFile.Cond} {D : aF} {x y : Int} (hD : aVa ρ D (x - y)) (ho : aHo c x y) : ∀ f ∈ aCd env cs c D, aHd ρ f := by
  have hN := aVa_m (-1) hD
  have hD1 := aVa_p (aVa_k (-1)) hD
  have hN1 := aVa_p (aVa_k (-1)) hN
  have key : ∀ {g f : aF} {z : Int}, aVa ρ g z → 0 ≤ z → f ∈ [g] → aHd ρ f := fun h1 h2 h3 => by
    rw [List.mem_singleton] at h3
    subst h3
    exact aHd_va.mpr ⟨_, h1, h2⟩
  intro f hf
  cases c
  case eq =>
    simp only [aHo] at ho
    rcases List.mem_cons.mp hf with rfl | hf
    · exact aHd_va.mpr ⟨_, hD, by omega⟩
    · exact key hN (by omega) hf
  case ne =>
    simp only [aHo] at ho
    unfold aCd at hf
    dsimp only at hf
    split at hf
    next hp =>
      have := aPr_ok h hc hp hD
      exact key hD1 (by omega) hf
    next =>
      split at hf
      next hp =>
        have := aPr_ok h hc hp hN
        exact key hN1 (by omega) hf
      next => cases hf
  case lt => simp only [aHo] at ho; exact key hN1 (by omega) hf
  case ge => simp only [aHo] at ho; exact key hD (by omega) hf
  case gt => simp only [aHo] at ho; exact key hD1 (by omega) hf
  case le => simp only [aHo] at ho; exact key hN (by omega) hf
theorem aNx_l {ρ : List jv} {L M : List (Nat × aS)} (h : aNx F Hp K n J ρ (L ++ M)) : aNx F Hp K n J ρ L := fun q hq => h q (List.mem_append_left _ hq)
theorem aNx_r {ρ : List jv} {L M : List (Nat × aS)} (h : aNx F Hp K n J ρ (L ++ M)) : aNx F Hp K n J ρ M := fun q hq => h q (List.mem_append_right _ hq)
noncomputable def aIf2 (S : aS) (c : Jvm.ClassFile.Cond) (p1 p2 : Nat) : Option (List (Nat × aS)) := match S.2.1 with
  | y :: x :: r => (match aTy S.2.2.1 x, aTy S.2.2.1 y with
    | some (.inl _), some (.inl _) => some (aBs S r (aCd S.2.2.1 S.2.2.2.2.2.1 c (aFp (aLi S.2.2.1 x) (aFm (-1) (aLi S.2.2.1 y)))) p1 ++ aBs S r (aCd S.2.2.1 S.2.2.2.2.2.1 (aNot c) (aFp (aLi S.2.2.1 x) (aFm (-1) (aLi S.2.2.1 y)))) p2)
    | _, _ => none)
  | _ => none
theorem aIf2_ok {S : aS} {c : Jvm.ClassFile.Cond} {p1 p2 : Nat} {L : List (Nat × aS)} (hb : aIf2 S c p1 p2 = some L) {ρ : List jv} {lv : List (Option jv)} {st : List jv} {σ : Nat → jcell} (hc : aCx F Hp K n S ρ lv st σ) (h : aNx F Hp K n J ρ L) : j2 st fun x y r => jbr c x y (J p1 lv r σ) (J p2 lv r σ) := by
  unfold aIf2 at hb
  split at hb
  next y x r hs =>
    split at hb
    next A B hA hB =>
      cases hb
      obtain ⟨w, v, s, rfl, h1, h2, h3⟩ := aSk_2 (hs ▸ hc.2.2.1)
      obtain ⟨x0, rfl, hx⟩ := aG_int (aTy_ok hc.1 hA h2)
      obtain ⟨y0, rfl, hy⟩ := aG_int (aTy_ok hc.1 hB h1)
      have hD : aVa ρ (aFp (aLi S.2.2.1 x) (aFm (-1) (aLi S.2.2.1 y))) (x0.toInt - y0.toInt) := by
        have := aVa_p (aLi_ok hc.1 h2) (aVa_m (-1) (aLi_ok hc.1 h1))
        rwa [show aI (.inl x0) + -1 * aI (.inl y0) = x0.toInt - y0.toInt by simp only [aI]; omega] at this
      obtain ⟨p9, m1, m2, m3, m4⟩ := hc.2.2.2.1
      exact aBr_of (fun q => aBs_ok hc h3 (aCd_ok hc.1 m3 hD q) (aNx_l h)) (fun q => aBs_ok hc h3 (aCd_ok hc.1 m3 hD q) (aNx_r h))
    next => cases hb
  next => cases hb
noncomputable def aIf1 (S : aS) (c : Jvm.ClassFile.Cond) (p1 p2 : Nat) : Option (List (Nat × aS)) := match S.2.1 with
  | x :: r => (match aTy S.2.2.1 x with
    | some (.inl _) => some (aBs S r (aCd S.2.2.1 S.2.2.2.2.2.1 c (aLi S.2.2.1 x)) p1 ++ aBs S r (aCd S.2.2.1 S.2.2.2.2.2.1 (aNot c) (aLi S.2.2.1 x)) p2)
    | _ => none)
  | _ => none
theorem aIf1_ok {S : aS} {c : Jvm.ClassFile.Cond} {p1 p2 : Nat} {L : List (Nat × aS)} (hb : aIf1 S c p1 p2 = some L) {ρ : List jv} {lv : List (Option jv)} {st : List jv} {σ : Nat → jcell} (hc : aCx F Hp K n S ρ lv st σ) (h : aNx F Hp K n J ρ L) : j1 st fun x r => jbr c x 0 (J p1 lv r σ) (J p2 lv r σ) := by
  unfold aIf1 at hb
  split at hb
  next x r hs =>
    split at hb
    next A hA =>
      cases hb
      obtain ⟨v, s, rfl, h1, h3⟩ := aSk_1 (hs ▸ hc.2.2.1)
      obtain ⟨x0, rfl, hx⟩ := aG_int (aTy_ok hc.1 hA h1)
      have h0 : (0 : Int32).toInt = 0 := by decide
      have e0 : aI (.inl x0) = x0.toInt - (0 : Int32).toInt := by
        show x0.toInt = _
        omega
      have hD := aLi_ok hc.1 h1
      rw [e0] at hD
      obtain ⟨p9, m1, m2, m3, m4⟩ := hc.2.2.2.1
      exact aBr_of (fun q => aBs_ok hc h3 (aCd_ok hc.1 m3 hD q) (aNx_l h)) (fun q => aBs_ok hc h3 (aCd_ok hc.1 m3 hD q) (aNx_r h))
    next => cases hb
  next => cases hb
/-- a test for null: p1 at null -/
noncomputable def aIfn (S : aS) (p1 p2 : Nat) : Option (List (Nat × aS)) := match S.2.1 with
  | x :: r => (match aTy S.2.2.1 x with
    | some (.inr (some (.inl q))) => some ((if q.1 = true then [(p1, (S.1, r, S.2.2.1, S.2.2.2))] else []) ++ [(p2, (S.1, r, aNar S.2.2.1 x (.inr (some (.inl (false, q.2)))), S.2.2.2))])
    | _ => none)
  | _ => none
theorem aIfn_ok {S : aS} {p1 p2 : Nat} {L : List (Nat × aS)} (hb : aIfn S p1 p2 = some L) {ρ : List jv} {lv : List (Option jv)} {st : List jv} {σ : Nat → jcell} (hc : aCx F Hp K n S ρ lv st σ) (h : aNx F Hp K n J ρ L) : ja1 st fun a r => (a = none → J p1 lv r σ) ∧ (¬ a = none → J p2 lv r σ) := by
  unfold aIfn at hb
  split at hb
  next x r hs =>
    split at hb
    next q hA =>
      cases hb
      obtain ⟨v, s, rfl, h1, h3⟩ := aSk_1 (hs ▸ hc.2.2.1)
      rcases aG_ref (aTy_ok hc.1 hA h1) with ⟨e, rfl⟩ | ⟨a, rfl, ha⟩
      · rw [if_pos e] at h
        exact ⟨fun _ => aNx_in (aNx_l h) List.mem_cons_self aX_rf ⟨hc.1, hc.2.1, h3, hc.2.2.2.1, hc.2.2.2.2⟩, fun q => absurd rfl q⟩
      · refine ⟨fun e => (by cases e), fun _ => aNx_in (aNx_r h) List.mem_cons_self aX_rf ⟨aNar_ok (t := .inr (some (.inl (false, q.2)))) hc.1 (fun v hv => ?_), hc.2.1, h3, hc.2.2.2.1, hc.2.2.2.2⟩⟩
        rw [h1] at hv
        cases hv
        exact ha
    next => cases hb
  next => cases hb
/-! one value off the stack, one on it -/
noncomputable def aUn (tf : Int × Int → aT) (rf : Int × Int → Option Int) (S : aS) (p : Nat) : Option (List (Nat × aS)) := match S.2.1 with
  | x :: r => (match aIv S.2.2.1 x with
    | some A => some [(p, aPu S r (tf A) (match rf A with
      | some c => some (aFm c (aLi S.2.2.1 x))
      | none => none))]
    | _ => none)
  | _ => none
theorem aUn_ok {tf : Int × Int → aT} {rf : Int × Int → Option Int} {g : Int32 → jv} (hg : ∀ {A : Int × Int} {x : Int32}, aIn A x → aG K n (tf A) (g x)) (hr : ∀ {A : Int × Int} {x : Int32} {c : Int}, aIn A x → rf A = some c → aI (g x) = c * x.toInt) {S : aS} {p : Nat} {L : List (Nat × aS)} (hb : aUn tf rf S p = some L) {ρ : List jv} {lv : List (Option jv)} {st : List jv} {σ : Nat → jcell} (hc : aCx F Hp K n S ρ lv st σ) (h : aNx F Hp K n J ρ L) : j1 st fun x r => J p lv (g x :: r) σ := by
  unfold aUn at hb
  split at hb
  next x r hs =>
    split at hb
    next A hA =>
      cases hb
      obtain ⟨v, s, rfl, h1, h3⟩ := aSk_1 (hs ▸ hc.2.2.1)
      obtain ⟨x0, rfl, hx⟩ := aIv_ok hc.1 hA h1
      refine aPu_ok hc h3 (hg hx) ?_ h
      split
      next c hcc =>
        show aVa ρ _ _
        rw [hr hx hcc]
        exact aVa_m c (aLi_ok hc.1 h1)
      next => trivial
    next => cases hb
  next => cases hb
/-! longs -/
noncomputable def aF64 (env : List aE) (f : aF) : Option (Int × Int) := match aLb env f.1, aLb env (aSq (-1) f.1) with
  | some s, some t => if -9223372036854775808 ≤ s + f.2 ∧ f.2 - t ≤ 9223372036854775807 then some (s + f.2, f.2 - t) else none
  | _, _ => none
theorem aF64_ok {env : List aE} {ρ : List jv} (h : aR K n env ρ) {f : aF} {A : Int × Int} (hA : aF64 env f = some A) {x : Int} (hx : aVa ρ f x) : A.1 ≤ x ∧ x ≤ A.2 ∧ -9223372036854775808 ≤ A.1 ∧ A.2 ≤ 9223372036854775807 := by
  obtain ⟨z, z1, rfl⟩ := hx
  unfold aF64 at hA
  split at hA
  next s t hs ht =>
    split at hA
    next hq =>
      cases hA
      have e1 := aLb_ok h hs z1
      have e2 := aLb_ok h ht (aSq_ok (c := -1) z1)
      dsimp only
      omega
    next => cases hA
  next => cases hA
noncomputable def aGl (env : List aE) (f : aF) : Option aF := match aF64 env f with
  | some _ => some f
  | none => none
theorem aGl_ok {env : List aE} {ρ : List jv} (h : aR K n env ρ) {f : aF} {v : Int64} {x : Int} (hx : aVa ρ f x) (hv : v.toInt = x.bmod (2 ^ 64)) : aRl ρ (aGl env f) (.inr (.inl v)) := by
  unfold aGl
  split
  next A hA =>
    obtain ⟨a1, a2, a3, a4⟩ := aF64_ok h hA hx
    show aVa ρ f v.toInt
    rw [hv, Int.bmod_eq_of_le (by omega) (by omega)]
    exact hx
  next => trivial
noncomputable def aLk (f : aF) : Option Int := match f.1 with
  | [] => some f.2
  | _ => none
theorem aLk_ok {ρ : List jv} {f : aF} {c x : Int} (h : aLk f = some c) (hx : aVa ρ f x) : x = c := by
  obtain ⟨g, k⟩ := f
  unfold aLk at h
  split at h
  next e =>
    cases h
    dsimp only at e
    subst e
    obtain ⟨z, z1, z2⟩ := hx
    cases z1
    omega
  next => cases h
/-- 1 sum, 2 difference, 3 product with a constant, 4 quotient of constants -/
noncomputable def aLr (k : Nat) (env : List aE) (X Y : aF) : Option aF := match k with
  | 1 => aGl env (aFp X Y)
  | 2 => aGl env (aFp X (aFm (-1) Y))
  | 3 => (match aLk X with
    | some c => aGl env (aFm c Y)
    | none => (match aLk Y with
      | some c => aGl env (aFm c X)
      | none => none))
  | 4 => (match aLk X, aLk Y with
    | some a, some b => if 0 ≤ a ∧ 0 < b ∧ a ≤ 9223372036854775807 then some ([], a / b) else none
    | _, _ => none)
  | _ => none
noncomputable def aCol (k : Nat) (f : Int64 → Int64 → Int64) : Prop := (k = 1 → ∀ x y, f x y = x + y) ∧ (k = 2 → ∀ x y, f x y = x - y) ∧ (k = 3 → ∀ x y, f x y = x * y) ∧ (k = 4 → ∀ x y, f x y = x / y)
theorem aLr_ok {env : List aE} {ρ : List jv} (h : aR K n env ρ) {k : Nat} {f : Int64 → Int64 → Int64} (hk : aCol k f) {X Y : aF} {x y : Int64} (hx : aVa ρ X x.toInt) (hy : aVa ρ Y y.toInt) : aRl ρ (aLr k env X Y) (.inr (.inl (f x y))) := by
  unfold aLr
  split
  · exact aGl_ok h (aVa_p hx hy) (by rw [hk.1 rfl, Int64.toInt_add])
  · exact aGl_ok h (aVa_p hx (aVa_m (-1) hy)) (by rw [hk.2.1 rfl, Int64.toInt_sub]; congr 1; omega)
  · split
    next c hc =>
      refine aGl_ok h (aVa_m c hy) ?_
      rw [hk.2.2.1 rfl, Int64.toInt_mul, aLk_ok hc hx]
    next =>
      split
      next c hc =>
        refine aGl_ok h (aVa_m c hx) ?_
        rw [hk.2.2.1 rfl, Int64.toInt_mul, aLk_ok hc hy, Int.mul_comm]
      next => trivial
  · split
    next a b ha hb =>
      split
      next hz =>
        show aVa ρ _ (f x y).toInt
        rw [hk.2.2.2 rfl, Int64.toInt_div, aLk_ok ha hx, aLk_ok hb hy, Int.tdiv_eq_ediv_of_nonneg hz.1]
        have h4 : a / b ≤ a := Int.ediv_le_self _ hz.1
        have h5 : 0 ≤ a / b := Int.ediv_nonneg hz.1 (by omega)
        rw [Int.bmod_eq_of_le (by omega) (by omega)]
        exact aVa_k _
      next => trivial
    next => trivial
  · trivial
noncomputable def aBl (k : Nat) (S : aS) (p : Nat) : Option (List (Nat × aS)) := match S.2.1 with
  | y :: x :: r => (match aTy S.2.2.1 x, aTy S.2.2.1 y with
    | some (.inr none), some (.inr none) => some [(p, aPu S r (.inr none) (aLr k S.2.2.1 (aLi S.2.2.1 x) (aLi S.2.2.1 y)))]
    | _, _ => none)
  | _ => none
theorem aBl_ok {k : Nat} {f : Int64 → Int64 → Int64} (hk : aCol k f) {S : aS} {p : Nat} {L : List (Nat × aS)} (hb : aBl k S p = some L) {ρ : List jv} {lv : List (Option jv)} {st : List jv} {σ : Nat → jcell} (hc : aCx F Hp K n S ρ lv st σ) (h : aNx F Hp K n J ρ L) : jl2 st fun x y r => J p lv (.inr (.inl (f x y)) :: r) σ := by
  unfold aBl at hb
  split at hb
  next y x r hs =>
    split at hb
    next hA hB =>
      cases hb
      obtain ⟨w, v, s, rfl, h1, h2, h3⟩ := aSk_2 (hs ▸ hc.2.2.1)
      obtain ⟨x0, rfl⟩ := aG_lng (aTy_ok hc.1 hA h2)
      obtain ⟨y0, rfl⟩ := aG_lng (aTy_ok hc.1 hB h1)
      exact aPu_ok (t := .inr none) (v := .inr (.inl (f x0 y0))) hc h3 trivial (aLr_ok hc.1 hk (aLi_ok hc.1 h2) (aLi_ok hc.1 h1)) h
    next => cases hb
  next => cases hb
/-- a long that is divided by is not zero -/
noncomputable def aNzl (S : aS) : Bool := match S.2.1 with
  | y :: _ => (match aTy S.2.2.1 y with
    | some (.inr none) => aPr S.2.2.1 S.2.2.2.2.2.1 1 (aFp ([], -1) (aLi S.2.2.1 y))
    | _ => false)
  | _ => false
theorem aNzl_ok {S : aS} (hz : aNzl S = true) {ρ : List jv} {lv : List (Option jv)} {st : List jv} {σ : Nat → jcell} (hc : aCx F Hp K n S ρ lv st σ) {Q : Int64 → Int64 → List jv → Prop} (h : jl2 st Q) : jl2 st fun x y r => ¬ y = 0 ∧ Q x y r := by
  unfold aNzl at hz
  split at hz
  next y r hs =>
    split at hz
    next hB =>
      obtain ⟨w, s, rfl, h1, h3⟩ := aSk_1 (hs ▸ hc.2.2.1)
      obtain ⟨y0, rfl⟩ := aG_lng (aTy_ok hc.1 hB h1)
      obtain ⟨p9, m1, m2, m3, m4⟩ := hc.2.2.2.1
      have h9 := aPr_ok hc.1 m3 hz (aVa_p (aVa_k (-1)) (aLi_ok hc.1 h1))
      have hn : ¬ y0 = 0 := by
        intro q
        subst q
        replace h9 : 0 ≤ -1 + (0 : Int64).toInt := h9
        have h6 : (0 : Int64).toInt = 0 := by decide
        omega
      unfold jl2 at h ⊢
      split at h
      next heq =>
        cases heq
        exact ⟨hn, h⟩
      next => exact h.elim
    next => cases hz
  next => cases hz
noncomputable def aLneg (S : aS) (p : Nat) : Option (List (Nat × aS)) := match S.2.1 with
  | x :: r => (match aTy S.2.2.1 x with
    | some (.inr none) => some [(p, aPu S r (.inr none) (aGl S.2.2.1 (aFm (-1) (aLi S.2.2.1 x))))]
    | _ => none)
  | _ => none
theorem aLneg_ok {S : aS} {p : Nat} {L : List (Nat × aS)} (hb : aLneg S p = some L) {ρ : List jv} {lv : List (Option jv)} {st : List jv} {σ : Nat → jcell} (hc : aCx F Hp K n S ρ lv st σ) (h : aNx F Hp K n J ρ L) : jl1 st fun x r => J p lv (.inr (.inl (-x)) :: r) σ := by
  unfold aLneg at hb
  split at hb
  next x r hs =>
    split at hb
    next hA =>
      cases hb
      obtain ⟨v, s, rfl, h1, h3⟩ := aSk_1 (hs ▸ hc.2.2.1)
      obtain ⟨x0, rfl⟩ := aG_lng (aTy_ok hc.1 hA h1)
      exact aPu_ok (t := .inr none) (v := .inr (.inl (-x0))) hc h3 trivial (aGl_ok hc.1 (aVa_m (-1) (aLi_ok hc.1 h1)) (by rw [Int64.toInt_neg]; congr 1; show _ = -1 * x0.toInt; omega)) h
    next => cases hb
  next => cases hb
noncomputable def aBi (S : aS) (p : Nat) : Option (List (Nat × aS)) := match S.2.1 with
  | y :: x :: r => (match aTy S.2.2.1 x, aTy S.2.2.1 y with
    | some (.inr none), some (.inl _) => some [(p, aPu S r (.inr none) none)]
    | _, _ => none)
  | _ => none
theorem aBi_ok {g : Int64 → Int32 → Int64} {S : aS} {p : Nat} {L : List (Nat × aS)} (hb : aBi S p = some L) {ρ : List jv} {lv : List (Option jv)} {st : List jv} {σ : Nat → jcell} (hc : aCx F Hp K n S ρ lv st σ) (h : aNx F Hp K n J ρ L) : jli st fun x y r => J p lv (.inr (.inl (g x y)) :: r) σ := by
  unfold aBi at hb
  split at hb
  next y x r hs =>
    split at hb
    next hA hB =>
      cases hb
      obtain ⟨w, v, s, rfl, h1, h2, h3⟩ := aSk_2 (hs ▸ hc.2.2.1)
      obtain ⟨x0, rfl⟩ := aG_lng (aTy_ok hc.1 hA h2)
      obtain ⟨y0, rfl, -⟩ := aG_int (aTy_ok hc.1 hB h1)
      exact aPu_ok (t := .inr none) (r := none) (v := .inr (.inl (g x0 y0))) hc h3 trivial trivial h
    next => cases hb
  next => cases hb
noncomputable def aLc (env : List aE) (D : aF) : Int × Int := (match aLb env D.1 with
    | some s => if 1 ≤ s + D.2 then 1 else if 0 ≤ s + D.2 then 0 else -1
    | none => -1, match aLb env (aSq (-1) D.1) with
    | some s => if D.2 - s ≤ -1 then -1 else if D.2 - s ≤ 0 then 0 else 1
    | none => 1)
theorem aLc_c (x y : Int64) : (x.toInt < y.toInt ∧ (lg_cmp x y).toInt = -1) ∨ (x.toInt = y.toInt ∧ (lg_cmp x y).toInt = 0) ∨ (y.toInt < x.toInt ∧ (lg_cmp x y).toInt = 1) := by
  have e1 : y < x ↔ y.toInt < x.toInt := Int64.lt_iff_toInt_lt
  have e2 : x = y ↔ x.toInt = y.toInt := Int64.toInt_inj.symm
  unfold lg_cmp
  split
  next h => exact Or.inr (Or.inr ⟨e1.mp h, by decide⟩)
  next h =>
    split
    next h2 => exact Or.inr (Or.inl ⟨e2.mp h2, by decide⟩)
    next h2 =>
      refine Or.inl ⟨?_, by decide⟩
      have h3 : ¬ y.toInt < x.toInt := fun q => h (e1.mpr q)
      have h4 : ¬ x.toInt = y.toInt := fun q => h2 (e2.mpr q)
      omega
theorem aLc_ok {env : List aE} {ρ : List jv} (h : aR K n env ρ) {D : aF} {x y : Int64} (hD : aVa ρ D (x.toInt - y.toInt)) : aIn (aLc env D) (lg_cmp x y) := by
  obtain ⟨z, z1, z2⟩ := hD
  have hc := aLc_c x y
  refine ⟨?_, ?_⟩
  · unfold aLc
    dsimp only
    split
    next s hs =>
      have e1 := aLb_ok h hs z1
      split
      · omega
      · split <;> omega
    next => omega
  · unfold aLc
    dsimp only
    split
    next s hs =>
      have e1 := aLb_ok h hs (aSq_ok (c := -1) z1)
      split
      · omega
      · split <;> omega
    next => omega
noncomputable def aLcm (S : aS) (p : Nat) : Option (List (Nat × aS)) := match S.2.1 with
  | y :: x :: r => (match aTy S.2.2.1 x, aTy S.2.2.1 y with
    | some (.inr none), some (.inr none) => some [(p, aPu S r (.inl (aLc S.2.2.1 (aFp (aLi S.2.2.1 x) (aFm (-1) (aLi S.2.2.1 y))))) none)]
    | _, _ => none)
  | _ => none
theorem aLcm_ok {S : aS} {p : Nat} {L : List (Nat × aS)} (hb : aLcm S p = some L) {ρ : List jv} {lv : List (Option jv)} {st : List jv} {σ : Nat → jcell} (hc : aCx F Hp K n S ρ lv st σ) (h : aNx F Hp K n J ρ L) : jl2 st fun x y r => J p lv (.inl (lg_cmp x y) :: r) σ := by
  unfold aLcm at hb
  split at hb
  next y x r hs =>
    split at hb
    next hA hB =>
      cases hb
      obtain ⟨w, v, s, rfl, h1, h2, h3⟩ := aSk_2 (hs ▸ hc.2.2.1)
      obtain ⟨x0, rfl⟩ := aG_lng (aTy_ok hc.1 hA h2)
      obtain ⟨y0, rfl⟩ := aG_lng (aTy_ok hc.1 hB h1)
      have hD : aVa ρ (aFp (aLi S.2.2.1 x) (aFm (-1) (aLi S.2.2.1 y))) (x0.toInt - y0.toInt) := by
        have := aVa_p (aLi_ok hc.1 h2) (aVa_m (-1) (aLi_ok hc.1 h1))
        rwa [show aI (.inr (.inl x0)) + -1 * aI (.inr (.inl y0)) = x0.toInt - y0.toInt by simp only [aI]; omega] at this
      exact aPu_ok (t := .inl (aLc S.2.2.1 (aFp (aLi S.2.2.1 x) (aFm (-1) (aLi S.2.2.1 y))))) (r := none) (v := .inl (lg_cmp x0 y0)) hc h3 (aLc_ok hc.1 hD) trivial h
    next => cases hb
  next => cases hb
noncomputable def aL2i (S : aS) (p : Nat) : Option (List (Nat × aS)) := match S.2.1 with
  | x :: r => (match aTy S.2.2.1 x with
    | some (.inr none) => some [(p, match aF64 S.2.2.1 (aLi S.2.2.1 x) with
      | some A => if aFit3 A.1 A.2 = true then aPu S r (.inl A) (some (aLi S.2.2.1 x)) else aPu S r (.inl a32) none
      | none => aPu S r (.inl a32) none)]
    | _ => none)
  | _ => none
theorem aL2i_ok {S : aS} {p : Nat} {L : List (Nat × aS)} (hb : aL2i S p = some L) {ρ : List jv} {lv : List (Option jv)} {st : List jv} {σ : Nat → jcell} (hc : aCx F Hp K n S ρ lv st σ) (h : aNx F Hp K n J ρ L) : jl1 st fun x r => J p lv (.inl x.toInt32 :: r) σ := by
  unfold aL2i at hb
  split at hb
  next x r hs =>
    split at hb
    next hA =>
      cases hb
      obtain ⟨v, s, rfl, h1, h3⟩ := aSk_1 (hs ▸ hc.2.2.1)
      obtain ⟨x0, rfl⟩ := aG_lng (aTy_ok hc.1 hA h1)
      have hv := aLi_ok hc.1 h1
      split at h
      next A hA2 =>
        split at h
        next hf =>
          simp only [aFit3, Bool.and_eq_true, decide_eq_true_eq] at hf
          obtain ⟨a1, a2, -, -⟩ := aF64_ok hc.1 hA2 hv
          have e : x0.toInt32.toInt = x0.toInt := by
            rw [Int64.toInt_toInt32]
            exact Int.bmod_eq_of_le (by show _ ≤ x0.toInt; replace a1 : A.1 ≤ x0.toInt := a1; omega) (by show x0.toInt < _; replace a2 : x0.toInt ≤ A.2 := a2; omega)
          exact aPu_ok (t := .inl A) (v := .inl x0.toInt32) hc h3 ⟨by rw [e]; exact a1, by rw [e]; exact a2⟩ (by show aVa ρ _ x0.toInt32.toInt; rw [e]; exact hv) h
        next => exact aPu_ok (t := .inl a32) (v := .inl x0.toInt32) (r := none) hc h3 (aIn_32 _) trivial h
      next => exact aPu_ok (t := .inl a32) (v := .inl x0.toInt32) (r := none) hc h3 (aIn_32 _) trivial h
    next => cases hb
  next => cases hb
/-- a quotient or a rest: what is divided by is not zero -/
noncomputable def aNz (S : aS) : Bool := match S.2.1 with
  | y :: _ => (match aIv S.2.2.1 y with
    | some B => decide (1 ≤ B.1) || decide (B.2 ≤ -1)
    | _ => false)
  | _ => false
theorem aNz_ok {S : aS} (hz : aNz S = true) {ρ : List jv} {lv : List (Option jv)} {st : List jv} {σ : Nat → jcell} (hc : aCx F Hp K n S ρ lv st σ) {Q : Int32 → Int32 → List jv → Prop} (h : j2 st Q) : j2 st fun x y r => ¬ y = 0 ∧ Q x y r := by
  unfold aNz at hz
  split at hz
  next y r hs =>
    split at hz
    next B hB =>
      obtain ⟨w, s, rfl, h1, h3⟩ := aSk_1 (hs ▸ hc.2.2.1)
      obtain ⟨y0, rfl, hy⟩ := aIv_ok hc.1 hB h1
      simp only [Bool.or_eq_true, decide_eq_true_eq] at hz
      have hn : ¬ y0 = 0 := by
        intro q
        subst q
        obtain ⟨h4, h5⟩ := hy
        have h6 : (0 : Int32).toInt = 0 := by decide
        omega
      unfold j2 at h ⊢
      split at h
      next heq =>
        cases heq
        exact ⟨hn, h⟩
      next => exact h.elim
    next => cases hz
  next => cases hz
/-! the stack turned -/
noncomputable def aC1 (env : List aE) (i : Nat) : Bool := match aTy env i with
  | some (.inl _) => true
  | some (.inr (some _)) => true
  | _ => false
theorem aC1_ok {env : List aE} {ρ : List jv} (h : aR K n env ρ) {i : Nat} (hc : aC1 env i = true) {v : jv} (hv : ρ[i]? = some v) : jcat v = 1 := by
  unfold aC1 at hc
  split at hc
  next q hq => obtain ⟨x, rfl, -⟩ := aG_int (aTy_ok h hq hv); rfl
  next q hq =>
    have h9 := aTy_ok h hq hv
    rcases v with x | x | x
    · rfl
    · rcases q with q | q <;> exact h9.elim
    · rfl
  next => cases hc
noncomputable def aDup (S : aS) (w p : Nat) : Option (List (Nat × aS)) := match w, S.2.1 with
  | 0, x :: r => if aC1 S.2.2.1 x = true then some [(p, (S.1, x :: x :: r, S.2.2.1, S.2.2.2))] else none
  | 1, x :: r => if aC1 S.2.2.1 x = true then some [(p, (S.1, r, S.2.2.1, S.2.2.2))] else none
  | 2, x :: y :: r => if aC1 S.2.2.1 x = true ∧ aC1 S.2.2.1 y = true then some [(p, (S.1, x :: y :: x :: r, S.2.2.1, S.2.2.2))] else none
  | 3, x :: y :: z :: r => if aC1 S.2.2.1 x = true ∧ aC1 S.2.2.1 y = true ∧ aC1 S.2.2.1 z = true then some [(p, (S.1, x :: y :: z :: x :: r, S.2.2.1, S.2.2.2))] else none
  | 4, x :: y :: r => if aC1 S.2.2.1 x = true ∧ aC1 S.2.2.1 y = true then some [(p, (S.1, x :: y :: x :: y :: r, S.2.2.1, S.2.2.2))] else none
  | _, _ => none
theorem aDup0_ok {S : aS} {p : Nat} {L : List (Nat × aS)} (hb : aDup S 0 p = some L) {ρ : List jv} {lv : List (Option jv)} {st : List jv} {σ : Nat → jcell} (hc : aCx F Hp K n S ρ lv st σ) (h : aNx F Hp K n J ρ L) : jdup st fun v r => J p lv (v :: v :: r) σ := by
  obtain ⟨al, sk, env, ca⟩ := S
  rcases sk with _ | ⟨x, r⟩
  · cases hb
  · obtain ⟨v, s, rfl, h1, h3⟩ := aSk_1 hc.2.2.1
    simp only [aDup] at hb
    split at hb
    next hq =>
      cases hb
      exact ⟨aC1_ok hc.1 hq h1, aNx_in h List.mem_cons_self aX_rf ⟨hc.1, hc.2.1, ⟨h1, h1, h3⟩, hc.2.2.2.1, hc.2.2.2.2⟩⟩
    next => cases hb
theorem aDup1_ok {S : aS} {p : Nat} {L : List (Nat × aS)} (hb : aDup S 1 p = some L) {ρ : List jv} {lv : List (Option jv)} {st : List jv} {σ : Nat → jcell} (hc : aCx F Hp K n S ρ lv st σ) (h : aNx F Hp K n J ρ L) : jdup st fun _ r => J p lv r σ := by
  obtain ⟨al, sk, env, ca⟩ := S
  rcases sk with _ | ⟨x, r⟩
  · cases hb
  · obtain ⟨v, s, rfl, h1, h3⟩ := aSk_1 hc.2.2.1
    simp only [aDup] at hb
    split at hb
    next hq =>
      cases hb
      exact ⟨aC1_ok hc.1 hq h1, aNx_in h List.mem_cons_self aX_rf ⟨hc.1, hc.2.1, h3, hc.2.2.2.1, hc.2.2.2.2⟩⟩
    next => cases hb
theorem aDup2_ok {S : aS} {p : Nat} {L : List (Nat × aS)} (hb : aDup S 2 p = some L) {ρ : List jv} {lv : List (Option jv)} {st : List jv} {σ : Nat → jcell} (hc : aCx F Hp K n S ρ lv st σ) (h : aNx F Hp K n J ρ L) : jdupx st fun v w r => J p lv (v :: w :: v :: r) σ := by
  obtain ⟨al, sk, env, ca⟩ := S
  rcases sk with _ | ⟨x, _ | ⟨y, r⟩⟩
  · cases hb
  · cases hb
  · obtain ⟨v, w, s, rfl, h1, h2, h3⟩ := aSk_2 hc.2.2.1
    simp only [aDup] at hb
    split at hb
    next hq =>
      cases hb
      exact ⟨aC1_ok hc.1 hq.1 h1, aC1_ok hc.1 hq.2 h2, aNx_in h List.mem_cons_self aX_rf ⟨hc.1, hc.2.1, ⟨h1, h2, h1, h3⟩, hc.2.2.2.1, hc.2.2.2.2⟩⟩
    next => cases hb
theorem aDup3_ok {S : aS} {p : Nat} {L : List (Nat × aS)} (hb : aDup S 3 p = some L) {ρ : List jv} {lv : List (Option jv)} {st : List jv} {σ : Nat → jcell} (hc : aCx F Hp K n S ρ lv st σ) (h : aNx F Hp K n J ρ L) : jdupx2 st fun v w z r => J p lv (v :: w :: z :: v :: r) σ := by
  obtain ⟨al, sk, env, ca⟩ := S
  rcases sk with _ | ⟨x, _ | ⟨y, _ | ⟨z, r⟩⟩⟩
  · cases hb
  · cases hb
  · cases hb
  · obtain ⟨v, w, s, rfl, h1, h2, h3⟩ := aSk_2 hc.2.2.1
    obtain ⟨u, s, rfl, h4, h5⟩ := aSk_1 h3
    simp only [aDup] at hb
    split at hb
    next hq =>
      cases hb
      exact ⟨aC1_ok hc.1 hq.1 h1, aC1_ok hc.1 hq.2.1 h2, aC1_ok hc.1 hq.2.2 h4, aNx_in h List.mem_cons_self aX_rf ⟨hc.1, hc.2.1, ⟨h1, h2, h4, h1, h5⟩, hc.2.2.2.1, hc.2.2.2.2⟩⟩
    next => cases hb
theorem aDup4_ok {S : aS} {p : Nat} {L : List (Nat × aS)} (hb : aDup S 4 p = some L) {ρ : List jv} {lv : List (Option jv)} {st : List jv} {σ : Nat → jcell} (hc : aCx F Hp K n S ρ lv st σ) (h : aNx F Hp K n J ρ L) : jdup2 st fun r => J p lv r σ := by
  obtain ⟨al, sk, env, ca⟩ := S
  rcases sk with _ | ⟨x, _ | ⟨y, r⟩⟩
  · cases hb
  · cases hb
  · obtain ⟨v, w, s, rfl, h1, h2, h3⟩ := aSk_2 hc.2.2.1
    simp only [aDup] at hb
    split at hb
    next hq =>
      cases hb
      have c1 := aC1_ok hc.1 hq.1 h1
      have hj := aNx_in (st := v :: w :: v :: w :: s) h List.mem_cons_self aX_rf ⟨hc.1, hc.2.1, ⟨h1, h2, h1, h2, h3⟩, hc.2.2.2.1, hc.2.2.2.2⟩
      rcases v with x0 | x0 | x0
      · exact ⟨c1, aC1_ok hc.1 hq.2 h2, hj⟩
      · cases c1
      · exact ⟨c1, aC1_ok hc.1 hq.2 h2, hj⟩
    next => cases hb
end ASV
end
section
/-! the picture: kinds of cells, rows read and written, fields read and written -/
noncomputable def aFs (K : Nat → Nat) (n : Nat) (ts : List aT) (fs : List jv) : Prop := fs.length = ts.length ∧ ∀ (f : Nat) (t : aT) (v : jv), ts[f]? = some t → fs[f]? = some v → aG K n t v
noncomputable def aEl (R : List (Nat × Nat × Int × Int × Int)) (i : Nat) (x : Int32) : Prop := ∀ q ∈ R, q.1 ≤ i → i < q.2.1 → 0 ≤ q.2.2.1 * (i : Int) + q.2.2.2.1 * x.toInt + q.2.2.2.2
noncomputable def aCe (K : Nat → Nat) (n : Nat) (d : aKd) (c : jcell) : Prop := match d, c with
  | .inl q, .inl (t, m, .inl g) => t = q.1 ∧ m = q.2.1 ∧ ¬ q.1 = .long ∧ ∀ i, i < q.2.1 → aIn q.2.2.1 (g i) ∧ aEl q.2.2.2 i (g i)
  | .inl q, .inl (t, m, .inr (.inl _)) => t = q.1 ∧ m = q.2.1 ∧ q.1 = .long
  | .inr q, .inr (c, fs) => c = q.1 ∧ aFs K n q.2 fs
  | _, _ => False
noncomputable def aH (T : List aKd) (K : Nat → Nat) (n : Nat) (σ : Nat → jcell) : Prop := ∀ a, a < n → ∀ d, T[K a]? = some d → aCe K n d (σ a)
noncomputable def aFr (K : Nat → Nat) (n : Nat) (md : List (Nat × Nat)) (σ0 σ : Nat → jcell) : Prop := ∀ (a : Nat), a < n → ∀ (c : Nat) (fs : List jv), σ0 a = .inr (c, fs) → ∃ fs' : List jv, σ a = .inr (c, fs') ∧ fs'.length = fs.length ∧ ∀ (f : Nat) (v : jv), fs[f]? = some v → ¬ (K a, f) ∈ md → fs'[f]? = some v
/-- rows: kinds that are not named keep all cells, the others those below a bound -/
noncomputable def aFw (K : Nat → Nat) (mk : List (Nat × aF)) (ρ0 : List jv) (a i : Nat) : Prop := ∀ q ∈ mk, q.1 = K a → ∃ z, aVa ρ0 q.2 z ∧ (i : Int) < z
noncomputable def aFa (K : Nat → Nat) (n : Nat) (mk : List (Nat × aF)) (ρ0 : List jv) (σ0 σ : Nat → jcell) : Prop := ∀ (a : Nat), a < n → (∀ (ty : FieldType) (m : Nat) (g : Nat → Int32), σ0 a = .inl (ty, m, .inl g) → ∃ g', σ a = .inl (ty, m, .inl g') ∧ ∀ i, aFw K mk ρ0 a i → g' i = g i) ∧ (∀ (ty : FieldType) (m : Nat) (g : Nat → Int64), σ0 a = .inl (ty, m, .inr (.inl g)) → ∃ g', σ a = .inl (ty, m, .inr (.inl g')) ∧ ∀ i, aFw K mk ρ0 a i → g' i = g i)
abbrev aCf : Type := List aKd × List (FieldType × Nat × (Int × Int) × List Int) × List Nat × List (Nat × Nat) × List (Nat × aF) × List (List (Nat × List Nat × Option aF)) × Nat
noncomputable def aHp (C : aCf) (K : Nat → Nat) (n : Nat) (JX : (Nat → jcell) → Prop) (ρ0 : List jv) (σ0 σ : Nat → jcell) : Prop := aH C.1 K n σ ∧ JX σ ∧ aFr K n C.2.2.2.1 σ0 σ ∧ aFa K n C.2.2.2.2.1 ρ0 σ0 σ
noncomputable def aIsR (v : jv) : Prop := ∃ o, v = .inr (.inr o)
/-- what stores keep: cells of the kinds Pk are not written, but for fields that hold no reference -/
noncomputable def aJx (K : Nat → Nat) (n : Nat) (Pk : List Nat) (JX : (Nat → jcell) → Prop) : Prop := ∀ (σ : Nat → jcell) (a : Nat), a < n → JX σ → (∀ x : jcell, ¬ K a ∈ Pk → JX (jup σ a x)) ∧ (∀ (c : Nat) (fs : List jv) (f : Nat) (u v : jv), σ a = .inr (c, fs) → fs[f]? = some u → ¬ aIsR u → ¬ aIsR v → JX (jup σ a (.inr (c, fs.set f v))))
noncomputable def aNr (t : aT) : Bool := match t with
  | .inl _ => true
  | .inr none => true
  | _ => false
theorem aNr_ok {K : Nat → Nat} {n : Nat} {t : aT} {v : jv} (h : aNr t = true) (hg : aG K n t v) : ¬ aIsR v := by
  rintro ⟨o, rfl⟩
  unfold aNr at h
  split at h
  · obtain ⟨x, e, -⟩ := aG_int hg
    cases e
  · obtain ⟨x, e⟩ := aG_lng hg
    cases e
  · cases h
/-- a fact looks at the kinds of its row alone: of an object at some fields, of a row at all or at what lies below a bound -/
abbrev aDe : Type := Nat × List Nat × Option aF
noncomputable def aSm (vs : List jv) (q : aDe) (c c' : jcell) : Prop := c' = c ∨ (∃ (k : Nat) (fs fs' : List jv), c = .inr (k, fs) ∧ c' = .inr (k, fs') ∧ fs'.length = fs.length ∧ ∀ f ∈ q.2.1, fs'[f]? = fs[f]?) ∨ (∃ (ty : FieldType) (m : Nat) (g g' : Nat → Int32) (f : aF) (z : Int), q.2.2 = some f ∧ aVa vs f z ∧ c = .inl (ty, m, .inl g) ∧ c' = .inl (ty, m, .inl g') ∧ ∀ i : Nat, (i : Int) < z → g' i = g i)
/-- numbers of facts from 65536 on: what will hold behind a store into a row; from 131072 on: behind a store into a field -/
noncomputable def aDg (dep : List (List aDe)) (r : Nat) : List aDe := if r < 65536 then dep.getD (r / 16) [] else (dep.getD (r / 16 % 4096) []).map (fun e => (e.1, e.2.1, none))
noncomputable def aDl (dep : List (List aDe)) (r : Nat) : Bool := decide (r / 16 % 4096 < dep.length)
noncomputable def jsto (c : jcell) (i : Nat) (x : Int32) : jcell := match c with
  | .inl (ty, m, .inl g) => .inl (ty, m, .inl (upd g i x))
  | c => c
noncomputable def jstl (c : jcell) (i : Nat) (x : Int64) : jcell := match c with
  | .inl (ty, m, .inr (.inl g)) => .inl (ty, m, .inr (.inl (vp_updL g i x)))
  | c => c
noncomputable def jstf (c : jcell) (f : Nat) (v : jv) : jcell := match c with
  | .inr (k, fs) => .inr (k, fs.set f v)
  | c => c
noncomputable def aPd {P : Type} (F : aFt P) : Prop := (∀ (p : P) (r a : Nat) (x y : Int32) (vs : List jv) (σ : Nat → jcell), ¬ r = 0 → r < 65533 → F p (r + 65539) (.inr (.inr (some (.inl a))) :: .inl x :: .inl y :: vs) σ → F p r vs (jup σ a (jsto (σ a) x.toNatClampNeg y))) ∧ (∀ (p : P) (r a f : Nat) (y : jv) (vs : List jv) (σ : Nat → jcell), ¬ r = 0 → r < 65534 → F p (r + 131072 * (f + 1) + 2) (.inr (.inr (some (.inl a))) :: y :: vs) σ → F p r vs (jup σ a (jstf (σ a) f y))) ∧ (∀ (p : P) (r a : Nat) (x : Int32) (y : Int64) (vs : List jv) (σ : Nat → jcell), ¬ r = 0 → r < 65533 → F p (r + 65539) (.inr (.inr (some (.inl a))) :: .inl x :: .inr (.inl y) :: vs) σ → F p r vs (jup σ a (jstl (σ a) x.toNatClampNeg y)))
/-- what an operation gives -/
noncomputable def aOv (o : Nat) (x y c : jv) : Prop := match x, y with
  | .inr (.inl a), .inr (.inl b) => (match o with
    | 0 => c = .inr (.inl (a ||| b))
    | 1 => c = .inr (.inl (a &&& b))
    | 4 => c = .inl (lg_cmp a b)
    | 5 => c = .inr (.inl (a * b))
    | 6 => ¬ b = 0 ∧ c = .inr (.inl (a / b))
    | 7 => ¬ b = 0 ∧ c = .inr (.inl (a - a / b * b))
    | 8 => c = .inr (.inl (a + b))
    | 9 => c = .inr (.inl (a - b))
    | _ => False)
  | .inr (.inl a), .inl b => (match o with
    | 2 => c = .inr (.inl (a <<< (b.toInt64 &&& 63)))
    | 3 => c = .inr (.inl (a >>> (b.toInt64 &&& 63)))
    | _ => False)
  | .inl a, .inl b => (match o with
    | 10 => c = .inl (a * b)
    | 11 => c = .inl (a &&& b)
    | 12 => c = .inl (a ||| b)
    | 13 => c = .inl (a <<< (b &&& 31))
    | 14 => c = .inl (a >>> (b &&& 31))
    | 15 => ¬ b = 0 ∧ c = .inl (a - a / b * b)
    | 16 => ¬ b = 0 ∧ c = .inl (a / b)
    | 17 => c = .inl (a ^^^ b)
    | _ => False)
  | _, _ => False
/-- facts of operations: on where the list begins with this mark -/
noncomputable def aOm (dep : List (List aDe)) : Bool := match dep with
  | (q :: _) :: _ => decide (q.2.1 = [77777])
  | _ => false
noncomputable def aOc {P : Type} (F : aFt P) (dep : List (List aDe)) : Prop := aOm dep = true → ∀ (p : P) (o : Nat) (x y c : jv) (σ : Nat → jcell), aOv o x y c → F p (16 * (100 + o) + 3) [x, y, c] σ
noncomputable def aDp {P : Type} (F : aFt P) (K : Nat → Nat) (n : Nat) (dep : List (List aDe)) : Prop := (∀ (p : P) (r : Nat) (vs : List jv) (σ σ' : Nat → jcell), aDl dep r = true → (∀ a, a < n → ∀ q ∈ aDg dep r, q.1 = K a → aSm vs q (σ a) (σ' a)) → F p r vs σ → F p r vs σ') ∧ aPd F ∧ aOc F dep
/-- the facts that a store brings -/
noncomputable def aPnd (a i x : Nat) (q : Nat × List Nat) : Option (Nat × List Nat) := if 65539 < q.1 ∧ q.1 < 131072 then (match q.2 with
  | a' :: i' :: x' :: r => if a' = a ∧ i' = i ∧ x' = x then some (q.1 - 65539, r) else none
  | _ => none) else none
noncomputable def aPnf (o f v : Nat) (q : Nat × List Nat) : Option (Nat × List Nat) := if 131072 * (f + 1) + 2 < q.1 ∧ q.1 < 131072 * (f + 1) + 65536 then (match q.2 with
  | o' :: v' :: r => if o' = o ∧ v' = v then some (q.1 - (131072 * (f + 1) + 2), r) else none
  | _ => none) else none
noncomputable def aTB (TB : List (FieldType × Nat × (Int × Int) × List Int)) (tb : jTb) : Prop := ∀ (j : Nat) (q : FieldType × Nat × (Int × Int) × List Int), TB[j]? = some q → ∃ (s1 s2 s3 : String) (g : Nat → Int32), tb j = some (s1, s2, s3, q.1, q.2.1, g) ∧ (∀ i, i < q.2.1 → aIn q.2.2.1 (g i)) ∧ (List.range q.2.2.2.length).all (fun i => decide ((g i).toInt = q.2.2.2.getD i 0)) = true
theorem aCe_arr {K : Nat → Nat} {n : Nat} {q : FieldType × Nat × (Int × Int) × List (Nat × Nat × Int × Int × Int)} {c : jcell} (h : aCe K n (.inl q) c) (hq : ¬ q.1 = .long) : ∃ g, c = .inl (q.1, q.2.1, .inl g) ∧ ∀ i, i < q.2.1 → aIn q.2.2.1 (g i) ∧ aEl q.2.2.2 i (g i) := by
  rcases c with ⟨t, m, g | g | g⟩ | ⟨c, fs⟩
  · obtain ⟨rfl, rfl, -, h⟩ := h; exact ⟨g, rfl, h⟩
  · obtain ⟨-, -, h⟩ := h; exact absurd h hq
  · exact h.elim
  · exact h.elim
theorem aCe_larr {K : Nat → Nat} {n : Nat} {q : FieldType × Nat × (Int × Int) × List (Nat × Nat × Int × Int × Int)} {c : jcell} (h : aCe K n (.inl q) c) (hq : q.1 = .long) : ∃ g, c = .inl (q.1, q.2.1, .inr (.inl g)) := by
  rcases c with ⟨t, m, g | g | g⟩ | ⟨c, fs⟩
  · obtain ⟨-, -, h, -⟩ := h; exact absurd hq h
  · obtain ⟨rfl, rfl, h⟩ := h; exact ⟨g, rfl⟩
  · exact h.elim
  · exact h.elim
theorem aCe_obj {K : Nat → Nat} {n : Nat} {q : Nat × List aT} {c : jcell} (h : aCe K n (.inr q) c) : ∃ fs, c = .inr (q.1, fs) ∧ aFs K n q.2 fs := by
  rcases c with ⟨t, m, g | g | g⟩ | ⟨c, fs⟩
  · exact h.elim
  · exact h.elim
  · exact h.elim
  · obtain ⟨rfl, h⟩ := h; exact ⟨fs, rfl, h⟩
theorem aH_up {T : List aKd} {K : Nat → Nat} {n : Nat} {σ : Nat → jcell} (h : aH T K n σ) {a : Nat} {x : jcell} (hx : ∀ d, T[K a]? = some d → aCe K n d x) : aH T K n (jup σ a x) := by
  intro b hb d hd
  by_cases e : b = a
  · subst e; rw [jup_s]; exact hx d hd
  · rw [jup_n e]; exact h b hb d hd
theorem aFr_arr {K : Nat → Nat} {n : Nat} {md : List (Nat × Nat)} {σ0 σ : Nat → jcell} (h : aFr K n md σ0 σ) {a : Nat} {y z : FieldType × vp_A} (hy : σ a = .inl y) : aFr K n md σ0 (jup σ a (.inl z)) := by
  intro b hb c fs h0
  obtain ⟨fs', h1, h2⟩ := h b hb c fs h0
  refine ⟨fs', ?_, h2⟩
  by_cases e : b = a
  · subst e; rw [hy] at h1; cases h1
  · rw [jup_n e]; exact h1
theorem aCa_arr {ρ : List jv} {σ : Nat → jcell} {cc : List (Nat × Nat × Nat)} (h : aCa ρ σ cc) {a : Nat} {y z : FieldType × vp_A} (hy : σ a = .inl y) : aCa ρ (jup σ a (.inl z)) cc := by
  intro q hq
  obtain ⟨b, c, fs, v, h1, h2, h3, h4⟩ := h q hq
  refine ⟨b, c, fs, v, h1, ?_, h3, h4⟩
  by_cases e : b = a
  · subst e; rw [hy] at h2; cases h2
  · rw [jup_n e]; exact h2
theorem aIx_ok {A : Int × Int} {i : Int32} {len : Nat} (h : aIn A i) (h1 : 0 ≤ A.1) (h2 : A.2 < (len : Int)) : vp_in i len ∧ i.toNatClampNeg < len := by
  obtain ⟨a1, a2⟩ := h
  have e : i.toNatClampNeg = i.toInt.toNat := rfl
  have e2 : ¬ i < 0 := by
    rw [Int32.lt_iff_toInt_lt]
    have : (0 : Int32).toInt = 0 := by decide
    omega
  have e3 : i.toNatClampNeg < len := by omega
  exact ⟨fun q => q.elim e2 (fun q => by omega), e3⟩
/-- the range of what a row of a type keeps -/
noncomputable def aRg (ty : FieldType) : Int × Int := match ty with
  | .int => a32
  | .byte => (-128, 127)
  | .boolean => (0, 1)
  | .char => (0, 65535)
  | _ => (1, 0)
theorem aRg_ok {ty : FieldType} {x : Int32} (h : aIn (aRg ty) x) : vp_nar ty x = x := by
  cases ty
  case int => rfl
  case byte =>
    obtain ⟨h1, h2⟩ := h
    show x.toInt8.toInt32 = x
    rw [← Int32.toInt_inj, Int8.toInt_toInt32, Int32.toInt_toInt8]
    dsimp only [aRg] at h1 h2
    exact Int.bmod_eq_of_le (by omega) (by omega)
  case boolean =>
    obtain ⟨h1, h2⟩ := h
    dsimp only [aRg] at h1 h2
    show x &&& 1 = x
    have e : x.toInt = 0 ∨ x.toInt = 1 := by omega
    rcases e with e | e
    · rw [aYc (y := x) (c := 0) (by rw [e]; rfl)]; decide
    · rw [aYc (y := x) (c := 1) (by rw [e]; rfl)]; decide
  case char =>
    obtain ⟨h1, h2⟩ := h
    dsimp only [aRg] at h1 h2
    obtain ⟨e1, e2⟩ := aNat (x := x) h1
    show x.toUInt32.toUInt16.toUInt32.toInt32 = x
    rw [← Int32.toBitVec_inj]
    apply BitVec.eq_of_toNat_eq
    show x.toUInt32.toUInt16.toUInt32.toNat = x.toBitVec.toNat
    rw [UInt16.toNat_toUInt32, UInt32.toNat_toUInt16]
    show x.toBitVec.toNat % 65536 = _
    omega
  all_goals
    obtain ⟨h1, h2⟩ := h
    dsimp only [aRg] at h1 h2
    exfalso
    omega
noncomputable def aSb (A B : Int × Int) : Bool := decide (B.1 ≤ A.1) && decide (A.2 ≤ B.2)
theorem aSb_ok {A B : Int × Int} (h : aSb A B = true) {x : Int32} (hx : aIn A x) : aIn B x := by
  simp only [aSb, Bool.and_eq_true, decide_eq_true_eq] at h
  obtain ⟨h1, h2⟩ := hx
  exact ⟨by omega, by omega⟩
noncomputable def aLe (t t' : aT) : Bool := match t, t' with
  | .inl A, .inl B => aSb A B
  | .inr none, .inr none => true
  | .inr (some (.inl q)), .inr (some (.inl q')) => (Nat.beq q.2 q'.2 || Nat.beq q'.2 99999) && (!q.1 || q'.1)
  | .inr (some (.inr i)), .inr (some (.inr j)) => decide ((aRj j).1 ≤ (aRj i).1) && decide ((aRj i).2 ≤ (aRj j).2)
  | _, _ => false
theorem aLe_ok {K : Nat → Nat} {n : Nat} {t t' : aT} (h : aLe t t' = true) {v : jv} (hv : aG K n t v) : aG K n t' v := by
  unfold aLe at h
  split at h
  · obtain ⟨x, rfl, hx⟩ := aG_int hv; exact aSb_ok h hx
  · exact hv
  · next q q' =>
    simp only [Bool.and_eq_true, decide_eq_true_eq, Bool.or_eq_true] at h
    rcases aG_ref hv with ⟨e, rfl⟩ | ⟨a, rfl, h1, h2⟩
    · rcases h.2 with h3 | h3
      · rw [e] at h3; cases h3
      · exact h3
    · refine ⟨h1, ?_⟩
      rcases h.1 with h3 | h3
      · rw [← Nat.eq_of_beq_eq_true h3]; exact h2
      · exact Or.inr (Nat.eq_of_beq_eq_true h3)
  · simp only [Bool.and_eq_true, decide_eq_true_eq] at h
    obtain ⟨i, rfl, h1, h2⟩ := aG_rng hv
    exact ⟨by omega, by omega⟩
  · cases h
/-! names of a state put into another: values, forms -/
noncomputable def aVal (ρ : List jv) (m : List Nat) : List jv := m.map (fun k => ρ.getD k (.inl 0))
theorem aVal_at {ρ : List jv} {m : List Nat} {i k : Nat} {v : jv} (h : m[i]? = some k) (hv : ρ[k]? = some v) : (aVal ρ m)[i]? = some v := by
  unfold aVal
  rw [List.getElem?_map, h]
  simp [List.getD, hv]
theorem aVal_in {ρ : List jv} {m : List Nat} {i k : Nat} {v : jv} (h : m[i]? = some k) (hk : k < ρ.length) (hv : (aVal ρ m)[i]? = some v) : ρ[k]? = some v := by
  rw [aVal_at h (List.getElem?_eq_getElem hk)] at hv
  rw [List.getElem?_eq_getElem hk]
  exact hv
noncomputable def aSu (env : List aE) (m : List Nat) : List (Nat × Int) → Option aF
  | [] => some ([], 0)
  | q :: r => match m[q.1]?, aSu env m r with
    | some k, some f => some (aFp (aFm q.2 (aLi env k)) f)
    | _, _ => none
noncomputable def aSb2 (env : List aE) (m : List Nat) (f : aF) : Option aF := match aSu env m f.1 with
  | some g => some (g.1, g.2 + f.2)
  | none => none
noncomputable def aWm (ρ : List jv) (m : List Nat) : Prop := ∀ (i k : Nat), m[i]? = some k → k < ρ.length
theorem aSu_ok {K : Nat → Nat} {n : Nat} {env : List aE} {ρ : List jv} (h : aR K n env ρ) {m : List Nat} (hm : aWm ρ m) : ∀ {f : List (Nat × Int)} {g : aF}, aSu env m f = some g → ∃ z, aEv (aVal ρ m) f = some z ∧ aVa ρ g z
  | [], g, hg => by cases hg; exact ⟨0, rfl, aVa_k 0⟩
  | q :: r, g, hg => by
    unfold aSu at hg
    split at hg
    next k f1 hk hf1 =>
      cases hg
      obtain ⟨z, z1, z2⟩ := aSu_ok h hm hf1
      have hv : ρ[k]? = some (ρ[k]'(hm _ _ hk)) := List.getElem?_eq_getElem (hm _ _ hk)
      exact ⟨_, aEv_i (aVal_at hk hv) z1, aVa_p (aVa_m q.2 (aLi_ok h hv)) z2⟩
    next => cases hg
theorem aSb2_ok {K : Nat → Nat} {n : Nat} {env : List aE} {ρ : List jv} (h : aR K n env ρ) {m : List Nat} (hm : aWm ρ m) {f g : aF} (hg : aSb2 env m f = some g) : ∃ z, aVa (aVal ρ m) f z ∧ aVa ρ g z := by
  unfold aSb2 at hg
  split at hg
  next g1 h1 =>
    cases hg
    obtain ⟨z, z1, z2, z3, z4⟩ := aSu_ok h hm h1
    exact ⟨z + f.2, ⟨z, z1, rfl⟩, ⟨z2, z3, by dsimp only; omega⟩⟩
  next => cases hg
theorem aVal_rg {ρ ρ0 : List jv} (hx : aX ρ0 ρ) : aVal ρ (List.range ρ0.length) = ρ0 := by
  apply List.ext_getElem?
  intro i
  by_cases hi : i < ρ0.length
  · have hv : ρ0[i]? = some ρ0[i] := List.getElem?_eq_getElem hi
    rw [hv]
    exact aVal_at (k := i) (by rw [List.getElem?_range hi]) (hx _ _ hv)
  · rw [show ρ0[i]? = none from List.getElem?_eq_none (by omega)]
    apply List.getElem?_eq_none
    unfold aVal
    simp
    omega
theorem aWm_rg {ρ ρ0 : List jv} (hx : aX ρ0 ρ) : aWm ρ (List.range ρ0.length) := fun i k h => by
  have h2 := List.getElem?_eq_some_iff.mp h
  obtain ⟨h3, h4⟩ := h2
  simp at h3 h4
  subst h4
  exact (List.getElem?_eq_some_iff.mp (hx _ _ (List.getElem?_eq_getElem h3))).1
section ASH
variable {K : Nat → Nat} {n : Nat} {P : Type} {F : aFt P} {J : jN} {C : aCf} {tb : jTb} {JX : (Nat → jcell) → Prop} {ρ0 : List jv} {σ0 : Nat → jcell} {T : List aKd}
noncomputable def aTx (env : List aE) (i : Nat) : Option aT := match aIv env i with
  | some A => some (.inl A)
  | none => aTy env i
theorem aTx_ok {env : List aE} {ρ : List jv} (h : aR K n env ρ) {i : Nat} {t : aT} {v : jv} (ht : aTx env i = some t) (hv : ρ[i]? = some v) : aG K n t v := by
  unfold aTx at ht
  split at ht
  next A hA =>
    cases ht
    obtain ⟨x, rfl, hx⟩ := aIv_ok h hA hv
    exact hx
  next => exact aTy_ok h ht hv
theorem aTx_lt {env : List aE} {i : Nat} {t : aT} (ht : aTx env i = some t) : i < env.length := by
  unfold aTx at ht
  split at ht
  next A hA =>
    unfold aIv at hA
    split at hA
    next he => exact (List.getElem?_eq_some_iff.mp he).1
    next he => exact (List.getElem?_eq_some_iff.mp he).1
    next => cases hA
  next =>
    unfold aTy at ht
    split at ht
    next e1 he1 => exact (List.getElem?_eq_some_iff.mp he1).1
    next => cases ht
noncomputable def aLx (env : List aE) (cs : List aF) (i : Nat) (t : aT) : Bool := (match aTx env i with
    | some u => aLe u t
    | none => false) || (match t, aTy env i with
    | .inl B, some (.inl _) => aPr env cs 2 (aFp ([], -B.1) (aLi env i)) && aPr env cs 2 (aFp ([], B.2) (aFm (-1) (aLi env i)))
    | _, _ => false)
theorem aLx_lt {env : List aE} {cs : List aF} {i : Nat} {t : aT} (h : aLx env cs i t = true) : i < env.length := by
  unfold aLx at h
  rw [Bool.or_eq_true] at h
  rcases h with h | h
  · split at h
    next u hu => exact aTx_lt hu
    next => cases h
  · split at h
    next hu =>
      unfold aTy at hu
      split at hu
      next e1 he1 => exact (List.getElem?_eq_some_iff.mp he1).1
      next => cases hu
    next => cases h
theorem aLx_ok {env : List aE} {ρ : List jv} (hR : aR K n env ρ) {cs : List aF} (hcs : ∀ f ∈ cs, aHd ρ f) {i : Nat} {t : aT} (h : aLx env cs i t = true) {v : jv} (hv : ρ[i]? = some v) : aG K n t v := by
  unfold aLx at h
  rw [Bool.or_eq_true] at h
  rcases h with h | h
  · split at h
    next u hu => exact aLe_ok h (aTx_ok hR hu hv)
    next => cases h
  · split at h
    next B A hu =>
      rw [Bool.and_eq_true] at h
      obtain ⟨x, rfl, -⟩ := aG_int (aTy_ok hR hu hv)
      have h1 := aPr_ok hR hcs h.1 (aVa_p (aVa_k _) (aLi_ok hR hv))
      have h2 := aPr_ok hR hcs h.2 (aVa_p (aVa_k _) (aVa_m (-1) (aLi_ok hR hv)))
      replace h1 : 0 ≤ -B.1 + x.toInt := h1
      replace h2 : 0 ≤ B.2 + -1 * x.toInt := h2
      exact ⟨by omega, by omega⟩
    next => cases h
noncomputable def aKi (env : List aE) (o : Nat) : Option Nat := match aTy env o with
  | some (.inr (some (.inl (false, k)))) => if k = 99999 then none else some k
  | _ => none
theorem aKi_ok {env : List aE} {ρ : List jv} (h : aR K n env ρ) {o k : Nat} (hk : aKi env o = some k) {v : jv} (hv : ρ[o]? = some v) : ∃ a, v = .inr (.inr (some (.inl a))) ∧ a < n ∧ K a = k := by
  unfold aKi at hk
  split at hk
  next k1 hq =>
    split at hk
    next => cases hk
    next h9 => cases hk; exact aG_obj h9 (aTy_ok h hq hv)
  next => cases hk
noncomputable def aAr (T : List aKd) (env : List aE) (a : Nat) : Option (Nat × FieldType × Nat × (Int × Int) × List (Nat × Nat × Int × Int × Int)) := match aKi env a with
  | some k => (match T[k]? with
    | some (.inl q) => some (k, q)
    | _ => none)
  | none => none
theorem aAr_ok {env : List aE} {ρ : List jv} (h : aR K n env ρ) {σ : Nat → jcell} (hH : aH T K n σ) {o : Nat} {q : Nat × FieldType × Nat × (Int × Int) × List (Nat × Nat × Int × Int × Int)} (hq : aAr T env o = some q) {v : jv} (hv : ρ[o]? = some v) : ∃ a, v = .inr (.inr (some (.inl a))) ∧ a < n ∧ K a = q.1 ∧ T[K a]? = some (.inl q.2) ∧ aCe K n (.inl q.2) (σ a) := by
  unfold aAr at hq
  split at hq
  next k hk =>
    split at hq
    next d hd =>
      cases hq
      obtain ⟨a, rfl, h1, h2⟩ := aKi_ok h hk hv
      subst h2
      exact ⟨a, rfl, h1, rfl, hd, hH a h1 _ hd⟩
    next => cases hq
  next => cases hq
noncomputable def aTj (TB : List (FieldType × Nat × (Int × Int) × List Int)) (env : List aE) (a : Nat) : Option (FieldType × Nat × (Int × Int) × List Int) := match aTy env a with
  | some (.inr (some (.inr j))) => if j < 1000000 then TB[j]? else none
  | _ => none
noncomputable def aFc2 (cb : List (Nat × aF × Nat)) (a : Nat) (f : aF) : Option Nat := match cb with
  | [] => none
  | q :: r => if q.1 = a ∧ q.2.1 = f then some q.2.2 else aFc2 r a f
theorem aFc2_in : ∀ {cb : List (Nat × aF × Nat)} {a v : Nat} {f : aF}, aFc2 cb a f = some v → (a, f, v) ∈ cb
  | [], _, _, _, h => by cases h
  | q :: r, a, v, f, h => by
    unfold aFc2 at h
    split at h
    next hq =>
      cases h
      obtain ⟨rfl, rfl⟩ := hq
      exact List.mem_cons_self
    next => exact List.mem_cons_of_mem _ (aFc2_in h)
/-- an index is within a row -/
noncomputable def aBd (env : List aE) (cs : List aF) (f : aF) (len : Nat) : Bool := aPr env cs 2 f && (aPr env cs 2 (aFp ([], (len : Int) - 1) (aFm (-1) f)) || aPr env cs 2 (aFp ([], 2 * (len : Int) - 1) (aFm (-2) f)))
theorem aBd_ok {env : List aE} {ρ : List jv} (h : aR K n env ρ) {cs : List aF} (hc : ∀ f ∈ cs, aHd ρ f) {f : aF} {len : Nat} (hb : aBd env cs f len = true) {i : Int32} (hi : aVa ρ f i.toInt) : vp_in i len ∧ i.toNatClampNeg < len ∧ (i.toNatClampNeg : Int) = i.toInt := by
  unfold aBd at hb
  rw [Bool.and_eq_true] at hb
  have h1 := aPr_ok h hc hb.1 hi
  have h2 : i.toInt ≤ (len : Int) - 1 := by
    have hb2 := hb.2
    rw [Bool.or_eq_true] at hb2
    rcases hb2 with hb2 | hb2
    · have := aPr_ok h hc hb2 (aVa_p (aVa_k _) (aVa_m (-1) hi))
      omega
    · have := aPr_ok h hc hb2 (aVa_p (aVa_k _) (aVa_m (-2) hi))
      omega
  have h3 := aIx_ok (A := (0, (len : Int) - 1)) (i := i) (len := len) ⟨h1, by dsimp only; omega⟩ (Int.le_refl _) (by dsimp only; omega)
  refine ⟨h3.1, h3.2, ?_⟩
  have e : i.toNatClampNeg = i.toInt.toNat := rfl
  omega
noncomputable def aRcs (env : List aE) (cs : List aF) (R : List (Nat × Nat × Int × Int × Int)) (f : aF) (k : Nat) : List aF := (R.filter (fun q => aPr env cs 2 (aFp ([], -(q.1 : Int)) f) && aPr env cs 2 (aFp ([], (q.2.1 : Int) - 1) (aFm (-1) f)))).map (fun q => aFp (aFm q.2.2.1 f) ([(k, q.2.2.2.1)], q.2.2.2.2))
/-- what a table holds at a place that is known -/
noncomputable def aTq (q : FieldType × Nat × (Int × Int) × List Int) (A : Option (Int × Int)) : Int × Int := match A with
  | some A => if A.1 = A.2 then (match q.2.2.2[A.1.toNat]? with
    | some v => (v, v)
    | none => q.2.2.1) else q.2.2.1
  | none => q.2.2.1
theorem aTq_ok {q : FieldType × Nat × (Int × Int) × List Int} {env : List aE} {ρ : List jv} (h : aR K n env ρ) {i : Nat} {x : Int32} (hx : ρ[i]? = some (.inl x)) {g : Nat → Int32} (h1 : aIn q.2.2.1 (g x.toNatClampNeg)) (h2 : (List.range q.2.2.2.length).all (fun i => decide ((g i).toInt = q.2.2.2.getD i 0)) = true) : aIn (aTq q (aIv env i)) (g x.toNatClampNeg) := by
  unfold aTq
  split
  next A hA =>
    split
    next e =>
      split
      next v hv =>
        obtain ⟨y, e1, e2⟩ := aIv_ok h hA hx
        cases e1
        have e3 : x.toNatClampNeg = A.1.toNat := by
          have e4 : x.toNatClampNeg = x.toInt.toNat := rfl
          have := e2.1
          have := e2.2
          have e5 : x.toInt = A.1 := by omega
          rw [e4, e5]
        have h3 := (List.getElem?_eq_some_iff.mp hv).1
        have h4 := of_decide_eq_true (List.all_eq_true.mp h2 _ (List.mem_range.mpr h3))
        have h5 : q.2.2.2.getD A.1.toNat 0 = v := by simp [List.getD, hv]
        rw [e3]
        rw [h5] at h4
        exact ⟨by rw [h4]; exact Int.le_refl _, by rw [h4]; exact Int.le_refl _⟩
      next => exact h1
    next => exact h1
  next => exact h1
/-- a row of ints, bytes, chars or booleans is read -/
noncomputable def aAl (C : aCf) (ty : FieldType) (S : aS) (p : Nat) : Option (List (Nat × aS)) := match S.2.1 with
  | i :: a :: r => (match aTy S.2.2.1 i with
    | some (.inl _) => (match aAr C.1 S.2.2.1 a with
      | some q => if decide (q.2.1 = ty) = true ∧ ¬ ty = .long ∧ aBd S.2.2.1 S.2.2.2.2.2.1 (aLi S.2.2.1 i) q.2.2.1 = true then (match aFc2 S.2.2.2.2.1 a (aLi S.2.2.1 i) with
        | some v => some [(p, (S.1, v :: r, S.2.2.1, S.2.2.2))]
        | none => some [(p, (S.1, S.2.2.1.length :: r, S.2.2.1 ++ [(.inl q.2.2.2.1, none)], (S.2.2.2.1, (a, aLi S.2.2.1 i, S.2.2.1.length) :: S.2.2.2.2.1, aRcs S.2.2.1 S.2.2.2.2.2.1 q.2.2.2.2 (aLi S.2.2.1 i) S.2.2.1.length ++ S.2.2.2.2.2.1, S.2.2.2.2.2.2)))]) else none
      | none => (match aTj C.2.1 S.2.2.1 a with
        | some q => if decide (q.1 = ty) = true ∧ aBd S.2.2.1 S.2.2.2.2.2.1 (aLi S.2.2.1 i) q.2.1 = true then some [(p, aPu S r (.inl (aTq q (aIv S.2.2.1 i))) none)] else none
        | none => none))
    | _ => none)
  | _ => none
theorem aAl_ok (hT : aTB C.2.1 tb) {ty : FieldType} {S : aS} {p : Nat} {L : List (Nat × aS)} (hb : aAl C ty S p = some L) {ρ : List jv} {lv : List (Option jv)} {st : List jv} {σ : Nat → jcell} (hc : aCx F (aHp C K n JX ρ0 σ0) K n S ρ lv st σ) (h : aNx F (aHp C K n JX ρ0 σ0) K n J ρ L) : jald tb σ n ty st fun x r => J p lv (.inl x :: r) σ := by
  unfold aAl at hb
  split at hb
  next i a r hs =>
    obtain ⟨w, v, s, rfl, h1, h2, h3⟩ := aSk_2 (hs ▸ hc.2.2.1)
    split at hb
    next A hA =>
      obtain ⟨x, rfl, hx⟩ := aG_int (aTy_ok hc.1 hA h1)
      have hi := aLi_ok hc.1 h1
      obtain ⟨p9, m1, m2, m3, m4⟩ := hc.2.2.2.1
      split at hb
      next q hq =>
        obtain ⟨b, rfl, h4, h5, h6, h7⟩ := aAr_ok hc.1 hc.2.2.2.2.1 hq h2
        split at hb
        next hz =>
          obtain ⟨z1, z2, z3⟩ := hz
          rw [decide_eq_true_eq] at z1
          subst z1
          obtain ⟨g, e1, e2⟩ := aCe_arr h7 z2
          obtain ⟨i1, i2, i3⟩ := aBd_ok hc.1 m3 z3 hi
          simp only [jald, e1]
          refine ⟨h4, trivial, i1, ?_⟩
          split at hb
          next v9 hv9 =>
            cases hb
            obtain ⟨b9, m9, ty9, g9, i9, k1, k2, k3, k4, k5⟩ := m2 _ (aFc2_in hv9)
            dsimp only at k1 k4 k5
            rw [h2] at k1
            cases k1
            rw [e1] at k2
            obtain ⟨g8, rfl⟩ : ∃ g8, g9 = .inl g8 := by
              rcases g9 with g9 | g9
              · exact ⟨g9, rfl⟩
              · unfold aGc at k2
                cases k2
            unfold aGc at k2
            cases k2
            have e9 : i9 = x.toNatClampNeg := by
              have := aVa_f k4 hi
              replace this : (i9 : Int) = x.toInt := this
              omega
            subst e9
            exact aNx_in h List.mem_cons_self aX_rf ⟨hc.1, hc.2.1, ⟨k5, h3⟩, ⟨p9, m1, m2, m3, m4⟩, hc.2.2.2.2⟩
          next =>
            cases hb
            have hR2 := aR_push (t := .inl q.2.2.2.1) (r := none) (v := .inl (g x.toNatClampNeg)) hc.1 (e2 _ i2).1 trivial
            refine aNx_in h List.mem_cons_self aX_app ⟨hR2, hc.2.1.mo aX_app, ⟨aR_new hc.1, h3.mo aX_app⟩, ⟨p9, m1.mo aX_app, fun z hz => ?_, fun f hf => ?_, m4.mo aX_app⟩, hc.2.2.2.2⟩
            · rcases List.mem_cons.mp hz with rfl | hz
              · refine ⟨b, _, _, .inl g, x.toNatClampNeg, aX_app _ _ h2, e1, i2, ?_, aR_new hc.1⟩
                rw [i3]
                exact aVa_mo aX_app hi
              · exact (m2.mo aX_app) z hz
            · rcases List.mem_append.mp hf with hf | hf
              · obtain ⟨q9, q1, rfl⟩ := List.mem_map.mp hf
                obtain ⟨q1, qb⟩ := List.mem_filter.mp q1
                rw [Bool.and_eq_true] at qb
                have b1 := aPr_ok hc.1 m3 qb.1 (aVa_p (aVa_k _) hi)
                have b2 := aPr_ok hc.1 m3 qb.2 (aVa_p (aVa_k _) (aVa_m (-1) hi))
                replace b1 : 0 ≤ -(q9.1 : Int) + x.toInt := b1
                replace b2 : 0 ≤ (q9.2.1 : Int) - 1 + -1 * x.toInt := b2
                have h9 := (e2 _ i2).2 q9 q1 (by omega) (by omega)
                rw [i3] at h9
                have hn : aVa (ρ ++ [.inl (g x.toNatClampNeg)]) ([(S.2.2.1.length, q9.2.2.2.1)], q9.2.2.2.2) (q9.2.2.2.1 * (g x.toNatClampNeg).toInt + q9.2.2.2.2) := ⟨_, by rw [aEv_i (q := (S.2.2.1.length, q9.2.2.2.1)) (aR_new hc.1) rfl]; congr 1; exact Int.add_zero _, rfl⟩
                refine aHd_va.mpr ⟨_, aVa_p (aVa_m q9.2.2.1 (aVa_mo aX_app hi)) hn, ?_⟩
                show 0 ≤ q9.2.2.1 * x.toInt + _
                omega
              · exact (m3 f hf).mo aX_app
        next => cases hb
      next =>
        split at hb
        next q hq =>
          split at hb
          next hz =>
            cases hb
            obtain ⟨z1, z3⟩ := hz
            rw [decide_eq_true_eq] at z1
            subst z1
            unfold aTj at hq
            split at hq
            next j hj =>
              split at hq
              next hlt =>
               obtain rfl := aG_tab hlt (aTy_ok hc.1 hj h2)
               obtain ⟨s1, s2, s3, g, e1, e2, e3⟩ := hT j q hq
               obtain ⟨i1, i2, i3⟩ := aBd_ok hc.1 m3 z3 hi
               simp only [jald, e1]
               exact ⟨trivial, i1, aPu_ok (t := .inl (aTq q (aIv S.2.2.1 i))) (v := .inl (g x.toNatClampNeg)) (r := none) hc h3 (aTq_ok hc.1 h1 (e2 _ i2) e3) trivial h⟩
              next => cases hq
            next => cases hq
          next => cases hb
        next => cases hb
    next => cases hb
  next => cases hb
/-! what a store leaves -/
theorem aVs_al {ρ : List jv} : ∀ {is : List Nat} {vs : List jv}, aVs ρ is = some vs → vs = aVal ρ is ∧ aWm ρ is
  | [], vs, h => by
    cases h
    exact ⟨rfl, fun i k q => by simp at q⟩
  | i :: r, vs, h => by
    unfold aVs at h
    split at h
    next v s h1 h2 =>
      cases h
      obtain ⟨e1, e2⟩ := aVs_al h2
      refine ⟨?_, fun j k hk => ?_⟩
      · unfold aVal at e1 ⊢
        rw [List.map_cons, ← e1]
        simp [List.getD, h1]
      · cases j with
        | zero => cases hk; exact (List.getElem?_eq_some_iff.mp h1).1
        | succ j => exact e2 j k (by simpa using hk)
    next => cases h
/-- a field's store: facts that don't look at it -/
noncomputable def aFk (dep : List (List aDe)) (k f : Nat) (q : Nat × List Nat) : Bool := aDl dep q.1 && (aDg dep q.1).all (fun e => decide (¬ e.1 = k) || decide (¬ f ∈ e.2.1))
theorem aFk_ok {dep : List (List aDe)} (hD : aDp F K n dep) {p : P} {ρ : List jv} {σ : Nat → jcell} {fx : List (Nat × List Nat)} (h : aFx F p ρ σ fx) {a c f : Nat} {fs : List jv} {u : jv} (ha : σ a = .inr (c, fs)) : aFx F p ρ (jup σ a (.inr (c, fs.set f u))) (fx.filter (aFk dep (K a) f)) := by
  intro q hq
  obtain ⟨h1, h2⟩ := List.mem_filter.mp hq
  obtain ⟨h0, h2⟩ := (Bool.and_eq_true _ _ ▸ h2 : _ ∧ _)
  obtain ⟨vs, h3, h4⟩ := h q h1
  refine ⟨vs, h3, hD.1 p q.1 vs σ _ h0 (fun b hb e he hk => ?_) h4⟩
  by_cases e9 : b = a
  · subst e9
    have h5 := List.all_eq_true.mp h2 e he
    rw [Bool.or_eq_true] at h5
    rcases h5 with h5 | h5
    · exact absurd hk (of_decide_eq_true h5)
    · refine Or.inr (Or.inl ⟨c, fs, fs.set f u, ha, jup_s, List.length_set, fun g hg => ?_⟩)
      exact List.getElem?_set_ne (fun (q9 : f = g) => of_decide_eq_true h5 (by rw [q9]; exact hg))
  · exact Or.inl (jup_n e9)
/-- a store into a row: facts that look below its place -/
noncomputable def aFkr (dep : List (List aDe)) (env : List aE) (cs : List aF) (k : Nat) (ix : aF) (q : Nat × List Nat) : Bool := aDl dep q.1 && (aDg dep q.1).all (fun e => decide (¬ e.1 = k) || (match e.2.2 with
  | some f => (match aSb2 env q.2 f with
    | some g => aPr env cs 2 (aFp ix (aFm (-1) g))
    | none => false)
  | none => false))
theorem aFkr_ok {dep : List (List aDe)} (hD : aDp F K n dep) {env : List aE} {p : P} {ρ : List jv} (hR : aR K n env ρ) {cs : List aF} (hc : ∀ f ∈ cs, aHd ρ f) {σ : Nat → jcell} {fx : List (Nat × List Nat)} (h : aFx F p ρ σ fx) {a m i : Nat} {ty : FieldType} {g : Nat → Int32} {x : Int32} (ha : σ a = .inl (ty, m, .inl g)) {ix : aF} (hi : aVa ρ ix (i : Int)) : aFx F p ρ (jup σ a (.inl (ty, m, .inl (upd g i x)))) (fx.filter (aFkr dep env cs (K a) ix)) := by
  intro q hq
  obtain ⟨h1, h2⟩ := List.mem_filter.mp hq
  obtain ⟨h0, h2⟩ := (Bool.and_eq_true _ _ ▸ h2 : _ ∧ _)
  obtain ⟨vs, h3, h4⟩ := h q h1
  refine ⟨vs, h3, hD.1 p q.1 vs σ _ h0 (fun b hb e he hk => ?_) h4⟩
  by_cases e9 : b = a
  · subst e9
    have h5 := List.all_eq_true.mp h2 e he
    rw [Bool.or_eq_true] at h5
    rcases h5 with h5 | h5
    · exact absurd hk (of_decide_eq_true h5)
    · split at h5
      next f hf =>
        split at h5
        next g1 hg1 =>
          obtain ⟨e1, e2⟩ := aVs_al h3
          obtain ⟨z, z1, z2⟩ := aSb2_ok hR e2 hg1
          rw [← e1] at z1
          have h6 := aPr_ok hR hc h5 (aVa_p hi (aVa_m (-1) z2))
          refine Or.inr (Or.inr ⟨ty, m, g, upd g i x, f, z, hf, z1, ha, jup_s, fun j hj => ?_⟩)
          unfold upd
          rw [if_neg (by omega)]
        next => cases h5
      next => cases h5
  · exact Or.inl (jup_n e9)
noncomputable def aFkl (dep : List (List aDe)) (k : Nat) (q : Nat × List Nat) : Bool := aDl dep q.1 && (aDg dep q.1).all (fun e => decide (¬ e.1 = k))
theorem aFkl_ok {dep : List (List aDe)} (hD : aDp F K n dep) {p : P} {ρ : List jv} {σ : Nat → jcell} {fx : List (Nat × List Nat)} (h : aFx F p ρ σ fx) {a : Nat} {x : jcell} : aFx F p ρ (jup σ a x) (fx.filter (aFkl dep (K a))) := by
  intro q hq
  obtain ⟨h1, h2⟩ := List.mem_filter.mp hq
  obtain ⟨h0, h2⟩ := (Bool.and_eq_true _ _ ▸ h2 : _ ∧ _)
  obtain ⟨vs, h3, h4⟩ := h q h1
  refine ⟨vs, h3, hD.1 p q.1 vs σ _ h0 (fun b hb e he hk => ?_) h4⟩
  by_cases e9 : b = a
  · subst e9
    exact absurd hk (of_decide_eq_true (List.all_eq_true.mp h2 e he))
  · exact Or.inl (jup_n e9)
theorem aVs_cons {ρ : List jv} {i : Nat} {r : List Nat} {vs : List jv} (h : aVs ρ (i :: r) = some vs) : ∃ v s, ρ[i]? = some v ∧ aVs ρ r = some s ∧ vs = v :: s := by
  unfold aVs at h
  split at h
  next v s h1 h2 => cases h; exact ⟨v, s, h1, h2, rfl⟩
  next => cases h
theorem aPnd_ok (hP : aPd F) {p : P} {ρ : List jv} {σ : Nat → jcell} {fx : List (Nat × List Nat)} (h : aFx F p ρ σ fx) {a i x b : Nat} {u w : Int32} (ha : ρ[a]? = some (.inr (.inr (some (.inl b))))) (hi : ρ[i]? = some (.inl u)) (hx : ρ[x]? = some (.inl w)) : aFx F p ρ (jup σ b (jsto (σ b) u.toNatClampNeg w)) (fx.filterMap (aPnd a i x)) := by
  intro q hq
  obtain ⟨q0, h1, h2⟩ := List.mem_filterMap.mp hq
  obtain ⟨vs, h3, h4⟩ := h q0 h1
  unfold aPnd at h2
  split at h2
  next hr =>
    split at h2
    next a' i' x' r hq0 =>
      split at h2
      next he =>
        obtain ⟨rfl, rfl, rfl⟩ := he
        have e9 := Option.some.inj h2
        subst e9
        rw [hq0] at h3
        obtain ⟨v1, s1, e1, e2, rfl⟩ := aVs_cons h3
        obtain ⟨v2, s2, e3, e4, rfl⟩ := aVs_cons e2
        obtain ⟨v3, s3, e5, e6, rfl⟩ := aVs_cons e4
        obtain rfl := Option.some.inj (e1.symm.trans ha)
        obtain rfl := Option.some.inj (e3.symm.trans hi)
        obtain rfl := Option.some.inj (e5.symm.trans hx)
        refine ⟨s3, e6, hP.1 p (q0.1 - 65539) b u w s3 σ (by omega) (by omega) ?_⟩
        rw [show q0.1 - 65539 + 65539 = q0.1 by omega]
        exact h4
      next => cases h2
    next => cases h2
  next => cases h2
theorem aPndl_ok (hP : aPd F) {p : P} {ρ : List jv} {σ : Nat → jcell} {fx : List (Nat × List Nat)} (h : aFx F p ρ σ fx) {a i x b : Nat} {u : Int32} {w : Int64} (ha : ρ[a]? = some (.inr (.inr (some (.inl b))))) (hi : ρ[i]? = some (.inl u)) (hx : ρ[x]? = some (.inr (.inl w))) : aFx F p ρ (jup σ b (jstl (σ b) u.toNatClampNeg w)) (fx.filterMap (aPnd a i x)) := by
  intro q hq
  obtain ⟨q0, h1, h2⟩ := List.mem_filterMap.mp hq
  obtain ⟨vs, h3, h4⟩ := h q0 h1
  unfold aPnd at h2
  split at h2
  next hr =>
    split at h2
    next a' i' x' r hq0 =>
      split at h2
      next he =>
        obtain ⟨rfl, rfl, rfl⟩ := he
        have e9 := Option.some.inj h2
        subst e9
        rw [hq0] at h3
        obtain ⟨v1, s1, e1, e2, rfl⟩ := aVs_cons h3
        obtain ⟨v2, s2, e3, e4, rfl⟩ := aVs_cons e2
        obtain ⟨v3, s3, e5, e6, rfl⟩ := aVs_cons e4
        obtain rfl := Option.some.inj (e1.symm.trans ha)
        obtain rfl := Option.some.inj (e3.symm.trans hi)
        obtain rfl := Option.some.inj (e5.symm.trans hx)
        refine ⟨s3, e6, hP.2.2 p (q0.1 - 65539) b u w s3 σ (by omega) (by omega) ?_⟩
        rw [show q0.1 - 65539 + 65539 = q0.1 by omega]
        exact h4
      next => cases h2
    next => cases h2
  next => cases h2
theorem aPnf_ok (hP : aPd F) {p : P} {ρ : List jv} {σ : Nat → jcell} {fx : List (Nat × List Nat)} (h : aFx F p ρ σ fx) {o f v b : Nat} {u : jv} (ha : ρ[o]? = some (.inr (.inr (some (.inl b))))) (hx : ρ[v]? = some u) : aFx F p ρ (jup σ b (jstf (σ b) f u)) (fx.filterMap (aPnf o f v)) := by
  intro q hq
  obtain ⟨q0, h1, h2⟩ := List.mem_filterMap.mp hq
  obtain ⟨vs, h3, h4⟩ := h q0 h1
  unfold aPnf at h2
  split at h2
  next hr =>
    split at h2
    next o' v' r hq0 =>
      split at h2
      next he =>
        obtain ⟨rfl, rfl⟩ := he
        have e9 := Option.some.inj h2
        subst e9
        rw [hq0] at h3
        obtain ⟨v1, s1, e1, e2, rfl⟩ := aVs_cons h3
        obtain ⟨v2, s2, e3, e4, rfl⟩ := aVs_cons e2
        obtain rfl := Option.some.inj (e1.symm.trans ha)
        obtain rfl := Option.some.inj (e3.symm.trans hx)
        refine ⟨s2, e4, hP.2.1 p (q0.1 - (131072 * (f + 1) + 2)) b f v2 s2 σ (by omega) (by omega) ?_⟩
        rw [show q0.1 - (131072 * (f + 1) + 2) + 131072 * (f + 1) + 2 = q0.1 by omega]
        exact h4
      next => cases h2
    next => cases h2
  next => cases h2
theorem aFx_app {p : P} {ρ : List jv} {σ : Nat → jcell} {a b : List (Nat × List Nat)} (h1 : aFx F p ρ σ a) (h2 : aFx F p ρ σ b) : aFx F p ρ σ (a ++ b) := fun q hq => (List.mem_append.mp hq).elim (h1 q) (h2 q)
noncomputable def aCk (env : List aE) (k : Nat) (q : Nat × aF × Nat) : Bool := match aKi env q.1 with
  | some k1 => decide (¬ k1 = k)
  | none => false
theorem aCk_ok {env : List aE} {ρ : List jv} (hR : aR K n env ρ) {σ : Nat → jcell} {cb : List (Nat × aF × Nat)} (h : aCb ρ σ cb) {a : Nat} {x : jcell} : aCb ρ (jup σ a x) (cb.filter (aCk env (K a))) := by
  intro q hq
  obtain ⟨h1, h2⟩ := List.mem_filter.mp hq
  obtain ⟨b, m, ty, g, i, k1, k2, k3, k4, k5⟩ := h q h1
  refine ⟨b, m, ty, g, i, k1, ?_, k3, k4, k5⟩
  have e : b ≠ a := by
    intro e
    subst e
    unfold aCk at h2
    split at h2
    next k hk =>
      obtain ⟨b2, e2, -, e3⟩ := aKi_ok hR hk k1
      cases e2
      exact of_decide_eq_true h2 e3.symm
    next => cases h2
  rw [jup_n e]
  exact k2
theorem aCb_obj {ρ : List jv} {σ : Nat → jcell} {cb : List (Nat × aF × Nat)} (h : aCb ρ σ cb) {a : Nat} {y : Nat × List jv} {x : jcell} (hy : σ a = .inr y) : aCb ρ (jup σ a x) cb := by
  intro q hq
  obtain ⟨b, m, ty, g, i, k1, k2, k3, k4, k5⟩ := h q hq
  refine ⟨b, m, ty, g, i, k1, ?_, k3, k4, k5⟩
  have e : b ≠ a := by
    intro e
    subst e
    rw [hy] at k2
    rcases g with g | g
    · unfold aGc at k2; cases k2
    · unfold aGc at k2; cases k2
  rw [jup_n e]
  exact k2
theorem aFa_obj {mk : List (Nat × aF)} {σ : Nat → jcell} (h : aFa K n mk ρ0 σ0 σ) {a : Nat} {y : Nat × List jv} {x : jcell} (hy : σ a = .inr y) : aFa K n mk ρ0 σ0 (jup σ a x) := by
  intro b hb
  obtain ⟨h1, h2⟩ := h b hb
  refine ⟨fun ty m g h0 => ?_, fun ty m g h0 => ?_⟩
  · obtain ⟨g', e1, e2⟩ := h1 ty m g h0
    have e : b ≠ a := by
      intro e
      subst e
      rw [hy] at e1
      cases e1
    exact ⟨g', by rw [jup_n e]; exact e1, e2⟩
  · obtain ⟨g', e1, e2⟩ := h2 ty m g h0
    have e : b ≠ a := by
      intro e
      subst e
      rw [hy] at e1
      cases e1
    exact ⟨g', by rw [jup_n e]; exact e1, e2⟩
theorem aFa_int {mk : List (Nat × aF)} {σ : Nat → jcell} (h : aFa K n mk ρ0 σ0 σ) {a : Nat} {ty : FieldType} {m : Nat} {g : Nat → Int32} (hy : σ a = .inl (ty, m, .inl g)) {i : Nat} {x : Int32} (hw : ¬ aFw K mk ρ0 a i) : aFa K n mk ρ0 σ0 (jup σ a (.inl (ty, m, .inl (upd g i x)))) := by
  intro b hb
  obtain ⟨h1, h2⟩ := h b hb
  by_cases e : b = a
  · subst e
    refine ⟨fun ty9 m9 g9 h0 => ?_, fun ty9 m9 g9 h0 => ?_⟩
    · obtain ⟨g', e1, e2⟩ := h1 ty9 m9 g9 h0
      rw [hy] at e1
      cases e1
      refine ⟨_, jup_s, fun j hj => ?_⟩
      unfold upd
      split
      next e9 => subst e9; exact absurd hj hw
      next => exact e2 j hj
    · obtain ⟨g', e1, e2⟩ := h2 ty9 m9 g9 h0
      rw [hy] at e1
      cases e1
  · rw [jup_n e]
    exact ⟨h1, h2⟩
theorem aFa_lng {mk : List (Nat × aF)} {σ : Nat → jcell} (h : aFa K n mk ρ0 σ0 σ) {a : Nat} {ty : FieldType} {m : Nat} {g : Nat → Int64} (hy : σ a = .inl (ty, m, .inr (.inl g))) {i : Nat} {x : Int64} (hw : ¬ aFw K mk ρ0 a i) : aFa K n mk ρ0 σ0 (jup σ a (.inl (ty, m, .inr (.inl (vp_updL g i x))))) := by
  intro b hb
  obtain ⟨h1, h2⟩ := h b hb
  by_cases e : b = a
  · subst e
    refine ⟨fun ty9 m9 g9 h0 => ?_, fun ty9 m9 g9 h0 => ?_⟩
    · obtain ⟨g', e1, e2⟩ := h1 ty9 m9 g9 h0
      rw [hy] at e1
      cases e1
    · obtain ⟨g', e1, e2⟩ := h2 ty9 m9 g9 h0
      rw [hy] at e1
      cases e1
      refine ⟨_, jup_s, fun j hj => ?_⟩
      unfold vp_updL
      split
      next e9 => subst e9; exact absurd hj hw
      next => exact e2 j hj
  · rw [jup_n e]
    exact ⟨h1, h2⟩
/-- a row may be written at an index -/
noncomputable def aMk (mk : List (Nat × aF)) (k : Nat) : Option aF := match mk with
  | [] => none
  | q :: r => if q.1 = k then some q.2 else aMk r k
theorem aMk_in : ∀ {mk : List (Nat × aF)} {k : Nat} {f : aF}, aMk mk k = some f → (k, f) ∈ mk
  | [], _, _, h => by cases h
  | q :: r, k, f, h => by
    unfold aMk at h
    split at h
    next e => cases h; subst e; exact List.mem_cons_self
    next => exact List.mem_cons_of_mem _ (aMk_in h)
noncomputable def aWr (C : aCf) (env : List aE) (cs : List aF) (k : Nat) (f : aF) : Bool := match aMk C.2.2.2.2.1 k with
  | some B => (match aSb2 env (List.range C.2.2.2.2.2.2) B with
    | some g => aPr env cs 2 (aFp f (aFm (-1) g))
    | none => false)
  | none => false
theorem aWr_ok {env : List aE} {ρ : List jv} (h : aR K n env ρ) (hx : aX ρ0 ρ) (hE : C.2.2.2.2.2.2 = ρ0.length) {cs : List aF} (hc : ∀ f ∈ cs, aHd ρ f) {a : Nat} {f : aF} (hw : aWr C env cs (K a) f = true) {i : Nat} (hi : aVa ρ f (i : Int)) : ¬ aFw K C.2.2.2.2.1 ρ0 a i := by
  unfold aWr at hw
  split at hw
  next B hB =>
    split at hw
    next g hg =>
      intro q
      obtain ⟨z, z1, z2⟩ := q _ (aMk_in hB) rfl
      rw [hE] at hg
      obtain ⟨y, y1, y2⟩ := aSb2_ok h (aWm_rg hx) hg
      rw [aVal_rg hx] at y1
      have := aVa_f y1 z1
      have h9 := aPr_ok h hc hw (aVa_p hi (aVa_m (-1) y2))
      omega
    next => cases hw
  next => cases hw
noncomputable def aAs (C : aCf) (ty : FieldType) (S : aS) (p : Nat) : Option (List (Nat × aS)) := match S.2.1 with
  | x :: i :: a :: r => (match aTy S.2.2.1 x, aTy S.2.2.1 i, aAr C.1 S.2.2.1 a with
    | some (.inl _), some (.inl _), some q => if decide (q.2.1 = ty) = true ∧ ¬ ty = .long ∧ aBd S.2.2.1 S.2.2.2.2.2.1 (aLi S.2.2.1 i) q.2.2.1 = true ∧ ¬ q.1 ∈ C.2.2.1 ∧ aLx S.2.2.1 S.2.2.2.2.2.1 x (.inl q.2.2.2.1) = true ∧ aLx S.2.2.1 S.2.2.2.2.2.1 x (.inl (aRg ty)) = true ∧ aWr C S.2.2.1 S.2.2.2.2.2.1 q.1 (aLi S.2.2.1 i) = true ∧ q.2.2.2.2.all (fun z => aPr S.2.2.1 S.2.2.2.2.2.1 1 (aFp ([], (z.1 : Int) - 1) (aFm (-1) (aLi S.2.2.1 i))) || (aPr S.2.2.1 S.2.2.2.2.2.1 1 (aFp ([], -(z.2.1 : Int)) (aLi S.2.2.1 i)) || aPr S.2.2.1 S.2.2.2.2.2.1 2 (aFp (aFm z.2.2.1 (aLi S.2.2.1 i)) (aFp (aFm z.2.2.2.1 (aLi S.2.2.1 x)) ([], z.2.2.2.2))))) = true then some [(p, (S.1, r, S.2.2.1, (S.2.2.2.1, (a, aLi S.2.2.1 i, x) :: S.2.2.2.2.1.filter (aCk S.2.2.1 q.1), S.2.2.2.2.2.1, S.2.2.2.2.2.2.filterMap (aPnd a i x) ++ S.2.2.2.2.2.2.filter (aFkr C.2.2.2.2.2.1 S.2.2.1 S.2.2.2.2.2.1 q.1 (aLi S.2.2.1 i)))))] else none
    | _, _, _ => none)
  | _ => none
theorem aAs_ok (hJ : aJx K n C.2.2.1 JX) (hD : aDp F K n C.2.2.2.2.2.1) (hE : C.2.2.2.2.2.2 = ρ0.length) {ty : FieldType} {S : aS} {p : Nat} {L : List (Nat × aS)} (hb : aAs C ty S p = some L) {ρ : List jv} (hx0 : aX ρ0 ρ) {lv : List (Option jv)} {st : List jv} {σ : Nat → jcell} (hc : aCx F (aHp C K n JX ρ0 σ0) K n S ρ lv st σ) (h : aNx F (aHp C K n JX ρ0 σ0) K n J ρ L) : jast σ n ty st fun σ' r => J p lv r σ' := by
  unfold aAs at hb
  split at hb
  next x i a r hs =>
    obtain ⟨u, w, s, rfl, h0, h1, h3⟩ := aSk_2 (hs ▸ hc.2.2.1)
    obtain ⟨v, s8, rfl, h2, h8⟩ := aSk_1 h3
    split at hb
    next B A q hB hA hq =>
      obtain ⟨y, rfl, -⟩ := aG_int (aTy_ok hc.1 hB h0)
      obtain ⟨x, rfl, hx⟩ := aG_int (aTy_ok hc.1 hA h1)
      obtain ⟨b, rfl, h4, h5, h6, h7⟩ := aAr_ok hc.1 hc.2.2.2.2.1 hq h2
      split at hb
      next hz =>
        cases hb
        obtain ⟨z1, z2, z3, z5, z6, z7, z8, z9⟩ := hz
        rw [decide_eq_true_eq] at z1
        subst z1
        obtain ⟨p9, m1, m2, m3, m4⟩ := hc.2.2.2.1
        have hy6 : aIn q.2.2.2.1 y := aLx_ok hc.1 m3 z6 h0
        have hy7 : aIn (aRg q.2.1) y := aLx_ok hc.1 m3 z7 h0
        obtain ⟨g, e1, e2⟩ := aCe_arr h7 z2
        have hi := aLi_ok hc.1 h1
        obtain ⟨i1, i2, i3⟩ := aBd_ok hc.1 m3 z3 hi
        simp only [jast, e1]
        refine ⟨h4, trivial, i1, ?_⟩
        rw [aRg_ok hy7]
        obtain ⟨p1, p2, p3, p4⟩ := hc.2.2.2.2
        have hi2 : aVa ρ (aLi S.2.2.1 i) (x.toNatClampNeg : Int) := by rw [i3]; exact hi
        have hw := aWr_ok hc.1 hx0 hE m3 (by rw [← h5] at z8; exact z8) hi2
        refine aNx_in h List.mem_cons_self aX_rf ⟨hc.1, hc.2.1, h8, ⟨p9, aCa_arr m1 e1, fun z hz => ?_, m3, by rw [← h5]; exact aFx_app (by have q9 := aPnd_ok hD.2.1 m4 h2 h1 h0; unfold jsto at q9; rw [e1] at q9; exact q9) (aFkr_ok hD hc.1 m3 m4 e1 hi2)⟩, aH_up p1 (fun d hd => ?_), (hJ _ _ h4 p2).1 _ (by rw [h5]; exact z5), aFr_arr p3 e1, aFa_int p4 e1 hw⟩
        · rcases List.mem_cons.mp hz with rfl | hz
          · exact ⟨b, _, _, .inl (upd g x.toNatClampNeg y), x.toNatClampNeg, h2, jup_s, i2, hi2, by show _ = (some (.inl (upd g x.toNatClampNeg y x.toNatClampNeg)) : Option jv); rw [show upd g x.toNatClampNeg y x.toNatClampNeg = y from by unfold upd; rw [if_pos rfl]]; exact h0⟩
          · rw [← h5] at hz
            exact aCk_ok hc.1 m2 z hz
        · rw [h6] at hd
          cases hd
          refine ⟨rfl, rfl, z2, fun k hk => ?_⟩
          unfold upd
          split
          next e9 =>
            subst e9
            refine ⟨hy6, fun q9 hq9 l1 l2 => ?_⟩
            have h9 := List.all_eq_true.mp z9 q9 hq9
            rw [Bool.or_eq_true, Bool.or_eq_true] at h9
            rcases h9 with h9 | h9 | h9
            · have h9 := aPr_ok hc.1 m3 h9 (aVa_p (aVa_k _) (aVa_m (-1) hi2))
              exfalso
              omega
            · have h9 := aPr_ok hc.1 m3 h9 (aVa_p (aVa_k _) hi2)
              exfalso
              omega
            · have h9 := aPr_ok hc.1 m3 h9 (aVa_p (aVa_m q9.2.2.1 hi2) (aVa_p (aVa_m q9.2.2.2.1 (aLi_ok hc.1 h0)) (aVa_k _)))
              replace h9 : 0 ≤ q9.2.2.1 * (x.toNatClampNeg : Int) + (q9.2.2.2.1 * y.toInt + q9.2.2.2.2) := h9
              omega
          next => exact e2 k hk
      next => cases hb
    next => cases hb
  next => cases hb
noncomputable def aFind (cc : List (Nat × Nat × Nat)) (o f : Nat) : Option Nat := match cc with
  | [] => none
  | q :: r => if q.1 = o ∧ q.2.1 = f then some q.2.2 else aFind r o f
theorem aFind_in : ∀ {cc : List (Nat × Nat × Nat)} {o f v : Nat}, aFind cc o f = some v → (o, f, v) ∈ cc
  | [], _, _, _, h => by cases h
  | q :: r, o, f, v, h => by
    unfold aFind at h
    split at h
    next hq =>
      cases h
      obtain ⟨rfl, rfl⟩ := hq
      exact List.mem_cons_self
    next => exact List.mem_cons_of_mem _ (aFind_in h)
noncomputable def aOb (T : List aKd) (env : List aE) (o ci f : Nat) : Option (Nat × aT) := match aKi env o with
  | some k => (match T[k]? with
    | some (.inr q) => if q.1 = ci then (match q.2[f]? with
      | some t => some (k, t)
      | none => none) else none
    | _ => none)
  | none => none
theorem aOb_ok {env : List aE} {ρ : List jv} (h : aR K n env ρ) {σ : Nat → jcell} (hH : aH T K n σ) {o ci f : Nat} {q : Nat × aT} (hq : aOb T env o ci f = some q) {v : jv} (hv : ρ[o]? = some v) : ∃ (a : Nat) (fs : List jv) (ts : List aT), v = .inr (.inr (some (.inl a))) ∧ a < n ∧ K a = q.1 ∧ T[K a]? = some (.inr (ci, ts)) ∧ ts[f]? = some q.2 ∧ σ a = .inr (ci, fs) ∧ aFs K n ts fs := by
  unfold aOb at hq
  split at hq
  next k hk =>
    split at hq
    next d hd =>
      split at hq
      next hci =>
        split at hq
        next t ht =>
          cases hq
          obtain ⟨a, rfl, h1, h2⟩ := aKi_ok h hk hv
          subst h2
          obtain ⟨fs, e1, e2⟩ := aCe_obj (hH a h1 _ hd)
          rw [hci] at e1
          exact ⟨a, fs, d.2, rfl, h1, rfl, by rw [hd, ← hci], ht, e1, e2⟩
        next => cases hq
      next => cases hq
    next => cases hq
  next => cases hq
/-- a field is read -/
noncomputable def aGet (C : aCf) (ci f : Nat) (S : aS) (p : Nat) : Option (List (Nat × aS)) := match S.2.1 with
  | o :: r => (match aOb C.1 S.2.2.1 o ci f with
    | some q => (match aFind S.2.2.2.1 o f with
      | some v => some [(p, (S.1, v :: r, S.2.2.1, S.2.2.2))]
      | none => some [(p, (S.1, S.2.2.1.length :: r, S.2.2.1 ++ [(q.2, none)], ((o, f, S.2.2.1.length) :: S.2.2.2.1, S.2.2.2.2)))])
    | none => none)
  | _ => none
theorem aGet_ok {ci f : Nat} {S : aS} {p : Nat} {L : List (Nat × aS)} (hb : aGet C ci f S p = some L) {ρ : List jv} {lv : List (Option jv)} {st : List jv} {σ : Nat → jcell} (hc : aCx F (aHp C K n JX ρ0 σ0) K n S ρ lv st σ) (h : aNx F (aHp C K n JX ρ0 σ0) K n J ρ L) : jget σ n ci f st fun v r => J p lv (v :: r) σ := by
  unfold aGet at hb
  split at hb
  next o r hs =>
    obtain ⟨w, s, rfl, h1, h2⟩ := aSk_1 (hs ▸ hc.2.2.1)
    split at hb
    next q hq =>
      obtain ⟨a, fs, ts, rfl, k1, k2, k3, k4, k5, k6⟩ := aOb_ok hc.1 hc.2.2.2.2.1 hq h1
      have hl : f < fs.length := by rw [k6.1]; exact (List.getElem?_eq_some_iff.mp k4).1
      have hv : fs[f]? = some fs[f] := List.getElem?_eq_getElem hl
      simp only [jget, k5, hv]
      refine ⟨k1, trivial, ?_⟩
      obtain ⟨p9, m0, m9⟩ := hc.2.2.2.1
      split at hb
      next v9 hf =>
        cases hb
        obtain ⟨b, c, fs1, v, m1, m2, m3, m4⟩ := m0 _ (aFind_in hf)
        dsimp only at m1 m3 m4
        rw [h1] at m1
        cases m1
        rw [k5] at m2
        cases m2
        rw [hv] at m3
        cases m3
        exact aNx_in h List.mem_cons_self aX_rf ⟨hc.1, hc.2.1, ⟨m4, h2⟩, hc.2.2.2.1, hc.2.2.2.2⟩
      next hf =>
        cases hb
        have hR2 := aR_push (r := none) (v := fs[f]) hc.1 (k6.2 f _ _ k4 hv) trivial
        have m8 : aMm F p9 ρ σ S.2.2.2 := ⟨m0, m9⟩
        refine aNx_in h List.mem_cons_self aX_app ⟨hR2, hc.2.1.mo aX_app, ⟨aR_new hc.1, h2.mo aX_app⟩, ⟨p9, fun z hz => ?_, (m8.mo aX_app).2⟩, hc.2.2.2.2⟩
        rcases List.mem_cons.mp hz with rfl | hz
        · exact ⟨a, ci, fs, fs[f], aX_app _ _ h1, k5, hv, aR_new hc.1⟩
        · exact (m0.mo aX_app) z hz
    next => cases hb
  next => cases hb
noncomputable def aFit2 (kd : Nat) (t : aT) : Bool := match kd, t with
  | 0, .inl _ => true
  | 1, .inl A => aSb A (0, 1)
  | 2, .inr none => true
  | 3, .inr (some _) => true
  | _, _ => false
theorem aFit2_ok {kd : Nat} {t : aT} (h : aFit2 kd t = true) {v : jv} (hv : aG K n t v) : jfit kd v := by
  unfold aFit2 at h
  split at h
  · obtain ⟨x, rfl, -⟩ := aG_int hv; trivial
  · obtain ⟨x, rfl, hx⟩ := aG_int hv
    obtain ⟨h1, h2⟩ := aSb_ok h hx
    dsimp only at h1 h2
    have e : x.toInt = 0 ∨ x.toInt = 1 := by omega
    show x = 0 ∨ x = 1
    rcases e with e | e
    · left; rw [← Int32.toInt_inj, e]; decide
    · right; rw [← Int32.toInt_inj, e]; decide
  · obtain ⟨x, rfl⟩ := aG_lng hv; trivial
  · next q =>
    rcases v with x | x | x
    · rcases q with q | q <;> exact hv.elim
    · rcases q with q | q <;> exact hv.elim
    · trivial
  · cases h
noncomputable def aDrop (env : List aE) (k f : Nat) (q : Nat × Nat × Nat) : Bool := match aKi env q.1 with
  | some k1 => decide (¬ (k1 = k ∧ q.2.1 = f))
  | none => false
noncomputable def aFix (env : List aE) (cs : List aF) (v : Nat) (tv : aT) (kd : Nat) : Bool := match kd with
  | 1 => aLx env cs v (.inl (0, 1))
  | k => aFit2 k tv
/-- a field is written -/
noncomputable def aPut (C : aCf) (ci f kd : Nat) (S : aS) (p : Nat) : Option (List (Nat × aS)) := match S.2.1 with
  | v :: o :: r => (match aOb C.1 S.2.2.1 o ci f, aTy S.2.2.1 v with
    | some q, some tv => if aLx S.2.2.1 S.2.2.2.2.2.1 v q.2 = true ∧ aFix S.2.2.1 S.2.2.2.2.2.1 v tv kd = true ∧ (¬ q.1 ∈ C.2.2.1 ∨ aNr q.2 = true) ∧ (q.1, f) ∈ C.2.2.2.1 then some [(p, (S.1, r, S.2.2.1, ((o, f, v) :: S.2.2.2.1.filter (aDrop S.2.2.1 q.1 f), S.2.2.2.2.1, S.2.2.2.2.2.1, S.2.2.2.2.2.2.filterMap (aPnf o f v) ++ S.2.2.2.2.2.2.filter (aFk C.2.2.2.2.2.1 q.1 f))))] else none
    | _, _ => none)
  | _ => none
theorem aPut_ok (hJ : aJx K n C.2.2.1 JX) (hD : aDp F K n C.2.2.2.2.2.1) {ci f kd : Nat} {S : aS} {p : Nat} {L : List (Nat × aS)} (hb : aPut C ci f kd S p = some L) {ρ : List jv} {lv : List (Option jv)} {st : List jv} {σ : Nat → jcell} (hc : aCx F (aHp C K n JX ρ0 σ0) K n S ρ lv st σ) (h : aNx F (aHp C K n JX ρ0 σ0) K n J ρ L) : jput σ n ci f kd st fun σ' r => J p lv r σ' := by
  unfold aPut at hb
  split at hb
  next v o r hs =>
    obtain ⟨u, w, s, rfl, h0, h1, h3⟩ := aSk_2 (hs ▸ hc.2.2.1)
    split at hb
    next q tv hq ht =>
      split at hb
      next hz =>
        cases hb
        obtain ⟨z1, z2, z3, z4⟩ := hz
        obtain ⟨a, fs, ts, rfl, k1, k2, k3, k4, k5, k6⟩ := aOb_ok hc.1 hc.2.2.2.2.1 hq h1
        have hl : f < fs.length := by rw [k6.1]; exact (List.getElem?_eq_some_iff.mp k4).1
        obtain ⟨p9, m0, m6, m7, m8⟩ := hc.2.2.2.1
        have hg : aG K n q.2 u := aLx_ok hc.1 m7 z1 h0
        have hg2 : jfit kd u := by
          unfold aFix at z2
          split at z2
          next => exact aFit2_ok (t := .inl (0, 1)) rfl (aLx_ok hc.1 m7 z2 h0)
          next => exact aFit2_ok z2 (aTy_ok hc.1 ht h0)
        simp only [jput, k5]
        refine ⟨k1, trivial, hl, hg2, ?_⟩
        obtain ⟨p1, p2, p3, p4⟩ := hc.2.2.2.2
        refine aNx_in h List.mem_cons_self aX_rf ⟨hc.1, hc.2.1, h3, ⟨p9, fun z hz => ?_, aCb_obj m6 k5, m7, by rw [← k2]; exact aFx_app (by have q9 := aPnf_ok (f := f) hD.2.1 m8 h1 h0; unfold jstf at q9; rw [k5] at q9; exact q9) (aFk_ok hD m8 k5)⟩, aH_up p1 (fun d hd => ?_), (z3.elim (fun z9 => (hJ _ _ k1 p2).1 _ (by rw [k2]; exact z9)) (fun z9 => (hJ _ _ k1 p2).2 ci fs f fs[f] u k5 (List.getElem?_eq_getElem hl) (aNr_ok z9 (k6.2 f q.2 _ k4 (List.getElem?_eq_getElem hl))) (aNr_ok z9 hg))), fun b hb c fs0 h0' => ?_, aFa_obj p4 k5⟩
        · rcases List.mem_cons.mp hz with rfl | hz
          · exact ⟨a, ci, fs.set f u, u, h1, jup_s, List.getElem?_set_self hl, h0⟩
          · obtain ⟨hz1, hz2⟩ := List.mem_filter.mp hz
            obtain ⟨b, c, fs1, v1, m1, m2, m3, m4⟩ := m0 z hz1
            by_cases e : b = a
            · subst e
              rw [k5] at m2
              cases m2
              unfold aDrop at hz2
              split at hz2
              next k9 hk9 =>
                rw [decide_eq_true_eq] at hz2
                obtain ⟨b2, e2, -, e3⟩ := aKi_ok hc.1 hk9 m1
                cases e2
                have hne : ¬ z.2.1 = f := fun q9 => hz2 ⟨by rw [← e3, k2], q9⟩
                exact ⟨b, ci, fs.set f u, v1, m1, jup_s, by rw [List.getElem?_set_ne (fun q9 => hne q9.symm)]; exact m3, m4⟩
              next => cases hz2
            · exact ⟨b, c, fs1, v1, m1, by rw [jup_n e]; exact m2, m3, m4⟩
        · rw [k3] at hd
          cases hd
          refine ⟨rfl, by rw [List.length_set]; exact k6.1, fun g t v1 hg1 hv1 => ?_⟩
          by_cases e : g = f
          · subst e
            rw [List.getElem?_set_self hl] at hv1
            cases hv1
            rw [k4] at hg1
            cases hg1
            exact hg
          · rw [List.getElem?_set_ne (fun q9 => e q9.symm)] at hv1
            exact k6.2 g t v1 hg1 hv1
        · obtain ⟨fs', m1, ml, m2⟩ := p3 b hb c fs0 h0'
          by_cases e : b = a
          · subst e
            rw [k5] at m1
            cases m1
            refine ⟨fs.set f u, jup_s, by rw [List.length_set]; exact ml, fun g v1 hg1 hn1 => ?_⟩
            have hne : ¬ g = f := fun q9 => hn1 (by rw [q9, k2]; exact z4)
            rw [List.getElem?_set_ne (fun q9 => hne q9.symm)]
            exact m2 g v1 hg1 hn1
          · exact ⟨fs', by rw [jup_n e]; exact m1, ml, m2⟩
      next => cases hb
    next => cases hb
  next => cases hb
noncomputable def aLl (C : aCf) (S : aS) (p : Nat) : Option (List (Nat × aS)) := match S.2.1 with
  | i :: a :: r => (match aTy S.2.2.1 i, aAr C.1 S.2.2.1 a with
    | some (.inl _), some q => if decide (q.2.1 = .long) = true ∧ aBd S.2.2.1 S.2.2.2.2.2.1 (aLi S.2.2.1 i) q.2.2.1 = true then (match aFc2 S.2.2.2.2.1 a (aLi S.2.2.1 i) with
      | some v => some [(p, (S.1, v :: r, S.2.2.1, S.2.2.2))]
      | none => some [(p, (S.1, S.2.2.1.length :: r, S.2.2.1 ++ [(.inr none, none)], (S.2.2.2.1, (a, aLi S.2.2.1 i, S.2.2.1.length) :: S.2.2.2.2.1, S.2.2.2.2.2.1, S.2.2.2.2.2.2)))]) else none
    | _, _ => none)
  | _ => none
theorem aLl_ok {S : aS} {p : Nat} {L : List (Nat × aS)} (hb : aLl C S p = some L) {ρ : List jv} {lv : List (Option jv)} {st : List jv} {σ : Nat → jcell} (hc : aCx F (aHp C K n JX ρ0 σ0) K n S ρ lv st σ) (h : aNx F (aHp C K n JX ρ0 σ0) K n J ρ L) : jlald σ n st fun x r => J p lv (.inr (.inl x) :: r) σ := by
  unfold aLl at hb
  split at hb
  next i a r hs =>
    obtain ⟨w, v, s, rfl, h1, h2, h3⟩ := aSk_2 (hs ▸ hc.2.2.1)
    split at hb
    next A q hA hq =>
      obtain ⟨x, rfl, hx⟩ := aG_int (aTy_ok hc.1 hA h1)
      obtain ⟨b, rfl, h4, h5, h6, h7⟩ := aAr_ok hc.1 hc.2.2.2.2.1 hq h2
      obtain ⟨p9, m1, m2, m3, m4⟩ := hc.2.2.2.1
      split at hb
      next hz =>
        obtain ⟨z1, z3⟩ := hz
        rw [decide_eq_true_eq] at z1
        obtain ⟨g, e1⟩ := aCe_larr h7 z1
        have hi := aLi_ok hc.1 h1
        obtain ⟨i1, i2, i3⟩ := aBd_ok hc.1 m3 z3 hi
        simp only [jlald, e1]
        refine ⟨h4, z1, i1, ?_⟩
        split at hb
        next v9 hv9 =>
          cases hb
          obtain ⟨b9, m9, ty9, g9, i9, k1, k2, k3, k4, k5⟩ := m2 _ (aFc2_in hv9)
          dsimp only at k1 k4 k5
          rw [h2] at k1
          cases k1
          rw [e1] at k2
          obtain ⟨g8, rfl⟩ : ∃ g8, g9 = .inr g8 := by
            rcases g9 with g9 | g9
            · unfold aGc at k2
              cases k2
            · exact ⟨g9, rfl⟩
          unfold aGc at k2
          cases k2
          have e9 : i9 = x.toNatClampNeg := by
            have := aVa_f k4 hi
            replace this : (i9 : Int) = x.toInt := this
            omega
          subst e9
          exact aNx_in h List.mem_cons_self aX_rf ⟨hc.1, hc.2.1, ⟨k5, h3⟩, ⟨p9, m1, m2, m3, m4⟩, hc.2.2.2.2⟩
        next =>
          cases hb
          have hR2 := aR_push (t := .inr none) (r := none) (v := .inr (.inl (g x.toNatClampNeg))) hc.1 trivial trivial
          refine aNx_in h List.mem_cons_self aX_app ⟨hR2, hc.2.1.mo aX_app, ⟨aR_new hc.1, h3.mo aX_app⟩, ⟨p9, m1.mo aX_app, fun z hz => ?_, fun f hf => (m3 f hf).mo aX_app, m4.mo aX_app⟩, hc.2.2.2.2⟩
          rcases List.mem_cons.mp hz with rfl | hz
          · refine ⟨b, _, _, .inr g, x.toNatClampNeg, aX_app _ _ h2, e1, i2, ?_, aR_new hc.1⟩
            rw [i3]
            exact aVa_mo aX_app hi
          · exact (m2.mo aX_app) z hz
      next => cases hb
    next => cases hb
  next => cases hb
noncomputable def aLs (C : aCf) (S : aS) (p : Nat) : Option (List (Nat × aS)) := match S.2.1 with
  | x :: i :: a :: r => (match aTy S.2.2.1 x, aTy S.2.2.1 i, aAr C.1 S.2.2.1 a with
    | some (.inr none), some (.inl _), some q => if decide (q.2.1 = .long) = true ∧ aBd S.2.2.1 S.2.2.2.2.2.1 (aLi S.2.2.1 i) q.2.2.1 = true ∧ ¬ q.1 ∈ C.2.2.1 ∧ aWr C S.2.2.1 S.2.2.2.2.2.1 q.1 (aLi S.2.2.1 i) = true then some [(p, (S.1, r, S.2.2.1, (S.2.2.2.1, (a, aLi S.2.2.1 i, x) :: S.2.2.2.2.1.filter (aCk S.2.2.1 q.1), S.2.2.2.2.2.1, S.2.2.2.2.2.2.filterMap (aPnd a i x) ++ S.2.2.2.2.2.2.filter (aFkl C.2.2.2.2.2.1 q.1))))] else none
    | _, _, _ => none)
  | _ => none
theorem aLs_ok (hJ : aJx K n C.2.2.1 JX) (hD : aDp F K n C.2.2.2.2.2.1) (hE : C.2.2.2.2.2.2 = ρ0.length) {S : aS} {p : Nat} {L : List (Nat × aS)} (hb : aLs C S p = some L) {ρ : List jv} (hx0 : aX ρ0 ρ) {lv : List (Option jv)} {st : List jv} {σ : Nat → jcell} (hc : aCx F (aHp C K n JX ρ0 σ0) K n S ρ lv st σ) (h : aNx F (aHp C K n JX ρ0 σ0) K n J ρ L) : jlast σ n st fun σ' r => J p lv r σ' := by
  unfold aLs at hb
  split at hb
  next x i a r hs =>
    obtain ⟨u, w, s, rfl, h0, h1, h3⟩ := aSk_2 (hs ▸ hc.2.2.1)
    obtain ⟨v, s8, rfl, h2, h8⟩ := aSk_1 h3
    split at hb
    next A q hB hA hq =>
      obtain ⟨y, rfl⟩ := aG_lng (aTy_ok hc.1 hB h0)
      obtain ⟨x, rfl, hx⟩ := aG_int (aTy_ok hc.1 hA h1)
      obtain ⟨b, rfl, h4, h5, h6, h7⟩ := aAr_ok hc.1 hc.2.2.2.2.1 hq h2
      split at hb
      next hz =>
        cases hb
        obtain ⟨z1, z3, z5, z8⟩ := hz
        rw [decide_eq_true_eq] at z1
        obtain ⟨p9, m1, m2, m3, m4⟩ := hc.2.2.2.1
        obtain ⟨g, e1⟩ := aCe_larr h7 z1
        have hi := aLi_ok hc.1 h1
        obtain ⟨i1, i2, i3⟩ := aBd_ok hc.1 m3 z3 hi
        simp only [jlast, e1]
        refine ⟨h4, z1, i1, ?_⟩
        obtain ⟨p1, p2, p3, p4⟩ := hc.2.2.2.2
        have hi2 : aVa ρ (aLi S.2.2.1 i) (x.toNatClampNeg : Int) := by rw [i3]; exact hi
        have hw := aWr_ok hc.1 hx0 hE m3 (by rw [← h5] at z8; exact z8) hi2
        refine aNx_in h List.mem_cons_self aX_rf ⟨hc.1, hc.2.1, h8, ⟨p9, aCa_arr m1 e1, fun z hz => ?_, m3, by rw [← h5]; exact aFx_app (by have q9 := aPndl_ok hD.2.1 m4 h2 h1 h0; unfold jstl at q9; rw [e1] at q9; exact q9) (aFkl_ok hD m4)⟩, aH_up p1 (fun d hd => ?_), (hJ _ _ h4 p2).1 _ (by rw [h5]; exact z5), aFr_arr p3 e1, aFa_lng p4 e1 hw⟩
        · rcases List.mem_cons.mp hz with rfl | hz
          · exact ⟨b, _, _, .inr (vp_updL g x.toNatClampNeg y), x.toNatClampNeg, h2, jup_s, i2, hi2, by show _ = (some (.inr (.inl (vp_updL g x.toNatClampNeg y x.toNatClampNeg))) : Option jv); rw [show vp_updL g x.toNatClampNeg y x.toNatClampNeg = y from by unfold vp_updL; rw [if_pos rfl]]; exact h0⟩
          · rw [← h5] at hz
            exact aCk_ok hc.1 m2 z hz
        rw [h6] at hd
        cases hd
        exact ⟨rfl, rfl, z1⟩
      next => cases hb
    next => cases hb
  next => cases hb
noncomputable def aLen (C : aCf) (S : aS) (p : Nat) : Option (List (Nat × aS)) := match S.2.1 with
  | a :: r => (match aAr C.1 S.2.2.1 a with
    | some q => if q.2.1 ∈ jtys ∧ q.2.2.1 ≤ 2147483647 then some [(p, aPu S r (.inl ((q.2.2.1 : Int), (q.2.2.1 : Int))) (some ([], (q.2.2.1 : Int))))] else none
    | none => (match aTj C.2.1 S.2.2.1 a with
      | some q => if q.2.1 ≤ 2147483647 then some [(p, aPu S r (.inl ((q.2.1 : Int), (q.2.1 : Int))) (some ([], (q.2.1 : Int))))] else none
      | none => none))
  | _ => none
theorem aNi {k : Nat} (h : k ≤ 2147483647) : aIn ((k : Int), (k : Int)) (Int32.ofNat k) ∧ (Int32.ofNat k).toInt = (k : Int) := by
  have e : (Int32.ofNat k).toInt = (k : Int) := Int32.toInt_ofNat_of_lt (by omega)
  exact ⟨⟨by rw [e]; exact Int.le_refl _, by rw [e]; exact Int.le_refl _⟩, e⟩
theorem aNk {ρ : List jv} {k : Nat} (h : k ≤ 2147483647) : aRl ρ (some ([], (k : Int))) (.inl (Int32.ofNat k)) := by
  show aVa ρ _ (Int32.ofNat k).toInt
  rw [(aNi h).2]
  exact aVa_k _
theorem aLen_ok (hT : aTB C.2.1 tb) {S : aS} {p : Nat} {L : List (Nat × aS)} (hb : aLen C S p = some L) {ρ : List jv} {lv : List (Option jv)} {st : List jv} {σ : Nat → jcell} (hc : aCx F (aHp C K n JX ρ0 σ0) K n S ρ lv st σ) (h : aNx F (aHp C K n JX ρ0 σ0) K n J ρ L) : jalen tb σ n st fun x r => J p lv (.inl x :: r) σ := by
  unfold aLen at hb
  split at hb
  next a r hs =>
    obtain ⟨v, s, rfl, h2, h3⟩ := aSk_1 (hs ▸ hc.2.2.1)
    split at hb
    next q hq =>
      obtain ⟨b, rfl, h4, h5, h6, h7⟩ := aAr_ok hc.1 hc.2.2.2.2.1 hq h2
      split at hb
      next hz =>
        cases hb
        have hj := aPu_ok (t := .inl ((q.2.2.1 : Int), (q.2.2.1 : Int))) (v := .inl (Int32.ofNat q.2.2.1)) hc h3 (aNi hz.2).1 (aNk hz.2) h
        by_cases hl : q.2.1 = .long
        · obtain ⟨g, e1⟩ := aCe_larr h7 hl
          simp only [jalen, e1]
          exact ⟨h4, hz.1, hj⟩
        · obtain ⟨g, e1, -⟩ := aCe_arr h7 hl
          simp only [jalen, e1]
          exact ⟨h4, hz.1, hj⟩
      next => cases hb
    next =>
      split at hb
      next q hq =>
        split at hb
        next hz =>
          cases hb
          unfold aTj at hq
          split at hq
          next j hj =>
            split at hq
            next hlt =>
              obtain rfl := aG_tab hlt (aTy_ok hc.1 hj h2)
              obtain ⟨s1, s2, s3, g, e1, e2, e3⟩ := hT j q hq
              simp only [jalen, e1]
              exact aPu_ok (t := .inl ((q.2.1 : Int), (q.2.1 : Int))) (v := .inl (Int32.ofNat q.2.1)) hc h3 (aNi hz).1 (aNk hz) h
            next => cases hq
          next => cases hq
        next => cases hb
      next => cases hb
  next => cases hb
end ASH
end
section
/-! one step of the check against one step of the machine -/
section ASW
variable {K : Nat → Nat} {n : Nat} {P : Type} {F : aFt P} {J : jN} {C : aCf} {tb : jTb} {JX : (Nat → jcell) → Prop} {ρ0 : List jv} {σ0 : Nat → jcell}
noncomputable def aBt (py : jP) : FieldType := if py.1 = 0 then .byte else .boolean
noncomputable def aI2b (A : Int × Int) : Int × Int := if aSb A (-128, 127) = true then A else (-128, 127)
theorem aI2b_ok {A : Int × Int} {x : Int32} (h : aIn A x) : aIn (aI2b A) x.toInt8.toInt32 := by
  unfold aI2b
  split
  next hs => rw [show x.toInt8.toInt32 = x from aRg_ok (ty := .byte) (aSb_ok hs h)]; exact h
  next => exact aB_ok x
noncomputable def aI2c (A : Int × Int) : Int × Int := if aSb A (0, 65535) = true then A else (if aSb A (-65536, -1) = true then (A.1 + 65536, A.2 + 65536) else (0, 65535))
theorem aI2c_e {A : Int × Int} {x : Int32} (h : aIn A x) (hs : aSb A (0, 65535) = true) : (x.toUInt32 % 65536).toInt32 = x := by
  obtain ⟨h1, h2⟩ := aSb_ok hs h
  dsimp only at h1 h2
  obtain ⟨e1, e2⟩ := aNat (x := x) h1
  rw [← Int32.toBitVec_inj]
  apply BitVec.eq_of_toNat_eq
  show (x.toUInt32 % 65536).toNat = x.toBitVec.toNat
  rw [UInt32.toNat_mod]
  show x.toBitVec.toNat % 65536 = _
  omega
theorem aI2c_ok {A : Int × Int} {x : Int32} (h : aIn A x) : aIn (aI2c A) (x.toUInt32 % 65536).toInt32 := by
  unfold aI2c
  split
  next hs => rw [aI2c_e h hs]; exact h
  next =>
    split
    next hs =>
      obtain ⟨h1, h2⟩ := aSb_ok hs h
      dsimp only at h1 h2
      obtain ⟨g1, g2⟩ := h
      have k1 : (x.toBitVec.toNat : Int) = x.toInt + 4294967296 := by
        have e9 : x.toInt = x.toBitVec.toInt := rfl
        have e8 := x.toBitVec.isLt
        rw [e9, BitVec.toInt_eq_toNat_cond] at h1 h2 ⊢
        split at h1
        · omega
        · rename_i hh
          rw [if_neg hh]
          omega
      have k3 : ((x.toUInt32 % 65536).toInt32).toBitVec.toNat = x.toBitVec.toNat % 65536 := by
        show (x.toUInt32 % 65536).toNat = _
        rw [UInt32.toNat_mod]
        rfl
      have k5 := aNat' k3 (by omega)
      exact ⟨by dsimp only; omega, by dsimp only; omega⟩
    next => exact aC_ok x
noncomputable def aAnd2 (A B : Int × Int) : Int × Int := if A.1 = A.2 ∧ B.1 = B.2 ∧ 0 ≤ A.1 ∧ 0 ≤ B.1 then (((A.1.toNat &&& B.1.toNat : Nat) : Int), ((A.1.toNat &&& B.1.toNat : Nat) : Int)) else aAnd A B
theorem aAnd2_ok {A B : Int × Int} {x y : Int32} (h1 : aIn A x) (h2 : aIn B y) : aIn (aAnd2 A B) (x &&& y) := by
  unfold aAnd2
  split
  next h =>
    obtain ⟨a1, a2⟩ := h1
    obtain ⟨b1, b2⟩ := h2
    obtain ⟨e1, e2⟩ := aNat (x := x) (by omega)
    obtain ⟨e3, e4⟩ := aNat (x := y) (by omega)
    have k1 : x.toBitVec.toNat = A.1.toNat := by omega
    have k2 : y.toBitVec.toNat = B.1.toNat := by omega
    have k3 : (x &&& y).toBitVec.toNat = A.1.toNat &&& B.1.toNat := by rw [Int32.toBitVec_and, BitVec.toNat_and, k1, k2]
    have k4 : A.1.toNat &&& B.1.toNat ≤ A.1.toNat := Nat.and_le_left
    have k5 := aNat' k3 (by omega)
    exact ⟨by dsimp only; omega, by dsimp only; omega⟩
  next => exact aAnd_ok h1 h2
noncomputable def aOr2 (A B : Int × Int) : Int × Int := if A.1 = A.2 ∧ B.1 = B.2 ∧ 0 ≤ A.1 ∧ 0 ≤ B.1 ∧ A.1 < 2147483648 ∧ B.1 < 2147483648 then (((A.1.toNat ||| B.1.toNat : Nat) : Int), ((A.1.toNat ||| B.1.toNat : Nat) : Int)) else aOr A B
theorem aOr2_ok {A B : Int × Int} {x y : Int32} (h1 : aIn A x) (h2 : aIn B y) : aIn (aOr2 A B) (x ||| y) := by
  unfold aOr2
  split
  next h =>
    obtain ⟨a1, a2⟩ := h1
    obtain ⟨b1, b2⟩ := h2
    obtain ⟨e1, e2⟩ := aNat (x := x) (by omega)
    obtain ⟨e3, e4⟩ := aNat (x := y) (by omega)
    have k1 : x.toBitVec.toNat = A.1.toNat := by omega
    have k2 : y.toBitVec.toNat = B.1.toNat := by omega
    have k3 : (x ||| y).toBitVec.toNat = A.1.toNat ||| B.1.toNat := by rw [Int32.toBitVec_or, BitVec.toNat_or, k1, k2]
    have k4 : A.1.toNat ||| B.1.toNat < 2 ^ 31 := Nat.or_lt_two_pow (by omega) (by omega)
    have k5 := aNat' k3 (by omega)
    exact ⟨by dsimp only; omega, by dsimp only; omega⟩
  next => exact aOr_ok h1 h2
noncomputable def aXor2 (A B : Int × Int) : Int × Int := if A.1 = A.2 ∧ B.1 = B.2 ∧ 0 ≤ A.1 ∧ 0 ≤ B.1 ∧ A.1 < 2147483648 ∧ B.1 < 2147483648 then (((A.1.toNat ^^^ B.1.toNat : Nat) : Int), ((A.1.toNat ^^^ B.1.toNat : Nat) : Int)) else aOr A B
theorem aXor2_ok {A B : Int × Int} {x y : Int32} (h1 : aIn A x) (h2 : aIn B y) : aIn (aXor2 A B) (x ^^^ y) := by
  unfold aXor2
  split
  next h =>
    obtain ⟨a1, a2⟩ := h1
    obtain ⟨b1, b2⟩ := h2
    obtain ⟨e1, e2⟩ := aNat (x := x) (by omega)
    obtain ⟨e3, e4⟩ := aNat (x := y) (by omega)
    have k1 : x.toBitVec.toNat = A.1.toNat := by omega
    have k2 : y.toBitVec.toNat = B.1.toNat := by omega
    have k3 : (x ^^^ y).toBitVec.toNat = A.1.toNat ^^^ B.1.toNat := by rw [Int32.toBitVec_xor, BitVec.toNat_xor, k1, k2]
    have k4 : A.1.toNat ^^^ B.1.toNat < 2 ^ 31 := Nat.xor_lt_two_pow (by omega) (by omega)
    have k5 := aNat' k3 (by omega)
    exact ⟨by dsimp only; omega, by dsimp only; omega⟩
  next => exact aXor_ok h1 h2
/-- a quotient gets a name -/
noncomputable def aQn (S : aS) (x : Nat) (A : Int × Int) (c : Int) : aS × Nat := match aQf S x A c with
  | some j => (S, j)
  | none => ((S.1, S.2.1, S.2.2.1 ++ [(.inl (A.1 / c, A.2 / c), none)], (S.2.2.2.1, S.2.2.2.2.1, aQcs S.2.2.1 x c ++ S.2.2.2.2.2.1, S.2.2.2.2.2.2)), S.2.2.1.length)
theorem aQn_ok {Hp : (Nat → jcell) → Prop} {S : aS} {x : Nat} {A : Int × Int} {c : Int} {ρ : List jv} {lv : List (Option jv)} {st : List jv} {σ : Nat → jcell} (hc : aCx F Hp K n S ρ lv st σ) {x0 : Int32} (hx : ρ[x]? = some (.inl x0)) (hA : aIn A x0) (hp : 0 < c) {q : Int32} (hq : q.toInt = x0.toInt / c) : ∃ (ρ' : List jv) (z : Int32), aX ρ ρ' ∧ aCx F Hp K n (aQn S x A c).1 ρ' lv st σ ∧ ρ'[(aQn S x A c).2]? = some (.inl z) ∧ z.toInt = x0.toInt / c := by
  unfold aQn
  split
  next j hj =>
    obtain ⟨z1, k1, k2⟩ := aQf_ok hj hp hc hx
    exact ⟨ρ, z1, aX_rf, hc, k1, k2⟩
  next =>
    have hq2 : aIn (A.1 / c, A.2 / c) q := ⟨by rw [hq]; exact Int.ediv_le_ediv hp hA.1, by rw [hq]; exact Int.ediv_le_ediv hp hA.2⟩
    have hcs := aQcs_ok hc.1 hx hp hq
    obtain ⟨c1, c2, c3, ⟨p9, c4⟩, c5⟩ := hc
    have c6 := c4.mo (aX_app (v := (.inl q : jv)))
    exact ⟨ρ ++ [.inl q], q, aX_app, ⟨aR_push (t := .inl (A.1 / c, A.2 / c)) (v := (.inl q : jv)) (r := none) c1 hq2 trivial, c2.mo aX_app, c3.mo aX_app, ⟨p9, c6.1, c6.2.1, fun f hf => (List.mem_append.mp hf).elim (hcs f) (c6.2.2.1 f), c6.2.2.2⟩, c5⟩, aR_new c1, hq⟩
theorem aXor_d : ∀ a, a < 8 → ∀ b, b < 8 → ∀ c, c < 8 → ∀ d, d < 64 → (4096 * a + 512 * b + 64 * c + d) ^^^ 29120 = 4096 * (7 - a) + 512 * b + 64 * (7 - c) + d := by decide +kernel
theorem aXor_n (m : Nat) (h : m < 32768) : ((m ^^^ 29120 : Nat) : Int) = (m : Int) + 29120 - 128 * ((m : Int) / 64) + 1024 * ((m : Int) / 512) - 8192 * ((m : Int) / 4096) := by
  have h1 := aXor_d (m / 4096) (by omega) (m / 512 % 8) (by omega) (m / 64 % 8) (by omega) (m % 64) (by omega)
  rw [show 4096 * (m / 4096) + 512 * (m / 512 % 8) + 64 * (m / 64 % 8) + m % 64 = m by omega] at h1
  rw [h1]
  omega
theorem aDvQ {x : Int32} (h1 : 0 ≤ x.toInt) (h2 : x.toInt ≤ 32767) (c : Nat) (hc : 0 < c) : ∃ q : Int32, q.toInt = x.toInt / (c : Int) := by
  have h3 : x.toInt / (c : Int) ≤ x.toInt := Int.ediv_le_self _ h1
  have h4 : 0 ≤ x.toInt / (c : Int) := Int.ediv_nonneg h1 (by omega)
  exact ⟨nI (x.toInt / (c : Int)).toNat, by rw [nI_toInt (by omega)]; omega⟩
theorem aXor_e : ∀ a, a < 8 → ∀ d, d < 8 → (8 * a + d) ^^^ 56 = 8 * (7 - a) + d := by decide +kernel
theorem aXor_m (m : Nat) (h : m < 64) : ((m ^^^ 56 : Nat) : Int) = (m : Int) + 56 - 16 * ((m : Int) / 8) := by
  have h1 := aXor_e (m / 8) (by omega) (m % 8) (by omega)
  rw [show 8 * (m / 8) + m % 8 = m by omega] at h1
  rw [h1]
  omega
/-- exclusive or: nothing, a square turned, both ranks of a move turned -/
noncomputable def aXr (S : aS) (p : Nat) : Option (List (Nat × aS)) := match S.2.1 with
  | y :: x :: r => match aIv S.2.2.1 x, aIv S.2.2.1 y with
    | some A, some B => if B.1 = 0 ∧ B.2 = 0 then some [(p, (S.1, x :: r, S.2.2.1, S.2.2.2))] else (if B.1 = 56 ∧ B.2 = 56 ∧ 0 ≤ A.1 ∧ A.2 ≤ 63 then some [(p, aPu (aQn S x A 8).1 r (.inl (0, 63)) (some (aFp (aLi (aQn S x A 8).1.2.2.1 x) ([((aQn S x A 8).2, -16)], 56))))] else (if B.1 = 29120 ∧ B.2 = 29120 ∧ 0 ≤ A.1 ∧ A.2 ≤ 32767 then some [(p, aPu (aQn (aQn (aQn S x A 64).1 x A 512).1 x A 4096).1 r (.inl (0, 32767)) (some (aFp (aLi (aQn (aQn (aQn S x A 64).1 x A 512).1 x A 4096).1.2.2.1 x) (aFp ([((aQn S x A 64).2, -128)], 29120) (aFp ([((aQn (aQn S x A 64).1 x A 512).2, 1024)], 0) ([((aQn (aQn (aQn S x A 64).1 x A 512).1 x A 4096).2, -8192)], 0))))))] else none))
    | _, _ => none
  | _ => none
theorem aXr_ok {Hp : (Nat → jcell) → Prop} {S : aS} {p : Nat} {L : List (Nat × aS)} (hb : aXr S p = some L) {ρ : List jv} {lv : List (Option jv)} {st : List jv} {σ : Nat → jcell} (hc : aCx F Hp K n S ρ lv st σ) (h : aNx F Hp K n J ρ L) : j2 st fun x y r => J p lv (.inl (x ^^^ y) :: r) σ := by
  unfold aXr at hb
  split at hb
  next y x r hs =>
    split at hb
    next A B hA hB =>
      obtain ⟨w, v, s, rfl, h1, h2, h3⟩ := aSk_2 (hs ▸ hc.2.2.1)
      obtain ⟨x0, rfl, hx⟩ := aIv_ok hc.1 hA h2
      obtain ⟨y0, rfl, hy⟩ := aIv_ok hc.1 hB h1
      have a1 := hx.1
      have a2 := hx.2
      have y1 := hy.1
      have y2 := hy.2
      split at hb
      next hz =>
        cases hb
        have ey : y0 = 0 := Int32.toInt_inj.mp (by rw [show (0 : Int32).toInt = 0 by decide]; omega)
        show J p lv (.inl (x0 ^^^ y0) :: s) σ
        rw [ey, Int32.xor_zero]
        exact aNx_in h List.mem_cons_self aX_rf ⟨hc.1, hc.2.1, ⟨h2, h3⟩, hc.2.2.2⟩
      next =>
        split at hb
        next hz =>
          obtain ⟨z1, z2, z3, z4⟩ := hz
          have ey : y0.toInt = 56 := by omega
          obtain ⟨q1, e1⟩ := aDvQ (x := x0) (by omega) (by omega) 8 (by decide)
          obtain ⟨ρ1, u1, x1, c1, k1, l1⟩ := aQn_ok hc h2 hx (c := 8) (by decide) e1
          cases hb
          have rx := aLi_ok c1.1 (x1 _ _ h2)
          have rj : aVa ρ1 ([((aQn S x A 8).2, -16)], 56) (-16 * u1.toInt + 56) := ⟨-16 * u1.toInt, by rw [aEv_i (q := ((aQn S x A 8).2, -16)) k1 rfl]; congr 1; exact Int.add_zero _, rfl⟩
          obtain ⟨n1, n2⟩ := aNat (x := x0) (by omega)
          obtain ⟨n3, n4⟩ := aNat (x := y0) (by omega)
          have n5 : (x0 ^^^ y0).toBitVec.toNat = x0.toInt.toNat ^^^ 56 := by
            rw [Int32.toBitVec_xor, BitVec.toNat_xor, show x0.toBitVec.toNat = x0.toInt.toNat by omega, show y0.toBitVec.toNat = 56 by omega]
          have n6 : x0.toInt.toNat ^^^ 56 < 2 ^ 6 := Nat.xor_lt_two_pow (by omega) (by decide)
          have n7 := aNat' n5 (by omega)
          have n8 := aXor_m x0.toInt.toNat (by omega)
          rw [show ((x0.toInt.toNat : Nat) : Int) = x0.toInt by omega] at n8
          refine aPu_ok (t := .inl (0, 63)) (v := .inl (x0 ^^^ y0)) c1 (h3.mo x1) ⟨by dsimp only; omega, by dsimp only; omega⟩ ?_ (fun q9 hq9 ρ' lv' st' σ' hx9 hc9 => h q9 hq9 ρ' lv' st' σ' (x1.tr hx9) hc9)
          show aVa ρ1 _ (x0 ^^^ y0).toInt
          have hv := aVa_p rx rj
          rw [show (x0 ^^^ y0).toInt = x0.toInt + (-16 * u1.toInt + 56) by omega]
          exact hv
        next =>
          split at hb
          next hz =>
            obtain ⟨z1, z2, z3, z4⟩ := hz
            have ey : y0.toInt = 29120 := by omega
            obtain ⟨q1, e1⟩ := aDvQ (x := x0) (by omega) (by omega) 64 (by decide)
            obtain ⟨q2, e2⟩ := aDvQ (x := x0) (by omega) (by omega) 512 (by decide)
            obtain ⟨q3, e3⟩ := aDvQ (x := x0) (by omega) (by omega) 4096 (by decide)
            obtain ⟨ρ1, u1, x1, c1, k1, l1⟩ := aQn_ok hc h2 hx (c := 64) (by decide) e1
            obtain ⟨ρ2, u2, x2, c2, k2, l2⟩ := aQn_ok c1 (x1 _ _ h2) hx (c := 512) (by decide) e2
            obtain ⟨ρ3, u3, x3, c3, k3, l3⟩ := aQn_ok c2 (x2 _ _ (x1 _ _ h2)) hx (c := 4096) (by decide) e3
            cases hb
            have X := x1.tr (x2.tr x3)
            have rx := aLi_ok c3.1 (X _ _ h2)
            have rj : ∀ (j : Nat) (k : Int) (c : Int) (z : Int32), ρ3[j]? = some (.inl z) → aVa ρ3 ([(j, k)], c) (k * z.toInt + c) := fun j k c z hz => ⟨k * z.toInt, by rw [aEv_i (q := (j, k)) hz rfl]; congr 1; exact Int.add_zero _, rfl⟩
            obtain ⟨n1, n2⟩ := aNat (x := x0) (by omega)
            obtain ⟨n3, n4⟩ := aNat (x := y0) (by omega)
            have n5 : (x0 ^^^ y0).toBitVec.toNat = x0.toInt.toNat ^^^ 29120 := by
              rw [Int32.toBitVec_xor, BitVec.toNat_xor, show x0.toBitVec.toNat = x0.toInt.toNat by omega, show y0.toBitVec.toNat = 29120 by omega]
            have n6 : x0.toInt.toNat ^^^ 29120 < 2 ^ 15 := Nat.xor_lt_two_pow (by omega) (by decide)
            have n7 := aNat' n5 (by omega)
            have n8 := aXor_n x0.toInt.toNat (by omega)
            rw [show ((x0.toInt.toNat : Nat) : Int) = x0.toInt by omega] at n8
            refine aPu_ok (t := .inl (0, 32767)) (v := .inl (x0 ^^^ y0)) c3 (h3.mo X) ⟨by dsimp only; omega, by dsimp only; omega⟩ ?_ (fun q9 hq9 ρ' lv' st' σ' hx9 hc9 => h q9 hq9 ρ' lv' st' σ' (X.tr hx9) hc9)
            show aVa ρ3 _ (x0 ^^^ y0).toInt
            have hv := aVa_p rx (aVa_p (rj _ (-128) 29120 u1 ((x2.tr x3) _ _ k1)) (aVa_p (rj _ 1024 0 u2 (x3 _ _ k2)) (rj _ (-8192) 0 u3 k3)))
            rw [show (x0 ^^^ y0).toInt = x0.toInt + (-128 * u1.toInt + 29120 + (1024 * u2.toInt + 0 + (-8192 * u3.toInt + 0))) by omega]
            exact hv
          next => cases hb
    next => cases hb
  next => cases hb
noncomputable def aStp (C : aCf) (I : Instr) (ln : Nat) (py : jP) (pc : Nat) (S : aS) : Option (List (Nat × aS)) := match I with
  | .iconst _ => some [(pc + ln, aPu S S.2.1 (.inl (py.2.2.2.1.toInt, py.2.2.2.1.toInt)) (some ([], py.2.2.2.1.toInt)))]
  | .bipush _ => some [(pc + ln, aPu S S.2.1 (.inl (py.2.2.2.1.toInt, py.2.2.2.1.toInt)) (some ([], py.2.2.2.1.toInt)))]
  | .sipush _ => some [(pc + ln, aPu S S.2.1 (.inl (py.2.2.2.1.toInt, py.2.2.2.1.toInt)) (some ([], py.2.2.2.1.toInt)))]
  | .ldc _ => some [(pc + ln, aPu S S.2.1 (.inl (py.2.2.2.1.toInt, py.2.2.2.1.toInt)) (some ([], py.2.2.2.1.toInt)))]
  | .lconst _ => some [(pc + ln, aPu S S.2.1 (.inr none) (some ([], py.2.2.2.2.toInt)))]
  | .ldc2_w _ => some [(pc + ln, aPu S S.2.1 (.inr none) (some ([], py.2.2.2.2.toInt)))]
  | .iload_n _ => aLd S py.1 0 (pc + ln)
  | .iload k => aLd S k 0 (pc + ln)
  | .lload_n _ => aLd S py.1 1 (pc + ln)
  | .lload k => aLd S k 1 (pc + ln)
  | .aload_n _ => aLd S py.1 2 (pc + ln)
  | .aload k => aLd S k 2 (pc + ln)
  | .istore_n _ => aSo S py.1 0 (pc + ln)
  | .istore k => aSo S k 0 (pc + ln)
  | .lstore_n _ => aSo S py.1 1 (pc + ln)
  | .lstore k => aSo S k 1 (pc + ln)
  | .astore_n _ => aSo S py.1 2 (pc + ln)
  | .astore k => aSo S k 2 (pc + ln)
  | .iinc k _ => aInc S k py.2.2.2.1 (pc + ln)
  | .iadd => aBin aAdd 1 S (pc + ln)
  | .isub => aBin aSub 2 S (pc + ln)
  | .imul => aBin aMul 3 S (pc + ln)
  | .iand => (match aAd S (pc + ln) with
    | some L => some L
    | none => (match aAi S (pc + ln) with
      | some L => some L
      | none => aBin aAnd2 0 S (pc + ln)))
  | .ior => aBin aOr2 5 S (pc + ln)
  | .ixor => (match aXr S (pc + ln) with
    | some L => some L
    | none => aBin aXor2 6 S (pc + ln))
  | .idiv => (match aDv S (pc + ln) with
    | some L => some L
    | none => if aNz S = true then aBin aDiv 0 S (pc + ln) else none)
  | .irem => (match aRm S (pc + ln) with
    | some L => some L
    | none => if aNz S = true then aBin aRem 0 S (pc + ln) else none)
  | .ishl => aBin aShl 4 S (pc + ln)
  | .ishr => aSr S (pc + ln)
  | .iushr => aBin aUsh 0 S (pc + ln)
  | .ineg => aUn (fun A => .inl (aNeg A)) (fun A => if aFit3 (-A.2) (-A.1) = true then some (-1) else none) S (pc + ln)
  | .ladd => aBl 1 S (pc + ln)
  | .lsub => aBl 2 S (pc + ln)
  | .lmul => aBl 3 S (pc + ln)
  | .land => aBl 0 S (pc + ln)
  | .lor => aBl 0 S (pc + ln)
  | .lxor => aBl 0 S (pc + ln)
  | .ldiv => if aNzl S = true then aBl 4 S (pc + ln) else none
  | .lrem => if aNzl S = true then aBl 0 S (pc + ln) else none
  | .lneg => aLneg S (pc + ln)
  | .lshl => aBi S (pc + ln)
  | .lshr => aBi S (pc + ln)
  | .lushr => aBi S (pc + ln)
  | .lcmp => aLcm S (pc + ln)
  | .i2l => aUn (fun _ => .inr none) (fun _ => some 1) S (pc + ln)
  | .l2i => aL2i S (pc + ln)
  | .i2b => aUn (fun A => .inl (aI2b A)) (fun A => if aSb A (-128, 127) = true then some 1 else none) S (pc + ln)
  | .i2c => aUn (fun A => .inl (aI2c A)) (fun A => if aSb A (0, 65535) = true then some 1 else none) S (pc + ln)
  | .dup => aDup S 0 (pc + ln)
  | .pop => aDup S 1 (pc + ln)
  | .dup_x1 => aDup S 2 (pc + ln)
  | .dup_x2 => aDup S 3 (pc + ln)
  | .dup2 => aDup S 4 (pc + ln)
  | .ifCond c _ => aIf1 S c py.1 (pc + ln)
  | .if_icmp c _ => aIf2 S c py.1 (pc + ln)
  | .ifnull _ => aIfn S py.1 (pc + ln)
  | .ifnonnull _ => aIfn S (pc + ln) py.1
  | .goto _ => some [(py.1, S)]
  | .iaload => aAl C .int S (pc + ln)
  | .caload => aAl C .char S (pc + ln)
  | .baload => aAl C (aBt py) S (pc + ln)
  | .laload => aLl C S (pc + ln)
  | .iastore => aAs C .int S (pc + ln)
  | .castore => aAs C .char S (pc + ln)
  | .bastore => aAs C (aBt py) S (pc + ln)
  | .lastore => aLs C S (pc + ln)
  | .arraylength => aLen C S (pc + ln)
  | .getfield _ => aGet C py.1 py.2.1 S (pc + ln)
  | .putfield _ => aPut C py.1 py.2.1 py.2.2.2.1.toNatClampNeg S (pc + ln)
  | .aconst_null => some [(pc + ln, aPu S S.2.1 (.inr (some (.inl (true, C.1.length - 1)))) none)]
  | .getstatic _ => if py.1 < 1000000 then some [(pc + ln, aPu S S.2.1 (.inr (some (.inr py.1))) none)] else none
  | _ => none
theorem aG_st {K : Nat → Nat} {n j : Nat} (hj : j < 1000000) : aG K n (.inr (some (.inr j))) (.inr (.inr (some (.inr j)))) := by
  show (aRj j).1 ≤ j ∧ j ≤ (aRj j).2
  unfold aRj
  rw [if_pos hj]
  exact ⟨Nat.le_refl _, Nat.le_refl _⟩
theorem aCo0 {f : Int32 → Int32 → Int32} : aCop 0 f := ⟨fun h => (by cases h), fun h => (by cases h), fun h => (by cases h), fun h => (by cases h), fun h => (by cases h), fun h => (by cases h)⟩
theorem aCl0 {f : Int64 → Int64 → Int64} : aCol 0 f := ⟨fun h => (by cases h), fun h => (by cases h), fun h => (by cases h), fun h => (by cases h)⟩
theorem aStp_ok (hT : aTB C.2.1 tb) (hJ : aJx K n C.2.2.1 JX) (hD : aDp F K n C.2.2.2.2.2.1) (hE : C.2.2.2.2.2.2 = ρ0.length) {I : Instr} {ln : Nat} {py : jP} {pc : Nat} {S : aS} {L : List (Nat × aS)} (hb : aStp C I ln py pc S = some L) {ρ : List jv} (hx0 : aX ρ0 ρ) {lv : List (Option jv)} {st : List jv} {σ : Nat → jcell} (hc : aCx F (aHp C K n JX ρ0 σ0) K n S ρ lv st σ) (h : aNx F (aHp C K n JX ρ0 σ0) K n J ρ L) : jstep tb n I ln py pc lv st σ J J := by
  have hco : ∀ c : Int32, aNx F (aHp C K n JX ρ0 σ0) K n J ρ [(pc + ln, aPu S S.2.1 (.inl (c.toInt, c.toInt)) (some ([], c.toInt)))] → J (pc + ln) lv (.inl c :: st) σ := fun c h9 => aPu_ok (t := .inl (c.toInt, c.toInt)) (r := some ([], c.toInt)) (v := .inl c) hc hc.2.2.1 ⟨Int.le_refl _, Int.le_refl _⟩ (aVa_k _) h9
  have hlo : ∀ c : Int64, aNx F (aHp C K n JX ρ0 σ0) K n J ρ [(pc + ln, aPu S S.2.1 (.inr none) (some ([], c.toInt)))] → J (pc + ln) lv (.inr (.inl c) :: st) σ := fun c h9 => aPu_ok (t := .inr none) (r := some ([], c.toInt)) (v := .inr (.inl c)) hc hc.2.2.1 trivial (aVa_k _) h9
  cases I
  case iconst => cases hb; exact hco _ h
  case bipush => cases hb; exact hco _ h
  case sipush => cases hb; exact hco _ h
  case ldc => cases hb; exact hco _ h
  case lconst => cases hb; exact hlo _ h
  case ldc2_w => cases hb; exact hlo _ h
  case iload_n => exact aLdi_ok hb hc h
  case iload => exact aLdi_ok hb hc h
  case lload_n => exact aLdl_ok hb hc h
  case lload => exact aLdl_ok hb hc h
  case aload_n => exact aLda_ok hb hc h
  case aload => exact aLda_ok hb hc h
  case istore_n => exact aSoi_ok hb hc h
  case istore => exact aSoi_ok hb hc h
  case lstore_n => exact aSol_ok hb hc h
  case lstore => exact aSol_ok hb hc h
  case astore_n => exact aSoa_ok hb hc h
  case astore => exact aSoa_ok hb hc h
  case iinc => exact aInc_ok hb hc h
  case iadd => exact aBin_ok (f := fun x y => x + y) ⟨fun h => (by cases h), fun h => (by cases h), fun _ _ _ => rfl, fun h => (by cases h), fun h => (by cases h), fun h => (by cases h)⟩ aAdd_ok hb hc h
  case isub => exact aBin_ok (f := fun x y => x - y) ⟨fun h => (by cases h), fun h => (by cases h), fun h => (by cases h), fun _ _ _ => rfl, fun h => (by cases h), fun h => (by cases h)⟩ aSub_ok hb hc h
  case imul => exact aBin_ok (f := fun x y => x * y) ⟨fun h => (by cases h), fun h => (by cases h), fun h => (by cases h), fun h => (by cases h), fun _ _ _ => rfl, fun h => (by cases h)⟩ aMul_ok hb hc h
  case iand =>
    simp only [aStp] at hb
    split at hb
    next L9 hL9 => cases hb; exact aAd_ok hL9 hc h
    next =>
      split at hb
      next L8 hL8 => cases hb; exact aAi_ok hL8 hc h
      next => exact aBin_ok (f := fun x y => x &&& y) aCo0 aAnd2_ok hb hc h
  case ior => exact aBin_ok (f := fun x y => x ||| y) ⟨fun _ _ _ => rfl, fun h => (by cases h), fun h => (by cases h), fun h => (by cases h), fun h => (by cases h), fun h => (by cases h)⟩ aOr2_ok hb hc h
  case ixor =>
    simp only [aStp] at hb
    split at hb
    next L9 hL9 => cases hb; exact aXr_ok hL9 hc h
    next => exact aBin_ok (f := fun x y => x ^^^ y) ⟨fun h => (by cases h), fun _ _ _ => rfl, fun h => (by cases h), fun h => (by cases h), fun h => (by cases h), fun h => (by cases h)⟩ aXor2_ok hb hc h
  case idiv =>
    simp only [aStp] at hb
    split at hb
    next L9 hL9 => cases hb; exact aDv_ok hL9 hc h
    next =>
      split at hb
      next hz => exact aNz_ok hz hc (aBin_ok (f := fun x y => x / y) aCo0 aDiv_ok hb hc h)
      next => cases hb
  case irem =>
    simp only [aStp] at hb
    split at hb
    next L9 hL9 => cases hb; exact aRm_ok hL9 hc h
    next =>
      split at hb
      next hz => exact aNz_ok hz hc (aBin_ok (f := fun x y => x - x / y * y) aCo0 aRem_ok hb hc h)
      next => cases hb
  case ishl => exact aBin_ok (f := fun x y => x <<< (y &&& 31)) ⟨fun h => (by cases h), fun h => (by cases h), fun h => (by cases h), fun h => (by cases h), fun h => (by cases h), fun _ _ _ => rfl⟩ aShl_ok hb hc h
  case ishr => exact aSr_ok hb hc h
  case iushr => exact aBin_ok (f := fun x y => (x.toUInt32 >>> (y.toUInt32 &&& Int32.toUInt32 31)).toInt32) aCo0 aUsh_ok hb hc h
  case ineg =>
    refine aUn_ok (tf := fun A => .inl (aNeg A)) (rf := fun A => if aFit3 (-A.2) (-A.1) = true then some (-1) else none) (g := fun x => .inl (-x)) (fun q => aNeg_ok q) (fun {A x c} q hr => ?_) hb hc h
    split at hr
    next hf =>
      cases hr
      simp only [aFit3, Bool.and_eq_true, decide_eq_true_eq] at hf
      obtain ⟨q1, q2⟩ := q
      show (-x).toInt = -1 * x.toInt
      rw [Int32.toInt_neg, show -1 * x.toInt = -x.toInt by omega]
      exact Int.bmod_eq_of_le (by omega) (by omega)
    next => cases hr
  case ladd => exact aBl_ok (f := fun x y => x + y) ⟨fun _ _ _ => rfl, fun h => (by cases h), fun h => (by cases h), fun h => (by cases h)⟩ hb hc h
  case lsub => exact aBl_ok (f := fun x y => x - y) ⟨fun h => (by cases h), fun _ _ _ => rfl, fun h => (by cases h), fun h => (by cases h)⟩ hb hc h
  case lmul => exact aBl_ok (f := fun x y => x * y) ⟨fun h => (by cases h), fun h => (by cases h), fun _ _ _ => rfl, fun h => (by cases h)⟩ hb hc h
  case land => exact aBl_ok (f := fun x y => x &&& y) aCl0 hb hc h
  case lor => exact aBl_ok (f := fun x y => x ||| y) aCl0 hb hc h
  case lxor => exact aBl_ok (f := fun x y => x ^^^ y) aCl0 hb hc h
  case ldiv =>
    simp only [aStp] at hb
    split at hb
    next hz => exact aNzl_ok hz hc (aBl_ok (f := fun x y => x / y) ⟨fun h => (by cases h), fun h => (by cases h), fun h => (by cases h), fun _ _ _ => rfl⟩ hb hc h)
    next => cases hb
  case lrem =>
    simp only [aStp] at hb
    split at hb
    next hz => exact aNzl_ok hz hc (aBl_ok (f := fun x y => x - x / y * y) aCl0 hb hc h)
    next => cases hb
  case lneg => exact aLneg_ok hb hc h
  case lshl => exact aBi_ok (g := fun x y => x <<< (y.toInt64 &&& 63)) hb hc h
  case lshr => exact aBi_ok (g := fun x y => x >>> (y.toInt64 &&& 63)) hb hc h
  case lushr => exact aBi_ok (g := fun x y => (x.toUInt64 >>> (y.toInt64.toUInt64 &&& Int64.toUInt64 63)).toInt64) hb hc h
  case lcmp => exact aLcm_ok hb hc h
  case i2l =>
    refine aUn_ok (tf := fun _ => .inr none) (rf := fun _ => some 1) (g := fun x => .inr (.inl x.toInt64)) (fun _ => trivial) (fun {A x c} q hr => ?_) hb hc h
    cases hr
    show x.toInt64.toInt = 1 * x.toInt
    rw [Int32.toInt_toInt64]
    omega
  case l2i => exact aL2i_ok hb hc h
  case i2b =>
    refine aUn_ok (tf := fun A => .inl (aI2b A)) (rf := fun A => if aSb A (-128, 127) = true then some 1 else none) (g := fun x => .inl x.toInt8.toInt32) (fun q => aI2b_ok q) (fun {A x c} q hr => ?_) hb hc h
    split at hr
    next hf =>
      cases hr
      show x.toInt8.toInt32.toInt = 1 * x.toInt
      rw [show x.toInt8.toInt32 = x from aRg_ok (ty := .byte) (aSb_ok hf q)]
      omega
    next => cases hr
  case i2c =>
    refine aUn_ok (tf := fun A => .inl (aI2c A)) (rf := fun A => if aSb A (0, 65535) = true then some 1 else none) (g := fun x => .inl (x.toUInt32 % 65536).toInt32) (fun q => aI2c_ok q) (fun {A x c} q hr => ?_) hb hc h
    split at hr
    next hf =>
      cases hr
      show (x.toUInt32 % 65536).toInt32.toInt = 1 * x.toInt
      rw [aI2c_e q hf]
      omega
    next => cases hr
  case dup => exact aDup0_ok hb hc h
  case pop => exact aDup1_ok hb hc h
  case dup_x1 => exact aDup2_ok hb hc h
  case dup_x2 => exact aDup3_ok hb hc h
  case dup2 => exact aDup4_ok hb hc h
  case ifCond => exact aIf1_ok hb hc h
  case if_icmp => exact aIf2_ok hb hc h
  case ifnull => exact aIfn_ok hb hc h
  case ifnonnull =>
    have h9 := aIfn_ok hb hc h
    simp only [jstep]
    unfold ja1 at h9 ⊢
    split at h9
    · exact ⟨h9.2, h9.1⟩
    · exact h9.elim
  case goto => cases hb; exact aNx_in h List.mem_cons_self aX_rf hc
  case iaload => exact aAl_ok hT hb hc h
  case caload => exact aAl_ok hT hb hc h
  case baload => exact aAl_ok hT hb hc h
  case laload => exact aLl_ok hb hc h
  case iastore => exact aAs_ok hJ hD hE hb hx0 hc h
  case castore => exact aAs_ok hJ hD hE hb hx0 hc h
  case bastore => exact aAs_ok hJ hD hE hb hx0 hc h
  case lastore => exact aLs_ok hJ hD hE hb hx0 hc h
  case arraylength => exact aLen_ok hT hb hc h
  case getfield => exact aGet_ok hb hc h
  case putfield => exact aPut_ok hJ hD hb hc h
  case aconst_null =>
    cases hb
    exact aPu_ok (t := .inr (some (.inl (true, C.1.length - 1)))) (v := .inr (.inr none)) (r := none) hc hc.2.2.1 rfl trivial h
  case getstatic =>
    simp only [aStp] at hb
    split at hb
    next hlt =>
      cases hb
      exact aPu_ok (t := .inr (some (.inr py.1))) (v := .inr (.inr (some (.inr py.1)))) (r := none) hc hc.2.2.1 (aG_st hlt) trivial h
    next => cases hb
  all_goals cases hb
end ASW
end
section
/-! from a state to a cut's state; ranks -/
abbrev aSc2 : Type := Nat ⊕ (Nat ⊕ (Nat × Nat))
section ASX
variable {K : Nat → Nat} {n : Nat} {P : Type} {F : aFt P} {C : aCf} {JX : (Nat → jcell) → Prop} {ρ0 : List jv} {σ0 : Nat → jcell}
/-- a field's value gets a name -/
noncomputable def aOf (T : List aKd) (env : List aE) (o f : Nat) : Option aT := match aKi env o with
  | some k => (match T[k]? with
    | some (.inr q) => q.2[f]?
    | _ => none)
  | none => none
noncomputable def aRd (C : aCf) (S : aS) (o f : Nat) : Option (aS × Nat) := match aFind S.2.2.2.1 o f with
  | some v => some (S, v)
  | none => (match aOf C.1 S.2.2.1 o f with
    | some t => some ((S.1, S.2.1, S.2.2.1 ++ [(t, none)], ((o, f, S.2.2.1.length) :: S.2.2.2.1, S.2.2.2.2)), S.2.2.1.length)
    | none => none)
theorem aRd_ok {S S' : aS} {o f v : Nat} (h : aRd C S o f = some (S', v)) {ρ : List jv} {lv : List (Option jv)} {st : List jv} {σ : Nat → jcell} (hc : aCx F (aHp C K n JX ρ0 σ0) K n S ρ lv st σ) : ∃ ρ', aX ρ ρ' ∧ aCx F (aHp C K n JX ρ0 σ0) K n S' ρ' lv st σ ∧ ∃ (a c : Nat) (fs : List jv) (x : jv), ρ'[o]? = some (.inr (.inr (some (.inl a)))) ∧ σ a = .inr (c, fs) ∧ fs[f]? = some x ∧ ρ'[v]? = some x := by
  obtain ⟨c1, c2, c3, ⟨p9, m0, m9⟩, c5⟩ := hc
  unfold aRd at h
  split at h
  next v1 hv =>
    cases h
    exact ⟨ρ, aX_rf, ⟨c1, c2, c3, ⟨p9, m0, m9⟩, c5⟩, m0 _ (aFind_in hv)⟩
  next =>
    split at h
    next t ht =>
      cases h
      unfold aOf at ht
      split at ht
      next k hk =>
        split at ht
        next q hq =>
          have hko : o < ρ.length := by
            unfold aKi at hk
            split at hk
            next k1 hk1 =>
              unfold aTy at hk1
              split at hk1
              next e1 he1 => rw [c1.1]; exact (List.getElem?_eq_some_iff.mp he1).1
              next => cases hk1
            next => cases hk
          have hv : ρ[o]? = some (ρ[o]'hko) := List.getElem?_eq_getElem hko
          obtain ⟨a, ha, h1, h2⟩ := aKi_ok c1 hk hv
          rw [ha] at hv
          obtain ⟨fs, e1, e2⟩ := aCe_obj (c5.1 a h1 _ (by rw [h2]; exact hq))
          have hl : f < fs.length := by rw [e2.1]; exact (List.getElem?_eq_some_iff.mp ht).1
          have hx : fs[f]? = some fs[f] := List.getElem?_eq_getElem hl
          have m8 : aMm F p9 ρ σ S.2.2.2 := ⟨m0, m9⟩
          refine ⟨ρ ++ [fs[f]], aX_app, ⟨aR_push (r := none) c1 (e2.2 f _ _ ht hx) trivial, c2.mo aX_app, c3.mo aX_app, ⟨p9, fun z hz => ?_, (m8.mo aX_app).2⟩, c5⟩, a, q.1, fs, fs[f], aX_app _ _ hv, e1, hx, aR_new c1⟩
          rcases List.mem_cons.mp hz with rfl | hz
          · exact ⟨a, q.1, fs, fs[f], aX_app _ _ hv, e1, hx, aR_new c1⟩
          · exact (m0.mo aX_app) z hz
        next => cases ht
      next => cases ht
    next => cases h
theorem aKi_lt {env : List aE} {o k : Nat} (hk : aKi env o = some k) : o < env.length := by
  unfold aKi at hk
  split at hk
  next k1 hk1 =>
    unfold aTy at hk1
    split at hk1
    next e1 he1 => exact (List.getElem?_eq_some_iff.mp he1).1
    next => cases hk1
  next => cases hk
/-- a cell of a row of ints gets a name -/
noncomputable def aRc (C : aCf) (S : aS) (a c : Nat) : Option (aS × Nat) := match aFc2 S.2.2.2.2.1 a ([], (c : Int)) with
  | some v => some (S, v)
  | none => (match aAr C.1 S.2.2.1 a with
    | some q => if ¬ q.2.1 = .long ∧ c < q.2.2.1 then some ((S.1, S.2.1, S.2.2.1 ++ [(.inl q.2.2.2.1, none)], (S.2.2.2.1, (a, ([], (c : Int)), S.2.2.1.length) :: S.2.2.2.2.1, S.2.2.2.2.2)), S.2.2.1.length) else none
    | none => none)
theorem aRc_ok {S S' : aS} {a c v : Nat} (h : aRc C S a c = some (S', v)) {ρ : List jv} {lv : List (Option jv)} {st : List jv} {σ : Nat → jcell} (hc : aCx F (aHp C K n JX ρ0 σ0) K n S ρ lv st σ) : ∃ ρ', aX ρ ρ' ∧ aCx F (aHp C K n JX ρ0 σ0) K n S' ρ' lv st σ := by
  obtain ⟨c1, c2, c3, ⟨p9, m1, m2, m3, m4⟩, c5⟩ := hc
  unfold aRc at h
  split at h
  next v1 hv =>
    cases h
    exact ⟨ρ, aX_rf, ⟨c1, c2, c3, ⟨p9, m1, m2, m3, m4⟩, c5⟩⟩
  next =>
    split at h
    next q hq =>
      split at h
      next hz =>
        cases h
        have hko : a < ρ.length := by
          have hq' := hq
          unfold aAr at hq'
          split at hq'
          next k hk => rw [c1.1]; exact aKi_lt hk
          next => cases hq'
        have hv : ρ[a]? = some (ρ[a]'hko) := List.getElem?_eq_getElem hko
        obtain ⟨b, e0, h4, h5, h6, h7⟩ := aAr_ok c1 c5.1 hq hv
        rw [e0] at hv
        obtain ⟨g, e1, e2⟩ := aCe_arr h7 hz.1
        have hR2 := aR_push (t := .inl q.2.2.2.1) (r := none) (v := .inl (g c)) c1 (e2 _ hz.2).1 trivial
        refine ⟨ρ ++ [.inl (g c)], aX_app, ⟨hR2, c2.mo aX_app, c3.mo aX_app, ⟨p9, m1.mo aX_app, fun z hz2 => ?_, fun f hf => (m3 f hf).mo aX_app, m4.mo aX_app⟩, c5⟩⟩
        rcases List.mem_cons.mp hz2 with rfl | hz2
        · exact ⟨b, _, _, .inl g, c, aX_app _ _ hv, e1, hz.2, aVa_k _, aR_new c1⟩
        · exact (m2.mo aX_app) z hz2
      next => cases h
    next => cases h
/-- a name out of a fact -/
noncomputable def aFnd (fx : List (Nat × List Nat)) (r j : Nat) : Option Nat := match fx.find? (fun q => Nat.beq q.1 r) with
  | some q => q.2[j]?
  | none => none
/-- the j-th name inside of the form of a name -/
noncomputable def aFin (S : aS) (m : List Nat) (i : Nat) : Option Nat := match m[i / 16]? with
  | some k => (match S.2.2.1[k]? with
    | some (_, some f) => (match f.1[i % 16]? with
      | some q => some q.1
      | none => none)
    | _ => none)
  | none => none
/-- where a cut's names are found: a local, a place of the stack, a field of a name before it -/
noncomputable def aMp (C : aCf) : aS → List Nat → List aSc2 → Option (aS × List Nat)
  | S, m, [] => some (S, m)
  | S, m, .inl i :: r => (match S.1[i]? with
    | some (some k) => aMp C S (m ++ [k]) r
    | _ => none)
  | S, m, .inr (.inl i) :: r => (match (if i < 1000 then S.2.1[i]? else (if i < 1000000 then aFnd S.2.2.2.2.2.2 ((i - 1000) / 16) ((i - 1000) % 16) else aFin S m (i - 1000000))) with
    | some k => aMp C S (m ++ [k]) r
    | _ => none)
  | S, m, .inr (.inr q) :: r => (match m[q.1]? with
    | some o => (match (if q.2 < 1000 then aRd C S o q.2 else aRc C S o (q.2 - 1000)) with
      | some z => aMp C z.1 (m ++ [z.2]) r
      | none => none)
    | none => none)
theorem aMp_ok : ∀ {src : List aSc2} {S S' : aS} {m m' : List Nat}, aMp C S m src = some (S', m') → ∀ {ρ : List jv} {lv : List (Option jv)} {st : List jv} {σ : Nat → jcell}, aCx F (aHp C K n JX ρ0 σ0) K n S ρ lv st σ → (∃ z, m' = m ++ z) ∧ ∃ ρ', aX ρ ρ' ∧ aCx F (aHp C K n JX ρ0 σ0) K n S' ρ' lv st σ
  | [], S, S', m, m', h, ρ, lv, st, σ, hc => by
    unfold aMp at h
    cases h
    exact ⟨⟨[], by simp⟩, ρ, aX_rf, hc⟩
  | .inl i :: r, S, S', m, m', h, ρ, lv, st, σ, hc => by
    unfold aMp at h
    split at h
    next k hk =>
      obtain ⟨⟨z, rfl⟩, h2⟩ := aMp_ok h hc
      exact ⟨⟨k :: z, by simp⟩, h2⟩
    next => cases h
  | .inr (.inl i) :: r, S, S', m, m', h, ρ, lv, st, σ, hc => by
    unfold aMp at h
    split at h
    next k hk =>
      obtain ⟨⟨z, rfl⟩, h2⟩ := aMp_ok h hc
      exact ⟨⟨k :: z, by simp⟩, h2⟩
    next => cases h
  | .inr (.inr q) :: r, S, S', m, m', h, ρ, lv, st, σ, hc => by
    unfold aMp at h
    split at h
    next o ho =>
      split at h
      next z hz =>
        have hz' : ∃ ρ', aX ρ ρ' ∧ aCx F (aHp C K n JX ρ0 σ0) K n z.1 ρ' lv st σ := by
          split at hz
          · obtain ⟨ρ1, x1, c1, -⟩ := aRd_ok hz hc
            exact ⟨ρ1, x1, c1⟩
          · exact aRc_ok hz hc
        obtain ⟨ρ1, x1, c1⟩ := hz'
        obtain ⟨⟨z2, rfl⟩, ρ2, x2, c2⟩ := aMp_ok h c1
        exact ⟨⟨z.2 :: z2, by simp⟩, ρ2, x1.tr x2, c2⟩
      next => cases h
    next => cases h
noncomputable def aAllE (env : List aE) (cs : List aF) : List Nat → List aE → Bool
  | [], [] => true
  | k :: m, e :: r => (aLx env cs k e.1 && (match e.2 with
      | none => true
      | some _ => false)) && aAllE env cs m r
  | _, _ => false
theorem aAllE_no {env : List aE} {cs : List aF} : ∀ {m : List Nat} {es : List aE}, aAllE env cs m es = true → ∀ (i : Nat) (e : aE), es[i]? = some e → e.2 = none
  | [], [], _, i, e, h => by simp at h
  | [], _ :: _, h, _, _, _ => by cases h
  | _ :: _, [], h, _, _, _ => by cases h
  | k :: m, e0 :: r, h, i, e, he => by
    unfold aAllE at h
    rw [Bool.and_eq_true] at h
    obtain ⟨h1, h2⟩ := h
    cases i with
    | zero =>
      cases he
      rw [Bool.and_eq_true] at h1
      have g2 := h1.2
      split at g2
      next h5 => exact h5
      next => cases g2
    | succ i => exact aAllE_no h2 i e (by simpa using he)
theorem aAllE_ok {env : List aE} {ρ : List jv} (hR : aR K n env ρ) {cs : List aF} (hcs : ∀ f ∈ cs, aHd ρ f) : ∀ {m : List Nat} {es : List aE}, aAllE env cs m es = true → aR K n es (aVal ρ m) ∧ aWm ρ m
  | [], [], _ => ⟨⟨rfl, fun i e v h => by simp at h⟩, fun i k h => by simp at h⟩
  | [], _ :: _, h => by cases h
  | _ :: _, [], h => by cases h
  | k :: m, e :: r, h => by
    have hno := aAllE_no h
    unfold aAllE at h
    rw [Bool.and_eq_true] at h
    obtain ⟨h1, h2⟩ := h
    obtain ⟨i1, i2⟩ := aAllE_ok hR hcs h2
    rw [Bool.and_eq_true] at h1
    obtain ⟨g1, g2⟩ := h1
    have hk : k < ρ.length := by rw [hR.1]; exact aLx_lt g1
    have hv : ρ[k]? = some (ρ[k]'hk) := List.getElem?_eq_getElem hk
    refine ⟨⟨by simpa [aVal] using i1.1, fun i e1 v he1 hv1 => ?_⟩, fun i k1 hk1 => ?_⟩
    · refine ⟨?_, by rw [hno i e1 he1]; trivial⟩
      cases i with
      | zero =>
        cases he1
        have e9 : v = ρ[k]'hk := by
          rw [aVal_at (i := 0) (k := k) rfl hv] at hv1
          exact (Option.some.inj hv1).symm
        subst e9
        exact aLx_ok hR hcs g1 hv
      | succ i => exact (i1.2 i e1 v (by simpa using he1) (by simpa [aVal] using hv1)).1
    · cases i with
      | zero => cases hk1; exact hk
      | succ i => exact i2 i k1 (by simpa using hk1)
noncomputable def aAllL (m : List Nat) : List (Option Nat) → List (Option Nat) → Bool
  | [], [] => true
  | a :: r, s :: q => (match a with
    | none => true
    | some i => (match m[i]? with
      | some k => decide (s = some k)
      | none => false)) && aAllL m r q
  | _, _ => false
noncomputable def aAllS (m : List Nat) : List Nat → List Nat → Bool
  | [], [] => true
  | i :: r, s :: q => decide (m[i]? = some s) && aAllS m r q
  | _, _ => false
noncomputable def aAllC (m : List Nat) (cc : List (Nat × Nat × Nat)) : List (Nat × Nat × Nat) → Bool
  | [] => true
  | q :: r => (match m[q.1]?, m[q.2.2]? with
    | some o, some v => decide (aFind cc o q.2.1 = some v)
    | _, _ => false) && aAllC m cc r
theorem aAllL_ok {m : List Nat} : ∀ {al sl : List (Option Nat)}, aAllL m al sl = true → al.length = sl.length ∧ ∀ (i k : Nat), al[i]? = some (some k) → ∃ k1 : Nat, m[k]? = some k1 ∧ sl[i]? = some (some k1)
  | [], [], _ => ⟨rfl, fun i k h => by simp at h⟩
  | [], _ :: _, h => by cases h
  | _ :: _, [], h => by cases h
  | a :: r, s :: q, h => by
    unfold aAllL at h
    rw [Bool.and_eq_true] at h
    obtain ⟨h1, h2⟩ := h
    obtain ⟨i1, i2⟩ := aAllL_ok h2
    refine ⟨by simp [i1], fun i k hk => ?_⟩
    cases i with
    | zero =>
      cases hk
      dsimp only at h1
      split at h1
      next k1 hk1 =>
        rw [decide_eq_true_eq] at h1
        subst h1
        exact ⟨k1, hk1, rfl⟩
      next => cases h1
    | succ i => exact i2 i k (by simpa using hk)
theorem aAllS_ok {ρ : List jv} {m : List Nat} : ∀ {al sl : List Nat} {st : List jv}, aAllS m al sl = true → aSk ρ sl st → aSk (aVal ρ m) al st
  | [], [], [], _, _ => trivial
  | [], [], _ :: _, _, hs => hs.elim
  | [], _ :: _, _, h, _ => by cases h
  | _ :: _, [], _, h, _ => by cases h
  | i :: r, s :: q, st, h, hs => by
    unfold aAllS at h
    rw [Bool.and_eq_true, decide_eq_true_eq] at h
    obtain ⟨v, t, rfl, h1, h2⟩ := aSk_1 hs
    exact ⟨aVal_at h.1 h1, aAllS_ok h.2 h2⟩
theorem aAllC_ok {ρ : List jv} {m : List Nat} {σ : Nat → jcell} {cc : List (Nat × Nat × Nat)} (hc : aCa ρ σ cc) : ∀ {ca : List (Nat × Nat × Nat)}, aAllC m cc ca = true → aCa (aVal ρ m) σ ca
  | [], _ => fun q hq => by cases hq
  | q :: r, h => by
    unfold aAllC at h
    rw [Bool.and_eq_true] at h
    obtain ⟨h1, h2⟩ := h
    intro z hz
    rcases List.mem_cons.mp hz with rfl | hz
    · split at h1
      next o v ho hv =>
        rw [decide_eq_true_eq] at h1
        obtain ⟨a, c, fs, w, m1, m2, m3, m4⟩ := hc _ (aFind_in h1)
        exact ⟨a, c, fs, w, aVal_at ho m1, m2, m3, aVal_at hv m4⟩
      next => cases h1
    · exact aAllC_ok hc h2 z hz
noncomputable def aAllN (env : List aE) (cs : List aF) (m : List Nat) (as : List aF) : Bool := as.all (fun c => match aSb2 env m c with
  | some g => aPr env cs 3 g
  | none => false)
theorem aAllN_ok {env : List aE} {ρ : List jv} (hR : aR K n env ρ) {cs : List aF} (hc : ∀ f ∈ cs, aHd ρ f) {m : List Nat} (hm : aWm ρ m) {as : List aF} (h : aAllN env cs m as = true) : ∀ f ∈ as, aHd (aVal ρ m) f := by
  intro f hf
  have h1 := List.all_eq_true.mp h f hf
  split at h1
  next g hg =>
    obtain ⟨z, z1, z2⟩ := aSb2_ok hR hm hg
    exact aHd_va.mpr ⟨z, z1, aPr_ok hR hc h1 z2⟩
  next => cases h1
theorem aVs_val {ρ : List jv} {m : List Nat} (hm : aWm ρ m) : ∀ {is : List Nat} {vs : List jv}, is.all (fun i => decide (i < m.length)) = true → aVs ρ (is.map (fun i => m.getD i 0)) = some vs → aVs (aVal ρ m) is = some vs
  | [], vs, _, h => h
  | i :: r, vs, ha, h => by
    rw [List.all_cons, Bool.and_eq_true] at ha
    have hi : i < m.length := of_decide_eq_true ha.1
    have h0 : m[i]? = some (m[i]'hi) := List.getElem?_eq_getElem hi
    have e0 : m.getD i 0 = m[i]'hi := by simp [List.getD, h0]
    rw [List.map_cons, e0] at h
    unfold aVs at h ⊢
    split at h
    next v s h1 h2 =>
      rw [aVal_at h0 h1, aVs_val hm ha.2 h2]
      exact h
    next => cases h
noncomputable def aAllX (m : List Nat) (fx as : List (Nat × List Nat)) : Bool := as.all (fun q => q.2.all (fun i => decide (i < m.length)) && decide ((q.1, q.2.map (fun i => m.getD i 0)) ∈ fx))
theorem aAllX_ok {p : P} {ρ : List jv} {m : List Nat} (hm : aWm ρ m) {σ : Nat → jcell} {fx as : List (Nat × List Nat)} (hf : aFx F p ρ σ fx) (h : aAllX m fx as = true) : aFx F p (aVal ρ m) σ as := by
  intro q hq
  have h1 := List.all_eq_true.mp h q hq
  rw [Bool.and_eq_true] at h1
  obtain ⟨vs, v1, v2⟩ := hf _ (of_decide_eq_true h1.2)
  exact ⟨vs, aVs_val hm h1.1 v1, v2⟩
noncomputable def aNil (A : aM) : Bool := match A.2.1 with
  | [] => true
  | _ => false
noncomputable def aInB (S A : aS) (m : List Nat) : Bool := aAllE S.2.2.1 S.2.2.2.2.2.1 m A.2.2.1 && (aAllL m A.1 S.1 && (aAllS m A.2.1 S.2.1 && (aAllC m S.2.2.2.1 A.2.2.2.1 && (aNil A.2.2.2 && (aAllN S.2.2.1 S.2.2.2.2.2.1 m A.2.2.2.2.2.1 && aAllX m S.2.2.2.2.2.2 A.2.2.2.2.2.2)))))
theorem aInB_ok {Hp : (Nat → jcell) → Prop} {S A : aS} {m : List Nat} (h : aInB S A m = true) {ρ : List jv} {lv : List (Option jv)} {st : List jv} {σ : Nat → jcell} (hc : aCx F Hp K n S ρ lv st σ) : aCx F Hp K n A (aVal ρ m) lv st σ ∧ aWm ρ m := by
  simp only [aInB, Bool.and_eq_true] at h
  obtain ⟨h1, h2, h3, h4, h5, h6, h7⟩ := h
  obtain ⟨c1, c2, c3, ⟨p, m1, m2, m3, m4⟩, c5⟩ := hc
  obtain ⟨i1, i2⟩ := aAllE_ok c1 m3 h1
  obtain ⟨l1, l2⟩ := aAllL_ok h2
  refine ⟨⟨i1, ⟨l1.trans c2.1, fun i k hk => ?_⟩, aAllS_ok h3 c3, ⟨p, aAllC_ok m1 h4, fun q hq => ?_, aAllN_ok c1 m3 i2 h6, aAllX_ok i2 m4 h7⟩, c5⟩, i2⟩
  · obtain ⟨k1, m1, m2⟩ := l2 i k hk
    obtain ⟨v, v1, v2⟩ := c2.2 i k1 m2
    exact ⟨v, aVal_at m1 v1, v2⟩
  · unfold aNil at h5
    split at h5
    next e => rw [e] at hq; cases hq
    next => cases h5
/-! ranks -/
noncomputable def aRn (ρ : List jv) (f : aF) : Nat := match aEv ρ f.1 with
  | some z => (z + f.2).toNat
  | none => 0
theorem aRn_ok {ρ : List jv} {f : aF} {z : Int} (h : aVa ρ f z) : aRn ρ f = z.toNat := by
  obtain ⟨y, y1, rfl⟩ := h
  unfold aRn
  rw [y1]
noncomputable def aLt : List Nat → List Nat → Prop
  | x :: a, y :: b => a.length = b.length ∧ (x < y ∨ (x = y ∧ aLt a b))
  | _, _ => False
theorem aLt_acc : ∀ (k : Nat) (l : List Nat), l.length = k → Acc aLt l
  | 0, [], _ => Acc.intro _ (fun l h => by cases l <;> exact h.elim)
  | k + 1, x :: a, hl => by
    have ih : ∀ b : List Nat, b.length = k → Acc aLt b := fun b hb => aLt_acc k b hb
    have key : ∀ (x : Nat) (a : List Nat), a.length = k → Acc aLt (x :: a) := by
      intro x
      induction x using Nat.strongRecOn with
      | ind x ihx =>
        intro a ha
        have hacc := ih a ha
        induction hacc with
        | intro a _ iha =>
          refine Acc.intro _ (fun l hl => ?_)
          cases l with
          | nil => exact hl.elim
          | cons y b =>
            obtain ⟨e, h | ⟨h1, h2⟩⟩ := hl
            · exact ihx y h b (e.trans ha)
            · subst h1
              exact iha b h2 (e.trans ha)
    exact key x a (by simpa using hl)
  | 0, _ :: _, h => by simp at h
  | k + 1, [], h => by simp at h
noncomputable def aRs (env : List aE) (cs : List aF) (m : List Nat) : List aF → List aF → Bool
  | o :: os, w :: ws => decide (os.length = ws.length) && (match aSb2 env (List.range env.length) o, aSb2 env m w with
    | some O, some W => (aPr env cs 2 (aFp ([], -1) (aFp O (aFm (-1) W))) && aPr env cs 2 W) || (aPr env cs 2 (aFp O (aFm (-1) W)) && aRs env cs m os ws)
    | _, _ => false)
  | _, _ => false
theorem aRs_ok {env : List aE} {ρ : List jv} (hR : aR K n env ρ) {cs : List aF} (hc : ∀ f ∈ cs, aHd ρ f) {m : List Nat} (hm : aWm ρ m) : ∀ {os ws : List aF}, aRs env cs m os ws = true → aLt (ws.map (aRn (aVal ρ m))) (os.map (aRn ρ))
  | [], _, h => by unfold aRs at h; cases h
  | _ :: _, [], h => by unfold aRs at h; cases h
  | o :: os, w :: ws, h => by
    unfold aRs at h
    rw [Bool.and_eq_true, decide_eq_true_eq] at h
    obtain ⟨h1, h2⟩ := h
    refine ⟨by simp [h1], ?_⟩
    split at h2
    next O W hO hW =>
      rw [← hR.1] at hO
      obtain ⟨x, x1, x2⟩ := aSb2_ok hR (aWm_rg aX_rf) hO
      rw [aVal_rg aX_rf] at x1
      obtain ⟨y, y1, y2⟩ := aSb2_ok hR hm hW
      rw [aRn_ok x1, aRn_ok y1]
      rw [Bool.or_eq_true, Bool.and_eq_true, Bool.and_eq_true] at h2
      rcases h2 with ⟨h2, h3⟩ | ⟨h2, h3⟩
      · have e1 := aPr_ok hR hc h2 (aVa_p (aVa_k (-1)) (aVa_p x2 (aVa_m (-1) y2)))
        have e2 := aPr_ok hR hc h3 y2
        left
        omega
      · have e1 := aPr_ok hR hc h2 (aVa_p x2 (aVa_m (-1) y2))
        rcases Nat.lt_or_eq_of_le (show y.toNat ≤ x.toNat by omega) with h4 | h4
        · exact Or.inl h4
        · exact Or.inr ⟨h4, aRs_ok hR hc hm h3⟩
    next => cases h2
end ASX
end
section
/-! calls over contracts of the same form -/
abbrev aCon : Type := jY × Bool × Nat × (List aE × aM) × (Option aT × List aT × aM × List (List aF)) × (List (Nat × Nat) × List (Nat × aF)) × Room
noncomputable def aPe (G : aCon) : List aE := G.2.2.2.1.1 ++ (G.2.2.2.2.1.1.toList ++ G.2.2.2.2.1.2.1).map (fun t => (t, none))
/-- what a method of a contract does -/
noncomputable def aMe {P : Type} (F : aFt P) (l : Launch) (E : jE) (cl : List vw_C) (tb : jTb) (Ts : List Jvm.Cond) (T : List aKd) (K : Nat → Nat) (n : Nat) (JX : (Nat → jcell) → Prop) (G : aCon) : Prop := ∀ (p : P) (σ : Nat → jcell) (ρ : List jv), aH T K n σ → JX σ → aR K n G.2.2.2.1.1 ρ → aMm F p ρ σ G.2.2.2.1.2 → jMet l E cl tb Ts G.1 G.2.2.2.2.2.2 (ρ.take G.2.2.1) σ n (fun r σ' n' => n' = n ∧ aH T K n σ' ∧ JX σ' ∧ aFr K n G.2.2.2.2.2.1.1 σ σ' ∧ aFa K n G.2.2.2.2.2.1.2 ρ σ σ' ∧ r.isSome = G.2.2.2.2.1.1.isSome ∧ ∃ xs, aR K n (aPe G) (ρ ++ (r.toList ++ xs)) ∧ aMm F p (ρ ++ (r.toList ++ xs)) σ' G.2.2.2.2.1.2.2.1 ∧ ∃ A ∈ G.2.2.2.2.1.2.2.2, ∀ f ∈ A, aHd (ρ ++ (r.toList ++ xs)) f)
/-- what the tables say of it -/
noncomputable def aGd (Ts : List Jvm.Cond) (G : aCon) : Prop := G.2.2.2.2.2.2.cells = 0 ∧ G.2.2.2.2.2.2.slots = 0 ∧ (if G.2.1 = true then jmth Ts G.1 G.2.2.1 ∧ Jvm.Cond.static G.1.1 ∈ jTA Ts else jmth Ts G.1 (G.2.2.1 - 1) ∧ Jvm.Cond.instanceMethod G.1.1 ∈ jTA Ts ∧ Jvm.Cond.selects G.1.1.cls G.1.1 G.1.1 ∈ jTA Ts)
/-! facts with moves made before them: a shift of the ghost -/
/-- facts from number 1600 on don't look at the ghost -/
noncomputable def aFre (r : Nat) : Bool := Nat.ble 1600 (r % 65536) && Nat.ble (r % 65536) 6399
noncomputable def aShf {P : Type} (F : aFt P) (sh : P → List jv → P) : Prop := (∀ (p : P) (r : Nat) (vs ms : List jv) (σ : Nat → jcell), ¬ r = 0 → r % 16 ≤ vs.length → (F p r (vs ++ ms) σ ↔ F (sh p ms) r vs σ)) ∧ ∀ (p p' : P) (r : Nat) (vs : List jv) (σ : Nat → jcell), aFre r = true → F p r vs σ → F p' r vs σ
noncomputable def aGr (q : Nat × List Nat) : Bool := decide (¬ q.1 = 0) && decide (q.1 % 16 ≤ q.2.length)
noncomputable def aNo0 (fx : List (Nat × List Nat)) : Bool := fx.all aGr
section ASY
variable {K : Nat → Nat} {n : Nat} {P : Type} {F : aFt P} {C : aCf} {JX : (Nat → jcell) → Prop} {ρ0 : List jv} {σ0 : Nat → jcell}
/-- fields that a contract names -/
noncomputable def aMpf (C : aCf) : aS → List Nat → List (Nat × Nat × Nat) → Option (aS × List Nat)
  | S, m, [] => some (S, m)
  | S, m, q :: r => (match m[q.1]? with
    | some o => (match aRd C S o q.2.1 with
      | some z => if q.2.2 = m.length then aMpf C z.1 (m ++ [z.2]) r else (if m[q.2.2]? = some z.2 then aMpf C z.1 m r else none)
      | none => none)
    | none => none)
theorem aMpf_ok : ∀ {fs : List (Nat × Nat × Nat)} {S S' : aS} {m m' : List Nat}, aMpf C S m fs = some (S', m') → ∀ {ρ : List jv} {lv : List (Option jv)} {st : List jv} {σ : Nat → jcell}, aCx F (aHp C K n JX ρ0 σ0) K n S ρ lv st σ → (∃ z, m' = m ++ z) ∧ ∃ ρ', aX ρ ρ' ∧ aCx F (aHp C K n JX ρ0 σ0) K n S' ρ' lv st σ ∧ S'.2.1 = S.2.1 ∧ ∀ q ∈ fs, ∃ (a c o v : Nat) (gs : List jv) (x : jv), m'[q.1]? = some o ∧ m'[q.2.2]? = some v ∧ ρ'[o]? = some (.inr (.inr (some (.inl a)))) ∧ σ a = .inr (c, gs) ∧ gs[q.2.1]? = some x ∧ ρ'[v]? = some x
  | [], S, S', m, m', h, ρ, lv, st, σ, hc => by
    unfold aMpf at h
    cases h
    exact ⟨⟨[], by simp⟩, ρ, aX_rf, hc, rfl, fun q hq => by cases hq⟩
  | q :: r, S, S', m, m', h, ρ, lv, st, σ, hc => by
    unfold aMpf at h
    split at h
    next o ho =>
      split at h
      next z hz =>
        obtain ⟨ρ1, x1, c1, a, c, gs, x, k1, k2, k3, k4⟩ := aRd_ok hz hc
        have hst : z.1.2.1 = S.2.1 := by
          unfold aRd at hz
          split at hz
          · cases hz; rfl
          · split at hz
            · cases hz; rfl
            · cases hz
        split at h
        next e =>
          obtain ⟨⟨z2, rfl⟩, ρ2, x2, c2, s2, h2⟩ := aMpf_ok h c1
          refine ⟨⟨z.2 :: z2, by simp⟩, ρ2, x1.tr x2, c2, s2.trans hst, fun q9 hq9 => ?_⟩
          rcases List.mem_cons.mp hq9 with rfl | hq9
          · refine ⟨a, c, o, z.2, gs, x, ?_, ?_, x2 _ _ k1, k2, k3, x2 _ _ k4⟩
            · rw [List.append_assoc, List.getElem?_append_left (List.getElem?_eq_some_iff.mp ho).1]; exact ho
            · rw [e, List.append_assoc, List.getElem?_append_right (Nat.le_refl _)]; simp
          · exact h2 q9 hq9
        next e =>
          split at h
          next e2 =>
            obtain ⟨⟨z2, rfl⟩, ρ2, x2, c2, s2, h2⟩ := aMpf_ok h c1
            refine ⟨⟨z2, rfl⟩, ρ2, x1.tr x2, c2, s2.trans hst, fun q9 hq9 => ?_⟩
            rcases List.mem_cons.mp hq9 with rfl | hq9
            · refine ⟨a, c, o, z.2, gs, x, ?_, ?_, x2 _ _ k1, k2, k3, x2 _ _ k4⟩
              · rw [List.getElem?_append_left (List.getElem?_eq_some_iff.mp ho).1]; exact ho
              · rw [List.getElem?_append_left (List.getElem?_eq_some_iff.mp e2).1]; exact e2
            · exact h2 q9 hq9
          next => cases h
      next => cases h
    next => cases h
theorem aMpf_ca {ρ : List jv} {m : List Nat} {fs : List (Nat × Nat × Nat)} {σ : Nat → jcell} (h : ∀ q ∈ fs, ∃ (a c o v : Nat) (gs : List jv) (x : jv), m[q.1]? = some o ∧ m[q.2.2]? = some v ∧ ρ[o]? = some (.inr (.inr (some (.inl a)))) ∧ σ a = .inr (c, gs) ∧ gs[q.2.1]? = some x ∧ ρ[v]? = some x) : aCa (aVal ρ m) σ fs := fun q hq => by
  obtain ⟨a, c, o, v, gs, x, h1, h2, h3, h4, h5, h6⟩ := h q hq
  exact ⟨a, c, gs, x, aVal_at h1 h3, h4, h5, aVal_at h2 h6⟩
/-- cells that a contract names -/
noncomputable def aAllB (env : List aE) (m : List Nat) (cb as : List (Nat × aF × Nat)) : Bool := as.all (fun q => match m[q.1]?, m[q.2.2]?, aSb2 env m q.2.1 with
  | some a, some v, some g => cb.any (fun z => Nat.beq z.1 a && (Nat.beq z.2.2 v && ((aFp z.2.1 (aFm (-1) g)).1.isEmpty && decide ((aFp z.2.1 (aFm (-1) g)).2 = 0))))
  | _, _, _ => false)
theorem aAllB_ok {env : List aE} {ρ : List jv} (hR : aR K n env ρ) {m : List Nat} (hm : aWm ρ m) {σ : Nat → jcell} {cb as : List (Nat × aF × Nat)} (hb : aCb ρ σ cb) (h : aAllB env m cb as = true) : aCb (aVal ρ m) σ as := fun q hq => by
  have h1 := List.all_eq_true.mp h q hq
  split at h1
  next a v g ha hv hg =>
    obtain ⟨w, w1, w2⟩ := List.any_eq_true.mp h1
    rw [Bool.and_eq_true, Bool.and_eq_true, Bool.and_eq_true] at w2
    obtain ⟨w2, w3, w4, w5⟩ := w2
    obtain ⟨b, l, ty, g9, i, k1, k2, k3, k4, k5⟩ := hb _ w1
    rw [Nat.eq_of_beq_eq_true w2] at k1
    rw [Nat.eq_of_beq_eq_true w3] at k5
    obtain ⟨z, z1, z2⟩ := aSb2_ok hR hm hg
    have e : z = (i : Int) := by
      obtain ⟨u, u1, u2⟩ := aVa_p k4 (aVa_m (-1) z2)
      have u3 : (aFp w.2.1 (aFm (-1) g)).1 = [] := List.isEmpty_iff.mp w4
      have u4 : (aFp w.2.1 (aFm (-1) g)).2 = 0 := of_decide_eq_true w5
      rw [u3] at u1
      have u5 : u = 0 := by
        unfold aEv at u1
        exact (Option.some.inj u1).symm
      omega
    exact ⟨b, l, ty, g9, i, aVal_at ha k1, k2, k3, by rw [← e]; exact z1, aVal_at hv k5⟩
  next => cases h1
/-! facts: the rest behind a prefix -/
noncomputable def aPfx : List Nat → List Nat → Option (List Nat)
  | [], ys => some ys
  | x :: xs, y :: ys => if x = y then aPfx xs ys else none
  | _ :: _, [] => none
noncomputable def aRst (r : Nat) (is : List Nat) : List (Nat × List Nat) → Option (List Nat)
  | [] => none
  | q :: t => if q.1 = r then (match aPfx is q.2 with
    | some ms => some ms
    | none => aRst r is t) else aRst r is t
noncomputable def aMs (m : List Nat) (fx : List (Nat × List Nat)) : List (Nat × List Nat) → Option (List Nat)
  | [] => some []
  | q :: _ => aRst q.1 (q.2.map (fun i => m.getD i 0)) fx
noncomputable def aAllY (m ms : List Nat) (fx as : List (Nat × List Nat)) : Bool := as.all (fun q => aGr q && (q.2.all (fun i => decide (i < m.length)) && decide ((q.1, q.2.map (fun i => m.getD i 0) ++ ms) ∈ fx)))
theorem aVs_app {ρ : List jv} : ∀ {is ms : List Nat} {vs : List jv}, aVs ρ (is ++ ms) = some vs → ∃ a b, aVs ρ is = some a ∧ aVs ρ ms = some b ∧ vs = a ++ b
  | [], ms, vs, h => ⟨[], vs, rfl, h, rfl⟩
  | i :: r, ms, vs, h => by
    rw [List.cons_append] at h
    unfold aVs at h
    split at h
    next v s h1 h2 =>
      cases h
      obtain ⟨a, b, e1, e2, rfl⟩ := aVs_app h2
      refine ⟨v :: a, b, ?_, e2, rfl⟩
      unfold aVs
      rw [h1, e1]
    next => cases h
theorem aVs_app2 {ρ : List jv} : ∀ {is ms : List Nat} {a b : List jv}, aVs ρ is = some a → aVs ρ ms = some b → aVs ρ (is ++ ms) = some (a ++ b)
  | [], ms, a, b, h1, h2 => by cases h1; exact h2
  | i :: r, ms, a, b, h1, h2 => by
    unfold aVs at h1
    split at h1
    next v s k1 k2 =>
      cases h1
      rw [List.cons_append]
      unfold aVs
      rw [k1, aVs_app2 k2 h2]
      rfl
    next => cases h1
theorem aVs_val2 {ρ : List jv} {m : List Nat} (hm : aWm ρ m) : ∀ {is : List Nat} {vs : List jv}, is.all (fun i => decide (i < m.length)) = true → aVs (aVal ρ m) is = some vs → aVs ρ (is.map (fun i => m.getD i 0)) = some vs
  | [], vs, _, h => h
  | i :: r, vs, ha, h => by
    rw [List.all_cons, Bool.and_eq_true] at ha
    have hi : i < m.length := of_decide_eq_true ha.1
    have h0 : m[i]? = some (m[i]'hi) := List.getElem?_eq_getElem hi
    have e0 : m.getD i 0 = m[i]'hi := by simp [List.getD, h0]
    rw [List.map_cons, e0]
    unfold aVs at h ⊢
    split at h
    next v s h1 h2 =>
      rw [aVal_in h0 (hm _ _ h0) h1, aVs_val2 hm ha.2 h2]
      exact h
    next => cases h
theorem aVs_len {ρ : List jv} : ∀ {is : List Nat} {vs : List jv}, aVs ρ is = some vs → vs.length = is.length
  | [], vs, h => by cases h; rfl
  | i :: r, vs, h => by
    unfold aVs at h
    split at h
    next v s h1 h2 =>
      cases h
      simp [aVs_len h2]
    next => cases h
theorem aGr_ok {q : Nat × List Nat} (h : aGr q = true) : ¬ q.1 = 0 ∧ q.1 % 16 ≤ q.2.length := by
  unfold aGr at h
  rw [Bool.and_eq_true] at h
  exact ⟨of_decide_eq_true h.1, of_decide_eq_true h.2⟩
theorem aAllY_ok {sh : P → List jv → P} (hS : aShf F sh) {p : P} {ρ : List jv} {m ms : List Nat} (hm : aWm ρ m) {mv : List jv} (hv : aVs ρ ms = some mv) {σ : Nat → jcell} {fx as : List (Nat × List Nat)} (hf : aFx F p ρ σ fx) (h : aAllY m ms fx as = true) : aFx F (sh p mv) (aVal ρ m) σ as := by
  intro q hq
  have h1 := List.all_eq_true.mp h q hq
  rw [Bool.and_eq_true, Bool.and_eq_true] at h1
  obtain ⟨h0, h1, h2⟩ := h1
  obtain ⟨vs, v1, v2⟩ := hf _ (of_decide_eq_true h2)
  obtain ⟨a, b, e1, e2, rfl⟩ := aVs_app v1
  rw [hv] at e2
  cases e2
  obtain ⟨g1, g2⟩ := aGr_ok h0
  refine ⟨a, aVs_val hm h1 e1, (hS.1 p q.1 a mv σ g1 ?_).mp v2⟩
  rw [aVs_len e1, List.length_map]
  exact g2
/-! what is left behind a call -/
noncomputable def aKp (env : List aE) (md : List (Nat × Nat)) (q : Nat × Nat × Nat) : Bool := match aKi env q.1 with
  | some k => decide (¬ (k, q.2.1) ∈ md)
  | none => false
theorem aKp_ok {env : List aE} {ρ : List jv} (hR : aR K n env ρ) {md : List (Nat × Nat)} {σ σ' : Nat → jcell} {cc : List (Nat × Nat × Nat)} (h : aCa ρ σ cc) (hf : aFr K n md σ σ') : aCa ρ σ' (cc.filter (aKp env md)) := by
  intro q hq
  obtain ⟨q1, q2⟩ := List.mem_filter.mp hq
  obtain ⟨a, c, fs, v, m1, m2, m3, m4⟩ := h q q1
  unfold aKp at q2
  split at q2
  next k hk =>
    rw [decide_eq_true_eq] at q2
    obtain ⟨b, e1, e2, e3⟩ := aKi_ok hR hk m1
    cases e1
    obtain ⟨fs', f1, -, f2⟩ := hf a e2 c fs m2
    exact ⟨a, c, fs', v, m1, f1, f2 _ _ m3 (by rw [e3]; exact q2), m4⟩
  next => cases q2
noncomputable def aKc (env : List aE) (cs : List aF) (m : List Nat) (mk : List (Nat × aF)) (q : Nat × aF × Nat) : Bool := match aKi env q.1 with
  | some k => mk.all (fun z => decide (¬ z.1 = k) || (match aSb2 env m z.2 with
    | some g => aPr env cs 2 (aFp ([], -1) (aFp g (aFm (-1) q.2.1)))
    | none => false))
  | none => false
theorem aKc_ok {env : List aE} {ρ : List jv} (hR : aR K n env ρ) {cs : List aF} (hc : ∀ f ∈ cs, aHd ρ f) {m : List Nat} (hm : aWm ρ m) {mk : List (Nat × aF)} {σ σ' : Nat → jcell} {cb : List (Nat × aF × Nat)} (h : aCb ρ σ cb) (hf : aFa K n mk (aVal ρ m) σ σ') : aCb ρ σ' (cb.filter (aKc env cs m mk)) := by
  intro q hq
  obtain ⟨q1, q2⟩ := List.mem_filter.mp hq
  obtain ⟨a, l, ty, g, i, k1, k2, k3, k4, k5⟩ := h q q1
  unfold aKc at q2
  split at q2
  next k hk =>
    obtain ⟨b, e1, e2, e3⟩ := aKi_ok hR hk k1
    cases e1
    have hw : aFw K mk (aVal ρ m) a i := fun z hz ez => by
      have h9 := List.all_eq_true.mp q2 z hz
      rw [Bool.or_eq_true] at h9
      rcases h9 with h9 | h9
      · exact absurd (ez.trans e3) (of_decide_eq_true h9)
      · split at h9
        next g9 hg9 =>
          obtain ⟨y, y1, y2⟩ := aSb2_ok hR hm hg9
          have := aPr_ok hR hc h9 (aVa_p (aVa_k (-1)) (aVa_p y2 (aVa_m (-1) k4)))
          exact ⟨y, y1, by omega⟩
        next => cases h9
    rcases g with g | g
    · obtain ⟨g', f1, f2⟩ := (hf a e2).1 ty l g k2
      exact ⟨a, l, ty, .inl g', i, k1, f1, k3, k4, by show _ = (some (.inl (g' i)) : Option jv); rw [f2 i hw]; exact k5⟩
    · obtain ⟨g', f1, f2⟩ := (hf a e2).2 ty l g k2
      exact ⟨a, l, ty, .inr g', i, k1, f1, k3, k4, by show _ = (some (.inr (.inl (g' i))) : Option jv); rw [f2 i hw]; exact k5⟩
  next => cases q2
noncomputable def aKx (dep : List (List aDe)) (env : List aE) (cs : List aF) (m : List Nat) (md : List (Nat × Nat)) (mk : List (Nat × aF)) (q : Nat × List Nat) : Bool := aDl dep q.1 && (aDg dep q.1).all (fun e => e.2.1.all (fun f => decide (¬ (e.1, f) ∈ md)) && mk.all (fun z => decide (¬ z.1 = e.1) || (match e.2.2 with
  | some f => (match aSb2 env q.2 f, aSb2 env m z.2 with
    | some g, some b => aPr env cs 2 (aFp b (aFm (-1) g))
    | _, _ => false)
  | none => false)))
noncomputable def aRwi (T : List aKd) (k : Nat) : Bool := match T[k]? with
  | some (.inl q) => decide (¬ q.1 = .long)
  | _ => false
noncomputable def aDT (dep : List (List aDe)) (T : List aKd) : Bool := dep.all (fun ks => ks.all (fun e => decide (e.1 < T.length) && (match e.2.2 with
  | some _ => aRwi T e.1
  | none => true)))
theorem aDT_in {T : List aKd} {dep : List (List aDe)} (hDT : aDT dep T = true) {r : Nat} {e : aDe} (he : e ∈ aDg dep r) : e.1 < T.length ∧ (e.2.2.isSome = true → aRwi T e.1 = true) := by
  have key : ∀ (k : Nat) (e : aDe), e ∈ dep.getD k [] → e.1 < T.length ∧ (e.2.2.isSome = true → aRwi T e.1 = true) := by
    intro r e he
    have hm : dep.getD r [] ∈ dep := by
      by_cases hi : r < dep.length
      · have : dep.getD r [] = dep[r]'hi := by simp [List.getD, List.getElem?_eq_getElem hi]
        rw [this]
        exact List.getElem_mem hi
      · have : dep.getD r [] = [] := by simp [List.getD, List.getElem?_eq_none (show dep.length ≤ r by omega)]
        rw [this] at he
        cases he
    have h1 := List.all_eq_true.mp (List.all_eq_true.mp hDT _ hm) _ he
    rw [Bool.and_eq_true] at h1
    refine ⟨of_decide_eq_true h1.1, fun hs => ?_⟩
    have h2 := h1.2
    split at h2
    next => exact h2
    next e9 => rw [e9] at hs; cases hs
  unfold aDg at he
  split at he
  next => exact key _ e he
  next =>
    obtain ⟨e0, e1, rfl⟩ := List.mem_map.mp he
    exact ⟨(key _ e0 e1).1, fun hs => by cases hs⟩
theorem aKx_ok {T : List aKd} {dep : List (List aDe)} (hD : aDp F K n dep) (hDT : aDT dep T = true) {p : P} {env : List aE} {ρ : List jv} (hR : aR K n env ρ) {cs : List aF} (hc : ∀ f ∈ cs, aHd ρ f) {m : List Nat} (hm : aWm ρ m) {md : List (Nat × Nat)} {mk : List (Nat × aF)} {σ σ' : Nat → jcell} (hH : aH T K n σ) {fx : List (Nat × List Nat)} (h : aFx F p ρ σ fx) (h1 : aFr K n md σ σ') (h2 : aFa K n mk (aVal ρ m) σ σ') : aFx F p ρ σ' (fx.filter (aKx dep env cs m md mk)) := by
  intro q hq
  obtain ⟨q1, q2⟩ := List.mem_filter.mp hq
  obtain ⟨q0, q2⟩ := (Bool.and_eq_true _ _ ▸ q2 : _ ∧ _)
  obtain ⟨vs, v1, v2⟩ := h q q1
  refine ⟨vs, v1, hD.1 p q.1 vs σ σ' q0 (fun a ha e he hk => ?_) v2⟩
  have h3 := List.all_eq_true.mp q2 e he
  rw [Bool.and_eq_true] at h3
  obtain ⟨h3, h4⟩ := h3
  obtain ⟨h5, h6⟩ := aDT_in hDT he
  rw [hk] at h5
  have h9 := hH a ha _ (List.getElem?_eq_getElem h5)
  rcases hc9 : σ a with ⟨t, l, g | g | g⟩ | ⟨c, fs⟩
  · obtain ⟨g', e1, e2⟩ := (h2 a ha).1 t l g hc9
    by_cases hn : ∀ z ∈ mk, ¬ z.1 = e.1
    · refine Or.inl ?_
      rw [e1, show g' = g from funext (fun i => e2 i (fun z hz ez => absurd (ez.trans hk.symm) (hn z hz)))]
    · cases hf : e.2.2 with
      | none =>
        exfalso
        apply hn
        intro z hz ez
        have h7 := List.all_eq_true.mp h4 z hz
        rw [hf, Bool.or_eq_true] at h7
        rcases h7 with h7 | h7
        · exact of_decide_eq_true h7 ez
        · cases h7
      | some f =>
        obtain ⟨w1, w2⟩ := aVs_al v1
        have hz0 : ∃ z ∈ mk, z.1 = e.1 := by
          apply Classical.byContradiction
          intro hcon
          exact hn (fun z hz ez => hcon ⟨z, hz, ez⟩)
        have hb : ∀ z ∈ mk, z.1 = e.1 → ∃ (x y : Int), aVa vs f x ∧ aVa (aVal ρ m) z.2 y ∧ x ≤ y := by
          intro z hz ez
          have h7 := List.all_eq_true.mp h4 z hz
          rw [hf, Bool.or_eq_true] at h7
          rcases h7 with h7 | h7
          · exact absurd ez (of_decide_eq_true h7)
          · dsimp only at h7
            split at h7
            next g1 b1 hg1 hb1 =>
              obtain ⟨x, x1, x2⟩ := aSb2_ok hR w2 hg1
              obtain ⟨y, y1, y2⟩ := aSb2_ok hR hm hb1
              have := aPr_ok hR hc h7 (aVa_p y2 (aVa_m (-1) x2))
              rw [← w1] at x1
              exact ⟨x, y, x1, y1, by omega⟩
            next => cases h7
        obtain ⟨z0, z1, z2⟩ := hz0
        obtain ⟨x0, y0, x1, -, -⟩ := hb z0 z1 z2
        refine Or.inr (Or.inr ⟨t, l, g, g', f, x0, hf, x1, rfl, e1, fun i hi => e2 i (fun z hz ez => ?_)⟩)
        obtain ⟨x, y, k1, k2, k3⟩ := hb z hz (ez.trans hk.symm)
        have := aVa_f k1 x1
        exact ⟨y, k2, by omega⟩
  · obtain ⟨g', e1, e2⟩ := (h2 a ha).2 t l g hc9
    refine Or.inl ?_
    have hn : ∀ z ∈ mk, ¬ z.1 = e.1 := by
      intro z hz ez
      have h7 := List.all_eq_true.mp h4 z hz
      rw [Bool.or_eq_true] at h7
      rcases h7 with h7 | h7
      · exact of_decide_eq_true h7 ez
      · split at h7
        next f hf =>
          have h8 := h6 (by rw [hf]; rfl)
          unfold aRwi at h8
          rw [hk, List.getElem?_eq_getElem h5] at h8
          rw [hc9] at h9
          generalize T[K a] = d at h8 h9
          rcases d with q9 | q9
          · exact of_decide_eq_true h8 h9.2.2
          · cases h8
        next => cases h7
    rw [e1, show g' = g from funext (fun i => e2 i (fun z hz ez => absurd (ez.trans hk.symm) (hn z hz)))]
  · rw [hc9] at h9
    unfold aCe at h9
    split at h9 <;> first | exact h9.elim | (rename_i he9; cases he9) | skip
  · obtain ⟨fs', e1, e2, e3⟩ := h1 a ha c fs hc9
    refine Or.inr (Or.inl ⟨c, fs, fs', rfl, e1, e2, fun f hf => ?_⟩)
    have h7 := of_decide_eq_true (List.all_eq_true.mp h3 f hf)
    by_cases hi : f < fs.length
    · have hv : fs[f]? = some fs[f] := List.getElem?_eq_getElem hi
      rw [e3 f _ hv (by rw [← hk]; exact h7), hv]
    · rw [List.getElem?_eq_none (by omega), List.getElem?_eq_none (by omega)]
theorem aFr_tr {md md' : List (Nat × Nat)} {σ0 σ σ' : Nat → jcell} (h1 : aFr K n md σ0 σ) (h2 : aFr K n md' σ σ') (hm : ∀ q ∈ md', q ∈ md) : aFr K n md σ0 σ' := by
  intro a ha c fs h0
  obtain ⟨fs1, e1, el, e2⟩ := h1 a ha c fs h0
  obtain ⟨fs2, e3, em, e4⟩ := h2 a ha c fs1 e1
  exact ⟨fs2, e3, em.trans el, fun f v hv hn => e4 f v (e2 f v hv hn) (fun q => hn (hm _ q))⟩
theorem aFr_rf {md : List (Nat × Nat)} {σ : Nat → jcell} : aFr K n md σ σ := fun _ _ _ fs h => ⟨fs, h, rfl, fun _ _ hv _ => hv⟩
theorem aFa_rf {mk : List (Nat × aF)} {σ : Nat → jcell} {ρ : List jv} : aFa K n mk ρ σ σ := fun _ _ => ⟨fun _ _ g h => ⟨g, h, fun _ _ => rfl⟩, fun _ _ g h => ⟨g, h, fun _ _ => rfl⟩⟩
theorem aFa_tr {mk mk' : List (Nat × aF)} {ρ ρc : List jv} {σ0 σ σ' : Nat → jcell} (h1 : aFa K n mk ρ σ0 σ) (h2 : aFa K n mk' ρc σ σ') (hm : ∀ a i, aFw K mk ρ a i → aFw K mk' ρc a i) : aFa K n mk ρ σ0 σ' := by
  intro a ha
  refine ⟨fun ty m g h0 => ?_, fun ty m g h0 => ?_⟩
  · obtain ⟨g1, e1, e2⟩ := (h1 a ha).1 ty m g h0
    obtain ⟨g2, e3, e4⟩ := (h2 a ha).1 ty m g1 e1
    exact ⟨g2, e3, fun i hi => (e4 i (hm a i hi)).trans (e2 i hi)⟩
  · obtain ⟨g1, e1, e2⟩ := (h1 a ha).2 ty m g h0
    obtain ⟨g2, e3, e4⟩ := (h2 a ha).2 ty m g1 e1
    exact ⟨g2, e3, fun i hi => (e4 i (hm a i hi)).trans (e2 i hi)⟩
noncomputable def aSubM (md' md : List (Nat × Nat)) : Bool := md'.all (fun q => decide (q ∈ md))
theorem aSubM_ok {md' md : List (Nat × Nat)} (h : aSubM md' md = true) : ∀ q ∈ md', q ∈ md := fun q hq => of_decide_eq_true (List.all_eq_true.mp h q hq)
noncomputable def aSubK (C : aCf) (env : List aE) (cs : List aF) (m : List Nat) (mk : List (Nat × aF)) : Bool := mk.all (fun q => match aMk C.2.2.2.2.1 q.1 with
  | some B => (match aSb2 env (List.range C.2.2.2.2.2.2) B, aSb2 env m q.2 with
    | some g, some g' => aPr env cs 2 (aFp g' (aFm (-1) g))
    | _, _ => false)
  | none => false)
theorem aSubK_ok {env : List aE} {ρ : List jv} (hR : aR K n env ρ) (hx : aX ρ0 ρ) (hE : C.2.2.2.2.2.2 = ρ0.length) {cs : List aF} (hc : ∀ f ∈ cs, aHd ρ f) {m : List Nat} (hm : aWm ρ m) {mk : List (Nat × aF)} (h : aSubK C env cs m mk = true) : ∀ a i, aFw K C.2.2.2.2.1 ρ0 a i → aFw K mk (aVal ρ m) a i := by
  intro a i hw q hq e
  have h1 := List.all_eq_true.mp h q hq
  split at h1
  next B hB =>
    split at h1
    next g g' hg hg' =>
      obtain ⟨z, z1, z2⟩ := hw _ (aMk_in hB) e
      rw [hE] at hg
      obtain ⟨y, y1, y2⟩ := aSb2_ok hR (aWm_rg hx) hg
      rw [aVal_rg hx] at y1
      have e1 := aVa_f y1 z1
      obtain ⟨x, x1, x2⟩ := aSb2_ok hR hm hg'
      have := aPr_ok hR hc h1 (aVa_p x2 (aVa_m (-1) y2))
      exact ⟨x, x1, by omega⟩
    next => cases h1
  next => cases h1
end ASY
end
