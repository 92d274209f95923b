/-! Endings.prepare -/
def kk_EN_prepare_0 : List jI := [(.aload_n 1, 1, (1, 0, 0, 0, 0)), (.getfield 18, 3, (10, 0, 661, 0, 0)), (.aload_n 1, 1, (1, 0, 0, 0, 0)), (.invokestatic 21, 3, (0, 0, 0, 0, 0)), (.iaload, 1, (0, 0, 0, 0, 0)), (.bipush 7, 2, (0, 0, 0, 7, 0)), (.iand, 1, (0, 0, 0, 0, 0)), (.istore_n 2, 1, (2, 0, 0, 0, 0)), (.aload_n 0, 1, (0, 0, 0, 0, 0)), (.getfield 25, 3, (8, 3, 579, 0, 0)), (.ifnonnull 22, 3, (39, 0, 0, 0, 0)), (.iload_n 2, 1, (2, 0, 0, 0, 0)), (.iconst 5, 1, (0, 0, 0, 5, 0)), (.if_icmp .eq 8, 3, (30, 0, 0, 0, 0)), (.iload_n 2, 1, (2, 0, 0, 0, 0)), (.iconst 1, 1, (0, 0, 0, 1, 0)), (.if_icmp .ne 12, 3, (39, 0, 0, 0, 0)), (.aload_n 0, 1, (0, 0, 0, 0, 0)), (.aload_n 0, 1, (0, 0, 0, 0, 0)), (.iconst 5, 1, (0, 0, 0, 5, 0)), (.invokevirtual 29, 3, (0, 0, 0, 0, 0)), (.putfield 25, 3, (8, 3, 579, 3, 0)), (.aload_n 0, 1, (0, 0, 0, 0, 0)), (.getfield 33, 3, (8, 4, 580, 0, 0)), (.ifnonnull 22, 3, (65, 0, 0, 0, 0)), (.iload_n 2, 1, (2, 0, 0, 0, 0)), (.iconst 4, 1, (0, 0, 0, 4, 0)), (.if_icmp .eq 8, 3, (56, 0, 0, 0, 0)), (.iload_n 2, 1, (2, 0, 0, 0, 0)), (.iconst 1, 1, (0, 0, 0, 1, 0)), (.if_icmp .ne 12, 3, (65, 0, 0, 0, 0)), (.aload_n 0, 1, (0, 0, 0, 0, 0)), (.aload_n 0, 1, (0, 0, 0, 0, 0)), (.iconst 4, 1, (0, 0, 0, 4, 0)), (.invokevirtual 29, 3, (0, 0, 0, 0, 0)), (.putfield 33, 3, (8, 4, 580, 3, 0)), (.aload_n 0, 1, (0, 0, 0, 0, 0)), (.getfield 36, 3, (8, 5, 581, 0, 0)), (.ifnonnull 17, 3, (86, 0, 0, 0, 0)), (.iload_n 2, 1, (2, 0, 0, 0, 0)), (.iconst 1, 1, (0, 0, 0, 1, 0)), (.if_icmp .ne 12, 3, (86, 0, 0, 0, 0)), (.aload_n 0, 1, (0, 0, 0, 0, 0)), (.aload_n 0, 1, (0, 0, 0, 0, 0)), (.iconst 1, 1, (0, 0, 0, 1, 0)), (.invokevirtual 29, 3, (0, 0, 0, 0, 0)), (.putfield 36, 3, (8, 5, 581, 3, 0)), (.return_, 1, (0, 0, 0, 0, 0))]
theorem oo_EN_prepare_0 : jokL "ChessHouse$Endings" lw_tbl jcl jtb 3 false prog_6_method_2_code 0 kk_EN_prepare_0 = true := jokLF_ok (fun _ _ => jtF_ok) lo_EN (by decide +kernel)
def k_EN_prepare_13 : List jI := [(.aload_n 0, 1, (0, 0, 0, 0, 0)), (.getfield 25, 3, (8, 3, 579, 0, 0)), (.ifnonnull 22, 3, (39, 0, 0, 0, 0)), (.iload_n 2, 1, (2, 0, 0, 0, 0)), (.iconst 5, 1, (0, 0, 0, 5, 0)), (.if_icmp .eq 8, 3, (30, 0, 0, 0, 0)), (.iload_n 2, 1, (2, 0, 0, 0, 0)), (.iconst 1, 1, (0, 0, 0, 1, 0)), (.if_icmp .ne 12, 3, (39, 0, 0, 0, 0))]
theorem o_EN_prepare_13 : jokL "ChessHouse$Endings" lw_tbl jcl jtb 3 false prog_6_method_2_code 13 k_EN_prepare_13 = true := jok_sub oo_EN_prepare_0 8 9 rfl rfl
def k_EN_prepare_30 : List jI := [(.aload_n 0, 1, (0, 0, 0, 0, 0)), (.aload_n 0, 1, (0, 0, 0, 0, 0)), (.iconst 5, 1, (0, 0, 0, 5, 0))]
theorem o_EN_prepare_30 : jokL "ChessHouse$Endings" lw_tbl jcl jtb 3 false prog_6_method_2_code 30 k_EN_prepare_30 = true := jok_sub oo_EN_prepare_0 17 3 rfl rfl
def k_EN_prepare_36 : List jI := [(.putfield 25, 3, (8, 3, 579, 3, 0))]
theorem o_EN_prepare_36 : jokL "ChessHouse$Endings" lw_tbl jcl jtb 3 false prog_6_method_2_code 36 k_EN_prepare_36 = true := jok_sub oo_EN_prepare_0 21 1 rfl rfl
def k_EN_prepare_39 : List jI := [(.aload_n 0, 1, (0, 0, 0, 0, 0)), (.getfield 33, 3, (8, 4, 580, 0, 0)), (.ifnonnull 22, 3, (65, 0, 0, 0, 0)), (.iload_n 2, 1, (2, 0, 0, 0, 0)), (.iconst 4, 1, (0, 0, 0, 4, 0)), (.if_icmp .eq 8, 3, (56, 0, 0, 0, 0)), (.iload_n 2, 1, (2, 0, 0, 0, 0)), (.iconst 1, 1, (0, 0, 0, 1, 0)), (.if_icmp .ne 12, 3, (65, 0, 0, 0, 0))]
theorem o_EN_prepare_39 : jokL "ChessHouse$Endings" lw_tbl jcl jtb 3 false prog_6_method_2_code 39 k_EN_prepare_39 = true := jok_sub oo_EN_prepare_0 22 9 rfl rfl
def k_EN_prepare_56 : List jI := [(.aload_n 0, 1, (0, 0, 0, 0, 0)), (.aload_n 0, 1, (0, 0, 0, 0, 0)), (.iconst 4, 1, (0, 0, 0, 4, 0))]
theorem o_EN_prepare_56 : jokL "ChessHouse$Endings" lw_tbl jcl jtb 3 false prog_6_method_2_code 56 k_EN_prepare_56 = true := jok_sub oo_EN_prepare_0 31 3 rfl rfl
def k_EN_prepare_62 : List jI := [(.putfield 33, 3, (8, 4, 580, 3, 0))]
theorem o_EN_prepare_62 : jokL "ChessHouse$Endings" lw_tbl jcl jtb 3 false prog_6_method_2_code 62 k_EN_prepare_62 = true := jok_sub oo_EN_prepare_0 35 1 rfl rfl
def k_EN_prepare_65 : List jI := [(.aload_n 0, 1, (0, 0, 0, 0, 0)), (.getfield 36, 3, (8, 5, 581, 0, 0)), (.ifnonnull 17, 3, (86, 0, 0, 0, 0)), (.iload_n 2, 1, (2, 0, 0, 0, 0)), (.iconst 1, 1, (0, 0, 0, 1, 0)), (.if_icmp .ne 12, 3, (86, 0, 0, 0, 0)), (.aload_n 0, 1, (0, 0, 0, 0, 0)), (.aload_n 0, 1, (0, 0, 0, 0, 0)), (.iconst 1, 1, (0, 0, 0, 1, 0))]
theorem o_EN_prepare_65 : jokL "ChessHouse$Endings" lw_tbl jcl jtb 3 false prog_6_method_2_code 65 k_EN_prepare_65 = true := jok_sub oo_EN_prepare_0 36 9 rfl rfl
def k_EN_prepare_83 : List jI := [(.putfield 36, 3, (8, 5, 581, 3, 0))]
theorem o_EN_prepare_83 : jokL "ChessHouse$Endings" lw_tbl jcl jtb 3 false prog_6_method_2_code 83 k_EN_prepare_83 = true := jok_sub oo_EN_prepare_0 46 1 rfl rfl
theorem d_EN_prepare_33 : decode prog_6_method_2_code 33 = .ok (.invokevirtual 29, 3) := by decide +kernel
theorem q_EN_prepare_33 : jlm lw_tbl 1812 "ChessHouse$Endings" 29 ⟨"ChessHouse$Endings", "build", "(I)[B"⟩ = true := jlm_of (Or.inl (jtF_ok rfl))
theorem d_EN_prepare_59 : decode prog_6_method_2_code 59 = .ok (.invokevirtual 29, 3) := by decide +kernel
theorem q_EN_prepare_59 : jlm lw_tbl 1812 "ChessHouse$Endings" 29 ⟨"ChessHouse$Endings", "build", "(I)[B"⟩ = true := jlm_of (Or.inl (jtF_ok rfl))
theorem d_EN_prepare_80 : decode prog_6_method_2_code 80 = .ok (.invokevirtual 29, 3) := by decide +kernel
theorem q_EN_prepare_80 : jlm lw_tbl 1812 "ChessHouse$Endings" 29 ⟨"ChessHouse$Endings", "build", "(I)[B"⟩ = true := jlm_of (Or.inl (jtF_ok rfl))
theorem d_EN_prepare_86 : decode prog_6_method_2_code 86 = .ok (.return_, 1) := by decide +kernel

def pI (K0 : Nat → Nat) (n0 : Nat) (σ0 : Nat → jcell) (en : Nat) (K : Nat → Nat) (n : Nat) (σ : Nat → jcell) : Prop := aH fa_T K n σ ∧ fJX K n σ ∧ cJ K n σ en ∧ gW K0 n0 K n ∧ (∀ a, n0 ≤ a → a < n → tb4 (K a)) ∧ (∀ a, a < n → zPl (σ a)) ∧ (∀ a, a < n0 → a ≠ en → ¬ tb4 (K0 a) → σ a = σ0 a) ∧ tC K0 n0 ≤ tC K n ∧ tS K0 n0 ≤ tS K n
def pN (σ : Nat → jcell) (en j : Nat) (man : Int32) : Prop := man = 1 → ∀ fs v, σ en = .inr (8, fs) → fs[j]? = some v → nl v = 0
def cQ2 (K : Nat → Nat) (n qr : Nat) (v3 v4 v5 : jv) : Prop := kN K 114 n + nl v3 + nl v4 ≤ 2 ∧ kN K 52 n + nl v5 ≤ 1 ∧ ((K qr = 53 ∧ kN K 53 n ≤ 1 ∧ kN K 54 n = 0) ∨ (K qr = 54 ∧ kN K 53 n ≤ 1 ∧ kN K 54 n ≤ 1 ∧ nl v3 = 0 ∧ nl v4 = 0 ∧ nl v5 = 0))
theorem pI_mk {K0 K K' : Nat → Nat} {n0 n n' en qv : Nat} {σ0 σ sg σ' : Nat → jcell} {mk : List (Nat × aF)} {ρ : List jv} {d b tl man : Int32} {vl v3 v4 v5 v6 : jv} (h : pI K0 n0 σ0 en K n σ) (w : gW K n K' n') (hn : ∀ a, n ≤ a → a < n' → tb4 (K' a)) (e1 : sg en = .inr (8, [.inl d, .inl b, vl, v3, v4, v5, v6, .inr (.inr (some (.inl qv))), .inl tl, .inl man])) (e2 : ∀ a, a < n → a ≠ en → sg a = σ a) (h1 : aH fa_T K' n' σ') (h2 : fJX K' n' σ') (h3 : aFr K' n' [(23, 8)] sg σ') (h4 : aFa K' n' mk ρ sg σ') (hm : ∀ q ∈ mk, tb4 q.1) (ht1 : tC K n ≤ tC K' n') (ht2 : tS K n ≤ tS K' n') : ∃ tl', σ' en = .inr (8, [.inl d, .inl b, vl, v3, v4, v5, v6, .inr (.inr (some (.inl qv))), .inl tl', .inl man]) ∧ en < n' ∧ ∀ (w3 w4 w5 : jv), aG K' n' (.inr (some (.inl (true, 114)))) w3 → aG K' n' (.inr (some (.inl (true, 114)))) w4 → aG K' n' (.inr (some (.inl (true, 52)))) w5 → cQ2 K' n' qv w3 w4 w5 → pI K0 n0 σ0 en K' n' (jup σ' en (.inr (8, [.inl d, .inl b, vl, w3, w4, w5, v6, .inr (.inr (some (.inl qv))), .inl tl', .inl man]))) := by
  obtain ⟨i1, i2, i3, i4, i5, i6, i7, i8, i9⟩ := h
  have hen : en < n := i3.1
  have hen' : en < n' := Nat.lt_of_lt_of_le hen w.1
  have hk : K' en = 23 := (w.2 en hen).trans i3.2.1
  have hu : ∀ a, a < n' → K' a = 23 → a = en := fun a ha hk9 => by
    by_cases h9 : a < n
    · exact i3.2.2.1 a h9 ((w.2 a h9).symm.trans hk9)
    · have h8 := hn a (Nat.le_of_not_lt h9) ha
      rw [hk9] at h8
      exact absurd h8 (by unfold tb4; decide)
  have hsame : ∀ a, a < n → a ≠ en → ¬ tb4 (K a) → σ' a = σ a := fun a ha hne ht => by
    have ha' : a < n' := Nat.lt_of_lt_of_le ha w.1
    rw [← e2 a ha hne]
    refine zPl_eq h3 h4 ha' (by rw [e2 a ha hne]; exact i6 a ha) (fun q hq e => ?_) (fun q hq e => ?_)
    · rcases List.mem_cons.mp hq with rfl | hq
      · exact hne (hu a ha' e.symm)
      · cases hq
    · have h8 := hm q hq
      rw [e, w.2 a ha] at h8
      exact ht h8
  obtain ⟨fs', f1, f2, f3⟩ := h3 en hen' 8 _ e1
  obtain ⟨d', b', tl', kd', vl', x3, x4, x5, x6, qr', s1, s2, s3, s4, s5, s6, s7, s8, s9⟩ := en_fs h1 hen' hk
  rw [s1] at f1
  obtain rfl := (Prod.mk.inj (Sum.inr.inj f1)).2
  have nm : ∀ f, f ≠ 8 → ¬ (K' en, f) ∈ [(23, 8)] := fun f hf hq => by
    rcases List.mem_cons.mp hq with hq | hq
    · exact hf (Prod.mk.inj hq).2
    · cases hq
  have y0 := f3 0 _ rfl (nm 0 (by decide))
  have y1 := f3 1 _ rfl (nm 1 (by decide))
  have y2 := f3 2 _ rfl (nm 2 (by decide))
  have y3 := f3 3 _ rfl (nm 3 (by decide))
  have y4 := f3 4 _ rfl (nm 4 (by decide))
  have y5 := f3 5 _ rfl (nm 5 (by decide))
  have y6 := f3 6 _ rfl (nm 6 (by decide))
  have y7 := f3 7 _ rfl (nm 7 (by decide))
  have y9 := f3 9 _ rfl (nm 9 (by decide))
  cases y0; cases y1; cases y2; cases y3; cases y4; cases y5; cases y6; cases y7; cases y9
  refine ⟨tl', s1, hen', fun w3 w4 w5 g3 g4 g5 ⟨c1, c2, c3⟩ => ⟨aH_up h1 (fun d0 h9 => ?_), fJX_up h2 (by rw [hk]; decide), ⟨hen', hk, hu, qv, _, w3, w4, w5, jup_s, rfl, rfl, rfl, rfl, s7, c1, c2, Or.inr c3⟩, gW_tr i4 w, fun a ha ha' => ?_, fun a ha => ?_, fun a ha hne ht => ?_, Nat.le_trans i8 ht1, Nat.le_trans i9 ht2⟩⟩
  · rw [hk, tEN_T] at h9
    obtain rfl := Option.some.inj h9
    exact en_ce s2 g3 g4 g5 s6 ⟨s7, Or.inr rfl⟩ s8 s9
  · by_cases h9 : a < n
    · rw [w.2 a h9]
      exact i5 a ha h9
    · exact hn a (Nat.le_of_not_lt h9) ha'
  · by_cases e : a = en
    · subst e
      rw [jup_s]
      exact trivial
    · rw [jup_n e]
      refine zP_of h1 (fun c hc hkc => ?_) a ha
      by_cases h9 : c < n
      · rw [hsame c h9 (fun e => by rw [e, hk] at hkc; omega) (fun ht => by rw [w.2 c h9] at hkc; unfold tb4 at ht; omega)]
        exact i6 c h9
      · have h8 := hn c (Nat.le_of_not_lt h9) hc
        unfold tb4 at h8
        omega
  · have ha2 : a < n := Nat.lt_of_lt_of_le ha i4.1
    rw [jup_n hne, hsame a ha2 hne (by rw [i4.2 a ha]; exact ht)]
    exact i7 a ha hne ht
set_option maxRecDepth 100000 in
theorem sg1_a {E : jE} {M : jM} {Q : State → Prop} {n ca sl : Nat} (X : jX E "ChessHouse$Endings" lw_tbl jcl jtb 3 false prog_6_method_2_code M) {σ : Nat → jcell} {en : Nat} {d b tl kd man : Int32} {vl v4 v5 v6 v7 : jv} (ha : en < n) {t : Nat} (hs : σ en = .inr (8, [.inl d, .inl b, vl, .inr (.inr (some (.inl t))), v4, v5, v6, v7, .inl tl, .inl kd])) (kk : jJ E jcl 3 M Q n ca sl 39 [some (.inr (.inr (some (.inl en)))), none, some (.inl man)] [] σ) : jJ E jcl 3 M Q n ca sl 13 [some (.inr (.inr (some (.inl en)))), none, some (.inl man)] [] σ := by
  have hak : (en < n) = True := eq_true ha
  refine jrun_ok jC X k_EN_prepare_13 13 _ _ _ o_EN_prepare_13 ?_
  simp only [k_EN_prepare_13, jrun, jstep, jldi, jldl, jlda, j1, j2, jl1, jl2, jli, ja1, jbr, jald, jast, jlald, jlast, jalen, jget, jput, jfit, jdup, jdupx, jdupx2, jdup2, jcat, jset1, jset2, jkill, List.getElem?_cons_zero, List.getElem?_cons_succ, List.set_cons_zero, List.set_cons_succ, List.length_cons, List.length_nil, Nat.reduceAdd, Nat.reduceLT, Int32.reduceToNatClampNeg, true_and, and_true, and_self, reduceCtorEq, not_false_eq_true, false_and, and_false, or_false, false_or, true_or, or_true, hs, hak, jup_s, false_implies, true_implies, not_true_eq_false, not_false_eq_true, and_true, true_and, ne_eq]
  exact kk
set_option maxRecDepth 100000 in
theorem sg1_b {E : jE} {M : jM} {Q : State → Prop} {n ca sl : Nat} (X : jX E "ChessHouse$Endings" lw_tbl jcl jtb 3 false prog_6_method_2_code M) {σ : Nat → jcell} {en : Nat} {d b tl kd man : Int32} {vl v4 v5 v6 v7 : jv} (ha : en < n) (hs : σ en = .inr (8, [.inl d, .inl b, vl, .inr (.inr none), v4, v5, v6, v7, .inl tl, .inl kd])) (hm : ¬ (man = 5 ∨ man = 1)) (kk : jJ E jcl 3 M Q n ca sl 39 [some (.inr (.inr (some (.inl en)))), none, some (.inl man)] [] σ) : jJ E jcl 3 M Q n ca sl 13 [some (.inr (.inr (some (.inl en)))), none, some (.inl man)] [] σ := by
  have hak : (en < n) = True := eq_true ha
  have hm5 : (man = 5) = False := eq_false (fun e => hm (Or.inl e))
  have hm1 : (man = 1) = False := eq_false (fun e => hm (Or.inr e))
  refine jrun_ok jC X k_EN_prepare_13 13 _ _ _ o_EN_prepare_13 ?_
  simp only [k_EN_prepare_13, jrun, jstep, jldi, jldl, jlda, j1, j2, jl1, jl2, jli, ja1, jbr, jald, jast, jlald, jlast, jalen, jget, jput, jfit, jdup, jdupx, jdupx2, jdup2, jcat, jset1, jset2, jkill, List.getElem?_cons_zero, List.getElem?_cons_succ, List.set_cons_zero, List.set_cons_succ, List.length_cons, List.length_nil, Nat.reduceAdd, Nat.reduceLT, Int32.reduceToNatClampNeg, true_and, and_true, and_self, reduceCtorEq, not_false_eq_true, false_and, and_false, or_false, false_or, true_or, or_true, hs, hak, jup_s, false_implies, true_implies, not_true_eq_false, not_false_eq_true, and_true, true_and, ne_eq, hm5, hm1]
  exact kk
set_option maxRecDepth 100000 in
theorem sg1_c {E : jE} {M : jM} {Q : State → Prop} {n ca sl : Nat} (X : jX E "ChessHouse$Endings" lw_tbl jcl jtb 3 false prog_6_method_2_code M) {σ : Nat → jcell} {en : Nat} {d b tl kd man : Int32} {vl v4 v5 v6 v7 : jv} (ha : en < n) (hs : σ en = .inr (8, [.inl d, .inl b, vl, .inr (.inr none), v4, v5, v6, v7, .inl tl, .inl kd])) (hm : man = 5 ∨ man = 1) (kk : jJ E jcl 3 M Q n ca sl 33 [some (.inr (.inr (some (.inl en)))), none, some (.inl man)] [.inl 5, .inr (.inr (some (.inl en))), .inr (.inr (some (.inl en)))] σ) : jJ E jcl 3 M Q n ca sl 13 [some (.inr (.inr (some (.inl en)))), none, some (.inl man)] [] σ := by
  have hak : (en < n) = True := eq_true ha
  rcases hm with rfl | rfl
  · refine jrun_ok jC X k_EN_prepare_13 13 _ _ _ o_EN_prepare_13 ?_
    simp only [k_EN_prepare_13, jrun, jstep, jldi, jldl, jlda, j1, j2, jl1, jl2, jli, ja1, jbr, jald, jast, jlald, jlast, jalen, jget, jput, jfit, jdup, jdupx, jdupx2, jdup2, jcat, jset1, jset2, jkill, List.getElem?_cons_zero, List.getElem?_cons_succ, List.set_cons_zero, List.set_cons_succ, List.length_cons, List.length_nil, Nat.reduceAdd, Nat.reduceLT, Int32.reduceToNatClampNeg, true_and, and_true, and_self, reduceCtorEq, not_false_eq_true, false_and, and_false, or_false, false_or, true_or, or_true, hs, hak, jup_s, false_implies, true_implies, not_true_eq_false, not_false_eq_true, and_true, true_and, ne_eq]
    refine jrun_ok jC X k_EN_prepare_30 30 _ _ _ o_EN_prepare_30 ?_
    simp only [k_EN_prepare_30, jrun, jstep, jldi, jldl, jlda, j1, j2, jl1, jl2, jli, ja1, jbr, jald, jast, jlald, jlast, jalen, jget, jput, jfit, jdup, jdupx, jdupx2, jdup2, jcat, jset1, jset2, jkill, List.getElem?_cons_zero, List.getElem?_cons_succ, List.set_cons_zero, List.set_cons_succ, List.length_cons, List.length_nil, Nat.reduceAdd, Nat.reduceLT, Int32.reduceToNatClampNeg, true_and, and_true, and_self, reduceCtorEq, not_false_eq_true, false_and, and_false, or_false, false_or, true_or, or_true, hs, hak, jup_s, false_implies, true_implies, not_true_eq_false, not_false_eq_true, and_true, true_and, ne_eq]
    exact kk
  · have hm5 : ((1 : Int32) = 5) = False := eq_false (by decide)
    refine jrun_ok jC X k_EN_prepare_13 13 _ _ _ o_EN_prepare_13 ?_
    simp only [k_EN_prepare_13, jrun, jstep, jldi, jldl, jlda, j1, j2, jl1, jl2, jli, ja1, jbr, jald, jast, jlald, jlast, jalen, jget, jput, jfit, jdup, jdupx, jdupx2, jdup2, jcat, jset1, jset2, jkill, List.getElem?_cons_zero, List.getElem?_cons_succ, List.set_cons_zero, List.set_cons_succ, List.length_cons, List.length_nil, Nat.reduceAdd, Nat.reduceLT, Int32.reduceToNatClampNeg, true_and, and_true, and_self, reduceCtorEq, not_false_eq_true, false_and, and_false, or_false, false_or, true_or, or_true, hs, hak, jup_s, false_implies, true_implies, not_true_eq_false, not_false_eq_true, and_true, true_and, ne_eq, hm5]
    refine jrun_ok jC X k_EN_prepare_30 30 _ _ _ o_EN_prepare_30 ?_
    simp only [k_EN_prepare_30, jrun, jstep, jldi, jldl, jlda, j1, j2, jl1, jl2, jli, ja1, jbr, jald, jast, jlald, jlast, jalen, jget, jput, jfit, jdup, jdupx, jdupx2, jdup2, jcat, jset1, jset2, jkill, List.getElem?_cons_zero, List.getElem?_cons_succ, List.set_cons_zero, List.set_cons_succ, List.length_cons, List.length_nil, Nat.reduceAdd, Nat.reduceLT, Int32.reduceToNatClampNeg, true_and, and_true, and_self, reduceCtorEq, not_false_eq_true, false_and, and_false, or_false, false_or, true_or, or_true, hs, hak, jup_s, false_implies, true_implies, not_true_eq_false, not_false_eq_true, and_true, true_and, ne_eq]
    exact kk
set_option maxRecDepth 100000 in
theorem sg1_d {E : jE} {M : jM} {Q : State → Prop} {n ca sl : Nat} (X : jX E "ChessHouse$Endings" lw_tbl jcl jtb 3 false prog_6_method_2_code M) {σ : Nat → jcell} {en : Nat} {d b tl kd man : Int32} {vl v3 v4 v5 v6 v7 : jv} (ha : en < n) {t : Nat} (hs : σ en = .inr (8, [.inl d, .inl b, vl, v3, v4, v5, v6, v7, .inl tl, .inl kd])) (kk : jJ E jcl 3 M Q n ca sl 39 [some (.inr (.inr (some (.inl en)))), none, some (.inl man)] [] (jup σ en (.inr (8, [.inl d, .inl b, vl, .inr (.inr (some (.inl t))), v4, v5, v6, v7, .inl tl, .inl kd])))) : jJ E jcl 3 M Q n ca sl 36 [some (.inr (.inr (some (.inl en)))), none, some (.inl man)] [.inr (.inr (some (.inl t))), .inr (.inr (some (.inl en)))] σ := by
  have hak : (en < n) = True := eq_true ha
  refine jrun_ok jC X k_EN_prepare_36 36 _ _ _ o_EN_prepare_36 ?_
  simp only [k_EN_prepare_36, jrun, jstep, jldi, jldl, jlda, j1, j2, jl1, jl2, jli, ja1, jbr, jald, jast, jlald, jlast, jalen, jget, jput, jfit, jdup, jdupx, jdupx2, jdup2, jcat, jset1, jset2, jkill, List.getElem?_cons_zero, List.getElem?_cons_succ, List.set_cons_zero, List.set_cons_succ, List.length_cons, List.length_nil, Nat.reduceAdd, Nat.reduceLT, Int32.reduceToNatClampNeg, true_and, and_true, and_self, reduceCtorEq, not_false_eq_true, false_and, and_false, or_false, false_or, true_or, or_true, hs, hak, jup_s, false_implies, true_implies, not_true_eq_false, not_false_eq_true, and_true, true_and, ne_eq]
  exact kk
set_option maxRecDepth 100000 in
theorem sg2_a {E : jE} {M : jM} {Q : State → Prop} {n ca sl : Nat} (X : jX E "ChessHouse$Endings" lw_tbl jcl jtb 3 false prog_6_method_2_code M) {σ : Nat → jcell} {en : Nat} {d b tl kd man : Int32} {vl v3 v5 v6 v7 : jv} (ha : en < n) {t : Nat} (hs : σ en = .inr (8, [.inl d, .inl b, vl, v3, .inr (.inr (some (.inl t))), v5, v6, v7, .inl tl, .inl kd])) (kk : jJ E jcl 3 M Q n ca sl 65 [some (.inr (.inr (some (.inl en)))), none, some (.inl man)] [] σ) : jJ E jcl 3 M Q n ca sl 39 [some (.inr (.inr (some (.inl en)))), none, some (.inl man)] [] σ := by
  have hak : (en < n) = True := eq_true ha
  refine jrun_ok jC X k_EN_prepare_39 39 _ _ _ o_EN_prepare_39 ?_
  simp only [k_EN_prepare_39, jrun, jstep, jldi, jldl, jlda, j1, j2, jl1, jl2, jli, ja1, jbr, jald, jast, jlald, jlast, jalen, jget, jput, jfit, jdup, jdupx, jdupx2, jdup2, jcat, jset1, jset2, jkill, List.getElem?_cons_zero, List.getElem?_cons_succ, List.set_cons_zero, List.set_cons_succ, List.length_cons, List.length_nil, Nat.reduceAdd, Nat.reduceLT, Int32.reduceToNatClampNeg, true_and, and_true, and_self, reduceCtorEq, not_false_eq_true, false_and, and_false, or_false, false_or, true_or, or_true, hs, hak, jup_s, false_implies, true_implies, not_true_eq_false, not_false_eq_true, and_true, true_and, ne_eq]
  exact kk
set_option maxRecDepth 100000 in
theorem sg2_b {E : jE} {M : jM} {Q : State → Prop} {n ca sl : Nat} (X : jX E "ChessHouse$Endings" lw_tbl jcl jtb 3 false prog_6_method_2_code M) {σ : Nat → jcell} {en : Nat} {d b tl kd man : Int32} {vl v3 v5 v6 v7 : jv} (ha : en < n) (hs : σ en = .inr (8, [.inl d, .inl b, vl, v3, .inr (.inr none), v5, v6, v7, .inl tl, .inl kd])) (hm : ¬ (man = 4 ∨ man = 1)) (kk : jJ E jcl 3 M Q n ca sl 65 [some (.inr (.inr (some (.inl en)))), none, some (.inl man)] [] σ) : jJ E jcl 3 M Q n ca sl 39 [some (.inr (.inr (some (.inl en)))), none, some (.inl man)] [] σ := by
  have hak : (en < n) = True := eq_true ha
  have hm5 : (man = 4) = False := eq_false (fun e => hm (Or.inl e))
  have hm1 : (man = 1) = False := eq_false (fun e => hm (Or.inr e))
  refine jrun_ok jC X k_EN_prepare_39 39 _ _ _ o_EN_prepare_39 ?_
  simp only [k_EN_prepare_39, jrun, jstep, jldi, jldl, jlda, j1, j2, jl1, jl2, jli, ja1, jbr, jald, jast, jlald, jlast, jalen, jget, jput, jfit, jdup, jdupx, jdupx2, jdup2, jcat, jset1, jset2, jkill, List.getElem?_cons_zero, List.getElem?_cons_succ, List.set_cons_zero, List.set_cons_succ, List.length_cons, List.length_nil, Nat.reduceAdd, Nat.reduceLT, Int32.reduceToNatClampNeg, true_and, and_true, and_self, reduceCtorEq, not_false_eq_true, false_and, and_false, or_false, false_or, true_or, or_true, hs, hak, jup_s, false_implies, true_implies, not_true_eq_false, not_false_eq_true, and_true, true_and, ne_eq, hm5, hm1]
  exact kk
set_option maxRecDepth 100000 in
theorem sg2_c {E : jE} {M : jM} {Q : State → Prop} {n ca sl : Nat} (X : jX E "ChessHouse$Endings" lw_tbl jcl jtb 3 false prog_6_method_2_code M) {σ : Nat → jcell} {en : Nat} {d b tl kd man : Int32} {vl v3 v5 v6 v7 : jv} (ha : en < n) (hs : σ en = .inr (8, [.inl d, .inl b, vl, v3, .inr (.inr none), v5, v6, v7, .inl tl, .inl kd])) (hm : man = 4 ∨ man = 1) (kk : jJ E jcl 3 M Q n ca sl 59 [some (.inr (.inr (some (.inl en)))), none, some (.inl man)] [.inl 4, .inr (.inr (some (.inl en))), .inr (.inr (some (.inl en)))] σ) : jJ E jcl 3 M Q n ca sl 39 [some (.inr (.inr (some (.inl en)))), none, some (.inl man)] [] σ := by
  have hak : (en < n) = True := eq_true ha
  rcases hm with rfl | rfl
  · refine jrun_ok jC X k_EN_prepare_39 39 _ _ _ o_EN_prepare_39 ?_
    simp only [k_EN_prepare_39, jrun, jstep, jldi, jldl, jlda, j1, j2, jl1, jl2, jli, ja1, jbr, jald, jast, jlald, jlast, jalen, jget, jput, jfit, jdup, jdupx, jdupx2, jdup2, jcat, jset1, jset2, jkill, List.getElem?_cons_zero, List.getElem?_cons_succ, List.set_cons_zero, List.set_cons_succ, List.length_cons, List.length_nil, Nat.reduceAdd, Nat.reduceLT, Int32.reduceToNatClampNeg, true_and, and_true, and_self, reduceCtorEq, not_false_eq_true, false_and, and_false, or_false, false_or, true_or, or_true, hs, hak, jup_s, false_implies, true_implies, not_true_eq_false, not_false_eq_true, and_true, true_and, ne_eq]
    refine jrun_ok jC X k_EN_prepare_56 56 _ _ _ o_EN_prepare_56 ?_
    simp only [k_EN_prepare_56, jrun, jstep, jldi, jldl, jlda, j1, j2, jl1, jl2, jli, ja1, jbr, jald, jast, jlald, jlast, jalen, jget, jput, jfit, jdup, jdupx, jdupx2, jdup2, jcat, jset1, jset2, jkill, List.getElem?_cons_zero, List.getElem?_cons_succ, List.set_cons_zero, List.set_cons_succ, List.length_cons, List.length_nil, Nat.reduceAdd, Nat.reduceLT, Int32.reduceToNatClampNeg, true_and, and_true, and_self, reduceCtorEq, not_false_eq_true, false_and, and_false, or_false, false_or, true_or, or_true, hs, hak, jup_s, false_implies, true_implies, not_true_eq_false, not_false_eq_true, and_true, true_and, ne_eq]
    exact kk
  · have hm5 : ((1 : Int32) = 4) = False := eq_false (by decide)
    refine jrun_ok jC X k_EN_prepare_39 39 _ _ _ o_EN_prepare_39 ?_
    simp only [k_EN_prepare_39, jrun, jstep, jldi, jldl, jlda, j1, j2, jl1, jl2, jli, ja1, jbr, jald, jast, jlald, jlast, jalen, jget, jput, jfit, jdup, jdupx, jdupx2, jdup2, jcat, jset1, jset2, jkill, List.getElem?_cons_zero, List.getElem?_cons_succ, List.set_cons_zero, List.set_cons_succ, List.length_cons, List.length_nil, Nat.reduceAdd, Nat.reduceLT, Int32.reduceToNatClampNeg, true_and, and_true, and_self, reduceCtorEq, not_false_eq_true, false_and, and_false, or_false, false_or, true_or, or_true, hs, hak, jup_s, false_implies, true_implies, not_true_eq_false, not_false_eq_true, and_true, true_and, ne_eq, hm5]
    refine jrun_ok jC X k_EN_prepare_56 56 _ _ _ o_EN_prepare_56 ?_
    simp only [k_EN_prepare_56, jrun, jstep, jldi, jldl, jlda, j1, j2, jl1, jl2, jli, ja1, jbr, jald, jast, jlald, jlast, jalen, jget, jput, jfit, jdup, jdupx, jdupx2, jdup2, jcat, jset1, jset2, jkill, List.getElem?_cons_zero, List.getElem?_cons_succ, List.set_cons_zero, List.set_cons_succ, List.length_cons, List.length_nil, Nat.reduceAdd, Nat.reduceLT, Int32.reduceToNatClampNeg, true_and, and_true, and_self, reduceCtorEq, not_false_eq_true, false_and, and_false, or_false, false_or, true_or, or_true, hs, hak, jup_s, false_implies, true_implies, not_true_eq_false, not_false_eq_true, and_true, true_and, ne_eq]
    exact kk
set_option maxRecDepth 100000 in
theorem sg2_d {E : jE} {M : jM} {Q : State → Prop} {n ca sl : Nat} (X : jX E "ChessHouse$Endings" lw_tbl jcl jtb 3 false prog_6_method_2_code M) {σ : Nat → jcell} {en : Nat} {d b tl kd man : Int32} {vl v3 v4 v5 v6 v7 : jv} (ha : en < n) {t : Nat} (hs : σ en = .inr (8, [.inl d, .inl b, vl, v3, v4, v5, v6, v7, .inl tl, .inl kd])) (kk : jJ E jcl 3 M Q n ca sl 65 [some (.inr (.inr (some (.inl en)))), none, some (.inl man)] [] (jup σ en (.inr (8, [.inl d, .inl b, vl, v3, .inr (.inr (some (.inl t))), v5, v6, v7, .inl tl, .inl kd])))) : jJ E jcl 3 M Q n ca sl 62 [some (.inr (.inr (some (.inl en)))), none, some (.inl man)] [.inr (.inr (some (.inl t))), .inr (.inr (some (.inl en)))] σ := by
  have hak : (en < n) = True := eq_true ha
  refine jrun_ok jC X k_EN_prepare_62 62 _ _ _ o_EN_prepare_62 ?_
  simp only [k_EN_prepare_62, jrun, jstep, jldi, jldl, jlda, j1, j2, jl1, jl2, jli, ja1, jbr, jald, jast, jlald, jlast, jalen, jget, jput, jfit, jdup, jdupx, jdupx2, jdup2, jcat, jset1, jset2, jkill, List.getElem?_cons_zero, List.getElem?_cons_succ, List.set_cons_zero, List.set_cons_succ, List.length_cons, List.length_nil, Nat.reduceAdd, Nat.reduceLT, Int32.reduceToNatClampNeg, true_and, and_true, and_self, reduceCtorEq, not_false_eq_true, false_and, and_false, or_false, false_or, true_or, or_true, hs, hak, jup_s, false_implies, true_implies, not_true_eq_false, not_false_eq_true, and_true, true_and, ne_eq]
  exact kk
set_option maxRecDepth 100000 in
theorem sg3_a {E : jE} {M : jM} {Q : State → Prop} {n ca sl : Nat} (X : jX E "ChessHouse$Endings" lw_tbl jcl jtb 3 false prog_6_method_2_code M) {σ : Nat → jcell} {en : Nat} {d b tl kd man : Int32} {vl v3 v4 v6 v7 : jv} (ha : en < n) {t : Nat} (hs : σ en = .inr (8, [.inl d, .inl b, vl, v3, v4, .inr (.inr (some (.inl t))), v6, v7, .inl tl, .inl kd])) (kk : jJ E jcl 3 M Q n ca sl 86 [some (.inr (.inr (some (.inl en)))), none, some (.inl man)] [] σ) : jJ E jcl 3 M Q n ca sl 65 [some (.inr (.inr (some (.inl en)))), none, some (.inl man)] [] σ := by
  have hak : (en < n) = True := eq_true ha
  refine jrun_ok jC X k_EN_prepare_65 65 _ _ _ o_EN_prepare_65 ?_
  simp only [k_EN_prepare_65, jrun, jstep, jldi, jldl, jlda, j1, j2, jl1, jl2, jli, ja1, jbr, jald, jast, jlald, jlast, jalen, jget, jput, jfit, jdup, jdupx, jdupx2, jdup2, jcat, jset1, jset2, jkill, List.getElem?_cons_zero, List.getElem?_cons_succ, List.set_cons_zero, List.set_cons_succ, List.length_cons, List.length_nil, Nat.reduceAdd, Nat.reduceLT, Int32.reduceToNatClampNeg, true_and, and_true, and_self, reduceCtorEq, not_false_eq_true, false_and, and_false, or_false, false_or, true_or, or_true, hs, hak, jup_s, false_implies, true_implies, not_true_eq_false, not_false_eq_true, and_true, true_and, ne_eq]
  exact kk
set_option maxRecDepth 100000 in
theorem sg3_b {E : jE} {M : jM} {Q : State → Prop} {n ca sl : Nat} (X : jX E "ChessHouse$Endings" lw_tbl jcl jtb 3 false prog_6_method_2_code M) {σ : Nat → jcell} {en : Nat} {d b tl kd man : Int32} {vl v3 v4 v6 v7 : jv} (ha : en < n) (hs : σ en = .inr (8, [.inl d, .inl b, vl, v3, v4, .inr (.inr none), v6, v7, .inl tl, .inl kd])) (hm : ¬ (man = 1)) (kk : jJ E jcl 3 M Q n ca sl 86 [some (.inr (.inr (some (.inl en)))), none, some (.inl man)] [] σ) : jJ E jcl 3 M Q n ca sl 65 [some (.inr (.inr (some (.inl en)))), none, some (.inl man)] [] σ := by
  have hak : (en < n) = True := eq_true ha
  have hm1 : (man = 1) = False := eq_false hm
  refine jrun_ok jC X k_EN_prepare_65 65 _ _ _ o_EN_prepare_65 ?_
  simp only [k_EN_prepare_65, jrun, jstep, jldi, jldl, jlda, j1, j2, jl1, jl2, jli, ja1, jbr, jald, jast, jlald, jlast, jalen, jget, jput, jfit, jdup, jdupx, jdupx2, jdup2, jcat, jset1, jset2, jkill, List.getElem?_cons_zero, List.getElem?_cons_succ, List.set_cons_zero, List.set_cons_succ, List.length_cons, List.length_nil, Nat.reduceAdd, Nat.reduceLT, Int32.reduceToNatClampNeg, true_and, and_true, and_self, reduceCtorEq, not_false_eq_true, false_and, and_false, or_false, false_or, true_or, or_true, hs, hak, jup_s, false_implies, true_implies, not_true_eq_false, not_false_eq_true, and_true, true_and, ne_eq, hm1]
  exact kk
set_option maxRecDepth 100000 in
theorem sg3_c {E : jE} {M : jM} {Q : State → Prop} {n ca sl : Nat} (X : jX E "ChessHouse$Endings" lw_tbl jcl jtb 3 false prog_6_method_2_code M) {σ : Nat → jcell} {en : Nat} {d b tl kd man : Int32} {vl v3 v4 v6 v7 : jv} (ha : en < n) (hs : σ en = .inr (8, [.inl d, .inl b, vl, v3, v4, .inr (.inr none), v6, v7, .inl tl, .inl kd])) (hm : man = 1) (kk : jJ E jcl 3 M Q n ca sl 80 [some (.inr (.inr (some (.inl en)))), none, some (.inl man)] [.inl 1, .inr (.inr (some (.inl en))), .inr (.inr (some (.inl en)))] σ) : jJ E jcl 3 M Q n ca sl 65 [some (.inr (.inr (some (.inl en)))), none, some (.inl man)] [] σ := by
  have hak : (en < n) = True := eq_true ha
  subst hm
  refine jrun_ok jC X k_EN_prepare_65 65 _ _ _ o_EN_prepare_65 ?_
  simp only [k_EN_prepare_65, jrun, jstep, jldi, jldl, jlda, j1, j2, jl1, jl2, jli, ja1, jbr, jald, jast, jlald, jlast, jalen, jget, jput, jfit, jdup, jdupx, jdupx2, jdup2, jcat, jset1, jset2, jkill, List.getElem?_cons_zero, List.getElem?_cons_succ, List.set_cons_zero, List.set_cons_succ, List.length_cons, List.length_nil, Nat.reduceAdd, Nat.reduceLT, Int32.reduceToNatClampNeg, true_and, and_true, and_self, reduceCtorEq, not_false_eq_true, false_and, and_false, or_false, false_or, true_or, or_true, hs, hak, jup_s, false_implies, true_implies, not_true_eq_false, not_false_eq_true, and_true, true_and, ne_eq]
  exact kk
set_option maxRecDepth 100000 in
theorem sg3_d {E : jE} {M : jM} {Q : State → Prop} {n ca sl : Nat} (X : jX E "ChessHouse$Endings" lw_tbl jcl jtb 3 false prog_6_method_2_code M) {σ : Nat → jcell} {en : Nat} {d b tl kd man : Int32} {vl v3 v4 v5 v6 v7 : jv} (ha : en < n) {t : Nat} (hs : σ en = .inr (8, [.inl d, .inl b, vl, v3, v4, v5, v6, v7, .inl tl, .inl kd])) (kk : jJ E jcl 3 M Q n ca sl 86 [some (.inr (.inr (some (.inl en)))), none, some (.inl man)] [] (jup σ en (.inr (8, [.inl d, .inl b, vl, v3, v4, .inr (.inr (some (.inl t))), v6, v7, .inl tl, .inl kd])))) : jJ E jcl 3 M Q n ca sl 83 [some (.inr (.inr (some (.inl en)))), none, some (.inl man)] [.inr (.inr (some (.inl t))), .inr (.inr (some (.inl en)))] σ := by
  have hak : (en < n) = True := eq_true ha
  refine jrun_ok jC X k_EN_prepare_83 83 _ _ _ o_EN_prepare_83 ?_
  simp only [k_EN_prepare_83, jrun, jstep, jldi, jldl, jlda, j1, j2, jl1, jl2, jli, ja1, jbr, jald, jast, jlald, jlast, jalen, jget, jput, jfit, jdup, jdupx, jdupx2, jdup2, jcat, jset1, jset2, jkill, List.getElem?_cons_zero, List.getElem?_cons_succ, List.set_cons_zero, List.set_cons_succ, List.length_cons, List.length_nil, Nat.reduceAdd, Nat.reduceLT, Int32.reduceToNatClampNeg, true_and, and_true, and_self, reduceCtorEq, not_false_eq_true, false_and, and_false, or_false, false_or, true_or, or_true, hs, hak, jup_s, false_implies, true_implies, not_true_eq_false, not_false_eq_true, and_true, true_and, ne_eq]
  exact kk
theorem kN_1 {K : Nat → Nat} {n tk k : Nat} : kN (bK1 K n tk) k (n + 1) = kN K k n + (if tk = k then 1 else 0) := kN_gK
theorem kN_2 {K : Nat → Nat} {n tk qk k : Nat} : kN (bK2 K n tk qk) k (n + 2) = kN K k n + (if tk = k then 1 else 0) + (if qk = k then 1 else 0) := by
  show kN (gK (gK K n tk) (n + 1) qk) k (n + 1 + 1) = _
  rw [kN_gK, kN_gK]
theorem tb_1 {K : Nat → Nat} {n tk : Nat} (h : tb4 tk) : ∀ a, n ≤ a → a < n + 1 → tb4 (bK1 K n tk a) := fun a h1 h2 => by
  obtain rfl : a = n := by omega
  rw [show bK1 K a tk a = tk from gK_at]
  exact h
theorem tb_2 {K : Nat → Nat} {n tk qk : Nat} (h : tb4 tk) (h9 : tb4 qk) : ∀ a, n ≤ a → a < n + 2 → tb4 (bK2 K n tk qk a) := fun a h1 h2 => by
  by_cases e : a = n
  · subst e
    rw [show bK2 K a tk qk a = tk from (gK_lo (Nat.lt_succ_self a)).trans gK_at]
    exact h
  · obtain rfl : a = n + 1 := by omega
    rw [show bK2 K n tk qk (n + 1) = qk from gK_at]
    exact h9
section PRS
variable {l : Launch} {E : jE}
set_option maxRecDepth 100000 in
set_option maxHeartbeats 4000000 in
theorem pr_1 {M : jM} {Q : State → Prop} {rm : Room} {K0 : Nat → Nat} {n0 : Nat} {σ0 : Nat → jcell} {en : Nat} {man : Int32} (X : jX E "ChessHouse$Endings" lw_tbl jcl jtb 3 false prog_6_method_2_code M) (hl : M.2.1 = l) (hR : M.2.2.2.1 = rm) (hf1 : 4 ≤ rm.frames) (hf2 : 116 ≤ rm.locals) (hc1 : rm.cells = 5 - tC K0 n0) (hc2 : rm.slots = 638976 - tS K0 n0) (kk : ∀ (K : Nat → Nat) (n : Nat) (σ : Nat → jcell), pI K0 n0 σ0 en K n σ → pN σ en 3 man → jJ E jcl 3 M Q n (tC K n - tC K0 n0) (tS K n - tS K0 n0) 39 [some (.inr (.inr (some (.inl en)))), none, some (.inl man)] [] σ) {K : Nat → Nat} {n : Nat} {σ : Nat → jcell} (h : pI K0 n0 σ0 en K n σ) : jJ E jcl 3 M Q n (tC K n - tC K0 n0) (tS K n - tS K0 n0) 13 [some (.inr (.inr (some (.inl en)))), none, some (.inl man)] [] σ := by
  subst hl
  have hh := h
  obtain ⟨i1, i2, i3, i4, i5, i6, i7, i8, i9⟩ := hh
  obtain ⟨d, b, tl, kd, vl, v3, v4, v5, v6, qr, hs, t2, t3, t4, t5, t6, t7, t8, t9⟩ := en_fs i1 i3.1 i3.2.1
  have hen := i3.1
  have hken := i3.2.1
  obtain ⟨-, -, -, qr', fs, u3, u4, u5, z0, z3, z4, z5, z7, zq, q1, q2, q3⟩ := i3
  rw [hs] at z0
  obtain rfl := (Prod.mk.inj (Sum.inr.inj z0)).2
  cases z3; cases z4; cases z5; cases z7
  rcases aG_ref t3 with ⟨-, rfl⟩ | ⟨t, rfl, -, -⟩
  · by_cases hm : man = 5 ∨ man = 1
    · refine sg1_c X hen hs hm ?_
      have nz : nl (.inr (.inr none) : jv) = 1 := rfl
      have b3 := nl_le v4
      have b4 := nl_le v5
      have cont : ∀ (c s : Nat) (K' : Nat → Nat) (n' : Nat) (σ' : Nat → jcell) (t qv : Nat) (tl' : Int32) (v6' : jv), tC K' n' = tC K n + c → tS K' n' = tS K n + s → en < n' → σ' en = .inr (8, [.inl d, .inl b, vl, .inr (.inr none), v4, v5, v6', .inr (.inr (some (.inl qv))), .inl tl', .inl 5]) → pI K0 n0 σ0 en K' n' (jup σ' en (.inr (8, [.inl d, .inl b, vl, .inr (.inr (some (.inl t))), v4, v5, v6', .inr (.inr (some (.inl qv))), .inl tl', .inl 5]))) → jJ E jcl 3 M Q n' (tC K n - tC K0 n0 + c) (tS K n - tS K0 n0 + s) 36 [some (.inr (.inr (some (.inl en)))), none, some (.inl man)] ((some (.inr (.inr (some (.inl t))))).toList ++ [.inr (.inr (some (.inl en)))]) σ' := by
        intro c s K' n' σ' t qv tl' v6' k1 k2 k3 k4 k5
        refine sg1_d X k3 k4 ?_
        refine jJ_widen (c2 := tC K' n' - tC K0 n0) (s2 := tS K' n' - tS K0 n0) (by omega) (by omega) (kk K' n' _ k5 (fun hm9 fs v e hv => by rw [jup_s] at e; obtain rfl := (Prod.mk.inj (Sum.inr.inj e)).2; cases hv; exact rfl))
      rcases q3 with ⟨a1, ⟨g, hqs⟩, a3, a4⟩ | ⟨a1, a3, a4⟩ | ⟨-, -, -, a5, a6, a7⟩
      · skip
        have w : gW K n (bK2 K n 114 53) (n + 2) := gW_tr gK_gw gK_gw
        have c114 : kN (bK2 K n 114 53) 114 (n + 2) = kN K 114 n + 1 := kN_2
        have c52 : kN (bK2 K n 114 53) 52 (n + 2) = kN K 52 n + 0 := kN_2
        have c53 : kN (bK2 K n 114 53) 53 (n + 2) = kN K 53 n + 1 := kN_2
        have c54 : kN (bK2 K n 114 53) 54 (n + 2) = kN K 54 n + 0 := kN_2
        have k1 : tC (bK2 K n 114 53) (n + 2) = tC K n + 2 := by
          unfold tC
          omega
        have k2 : tS (bK2 K n 114 53) (n + 2) = tS K n + 163840 := by
          unfold tS
          omega
        have r1 : tC K n + 2 ≤ 5 := by
          unfold tC
          omega
        have r2 : tS K n + 163840 ≤ 638976 := by
          unfold tS
          omega
        refine jk_Vg X hR d_EN_prepare_33 q_EN_prepare_33 m_EN_build i_EN_build e_EN_build (ci := 8) rfl rfl hen hs (bz_Q5n i1 i2 hen hken hs t2 t3 t4 t5 t6 t7 t8 hqs) rfl rfl ⟨hf1, Nat.le_trans (Nat.le_of_ble_eq_true rfl) hf2⟩ rfl rfl ⟨by rw [hc1]; show _ + 2 ≤ _; omega, by rw [hc2]; show _ + 163840 ≤ _; omega⟩ (Nat.le_of_ble_eq_true rfl) (pc' := 36) rfl ?_
        rintro _ σ' _ ⟨rfl, t, rfl, t1, t2', g1, g2, g3, g4⟩
        obtain ⟨tl', s1, s2, s3⟩ := pI_mk h w (tb_2 (by unfold tb4; decide) (by unfold tb4; decide)) bdN_en (fun a ha hne => bdN_o hne (by omega) (by omega)) g1 g2 g3 g4 (aAllc (by unfold tb4; decide) (aAllc (by unfold tb4; decide) (fun q hq => by cases hq))) (by omega) (by omega)
        exact cont 2 163840 _ _ σ' t (n + 1) tl' _ k1 k2 s2 s1 (s3 _ _ _ ⟨t1, Or.inl t2'⟩ (aG_gw w t4) (aG_gw w t5) ⟨by rw [c114]; have : nl (.inr (.inr (some (.inl t))) : jv) = 0 := rfl; omega, by rw [c52]; have : nl (.inr (.inr (some (.inl t))) : jv) = 0 := rfl; omega, Or.inl ⟨gK_at, by omega, by omega⟩⟩)
      · obtain ⟨g, hqs⟩ := tb_ce i1 t7 a1 (L := 81920) rfl (by decide)
        have w : gW K n (bK1 K n 114) (n + 1) := gK_gw
        have c114 : kN (bK1 K n 114) 114 (n + 1) = kN K 114 n + 1 := kN_1
        have c52 : kN (bK1 K n 114) 52 (n + 1) = kN K 52 n + 0 := kN_1
        have c53 : kN (bK1 K n 114) 53 (n + 1) = kN K 53 n + 0 := kN_1
        have c54 : kN (bK1 K n 114) 54 (n + 1) = kN K 54 n + 0 := kN_1
        have k1 : tC (bK1 K n 114) (n + 1) = tC K n + 1 := by
          unfold tC
          omega
        have k2 : tS (bK1 K n 114) (n + 1) = tS K n + 81920 := by
          unfold tS
          omega
        have r1 : tC K n + 1 ≤ 5 := by
          unfold tC
          omega
        have r2 : tS K n + 81920 ≤ 638976 := by
          unfold tS
          omega
        refine jk_Vg X hR d_EN_prepare_33 q_EN_prepare_33 m_EN_build i_EN_build e_EN_build (ci := 8) rfl rfl hen hs (bz_Q5k i1 i2 hen hken hs t2 t3 t4 t5 t6 t7 t8 hqs a1) rfl rfl ⟨hf1, Nat.le_trans (Nat.le_of_ble_eq_true rfl) hf2⟩ rfl rfl ⟨by rw [hc1]; show _ + 1 ≤ _; omega, by rw [hc2]; show _ + 81920 ≤ _; omega⟩ (Nat.le_of_ble_eq_true rfl) (pc' := 36) rfl ?_
        rintro _ σ' _ ⟨rfl, t, rfl, t1, t2', g1, g2, g3, g4⟩
        obtain ⟨tl', s1, s2, s3⟩ := pI_mk h w (tb_1 (by unfold tb4; decide)) bdA_en (fun a ha hne => bdA_o hne (by omega)) g1 g2 g3 g4 (aAllc (by unfold tb4; decide) (aAllc (by unfold tb4; decide) (fun q hq => by cases hq))) (by omega) (by omega)
        exact cont 1 81920 _ _ σ' t qr tl' _ k1 k2 s2 s1 (s3 _ _ _ ⟨t1, Or.inl t2'⟩ (aG_gw w t4) (aG_gw w t5) ⟨by rw [c114]; have : nl (.inr (.inr (some (.inl t))) : jv) = 0 := rfl; omega, by rw [c52]; have : nl (.inr (.inr (some (.inl t))) : jv) = 0 := rfl; omega, Or.inl ⟨(gK_lo t7).trans a1, by omega, by omega⟩⟩)
      · exact absurd a5 (by decide)
    · exact sg1_b X hen hs hm (kk K n σ h (fun hm9 fs v e hv => by rw [hs] at e; obtain rfl := (Prod.mk.inj (Sum.inr.inj e)).2; cases hv; exact absurd hm9 (by simp at hm; exact hm.2)))
  · exact sg1_a X hen hs (kk K n σ h (fun hm fs v e hv => by rw [hs] at e; obtain rfl := (Prod.mk.inj (Sum.inr.inj e)).2; cases hv; exact rfl))
set_option maxRecDepth 100000 in
set_option maxHeartbeats 4000000 in
theorem pr_2 {M : jM} {Q : State → Prop} {rm : Room} {K0 : Nat → Nat} {n0 : Nat} {σ0 : Nat → jcell} {en : Nat} {man : Int32} (X : jX E "ChessHouse$Endings" lw_tbl jcl jtb 3 false prog_6_method_2_code M) (hl : M.2.1 = l) (hR : M.2.2.2.1 = rm) (hf1 : 4 ≤ rm.frames) (hf2 : 116 ≤ rm.locals) (hc1 : rm.cells = 5 - tC K0 n0) (hc2 : rm.slots = 638976 - tS K0 n0) (kk : ∀ (K : Nat → Nat) (n : Nat) (σ : Nat → jcell), pI K0 n0 σ0 en K n σ → pN σ en 3 man → pN σ en 4 man → jJ E jcl 3 M Q n (tC K n - tC K0 n0) (tS K n - tS K0 n0) 65 [some (.inr (.inr (some (.inl en)))), none, some (.inl man)] [] σ) {K : Nat → Nat} {n : Nat} {σ : Nat → jcell} (h : pI K0 n0 σ0 en K n σ) (p3 : pN σ en 3 man) : jJ E jcl 3 M Q n (tC K n - tC K0 n0) (tS K n - tS K0 n0) 39 [some (.inr (.inr (some (.inl en)))), none, some (.inl man)] [] σ := by
  subst hl
  have hh := h
  obtain ⟨i1, i2, i3, i4, i5, i6, i7, i8, i9⟩ := hh
  obtain ⟨d, b, tl, kd, vl, v3, v4, v5, v6, qr, hs, t2, t3, t4, t5, t6, t7, t8, t9⟩ := en_fs i1 i3.1 i3.2.1
  have hen := i3.1
  have hken := i3.2.1
  obtain ⟨-, -, -, qr', fs, u3, u4, u5, z0, z3, z4, z5, z7, zq, q1, q2, q3⟩ := i3
  rw [hs] at z0
  obtain rfl := (Prod.mk.inj (Sum.inr.inj z0)).2
  cases z3; cases z4; cases z5; cases z7
  have m3 : man = 1 → nl v3 = 0 := fun hm => p3 hm _ _ hs rfl
  rcases aG_ref t4 with ⟨-, rfl⟩ | ⟨t, rfl, -, -⟩
  · by_cases hm : man = 4 ∨ man = 1
    · refine sg2_c X hen hs hm ?_
      have nz : nl (.inr (.inr none) : jv) = 1 := rfl
      have b3 := nl_le v3
      have b4 := nl_le v5
      have cont : ∀ (c s : Nat) (K' : Nat → Nat) (n' : Nat) (σ' : Nat → jcell) (t qv : Nat) (tl' : Int32) (v6' : jv), tC K' n' = tC K n + c → tS K' n' = tS K n + s → en < n' → σ' en = .inr (8, [.inl d, .inl b, vl, v3, .inr (.inr none), v5, v6', .inr (.inr (some (.inl qv))), .inl tl', .inl 4]) → pI K0 n0 σ0 en K' n' (jup σ' en (.inr (8, [.inl d, .inl b, vl, v3, .inr (.inr (some (.inl t))), v5, v6', .inr (.inr (some (.inl qv))), .inl tl', .inl 4]))) → jJ E jcl 3 M Q n' (tC K n - tC K0 n0 + c) (tS K n - tS K0 n0 + s) 62 [some (.inr (.inr (some (.inl en)))), none, some (.inl man)] ((some (.inr (.inr (some (.inl t))))).toList ++ [.inr (.inr (some (.inl en)))]) σ' := by
        intro c s K' n' σ' t qv tl' v6' k1 k2 k3 k4 k5
        refine sg2_d X k3 k4 ?_
        refine jJ_widen (c2 := tC K' n' - tC K0 n0) (s2 := tS K' n' - tS K0 n0) (by omega) (by omega) (kk K' n' _ k5 (fun hm9 fs v e hv => by rw [jup_s] at e; obtain rfl := (Prod.mk.inj (Sum.inr.inj e)).2; cases hv; exact m3 hm9) (fun hm9 fs v e hv => by rw [jup_s] at e; obtain rfl := (Prod.mk.inj (Sum.inr.inj e)).2; cases hv; exact rfl))
      rcases q3 with ⟨a1, ⟨g, hqs⟩, a3, a4⟩ | ⟨a1, a3, a4⟩ | ⟨-, -, -, a5, a6, a7⟩
      · skip
        have w : gW K n (bK2 K n 114 53) (n + 2) := gW_tr gK_gw gK_gw
        have c114 : kN (bK2 K n 114 53) 114 (n + 2) = kN K 114 n + 1 := kN_2
        have c52 : kN (bK2 K n 114 53) 52 (n + 2) = kN K 52 n + 0 := kN_2
        have c53 : kN (bK2 K n 114 53) 53 (n + 2) = kN K 53 n + 1 := kN_2
        have c54 : kN (bK2 K n 114 53) 54 (n + 2) = kN K 54 n + 0 := kN_2
        have k1 : tC (bK2 K n 114 53) (n + 2) = tC K n + 2 := by
          unfold tC
          omega
        have k2 : tS (bK2 K n 114 53) (n + 2) = tS K n + 163840 := by
          unfold tS
          omega
        have r1 : tC K n + 2 ≤ 5 := by
          unfold tC
          omega
        have r2 : tS K n + 163840 ≤ 638976 := by
          unfold tS
          omega
        refine jk_Vg X hR d_EN_prepare_59 q_EN_prepare_59 m_EN_build i_EN_build e_EN_build (ci := 8) rfl rfl hen hs (bz_Q4n i1 i2 hen hken hs t2 t3 t4 t5 t6 t7 t8 hqs) rfl rfl ⟨hf1, Nat.le_trans (Nat.le_of_ble_eq_true rfl) hf2⟩ rfl rfl ⟨by rw [hc1]; show _ + 2 ≤ _; omega, by rw [hc2]; show _ + 163840 ≤ _; omega⟩ (Nat.le_of_ble_eq_true rfl) (pc' := 62) rfl ?_
        rintro _ σ' _ ⟨rfl, t, rfl, t1, t2', g1, g2, g3, g4⟩
        obtain ⟨tl', s1, s2, s3⟩ := pI_mk h w (tb_2 (by unfold tb4; decide) (by unfold tb4; decide)) bdN_en (fun a ha hne => bdN_o hne (by omega) (by omega)) g1 g2 g3 g4 (aAllc (by unfold tb4; decide) (aAllc (by unfold tb4; decide) (fun q hq => by cases hq))) (by omega) (by omega)
        exact cont 2 163840 _ _ σ' t (n + 1) tl' _ k1 k2 s2 s1 (s3 _ _ _ (aG_gw w t3) ⟨t1, Or.inl t2'⟩ (aG_gw w t5) ⟨by rw [c114]; have : nl (.inr (.inr (some (.inl t))) : jv) = 0 := rfl; omega, by rw [c52]; have : nl (.inr (.inr (some (.inl t))) : jv) = 0 := rfl; omega, Or.inl ⟨gK_at, by omega, by omega⟩⟩)
      · obtain ⟨g, hqs⟩ := tb_ce i1 t7 a1 (L := 81920) rfl (by decide)
        have w : gW K n (bK1 K n 114) (n + 1) := gK_gw
        have c114 : kN (bK1 K n 114) 114 (n + 1) = kN K 114 n + 1 := kN_1
        have c52 : kN (bK1 K n 114) 52 (n + 1) = kN K 52 n + 0 := kN_1
        have c53 : kN (bK1 K n 114) 53 (n + 1) = kN K 53 n + 0 := kN_1
        have c54 : kN (bK1 K n 114) 54 (n + 1) = kN K 54 n + 0 := kN_1
        have k1 : tC (bK1 K n 114) (n + 1) = tC K n + 1 := by
          unfold tC
          omega
        have k2 : tS (bK1 K n 114) (n + 1) = tS K n + 81920 := by
          unfold tS
          omega
        have r1 : tC K n + 1 ≤ 5 := by
          unfold tC
          omega
        have r2 : tS K n + 81920 ≤ 638976 := by
          unfold tS
          omega
        refine jk_Vg X hR d_EN_prepare_59 q_EN_prepare_59 m_EN_build i_EN_build e_EN_build (ci := 8) rfl rfl hen hs (bz_Q4k i1 i2 hen hken hs t2 t3 t4 t5 t6 t7 t8 hqs a1) rfl rfl ⟨hf1, Nat.le_trans (Nat.le_of_ble_eq_true rfl) hf2⟩ rfl rfl ⟨by rw [hc1]; show _ + 1 ≤ _; omega, by rw [hc2]; show _ + 81920 ≤ _; omega⟩ (Nat.le_of_ble_eq_true rfl) (pc' := 62) rfl ?_
        rintro _ σ' _ ⟨rfl, t, rfl, t1, t2', g1, g2, g3, g4⟩
        obtain ⟨tl', s1, s2, s3⟩ := pI_mk h w (tb_1 (by unfold tb4; decide)) bdA_en (fun a ha hne => bdA_o hne (by omega)) g1 g2 g3 g4 (aAllc (by unfold tb4; decide) (aAllc (by unfold tb4; decide) (fun q hq => by cases hq))) (by omega) (by omega)
        exact cont 1 81920 _ _ σ' t qr tl' _ k1 k2 s2 s1 (s3 _ _ _ (aG_gw w t3) ⟨t1, Or.inl t2'⟩ (aG_gw w t5) ⟨by rw [c114]; have : nl (.inr (.inr (some (.inl t))) : jv) = 0 := rfl; omega, by rw [c52]; have : nl (.inr (.inr (some (.inl t))) : jv) = 0 := rfl; omega, Or.inl ⟨(gK_lo t7).trans a1, by omega, by omega⟩⟩)
      · exact absurd a6 (by decide)
    · exact sg2_b X hen hs hm (kk K n σ h (fun hm9 fs v e hv => by rw [hs] at e; obtain rfl := (Prod.mk.inj (Sum.inr.inj e)).2; cases hv; exact m3 hm9) (fun hm9 fs v e hv => by rw [hs] at e; obtain rfl := (Prod.mk.inj (Sum.inr.inj e)).2; cases hv; exact absurd hm9 (by simp at hm; exact hm.2)))
  · exact sg2_a X hen hs (kk K n σ h (fun hm fs v e hv => by rw [hs] at e; obtain rfl := (Prod.mk.inj (Sum.inr.inj e)).2; cases hv; exact m3 hm) (fun hm fs v e hv => by rw [hs] at e; obtain rfl := (Prod.mk.inj (Sum.inr.inj e)).2; cases hv; exact rfl))
set_option maxRecDepth 100000 in
set_option maxHeartbeats 4000000 in
theorem pr_3 {M : jM} {Q : State → Prop} {rm : Room} {K0 : Nat → Nat} {n0 : Nat} {σ0 : Nat → jcell} {en : Nat} {man : Int32} (X : jX E "ChessHouse$Endings" lw_tbl jcl jtb 3 false prog_6_method_2_code M) (hl : M.2.1 = l) (hR : M.2.2.2.1 = rm) (hf1 : 4 ≤ rm.frames) (hf2 : 116 ≤ rm.locals) (hc1 : rm.cells = 5 - tC K0 n0) (hc2 : rm.slots = 638976 - tS K0 n0) (kk : ∀ (K : Nat → Nat) (n : Nat) (σ : Nat → jcell), pI K0 n0 σ0 en K n σ → jJ E jcl 3 M Q n (tC K n - tC K0 n0) (tS K n - tS K0 n0) 86 [some (.inr (.inr (some (.inl en)))), none, some (.inl man)] [] σ) {K : Nat → Nat} {n : Nat} {σ : Nat → jcell} (h : pI K0 n0 σ0 en K n σ) (p3 : pN σ en 3 man) (p4 : pN σ en 4 man) : jJ E jcl 3 M Q n (tC K n - tC K0 n0) (tS K n - tS K0 n0) 65 [some (.inr (.inr (some (.inl en)))), none, some (.inl man)] [] σ := by
  subst hl
  have hh := h
  obtain ⟨i1, i2, i3, i4, i5, i6, i7, i8, i9⟩ := hh
  obtain ⟨d, b, tl, kd, vl, v3, v4, v5, v6, qr, hs, t2, t3, t4, t5, t6, t7, t8, t9⟩ := en_fs i1 i3.1 i3.2.1
  have hen := i3.1
  have hken := i3.2.1
  obtain ⟨-, -, -, qr', fs, u3, u4, u5, z0, z3, z4, z5, z7, zq, q1, q2, q3⟩ := i3
  rw [hs] at z0
  obtain rfl := (Prod.mk.inj (Sum.inr.inj z0)).2
  cases z3; cases z4; cases z5; cases z7
  have m3 : man = 1 → nl v3 = 0 := fun hm => p3 hm _ _ hs rfl
  have m4 : man = 1 → nl v4 = 0 := fun hm => p4 hm _ _ hs rfl
  rcases aG_ref t5 with ⟨-, rfl⟩ | ⟨t, rfl, -, -⟩
  · by_cases hm : man = 1
    · refine sg3_c X hen hs hm ?_
      have nz : nl (.inr (.inr none) : jv) = 1 := rfl
      have b3 := nl_le v3
      have b4 := nl_le v4
      have cont : ∀ (c s : Nat) (K' : Nat → Nat) (n' : Nat) (σ' : Nat → jcell) (t qv : Nat) (tl' : Int32) (v6' : jv), tC K' n' = tC K n + c → tS K' n' = tS K n + s → en < n' → σ' en = .inr (8, [.inl d, .inl b, vl, v3, v4, .inr (.inr none), v6', .inr (.inr (some (.inl qv))), .inl tl', .inl 1]) → pI K0 n0 σ0 en K' n' (jup σ' en (.inr (8, [.inl d, .inl b, vl, v3, v4, .inr (.inr (some (.inl t))), v6', .inr (.inr (some (.inl qv))), .inl tl', .inl 1]))) → jJ E jcl 3 M Q n' (tC K n - tC K0 n0 + c) (tS K n - tS K0 n0 + s) 83 [some (.inr (.inr (some (.inl en)))), none, some (.inl man)] ((some (.inr (.inr (some (.inl t))))).toList ++ [.inr (.inr (some (.inl en)))]) σ' := by
        intro c s K' n' σ' t qv tl' v6' k1 k2 k3 k4 k5
        refine sg3_d X k3 k4 ?_
        refine jJ_widen (c2 := tC K' n' - tC K0 n0) (s2 := tS K' n' - tS K0 n0) (by omega) (by omega) (kk K' n' _ k5)
      rcases q3 with ⟨a1, ⟨g, hqs⟩, a3, a4⟩ | ⟨a1, a3, a4⟩ | ⟨-, -, -, a5, a6, a7⟩
      · skip
        have w : gW K n (bK2 K n 52 54) (n + 2) := gW_tr gK_gw gK_gw
        have c114 : kN (bK2 K n 52 54) 114 (n + 2) = kN K 114 n + 0 := kN_2
        have c52 : kN (bK2 K n 52 54) 52 (n + 2) = kN K 52 n + 1 := kN_2
        have c53 : kN (bK2 K n 52 54) 53 (n + 2) = kN K 53 n + 0 := kN_2
        have c54 : kN (bK2 K n 52 54) 54 (n + 2) = kN K 54 n + 1 := kN_2
        have k1 : tC (bK2 K n 52 54) (n + 2) = tC K n + 2 := by
          unfold tC
          omega
        have k2 : tS (bK2 K n 52 54) (n + 2) = tS K n + 393216 := by
          unfold tS
          omega
        have r1 : tC K n + 2 ≤ 5 := by
          unfold tC
          omega
        have r2 : tS K n + 393216 ≤ 638976 := by
          unfold tS
          omega
        refine jk_Vg X hR d_EN_prepare_80 q_EN_prepare_80 m_EN_build i_EN_build e_EN_build (ci := 8) rfl rfl hen hs (bz_Pn i1 i2 hen hken hs t2 t3 t4 t5 t6 t7 t8 hqs) rfl rfl ⟨hf1, Nat.le_trans (Nat.le_of_ble_eq_true rfl) hf2⟩ rfl rfl ⟨by rw [hc1]; show _ + 2 ≤ _; omega, by rw [hc2]; show _ + 393216 ≤ _; omega⟩ (Nat.le_of_ble_eq_true rfl) (pc' := 83) rfl ?_
        rintro _ σ' _ ⟨rfl, t, rfl, t1, t2', g1, g2, g3, g4⟩
        obtain ⟨tl', s1, s2, s3⟩ := pI_mk h w (tb_2 (by unfold tb4; decide) (by unfold tb4; decide)) bdN_en (fun a ha hne => bdN_o hne (by omega) (by omega)) g1 g2 g3 g4 (aAllc (by unfold tb4; decide) (aAllc (by unfold tb4; decide) (fun q hq => by cases hq))) (by omega) (by omega)
        exact cont 2 393216 _ _ σ' t (n + 1) tl' _ k1 k2 s2 s1 (s3 _ _ _ (aG_gw w t3) (aG_gw w t4) ⟨t1, Or.inl t2'⟩ ⟨by rw [c114]; have : nl (.inr (.inr (some (.inl t))) : jv) = 0 := rfl; omega, by rw [c52]; have : nl (.inr (.inr (some (.inl t))) : jv) = 0 := rfl; omega, Or.inr ⟨gK_at, by omega, by omega, m3 hm, m4 hm, rfl⟩⟩)
      · obtain ⟨g, hqs⟩ := tb_ce i1 t7 a1 (L := 81920) rfl (by decide)
        have w : gW K n (bK2 K n 52 54) (n + 2) := gW_tr gK_gw gK_gw
        have c114 : kN (bK2 K n 52 54) 114 (n + 2) = kN K 114 n + 0 := kN_2
        have c52 : kN (bK2 K n 52 54) 52 (n + 2) = kN K 52 n + 1 := kN_2
        have c53 : kN (bK2 K n 52 54) 53 (n + 2) = kN K 53 n + 0 := kN_2
        have c54 : kN (bK2 K n 52 54) 54 (n + 2) = kN K 54 n + 1 := kN_2
        have k1 : tC (bK2 K n 52 54) (n + 2) = tC K n + 2 := by
          unfold tC
          omega
        have k2 : tS (bK2 K n 52 54) (n + 2) = tS K n + 393216 := by
          unfold tS
          omega
        have r1 : tC K n + 2 ≤ 5 := by
          unfold tC
          omega
        have r2 : tS K n + 393216 ≤ 638976 := by
          unfold tS
          omega
        refine jk_Vg X hR d_EN_prepare_80 q_EN_prepare_80 m_EN_build i_EN_build e_EN_build (ci := 8) rfl rfl hen hs (bz_Pq i1 i2 hen hken hs t2 t3 t4 t5 t6 t7 t8 hqs) rfl rfl ⟨hf1, Nat.le_trans (Nat.le_of_ble_eq_true rfl) hf2⟩ rfl rfl ⟨by rw [hc1]; show _ + 2 ≤ _; omega, by rw [hc2]; show _ + 393216 ≤ _; omega⟩ (Nat.le_of_ble_eq_true rfl) (pc' := 83) rfl ?_
        rintro _ σ' _ ⟨rfl, t, rfl, t1, t2', g1, g2, g3, g4⟩
        obtain ⟨tl', s1, s2, s3⟩ := pI_mk h w (tb_2 (by unfold tb4; decide) (by unfold tb4; decide)) bdN_en (fun a ha hne => bdN_o hne (by omega) (by omega)) g1 g2 g3 g4 (aAllc (by unfold tb4; decide) (aAllc (by unfold tb4; decide) (fun q hq => by cases hq))) (by omega) (by omega)
        exact cont 2 393216 _ _ σ' t (n + 1) tl' _ k1 k2 s2 s1 (s3 _ _ _ (aG_gw w t3) (aG_gw w t4) ⟨t1, Or.inl t2'⟩ ⟨by rw [c114]; have : nl (.inr (.inr (some (.inl t))) : jv) = 0 := rfl; omega, by rw [c52]; have : nl (.inr (.inr (some (.inl t))) : jv) = 0 := rfl; omega, Or.inr ⟨gK_at, by omega, by omega, m3 hm, m4 hm, rfl⟩⟩)
      · exact absurd a7 (by decide)
    · exact sg3_b X hen hs hm (kk K n σ h)
  · exact sg3_a X hen hs (kk K n σ h)
end PRS
