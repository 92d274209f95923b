theorem lt8 {b : Nat} (hb : b < 64) (h : nI b < 8) : b < 8 ∨ 55 < b := Or.inl ((nI_ltI (by omega) (by omega)).mp (show nI b < nI 8 from h))
theorem gt55 {b : Nat} (hb : b < 64) (h : ¬ nI b ≤ 55) : b < 8 ∨ 55 < b := Or.inr (by
  rw [show (55 : Int32) = nI 55 from rfl, nI_leI (by omega) (by omega)] at h
  omega)
/-! how many moves there are at most -/
def wN (a b : Nat) : Nat := if geoN a b = true then 1 else 0
def wP (a b : Nat) : Nat := if geoP a b = true then (if b < 8 ∨ 55 < b then 4 else 1) else 0
def sumW (w : Nat → Nat) : Nat → Nat
  | 0 => 0
  | b + 1 => sumW w b + w b
def base : Nat → Nat
  | 0 => 0
  | a + 1 => base a + sumW (wN a) 64
def part (p : Prop) [Decidable p] (a b : Nat) : Nat := if p then sumW (wP a) b else sumW (wN a) b
set_option maxRecDepth 100000 in
theorem base_ok : base 64 ≤ 1800 := by decide +kernel
set_option maxRecDepth 100000 in
theorem cap_ok : ∀ a, a < 64 → sumW (wP a) 64 ≤ sumW (wN a) 64 ∧ sumW (wN a) 64 ≤ 40 := by decide +kernel
theorem sumW_mono (w : Nat → Nat) {b c : Nat} (h : b ≤ c) : sumW w b ≤ sumW w c := by
  induction c with
  | zero => simp at h; subst h; exact Nat.le_refl _
  | succ c ih =>
    by_cases hb : b = c + 1
    · subst hb; exact Nat.le_refl _
    · exact Nat.le_trans (ih (by omega)) (Nat.le_add_right _ _)
theorem base_mono {a c : Nat} (h : a ≤ c) : base a ≤ base c := by
  induction c with
  | zero => simp at h; subst h; exact Nat.le_refl _
  | succ c ih =>
    by_cases hb : a = c + 1
    · subst hb; exact Nat.le_refl _
    · exact Nat.le_trans (ih (by omega)) (Nat.le_add_right _ _)
theorem part_end (p : Prop) [Decidable p] {a : Nat} (ha : a < 64) : base a + part p a 64 ≤ base (a + 1) := by
  have h := cap_ok a ha
  show _ ≤ base a + sumW (wN a) 64
  unfold part
  split <;> omega
theorem part_cap (p : Prop) [Decidable p] {a b : Nat} (ha : a < 64) (hb : b ≤ 64) : base a + part p a b ≤ 1900 := by
  have h := cap_ok a ha
  have h1 := sumW_mono (wP a) hb
  have h2 := sumW_mono (wN a) hb
  have h3 := base_mono (a := a) (c := 64) (by omega)
  have h4 := base_ok
  unfold part
  split <;> omega
theorem part_step {p : Prop} [Decidable p] {a b : Nat} {v : Int32} (hg : if p then geoP a b = true else geoN a b = true) (hv : v = 1 → p ∧ (b < 8 ∨ 55 < b)) : base a + part p a b + (if v = 1 then 4 else 1) ≤ base a + part p a (b + 1) := by
  unfold part
  by_cases hp : p
  · rw [if_pos hp] at hg
    rw [if_pos hp, if_pos hp]
    show _ ≤ base a + (sumW (wP a) b + wP a b)
    unfold wP
    rw [if_pos hg]
    by_cases h1 : v = 1
    · rw [if_pos h1, if_pos (hv h1).2]; omega
    · rw [if_neg h1]
      split <;> omega
  · rw [if_neg hp] at hg
    rw [if_neg hp, if_neg hp, if_neg (fun h1 => hp (hv h1).1)]
    show _ ≤ base a + (sumW (wN a) b + wN a b)
    unfold wN
    rw [if_pos hg]
    omega
theorem part_skip (p : Prop) [Decidable p] (a b : Nat) : part p a b ≤ part p a (b + 1) := by
  unfold part
  split
  · exact sumW_mono _ (Nat.le_succ b)
  · exact sumW_mono _ (Nat.le_succ b)
set_option maxRecDepth 100000 in
theorem fm_1 : ∀ a, a < 64 → ∀ b, b < 64 → (nI a + 64 * nI b) - (nI a + 64 * nI b) / 64 * 64 = nI a ∧ (nI a + 64 * nI b) / 64 - (nI a + 64 * nI b) / 64 / 64 * 64 = nI b := by decide +kernel
set_option maxRecDepth 100000 in
set_option maxHeartbeats 4000000 in
/-- all moves are found: at most 1900; the men stand as they stood -/
theorem c_MT_findMoves (l : Launch) (E : jE) (σ : Nat → jcell) (n : Nat) (P : txp) (g : List jv) (hd : txd P g n) (sd ri pa cl nu mv : Int32) (men km kr li : Nat → Int32) (hsd : sd = 0 ∨ sd = 1) : jMet l E jcl jtb lw_tbl y_MT_findMoves { frames := 5, cells := 0, slots := 0, locals := 220 } [.inr (.inr (some (.inl (P.1))))] (txS σ P g sd ri pa cl nu mv men km kr li) n (fun r σ' n' => ∃ (q : Nat) (men' km' kr' li' : Nat → Int32), q ≤ 1900 ∧ (∀ j, j < 64 → men' j = men j) ∧ r = none ∧ n' = n ∧ σ' = (txS σ P g sd ri pa cl nu (nI q) men' km' kr' li')) := by
  refine jMet_of (hY := rfl) false (fun h => by cases h) (by decide) (Nat.le_of_ble_eq_true rfl) [some (.inr (.inr (some (.inl (P.1))))), none, none, none, none, none] rfl ?_
  intro M hl hR X hr
  have C169 : ∀ (q : Nat) (xm : Nat → Int32) (xk : Nat → Int32) (xr : Nat → Int32) (xl : Nat → Int32) (v1 : Int32) (o2 : Option jv) (o3 : Option jv) (o4 : Option jv) (o5 : Option jv), (∀ j, j < 64 → xm j = men j) → (q ≤ 1900) → jJ E jcl 6 M (jQ E jcl M (fun r σ' n' => ∃ (q : Nat) (men' km' kr' li' : Nat → Int32), q ≤ 1900 ∧ (∀ j, j < 64 → men' j = men j) ∧ r = none ∧ n' = n ∧ σ' = (txS σ P g sd ri pa cl nu (nI q) men' km' kr' li')) 0 0) n 0 0 169 [some (.inr (.inr (some (.inl (P.1))))), some (.inl v1), o2, o3, o4, o5] [] (txS σ P g sd ri pa cl nu (nI q) xm xk xr xl) := by
    intro q xm xk xr xl v1 o2 o3 o4 o5 c0 c1
    exact jk_vret X d_MT_findMoves_169 hr (Nat.le_refl _) (Nat.le_refl _) ⟨q, xm, xk, xr, xl, (by assumption), (by assumption), rfl, rfl, rfl⟩
  have hloop7 : ∀ (u a q : Nat) (xm xk xr xl : Nat → Int32) (o2 o3 o4 o5 : Option jv), a + u = 64 → (∀ j, j < 64 → xm j = men j) → q ≤ base a → jJ E jcl 6 M (jQ E jcl M (fun r σ' n' => ∃ (q : Nat) (men' km' kr' li' : Nat → Int32), q ≤ 1900 ∧ (∀ j, j < 64 → men' j = men j) ∧ r = none ∧ n' = n ∧ σ' = (txS σ P g sd ri pa cl nu (nI q) men' km' kr' li')) 0 0) n 0 0 7 [some (.inr (.inr (some (.inl (P.1))))), some (.inl (nI a)), o2, o3, o4, o5] [] (txS σ P g sd ri pa cl nu (nI q) xm xk xr xl) := by
    intro u
    induction u with
    | zero =>
      intro a q xm xk xr xl o2 o3 o4 o5 hu c0 hq
      obtain rfl : a = 64 := by omega
      refine jrun_ok jC X k_MT_findMoves_7 7 _ _ _ o_MT_findMoves_7 ?_
      simp only [k_MT_findMoves_7, jrun, jstep, jldi, jldl, jlda, j1, j2, jl1, jl2, jli, ja1, jbr, jald, jast, jlald, jlast, jalen, jget, jput, jfit, jdup, jdupx, jdupx2, jdup2, jcat, jset1, jset2, jkill, List.getElem?_cons_zero, List.getElem?_cons_succ, List.set_cons_zero, List.set_cons_succ, List.length_cons, List.length_nil, Nat.reduceAdd, Nat.reduceLT, Int32.reduceToNatClampNeg, true_and, and_true, and_self, reduceCtorEq, not_false_eq_true, false_and, and_false, or_false, false_or, true_or, or_true, tx_t hd, tx_m hd, tx_k hd, tx_r hd, tx_l hd, tx_ut hd, tx_um hd, tx_uk hd, tx_ur hd, tx_ul hd, mtf_len hd.2.1, mtf_24, mtf_30, mtf_31, mtf_32, mtf_25 hd.2.1, mtf_26 hd.2.1, mtf_27 hd.2.1, mtf_28 hd.2.1, mtf_29 hd.2.1, mtf_33 hd.2.1, mtf_s25, mtf_s26, mtf_s27, mtf_s28, mtf_s29, mtf_s33, hd.2.2.1, hd.2.2.2.1, hd.2.2.2.2.1, hd.2.2.2.2.2, tx_nt hd, tx_nm hd, tx_nk hd, tx_nr hd, tx_nl hd, vp_nar_int32]
      refine ⟨fun _ => ?_, fun h => absurd (by decide) h⟩
      have h4 := base_ok
      exact C169 _ _ _ _ _ _ _ _ _ _ c0 (by omega)
    | succ u ih =>
      intro a q xm xk xr xl o2 o3 o4 o5 hu c0 hq
      have ha : a < 64 := by omega
      have hca : (nI a).toNatClampNeg = a := nI_clamp (by omega)
      have C163 : ∀ (q : Nat) (xm xk xr xl : Nat → Int32) (o2 o3 o4 o5 : Option jv), (∀ j, j < 64 → xm j = men j) → q ≤ base (a + 1) → jJ E jcl 6 M (jQ E jcl M (fun r σ' n' => ∃ (q : Nat) (men' km' kr' li' : Nat → Int32), q ≤ 1900 ∧ (∀ j, j < 64 → men' j = men j) ∧ r = none ∧ n' = n ∧ σ' = (txS σ P g sd ri pa cl nu (nI q) men' km' kr' li')) 0 0) n 0 0 163 [some (.inr (.inr (some (.inl (P.1))))), some (.inl (nI a)), o2, o3, o4, o5] [] (txS σ P g sd ri pa cl nu (nI q) xm xk xr xl) := by
        intro q xm xk xr xl o2 o3 o4 o5 c0 hq
        refine jrun_ok jC X k_MT_findMoves_163 163 _ _ _ o_MT_findMoves_163 ?_
        simp only [k_MT_findMoves_163, jrun, jstep, jldi, jldl, jlda, j1, j2, jl1, jl2, jli, ja1, jbr, jald, jast, jlald, jlast, jalen, jget, jput, jfit, jdup, jdupx, jdupx2, jdup2, jcat, jset1, jset2, jkill, List.getElem?_cons_zero, List.getElem?_cons_succ, List.set_cons_zero, List.set_cons_succ, List.length_cons, List.length_nil, Nat.reduceAdd, Nat.reduceLT, Int32.reduceToNatClampNeg, true_and, and_true, and_self, reduceCtorEq, not_false_eq_true, false_and, and_false, or_false, false_or, true_or, or_true, tx_t hd, tx_m hd, tx_k hd, tx_r hd, tx_l hd, tx_ut hd, tx_um hd, tx_uk hd, tx_ur hd, tx_ul hd, mtf_len hd.2.1, mtf_24, mtf_30, mtf_31, mtf_32, mtf_25 hd.2.1, mtf_26 hd.2.1, mtf_27 hd.2.1, mtf_28 hd.2.1, mtf_29 hd.2.1, mtf_33 hd.2.1, mtf_s25, mtf_s26, mtf_s27, mtf_s28, mtf_s29, mtf_s33, hd.2.2.1, hd.2.2.2.1, hd.2.2.2.2.1, hd.2.2.2.2.2, tx_nt hd, tx_nm hd, tx_nk hd, tx_nr hd, tx_nl hd, vp_nar_int32]
        rw [nI_1]
        exact ih (a + 1) q xm xk xr xl _ _ _ _ (by omega) c0 hq
      have hloop15 : ∀ (w b q : Nat) (xm xk xr xl : Nat → Int32) (o3 o4 o5 : Option jv), b + w = 64 → (∀ j, j < 64 → xm j = men j) → q ≤ base a + part (men a &&& 7 = 1) a b → jJ E jcl 6 M (jQ E jcl M (fun r σ' n' => ∃ (q : Nat) (men' km' kr' li' : Nat → Int32), q ≤ 1900 ∧ (∀ j, j < 64 → men' j = men j) ∧ r = none ∧ n' = n ∧ σ' = (txS σ P g sd ri pa cl nu (nI q) men' km' kr' li')) 0 0) n 0 0 15 [some (.inr (.inr (some (.inl (P.1))))), some (.inl (nI a)), some (.inl (nI b)), o3, o4, o5] [] (txS σ P g sd ri pa cl nu (nI q) xm xk xr xl) := by
        intro w
        induction w with
        | zero =>
          intro b q xm xk xr xl o3 o4 o5 hw c0 hq
          obtain rfl : b = 64 := by omega
          have h8 := part_end (men a &&& 7 = 1) ha
          refine jrun_ok jC X k_MT_findMoves_15 15 _ _ _ o_MT_findMoves_15 ?_
          simp only [k_MT_findMoves_15, jrun, jstep, jldi, jldl, jlda, j1, j2, jl1, jl2, jli, ja1, jbr, jald, jast, jlald, jlast, jalen, jget, jput, jfit, jdup, jdupx, jdupx2, jdup2, jcat, jset1, jset2, jkill, List.getElem?_cons_zero, List.getElem?_cons_succ, List.set_cons_zero, List.set_cons_succ, List.length_cons, List.length_nil, Nat.reduceAdd, Nat.reduceLT, Int32.reduceToNatClampNeg, true_and, and_true, and_self, reduceCtorEq, not_false_eq_true, false_and, and_false, or_false, false_or, true_or, or_true, tx_t hd, tx_m hd, tx_k hd, tx_r hd, tx_l hd, tx_ut hd, tx_um hd, tx_uk hd, tx_ur hd, tx_ul hd, mtf_len hd.2.1, mtf_24, mtf_30, mtf_31, mtf_32, mtf_25 hd.2.1, mtf_26 hd.2.1, mtf_27 hd.2.1, mtf_28 hd.2.1, mtf_29 hd.2.1, mtf_33 hd.2.1, mtf_s25, mtf_s26, mtf_s27, mtf_s28, mtf_s29, mtf_s33, hd.2.2.1, hd.2.2.2.1, hd.2.2.2.2.1, hd.2.2.2.2.2, tx_nt hd, tx_nm hd, tx_nk hd, tx_nr hd, tx_nl hd, vp_nar_int32]
          refine ⟨fun _ => C163 _ _ _ _ _ _ _ _ _ c0 (by omega), fun h => absurd (by decide) h⟩
        | succ w ihb =>
          intro b q xm xk xr xl o3 o4 o5 hw c0 hq
          have hb : b < 64 := by omega
          have hcap := part_cap (men a &&& 7 = 1) ha (b := b + 1) (by omega)
          have hskip := part_skip (men a &&& 7 = 1) a b
          have hend := part_end (men a &&& 7 = 1) ha
          have hmono : base a + part (men a &&& 7 = 1) a b ≤ base (a + 1) := by
            have h5 : part (men a &&& 7 = 1) a b ≤ part (men a &&& 7 = 1) a 64 := by
              unfold part
              split
              · exact sumW_mono _ (by omega)
              · exact sumW_mono _ (by omega)
            omega
          have C157 : ∀ (q : Nat) (xm xk xr xl : Nat → Int32) (o3 o4 o5 : Option jv), (∀ j, j < 64 → xm j = men j) → q ≤ base a + part (men a &&& 7 = 1) a (b + 1) → jJ E jcl 6 M (jQ E jcl M (fun r σ' n' => ∃ (q : Nat) (men' km' kr' li' : Nat → Int32), q ≤ 1900 ∧ (∀ j, j < 64 → men' j = men j) ∧ r = none ∧ n' = n ∧ σ' = (txS σ P g sd ri pa cl nu (nI q) men' km' kr' li')) 0 0) n 0 0 157 [some (.inr (.inr (some (.inl (P.1))))), some (.inl (nI a)), some (.inl (nI b)), o3, o4, o5] [] (txS σ P g sd ri pa cl nu (nI q) xm xk xr xl) := by
            intro q xm xk xr xl o3 o4 o5 c0 hq
            refine jrun_ok jC X k_MT_findMoves_157 157 _ _ _ o_MT_findMoves_157 ?_
            simp only [k_MT_findMoves_157, jrun, jstep, jldi, jldl, jlda, j1, j2, jl1, jl2, jli, ja1, jbr, jald, jast, jlald, jlast, jalen, jget, jput, jfit, jdup, jdupx, jdupx2, jdup2, jcat, jset1, jset2, jkill, List.getElem?_cons_zero, List.getElem?_cons_succ, List.set_cons_zero, List.set_cons_succ, List.length_cons, List.length_nil, Nat.reduceAdd, Nat.reduceLT, Int32.reduceToNatClampNeg, true_and, and_true, and_self, reduceCtorEq, not_false_eq_true, false_and, and_false, or_false, false_or, true_or, or_true, tx_t hd, tx_m hd, tx_k hd, tx_r hd, tx_l hd, tx_ut hd, tx_um hd, tx_uk hd, tx_ur hd, tx_ul hd, mtf_len hd.2.1, mtf_24, mtf_30, mtf_31, mtf_32, mtf_25 hd.2.1, mtf_26 hd.2.1, mtf_27 hd.2.1, mtf_28 hd.2.1, mtf_29 hd.2.1, mtf_33 hd.2.1, mtf_s25, mtf_s26, mtf_s27, mtf_s28, mtf_s29, mtf_s33, hd.2.2.1, hd.2.2.2.1, hd.2.2.2.2.1, hd.2.2.2.2.2, tx_nt hd, tx_nm hd, tx_nk hd, tx_nr hd, tx_nl hd, vp_nar_int32]
            rw [nI_1]
            exact ihb (b + 1) q xm xk xr xl _ _ _ (by omega) c0 hq
          have hloop100 : ∀ (z e q : Nat) (xm xk xr xl : Nat → Int32) (v3 v4 : Int32), 7 - e ≤ z → (∀ j, j < 64 → xm j = men j) → ((v3 = 1 ∧ 2 ≤ e ∧ e ≤ 6 ∧ q + (6 - e) ≤ base a + part (men a &&& 7 = 1) a (b + 1)) ∨ (v3 = 0 ∧ e ≤ 1 ∧ q + (1 - e) ≤ base a + part (men a &&& 7 = 1) a (b + 1))) → jJ E jcl 6 M (jQ E jcl M (fun r σ' n' => ∃ (q : Nat) (men' km' kr' li' : Nat → Int32), q ≤ 1900 ∧ (∀ j, j < 64 → men' j = men j) ∧ r = none ∧ n' = n ∧ σ' = (txS σ P g sd ri pa cl nu (nI q) men' km' kr' li')) 0 0) n 0 0 100 [some (.inr (.inr (some (.inl (P.1))))), some (.inl (nI a)), some (.inl (nI b)), some (.inl v3), some (.inl v4), some (.inl (nI e))] [] (txS σ P g sd ri pa cl nu (nI q) xm xk xr xl) := by
            intro z
            induction z with
            | zero =>
              intro e q xm xk xr xl v3 v4 hz c0 hi
              omega
            | succ z ihz =>
              intro e q xm xk xr xl v3 v4 hz c0 hi
              have hcq : q < 2048 := by omega
              have C116 : ∀ (L : Nat), ((v3 = 1 ∧ L = 5) ∨ (v3 = 0 ∧ L = 0)) → jJ E jcl 6 M (jQ E jcl M (fun r σ' n' => ∃ (q : Nat) (men' km' kr' li' : Nat → Int32), q ≤ 1900 ∧ (∀ j, j < 64 → men' j = men j) ∧ r = none ∧ n' = n ∧ σ' = (txS σ P g sd ri pa cl nu (nI q) men' km' kr' li')) 0 0) n 0 0 116 [some (.inr (.inr (some (.inl (P.1))))), some (.inl (nI a)), some (.inl (nI b)), some (.inl v3), some (.inl v4), some (.inl (nI e))] [.inl (nI L), .inl (nI e)] (txS σ P g sd ri pa cl nu (nI q) xm xk xr xl) := by
                intro L hL
                refine jrun_ok jC X k_MT_findMoves_116 116 _ _ _ o_MT_findMoves_116 ?_
                have hcq2 : (nI q).toNatClampNeg = q := nI_clamp (by omega)
                simp only [k_MT_findMoves_116, jrun, jstep, jldi, jldl, jlda, j1, j2, jl1, jl2, jli, ja1, jbr, jald, jast, jlald, jlast, jalen, jget, jput, jfit, jdup, jdupx, jdupx2, jdup2, jcat, jset1, jset2, jkill, List.getElem?_cons_zero, List.getElem?_cons_succ, List.set_cons_zero, List.set_cons_succ, List.length_cons, List.length_nil, Nat.reduceAdd, Nat.reduceLT, Int32.reduceToNatClampNeg, true_and, and_true, and_self, reduceCtorEq, not_false_eq_true, false_and, and_false, or_false, false_or, true_or, or_true, tx_t hd, tx_m hd, tx_k hd, tx_r hd, tx_l hd, tx_ut hd, tx_um hd, tx_uk hd, tx_ur hd, tx_ul hd, mtf_len hd.2.1, mtf_24, mtf_30, mtf_31, mtf_32, mtf_25 hd.2.1, mtf_26 hd.2.1, mtf_27 hd.2.1, mtf_28 hd.2.1, mtf_29 hd.2.1, mtf_33 hd.2.1, mtf_s25, mtf_s26, mtf_s27, mtf_s28, mtf_s29, mtf_s33, hd.2.2.1, hd.2.2.2.1, hd.2.2.2.2.1, hd.2.2.2.2.2, tx_nt hd, tx_nm hd, tx_nk hd, tx_nr hd, tx_nl hd, vp_nar_int32, hcq2]
                refine ⟨fun h => C157 _ _ _ _ _ _ _ _ c0 (by omega), fun h => ⟨vp_in_nI hcq (by omega), ?_⟩⟩
                rw [nI_ltI (by omega) (by omega)] at h
                rw [nI_1, nI_1]
                rcases hi with ⟨h1, h2, h3, h4⟩ | ⟨h1, h2, h3⟩
                · have hL5 : L = 5 := by
                    rcases hL with h9 | h9
                    · exact h9.2
                    · exact absurd (h1.symm.trans h9.1) (by decide)
                  exact ihz (e + 1) (q + 1) xm xk xr _ v3 v4 (by omega) c0 (Or.inl ⟨h1, by omega, by omega, by omega⟩)
                · have hL0 : L = 0 := by
                    rcases hL with h9 | h9
                    · exact absurd (h1.symm.trans h9.1) (by decide)
                    · exact h9.2
                  exact ihz (e + 1) (q + 1) xm xk xr _ v3 v4 (by omega) c0 (Or.inr ⟨h1, by omega, by omega⟩)
              refine jrun_ok jC X k_MT_findMoves_100 100 _ _ _ o_MT_findMoves_100 ?_
              simp only [k_MT_findMoves_100, jrun, jstep, jldi, jldl, jlda, j1, j2, jl1, jl2, jli, ja1, jbr, jald, jast, jlald, jlast, jalen, jget, jput, jfit, jdup, jdupx, jdupx2, jdup2, jcat, jset1, jset2, jkill, List.getElem?_cons_zero, List.getElem?_cons_succ, List.set_cons_zero, List.set_cons_succ, List.length_cons, List.length_nil, Nat.reduceAdd, Nat.reduceLT, Int32.reduceToNatClampNeg, true_and, and_true, and_self, reduceCtorEq, not_false_eq_true, false_and, and_false, or_false, false_or, true_or, or_true, tx_t hd, tx_m hd, tx_k hd, tx_r hd, tx_l hd, tx_ut hd, tx_um hd, tx_uk hd, tx_ur hd, tx_ul hd, mtf_len hd.2.1, mtf_24, mtf_30, mtf_31, mtf_32, mtf_25 hd.2.1, mtf_26 hd.2.1, mtf_27 hd.2.1, mtf_28 hd.2.1, mtf_29 hd.2.1, mtf_33 hd.2.1, mtf_s25, mtf_s26, mtf_s27, mtf_s28, mtf_s29, mtf_s33, hd.2.2.1, hd.2.2.2.1, hd.2.2.2.2.1, hd.2.2.2.2.2, tx_nt hd, tx_nm hd, tx_nk hd, tx_nr hd, tx_nl hd, vp_nar_int32]
              refine ⟨fun _ => C157 _ _ _ _ _ _ _ _ c0 (by omega), fun _ => ⟨fun h => ?_, fun h => ?_⟩⟩
              · refine jrun_ok jC X k_MT_findMoves_115 115 _ _ _ o_MT_findMoves_115 ?_
                simp only [k_MT_findMoves_115, jrun, jstep, jldi, jldl, jlda, j1, j2, jl1, jl2, jli, ja1, jbr, jald, jast, jlald, jlast, jalen, jget, jput, jfit, jdup, jdupx, jdupx2, jdup2, jcat, jset1, jset2, jkill, List.getElem?_cons_zero, List.getElem?_cons_succ, List.set_cons_zero, List.set_cons_succ, List.length_cons, List.length_nil, Nat.reduceAdd, Nat.reduceLT, Int32.reduceToNatClampNeg, true_and, and_true, and_self, reduceCtorEq, not_false_eq_true, false_and, and_false, or_false, false_or, true_or, or_true, tx_t hd, tx_m hd, tx_k hd, tx_r hd, tx_l hd, tx_ut hd, tx_um hd, tx_uk hd, tx_ur hd, tx_ul hd, mtf_len hd.2.1, mtf_24, mtf_30, mtf_31, mtf_32, mtf_25 hd.2.1, mtf_26 hd.2.1, mtf_27 hd.2.1, mtf_28 hd.2.1, mtf_29 hd.2.1, mtf_33 hd.2.1, mtf_s25, mtf_s26, mtf_s27, mtf_s28, mtf_s29, mtf_s33, hd.2.2.1, hd.2.2.2.1, hd.2.2.2.2.1, hd.2.2.2.2.2, tx_nt hd, tx_nm hd, tx_nk hd, tx_nr hd, tx_nl hd, vp_nar_int32]
                exact C116 0 (by rcases hi with h9 | h9; · exact absurd (h9.1.symm.trans h) (by decide)
                                 · exact Or.inr ⟨h9.1, rfl⟩)
              · exact C116 5 (by rcases hi with h9 | h9; · exact Or.inl ⟨h9.1, rfl⟩
                                 · exact absurd h9.1 h)
          have C98 : ∀ (q : Nat) (xm xk xr xl : Nat → Int32) (v3 v4 s0 : Int32) (o5 : Option jv), (∀ j, j < 64 → xm j = men j) → ((v3 = 1 ∧ s0 = nI 2 ∧ q + 4 ≤ base a + part (men a &&& 7 = 1) a (b + 1)) ∨ (v3 = 0 ∧ s0 = nI 0 ∧ q + 1 ≤ base a + part (men a &&& 7 = 1) a (b + 1))) → jJ E jcl 6 M (jQ E jcl M (fun r σ' n' => ∃ (q : Nat) (men' km' kr' li' : Nat → Int32), q ≤ 1900 ∧ (∀ j, j < 64 → men' j = men j) ∧ r = none ∧ n' = n ∧ σ' = (txS σ P g sd ri pa cl nu (nI q) men' km' kr' li')) 0 0) n 0 0 98 [some (.inr (.inr (some (.inl (P.1))))), some (.inl (nI a)), some (.inl (nI b)), some (.inl v3), some (.inl v4), o5] [.inl s0] (txS σ P g sd ri pa cl nu (nI q) xm xk xr xl) := by
            intro q xm xk xr xl v3 v4 s0 o5 c0 hs
            refine jrun_ok jC X k_MT_findMoves_98 98 _ _ _ o_MT_findMoves_98 ?_
            simp only [k_MT_findMoves_98, jrun, jstep, jldi, jldl, jlda, j1, j2, jl1, jl2, jli, ja1, jbr, jald, jast, jlald, jlast, jalen, jget, jput, jfit, jdup, jdupx, jdupx2, jdup2, jcat, jset1, jset2, jkill, List.getElem?_cons_zero, List.getElem?_cons_succ, List.set_cons_zero, List.set_cons_succ, List.length_cons, List.length_nil, Nat.reduceAdd, Nat.reduceLT, Int32.reduceToNatClampNeg, true_and, and_true, and_self, reduceCtorEq, not_false_eq_true, false_and, and_false, or_false, false_or, true_or, or_true, tx_t hd, tx_m hd, tx_k hd, tx_r hd, tx_l hd, tx_ut hd, tx_um hd, tx_uk hd, tx_ur hd, tx_ul hd, mtf_len hd.2.1, mtf_24, mtf_30, mtf_31, mtf_32, mtf_25 hd.2.1, mtf_26 hd.2.1, mtf_27 hd.2.1, mtf_28 hd.2.1, mtf_29 hd.2.1, mtf_33 hd.2.1, mtf_s25, mtf_s26, mtf_s27, mtf_s28, mtf_s29, mtf_s33, hd.2.2.1, hd.2.2.2.1, hd.2.2.2.2.1, hd.2.2.2.2.2, tx_nt hd, tx_nm hd, tx_nk hd, tx_nr hd, tx_nl hd, vp_nar_int32]
            rcases hs with ⟨h1, rfl, h2⟩ | ⟨h1, rfl, h2⟩
            · exact hloop100 99 2 q xm xk xr xl v3 v4 (by omega) c0 (Or.inl ⟨h1, by omega, by omega, by omega⟩)
            · exact hloop100 99 0 q xm xk xr xl v3 v4 (by omega) c0 (Or.inr ⟨h1, by omega, by omega⟩)
          have C87 : ∀ (q : Nat) (xm xk xr xl : Nat → Int32) (v3 s0 : Int32) (o4 o5 : Option jv), (∀ j, j < 64 → xm j = men j) → q ≤ base a + part (men a &&& 7 = 1) a b → (if men a &&& 7 = 1 then geoP a b = true else geoN a b = true) → (v3 = 0 ∨ v3 = 1) → (v3 = 1 → (men a &&& 7 = 1) ∧ (b < 8 ∨ 55 < b)) → jJ E jcl 6 M (jQ E jcl M (fun r σ' n' => ∃ (q : Nat) (men' km' kr' li' : Nat → Int32), q ≤ 1900 ∧ (∀ j, j < 64 → men' j = men j) ∧ r = none ∧ n' = n ∧ σ' = (txS σ P g sd ri pa cl nu (nI q) men' km' kr' li')) 0 0) n 0 0 87 [some (.inr (.inr (some (.inl (P.1))))), some (.inl (nI a)), some (.inl (nI b)), some (.inl v3), o4, o5] [.inl s0] (txS σ P g sd ri pa cl nu (nI q) xm xk xr xl) := by
            intro q xm xk xr xl v3 s0 o4 o5 c0 hq hg hv hl3
            have hst := part_step hg hl3
            refine jrun_ok jC X k_MT_findMoves_87 87 _ _ _ o_MT_findMoves_87 ?_
            simp only [k_MT_findMoves_87, jrun, jstep, jldi, jldl, jlda, j1, j2, jl1, jl2, jli, ja1, jbr, jald, jast, jlald, jlast, jalen, jget, jput, jfit, jdup, jdupx, jdupx2, jdup2, jcat, jset1, jset2, jkill, List.getElem?_cons_zero, List.getElem?_cons_succ, List.set_cons_zero, List.set_cons_succ, List.length_cons, List.length_nil, Nat.reduceAdd, Nat.reduceLT, Int32.reduceToNatClampNeg, true_and, and_true, and_self, reduceCtorEq, not_false_eq_true, false_and, and_false, or_false, false_or, true_or, or_true, tx_t hd, tx_m hd, tx_k hd, tx_r hd, tx_l hd, tx_ut hd, tx_um hd, tx_uk hd, tx_ur hd, tx_ul hd, mtf_len hd.2.1, mtf_24, mtf_30, mtf_31, mtf_32, mtf_25 hd.2.1, mtf_26 hd.2.1, mtf_27 hd.2.1, mtf_28 hd.2.1, mtf_29 hd.2.1, mtf_33 hd.2.1, mtf_s25, mtf_s26, mtf_s27, mtf_s28, mtf_s29, mtf_s33, hd.2.2.1, hd.2.2.2.1, hd.2.2.2.2.1, hd.2.2.2.2.2, tx_nt hd, tx_nm hd, tx_nk hd, tx_nr hd, tx_nl hd, vp_nar_int32]
            refine ⟨fun h => ?_, fun h => ?_⟩
            · rw [if_neg (by rw [h]; decide)] at hst
              refine jrun_ok jC X k_MT_findMoves_97 97 _ _ _ o_MT_findMoves_97 ?_
              simp only [k_MT_findMoves_97, jrun, jstep, jldi, jldl, jlda, j1, j2, jl1, jl2, jli, ja1, jbr, jald, jast, jlald, jlast, jalen, jget, jput, jfit, jdup, jdupx, jdupx2, jdup2, jcat, jset1, jset2, jkill, List.getElem?_cons_zero, List.getElem?_cons_succ, List.set_cons_zero, List.set_cons_succ, List.length_cons, List.length_nil, Nat.reduceAdd, Nat.reduceLT, Int32.reduceToNatClampNeg, true_and, and_true, and_self, reduceCtorEq, not_false_eq_true, false_and, and_false, or_false, false_or, true_or, or_true, tx_t hd, tx_m hd, tx_k hd, tx_r hd, tx_l hd, tx_ut hd, tx_um hd, tx_uk hd, tx_ur hd, tx_ul hd, mtf_len hd.2.1, mtf_24, mtf_30, mtf_31, mtf_32, mtf_25 hd.2.1, mtf_26 hd.2.1, mtf_27 hd.2.1, mtf_28 hd.2.1, mtf_29 hd.2.1, mtf_33 hd.2.1, mtf_s25, mtf_s26, mtf_s27, mtf_s28, mtf_s29, mtf_s33, hd.2.2.1, hd.2.2.2.1, hd.2.2.2.2.1, hd.2.2.2.2.2, tx_nt hd, tx_nm hd, tx_nk hd, tx_nr hd, tx_nl hd, vp_nar_int32]
              exact C98 q xm xk xr xl v3 s0 0 _ c0 (Or.inr ⟨h, rfl, by omega⟩)
            · have h1 : v3 = 1 := hv.resolve_left h
              rw [if_pos h1] at hst
              exact C98 q xm xk xr xl v3 s0 2 _ c0 (Or.inl ⟨h1, rfl, by omega⟩)
          have C76 : ∀ (q : Nat) (xm : Nat → Int32) (xk : Nat → Int32) (xr : Nat → Int32) (xl : Nat → Int32) (o3 : Option jv) (o4 : Option jv) (o5 : Option jv) (s0 : Int32), (∀ j, j < 64 → xm j = men j) → (q ≤ base a + part (men a &&& 7 = 1) a b) → (if men a &&& 7 = 1 then geoP a b = true else geoN a b = true) → (s0 = 0 ∨ s0 = 1) → (s0 = 1 → (men a &&& 7 = 1) ∧ (b < 8 ∨ 55 < b)) → jJ E jcl 6 M (jQ E jcl M (fun r σ' n' => ∃ (q : Nat) (men' km' kr' li' : Nat → Int32), q ≤ 1900 ∧ (∀ j, j < 64 → men' j = men j) ∧ r = none ∧ n' = n ∧ σ' = (txS σ P g sd ri pa cl nu (nI q) men' km' kr' li')) 0 0) n 0 0 76 [some (.inr (.inr (some (.inl (P.1))))), some (.inl (nI a)), some (.inl (nI b)), o3, o4, o5] [.inl s0] (txS σ P g sd ri pa cl nu (nI q) xm xk xr xl) := by
            intro q xm xk xr xl o3 o4 o5 s0 c0 c1 c2 c3 c4
            refine jrun_ok jC X k_MT_findMoves_76 76 _ _ _ o_MT_findMoves_76 ?_
            simp only [k_MT_findMoves_76, jrun, jstep, jldi, jldl, jlda, j1, j2, jl1, jl2, jli, ja1, jbr, jald, jast, jlald, jlast, jalen, jget, jput, jfit, jdup, jdupx, jdupx2, jdup2, jcat, jset1, jset2, jkill, List.getElem?_cons_zero, List.getElem?_cons_succ, List.set_cons_zero, List.set_cons_succ, List.length_cons, List.length_nil, Nat.reduceAdd, Nat.reduceLT, Int32.reduceToNatClampNeg, true_and, and_true, and_self, reduceCtorEq, not_false_eq_true, false_and, and_false, or_false, false_or, true_or, or_true, tx_t hd, tx_m hd, tx_k hd, tx_r hd, tx_l hd, tx_ut hd, tx_um hd, tx_uk hd, tx_ur hd, tx_ul hd, mtf_len hd.2.1, mtf_24, mtf_30, mtf_31, mtf_32, mtf_25 hd.2.1, mtf_26 hd.2.1, mtf_27 hd.2.1, mtf_28 hd.2.1, mtf_29 hd.2.1, mtf_33 hd.2.1, mtf_s25, mtf_s26, mtf_s27, mtf_s28, mtf_s29, mtf_s33, hd.2.2.1, hd.2.2.2.1, hd.2.2.2.2.1, hd.2.2.2.2.2, tx_nt hd, tx_nm hd, tx_nk hd, tx_nr hd, tx_nl hd, vp_nar_int32, hca]
            refine ?_
            refine jk_Vg X hR d_MT_findMoves_84 q_MT_findMoves_84 m_MT_isSafe i_MT_isSafe e_MT_isSafe (ci := 12) rfl rfl (tx_nt hd) (tx_t hd) (c_MT_isSafe M.2.1 E _ _ _ _ hd _ _ _ _ _ _ _ _ _ _ hsd _ a b ha hb (fm_1 a ha b hb).1 (fm_1 a ha b hb).2) rfl rfl ⟨Nat.le_of_ble_eq_true rfl, Nat.le_of_ble_eq_true rfl⟩ (c' := 0) rfl (s' := 0) rfl ⟨Nat.le_of_ble_eq_true rfl, Nat.le_of_ble_eq_true rfl⟩ (Nat.le_of_ble_eq_true rfl) (pc' := 87) rfl ?_
            rintro _ _ _ ⟨vb, men2, km2, kr2, hb2, hm2, rfl, hn2, rfl⟩
            obtain rfl : n = _ := hn2.symm
            simp only [Option.toList_some, List.cons_append, List.nil_append]
            exact C87 _ _ _ _ _ _ _ _ _ (fun j hj => (hm2 j hj).trans (c0 j hj)) (by assumption) (by assumption) (by assumption) (by assumption)
          have C75 : ∀ (q : Nat) (xm : Nat → Int32) (xk : Nat → Int32) (xr : Nat → Int32) (xl : Nat → Int32) (o3 : Option jv) (o4 : Option jv) (o5 : Option jv), (∀ j, j < 64 → xm j = men j) → (q ≤ base a + part (men a &&& 7 = 1) a b) → (if men a &&& 7 = 1 then geoP a b = true else geoN a b = true) → jJ E jcl 6 M (jQ E jcl M (fun r σ' n' => ∃ (q : Nat) (men' km' kr' li' : Nat → Int32), q ≤ 1900 ∧ (∀ j, j < 64 → men' j = men j) ∧ r = none ∧ n' = n ∧ σ' = (txS σ P g sd ri pa cl nu (nI q) men' km' kr' li')) 0 0) n 0 0 75 [some (.inr (.inr (some (.inl (P.1))))), some (.inl (nI a)), some (.inl (nI b)), o3, o4, o5] [] (txS σ P g sd ri pa cl nu (nI q) xm xk xr xl) := by
            intro q xm xk xr xl o3 o4 o5 c0 c1 c2
            refine jrun_ok jC X k_MT_findMoves_75 75 _ _ _ o_MT_findMoves_75 ?_
            simp only [k_MT_findMoves_75, jrun, jstep, jldi, jldl, jlda, j1, j2, jl1, jl2, jli, ja1, jbr, jald, jast, jlald, jlast, jalen, jget, jput, jfit, jdup, jdupx, jdupx2, jdup2, jcat, jset1, jset2, jkill, List.getElem?_cons_zero, List.getElem?_cons_succ, List.set_cons_zero, List.set_cons_succ, List.length_cons, List.length_nil, Nat.reduceAdd, Nat.reduceLT, Int32.reduceToNatClampNeg, true_and, and_true, and_self, reduceCtorEq, not_false_eq_true, false_and, and_false, or_false, false_or, true_or, or_true, tx_t hd, tx_m hd, tx_k hd, tx_r hd, tx_l hd, tx_ut hd, tx_um hd, tx_uk hd, tx_ur hd, tx_ul hd, mtf_len hd.2.1, mtf_24, mtf_30, mtf_31, mtf_32, mtf_25 hd.2.1, mtf_26 hd.2.1, mtf_27 hd.2.1, mtf_28 hd.2.1, mtf_29 hd.2.1, mtf_33 hd.2.1, mtf_s25, mtf_s26, mtf_s27, mtf_s28, mtf_s29, mtf_s33, hd.2.2.1, hd.2.2.2.1, hd.2.2.2.2.1, hd.2.2.2.2.2, tx_nt hd, tx_nm hd, tx_nk hd, tx_nr hd, tx_nl hd, vp_nar_int32, hca]
            exact C76 _ _ _ _ _ _ _ _ _ (by assumption) (by assumption) (by assumption) (by first | assumption | exact Or.inl rfl | exact Or.inr rfl) (by first | assumption | exact fun _ => ⟨by assumption, by assumption⟩ | (intro h; exact absurd h (by decide)))
          have C71 : ∀ (q : Nat) (xm : Nat → Int32) (xk : Nat → Int32) (xr : Nat → Int32) (xl : Nat → Int32) (o3 : Option jv) (o4 : Option jv) (o5 : Option jv), (∀ j, j < 64 → xm j = men j) → (q ≤ base a + part (men a &&& 7 = 1) a b) → (if men a &&& 7 = 1 then geoP a b = true else geoN a b = true) → (men a &&& 7 = 1) → (b < 8 ∨ 55 < b) → jJ E jcl 6 M (jQ E jcl M (fun r σ' n' => ∃ (q : Nat) (men' km' kr' li' : Nat → Int32), q ≤ 1900 ∧ (∀ j, j < 64 → men' j = men j) ∧ r = none ∧ n' = n ∧ σ' = (txS σ P g sd ri pa cl nu (nI q) men' km' kr' li')) 0 0) n 0 0 71 [some (.inr (.inr (some (.inl (P.1))))), some (.inl (nI a)), some (.inl (nI b)), o3, o4, o5] [] (txS σ P g sd ri pa cl nu (nI q) xm xk xr xl) := by
            intro q xm xk xr xl o3 o4 o5 c0 c1 c2 c3 c4
            refine jrun_ok jC X k_MT_findMoves_71 71 _ _ _ o_MT_findMoves_71 ?_
            simp only [k_MT_findMoves_71, jrun, jstep, jldi, jldl, jlda, j1, j2, jl1, jl2, jli, ja1, jbr, jald, jast, jlald, jlast, jalen, jget, jput, jfit, jdup, jdupx, jdupx2, jdup2, jcat, jset1, jset2, jkill, List.getElem?_cons_zero, List.getElem?_cons_succ, List.set_cons_zero, List.set_cons_succ, List.length_cons, List.length_nil, Nat.reduceAdd, Nat.reduceLT, Int32.reduceToNatClampNeg, true_and, and_true, and_self, reduceCtorEq, not_false_eq_true, false_and, and_false, or_false, false_or, true_or, or_true, tx_t hd, tx_m hd, tx_k hd, tx_r hd, tx_l hd, tx_ut hd, tx_um hd, tx_uk hd, tx_ur hd, tx_ul hd, mtf_len hd.2.1, mtf_24, mtf_30, mtf_31, mtf_32, mtf_25 hd.2.1, mtf_26 hd.2.1, mtf_27 hd.2.1, mtf_28 hd.2.1, mtf_29 hd.2.1, mtf_33 hd.2.1, mtf_s25, mtf_s26, mtf_s27, mtf_s28, mtf_s29, mtf_s33, hd.2.2.1, hd.2.2.2.1, hd.2.2.2.2.1, hd.2.2.2.2.2, tx_nt hd, tx_nm hd, tx_nk hd, tx_nr hd, tx_nl hd, vp_nar_int32, hca]
            exact C76 _ _ _ _ _ _ _ _ _ (by assumption) (by assumption) (by assumption) (by first | assumption | exact Or.inl rfl | exact Or.inr rfl) (by first | assumption | exact fun _ => ⟨by assumption, by assumption⟩ | (intro h; exact absurd h (by decide)))
          have C55 : ∀ (q : Nat) (xm : Nat → Int32) (xk : Nat → Int32) (xr : Nat → Int32) (xl : Nat → Int32) (o3 : Option jv) (o4 : Option jv) (o5 : Option jv) (s0 : Int32), (∀ j, j < 64 → xm j = men j) → (q ≤ base a + part (men a &&& 7 = 1) a b) → (if men a &&& 7 = 1 then geoP a b = true else geoN a b = true) → (s0 = men a &&& 7) → jJ E jcl 6 M (jQ E jcl M (fun r σ' n' => ∃ (q : Nat) (men' km' kr' li' : Nat → Int32), q ≤ 1900 ∧ (∀ j, j < 64 → men' j = men j) ∧ r = none ∧ n' = n ∧ σ' = (txS σ P g sd ri pa cl nu (nI q) men' km' kr' li')) 0 0) n 0 0 55 [some (.inr (.inr (some (.inl (P.1))))), some (.inl (nI a)), some (.inl (nI b)), o3, o4, o5] [.inl s0] (txS σ P g sd ri pa cl nu (nI q) xm xk xr xl) := by
            intro q xm xk xr xl o3 o4 o5 s0 c0 c1 c2 c3
            refine jrun_ok jC X k_MT_findMoves_55 55 _ _ _ o_MT_findMoves_55 ?_
            simp only [k_MT_findMoves_55, jrun, jstep, jldi, jldl, jlda, j1, j2, jl1, jl2, jli, ja1, jbr, jald, jast, jlald, jlast, jalen, jget, jput, jfit, jdup, jdupx, jdupx2, jdup2, jcat, jset1, jset2, jkill, List.getElem?_cons_zero, List.getElem?_cons_succ, List.set_cons_zero, List.set_cons_succ, List.length_cons, List.length_nil, Nat.reduceAdd, Nat.reduceLT, Int32.reduceToNatClampNeg, true_and, and_true, and_self, reduceCtorEq, not_false_eq_true, false_and, and_false, or_false, false_or, true_or, or_true, tx_t hd, tx_m hd, tx_k hd, tx_r hd, tx_l hd, tx_ut hd, tx_um hd, tx_uk hd, tx_ur hd, tx_ul hd, mtf_len hd.2.1, mtf_24, mtf_30, mtf_31, mtf_32, mtf_25 hd.2.1, mtf_26 hd.2.1, mtf_27 hd.2.1, mtf_28 hd.2.1, mtf_29 hd.2.1, mtf_33 hd.2.1, mtf_s25, mtf_s26, mtf_s27, mtf_s28, mtf_s29, mtf_s33, hd.2.2.1, hd.2.2.2.1, hd.2.2.2.2.1, hd.2.2.2.2.2, tx_nt hd, tx_nm hd, tx_nk hd, tx_nr hd, tx_nl hd, vp_nar_int32, hca]
            exact ⟨fun h56 => C75 _ _ _ _ _ _ _ _ (by assumption) (by assumption) (by assumption), fun h56 => ⟨fun h62 => C71 _ _ _ _ _ _ _ _ (by assumption) (by assumption) (by assumption) (c3.symm.trans (by assumption)) (by first | exact lt8 hb (by assumption) | exact gt55 hb (by assumption)), fun h62 => ⟨fun h68 => C75 _ _ _ _ _ _ _ _ (by assumption) (by assumption) (by assumption), fun h68 => C71 _ _ _ _ _ _ _ _ (by assumption) (by assumption) (by assumption) (c3.symm.trans (by assumption)) (by first | exact lt8 hb (by assumption) | exact gt55 hb (by assumption))⟩⟩⟩
          have C43 : ∀ (q : Nat) (xm : Nat → Int32) (xk : Nat → Int32) (xr : Nat → Int32) (xl : Nat → Int32) (o3 : Option jv) (o4 : Option jv) (o5 : Option jv) (s0 : Int32), (∀ j, j < 64 → xm j = men j) → (q ≤ base a + part (men a &&& 7 = 1) a b) → (s0 = 0 ∨ s0 = 1) → (s0 = 1 → if men a &&& 7 = 1 then geoP a b = true else geoN a b = true) → jJ E jcl 6 M (jQ E jcl M (fun r σ' n' => ∃ (q : Nat) (men' km' kr' li' : Nat → Int32), q ≤ 1900 ∧ (∀ j, j < 64 → men' j = men j) ∧ r = none ∧ n' = n ∧ σ' = (txS σ P g sd ri pa cl nu (nI q) men' km' kr' li')) 0 0) n 0 0 43 [some (.inr (.inr (some (.inl (P.1))))), some (.inl (nI a)), some (.inl (nI b)), o3, o4, o5] [.inl s0] (txS σ P g sd ri pa cl nu (nI q) xm xk xr xl) := by
            intro q xm xk xr xl o3 o4 o5 s0 c0 c1 c2 c3
            refine jrun_ok jC X k_MT_findMoves_43 43 _ _ _ o_MT_findMoves_43 ?_
            simp only [k_MT_findMoves_43, jrun, jstep, jldi, jldl, jlda, j1, j2, jl1, jl2, jli, ja1, jbr, jald, jast, jlald, jlast, jalen, jget, jput, jfit, jdup, jdupx, jdupx2, jdup2, jcat, jset1, jset2, jkill, List.getElem?_cons_zero, List.getElem?_cons_succ, List.set_cons_zero, List.set_cons_succ, List.length_cons, List.length_nil, Nat.reduceAdd, Nat.reduceLT, Int32.reduceToNatClampNeg, true_and, and_true, and_self, reduceCtorEq, not_false_eq_true, false_and, and_false, or_false, false_or, true_or, or_true, tx_t hd, tx_m hd, tx_k hd, tx_r hd, tx_l hd, tx_ut hd, tx_um hd, tx_uk hd, tx_ur hd, tx_ul hd, mtf_len hd.2.1, mtf_24, mtf_30, mtf_31, mtf_32, mtf_25 hd.2.1, mtf_26 hd.2.1, mtf_27 hd.2.1, mtf_28 hd.2.1, mtf_29 hd.2.1, mtf_33 hd.2.1, mtf_s25, mtf_s26, mtf_s27, mtf_s28, mtf_s29, mtf_s33, hd.2.2.1, hd.2.2.2.1, hd.2.2.2.2.1, hd.2.2.2.2.2, tx_nt hd, tx_nm hd, tx_nk hd, tx_nr hd, tx_nl hd, vp_nar_int32, hca]
            refine ⟨fun h43 => C157 _ _ _ _ _ _ _ _ (by assumption) (by omega), fun h43 => ⟨(vp_in_nI ha (by omega)), ?_⟩⟩
            refine jk_Si X hR d_MT_findMoves_52 q_MT_findMoves_52 m_MT_kind s_MT_kind (c_MT_kind M.2.1 E _ _ _) rfl rfl ⟨Nat.le_of_ble_eq_true rfl, Nat.le_of_ble_eq_true rfl⟩ ⟨rfl, rfl⟩ ⟨Nat.le_of_ble_eq_true rfl, Nat.le_of_ble_eq_true rfl⟩ (Nat.le_of_ble_eq_true rfl) (pc' := 55) rfl ?_
            exact C55 _ _ _ _ _ _ _ _ _ (by assumption) (by assumption) (c3 (by first | assumption | exact (c2.resolve_left (by assumption)))) (by rw [c0 a ha])
          have C30 : ∀ (q : Nat) (xm : Nat → Int32) (xk : Nat → Int32) (xr : Nat → Int32) (xl : Nat → Int32) (o3 : Option jv) (o4 : Option jv) (o5 : Option jv) (s0 : Int32), (∀ j, j < 64 → xm j = men j) → (q ≤ base a + part (men a &&& 7 = 1) a b) → jJ E jcl 6 M (jQ E jcl M (fun r σ' n' => ∃ (q : Nat) (men' km' kr' li' : Nat → Int32), q ≤ 1900 ∧ (∀ j, j < 64 → men' j = men j) ∧ r = none ∧ n' = n ∧ σ' = (txS σ P g sd ri pa cl nu (nI q) men' km' kr' li')) 0 0) n 0 0 30 [some (.inr (.inr (some (.inl (P.1))))), some (.inl (nI a)), some (.inl (nI b)), o3, o4, o5] [.inl s0] (txS σ P g sd ri pa cl nu (nI q) xm xk xr xl) := by
            intro q xm xk xr xl o3 o4 o5 s0 c0 c1
            refine jrun_ok jC X k_MT_findMoves_30 30 _ _ _ o_MT_findMoves_30 ?_
            simp only [k_MT_findMoves_30, jrun, jstep, jldi, jldl, jlda, j1, j2, jl1, jl2, jli, ja1, jbr, jald, jast, jlald, jlast, jalen, jget, jput, jfit, jdup, jdupx, jdupx2, jdup2, jcat, jset1, jset2, jkill, List.getElem?_cons_zero, List.getElem?_cons_succ, List.set_cons_zero, List.set_cons_succ, List.length_cons, List.length_nil, Nat.reduceAdd, Nat.reduceLT, Int32.reduceToNatClampNeg, true_and, and_true, and_self, reduceCtorEq, not_false_eq_true, false_and, and_false, or_false, false_or, true_or, or_true, tx_t hd, tx_m hd, tx_k hd, tx_r hd, tx_l hd, tx_ut hd, tx_um hd, tx_uk hd, tx_ur hd, tx_ul hd, mtf_len hd.2.1, mtf_24, mtf_30, mtf_31, mtf_32, mtf_25 hd.2.1, mtf_26 hd.2.1, mtf_27 hd.2.1, mtf_28 hd.2.1, mtf_29 hd.2.1, mtf_33 hd.2.1, mtf_s25, mtf_s26, mtf_s27, mtf_s28, mtf_s29, mtf_s33, hd.2.2.1, hd.2.2.2.1, hd.2.2.2.2.1, hd.2.2.2.2.2, tx_nt hd, tx_nm hd, tx_nk hd, tx_nr hd, tx_nl hd, vp_nar_int32, hca]
            refine ⟨fun h34 => C163 _ _ _ _ _ _ _ _ _ (by assumption) (by omega), fun h34 => ?_⟩
            refine jk_VG X hR d_MT_findMoves_40 q_MT_findMoves_40 m_MT_goes i_MT_goes e_MT_goes (ci := 12) rfl rfl (tx_nt hd) (tx_t hd) (c_MT_goes M.2.1 E _ _ _ _ _ _ (tx_nt hd) (tx_t hd) (mtf_24.trans hd.2.2.1) (tx_nm hd) (tx_m hd) _ _ _ (mtf_25 hd.2.1) (mtf_26 hd.2.1) (mtf_27 hd.2.1) hsd a b ha hb) rfl rfl ⟨Nat.le_of_ble_eq_true rfl, Nat.le_of_ble_eq_true rfl⟩ ⟨rfl, rfl⟩ ⟨Nat.le_of_ble_eq_true rfl, Nat.le_of_ble_eq_true rfl⟩ (Nat.le_of_ble_eq_true rfl) (pc' := 43) rfl ?_
            intro vb cb cg
            rw [c0 a ha] at cg
            exact C43 _ _ _ _ _ _ _ _ _ (by assumption) (by assumption) cb cg
          refine jrun_ok jC X k_MT_findMoves_15 15 _ _ _ o_MT_findMoves_15 ?_
          simp only [k_MT_findMoves_15, jrun, jstep, jldi, jldl, jlda, j1, j2, jl1, jl2, jli, ja1, jbr, jald, jast, jlald, jlast, jalen, jget, jput, jfit, jdup, jdupx, jdupx2, jdup2, jcat, jset1, jset2, jkill, List.getElem?_cons_zero, List.getElem?_cons_succ, List.set_cons_zero, List.set_cons_succ, List.length_cons, List.length_nil, Nat.reduceAdd, Nat.reduceLT, Int32.reduceToNatClampNeg, true_and, and_true, and_self, reduceCtorEq, not_false_eq_true, false_and, and_false, or_false, false_or, true_or, or_true, tx_t hd, tx_m hd, tx_k hd, tx_r hd, tx_l hd, tx_ut hd, tx_um hd, tx_uk hd, tx_ur hd, tx_ul hd, mtf_len hd.2.1, mtf_24, mtf_30, mtf_31, mtf_32, mtf_25 hd.2.1, mtf_26 hd.2.1, mtf_27 hd.2.1, mtf_28 hd.2.1, mtf_29 hd.2.1, mtf_33 hd.2.1, mtf_s25, mtf_s26, mtf_s27, mtf_s28, mtf_s29, mtf_s33, hd.2.2.1, hd.2.2.2.1, hd.2.2.2.2.1, hd.2.2.2.2.2, tx_nt hd, tx_nm hd, tx_nk hd, tx_nr hd, tx_nl hd, vp_nar_int32, hca]
          refine ⟨fun h18 => C163 _ _ _ _ _ _ _ _ _ (by assumption) (by omega), fun h18 => ⟨(vp_in_nI ha (by omega)), ?_⟩⟩
          refine jk_Si X hR d_MT_findMoves_27 q_MT_findMoves_27 m_MT_sideOf s_MT_sideOf (c_MT_sideOf M.2.1 E _ _ _) rfl rfl ⟨Nat.le_of_ble_eq_true rfl, Nat.le_of_ble_eq_true rfl⟩ ⟨rfl, rfl⟩ ⟨Nat.le_of_ble_eq_true rfl, Nat.le_of_ble_eq_true rfl⟩ (Nat.le_of_ble_eq_true rfl) (pc' := 30) rfl ?_
          exact C30 _ _ _ _ _ _ _ _ _ (by assumption) (by assumption)
      refine jJ_lv (lv' := [some (.inr (.inr (some (.inl (P.1))))), some (.inl (nI a)), o2, o3, o4, o5]) (fun _ _ h => h) ?_
      refine jrun_ok jC X k_MT_findMoves_7 7 _ _ _ o_MT_findMoves_7 ?_
      simp only [k_MT_findMoves_7, jrun, jstep, jldi, jldl, jlda, j1, j2, jl1, jl2, jli, ja1, jbr, jald, jast, jlald, jlast, jalen, jget, jput, jfit, jdup, jdupx, jdupx2, jdup2, jcat, jset1, jset2, jkill, List.getElem?_cons_zero, List.getElem?_cons_succ, List.set_cons_zero, List.set_cons_succ, List.length_cons, List.length_nil, Nat.reduceAdd, Nat.reduceLT, Int32.reduceToNatClampNeg, true_and, and_true, and_self, reduceCtorEq, not_false_eq_true, false_and, and_false, or_false, false_or, true_or, or_true, tx_t hd, tx_m hd, tx_k hd, tx_r hd, tx_l hd, tx_ut hd, tx_um hd, tx_uk hd, tx_ur hd, tx_ul hd, mtf_len hd.2.1, mtf_24, mtf_30, mtf_31, mtf_32, mtf_25 hd.2.1, mtf_26 hd.2.1, mtf_27 hd.2.1, mtf_28 hd.2.1, mtf_29 hd.2.1, mtf_33 hd.2.1, mtf_s25, mtf_s26, mtf_s27, mtf_s28, mtf_s29, mtf_s33, hd.2.2.1, hd.2.2.2.1, hd.2.2.2.2.1, hd.2.2.2.2.2, tx_nt hd, tx_nm hd, tx_nk hd, tx_nr hd, tx_nl hd, vp_nar_int32]
      have hge : ¬ (64 : Int32) ≤ nI a := by
        rw [show (64 : Int32) = nI 64 from rfl, nI_leI (by omega) (by omega)]; omega
      refine ⟨fun h => absurd h hge, fun _ => ?_⟩
      exact hloop15 64 0 q xm xk xr xl _ _ _ (by omega) c0 (by show q ≤ base a + part _ a 0; unfold part; split <;> exact hq)
  refine jrun_ok jC X k_MT_findMoves_0 0 _ _ _ o_MT_findMoves_0 ?_
  simp only [k_MT_findMoves_0, jrun, jstep, jldi, jldl, jlda, j1, j2, jl1, jl2, jli, ja1, jbr, jald, jast, jlald, jlast, jalen, jget, jput, jfit, jdup, jdupx, jdupx2, jdup2, jcat, jset1, jset2, jkill, List.getElem?_cons_zero, List.getElem?_cons_succ, List.set_cons_zero, List.set_cons_succ, List.length_cons, List.length_nil, Nat.reduceAdd, Nat.reduceLT, Int32.reduceToNatClampNeg, true_and, and_true, and_self, reduceCtorEq, not_false_eq_true, false_and, and_false, or_false, false_or, true_or, or_true, tx_t hd, tx_m hd, tx_k hd, tx_r hd, tx_l hd, tx_ut hd, tx_um hd, tx_uk hd, tx_ur hd, tx_ul hd, mtf_len hd.2.1, mtf_24, mtf_30, mtf_31, mtf_32, mtf_25 hd.2.1, mtf_26 hd.2.1, mtf_27 hd.2.1, mtf_28 hd.2.1, mtf_29 hd.2.1, mtf_33 hd.2.1, mtf_s25, mtf_s26, mtf_s27, mtf_s28, mtf_s29, mtf_s33, hd.2.2.1, hd.2.2.2.1, hd.2.2.2.2.1, hd.2.2.2.2.2, tx_nt hd, tx_nm hd, tx_nk hd, tx_nr hd, tx_nl hd, vp_nar_int32]
  exact hloop7 64 0 0 men km kr li _ _ _ _ (by omega) (fun _ _ => rfl) (Nat.le_refl _)

