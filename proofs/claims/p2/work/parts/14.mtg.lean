theorem i5_0 : vp_in 0 5 := by unfold vp_in; decide
theorem i5_1 : vp_in 1 5 := by unfold vp_in; decide
theorem i5_2 : vp_in 2 5 := by unfold vp_in; decide
theorem i5_3 : vp_in 3 5 := by unfold vp_in; decide
theorem i5_4 : vp_in 4 5 := by unfold vp_in; decide
theorem upd_lt {f h : Nat → Int32} {i : Nat} {v : Int32} (hf : ∀ j, j < i → f j = h j) (hv : v = h i) : ∀ j, j < i + 1 → upd f i v j = h j := by
  intro j hj
  by_cases h1 : j = i
  · subst h1
    rw [pk_us, hv]
  · rw [pk_un h1]
    exact hf j (by omega)
set_option maxRecDepth 100000 in
set_option maxHeartbeats 4000000 in
theorem c_MT_keep (l : Launch) (E : jE) (σ : Nat → jcell) (n : Nat) (P : txp) (g : List jv) (hd : txd P g n) (sd ri pa cl nu mv : Int32) (men km kr li : Nat → Int32) : jMet l E jcl jtb lw_tbl y_MT_keep { frames := 0, cells := 0, slots := 0, locals := 0 } [.inr (.inr (some (.inl (P.1))))] (txS σ P g sd ri pa cl nu mv men km kr li) n (fun r σ' n' => ∃ km' kr', (∀ j, j < 64 → km' j = men j) ∧ kr' 0 = sd ∧ kr' 1 = ri ∧ kr' 2 = pa ∧ kr' 3 = cl ∧ kr' 4 = nu ∧ r = none ∧ n' = n ∧ σ' = (txS σ P g sd ri pa cl nu mv men km' kr' li)) := by
  refine jMet_of (hY := rfl) false (fun h => by cases h) (by decide) (Nat.le_of_ble_eq_true rfl) [some (.inr (.inr (some (.inl (P.1))))), none] rfl ?_
  intro M hl hR X hr
  have hloop : ∀ (u i : Nat) (f : Nat → Int32), i + u = 64 → (∀ j, j < i → f j = men j) → jJ E jcl 2 M (jQ E jcl M (fun r σ' n' => ∃ km' kr', (∀ j, j < 64 → km' j = men j) ∧ kr' 0 = sd ∧ kr' 1 = ri ∧ kr' 2 = pa ∧ kr' 3 = cl ∧ kr' 4 = nu ∧ r = none ∧ n' = n ∧ σ' = (txS σ P g sd ri pa cl nu mv men km' kr' li)) 0 0) n 0 0 2 [some (.inr (.inr (some (.inl (P.1))))), some (.inl (nI i))] [] (txS σ P g sd ri pa cl nu mv men f kr li) := by
    intro u
    induction u with
    | zero =>
      intro i f hi hf
      obtain rfl : i = 64 := by omega
      refine jrun_ok jC X k_MT_keep_2 2 _ _ _ o_MT_keep_2 ?_
      simp only [k_MT_keep_2, jrun, jstep, jldi, jldl, jlda, j1, j2, jl1, jl2, jli, ja1, jbr, jald, jast, jlald, jlast, jalen, jget, jput, jfit, jdup, jdupx, jdupx2, jdup2, jcat, jset1, jset2, jkill, List.getElem?_cons_zero, List.getElem?_cons_succ, List.set_cons_zero, List.set_cons_succ, List.length_cons, List.length_nil, Nat.reduceAdd, Nat.reduceLT, Int32.reduceToNatClampNeg, true_and, and_true, and_self, reduceCtorEq, not_false_eq_true, false_and, and_false, or_false, false_or, true_or, or_true, tx_t hd, tx_m hd, tx_k hd, tx_r hd, tx_l hd, tx_ut hd, tx_um hd, tx_uk hd, tx_ur hd, tx_ul hd, mtf_len hd.2.1, mtf_24, mtf_30, mtf_31, mtf_32, mtf_25 hd.2.1, mtf_26 hd.2.1, mtf_27 hd.2.1, mtf_28 hd.2.1, mtf_29 hd.2.1, mtf_33 hd.2.1, mtf_s25, mtf_s26, mtf_s27, mtf_s28, mtf_s29, mtf_s33, hd.2.2.1, hd.2.2.2.1, hd.2.2.2.2.1, hd.2.2.2.2.2, tx_nt hd, tx_nm hd, tx_nk hd, tx_nr hd, tx_nl hd, vp_nar_int32]
      refine ⟨fun _ => ?_, fun h => absurd (by decide) h⟩
      refine jrun_ok jC X k_MT_keep_26 26 _ _ _ o_MT_keep_26 ?_
      simp only [k_MT_keep_26, jrun, jstep, jldi, jldl, jlda, j1, j2, jl1, jl2, jli, ja1, jbr, jald, jast, jlald, jlast, jalen, jget, jput, jfit, jdup, jdupx, jdupx2, jdup2, jcat, jset1, jset2, jkill, List.getElem?_cons_zero, List.getElem?_cons_succ, List.set_cons_zero, List.set_cons_succ, List.length_cons, List.length_nil, Nat.reduceAdd, Nat.reduceLT, Int32.reduceToNatClampNeg, true_and, and_true, and_self, reduceCtorEq, not_false_eq_true, false_and, and_false, or_false, false_or, true_or, or_true, tx_t hd, tx_m hd, tx_k hd, tx_r hd, tx_l hd, tx_ut hd, tx_um hd, tx_uk hd, tx_ur hd, tx_ul hd, mtf_len hd.2.1, mtf_24, mtf_30, mtf_31, mtf_32, mtf_25 hd.2.1, mtf_26 hd.2.1, mtf_27 hd.2.1, mtf_28 hd.2.1, mtf_29 hd.2.1, mtf_33 hd.2.1, mtf_s25, mtf_s26, mtf_s27, mtf_s28, mtf_s29, mtf_s33, hd.2.2.1, hd.2.2.2.1, hd.2.2.2.2.1, hd.2.2.2.2.2, tx_nt hd, tx_nm hd, tx_nk hd, tx_nr hd, tx_nl hd, vp_nar_int32, i5_0, i5_1, i5_2, i5_3, i5_4]
      exact jk_vret X d_MT_keep_76 hr (Nat.le_refl _) (Nat.le_refl _) ⟨f, _, hf, rfl, rfl, rfl, rfl, rfl, rfl, rfl, rfl⟩
    | succ u ih =>
      intro i f hi hf
      have hge : ¬ (64 : Int32) ≤ nI i := by
        rw [show (64 : Int32) = nI 64 from rfl, nI_leI (by omega) (by omega)]; omega
      have hci : (nI i).toNatClampNeg = i := nI_clamp (by omega)
      refine jrun_ok jC X k_MT_keep_2 2 _ _ _ o_MT_keep_2 ?_
      simp only [k_MT_keep_2, jrun, jstep, jldi, jldl, jlda, j1, j2, jl1, jl2, jli, ja1, jbr, jald, jast, jlald, jlast, jalen, jget, jput, jfit, jdup, jdupx, jdupx2, jdup2, jcat, jset1, jset2, jkill, List.getElem?_cons_zero, List.getElem?_cons_succ, List.set_cons_zero, List.set_cons_succ, List.length_cons, List.length_nil, Nat.reduceAdd, Nat.reduceLT, Int32.reduceToNatClampNeg, true_and, and_true, and_self, reduceCtorEq, not_false_eq_true, false_and, and_false, or_false, false_or, true_or, or_true, tx_t hd, tx_m hd, tx_k hd, tx_r hd, tx_l hd, tx_ut hd, tx_um hd, tx_uk hd, tx_ur hd, tx_ul hd, mtf_len hd.2.1, mtf_24, mtf_30, mtf_31, mtf_32, mtf_25 hd.2.1, mtf_26 hd.2.1, mtf_27 hd.2.1, mtf_28 hd.2.1, mtf_29 hd.2.1, mtf_33 hd.2.1, mtf_s25, mtf_s26, mtf_s27, mtf_s28, mtf_s29, mtf_s33, hd.2.2.1, hd.2.2.2.1, hd.2.2.2.2.1, hd.2.2.2.2.2, tx_nt hd, tx_nm hd, tx_nk hd, tx_nr hd, tx_nl hd, vp_nar_int32, hci]
      refine ⟨fun h => absurd h hge, fun _ => ⟨vp_in_nI (by omega) (by omega), vp_in_nI (by omega) (by omega), ?_⟩⟩
      rw [nI_1]
      exact ih (i + 1) _ (by omega) (upd_lt hf rfl)
  refine jrun_ok jC X k_MT_keep_0 0 _ _ _ o_MT_keep_0 ?_
  simp only [k_MT_keep_0, jrun, jstep, jldi, jldl, jlda, j1, j2, jl1, jl2, jli, ja1, jbr, jald, jast, jlald, jlast, jalen, jget, jput, jfit, jdup, jdupx, jdupx2, jdup2, jcat, jset1, jset2, jkill, List.getElem?_cons_zero, List.getElem?_cons_succ, List.set_cons_zero, List.set_cons_succ, List.length_cons, List.length_nil, Nat.reduceAdd, Nat.reduceLT, Int32.reduceToNatClampNeg, true_and, and_true, and_self, reduceCtorEq, not_false_eq_true, false_and, and_false, or_false, false_or, true_or, or_true, tx_t hd, tx_m hd, tx_k hd, tx_r hd, tx_l hd, tx_ut hd, tx_um hd, tx_uk hd, tx_ur hd, tx_ul hd, mtf_len hd.2.1, mtf_24, mtf_30, mtf_31, mtf_32, mtf_25 hd.2.1, mtf_26 hd.2.1, mtf_27 hd.2.1, mtf_28 hd.2.1, mtf_29 hd.2.1, mtf_33 hd.2.1, mtf_s25, mtf_s26, mtf_s27, mtf_s28, mtf_s29, mtf_s33, hd.2.2.1, hd.2.2.2.1, hd.2.2.2.2.1, hd.2.2.2.2.2, tx_nt hd, tx_nm hd, tx_nk hd, tx_nr hd, tx_nl hd, vp_nar_int32]
  exact hloop 64 0 km (by omega) (fun j hj => absurd hj (by omega))
set_option maxRecDepth 100000 in
set_option maxHeartbeats 4000000 in
theorem c_MT_bringBack (l : Launch) (E : jE) (σ : Nat → jcell) (n : Nat) (P : txp) (g : List jv) (hd : txd P g n) (sd ri pa cl nu mv : Int32) (men km kr li : Nat → Int32) : jMet l E jcl jtb lw_tbl y_MT_bringBack { frames := 0, cells := 0, slots := 0, locals := 0 } [.inr (.inr (some (.inl (P.1))))] (txS σ P g sd ri pa cl nu mv men km kr li) n (fun r σ' n' => ∃ men', (∀ j, j < 64 → men' j = km j) ∧ r = none ∧ n' = n ∧ σ' = (txS σ P g (kr 0) (kr 1) (kr 2) (kr 3) (kr 4) mv men' km kr li)) := by
  refine jMet_of (hY := rfl) false (fun h => by cases h) (by decide) (Nat.le_of_ble_eq_true rfl) [some (.inr (.inr (some (.inl (P.1))))), none] rfl ?_
  intro M hl hR X hr
  have hloop : ∀ (u i : Nat) (f : Nat → Int32), i + u = 64 → (∀ j, j < i → f j = km j) → jJ E jcl 2 M (jQ E jcl M (fun r σ' n' => ∃ men', (∀ j, j < 64 → men' j = km j) ∧ r = none ∧ n' = n ∧ σ' = (txS σ P g (kr 0) (kr 1) (kr 2) (kr 3) (kr 4) mv men' km kr li)) 0 0) n 0 0 2 [some (.inr (.inr (some (.inl (P.1))))), some (.inl (nI i))] [] (txS σ P g sd ri pa cl nu mv f km kr li) := by
    intro u
    induction u with
    | zero =>
      intro i f hi hf
      obtain rfl : i = 64 := by omega
      refine jrun_ok jC X k_MT_bringBack_2 2 _ _ _ o_MT_bringBack_2 ?_
      simp only [k_MT_bringBack_2, jrun, jstep, jldi, jldl, jlda, j1, j2, jl1, jl2, jli, ja1, jbr, jald, jast, jlald, jlast, jalen, jget, jput, jfit, jdup, jdupx, jdupx2, jdup2, jcat, jset1, jset2, jkill, List.getElem?_cons_zero, List.getElem?_cons_succ, List.set_cons_zero, List.set_cons_succ, List.length_cons, List.length_nil, Nat.reduceAdd, Nat.reduceLT, Int32.reduceToNatClampNeg, true_and, and_true, and_self, reduceCtorEq, not_false_eq_true, false_and, and_false, or_false, false_or, true_or, or_true, tx_t hd, tx_m hd, tx_k hd, tx_r hd, tx_l hd, tx_ut hd, tx_um hd, tx_uk hd, tx_ur hd, tx_ul hd, mtf_len hd.2.1, mtf_24, mtf_30, mtf_31, mtf_32, mtf_25 hd.2.1, mtf_26 hd.2.1, mtf_27 hd.2.1, mtf_28 hd.2.1, mtf_29 hd.2.1, mtf_33 hd.2.1, mtf_s25, mtf_s26, mtf_s27, mtf_s28, mtf_s29, mtf_s33, hd.2.2.1, hd.2.2.2.1, hd.2.2.2.2.1, hd.2.2.2.2.2, tx_nt hd, tx_nm hd, tx_nk hd, tx_nr hd, tx_nl hd, vp_nar_int32]
      refine ⟨fun _ => ?_, fun h => absurd (by decide) h⟩
      refine jrun_ok jC X k_MT_bringBack_26 26 _ _ _ o_MT_bringBack_26 ?_
      simp only [k_MT_bringBack_26, jrun, jstep, jldi, jldl, jlda, j1, j2, jl1, jl2, jli, ja1, jbr, jald, jast, jlald, jlast, jalen, jget, jput, jfit, jdup, jdupx, jdupx2, jdup2, jcat, jset1, jset2, jkill, List.getElem?_cons_zero, List.getElem?_cons_succ, List.set_cons_zero, List.set_cons_succ, List.length_cons, List.length_nil, Nat.reduceAdd, Nat.reduceLT, Int32.reduceToNatClampNeg, true_and, and_true, and_self, reduceCtorEq, not_false_eq_true, false_and, and_false, or_false, false_or, true_or, or_true, tx_t hd, tx_m hd, tx_k hd, tx_r hd, tx_l hd, tx_ut hd, tx_um hd, tx_uk hd, tx_ur hd, tx_ul hd, mtf_len hd.2.1, mtf_24, mtf_30, mtf_31, mtf_32, mtf_25 hd.2.1, mtf_26 hd.2.1, mtf_27 hd.2.1, mtf_28 hd.2.1, mtf_29 hd.2.1, mtf_33 hd.2.1, mtf_s25, mtf_s26, mtf_s27, mtf_s28, mtf_s29, mtf_s33, hd.2.2.1, hd.2.2.2.1, hd.2.2.2.2.1, hd.2.2.2.2.2, tx_nt hd, tx_nm hd, tx_nk hd, tx_nr hd, tx_nl hd, vp_nar_int32, i5_0, i5_1, i5_2, i5_3, i5_4]
      exact jk_vret X d_MT_bringBack_76 hr (Nat.le_refl _) (Nat.le_refl _) ⟨f, hf, rfl, rfl, rfl⟩
    | succ u ih =>
      intro i f hi hf
      have hge : ¬ (64 : Int32) ≤ nI i := by
        rw [show (64 : Int32) = nI 64 from rfl, nI_leI (by omega) (by omega)]; omega
      have hci : (nI i).toNatClampNeg = i := nI_clamp (by omega)
      refine jrun_ok jC X k_MT_bringBack_2 2 _ _ _ o_MT_bringBack_2 ?_
      simp only [k_MT_bringBack_2, jrun, jstep, jldi, jldl, jlda, j1, j2, jl1, jl2, jli, ja1, jbr, jald, jast, jlald, jlast, jalen, jget, jput, jfit, jdup, jdupx, jdupx2, jdup2, jcat, jset1, jset2, jkill, List.getElem?_cons_zero, List.getElem?_cons_succ, List.set_cons_zero, List.set_cons_succ, List.length_cons, List.length_nil, Nat.reduceAdd, Nat.reduceLT, Int32.reduceToNatClampNeg, true_and, and_true, and_self, reduceCtorEq, not_false_eq_true, false_and, and_false, or_false, false_or, true_or, or_true, tx_t hd, tx_m hd, tx_k hd, tx_r hd, tx_l hd, tx_ut hd, tx_um hd, tx_uk hd, tx_ur hd, tx_ul hd, mtf_len hd.2.1, mtf_24, mtf_30, mtf_31, mtf_32, mtf_25 hd.2.1, mtf_26 hd.2.1, mtf_27 hd.2.1, mtf_28 hd.2.1, mtf_29 hd.2.1, mtf_33 hd.2.1, mtf_s25, mtf_s26, mtf_s27, mtf_s28, mtf_s29, mtf_s33, hd.2.2.1, hd.2.2.2.1, hd.2.2.2.2.1, hd.2.2.2.2.2, tx_nt hd, tx_nm hd, tx_nk hd, tx_nr hd, tx_nl hd, vp_nar_int32, hci]
      refine ⟨fun h => absurd h hge, fun _ => ⟨vp_in_nI (by omega) (by omega), vp_in_nI (by omega) (by omega), ?_⟩⟩
      rw [nI_1]
      exact ih (i + 1) _ (by omega) (upd_lt hf rfl)
  refine jrun_ok jC X k_MT_bringBack_0 0 _ _ _ o_MT_bringBack_0 ?_
  simp only [k_MT_bringBack_0, jrun, jstep, jldi, jldl, jlda, j1, j2, jl1, jl2, jli, ja1, jbr, jald, jast, jlald, jlast, jalen, jget, jput, jfit, jdup, jdupx, jdupx2, jdup2, jcat, jset1, jset2, jkill, List.getElem?_cons_zero, List.getElem?_cons_succ, List.set_cons_zero, List.set_cons_succ, List.length_cons, List.length_nil, Nat.reduceAdd, Nat.reduceLT, Int32.reduceToNatClampNeg, true_and, and_true, and_self, reduceCtorEq, not_false_eq_true, false_and, and_false, or_false, false_or, true_or, or_true, tx_t hd, tx_m hd, tx_k hd, tx_r hd, tx_l hd, tx_ut hd, tx_um hd, tx_uk hd, tx_ur hd, tx_ul hd, mtf_len hd.2.1, mtf_24, mtf_30, mtf_31, mtf_32, mtf_25 hd.2.1, mtf_26 hd.2.1, mtf_27 hd.2.1, mtf_28 hd.2.1, mtf_29 hd.2.1, mtf_33 hd.2.1, mtf_s25, mtf_s26, mtf_s27, mtf_s28, mtf_s29, mtf_s33, hd.2.2.1, hd.2.2.2.1, hd.2.2.2.2.1, hd.2.2.2.2.2, tx_nt hd, tx_nm hd, tx_nk hd, tx_nr hd, tx_nl hd, vp_nar_int32]
  exact hloop 64 0 men (by omega) (fun j hj => absurd hj (by omega))

