/-! the Texts as a picture that moves: five scalars and the count of moves, the men, what is kept, the list -/
def mtf (g : List jv) (sd ri pa cl nu mv : Int32) : List jv := (((((g.set 25 (.inl sd)).set 26 (.inl ri)).set 27 (.inl pa)).set 28 (.inl cl)).set 29 (.inl nu)).set 33 (.inl mv)
theorem mtf_len {g : List jv} {sd ri pa cl nu mv : Int32} (hg : g.length = 40) : (mtf g sd ri pa cl nu mv).length = 40 := by simp [mtf, hg]
theorem mtf_25 {g : List jv} {sd ri pa cl nu mv : Int32} (hg : g.length = 40) : (mtf g sd ri pa cl nu mv)[25]? = some (.inl sd) := by simp [mtf, List.getElem?_set, hg]
theorem mtf_s25 {g : List jv} {sd ri pa cl nu mv x : Int32} : (mtf g sd ri pa cl nu mv).set 25 (.inl x) = mtf g x ri pa cl nu mv := by
  apply List.ext_getElem?
  intro i
  simp only [mtf, List.getElem?_set, List.length_set]
  repeat' split
  all_goals first | rfl | omega | simp_all
theorem mtf_26 {g : List jv} {sd ri pa cl nu mv : Int32} (hg : g.length = 40) : (mtf g sd ri pa cl nu mv)[26]? = some (.inl ri) := by simp [mtf, List.getElem?_set, hg]
theorem mtf_s26 {g : List jv} {sd ri pa cl nu mv x : Int32} : (mtf g sd ri pa cl nu mv).set 26 (.inl x) = mtf g sd x pa cl nu mv := by
  apply List.ext_getElem?
  intro i
  simp only [mtf, List.getElem?_set, List.length_set]
  repeat' split
  all_goals first | rfl | omega | simp_all
theorem mtf_27 {g : List jv} {sd ri pa cl nu mv : Int32} (hg : g.length = 40) : (mtf g sd ri pa cl nu mv)[27]? = some (.inl pa) := by simp [mtf, List.getElem?_set, hg]
theorem mtf_s27 {g : List jv} {sd ri pa cl nu mv x : Int32} : (mtf g sd ri pa cl nu mv).set 27 (.inl x) = mtf g sd ri x cl nu mv := by
  apply List.ext_getElem?
  intro i
  simp only [mtf, List.getElem?_set, List.length_set]
  repeat' split
  all_goals first | rfl | omega | simp_all
theorem mtf_28 {g : List jv} {sd ri pa cl nu mv : Int32} (hg : g.length = 40) : (mtf g sd ri pa cl nu mv)[28]? = some (.inl cl) := by simp [mtf, List.getElem?_set, hg]
theorem mtf_s28 {g : List jv} {sd ri pa cl nu mv x : Int32} : (mtf g sd ri pa cl nu mv).set 28 (.inl x) = mtf g sd ri pa x nu mv := by
  apply List.ext_getElem?
  intro i
  simp only [mtf, List.getElem?_set, List.length_set]
  repeat' split
  all_goals first | rfl | omega | simp_all
theorem mtf_29 {g : List jv} {sd ri pa cl nu mv : Int32} (hg : g.length = 40) : (mtf g sd ri pa cl nu mv)[29]? = some (.inl nu) := by simp [mtf, List.getElem?_set, hg]
theorem mtf_s29 {g : List jv} {sd ri pa cl nu mv x : Int32} : (mtf g sd ri pa cl nu mv).set 29 (.inl x) = mtf g sd ri pa cl x mv := by
  apply List.ext_getElem?
  intro i
  simp only [mtf, List.getElem?_set, List.length_set]
  repeat' split
  all_goals first | rfl | omega | simp_all
theorem mtf_33 {g : List jv} {sd ri pa cl nu mv : Int32} (hg : g.length = 40) : (mtf g sd ri pa cl nu mv)[33]? = some (.inl mv) := by simp [mtf, List.getElem?_set, hg]
theorem mtf_s33 {g : List jv} {sd ri pa cl nu mv x : Int32} : (mtf g sd ri pa cl nu mv).set 33 (.inl x) = mtf g sd ri pa cl nu x := by
  apply List.ext_getElem?
  intro i
  simp only [mtf, List.getElem?_set, List.length_set]
  repeat' split
  all_goals first | rfl | omega | simp_all
theorem mtf_24 {g : List jv} {sd ri pa cl nu mv : Int32} : (mtf g sd ri pa cl nu mv)[24]? = g[24]? := by simp [mtf, List.getElem?_set]
theorem mtf_30 {g : List jv} {sd ri pa cl nu mv : Int32} : (mtf g sd ri pa cl nu mv)[30]? = g[30]? := by simp [mtf, List.getElem?_set]
theorem mtf_31 {g : List jv} {sd ri pa cl nu mv : Int32} : (mtf g sd ri pa cl nu mv)[31]? = g[31]? := by simp [mtf, List.getElem?_set]
theorem mtf_32 {g : List jv} {sd ri pa cl nu mv : Int32} : (mtf g sd ri pa cl nu mv)[32]? = g[32]? := by simp [mtf, List.getElem?_set]
abbrev txp : Type := Nat × Nat × Nat × Nat × Nat
def txS (σ : Nat → jcell) (P : txp) (g : List jv) (sd ri pa cl nu mv : Int32) (men km kr li : Nat → Int32) : Nat → jcell := fun p =>
  if p = P.1 then .inr (12, mtf g sd ri pa cl nu mv) else if p = P.2.1 then .inl (.int, 64, .inl men) else if p = P.2.2.1 then .inl (.int, 64, .inl km) else if p = P.2.2.2.1 then .inl (.int, 5, .inl kr) else if p = P.2.2.2.2 then .inl (.int, 2048, .inl li) else σ p
/-- the places are apart, the fields point to them -/
def txd (P : txp) (g : List jv) (n : Nat) : Prop := (P.1 < P.2.1 ∧ P.2.1 < P.2.2.1 ∧ P.2.2.1 < P.2.2.2.1 ∧ P.2.2.2.1 < P.2.2.2.2 ∧ P.2.2.2.2 < n) ∧ g.length = 40 ∧ g[24]? = some (.inr (.inr (some (.inl P.2.1)))) ∧ g[30]? = some (.inr (.inr (some (.inl P.2.2.1)))) ∧ g[31]? = some (.inr (.inr (some (.inl P.2.2.2.1)))) ∧ g[32]? = some (.inr (.inr (some (.inl P.2.2.2.2))))
theorem vp_nar_int32 (x : Int32) : vp_nar .int x = x := rfl
section TXS
variable {σ : Nat → jcell} {P : txp} {g : List jv} {n : Nat} {sd ri pa cl nu mv : Int32} {men km kr li : Nat → Int32}
theorem tx_t (h : txd P g n) : txS σ P g sd ri pa cl nu mv men km kr li P.1 = .inr (12, mtf g sd ri pa cl nu mv) := by
  obtain ⟨⟨h1, h2, h3, h4, h5⟩, -⟩ := h
  unfold txS
  repeat rw [if_neg (by omega)]
  rw [if_pos rfl]
theorem tx_nt (h : txd P g n) : P.1 < n := by
  obtain ⟨⟨h1, h2, h3, h4, h5⟩, -⟩ := h
  omega
theorem tx_m (h : txd P g n) : txS σ P g sd ri pa cl nu mv men km kr li P.2.1 = .inl (.int, 64, .inl men) := by
  obtain ⟨⟨h1, h2, h3, h4, h5⟩, -⟩ := h
  unfold txS
  repeat rw [if_neg (by omega)]
  rw [if_pos rfl]
theorem tx_nm (h : txd P g n) : P.2.1 < n := by
  obtain ⟨⟨h1, h2, h3, h4, h5⟩, -⟩ := h
  omega
theorem tx_k (h : txd P g n) : txS σ P g sd ri pa cl nu mv men km kr li P.2.2.1 = .inl (.int, 64, .inl km) := by
  obtain ⟨⟨h1, h2, h3, h4, h5⟩, -⟩ := h
  unfold txS
  repeat rw [if_neg (by omega)]
  rw [if_pos rfl]
theorem tx_nk (h : txd P g n) : P.2.2.1 < n := by
  obtain ⟨⟨h1, h2, h3, h4, h5⟩, -⟩ := h
  omega
theorem tx_r (h : txd P g n) : txS σ P g sd ri pa cl nu mv men km kr li P.2.2.2.1 = .inl (.int, 5, .inl kr) := by
  obtain ⟨⟨h1, h2, h3, h4, h5⟩, -⟩ := h
  unfold txS
  repeat rw [if_neg (by omega)]
  rw [if_pos rfl]
theorem tx_nr (h : txd P g n) : P.2.2.2.1 < n := by
  obtain ⟨⟨h1, h2, h3, h4, h5⟩, -⟩ := h
  omega
theorem tx_l (h : txd P g n) : txS σ P g sd ri pa cl nu mv men km kr li P.2.2.2.2 = .inl (.int, 2048, .inl li) := by
  obtain ⟨⟨h1, h2, h3, h4, h5⟩, -⟩ := h
  unfold txS
  repeat rw [if_neg (by omega)]
  rw [if_pos rfl]
theorem tx_nl (h : txd P g n) : P.2.2.2.2 < n := by
  obtain ⟨⟨h1, h2, h3, h4, h5⟩, -⟩ := h
  omega
theorem tx_ut (h : txd P g n) {sd' ri' pa' cl' nu' mv' : Int32} : jup (txS σ P g sd ri pa cl nu mv men km kr li) P.1 (.inr (12, mtf g sd' ri' pa' cl' nu' mv')) = txS σ P g sd' ri' pa' cl' nu' mv' men km kr li := by
  obtain ⟨⟨h1, h2, h3, h4, h5⟩, -⟩ := h
  funext q
  by_cases hq : q = P.1
  · subst hq
    rw [jup_s]
    unfold txS
    repeat rw [if_neg (by omega)]
    rw [if_pos rfl]
  · rw [jup_n hq]
    unfold txS
    simp only [if_neg hq]
theorem tx_um (h : txd P g n) {f : Nat → Int32} : jup (txS σ P g sd ri pa cl nu mv men km kr li) P.2.1 (.inl (.int, 64, .inl f)) = txS σ P g sd ri pa cl nu mv f km kr li := by
  obtain ⟨⟨h1, h2, h3, h4, h5⟩, -⟩ := h
  funext q
  by_cases hq : q = P.2.1
  · subst hq
    rw [jup_s]
    unfold txS
    repeat rw [if_neg (by omega)]
    rw [if_pos rfl]
  · rw [jup_n hq]
    unfold txS
    simp only [if_neg hq]
theorem tx_uk (h : txd P g n) {f : Nat → Int32} : jup (txS σ P g sd ri pa cl nu mv men km kr li) P.2.2.1 (.inl (.int, 64, .inl f)) = txS σ P g sd ri pa cl nu mv men f kr li := by
  obtain ⟨⟨h1, h2, h3, h4, h5⟩, -⟩ := h
  funext q
  by_cases hq : q = P.2.2.1
  · subst hq
    rw [jup_s]
    unfold txS
    repeat rw [if_neg (by omega)]
    rw [if_pos rfl]
  · rw [jup_n hq]
    unfold txS
    simp only [if_neg hq]
theorem tx_ur (h : txd P g n) {f : Nat → Int32} : jup (txS σ P g sd ri pa cl nu mv men km kr li) P.2.2.2.1 (.inl (.int, 5, .inl f)) = txS σ P g sd ri pa cl nu mv men km f li := by
  obtain ⟨⟨h1, h2, h3, h4, h5⟩, -⟩ := h
  funext q
  by_cases hq : q = P.2.2.2.1
  · subst hq
    rw [jup_s]
    unfold txS
    repeat rw [if_neg (by omega)]
    rw [if_pos rfl]
  · rw [jup_n hq]
    unfold txS
    simp only [if_neg hq]
theorem tx_ul (h : txd P g n) {f : Nat → Int32} : jup (txS σ P g sd ri pa cl nu mv men km kr li) P.2.2.2.2 (.inl (.int, 2048, .inl f)) = txS σ P g sd ri pa cl nu mv men km kr f := by
  obtain ⟨⟨h1, h2, h3, h4, h5⟩, -⟩ := h
  funext q
  by_cases hq : q = P.2.2.2.2
  · subst hq
    rw [jup_s]
    unfold txS
    repeat rw [if_neg (by omega)]
    rw [if_pos rfl]
  · rw [jup_n hq]
    unfold txS
    simp only [if_neg hq]
end TXS
set_option maxRecDepth 100000 in
set_option maxHeartbeats 4000000 in
theorem c_MT_lose (l : Launch) (E : jE) (σ : Nat → jcell) (n : Nat) (P : txp) (g : List jv) (hd : txd P g n) (sd ri pa cl nu mv : Int32) (men km kr li : Nat → Int32) (q : Int32) : jMet l E jcl jtb lw_tbl y_MT_lose { frames := 0, cells := 0, slots := 0, locals := 0 } [.inr (.inr (some (.inl (P.1)))), .inl q] (txS σ P g sd ri pa cl nu mv men km kr li) n (fun r σ' n' => ∃ ri', r = none ∧ n' = n ∧ σ' = (txS σ P g sd ri' pa cl nu mv men km kr li)) := by
  refine jMet_of (hY := rfl) false (fun h => by cases h) (by decide) (Nat.le_of_ble_eq_true rfl) [some (.inr (.inr (some (.inl (P.1))))), some (.inl q), none] rfl ?_
  intro M hl hR X hr
  have C60 : ∀ (o2 : Option jv) (s0 : Int32), jJ E jcl 3 M (jQ E jcl M (fun r σ' n' => ∃ ri', r = none ∧ n' = n ∧ σ' = (txS σ P g sd ri' pa cl nu mv men km kr li)) 0 0) n 0 0 60 [some (.inr (.inr (some (.inl (P.1))))), some (.inl q), o2] [.inl s0] (txS σ P g sd ri pa cl nu mv men km kr li) := by
    intro o2 s0
    refine jrun_ok jC X k_MT_lose_60 60 _ _ _ o_MT_lose_60 ?_
    simp only [k_MT_lose_60, jrun, jstep, jldi, jldl, jlda, j1, j2, jl1, jl2, jli, ja1, jbr, jald, jast, jlald, jlast, jalen, jget, jput, jfit, jdup, jdupx, jdupx2, jdup2, jcat, jset1, jset2, jkill, List.getElem?_cons_zero, List.getElem?_cons_succ, List.set_cons_zero, List.set_cons_succ, List.length_cons, List.length_nil, Nat.reduceAdd, Nat.reduceLT, Int32.reduceToNatClampNeg, true_and, and_true, and_self, reduceCtorEq, not_false_eq_true, false_and, and_false, or_false, false_or, true_or, or_true, tx_t hd, tx_m hd, tx_k hd, tx_r hd, tx_l hd, tx_ut hd, tx_um hd, tx_uk hd, tx_ur hd, tx_ul hd, mtf_len hd.2.1, mtf_24, mtf_30, mtf_31, mtf_32, mtf_25 hd.2.1, mtf_26 hd.2.1, mtf_27 hd.2.1, mtf_28 hd.2.1, mtf_29 hd.2.1, mtf_33 hd.2.1, mtf_s25, mtf_s26, mtf_s27, mtf_s28, mtf_s29, mtf_s33, hd.2.2.1, hd.2.2.2.1, hd.2.2.2.2.1, hd.2.2.2.2.2, tx_nt hd, tx_nm hd, tx_nk hd, tx_nr hd, tx_nl hd, vp_nar_int32]
    refine ?_
    exact jk_vret X d_MT_lose_73 hr (Nat.le_refl _) (Nat.le_refl _) ⟨_, rfl, rfl, rfl⟩
  have C59 : ∀ (o2 : Option jv), jJ E jcl 3 M (jQ E jcl M (fun r σ' n' => ∃ ri', r = none ∧ n' = n ∧ σ' = (txS σ P g sd ri' pa cl nu mv men km kr li)) 0 0) n 0 0 59 [some (.inr (.inr (some (.inl (P.1))))), some (.inl q), o2] [] (txS σ P g sd ri pa cl nu mv men km kr li) := by
    intro o2
    refine jrun_ok jC X k_MT_lose_59 59 _ _ _ o_MT_lose_59 ?_
    simp only [k_MT_lose_59, jrun, jstep, jldi, jldl, jlda, j1, j2, jl1, jl2, jli, ja1, jbr, jald, jast, jlald, jlast, jalen, jget, jput, jfit, jdup, jdupx, jdupx2, jdup2, jcat, jset1, jset2, jkill, List.getElem?_cons_zero, List.getElem?_cons_succ, List.set_cons_zero, List.set_cons_succ, List.length_cons, List.length_nil, Nat.reduceAdd, Nat.reduceLT, Int32.reduceToNatClampNeg, true_and, and_true, and_self, reduceCtorEq, not_false_eq_true, false_and, and_false, or_false, false_or, true_or, or_true, tx_t hd, tx_m hd, tx_k hd, tx_r hd, tx_l hd, tx_ut hd, tx_um hd, tx_uk hd, tx_ur hd, tx_ul hd, mtf_len hd.2.1, mtf_24, mtf_30, mtf_31, mtf_32, mtf_25 hd.2.1, mtf_26 hd.2.1, mtf_27 hd.2.1, mtf_28 hd.2.1, mtf_29 hd.2.1, mtf_33 hd.2.1, mtf_s25, mtf_s26, mtf_s27, mtf_s28, mtf_s29, mtf_s33, hd.2.2.1, hd.2.2.2.1, hd.2.2.2.2.1, hd.2.2.2.2.2, tx_nt hd, tx_nm hd, tx_nk hd, tx_nr hd, tx_nl hd, vp_nar_int32]
    exact C60 _ _
  have C48 : ∀ (o2 : Option jv), jJ E jcl 3 M (jQ E jcl M (fun r σ' n' => ∃ ri', r = none ∧ n' = n ∧ σ' = (txS σ P g sd ri' pa cl nu mv men km kr li)) 0 0) n 0 0 48 [some (.inr (.inr (some (.inl (P.1))))), some (.inl q), o2] [] (txS σ P g sd ri pa cl nu mv men km kr li) := by
    intro o2
    refine jrun_ok jC X k_MT_lose_48 48 _ _ _ o_MT_lose_48 ?_
    simp only [k_MT_lose_48, jrun, jstep, jldi, jldl, jlda, j1, j2, jl1, jl2, jli, ja1, jbr, jald, jast, jlald, jlast, jalen, jget, jput, jfit, jdup, jdupx, jdupx2, jdup2, jcat, jset1, jset2, jkill, List.getElem?_cons_zero, List.getElem?_cons_succ, List.set_cons_zero, List.set_cons_succ, List.length_cons, List.length_nil, Nat.reduceAdd, Nat.reduceLT, Int32.reduceToNatClampNeg, true_and, and_true, and_self, reduceCtorEq, not_false_eq_true, false_and, and_false, or_false, false_or, true_or, or_true, tx_t hd, tx_m hd, tx_k hd, tx_r hd, tx_l hd, tx_ut hd, tx_um hd, tx_uk hd, tx_ur hd, tx_ul hd, mtf_len hd.2.1, mtf_24, mtf_30, mtf_31, mtf_32, mtf_25 hd.2.1, mtf_26 hd.2.1, mtf_27 hd.2.1, mtf_28 hd.2.1, mtf_29 hd.2.1, mtf_33 hd.2.1, mtf_s25, mtf_s26, mtf_s27, mtf_s28, mtf_s29, mtf_s33, hd.2.2.1, hd.2.2.2.1, hd.2.2.2.2.1, hd.2.2.2.2.2, tx_nt hd, tx_nm hd, tx_nk hd, tx_nr hd, tx_nl hd, vp_nar_int32]
    exact ⟨fun h51 => C59 _, fun h51 => C60 _ _⟩
  have C38 : ∀ (o2 : Option jv), jJ E jcl 3 M (jQ E jcl M (fun r σ' n' => ∃ ri', r = none ∧ n' = n ∧ σ' = (txS σ P g sd ri' pa cl nu mv men km kr li)) 0 0) n 0 0 38 [some (.inr (.inr (some (.inl (P.1))))), some (.inl q), o2] [] (txS σ P g sd ri pa cl nu mv men km kr li) := by
    intro o2
    refine jrun_ok jC X k_MT_lose_38 38 _ _ _ o_MT_lose_38 ?_
    simp only [k_MT_lose_38, jrun, jstep, jldi, jldl, jlda, j1, j2, jl1, jl2, jli, ja1, jbr, jald, jast, jlald, jlast, jalen, jget, jput, jfit, jdup, jdupx, jdupx2, jdup2, jcat, jset1, jset2, jkill, List.getElem?_cons_zero, List.getElem?_cons_succ, List.set_cons_zero, List.set_cons_succ, List.length_cons, List.length_nil, Nat.reduceAdd, Nat.reduceLT, Int32.reduceToNatClampNeg, true_and, and_true, and_self, reduceCtorEq, not_false_eq_true, false_and, and_false, or_false, false_or, true_or, or_true, tx_t hd, tx_m hd, tx_k hd, tx_r hd, tx_l hd, tx_ut hd, tx_um hd, tx_uk hd, tx_ur hd, tx_ul hd, mtf_len hd.2.1, mtf_24, mtf_30, mtf_31, mtf_32, mtf_25 hd.2.1, mtf_26 hd.2.1, mtf_27 hd.2.1, mtf_28 hd.2.1, mtf_29 hd.2.1, mtf_33 hd.2.1, mtf_s25, mtf_s26, mtf_s27, mtf_s28, mtf_s29, mtf_s33, hd.2.2.1, hd.2.2.2.1, hd.2.2.2.2.1, hd.2.2.2.2.2, tx_nt hd, tx_nm hd, tx_nk hd, tx_nr hd, tx_nl hd, vp_nar_int32]
    exact ⟨fun h41 => C48 _, fun h41 => C60 _ _⟩
  have C27 : ∀ (o2 : Option jv), jJ E jcl 3 M (jQ E jcl M (fun r σ' n' => ∃ ri', r = none ∧ n' = n ∧ σ' = (txS σ P g sd ri' pa cl nu mv men km kr li)) 0 0) n 0 0 27 [some (.inr (.inr (some (.inl (P.1))))), some (.inl q), o2] [] (txS σ P g sd ri pa cl nu mv men km kr li) := by
    intro o2
    refine jrun_ok jC X k_MT_lose_27 27 _ _ _ o_MT_lose_27 ?_
    simp only [k_MT_lose_27, jrun, jstep, jldi, jldl, jlda, j1, j2, jl1, jl2, jli, ja1, jbr, jald, jast, jlald, jlast, jalen, jget, jput, jfit, jdup, jdupx, jdupx2, jdup2, jcat, jset1, jset2, jkill, List.getElem?_cons_zero, List.getElem?_cons_succ, List.set_cons_zero, List.set_cons_succ, List.length_cons, List.length_nil, Nat.reduceAdd, Nat.reduceLT, Int32.reduceToNatClampNeg, true_and, and_true, and_self, reduceCtorEq, not_false_eq_true, false_and, and_false, or_false, false_or, true_or, or_true, tx_t hd, tx_m hd, tx_k hd, tx_r hd, tx_l hd, tx_ut hd, tx_um hd, tx_uk hd, tx_ur hd, tx_ul hd, mtf_len hd.2.1, mtf_24, mtf_30, mtf_31, mtf_32, mtf_25 hd.2.1, mtf_26 hd.2.1, mtf_27 hd.2.1, mtf_28 hd.2.1, mtf_29 hd.2.1, mtf_33 hd.2.1, mtf_s25, mtf_s26, mtf_s27, mtf_s28, mtf_s29, mtf_s33, hd.2.2.1, hd.2.2.2.1, hd.2.2.2.2.1, hd.2.2.2.2.2, tx_nt hd, tx_nm hd, tx_nk hd, tx_nr hd, tx_nl hd, vp_nar_int32]
    exact ⟨fun h30 => C38 _, fun h30 => C60 _ _⟩
  have C19 : ∀ (o2 : Option jv), jJ E jcl 3 M (jQ E jcl M (fun r σ' n' => ∃ ri', r = none ∧ n' = n ∧ σ' = (txS σ P g sd ri' pa cl nu mv men km kr li)) 0 0) n 0 0 19 [some (.inr (.inr (some (.inl (P.1))))), some (.inl q), o2] [] (txS σ P g sd ri pa cl nu mv men km kr li) := by
    intro o2
    refine jrun_ok jC X k_MT_lose_19 19 _ _ _ o_MT_lose_19 ?_
    simp only [k_MT_lose_19, jrun, jstep, jldi, jldl, jlda, j1, j2, jl1, jl2, jli, ja1, jbr, jald, jast, jlald, jlast, jalen, jget, jput, jfit, jdup, jdupx, jdupx2, jdup2, jcat, jset1, jset2, jkill, List.getElem?_cons_zero, List.getElem?_cons_succ, List.set_cons_zero, List.set_cons_succ, List.length_cons, List.length_nil, Nat.reduceAdd, Nat.reduceLT, Int32.reduceToNatClampNeg, true_and, and_true, and_self, reduceCtorEq, not_false_eq_true, false_and, and_false, or_false, false_or, true_or, or_true, tx_t hd, tx_m hd, tx_k hd, tx_r hd, tx_l hd, tx_ut hd, tx_um hd, tx_uk hd, tx_ur hd, tx_ul hd, mtf_len hd.2.1, mtf_24, mtf_30, mtf_31, mtf_32, mtf_25 hd.2.1, mtf_26 hd.2.1, mtf_27 hd.2.1, mtf_28 hd.2.1, mtf_29 hd.2.1, mtf_33 hd.2.1, mtf_s25, mtf_s26, mtf_s27, mtf_s28, mtf_s29, mtf_s33, hd.2.2.1, hd.2.2.2.1, hd.2.2.2.2.1, hd.2.2.2.2.2, tx_nt hd, tx_nm hd, tx_nk hd, tx_nr hd, tx_nl hd, vp_nar_int32]
    exact ⟨fun h20 => C27 _, fun h20 => C60 _ _⟩
  have C9 : ∀ (o2 : Option jv), jJ E jcl 3 M (jQ E jcl M (fun r σ' n' => ∃ ri', r = none ∧ n' = n ∧ σ' = (txS σ P g sd ri' pa cl nu mv men km kr li)) 0 0) n 0 0 9 [some (.inr (.inr (some (.inl (P.1))))), some (.inl q), o2] [] (txS σ P g sd ri pa cl nu mv men km kr li) := by
    intro o2
    refine jrun_ok jC X k_MT_lose_9 9 _ _ _ o_MT_lose_9 ?_
    simp only [k_MT_lose_9, jrun, jstep, jldi, jldl, jlda, j1, j2, jl1, jl2, jli, ja1, jbr, jald, jast, jlald, jlast, jalen, jget, jput, jfit, jdup, jdupx, jdupx2, jdup2, jcat, jset1, jset2, jkill, List.getElem?_cons_zero, List.getElem?_cons_succ, List.set_cons_zero, List.set_cons_succ, List.length_cons, List.length_nil, Nat.reduceAdd, Nat.reduceLT, Int32.reduceToNatClampNeg, true_and, and_true, and_self, reduceCtorEq, not_false_eq_true, false_and, and_false, or_false, false_or, true_or, or_true, tx_t hd, tx_m hd, tx_k hd, tx_r hd, tx_l hd, tx_ut hd, tx_um hd, tx_uk hd, tx_ur hd, tx_ul hd, mtf_len hd.2.1, mtf_24, mtf_30, mtf_31, mtf_32, mtf_25 hd.2.1, mtf_26 hd.2.1, mtf_27 hd.2.1, mtf_28 hd.2.1, mtf_29 hd.2.1, mtf_33 hd.2.1, mtf_s25, mtf_s26, mtf_s27, mtf_s28, mtf_s29, mtf_s33, hd.2.2.1, hd.2.2.2.1, hd.2.2.2.2.1, hd.2.2.2.2.2, tx_nt hd, tx_nm hd, tx_nk hd, tx_nr hd, tx_nl hd, vp_nar_int32]
    exact ⟨fun h12 => C19 _, fun h12 => C60 _ _⟩
  refine jrun_ok jC X k_MT_lose_0 0 _ _ _ o_MT_lose_0 ?_
  simp only [k_MT_lose_0, jrun, jstep, jldi, jldl, jlda, j1, j2, jl1, jl2, jli, ja1, jbr, jald, jast, jlald, jlast, jalen, jget, jput, jfit, jdup, jdupx, jdupx2, jdup2, jcat, jset1, jset2, jkill, List.getElem?_cons_zero, List.getElem?_cons_succ, List.set_cons_zero, List.set_cons_succ, List.length_cons, List.length_nil, Nat.reduceAdd, Nat.reduceLT, Int32.reduceToNatClampNeg, true_and, and_true, and_self, reduceCtorEq, not_false_eq_true, false_and, and_false, or_false, false_or, true_or, or_true, tx_t hd, tx_m hd, tx_k hd, tx_r hd, tx_l hd, tx_ut hd, tx_um hd, tx_uk hd, tx_ur hd, tx_ul hd, mtf_len hd.2.1, mtf_24, mtf_30, mtf_31, mtf_32, mtf_25 hd.2.1, mtf_26 hd.2.1, mtf_27 hd.2.1, mtf_28 hd.2.1, mtf_29 hd.2.1, mtf_33 hd.2.1, mtf_s25, mtf_s26, mtf_s27, mtf_s28, mtf_s29, mtf_s33, hd.2.2.1, hd.2.2.2.1, hd.2.2.2.2.1, hd.2.2.2.2.2, tx_nt hd, tx_nm hd, tx_nk hd, tx_nr hd, tx_nl hd, vp_nar_int32]
  exact ⟨fun h2 => C9 _, fun h2 => C60 _ _⟩

