/-- answers that change nothing: a truth value, a number -/
def poB (σ : Nat → jcell) (n : Nat) : jPo := fun r σ' n' => ∃ b : Int32, (b = 0 ∨ b = 1) ∧ r = some (.inl b) ∧ σ' = σ ∧ n' = n
def poI (σ : Nat → jcell) (n : Nat) : jPo := fun r σ' n' => ∃ v : Int32, r = some (.inl v) ∧ σ' = σ ∧ n' = n
theorem bo_n {b : Int32} (h : b = 0 ∨ b = 1) : narrow .boolean (.int b) = .int b := by rcases h with rfl | rfl <;> rfl
section JCC
variable {E : jE} {own : String} {Ts : List Jvm.Cond} {cl : List vw_C} {tb : jTb} {nL : Nat} {ini : Bool} {cc : ByteArray} {M : jM} {Q : State → Prop} {n cells slots : Nat}
theorem jk_VB (X : jX E own Ts cl tb nL ini cc M) {rm rc : Room} (hR : M.2.2.2.1 = rm) {pc i wi k ci a : Nat} {Y : jY} (hd : decode cc pc = .ok (.invokevirtual i, 3)) (hw : jlm Ts wi own i Y.1 = true) (hm : jmth Ts Y k) (hin : Jvm.Cond.instanceMethod Y.1 ∈ jTA Ts) (hse : Jvm.Cond.selects Y.1.cls Y.1 Y.1 ∈ jTA Ts) {q : vw_C} (hq : cl[ci]? = some q) (hqc : q.1 = Y.1.cls) {lv : List (Option jv)} {r vals : List jv} {σ : Nat → jcell} {fs : List jv} (ha : a < n) (he : σ a = .inr (ci, fs)) (hM : jMet M.2.1 E cl tb Ts Y rc (.inr (.inr (some (.inl a))) :: vals) σ n (poB σ n)) {st : List jv} (hs : st = vals.reverse ++ .inr (.inr (some (.inl a))) :: r) (hk : vals.length = k)
    (hf : rc.frames + 1 ≤ rm.frames ∧ 8 + (Y.2.2.1 + 11) + rc.locals ≤ rm.locals) (h0 : rc.cells = 0 ∧ rc.slots = 0) (hc : cells ≤ rm.cells ∧ slots ≤ rm.slots) (hz : (r.map jcat).sum ≤ 8) {pc' : Nat} (hp : pc + 3 = pc')
    (kk : ∀ b : Int32, b = 0 ∨ b = 1 → jJ E cl nL M Q n cells slots pc' lv (.inl b :: r) σ) : jJ E cl nL M Q n cells slots pc lv st σ := by
  refine jk_callV X hR hd hw hm hin hse hq hqc ha he hM hs hk hf (by rw [h0.1, h0.2]; exact hc) hz ?_
  rintro _ _ _ ⟨b, hb, rfl, rfl, rfl⟩
  rw [h0.1, h0.2, hp]
  exact kk b hb
theorem jk_VI (X : jX E own Ts cl tb nL ini cc M) {rm rc : Room} (hR : M.2.2.2.1 = rm) {pc i wi k ci a : Nat} {Y : jY} (hd : decode cc pc = .ok (.invokevirtual i, 3)) (hw : jlm Ts wi own i Y.1 = true) (hm : jmth Ts Y k) (hin : Jvm.Cond.instanceMethod Y.1 ∈ jTA Ts) (hse : Jvm.Cond.selects Y.1.cls Y.1 Y.1 ∈ jTA Ts) {q : vw_C} (hq : cl[ci]? = some q) (hqc : q.1 = Y.1.cls) {lv : List (Option jv)} {r vals : List jv} {σ : Nat → jcell} {fs : List jv} (ha : a < n) (he : σ a = .inr (ci, fs)) (hM : jMet M.2.1 E cl tb Ts Y rc (.inr (.inr (some (.inl a))) :: vals) σ n (poI σ n)) {st : List jv} (hs : st = vals.reverse ++ .inr (.inr (some (.inl a))) :: r) (hk : vals.length = k)
    (hf : rc.frames + 1 ≤ rm.frames ∧ 8 + (Y.2.2.1 + 11) + rc.locals ≤ rm.locals) (h0 : rc.cells = 0 ∧ rc.slots = 0) (hc : cells ≤ rm.cells ∧ slots ≤ rm.slots) (hz : (r.map jcat).sum ≤ 8) {pc' : Nat} (hp : pc + 3 = pc')
    (kk : ∀ b : Int32, jJ E cl nL M Q n cells slots pc' lv (.inl b :: r) σ) : jJ E cl nL M Q n cells slots pc lv st σ := by
  refine jk_callV X hR hd hw hm hin hse hq hqc ha he hM hs hk hf (by rw [h0.1, h0.2]; exact hc) hz ?_
  rintro _ _ _ ⟨b, rfl, rfl, rfl⟩
  rw [h0.1, h0.2, hp]
  exact kk b
end JCC
theorem i8_of {x : Int32} (h1 : ¬ x < 0) (h2 : ¬ 8 ≤ x) : ∃ j : Nat, j < 8 ∧ x = nI j := by
  rcases pk_ix x (n := 8) (by omega) with h | h | ⟨j, hj, h⟩
  · exact absurd h h1
  · exact absurd h h2
  · exact ⟨j, hj, h⟩
/-- a step leads off the board, or to one of its squares -/
theorem mt_step_or (a b c : Int32) : mt_step a b c = -1 ∨ ∃ k : Nat, k < 64 ∧ mt_step a b c = nI k := by
  unfold mt_step
  split
  next => exact Or.inl rfl
  next h =>
    refine Or.inr ?_
    simp only [not_or] at h
    obtain ⟨i, hi, e1⟩ := i8_of h.1 h.2.1
    obtain ⟨j, hj, e2⟩ := i8_of h.2.2.1 h.2.2.2
    rw [e1, e2]
    refine ⟨8 * j + i, by omega, ?_⟩
    rw [show (8 : Int32) = nI 8 from rfl, pk_mul, nI_add]
theorem mt_step_in (a b c : Int32) : mt_step a b c < 0 ∨ vp_in (mt_step a b c) 64 := by
  rcases mt_step_or a b c with h | ⟨k, hk, h⟩
  · exact Or.inl (by rw [h]; decide)
  · exact Or.inr (by rw [h]; exact vp_in_nI hk (by omega))
def mt_dirs : List (Int32 × Int32) := [(-1, -1), (-1, 0), (-1, 1), (0, -1), (0, 1), (1, -1), (1, 0), (1, 1)]
def mt_mu (f r : Int32) (k : Nat) : Nat := if f = 1 then 7 - k % 8 else if f = -1 then k % 8 else if r = 1 then 7 - k / 8 else k / 8
set_option maxRecDepth 100000 in
theorem mt_ray : ∀ d ∈ mt_dirs, ∀ k, k < 64 → mt_step (nI k) d.1 d.2 = -1 ∨ (mt_mu d.1 d.2 (mt_step (nI k) d.1 d.2).toNatClampNeg < mt_mu d.1 d.2 k) := by decide +kernel
set_option maxRecDepth 100000 in
set_option maxHeartbeats 4000000 in
/-- the first man in a direction -/
theorem c_MT_met (l : Launch) (E : jE) (σ : Nat → jcell) (n : Nat) (t m : Nat) (fs : List jv) (men : Nat → Int32) (ht : t < n) (h0 : σ t = .inr (12, fs)) (hf : fs[24]? = some (.inr (.inr (some (.inl m))))) (hm : m < n) (h1 : σ m = .inl (.int, 64, .inl men)) (k : Nat) (hk : k < 64) (d : Int32 × Int32) (hd : d ∈ mt_dirs) : jMet l E jcl jtb lw_tbl y_MT_met { frames := 1, cells := 0, slots := 0, locals := 40 } [.inr (.inr (some (.inl (t)))), .inl (nI k), .inl d.1, .inl d.2] σ n (fun r σ' n' => poI σ n r σ' n') := by
  refine jMet_of (hY := rfl) false (fun h => by cases h) (by decide) (Nat.le_of_ble_eq_true rfl) [some (.inr (.inr (some (.inl (t))))), some (.inl (nI k)), some (.inl d.1), some (.inl d.2), none] rfl ?_
  intro M hl hR X hr
  have hend : ∀ s : Int32, (s < 0 ∨ vp_in s 64) → jJ E jcl 5 M (jQ E jcl M (fun r σ' n' => poI σ n r σ' n') 0 0) n 0 0 35 [some (.inr (.inr (some (.inl (t))))), some (.inl (nI k)), some (.inl d.1), some (.inl d.2), some (.inl s)] [] σ := by
    intro s hs
    refine jrun_ok jC X k_MT_met_35 35 _ _ _ o_MT_met_35 ?_
    simp only [k_MT_met_35, jrun, jstep, jldi, jldl, jlda, j1, j2, jl1, jl2, jli, ja1, jbr, jald, jast, jlald, jlast, jalen, jget, jput, jfit, jdup, jdupx, jdupx2, jdup2, jcat, jset1, jset2, jkill, List.getElem?_cons_zero, List.getElem?_cons_succ, List.set_cons_zero, List.set_cons_succ, List.length_cons, List.length_nil, Nat.reduceAdd, Nat.reduceLT, Int32.reduceToNatClampNeg, true_and, and_true, and_self, reduceCtorEq, not_false_eq_true, false_and, and_false, or_false, false_or, true_or, or_true]
    refine ⟨fun h => ?_, fun h => ?_⟩
    · refine jrun_ok jC X k_MT_met_44 44 _ _ _ o_MT_met_44 ?_
      simp only [k_MT_met_44, jrun, jstep, jldi, jldl, jlda, j1, j2, jl1, jl2, jli, ja1, jbr, jald, jast, jlald, jlast, jalen, jget, jput, jfit, jdup, jdupx, jdupx2, jdup2, jcat, jset1, jset2, jkill, List.getElem?_cons_zero, List.getElem?_cons_succ, List.set_cons_zero, List.set_cons_succ, List.length_cons, List.length_nil, Nat.reduceAdd, Nat.reduceLT, Int32.reduceToNatClampNeg, true_and, and_true, and_self, reduceCtorEq, not_false_eq_true, false_and, and_false, or_false, false_or, true_or, or_true, h0, hf, h1, ht, hm]
      refine ⟨hs.resolve_left (fun h9 => ?_), ?_⟩
      · rw [Int32.lt_iff_toInt_lt] at h9
        rw [Int32.le_iff_toInt_le] at h
        omega
      exact jk_iret X d_MT_met_51 hr rfl (Nat.le_refl _) (Nat.le_refl _) ⟨_, rfl, rfl, rfl⟩
    · exact jk_iret X d_MT_met_51 hr rfl (Nat.le_refl _) (Nat.le_refl _) ⟨_, rfl, rfl, rfl⟩
  have hloop : ∀ (u : Nat) (s : Int32), (s = -1 ∨ ∃ j : Nat, j < 64 ∧ s = nI j ∧ mt_mu d.1 d.2 j < u) → jJ E jcl 5 M (jQ E jcl M (fun r σ' n' => poI σ n r σ' n') 0 0) n 0 0 8 [some (.inr (.inr (some (.inl (t))))), some (.inl (nI k)), some (.inl d.1), some (.inl d.2), some (.inl s)] [] σ := by
    intro u
    induction u with
    | zero =>
      intro s hs
      rcases hs with rfl | ⟨j, -, -, h⟩
      · refine jrun_ok jC X k_MT_met_8 8 _ _ _ o_MT_met_8 ?_
        simp only [k_MT_met_8, jrun, jstep, jldi, jldl, jlda, j1, j2, jl1, jl2, jli, ja1, jbr, jald, jast, jlald, jlast, jalen, jget, jput, jfit, jdup, jdupx, jdupx2, jdup2, jcat, jset1, jset2, jkill, List.getElem?_cons_zero, List.getElem?_cons_succ, List.set_cons_zero, List.set_cons_succ, List.length_cons, List.length_nil, Nat.reduceAdd, Nat.reduceLT, Int32.reduceToNatClampNeg, true_and, and_true, and_self, reduceCtorEq, not_false_eq_true, false_and, and_false, or_false, false_or, true_or, or_true, h0, hf, h1, ht, hm]
        refine ⟨fun _ => hend _ (Or.inl (by decide)), fun h => absurd (by decide) h⟩
      · omega
    | succ u ih =>
      intro s hs
      refine jrun_ok jC X k_MT_met_8 8 _ _ _ o_MT_met_8 ?_
      simp only [k_MT_met_8, jrun, jstep, jldi, jldl, jlda, j1, j2, jl1, jl2, jli, ja1, jbr, jald, jast, jlald, jlast, jalen, jget, jput, jfit, jdup, jdupx, jdupx2, jdup2, jcat, jset1, jset2, jkill, List.getElem?_cons_zero, List.getElem?_cons_succ, List.set_cons_zero, List.set_cons_succ, List.length_cons, List.length_nil, Nat.reduceAdd, Nat.reduceLT, Int32.reduceToNatClampNeg, true_and, and_true, and_self, reduceCtorEq, not_false_eq_true, false_and, and_false, or_false, false_or, true_or, or_true, h0, hf, h1, ht, hm]
      have hs2 : s < 0 ∨ vp_in s 64 := by
        rcases hs with rfl | ⟨j, hj, rfl, -⟩
        · exact Or.inl (by decide)
        · exact Or.inr (vp_in_nI hj (by omega))
      refine ⟨fun _ => hend _ hs2, fun hn => ⟨hs2.resolve_left hn, fun _ => hend _ hs2, fun _ => ?_⟩⟩
      rcases hs with rfl | ⟨j, hj, rfl, hmu⟩
      · exact absurd (by decide) hn
      refine jk_Si X hR d_MT_met_27 q_MT_met_27 m_MT_step s_MT_step (vals := [.inl (nI j), .inl d.1, .inl d.2]) (r := []) (c_MT_step M.2.1 E σ n (nI j) d.1 d.2) rfl rfl ⟨by decide, by decide⟩ ⟨rfl, rfl⟩ ⟨by decide, by decide⟩ (by decide) (pc' := 30) rfl ?_
      refine jrun_ok jC X k_MT_met_30 30 _ _ _ o_MT_met_30 ?_
      simp only [k_MT_met_30, jrun, jstep, jldi, jldl, jlda, j1, j2, jl1, jl2, jli, ja1, jbr, jald, jast, jlald, jlast, jalen, jget, jput, jfit, jdup, jdupx, jdupx2, jdup2, jcat, jset1, jset2, jkill, List.getElem?_cons_zero, List.getElem?_cons_succ, List.set_cons_zero, List.set_cons_succ, List.length_cons, List.length_nil, Nat.reduceAdd, Nat.reduceLT, Int32.reduceToNatClampNeg, true_and, and_true, and_self, reduceCtorEq, not_false_eq_true, false_and, and_false, or_false, false_or, true_or, or_true]
      refine ih _ ?_
      rcases mt_step_or (nI j) d.1 d.2 with h | ⟨j', hj', h⟩
      · exact Or.inl h
      · refine Or.inr ⟨j', hj', h, ?_⟩
        rcases mt_ray d hd j hj with h9 | h9
        · rw [h] at h9
          exact absurd h9 (by intro q; have q2 := congrArg Int32.toInt q; rw [nI_toInt (by omega)] at q2; have q3 : ((-1 : Int32)).toInt = -1 := rfl; omega)
        · rw [h, nI_clamp (by omega)] at h9
          omega
  refine jrun_ok jC X k_MT_met_0 0 _ _ _ o_MT_met_0 ?_
  simp only [k_MT_met_0, jrun, jstep, jldi, jldl, jlda, j1, j2, jl1, jl2, jli, ja1, jbr, jald, jast, jlald, jlast, jalen, jget, jput, jfit, jdup, jdupx, jdupx2, jdup2, jcat, jset1, jset2, jkill, List.getElem?_cons_zero, List.getElem?_cons_succ, List.set_cons_zero, List.set_cons_succ, List.length_cons, List.length_nil, Nat.reduceAdd, Nat.reduceLT, Int32.reduceToNatClampNeg, true_and, and_true, and_self, reduceCtorEq, not_false_eq_true, false_and, and_false, or_false, false_or, true_or, or_true]
  refine jk_Si X hR d_MT_met_3 q_MT_met_3 m_MT_step s_MT_step (vals := [.inl (nI k), .inl d.1, .inl d.2]) (r := []) (c_MT_step M.2.1 E σ n (nI k) d.1 d.2) rfl rfl ⟨by decide, by decide⟩ ⟨rfl, rfl⟩ ⟨by decide, by decide⟩ (by decide) (pc' := 6) rfl ?_
  refine jrun_ok jC X k_MT_met_6 6 _ _ _ o_MT_met_6 ?_
  simp only [k_MT_met_6, jrun, jstep, jldi, jldl, jlda, j1, j2, jl1, jl2, jli, ja1, jbr, jald, jast, jlald, jlast, jalen, jget, jput, jfit, jdup, jdupx, jdupx2, jdup2, jcat, jset1, jset2, jkill, List.getElem?_cons_zero, List.getElem?_cons_succ, List.set_cons_zero, List.set_cons_succ, List.length_cons, List.length_nil, Nat.reduceAdd, Nat.reduceLT, Int32.reduceToNatClampNeg, true_and, and_true, and_self, reduceCtorEq, not_false_eq_true, false_and, and_false, or_false, false_or, true_or, or_true]
  refine hloop 8 _ ?_
  rcases mt_step_or (nI k) d.1 d.2 with h | ⟨j, hj, h⟩
  · exact Or.inl h
  · refine Or.inr ⟨j, hj, h, ?_⟩
    unfold mt_mu
    repeat' split
    all_goals omega
set_option maxRecDepth 100000 in
set_option maxHeartbeats 4000000 in
theorem c_MT_kingOf (l : Launch) (E : jE) (σ : Nat → jcell) (n : Nat) (t m : Nat) (fs : List jv) (men : Nat → Int32) (ht : t < n) (h0 : σ t = .inr (12, fs)) (hf : fs[24]? = some (.inr (.inr (some (.inl m))))) (hm : m < n) (h1 : σ m = .inl (.int, 64, .inl men)) (w : Int32) : jMet l E jcl jtb lw_tbl y_MT_kingOf { frames := 0, cells := 0, slots := 0, locals := 0 } [.inr (.inr (some (.inl (t)))), .inl w] σ n (fun r σ' n' => ∃ j : Nat, j < 64 ∧ r = some (.inl (nI j)) ∧ σ' = σ ∧ n' = n) := by
  refine jMet_of (hY := rfl) false (fun h => by cases h) (by decide) (Nat.le_of_ble_eq_true rfl) [some (.inr (.inr (some (.inl (t))))), some (.inl w), none, none] rfl ?_
  intro M hl hR X hr
  have hloop : ∀ (u i j : Nat), i + u = 64 → j < 64 → jJ E jcl 4 M (jQ E jcl M (fun r σ' n' => ∃ j : Nat, j < 64 ∧ r = some (.inl (nI j)) ∧ σ' = σ ∧ n' = n) 0 0) n 0 0 4 [some (.inr (.inr (some (.inl (t))))), some (.inl w), some (.inl (nI j)), some (.inl (nI i))] [] σ := by
    intro u
    induction u with
    | zero =>
      intro i j hi hj
      obtain rfl : i = 64 := by omega
      refine jrun_ok jC X k_MT_kingOf_4 4 _ _ _ o_MT_kingOf_4 ?_
      simp only [k_MT_kingOf_4, jrun, jstep, jldi, jldl, jlda, j1, j2, jl1, jl2, jli, ja1, jbr, jald, jast, jlald, jlast, jalen, jget, jput, jfit, jdup, jdupx, jdupx2, jdup2, jcat, jset1, jset2, jkill, List.getElem?_cons_zero, List.getElem?_cons_succ, List.set_cons_zero, List.set_cons_succ, List.length_cons, List.length_nil, Nat.reduceAdd, Nat.reduceLT, Int32.reduceToNatClampNeg, true_and, and_true, and_self, reduceCtorEq, not_false_eq_true, false_and, and_false, or_false, false_or, true_or, or_true, h0, hf, h1, ht, hm]
      refine ⟨fun _ => ?_, fun h => absurd (by decide) h⟩
      refine jrun_ok jC X k_MT_kingOf_38 38 _ _ _ o_MT_kingOf_38 ?_
      simp only [k_MT_kingOf_38, jrun, jstep, jldi, jldl, jlda, j1, j2, jl1, jl2, jli, ja1, jbr, jald, jast, jlald, jlast, jalen, jget, jput, jfit, jdup, jdupx, jdupx2, jdup2, jcat, jset1, jset2, jkill, List.getElem?_cons_zero, List.getElem?_cons_succ, List.set_cons_zero, List.set_cons_succ, List.length_cons, List.length_nil, Nat.reduceAdd, Nat.reduceLT, Int32.reduceToNatClampNeg, true_and, and_true, and_self, reduceCtorEq, not_false_eq_true, false_and, and_false, or_false, false_or, true_or, or_true]
      exact jk_iret X d_MT_kingOf_39 hr rfl (Nat.le_refl _) (Nat.le_refl _) ⟨j, hj, rfl, rfl, rfl⟩
    | succ u ih =>
      intro i j hi hj
      have hge : ¬ (64 : Int32) ≤ nI i := by
        rw [show (64 : Int32) = nI 64 from rfl, nI_leI (by omega) (by omega)]; omega
      have hend : ∀ j', j' < 64 → jJ E jcl 4 M (jQ E jcl M (fun r σ' n' => ∃ j : Nat, j < 64 ∧ r = some (.inl (nI j)) ∧ σ' = σ ∧ n' = n) 0 0) n 0 0 31 [some (.inr (.inr (some (.inl (t))))), some (.inl w), some (.inl (nI j)), some (.inl (nI i))] [.inl (nI j')] σ := by
        intro j' hj'
        refine jrun_ok jC X k_MT_kingOf_31 31 _ _ _ o_MT_kingOf_31 ?_
        simp only [k_MT_kingOf_31, jrun, jstep, jldi, jldl, jlda, j1, j2, jl1, jl2, jli, ja1, jbr, jald, jast, jlald, jlast, jalen, jget, jput, jfit, jdup, jdupx, jdupx2, jdup2, jcat, jset1, jset2, jkill, List.getElem?_cons_zero, List.getElem?_cons_succ, List.set_cons_zero, List.set_cons_succ, List.length_cons, List.length_nil, Nat.reduceAdd, Nat.reduceLT, Int32.reduceToNatClampNeg, true_and, and_true, and_self, reduceCtorEq, not_false_eq_true, false_and, and_false, or_false, false_or, true_or, or_true]
        rw [nI_1]
        exact ih (i + 1) j' (by omega) hj'
      refine jrun_ok jC X k_MT_kingOf_4 4 _ _ _ o_MT_kingOf_4 ?_
      simp only [k_MT_kingOf_4, jrun, jstep, jldi, jldl, jlda, j1, j2, jl1, jl2, jli, ja1, jbr, jald, jast, jlald, jlast, jalen, jget, jput, jfit, jdup, jdupx, jdupx2, jdup2, jcat, jset1, jset2, jkill, List.getElem?_cons_zero, List.getElem?_cons_succ, List.set_cons_zero, List.set_cons_succ, List.length_cons, List.length_nil, Nat.reduceAdd, Nat.reduceLT, Int32.reduceToNatClampNeg, true_and, and_true, and_self, reduceCtorEq, not_false_eq_true, false_and, and_false, or_false, false_or, true_or, or_true, h0, hf, h1, ht, hm]
      refine ⟨fun h => absurd h hge, fun _ => ⟨vp_in_nI (by omega) (by omega), fun _ => ?_, fun _ => hend i (by omega)⟩⟩
      refine jrun_ok jC X k_MT_kingOf_30 30 _ _ _ o_MT_kingOf_30 ?_
      simp only [k_MT_kingOf_30, jrun, jstep, jldi, jldl, jlda, j1, j2, jl1, jl2, jli, ja1, jbr, jald, jast, jlald, jlast, jalen, jget, jput, jfit, jdup, jdupx, jdupx2, jdup2, jcat, jset1, jset2, jkill, List.getElem?_cons_zero, List.getElem?_cons_succ, List.set_cons_zero, List.set_cons_succ, List.length_cons, List.length_nil, Nat.reduceAdd, Nat.reduceLT, Int32.reduceToNatClampNeg, true_and, and_true, and_self, reduceCtorEq, not_false_eq_true, false_and, and_false, or_false, false_or, true_or, or_true]
      exact hend j hj
  refine jrun_ok jC X k_MT_kingOf_0 0 _ _ _ o_MT_kingOf_0 ?_
  simp only [k_MT_kingOf_0, jrun, jstep, jldi, jldl, jlda, j1, j2, jl1, jl2, jli, ja1, jbr, jald, jast, jlald, jlast, jalen, jget, jput, jfit, jdup, jdupx, jdupx2, jdup2, jcat, jset1, jset2, jkill, List.getElem?_cons_zero, List.getElem?_cons_succ, List.set_cons_zero, List.set_cons_succ, List.length_cons, List.length_nil, Nat.reduceAdd, Nat.reduceLT, Int32.reduceToNatClampNeg, true_and, and_true, and_self, reduceCtorEq, not_false_eq_true, false_and, and_false, or_false, false_or, true_or, or_true]
  exact hloop 64 0 0 (by omega) (by omega)

