/-- a truth value that is 1 only where g holds -/
def poG (g : Prop) (σ : Nat → jcell) (n : Nat) : jPo := fun r σ' n' => ∃ b : Int32, (b = 0 ∨ b = 1) ∧ (b = 1 → g) ∧ r = some (.inl b) ∧ σ' = σ ∧ n' = n
section JCD
variable {E : jE} {own : String} {Ts : List Jvm.Cond} {cl : List vw_C} {tb : jTb} {nL : Nat} {ini : Bool} {cc : ByteArray} {M : jM} {Q : State → Prop} {n cells slots : Nat}
theorem jk_VG {g : Prop} (X : jX E own Ts cl tb nL ini cc M) {rm rc : Room} (hR : M.2.2.2.1 = rm) {pc i wi k ci a : Nat} {Y : jY} (hd : decode cc pc = .ok (.invokevirtual i, 3)) (hw : jlm Ts wi own i Y.1 = true) (hm : jmth Ts Y k) (hin : Jvm.Cond.instanceMethod Y.1 ∈ jTA Ts) (hse : Jvm.Cond.selects Y.1.cls Y.1 Y.1 ∈ jTA Ts) {q : vw_C} (hq : cl[ci]? = some q) (hqc : q.1 = Y.1.cls) {lv : List (Option jv)} {r vals : List jv} {σ : Nat → jcell} {fs : List jv} (ha : a < n) (he : σ a = .inr (ci, fs)) (hM : jMet M.2.1 E cl tb Ts Y rc (.inr (.inr (some (.inl a))) :: vals) σ n (poG g σ n)) {st : List jv} (hs : st = vals.reverse ++ .inr (.inr (some (.inl a))) :: r) (hk : vals.length = k)
    (hf : rc.frames + 1 ≤ rm.frames ∧ 8 + (Y.2.2.1 + 11) + rc.locals ≤ rm.locals) (h0 : rc.cells = 0 ∧ rc.slots = 0) (hc : cells ≤ rm.cells ∧ slots ≤ rm.slots) (hz : (r.map jcat).sum ≤ 8) {pc' : Nat} (hp : pc + 3 = pc')
    (kk : ∀ b : Int32, b = 0 ∨ b = 1 → (b = 1 → g) → jJ E cl nL M Q n cells slots pc' lv (.inl b :: r) σ) : jJ E cl nL M Q n cells slots pc lv st σ := by
  refine jk_callV X hR hd hw hm hin hse hq hqc ha he hM hs hk hf (by rw [h0.1, h0.2]; exact hc) hz ?_
  rintro _ _ _ ⟨b, hb, hg, rfl, rfl, rfl⟩
  rw [h0.1, h0.2, hp]
  exact kk b hb hg
end JCD
/-- where a pawn may go at most; where another man may -/
def geoP (a b : Nat) : Bool := b == a + 8 || a == b + 8 || b == a + 16 || a == b + 16 || ((a % 8 + 1 == b % 8 || b % 8 + 1 == a % 8) && (a / 8 + 1 == b / 8 || b / 8 + 1 == a / 8))
def gfi (a b : Nat) : Int32 := nI b - nI b / 8 * 8 - (nI a - nI a / 8 * 8)
def gra (a b : Nat) : Int32 := nI b / 8 - nI a / 8
set_option maxRecDepth 100000 in
theorem pg_1 : ∀ v ∈ ([8, -8] : List Int32), ∀ a, a < 64 → ∀ b, b < 64 → nI b = nI a + v → geoP a b = true := by decide +kernel
set_option maxRecDepth 100000 in
theorem pg_2 : ∀ v ∈ ([8, -8] : List Int32), ∀ a, a < 64 → ∀ b, b < 64 → nI b = nI a + 2 * v → geoP a b = true ∧ ¬ (nI a + v < 0 ∨ 64 ≤ (nI a + v).toNatClampNeg) := by decide +kernel
set_option maxRecDepth 100000 in
theorem pg_3 : ∀ v ∈ ([8, -8] : List Int32), ∀ a, a < 64 → ∀ b, b < 64 → nI b / 8 = nI a / 8 + v / 8 → (gfi a b = 1 ∨ gfi a b = -1) → geoP a b = true := by decide +kernel
theorem up_in {v : Int32} (h : v = 8 ∨ v = -8) : v ∈ ([8, -8] : List Int32) := by rcases h with rfl | rfl <;> decide
set_option maxRecDepth 100000 in
theorem mc_mid : ∀ h ∈ ([4, 60] : List Nat), ∀ b, b < 64 → ((nI h + nI b) / 2).toNatClampNeg < 64 ∧ (nI h + nI b) / 2 = nI ((nI h + nI b) / 2).toNatClampNeg := by decide +kernel
set_option maxRecDepth 100000 in
set_option maxHeartbeats 4000000 in
theorem c_MT_mayCastle (l : Launch) (E : jE) (σ : Nat → jcell) (n : Nat) (t m : Nat) (fs : List jv) (men : Nat → Int32) (ht : t < n) (h0 : σ t = .inr (12, fs)) (hf : fs[24]? = some (.inr (.inr (some (.inl m))))) (hm : m < n) (h1 : σ m = .inl (.int, 64, .inl men)) (sd ri pa : Int32) (h25 : fs[25]? = some (.inl sd)) (h26 : fs[26]? = some (.inl ri)) (h27 : fs[27]? = some (.inl pa)) (hsd : sd = 0 ∨ sd = 1) (b : Nat) (hb : b < 64) : jMet l E jcl jtb lw_tbl y_MT_mayCastle { frames := 3, cells := 0, slots := 0, locals := 130 } [.inr (.inr (some (.inl (t)))), .inl (nI b)] σ n (fun r σ' n' => poB σ n r σ' n') := by
  refine jMet_of (hY := rfl) false (fun h => by cases h) (by decide) (Nat.le_of_ble_eq_true rfl) [some (.inr (.inr (some (.inl (t))))), some (.inl (nI b)), none, none, none, none] rfl ?_
  intro M hl hR X hr
  obtain ⟨hh, hhs, ehh⟩ : ∃ hh : Nat, (hh = 4 ∨ hh = 60) ∧ (4 : Int32) + 56 * sd = nI hh := by
    rcases hsd with rfl | rfl
    · exact ⟨4, Or.inl rfl, rfl⟩
    · exact ⟨60, Or.inr rfl, rfl⟩
  have hhm : hh ∈ ([4, 60] : List Nat) := by rcases hhs with rfl | rfl <;> decide
  have C131 : ∀ (v3 : Int32) (v4 : Int32) (v5 : Int32) (s0 : Int32), (s0 = 0 ∨ s0 = 1) → jJ E jcl 6 M (jQ E jcl M (fun r σ' n' => poB σ n r σ' n') 0 0) n 0 0 131 [some (.inr (.inr (some (.inl (t))))), some (.inl (nI b)), some (.inl (nI hh)), some (.inl v3), some (.inl v4), some (.inl v5)] [.inl s0] σ := by
    intro v3 v4 v5 s0 c0
    exact jk_iret X d_MT_mayCastle_131 hr (bo_n (by assumption)) (Nat.le_refl _) (Nat.le_refl _) ⟨_, (by assumption), rfl, rfl, rfl⟩
  have C130 : ∀ (v3 : Int32) (v4 : Int32) (v5 : Int32), jJ E jcl 6 M (jQ E jcl M (fun r σ' n' => poB σ n r σ' n') 0 0) n 0 0 130 [some (.inr (.inr (some (.inl (t))))), some (.inl (nI b)), some (.inl (nI hh)), some (.inl v3), some (.inl v4), some (.inl v5)] [] σ := by
    intro v3 v4 v5
    refine jrun_ok jC X k_MT_mayCastle_130 130 _ _ _ o_MT_mayCastle_130 ?_
    simp only [k_MT_mayCastle_130, jrun, jstep, jldi, jldl, jlda, j1, j2, jl1, jl2, jli, ja1, jbr, jald, jast, jlald, jlast, jalen, jget, jput, jfit, jdup, jdupx, jdupx2, jdup2, jcat, jset1, jset2, jkill, List.getElem?_cons_zero, List.getElem?_cons_succ, List.set_cons_zero, List.set_cons_succ, List.length_cons, List.length_nil, Nat.reduceAdd, Nat.reduceLT, Int32.reduceToNatClampNeg, true_and, and_true, and_self, reduceCtorEq, not_false_eq_true, false_and, and_false, or_false, false_or, true_or, or_true, h0, hf, h1, ht, hm, h25, h26, h27, ehh]
    exact C131 _ _ _ _ (by first | assumption | exact Or.inl rfl | exact Or.inr rfl)
  have C123 : ∀ (v3 : Int32) (v4 : Int32) (v5 : Int32) (s0 : Int32), jJ E jcl 6 M (jQ E jcl M (fun r σ' n' => poB σ n r σ' n') 0 0) n 0 0 123 [some (.inr (.inr (some (.inl (t))))), some (.inl (nI b)), some (.inl (nI hh)), some (.inl v3), some (.inl v4), some (.inl v5)] [.inl s0] σ := by
    intro v3 v4 v5 s0
    refine jrun_ok jC X k_MT_mayCastle_123 123 _ _ _ o_MT_mayCastle_123 ?_
    simp only [k_MT_mayCastle_123, jrun, jstep, jldi, jldl, jlda, j1, j2, jl1, jl2, jli, ja1, jbr, jald, jast, jlald, jlast, jalen, jget, jput, jfit, jdup, jdupx, jdupx2, jdup2, jcat, jset1, jset2, jkill, List.getElem?_cons_zero, List.getElem?_cons_succ, List.set_cons_zero, List.set_cons_succ, List.length_cons, List.length_nil, Nat.reduceAdd, Nat.reduceLT, Int32.reduceToNatClampNeg, true_and, and_true, and_self, reduceCtorEq, not_false_eq_true, false_and, and_false, or_false, false_or, true_or, or_true, h0, hf, h1, ht, hm, h25, h26, h27, ehh]
    exact ⟨fun h123 => C130 _ _ _, fun h123 => C131 _ _ _ _ (by first | assumption | exact Or.inl rfl | exact Or.inr rfl)⟩
  have C105 : ∀ (v3 : Int32) (v4 : Int32) (v5 : Int32) (s0 : Int32), jJ E jcl 6 M (jQ E jcl M (fun r σ' n' => poB σ n r σ' n') 0 0) n 0 0 105 [some (.inr (.inr (some (.inl (t))))), some (.inl (nI b)), some (.inl (nI hh)), some (.inl v3), some (.inl v4), some (.inl v5)] [.inl s0] σ := by
    intro v3 v4 v5 s0
    refine jrun_ok jC X k_MT_mayCastle_105 105 _ _ _ o_MT_mayCastle_105 ?_
    simp only [k_MT_mayCastle_105, jrun, jstep, jldi, jldl, jlda, j1, j2, jl1, jl2, jli, ja1, jbr, jald, jast, jlald, jlast, jalen, jget, jput, jfit, jdup, jdupx, jdupx2, jdup2, jcat, jset1, jset2, jkill, List.getElem?_cons_zero, List.getElem?_cons_succ, List.set_cons_zero, List.set_cons_succ, List.length_cons, List.length_nil, Nat.reduceAdd, Nat.reduceLT, Int32.reduceToNatClampNeg, true_and, and_true, and_self, reduceCtorEq, not_false_eq_true, false_and, and_false, or_false, false_or, true_or, or_true, h0, hf, h1, ht, hm, h25, h26, h27, ehh]
    refine ⟨fun h105 => C130 _ _ _, fun h105 => ⟨by decide, ?_⟩⟩
    refine jk_VB X hR d_MT_mayCastle_120 q_MT_mayCastle_120 m_MT_isAttacked i_MT_isAttacked e_MT_isAttacked (ci := 12) rfl rfl ht h0 (c_MT_isAttackedQ M.2.1 E _ _ _ _ _ _ ht h0 hf hm h1 _ ⟨_, (mc_mid hh hhm b hb).1, (mc_mid hh hhm b hb).2⟩ _) rfl rfl ⟨Nat.le_of_ble_eq_true rfl, Nat.le_of_ble_eq_true rfl⟩ ⟨rfl, rfl⟩ ⟨Nat.le_of_ble_eq_true rfl, Nat.le_of_ble_eq_true rfl⟩ (Nat.le_of_ble_eq_true rfl) (pc' := 123) rfl ?_
    intro vb cb
    exact C123 _ _ _ _
  have C82 : ∀ (v3 : Int32) (v4 : Int32) (o5 : Option jv) (s0 : Int32), jJ E jcl 6 M (jQ E jcl M (fun r σ' n' => poB σ n r σ' n') 0 0) n 0 0 82 [some (.inr (.inr (some (.inl (t))))), some (.inl (nI b)), some (.inl (nI hh)), some (.inl v3), some (.inl v4), o5] [.inl s0] σ := by
    intro v3 v4 o5 s0
    refine jrun_ok jC X k_MT_mayCastle_82 82 _ _ _ o_MT_mayCastle_82 ?_
    simp only [k_MT_mayCastle_82, jrun, jstep, jldi, jldl, jlda, j1, j2, jl1, jl2, jli, ja1, jbr, jald, jast, jlald, jlast, jalen, jget, jput, jfit, jdup, jdupx, jdupx2, jdup2, jcat, jset1, jset2, jkill, List.getElem?_cons_zero, List.getElem?_cons_succ, List.set_cons_zero, List.set_cons_succ, List.length_cons, List.length_nil, Nat.reduceAdd, Nat.reduceLT, Int32.reduceToNatClampNeg, true_and, and_true, and_self, reduceCtorEq, not_false_eq_true, false_and, and_false, or_false, false_or, true_or, or_true, h0, hf, h1, ht, hm, h25, h26, h27, ehh]
    refine ⟨fun h86 => C130 _ _ _, fun h86 => ⟨fun h91 => C130 _ _ _, fun h91 => ?_⟩⟩
    refine jk_VB X hR d_MT_mayCastle_102 q_MT_mayCastle_102 m_MT_isAttacked i_MT_isAttacked e_MT_isAttacked (ci := 12) rfl rfl ht h0 (c_MT_isAttackedQ M.2.1 E _ _ _ _ _ _ ht h0 hf hm h1 _ ⟨hh, by omega, rfl⟩ _) rfl rfl ⟨Nat.le_of_ble_eq_true rfl, Nat.le_of_ble_eq_true rfl⟩ ⟨rfl, rfl⟩ ⟨Nat.le_of_ble_eq_true rfl, Nat.le_of_ble_eq_true rfl⟩ (Nat.le_of_ble_eq_true rfl) (pc' := 105) rfl ?_
    intro vb cb
    exact C105 _ _ _ _
  have C72 : ∀ (v3 : Int32) (v4 : Int32) (o5 : Option jv), jJ E jcl 6 M (jQ E jcl M (fun r σ' n' => poB σ n r σ' n') 0 0) n 0 0 72 [some (.inr (.inr (some (.inl (t))))), some (.inl (nI b)), some (.inl (nI hh)), some (.inl v3), some (.inl v4), o5] [] σ := by
    intro v3 v4 o5
    refine jrun_ok jC X k_MT_mayCastle_72 72 _ _ _ o_MT_mayCastle_72 ?_
    simp only [k_MT_mayCastle_72, jrun, jstep, jldi, jldl, jlda, j1, j2, jl1, jl2, jli, ja1, jbr, jald, jast, jlald, jlast, jalen, jget, jput, jfit, jdup, jdupx, jdupx2, jdup2, jcat, jset1, jset2, jkill, List.getElem?_cons_zero, List.getElem?_cons_succ, List.set_cons_zero, List.set_cons_succ, List.length_cons, List.length_nil, Nat.reduceAdd, Nat.reduceLT, Int32.reduceToNatClampNeg, true_and, and_true, and_self, reduceCtorEq, not_false_eq_true, false_and, and_false, or_false, false_or, true_or, or_true, h0, hf, h1, ht, hm, h25, h26, h27, ehh]
    refine ?_
    refine jk_VB X hR d_MT_mayCastle_79 q_MT_mayCastle_79 m_MT_isClear i_MT_isClear e_MT_isClear (ci := 12) rfl rfl ht h0 (c_MT_isClear M.2.1 E _ _ _ _ _ _ ht h0 hf hm h1 _ _ (hh - 3) (hh - 1) (by rcases hhs with rfl | rfl <;> rfl) (by rcases hhs with rfl | rfl <;> rfl) (by omega) (by omega)) rfl rfl ⟨Nat.le_of_ble_eq_true rfl, Nat.le_of_ble_eq_true rfl⟩ ⟨rfl, rfl⟩ ⟨Nat.le_of_ble_eq_true rfl, Nat.le_of_ble_eq_true rfl⟩ (Nat.le_of_ble_eq_true rfl) (pc' := 82) rfl ?_
    intro vb cb
    exact C82 _ _ _ _
  have C69 : ∀ (v3 : Int32) (v4 : Int32) (o5 : Option jv) (s0 : Int32), jJ E jcl 6 M (jQ E jcl M (fun r σ' n' => poB σ n r σ' n') 0 0) n 0 0 69 [some (.inr (.inr (some (.inl (t))))), some (.inl (nI b)), some (.inl (nI hh)), some (.inl v3), some (.inl v4), o5] [.inl s0] σ := by
    intro v3 v4 o5 s0
    refine jrun_ok jC X k_MT_mayCastle_69 69 _ _ _ o_MT_mayCastle_69 ?_
    simp only [k_MT_mayCastle_69, jrun, jstep, jldi, jldl, jlda, j1, j2, jl1, jl2, jli, ja1, jbr, jald, jast, jlald, jlast, jalen, jget, jput, jfit, jdup, jdupx, jdupx2, jdup2, jcat, jset1, jset2, jkill, List.getElem?_cons_zero, List.getElem?_cons_succ, List.set_cons_zero, List.set_cons_succ, List.length_cons, List.length_nil, Nat.reduceAdd, Nat.reduceLT, Int32.reduceToNatClampNeg, true_and, and_true, and_self, reduceCtorEq, not_false_eq_true, false_and, and_false, or_false, false_or, true_or, or_true, h0, hf, h1, ht, hm, h25, h26, h27, ehh]
    exact C82 _ _ _ _
  have C53 : ∀ (v3 : Int32) (o4 : Option jv) (o5 : Option jv) (s0 : Int32), jJ E jcl 6 M (jQ E jcl M (fun r σ' n' => poB σ n r σ' n') 0 0) n 0 0 53 [some (.inr (.inr (some (.inl (t))))), some (.inl (nI b)), some (.inl (nI hh)), some (.inl v3), o4, o5] [.inl s0] σ := by
    intro v3 o4 o5 s0
    refine jrun_ok jC X k_MT_mayCastle_53 53 _ _ _ o_MT_mayCastle_53 ?_
    simp only [k_MT_mayCastle_53, jrun, jstep, jldi, jldl, jlda, j1, j2, jl1, jl2, jli, ja1, jbr, jald, jast, jlald, jlast, jalen, jget, jput, jfit, jdup, jdupx, jdupx2, jdup2, jcat, jset1, jset2, jkill, List.getElem?_cons_zero, List.getElem?_cons_succ, List.set_cons_zero, List.set_cons_succ, List.length_cons, List.length_nil, Nat.reduceAdd, Nat.reduceLT, Int32.reduceToNatClampNeg, true_and, and_true, and_self, reduceCtorEq, not_false_eq_true, false_and, and_false, or_false, false_or, true_or, or_true, h0, hf, h1, ht, hm, h25, h26, h27, ehh]
    refine ⟨fun h56 => C72 _ _ _, fun h56 => ?_⟩
    refine jk_VB X hR d_MT_mayCastle_66 q_MT_mayCastle_66 m_MT_isClear i_MT_isClear e_MT_isClear (ci := 12) rfl rfl ht h0 (c_MT_isClear M.2.1 E _ _ _ _ _ _ ht h0 hf hm h1 _ _ (hh + 1) (hh + 2) (nI_add hh 1) (nI_add hh 2) (by omega) (by omega)) rfl rfl ⟨Nat.le_of_ble_eq_true rfl, Nat.le_of_ble_eq_true rfl⟩ ⟨rfl, rfl⟩ ⟨Nat.le_of_ble_eq_true rfl, Nat.le_of_ble_eq_true rfl⟩ (Nat.le_of_ble_eq_true rfl) (pc' := 69) rfl ?_
    intro vb cb
    exact C69 _ _ _ _
  have C52 : ∀ (v3 : Int32) (o4 : Option jv) (o5 : Option jv), jJ E jcl 6 M (jQ E jcl M (fun r σ' n' => poB σ n r σ' n') 0 0) n 0 0 52 [some (.inr (.inr (some (.inl (t))))), some (.inl (nI b)), some (.inl (nI hh)), some (.inl v3), o4, o5] [] σ := by
    intro v3 o4 o5
    refine jrun_ok jC X k_MT_mayCastle_52 52 _ _ _ o_MT_mayCastle_52 ?_
    simp only [k_MT_mayCastle_52, jrun, jstep, jldi, jldl, jlda, j1, j2, jl1, jl2, jli, ja1, jbr, jald, jast, jlald, jlast, jalen, jget, jput, jfit, jdup, jdupx, jdupx2, jdup2, jcat, jset1, jset2, jkill, List.getElem?_cons_zero, List.getElem?_cons_succ, List.set_cons_zero, List.set_cons_succ, List.length_cons, List.length_nil, Nat.reduceAdd, Nat.reduceLT, Int32.reduceToNatClampNeg, true_and, and_true, and_self, reduceCtorEq, not_false_eq_true, false_and, and_false, or_false, false_or, true_or, or_true, h0, hf, h1, ht, hm, h25, h26, h27, ehh]
    exact C53 _ _ _ _
  have C40 : ∀ (v3 : Int32) (o4 : Option jv) (o5 : Option jv) (s0 : Int32) (s1 : Int32) (s2 : Int32), jJ E jcl 6 M (jQ E jcl M (fun r σ' n' => poB σ n r σ' n') 0 0) n 0 0 40 [some (.inr (.inr (some (.inl (t))))), some (.inl (nI b)), some (.inl (nI hh)), some (.inl v3), o4, o5] [.inl s2, .inl s1, .inl s0] σ := by
    intro v3 o4 o5 s0 s1 s2
    refine jrun_ok jC X k_MT_mayCastle_40 40 _ _ _ o_MT_mayCastle_40 ?_
    simp only [k_MT_mayCastle_40, jrun, jstep, jldi, jldl, jlda, j1, j2, jl1, jl2, jli, ja1, jbr, jald, jast, jlald, jlast, jalen, jget, jput, jfit, jdup, jdupx, jdupx2, jdup2, jcat, jset1, jset2, jkill, List.getElem?_cons_zero, List.getElem?_cons_succ, List.set_cons_zero, List.set_cons_succ, List.length_cons, List.length_nil, Nat.reduceAdd, Nat.reduceLT, Int32.reduceToNatClampNeg, true_and, and_true, and_self, reduceCtorEq, not_false_eq_true, false_and, and_false, or_false, false_or, true_or, or_true, h0, hf, h1, ht, hm, h25, h26, h27, ehh]
    exact ⟨fun h45 => C52 _ _ _, fun h45 => C53 _ _ _ _⟩
  have C39 : ∀ (v3 : Int32) (o4 : Option jv) (o5 : Option jv) (s0 : Int32) (s1 : Int32), jJ E jcl 6 M (jQ E jcl M (fun r σ' n' => poB σ n r σ' n') 0 0) n 0 0 39 [some (.inr (.inr (some (.inl (t))))), some (.inl (nI b)), some (.inl (nI hh)), some (.inl v3), o4, o5] [.inl s1, .inl s0] σ := by
    intro v3 o4 o5 s0 s1
    refine jrun_ok jC X k_MT_mayCastle_39 39 _ _ _ o_MT_mayCastle_39 ?_
    simp only [k_MT_mayCastle_39, jrun, jstep, jldi, jldl, jlda, j1, j2, jl1, jl2, jli, ja1, jbr, jald, jast, jlald, jlast, jalen, jget, jput, jfit, jdup, jdupx, jdupx2, jdup2, jcat, jset1, jset2, jkill, List.getElem?_cons_zero, List.getElem?_cons_succ, List.set_cons_zero, List.set_cons_succ, List.length_cons, List.length_nil, Nat.reduceAdd, Nat.reduceLT, Int32.reduceToNatClampNeg, true_and, and_true, and_self, reduceCtorEq, not_false_eq_true, false_and, and_false, or_false, false_or, true_or, or_true, h0, hf, h1, ht, hm, h25, h26, h27, ehh]
    exact C40 _ _ _ _ _ _
  have C20 : ∀ (o3 : Option jv) (o4 : Option jv) (o5 : Option jv) (s0 : Int32), jJ E jcl 6 M (jQ E jcl M (fun r σ' n' => poB σ n r σ' n') 0 0) n 0 0 20 [some (.inr (.inr (some (.inl (t))))), some (.inl (nI b)), some (.inl (nI hh)), o3, o4, o5] [.inl s0] σ := by
    intro o3 o4 o5 s0
    refine jrun_ok jC X k_MT_mayCastle_20 20 _ _ _ o_MT_mayCastle_20 ?_
    simp only [k_MT_mayCastle_20, jrun, jstep, jldi, jldl, jlda, j1, j2, jl1, jl2, jli, ja1, jbr, jald, jast, jlald, jlast, jalen, jget, jput, jfit, jdup, jdupx, jdupx2, jdup2, jcat, jset1, jset2, jkill, List.getElem?_cons_zero, List.getElem?_cons_succ, List.set_cons_zero, List.set_cons_succ, List.length_cons, List.length_nil, Nat.reduceAdd, Nat.reduceLT, Int32.reduceToNatClampNeg, true_and, and_true, and_self, reduceCtorEq, not_false_eq_true, false_and, and_false, or_false, false_or, true_or, or_true, h0, hf, h1, ht, hm, h25, h26, h27, ehh]
    exact ⟨fun h32 => C39 _ _ _ _ _, fun h32 => C40 _ _ _ _ _ _⟩
  have C19 : ∀ (o3 : Option jv) (o4 : Option jv) (o5 : Option jv), jJ E jcl 6 M (jQ E jcl M (fun r σ' n' => poB σ n r σ' n') 0 0) n 0 0 19 [some (.inr (.inr (some (.inl (t))))), some (.inl (nI b)), some (.inl (nI hh)), o3, o4, o5] [] σ := by
    intro o3 o4 o5
    refine jrun_ok jC X k_MT_mayCastle_19 19 _ _ _ o_MT_mayCastle_19 ?_
    simp only [k_MT_mayCastle_19, jrun, jstep, jldi, jldl, jlda, j1, j2, jl1, jl2, jli, ja1, jbr, jald, jast, jlald, jlast, jalen, jget, jput, jfit, jdup, jdupx, jdupx2, jdup2, jcat, jset1, jset2, jkill, List.getElem?_cons_zero, List.getElem?_cons_succ, List.set_cons_zero, List.set_cons_succ, List.length_cons, List.length_nil, Nat.reduceAdd, Nat.reduceLT, Int32.reduceToNatClampNeg, true_and, and_true, and_self, reduceCtorEq, not_false_eq_true, false_and, and_false, or_false, false_or, true_or, or_true, h0, hf, h1, ht, hm, h25, h26, h27, ehh]
    exact C20 _ _ _ _
  refine jrun_ok jC X k_MT_mayCastle_0 0 _ _ _ o_MT_mayCastle_0 ?_
  simp only [k_MT_mayCastle_0, jrun, jstep, jldi, jldl, jlda, j1, j2, jl1, jl2, jli, ja1, jbr, jald, jast, jlald, jlast, jalen, jget, jput, jfit, jdup, jdupx, jdupx2, jdup2, jcat, jset1, jset2, jkill, List.getElem?_cons_zero, List.getElem?_cons_succ, List.set_cons_zero, List.set_cons_succ, List.length_cons, List.length_nil, Nat.reduceAdd, Nat.reduceLT, Int32.reduceToNatClampNeg, true_and, and_true, and_self, reduceCtorEq, not_false_eq_true, false_and, and_false, or_false, false_or, true_or, or_true, h0, hf, h1, ht, hm, h25, h26, h27, ehh]
  exact ⟨fun h12 => C19 _ _ _, fun h12 => C20 _ _ _ _⟩
set_option maxRecDepth 100000 in
set_option maxHeartbeats 4000000 in
theorem c_MT_pawnGoes (l : Launch) (E : jE) (σ : Nat → jcell) (n : Nat) (t m : Nat) (fs : List jv) (men : Nat → Int32) (ht : t < n) (h0 : σ t = .inr (12, fs)) (hf : fs[24]? = some (.inr (.inr (some (.inl m))))) (hm : m < n) (h1 : σ m = .inl (.int, 64, .inl men)) (sd ri pa : Int32) (h25 : fs[25]? = some (.inl sd)) (h26 : fs[26]? = some (.inl ri)) (h27 : fs[27]? = some (.inl pa)) (hsd : sd = 0 ∨ sd = 1) (a b : Nat) (ha : a < 64) (hb : b < 64) : jMet l E jcl jtb lw_tbl y_MT_pawnGoes { frames := 1, cells := 0, slots := 0, locals := 40 } [.inr (.inr (some (.inl (t)))), .inl (nI a), .inl (nI b)] σ n (fun r σ' n' => poG (geoP a b = true) σ n r σ' n') := by
  refine jMet_of (hY := rfl) false (fun h => by cases h) (by decide) (Nat.le_of_ble_eq_true rfl) [some (.inr (.inr (some (.inl (t))))), some (.inl (nI a)), some (.inl (nI b)), none, none] rfl ?_
  intro M hl hR X hr
  have C162 : ∀ (v3 : Int32) (s0 : Int32), (v3 = 8 ∨ v3 = -8) → (s0 = 0 ∨ s0 = 1) → (s0 = 1 → geoP a b = true) → jJ E jcl 5 M (jQ E jcl M (fun r σ' n' => poG (geoP a b = true) σ n r σ' n') 0 0) n 0 0 162 [some (.inr (.inr (some (.inl (t))))), some (.inl (nI a)), some (.inl (nI b)), some (.inl v3), some (.inl (nI b - nI b / 8 * 8 - (nI a - nI a / 8 * 8)))] [.inl s0] σ := by
    intro v3 s0 c0 c1 c2
    exact jk_iret X d_MT_pawnGoes_162 hr (bo_n (by assumption)) (Nat.le_refl _) (Nat.le_refl _) ⟨_, (by assumption), (by assumption), rfl, rfl, rfl⟩
  have C161 : ∀ (v3 : Int32), (v3 = 8 ∨ v3 = -8) → jJ E jcl 5 M (jQ E jcl M (fun r σ' n' => poG (geoP a b = true) σ n r σ' n') 0 0) n 0 0 161 [some (.inr (.inr (some (.inl (t))))), some (.inl (nI a)), some (.inl (nI b)), some (.inl v3), some (.inl (nI b - nI b / 8 * 8 - (nI a - nI a / 8 * 8)))] [] σ := by
    intro v3 c0
    refine jrun_ok jC X k_MT_pawnGoes_161 161 _ _ _ o_MT_pawnGoes_161 ?_
    simp only [k_MT_pawnGoes_161, jrun, jstep, jldi, jldl, jlda, j1, j2, jl1, jl2, jli, ja1, jbr, jald, jast, jlald, jlast, jalen, jget, jput, jfit, jdup, jdupx, jdupx2, jdup2, jcat, jset1, jset2, jkill, List.getElem?_cons_zero, List.getElem?_cons_succ, List.set_cons_zero, List.set_cons_succ, List.length_cons, List.length_nil, Nat.reduceAdd, Nat.reduceLT, Int32.reduceToNatClampNeg, true_and, and_true, and_self, reduceCtorEq, not_false_eq_true, false_and, and_false, or_false, false_or, true_or, or_true, h0, hf, h1, ht, hm, h25, h26, h27]
    exact C162 _ _ (by assumption) (by first | assumption | exact Or.inl rfl | exact Or.inr rfl) (by intro h; exact absurd h (by decide))
  have C157 : ∀ (v3 : Int32), (v3 = 8 ∨ v3 = -8) → (nI b / 8 = nI a / 8 + v3 / 8) → ((nI b - nI b / 8 * 8 - (nI a - nI a / 8 * 8)) = 1 ∨ (nI b - nI b / 8 * 8 - (nI a - nI a / 8 * 8)) = -1) → jJ E jcl 5 M (jQ E jcl M (fun r σ' n' => poG (geoP a b = true) σ n r σ' n') 0 0) n 0 0 157 [some (.inr (.inr (some (.inl (t))))), some (.inl (nI a)), some (.inl (nI b)), some (.inl v3), some (.inl (nI b - nI b / 8 * 8 - (nI a - nI a / 8 * 8)))] [] σ := by
    intro v3 c0 c1 c2
    refine jrun_ok jC X k_MT_pawnGoes_157 157 _ _ _ o_MT_pawnGoes_157 ?_
    simp only [k_MT_pawnGoes_157, jrun, jstep, jldi, jldl, jlda, j1, j2, jl1, jl2, jli, ja1, jbr, jald, jast, jlald, jlast, jalen, jget, jput, jfit, jdup, jdupx, jdupx2, jdup2, jcat, jset1, jset2, jkill, List.getElem?_cons_zero, List.getElem?_cons_succ, List.set_cons_zero, List.set_cons_succ, List.length_cons, List.length_nil, Nat.reduceAdd, Nat.reduceLT, Int32.reduceToNatClampNeg, true_and, and_true, and_self, reduceCtorEq, not_false_eq_true, false_and, and_false, or_false, false_or, true_or, or_true, h0, hf, h1, ht, hm, h25, h26, h27]
    exact C162 _ _ (by assumption) (Or.inr rfl) (fun _ => pg_3 _ (up_in (by assumption)) a ha b hb (by assumption) (by assumption))
  have C140 : ∀ (v3 : Int32) (s0 : Int32), (v3 = 8 ∨ v3 = -8) → (nI b / 8 = nI a / 8 + v3 / 8) → ((nI b - nI b / 8 * 8 - (nI a - nI a / 8 * 8)) = 1 ∨ (nI b - nI b / 8 * 8 - (nI a - nI a / 8 * 8)) = -1) → jJ E jcl 5 M (jQ E jcl M (fun r σ' n' => poG (geoP a b = true) σ n r σ' n') 0 0) n 0 0 140 [some (.inr (.inr (some (.inl (t))))), some (.inl (nI a)), some (.inl (nI b)), some (.inl v3), some (.inl (nI b - nI b / 8 * 8 - (nI a - nI a / 8 * 8)))] [.inl s0] σ := by
    intro v3 s0 c0 c1 c2
    refine jrun_ok jC X k_MT_pawnGoes_140 140 _ _ _ o_MT_pawnGoes_140 ?_
    simp only [k_MT_pawnGoes_140, jrun, jstep, jldi, jldl, jlda, j1, j2, jl1, jl2, jli, ja1, jbr, jald, jast, jlald, jlast, jalen, jget, jput, jfit, jdup, jdupx, jdupx2, jdup2, jcat, jset1, jset2, jkill, List.getElem?_cons_zero, List.getElem?_cons_succ, List.set_cons_zero, List.set_cons_succ, List.length_cons, List.length_nil, Nat.reduceAdd, Nat.reduceLT, Int32.reduceToNatClampNeg, true_and, and_true, and_self, reduceCtorEq, not_false_eq_true, false_and, and_false, or_false, false_or, true_or, or_true, h0, hf, h1, ht, hm, h25, h26, h27]
    exact ⟨fun h146 => C157 _ (by assumption) (by assumption) (by first | assumption | exact Or.inl (by assumption) | exact Or.inr (by assumption)), fun h146 => ⟨fun h154 => C161 _ (by first | assumption | omega | (simp_all; done) | decide), fun h154 => C157 _ (by assumption) (by assumption) (by first | assumption | exact Or.inl (by assumption) | exact Or.inr (by assumption))⟩⟩
  have C131 : ∀ (v3 : Int32), (v3 = 8 ∨ v3 = -8) → (nI b / 8 = nI a / 8 + v3 / 8) → ((nI b - nI b / 8 * 8 - (nI a - nI a / 8 * 8)) = 1 ∨ (nI b - nI b / 8 * 8 - (nI a - nI a / 8 * 8)) = -1) → jJ E jcl 5 M (jQ E jcl M (fun r σ' n' => poG (geoP a b = true) σ n r σ' n') 0 0) n 0 0 131 [some (.inr (.inr (some (.inl (t))))), some (.inl (nI a)), some (.inl (nI b)), some (.inl v3), some (.inl (nI b - nI b / 8 * 8 - (nI a - nI a / 8 * 8)))] [] σ := by
    intro v3 c0 c1 c2
    refine jrun_ok jC X k_MT_pawnGoes_131 131 _ _ _ o_MT_pawnGoes_131 ?_
    simp only [k_MT_pawnGoes_131, jrun, jstep, jldi, jldl, jlda, j1, j2, jl1, jl2, jli, ja1, jbr, jald, jast, jlald, jlast, jalen, jget, jput, jfit, jdup, jdupx, jdupx2, jdup2, jcat, jset1, jset2, jkill, List.getElem?_cons_zero, List.getElem?_cons_succ, List.set_cons_zero, List.set_cons_succ, List.length_cons, List.length_nil, Nat.reduceAdd, Nat.reduceLT, Int32.reduceToNatClampNeg, true_and, and_true, and_self, reduceCtorEq, not_false_eq_true, false_and, and_false, or_false, false_or, true_or, or_true, h0, hf, h1, ht, hm, h25, h26, h27]
    refine ⟨(vp_in_nI hb (by omega)), ?_⟩
    refine jk_Si X hR d_MT_pawnGoes_137 q_MT_pawnGoes_137 m_MT_sideOf s_MT_sideOf (c_MT_sideOf M.2.1 E _ _ _) rfl rfl ⟨Nat.le_of_ble_eq_true rfl, Nat.le_of_ble_eq_true rfl⟩ ⟨rfl, rfl⟩ ⟨Nat.le_of_ble_eq_true rfl, Nat.le_of_ble_eq_true rfl⟩ (Nat.le_of_ble_eq_true rfl) (pc' := 140) rfl ?_
    exact C140 _ _ (by assumption) (by assumption) (by first | assumption | exact Or.inl (by assumption) | exact Or.inr (by assumption))
  have C92 : ∀ (v3 : Int32) (o4 : Option jv), (v3 = 8 ∨ v3 = -8) → jJ E jcl 5 M (jQ E jcl M (fun r σ' n' => poG (geoP a b = true) σ n r σ' n') 0 0) n 0 0 92 [some (.inr (.inr (some (.inl (t))))), some (.inl (nI a)), some (.inl (nI b)), some (.inl v3), o4] [] σ := by
    intro v3 o4 c0
    refine jrun_ok jC X k_MT_pawnGoes_92 92 _ _ _ o_MT_pawnGoes_92 ?_
    simp only [k_MT_pawnGoes_92, jrun, jstep, jldi, jldl, jlda, j1, j2, jl1, jl2, jli, ja1, jbr, jald, jast, jlald, jlast, jalen, jget, jput, jfit, jdup, jdupx, jdupx2, jdup2, jcat, jset1, jset2, jkill, List.getElem?_cons_zero, List.getElem?_cons_succ, List.set_cons_zero, List.set_cons_succ, List.length_cons, List.length_nil, Nat.reduceAdd, Nat.reduceLT, Int32.reduceToNatClampNeg, true_and, and_true, and_self, reduceCtorEq, not_false_eq_true, false_and, and_false, or_false, false_or, true_or, or_true, h0, hf, h1, ht, hm, h25, h26, h27]
    exact ⟨by decide, ⟨by decide, ⟨by decide, ⟨by decide, ⟨by decide, ⟨fun h116 => C161 _ (by first | assumption | omega | (simp_all; done) | decide), fun h116 => ⟨fun h122 => C131 _ (by assumption) (by assumption) (by first | assumption | exact Or.inl (by assumption) | exact Or.inr (by assumption)), fun h122 => ⟨fun h128 => C161 _ (by first | assumption | omega | (simp_all; done) | decide), fun h128 => C131 _ (by assumption) (by assumption) (by first | assumption | exact Or.inl (by assumption) | exact Or.inr (by assumption))⟩⟩⟩⟩⟩⟩⟩⟩
  have C91 : ∀ (v3 : Int32) (o4 : Option jv) (s0 : Int32), (v3 = 8 ∨ v3 = -8) → (s0 = 0 ∨ s0 = 1) → (s0 = 1 → geoP a b = true) → jJ E jcl 5 M (jQ E jcl M (fun r σ' n' => poG (geoP a b = true) σ n r σ' n') 0 0) n 0 0 91 [some (.inr (.inr (some (.inl (t))))), some (.inl (nI a)), some (.inl (nI b)), some (.inl v3), o4] [.inl s0] σ := by
    intro v3 o4 s0 c0 c1 c2
    exact jk_iret X d_MT_pawnGoes_91 hr (bo_n (by assumption)) (Nat.le_refl _) (Nat.le_refl _) ⟨_, (by assumption), (by assumption), rfl, rfl, rfl⟩
  have C90 : ∀ (v3 : Int32) (o4 : Option jv), (v3 = 8 ∨ v3 = -8) → jJ E jcl 5 M (jQ E jcl M (fun r σ' n' => poG (geoP a b = true) σ n r σ' n') 0 0) n 0 0 90 [some (.inr (.inr (some (.inl (t))))), some (.inl (nI a)), some (.inl (nI b)), some (.inl v3), o4] [] σ := by
    intro v3 o4 c0
    refine jrun_ok jC X k_MT_pawnGoes_90 90 _ _ _ o_MT_pawnGoes_90 ?_
    simp only [k_MT_pawnGoes_90, jrun, jstep, jldi, jldl, jlda, j1, j2, jl1, jl2, jli, ja1, jbr, jald, jast, jlald, jlast, jalen, jget, jput, jfit, jdup, jdupx, jdupx2, jdup2, jcat, jset1, jset2, jkill, List.getElem?_cons_zero, List.getElem?_cons_succ, List.set_cons_zero, List.set_cons_succ, List.length_cons, List.length_nil, Nat.reduceAdd, Nat.reduceLT, Int32.reduceToNatClampNeg, true_and, and_true, and_self, reduceCtorEq, not_false_eq_true, false_and, and_false, or_false, false_or, true_or, or_true, h0, hf, h1, ht, hm, h25, h26, h27]
    exact C91 _ _ _ (by assumption) (by first | assumption | exact Or.inl rfl | exact Or.inr rfl) (by intro h; exact absurd h (by decide))
  have C63 : ∀ (v3 : Int32) (o4 : Option jv) (s0 : Int32) (s1 : Int32), (v3 = 8 ∨ v3 = -8) → (nI b = nI a + 2 * v3) → jJ E jcl 5 M (jQ E jcl M (fun r σ' n' => poG (geoP a b = true) σ n r σ' n') 0 0) n 0 0 63 [some (.inr (.inr (some (.inl (t))))), some (.inl (nI a)), some (.inl (nI b)), some (.inl v3), o4] [.inl s1, .inl s0] σ := by
    intro v3 o4 s0 s1 c0 c1
    refine jrun_ok jC X k_MT_pawnGoes_63 63 _ _ _ o_MT_pawnGoes_63 ?_
    simp only [k_MT_pawnGoes_63, jrun, jstep, jldi, jldl, jlda, j1, j2, jl1, jl2, jli, ja1, jbr, jald, jast, jlald, jlast, jalen, jget, jput, jfit, jdup, jdupx, jdupx2, jdup2, jcat, jset1, jset2, jkill, List.getElem?_cons_zero, List.getElem?_cons_succ, List.set_cons_zero, List.set_cons_succ, List.length_cons, List.length_nil, Nat.reduceAdd, Nat.reduceLT, Int32.reduceToNatClampNeg, true_and, and_true, and_self, reduceCtorEq, not_false_eq_true, false_and, and_false, or_false, false_or, true_or, or_true, h0, hf, h1, ht, hm, h25, h26, h27]
    exact ⟨fun h63 => C90 _ _ (by first | assumption | omega | (simp_all; done) | decide), fun h63 => ⟨(pg_2 _ (up_in (by assumption)) a ha b hb (by assumption)).2, ⟨fun h74 => C90 _ _ (by first | assumption | omega | (simp_all; done) | decide), fun h74 => ⟨(vp_in_nI hb (by omega)), ⟨fun h83 => C90 _ _ (by first | assumption | omega | (simp_all; done) | decide), fun h83 => C91 _ _ _ (by assumption) (Or.inr rfl) (fun _ => (pg_2 _ (up_in (by assumption)) a ha b hb (by assumption)).1)⟩⟩⟩⟩⟩
  have C61 : ∀ (v3 : Int32) (o4 : Option jv) (s0 : Int32), (v3 = 8 ∨ v3 = -8) → (nI b = nI a + 2 * v3) → jJ E jcl 5 M (jQ E jcl M (fun r σ' n' => poG (geoP a b = true) σ n r σ' n') 0 0) n 0 0 61 [some (.inr (.inr (some (.inl (t))))), some (.inl (nI a)), some (.inl (nI b)), some (.inl v3), o4] [.inl s0] σ := by
    intro v3 o4 s0 c0 c1
    refine jrun_ok jC X k_MT_pawnGoes_61 61 _ _ _ o_MT_pawnGoes_61 ?_
    simp only [k_MT_pawnGoes_61, jrun, jstep, jldi, jldl, jlda, j1, j2, jl1, jl2, jli, ja1, jbr, jald, jast, jlald, jlast, jalen, jget, jput, jfit, jdup, jdupx, jdupx2, jdup2, jcat, jset1, jset2, jkill, List.getElem?_cons_zero, List.getElem?_cons_succ, List.set_cons_zero, List.set_cons_succ, List.length_cons, List.length_nil, Nat.reduceAdd, Nat.reduceLT, Int32.reduceToNatClampNeg, true_and, and_true, and_self, reduceCtorEq, not_false_eq_true, false_and, and_false, or_false, false_or, true_or, or_true, h0, hf, h1, ht, hm, h25, h26, h27]
    exact C63 _ _ _ _ (by assumption) (by assumption)
  have C37 : ∀ (v3 : Int32) (o4 : Option jv), (v3 = 8 ∨ v3 = -8) → jJ E jcl 5 M (jQ E jcl M (fun r σ' n' => poG (geoP a b = true) σ n r σ' n') 0 0) n 0 0 37 [some (.inr (.inr (some (.inl (t))))), some (.inl (nI a)), some (.inl (nI b)), some (.inl v3), o4] [] σ := by
    intro v3 o4 c0
    refine jrun_ok jC X k_MT_pawnGoes_37 37 _ _ _ o_MT_pawnGoes_37 ?_
    simp only [k_MT_pawnGoes_37, jrun, jstep, jldi, jldl, jlda, j1, j2, jl1, jl2, jli, ja1, jbr, jald, jast, jlald, jlast, jalen, jget, jput, jfit, jdup, jdupx, jdupx2, jdup2, jcat, jset1, jset2, jkill, List.getElem?_cons_zero, List.getElem?_cons_succ, List.set_cons_zero, List.set_cons_succ, List.length_cons, List.length_nil, Nat.reduceAdd, Nat.reduceLT, Int32.reduceToNatClampNeg, true_and, and_true, and_self, reduceCtorEq, not_false_eq_true, false_and, and_false, or_false, false_or, true_or, or_true, h0, hf, h1, ht, hm, h25, h26, h27]
    exact ⟨fun h43 => C92 _ _ (by first | assumption | omega | (simp_all; done) | decide), fun h43 => ⟨by decide, ⟨fun h54 => C61 _ _ _ (by assumption) (by assumption), fun h54 => C63 _ _ _ _ (by assumption) (by assumption)⟩⟩⟩
  have C36 : ∀ (v3 : Int32) (o4 : Option jv) (s0 : Int32), (v3 = 8 ∨ v3 = -8) → (s0 = 0 ∨ s0 = 1) → (s0 = 1 → geoP a b = true) → jJ E jcl 5 M (jQ E jcl M (fun r σ' n' => poG (geoP a b = true) σ n r σ' n') 0 0) n 0 0 36 [some (.inr (.inr (some (.inl (t))))), some (.inl (nI a)), some (.inl (nI b)), some (.inl v3), o4] [.inl s0] σ := by
    intro v3 o4 s0 c0 c1 c2
    exact jk_iret X d_MT_pawnGoes_36 hr (bo_n (by assumption)) (Nat.le_refl _) (Nat.le_refl _) ⟨_, (by assumption), (by assumption), rfl, rfl, rfl⟩
  have C35 : ∀ (v3 : Int32) (o4 : Option jv), (v3 = 8 ∨ v3 = -8) → jJ E jcl 5 M (jQ E jcl M (fun r σ' n' => poG (geoP a b = true) σ n r σ' n') 0 0) n 0 0 35 [some (.inr (.inr (some (.inl (t))))), some (.inl (nI a)), some (.inl (nI b)), some (.inl v3), o4] [] σ := by
    intro v3 o4 c0
    refine jrun_ok jC X k_MT_pawnGoes_35 35 _ _ _ o_MT_pawnGoes_35 ?_
    simp only [k_MT_pawnGoes_35, jrun, jstep, jldi, jldl, jlda, j1, j2, jl1, jl2, jli, ja1, jbr, jald, jast, jlald, jlast, jalen, jget, jput, jfit, jdup, jdupx, jdupx2, jdup2, jcat, jset1, jset2, jkill, List.getElem?_cons_zero, List.getElem?_cons_succ, List.set_cons_zero, List.set_cons_succ, List.length_cons, List.length_nil, Nat.reduceAdd, Nat.reduceLT, Int32.reduceToNatClampNeg, true_and, and_true, and_self, reduceCtorEq, not_false_eq_true, false_and, and_false, or_false, false_or, true_or, or_true, h0, hf, h1, ht, hm, h25, h26, h27]
    exact C36 _ _ _ (by assumption) (by first | assumption | exact Or.inl rfl | exact Or.inr rfl) (by intro h; exact absurd h (by decide))
  have C14 : ∀ (o3 : Option jv) (o4 : Option jv) (s0 : Int32), (s0 = 8 ∨ s0 = -8) → jJ E jcl 5 M (jQ E jcl M (fun r σ' n' => poG (geoP a b = true) σ n r σ' n') 0 0) n 0 0 14 [some (.inr (.inr (some (.inl (t))))), some (.inl (nI a)), some (.inl (nI b)), o3, o4] [.inl s0] σ := by
    intro o3 o4 s0 c0
    refine jrun_ok jC X k_MT_pawnGoes_14 14 _ _ _ o_MT_pawnGoes_14 ?_
    simp only [k_MT_pawnGoes_14, jrun, jstep, jldi, jldl, jlda, j1, j2, jl1, jl2, jli, ja1, jbr, jald, jast, jlald, jlast, jalen, jget, jput, jfit, jdup, jdupx, jdupx2, jdup2, jcat, jset1, jset2, jkill, List.getElem?_cons_zero, List.getElem?_cons_succ, List.set_cons_zero, List.set_cons_succ, List.length_cons, List.length_nil, Nat.reduceAdd, Nat.reduceLT, Int32.reduceToNatClampNeg, true_and, and_true, and_self, reduceCtorEq, not_false_eq_true, false_and, and_false, or_false, false_or, true_or, or_true, h0, hf, h1, ht, hm, h25, h26, h27]
    exact ⟨fun h19 => C37 _ _ (by first | assumption | omega | (simp_all; done) | decide), fun h19 => ⟨(vp_in_nI hb (by omega)), ⟨fun h28 => C35 _ _ (by first | assumption | omega | (simp_all; done) | decide), fun h28 => C36 _ _ _ (by first | assumption | exact Or.inl rfl | exact Or.inr rfl) (Or.inr rfl) (fun _ => pg_1 _ (up_in (by assumption)) a ha b hb (by assumption))⟩⟩⟩
  have C12 : ∀ (o3 : Option jv) (o4 : Option jv), jJ E jcl 5 M (jQ E jcl M (fun r σ' n' => poG (geoP a b = true) σ n r σ' n') 0 0) n 0 0 12 [some (.inr (.inr (some (.inl (t))))), some (.inl (nI a)), some (.inl (nI b)), o3, o4] [] σ := by
    intro o3 o4
    refine jrun_ok jC X k_MT_pawnGoes_12 12 _ _ _ o_MT_pawnGoes_12 ?_
    simp only [k_MT_pawnGoes_12, jrun, jstep, jldi, jldl, jlda, j1, j2, jl1, jl2, jli, ja1, jbr, jald, jast, jlald, jlast, jalen, jget, jput, jfit, jdup, jdupx, jdupx2, jdup2, jcat, jset1, jset2, jkill, List.getElem?_cons_zero, List.getElem?_cons_succ, List.set_cons_zero, List.set_cons_succ, List.length_cons, List.length_nil, Nat.reduceAdd, Nat.reduceLT, Int32.reduceToNatClampNeg, true_and, and_true, and_self, reduceCtorEq, not_false_eq_true, false_and, and_false, or_false, false_or, true_or, or_true, h0, hf, h1, ht, hm, h25, h26, h27]
    exact C14 _ _ _ (by first | assumption | exact Or.inl rfl | exact Or.inr rfl)
  refine jrun_ok jC X k_MT_pawnGoes_0 0 _ _ _ o_MT_pawnGoes_0 ?_
  simp only [k_MT_pawnGoes_0, jrun, jstep, jldi, jldl, jlda, j1, j2, jl1, jl2, jli, ja1, jbr, jald, jast, jlald, jlast, jalen, jget, jput, jfit, jdup, jdupx, jdupx2, jdup2, jcat, jset1, jset2, jkill, List.getElem?_cons_zero, List.getElem?_cons_succ, List.set_cons_zero, List.set_cons_succ, List.length_cons, List.length_nil, Nat.reduceAdd, Nat.reduceLT, Int32.reduceToNatClampNeg, true_and, and_true, and_self, reduceCtorEq, not_false_eq_true, false_and, and_false, or_false, false_or, true_or, or_true, h0, hf, h1, ht, hm, h25, h26, h27]
  exact ⟨fun h4 => C12 _ _, fun h4 => C14 _ _ _ (by first | assumption | exact Or.inl rfl | exact Or.inr rfl)⟩

