/-! Enum.ordinal; the switch of perform -/
def y_EU_ordinal : jY := (⟨"java/lang/Enum", "ordinal", "()I"⟩, prog_20_method_2_code, 1, some .int)
def lk_EU : jLk := ([], [], [])
theorem lo_EU : jLkOk "java/lang/Enum" lw_tbl jcl jtb lk_EU := ⟨fun q h => (by cases h), fun q h => (by cases h), fun q h => (by cases h)⟩
def ke_0 : List jI := [(.aload_n 0, 1, (0, 0, 0, 0, 0))]
theorem oe_0 : jokL "java/lang/Enum" lw_tbl jcl jtb 1 false prog_20_method_2_code 0 ke_0 = true := jokLF_ok (fun _ _ => jtF_ok) lo_EU (by decide +kernel)
theorem de_1 : decode prog_20_method_2_code 1 = .ok (.getfield 7, 3) := by decide +kernel
theorem de_4 : decode prog_20_method_2_code 4 = .ok (.ireturn, 1) := by decide +kernel
theorem c_EU_ordinal {l : Launch} {E : jE} {σ : Nat → jcell} {n : Nat} {o : Nat × String × List (String × String × String × jSv)} (ho : o ∈ js0.1) {v : Int32} (hf : ("java/lang/Enum", "ordinal", "I", Sum.inl v) ∈ o.2.2) : jMet l E jcl jtb lw_tbl y_EU_ordinal { frames := 0, cells := 0, slots := 0, locals := 0 } [.inr (.inr (some (.inr o.1)))] σ n (fun r σ' n' => r = some (.inl v) ∧ σ' = σ ∧ n' = n) := by
  refine jMet_of (hY := rfl) false (fun h => by cases h) (by decide) (Nat.le_of_ble_eq_true rfl) [some (.inr (.inr (some (.inr o.1))))] rfl ?_
  intro M hl hR X hr
  refine jrun_ok jC X ke_0 0 _ _ _ oe_0 ?_
  simp only [ke_0, jrun, jstep, jldi, jldl, jlda, j1, j2, jl1, jl2, jli, ja1, jbr, jald, jast, jlald, jlast, jalen, jget, jput, jfit, jdup, jdupx, jdupx2, jdup2, jcat, jset1, jset2, jkill, List.getElem?_cons_zero, List.getElem?_cons_succ, List.set_cons_zero, List.set_cons_succ, List.length_cons, List.length_nil, Nat.reduceAdd, Nat.reduceLT, Int32.reduceToNatClampNeg, true_and, and_true, and_self, reduceCtorEq, not_false_eq_true, false_and, and_false, or_false, false_or, true_or, or_true]
  refine jk_gfo X de_1 ho hf (jTA_in (wi := 3304) (jtF_ok rfl) rfl) ?_
  exact jk_iret X de_4 hr rfl (Nat.le_refl _) (Nat.le_refl _) ⟨rfl, rfl, rfl⟩
theorem gi_ordinal : GoodIn (jTA lw_tbl) (va_wsU "ChessHouse" 137 "ChessHouse$Command" "java/lang/Enum" ⟨"ChessHouse$Command", "ordinal", "()I"⟩ y_EU_ordinal.1 (jws lw_tbl y_EU_ordinal)) := by
  intro w hw
  unfold va_wsU at hw
  rcases List.mem_append.mp hw with h | h
  · rcases List.mem_cons.mp h with rfl | h
    · exact ⟨jTA_in (wi := 1043) (jtF_ok rfl) rfl, Or.inl rfl⟩
    rcases List.mem_cons.mp h with rfl | h
    · exact ⟨jTA_in (wi := 1044) (jtF_ok rfl) rfl, Or.inl rfl⟩
    rcases List.mem_cons.mp h with rfl | h
    · exact ⟨jTA_in (wi := 1046) (jtF_ok rfl) rfl, Or.inl rfl⟩
    rcases List.mem_cons.mp h with rfl | h
    · exact ⟨jTA_in (wi := 1047) (jtF_ok rfl) rfl, Or.inl rfl⟩
    rcases List.mem_cons.mp h with rfl | h
    · exact ⟨jTA_in (wi := 322) (jtF_ok rfl) rfl, Or.inl rfl⟩
    cases h
  · exact jws_in (jTA_in (wi := 1048) (jtF_ok rfl) rfl) w h
theorem sw_ob : (List.range 28).all (fun k => js0.1.any (fun o => decide (o.1 = 3000 + k) && decide (o.2.1 = "ChessHouse$Command") && o.2.2.any (fun f => decide (f.1 = "java/lang/Enum") && decide (f.2.1 = "ordinal") && decide (f.2.2.1 = "I") && (match f.2.2.2 with
  | .inl v => decide (0 ≤ v.toInt) && decide (v.toInt ≤ 27)
  | .inr _ => false)))) = true := by decide +kernel
theorem sw_tv : (List.range 28).all (fun i => decide (0 ≤ (tv_2.getD i 0).toInt) && decide ((tv_2.getD i 0).toInt ≤ 27)) = true := by decide +kernel
theorem sw_one {i : Nat} (h1 : 3000 ≤ i) (h2 : i ≤ 3027) : ∃ o ∈ js0.1, o.1 = i ∧ o.2.1 = "ChessHouse$Command" ∧ ∃ v : Int32, ("java/lang/Enum", "ordinal", "I", Sum.inl v) ∈ o.2.2 ∧ 0 ≤ v.toInt ∧ v.toInt ≤ 27 := by
  have h := List.all_eq_true.mp sw_ob (i - 3000) (List.mem_range.mpr (by omega))
  obtain ⟨o, ho, h3⟩ := List.any_eq_true.mp h
  rw [Bool.and_eq_true, Bool.and_eq_true, decide_eq_true_eq, decide_eq_true_eq] at h3
  obtain ⟨⟨e1, e2⟩, h4⟩ := h3
  obtain ⟨⟨f1, f2, f3, f4⟩, hf, h5⟩ := List.any_eq_true.mp h4
  rw [Bool.and_eq_true, Bool.and_eq_true, Bool.and_eq_true, decide_eq_true_eq, decide_eq_true_eq, decide_eq_true_eq] at h5
  obtain ⟨⟨⟨g1, g2⟩, g3⟩, g4⟩ := h5
  dsimp only at g1 g2 g3 g4
  subst g1 g2 g3
  refine ⟨o, ho, by omega, e2, ?_⟩
  cases f4 with
  | inl v =>
    rw [Bool.and_eq_true, decide_eq_true_eq, decide_eq_true_eq] at g4
    exact ⟨v, hf, g4.1, g4.2⟩
  | inr j => cases g4
def kw_0 : List jI := [(.getstatic 132, 3, (2, 0, 1041, 0, 0)), (.aload_n 1, 1, (1, 0, 0, 0, 0))]
theorem ow_0 : jokL "ChessHouse" lw_tbl jcl jtb 5 false prog_1_method_8_code 0 kw_0 = true := jokLF_ok (fun _ _ => jtF_ok) lo_CH (by decide +kernel)
theorem dw_4 : decode prog_1_method_8_code 4 = .ok (.invokevirtual 137, 3) := by decide +kernel
theorem dw_7 : decode prog_1_method_8_code 7 = .ok (.iaload, 1) := by decide +kernel
theorem sw_perform {E : jE} {M : jM} {Q : State → Prop} {n ca sl : Nat} {rm : Room} (X : jX E "ChessHouse" lw_tbl jcl jtb 5 false prog_1_method_8_code M) (hR : M.2.2.2.1 = rm) (hf1 : 1 ≤ rm.frames) (hf2 : 20 ≤ rm.locals) (hc : ca ≤ rm.cells ∧ sl ≤ rm.slots) {lv : List (Option jv)} {σ : Nat → jcell} {i : Nat} (h1 : 3000 ≤ i) (h2 : i ≤ 3027) (hl : lv[1]? = some (some (.inr (.inr (some (.inr i)))))) (kk : ∀ x : Int32, 0 ≤ x.toInt → x.toInt ≤ 27 → jJ E jcl 5 M Q n ca sl 8 lv [.inl x] σ) : jJ E jcl 5 M Q n ca sl 0 lv [] σ := by
  obtain ⟨o, ho, rfl, hoc, v, hv, v1, v2⟩ := sw_one h1 h2
  refine jrun_ok jC X kw_0 0 _ _ _ ow_0 ?_
  simp only [kw_0, jrun, jstep, jldi, jldl, jlda, j1, j2, jl1, jl2, jli, ja1, jbr, jald, jast, jlald, jlast, jalen, jget, jput, jfit, jdup, jdupx, jdupx2, jdup2, jcat, jset1, jset2, jkill, List.getElem?_cons_zero, List.getElem?_cons_succ, List.set_cons_zero, List.set_cons_succ, List.length_cons, List.length_nil, Nat.reduceAdd, Nat.reduceLT, Int32.reduceToNatClampNeg, true_and, and_true, and_self, reduceCtorEq, not_false_eq_true, false_and, and_false, or_false, false_or, true_or, or_true, hl]
  refine jk_callU X hR dw_4 gi_ordinal rfl ⟨by decide, by decide, by decide⟩ ho hoc (vals := []) (r := [.inr (.inr (some (.inr 2)))]) (c_EU_ordinal ho hv) rfl rfl ⟨hf1, hf2⟩ hc (by decide) ?_
  rintro _ _ _ ⟨rfl, rfl, rfl⟩
  have hin : v.toNatClampNeg < 28 := by
    show v.toInt.toNat < 28
    omega
  have ht := List.all_eq_true.mp sw_tv v.toNatClampNeg (List.mem_range.mpr hin)
  rw [Bool.and_eq_true, decide_eq_true_eq, decide_eq_true_eq] at ht
  refine jk_ialdT X dw_7 (j := 2) rfl (fun h => ?_) (kk _ ht.1 ht.2)
  rcases h with h | h
  · have h9 := Int32.lt_iff_toInt_lt.mp h
    rw [show (0 : Int32).toInt = 0 from rfl] at h9
    omega
  · exact absurd hin (Nat.not_lt.mpr h)
