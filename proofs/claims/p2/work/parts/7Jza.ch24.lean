/-! a static method with an exception table, that may make cells -/
section BWD
variable {l : Launch} {R : Room} {p : Program} {e : Env} {below : List Frame} {s : State} {sargs : Array Value} {y : MethodName} {len W : Nat}
theorem va_backWD {ws : List Cond} {rm : Room} {Pc : Array Value → State → Prop} {Qc : Array Value → State → Outcome → State → Prop} {mc ms : Nat} {free : Addr → Prop} {bytes : ByteArray} {maxL : Nat} {ret : Option FieldType} {hh : List (Nat × Nat × Nat × Nat)}
    (hM : Met l y ws rm Pc Qc mc ms free) (hblind : FrameBlind Pc) (hrc : rm.cells = mc) (hrs : rm.slots = ms)
    (hframes : rm.frames + 1 ≤ R.frames) (hlocals : W + (maxL + 11) + rm.locals ≤ R.locals)
    (hws : ∀ w ∈ ws, ∀ a' U, s.WarmedH U.vm → w.before a' U = true) (hcode : Cond.codeWith y bytes maxL ret hh ∈ ws) (hinit : ∀ a' U, s.WarmedH U.vm → (Cond.initialized y.cls).before a' U = true) :
    Back l R p e below s sargs y len W (PreOf R mc ms Pc) (PostOfD Qc mc ms free) := by
  refine va_ofFreeW (hh := hh) (S := headSpec ws rm) (P := Pc) (K := fun _ _ _ _ _ => True) (Q := fun a st o t => Qc a st o t ∧ ∃ L, FrameEnd st o t L mc ms ∧ ∀ q ∈ L, free q.base) (bytes := bytes) (maxL := maxL) (ret := ret)
    (E := fun a st o t L k n => k ≤ mc ∧ n ≤ ms ∧ (t.heap.size = st.heap.size → k = 0 ∧ n = 0) ∧ ∀ q ∈ L, free q.base) hM hframes hlocals ?_ ?_ (fun _ _ _ _ _ _ _ _ _ => trivial) ?_ ?_
  · intro m meth c A a X hp
    exact ⟨atoms_intro fun w hw => hws w hw _ _ X.warmed, hws _ hcode _ _ X.warmed, hinit _ _ X.warmed, by rw [show (headSpec ws rm).room.cells = mc from hrc]; exact hp.1, by rw [show (headSpec ws rm).room.slots = ms from hrs]; exact hp.2.1⟩
  · intro m meth c A a g mk X hp
    exact hblind _ _ _ _ hp.2.2
  · intro a st o t ⟨hq, L, hF, hL⟩
    by_cases hs : t.heap.size = st.heap.size
    · exact ⟨L, 0, 0, gr_end0 hF hs, Nat.zero_le _, Nat.zero_le _, fun _ => ⟨rfl, rfl⟩, hL⟩
    · exact ⟨L, mc, ms, hF, Nat.le_refl _, Nat.le_refl _, fun h => absurd h hs, hL⟩
  · intro m meth c A a g mk v t L k n X hp hq hF ⟨e1, e2, e3, hL⟩
    exact ⟨g, mk, t, L, k, n, rfl, rfl, hq.1, rfl, hL, rfl, rfl, e1, e2, e3⟩
end BWD
section JSD
variable {E : jE} {own : String} {Ts : List Jvm.Cond} {cl : List vw_C} {tb : jTb} {nL : Nat} {ini : Bool} {cc : ByteArray} {M : jM} {Q : State → Prop} {n cells slots : Nat}
theorem jk_SWD (X : jX E own Ts cl tb nL ini cc M) {rm rc : Room} (hR : M.2.2.2.1 = rm) (hTh : jTh E M.2.2.2.2.1) {pc i k : Nat} {Y : jY} {hh : List (Nat × Nat × Nat × Nat)} (hd : decode cc pc = .ok (.invokestatic i, 3)) (hw : Jvm.Cond.methodLink own i Y.1 ∈ jTA Ts) (hco : Jvm.Cond.codeWith Y.1 Y.2.1 Y.2.2.1 Y.2.2.2 hh ∈ jTA Ts) (hini : Jvm.Cond.initialized Y.1.cls ∈ jTA Ts) (hne : Y.1.cls ≠ "java/lang/invoke/MethodHandle" ∧ Y.1.cls ≠ "java/lang/invoke/VarHandle") (hpa : (parseMethodDescriptor Y.1.desc).map (fun d => d.parameters.length) = some k) (hst : Jvm.Cond.static Y.1 ∈ jTA Ts) {lv : List (Option jv)} {r vals : List jv} {σ : Nat → jcell} {post : jPo} (hM : jMetW M.2.1 E cl tb Ts Y hh rc vals σ n post) {st : List jv} (hs : st = vals.reverse ++ r) (hk : vals.length = k)
    (hf : rc.frames + 1 ≤ rm.frames ∧ 8 + (Y.2.2.1 + 11) + rc.locals ≤ rm.locals) (hc : cells + rc.cells ≤ rm.cells ∧ slots + rc.slots ≤ rm.slots) (hz : (r.map jcat).sum ≤ 8)
    (kk : ∀ (v : Option jv) (σ' : Nat → jcell) (n' : Nat), post v σ' n' → (n' = n → jJ E cl nL M Q n' cells slots (pc + 3) lv (v.toList ++ r) σ') ∧ (¬ n' = n → jJ E cl nL M Q n' (cells + rc.cells) (slots + rc.slots) (pc + 3) lv (v.toList ++ r) σ')) : jJ E cl nL M Q n cells slots pc lv st σ := by
  subst hs
  obtain ⟨p, l, e, R, s, m, args, below, meth, c⟩ := M
  dsimp only at hR hTh hM
  subst hR
  obtain ⟨hx, hb, hml, ho, hts, hK, -, -⟩ := X
  dsimp only at hx hb hml ho hts hK
  intro H locs ls hW hS hL
  dsimp only at hS ⊢
  have hgood : GoodIn (jTA Ts) (jwsW Ts Y hh) := by
    intro w hw9
    rcases List.mem_cons.mp hw9 with rfl | hw9
    · exact ⟨hco, jgood_or (List.mem_filter.mp hco).2⟩
    · exact ⟨hw9, jgood_or (List.mem_filter.mp hw9).2⟩
  have hstk : ((vals.reverse ++ r).map (jc E)) = (vals.map (jc E)).reverse ++ r.map (jc E) := by rw [List.map_append, List.map_reverse]
  have hgo : ∀ (v : Option jv) (σ' : Nat → jcell) (n' : Nat), post v σ' n' → ∀ (k j : Nat), k ≤ rc.cells → j ≤ rc.slots → (n' = n → k = 0 ∧ j = 0) → ∀ (H1 : Heap) (locs1 : List Loc), jW E cl σ' n' H1 → va_S (jA E) s.heap H1 locs1 → W p l e R s m args below meth c H1 locs1 (cells + k) (slots + j) Q (F0 m (pc + 3) ls ((v.map (jc E)).toList ++ r.map (jc E))) := by
    intro v σ' n' hp k9 j9 hk9 hj9 hz9 H1 locs1 hW1 hS1
    have e1 : (v.toList ++ r).map (jc E) = (v.map (jc E)).toList ++ r.map (jc E) := by cases v <;> simp
    obtain ⟨ka, kb⟩ := kk v σ' n' hp
    by_cases hn9 : n' = n
    · obtain ⟨rfl, rfl⟩ := hz9 hn9
      have h := ka hn9 H1 locs1 ls hW1 hS1 hL
      rw [e1] at h
      exact h
    · have h := kb hn9 H1 locs1 ls hW1 hS1 hL
      rw [e1] at h
      exact W.widen (Nat.add_le_add_left hk9 _) (Nat.add_le_add_left hj9 _) h
  have hBk : Back l R p e below s args Y.1 3 8 (PreOf R rc.cells rc.slots (jPt E cl tb Ts vals σ n)) (PostOfD (jQc E cl post) rc.cells rc.slots (jA E)) := va_backWD (hh := hh) (bytes := Y.2.1) (maxL := Y.2.2.1) (ret := Y.2.2.2) hM jPt_blind rfl rfl hf.1 hf.2 (pay_in hts hgood) List.mem_cons_self (fun a' U hW9 => word_at hW9 (Or.inl (by first | rfl | simp [Jvm.Cond.onTables, Jvm.Cond.keeps, Jvm.Cond.steady])) (hts _ hini))
  obtain ⟨mk, methM, cM, hnamed, hmethM, -, -, -, -, -, -, hsigM⟩ := Cond.codeWith_spec (hts _ hco)
  have hstatic : methM.isStatic = true := Cond.static_spec hnamed hmethM (hts _ hst)
  obtain ⟨kP, hkP, -⟩ := className_of_methodNamed hnamed
  have hinitP : kP.init = .initialized := Cond.initialized_spec (findClass_of_methodNamed hnamed) hkP (hts _ hini)
  have hln : (vals.map (jc E)).length = methM.sig.parameters.length := by
    rw [hsigM] at hpa
    rw [List.length_map, hk]
    exact (Option.some.inj hpa).symm
  have hrun : va_RunD p l e R s m args below meth c H locs cells slots rc.cells rc.slots (F0 m pc ls ((vals.reverse ++ r).map (jc E))) (r.map (jc E)) (jQc E cl post (vals.map (jc E)).toArray) (jA E) := by
    intro T hT Xs
    obtain ⟨vm₁, X₁, hstep₁⟩ := Xs.invokestatic hx ho (hts _ hw) hnamed hmethM hstatic hkP hinitP hne (g := F0 m pc ls ((vals.reverse ++ r).map (jc E))) rfl (argsL := vals.map (jc E)) (rest := r.map (jc E)) hln hstk (by rw [hb]; exact hd)
    obtain ⟨v, ⟨U', l2, c2, s2⟩, X', ⟨g', mk', t, L, k9, j9, e1, e2, hq, h1, hL9, h2, h3, h4, h5, h6⟩, hsteps⟩ := hBk m meth c ⟨T.setVm vm₁, locs, cells, slots⟩ { F0 m pc ls ((vals.reverse ++ r).map (jc E)) with stack := r.map (jc E) } (.invokestatic i) mk (vals.map (jc E)).toArray X₁ rfl (hL.1.trans hml.symm) (by rw [hb]; exact hd)
      (lv_room (by rw [jcat_sum]; exact hz)) (X₁.named hnamed) ⟨hc.1, hc.2, ⟨rfl, by show jW E cl σ n T.heap; rw [hT]; exact hW, jK_go hK hS (U := T.setVm vm₁) hT X₁.warmed⟩, jTh_go hTh hS (U := T.setVm vm₁) hT X₁.warmed⟩
    dsimp only [Pt.U, Pt.locs, Pt.cells, Pt.slots] at X' e1 e2 h1 h2 h3 h6 hsteps
    subst h1; subst h2; subst h3
    have h0 : ((T.setVm vm₁).calling g' mk' (vals.map (jc E)).toArray).heap = H := hT
    rw [h0] at h6
    exact ⟨v, (T.setVm vm₁).calling g' mk' (vals.map (jc E)).toArray, t, U', L, k9, j9, h0, X', hL9, e1, e2, hq, h4, h5, h6, fun target h => hstep₁ _ fun acts => by rw [doInvoke_state]; exact hsteps.trans h⟩
  exact jk_afterD hrun hS hW hgo
end JSD
set_option maxRecDepth 100000 in
theorem cx_thrown (l : Launch) (E : jE) {σ : Nat → jcell} {n mm : Nat} {fs : List jv} {x : Int32} (ha : mm < n) (hs : σ mm = .inr (11, fs)) (h0 : fs[0]? = some (.inl x)) : jMet l E jcl jtb lw_tbl y_MM_thrown { frames := 0, cells := 0, slots := 0, locals := 0 } [.inr (.inr (some (.inl mm)))] σ n (fun r σ' n' => r = some (.inl x) ∧ n' = n ∧ σ' = σ) := by
  refine jMet_of (hY := rfl) false (fun h => by cases h) (by decide) (Nat.le_of_ble_eq_true rfl) [some (.inr (.inr (some (.inl mm))))] rfl ?_
  intro M hl hR X hr
  have hak : (mm < n) = True := eq_true ha
  refine jrun_ok jC X k_MM_thrown_0 0 _ _ _ o_MM_thrown_0 ?_
  simp only [k_MM_thrown_0, jrun, jstep, jldi, jldl, jlda, j1, j2, jl1, jl2, jli, ja1, jbr, jald, jast, jlald, jlast, jalen, jget, jput, jfit, jdup, jdupx, jdupx2, jdup2, jcat, jset1, jset2, jkill, List.getElem?_cons_zero, List.getElem?_cons_succ, List.set_cons_zero, List.set_cons_succ, List.length_cons, List.length_nil, Nat.reduceAdd, Nat.reduceLT, Int32.reduceToNatClampNeg, true_and, and_true, and_self, reduceCtorEq, not_false_eq_true, false_and, and_false, or_false, false_or, true_or, or_true, hs, hak, h0]
  exact jk_iret X d_MM_thrown_4 hr rfl (Nat.le_refl _) (Nat.le_refl _) ⟨rfl, rfl, rfl⟩
