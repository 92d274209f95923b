/-! contracts over pictures -/
abbrev jPo : Type := Option jv → (Nat → jcell) → Nat → Prop
abbrev jY : Type := MethodName × ByteArray × Nat × Option FieldType
def jPc (E : jE) (cl : List vw_C) (tb : jTb) (Ts : List Jvm.Cond) (vals : List jv) (σ : Nat → jcell) (n : Nat) : Array Value → State → Prop := fun v U => v = (vals.map (jc E)).toArray ∧ jW E cl σ n U.heap ∧ jK E cl tb Ts U
def jQc (E : jE) (cl : List vw_C) (post : jPo) : Array Value → State → Outcome → State → Prop := fun _ s o t => (∃ (r : Option jv) (σ' : Nat → jcell) (n' : Nat), o = .returned (r.map (jc E)) ∧ post r σ' n' ∧ jW E cl σ' n' t.heap) ∧ va_F (jA E) s t
def jws (Ts : List Jvm.Cond) (Y : jY) : List Jvm.Cond := Jvm.Cond.code Y.1 Y.2.1 Y.2.2.1 Y.2.2.2 :: jTA Ts
def jMet (l : Launch) (E : jE) (cl : List vw_C) (tb : jTb) (Ts : List Jvm.Cond) (Y : jY) (rm : Room) (vals : List jv) (σ : Nat → jcell) (n : Nat) (post : jPo) : Prop := Met l Y.1 (jws Ts Y) rm (jPc E cl tb Ts vals σ n) (jQc E cl post) rm.cells rm.slots (jA E)
def jQ (E : jE) (cl : List vw_C) (M : jM) (post : jPo) (mc ms : Nat) : State → Prop := MQ M.2.2.2.2.2.2.2.1 (jQc E cl post) M.2.2.2.2.2.2.1 M.2.2.2.2.1 mc ms (jA E)
def jar : List jv → List (Option jv)
  | [] => []
  | v :: r => if jcat v = 2 then some v :: none :: jar r else some v :: jar r
def jent (vals : List jv) (nL : Nat) : List (Option jv) := jar vals ++ List.replicate (nL - (jar vals).length) none
theorem jar_in {E : jE} : ∀ (vals : List jv) (i j : Nat) (v : jv), (jar vals)[j]? = some (some v) → (i + j, jc E v) ∈ lv_args i (vals.map (jc E))
  | [], _, _, _, h => by simp [jar] at h
  | w :: r, i, j, v, h => by
    unfold jar at h
    rw [List.map_cons]
    unfold lv_args
    rw [jc_cat]
    by_cases hc : jcat w = 2
    · rw [if_pos hc] at h
      rw [if_pos hc]
      match j, h with
      | 0, h => have hw : w = v := by simpa using h
                subst hw; exact List.mem_cons_self
      | 1, h => simp at h
      | j + 2, h =>
        have h1 := jar_in (E := E) r (i + 2) j v (by simpa using h)
        rw [show i + 2 + j = i + (j + 2) by omega] at h1
        exact List.mem_cons_of_mem _ h1
    · rw [if_neg hc] at h
      rw [if_neg hc]
      match j, h with
      | 0, h => have hw : w = v := by simpa using h
                subst hw; exact List.mem_cons_self
      | j + 1, h =>
        have h1 := jar_in (E := E) r (i + 1) j v (by simpa using h)
        rw [show i + 1 + j = i + (j + 1) by omega] at h1
        exact List.mem_cons_of_mem _ h1
theorem jent_at {vals : List jv} {nL i : Nat} {v : jv} (h : (jent vals nL)[i]? = some (some v)) : (jar vals)[i]? = some (some v) := by
  unfold jent at h
  by_cases hi : i < (jar vals).length
  · rwa [List.getElem?_append_left hi] at h
  · rw [List.getElem?_append_right (by omega)] at h
    rw [List.getElem?_replicate] at h
    split at h <;> simp at h
section JMT
variable {l : Launch} {E : jE} {cl : List vw_C} {tb : jTb} {Ts : List Jvm.Cond}
theorem jMet_of {Y : jY} {own nm ds : String} {cc : ByteArray} {nL : Nat} {ret : Option FieldType} {rm : Room} {vals : List jv} {σ : Nat → jcell} {n : Nat} {post : jPo} (hY : Y = (⟨own, nm, ds⟩, cc, nL, ret)) (ini : Bool) (hini : ini = true → nm = "<init>") (hy : plainName own = true) (hlen : (lg_sl (vals.map (jc E))).length ≤ nL) (lv0 : List (Option jv)) (hlv : jent vals nL = lv0)
    (body : ∀ M : jM, M.2.1 = l → M.2.2.2.1 = rm → jX E own Ts cl tb nL ini cc M → M.2.2.2.2.2.2.2.2.1.sig.returnType = ret → jJ E cl nL M (jQ E cl M post rm.cells rm.slots) n 0 0 0 lv0 [] σ) : jMet l E cl tb Ts Y rm vals σ n post := by
  subst hlv
  subst hY
  refine Met.ofW (cc := cc) (maxL := nL) (ret := ret) hy rfl ?_
  intro p e s m args below meth c s₁ B hml hv
  obtain ⟨rfl, hW, hK⟩ := hv
  have h := body (p, l, e, rm, s, m, (vals.map (jc E)).toArray, below, meth, c) rfl rfl
    ⟨B.exec, B.bytes, hml, findClass_of_methodNamed B.named, fun w hw => atoms_spec (ws := jws Ts (⟨own, nm, ds⟩, cc, nL, ret)) B.pre w (List.mem_cons_of_mem _ hw), hK, B.notSynchronized, fun hi => by
      have hn := (name_of_methodNamed B.named B.method).1
      rw [hn]
      exact hini hi⟩ B.returns
  have hl := lv_entry (vals.map (jc E)) (n := nL) hlen
  rw [lg_entry_eq]
  exact h s.heap [] _ hW va_S.rf ⟨hl.1, hl.2.1, fun i v hi => by
    have h1 := jar_in (E := E) vals 0 i v (jent_at hi)
    rw [Nat.zero_add] at h1
    exact hl.2.2 _ h1⟩
theorem jSt_go {U V : State} {H : Heap} (h : jSt E tb U) (hvm : U.vm.Alike V.vm) (hH : V.heap = H) (hq : ∀ a : Nat, a < U.heap.size → ¬ jA E a → H[a]? = U.heap[a]?) (hR : ∀ (own : String) (k : Nat) (tx : String) (a : Nat), vk_R own k tx a U → vk_R own k tx a V) : jSt E tb V := by
  subst hH
  refine ⟨fun j x hx => ?_, jSo_go h.2 hvm hq hR⟩
  obtain ⟨h1, h2⟩ := h.1 j x hx
  exact ⟨(h1.kept hq).moved hvm, (h2.kept hq).moved hvm⟩
theorem jNw_warm {w : Jvm.Cond} {s U : State} (hW : s.WarmedH U.vm) (hn : jnest w = true) (h : va_Nw w s) : va_Nw w U := by
  unfold jnest at hn
  split at hn
  · exact va_Nw.warmF hW h
  · exact va_Nw.warmM hW h
  · cases hn
theorem jnest_tb {w : Jvm.Cond} (hn : jnest w = true) : w.onTables = true := by
  unfold jnest at hn
  split at hn
  · rfl
  · rfl
  · cases hn
theorem jK_go {s U : State} {H : Heap} {locs : List Loc} (h : jK E cl tb Ts s) (hS : va_S (jA E) s.heap H locs) (hU : U.heap = H) (hW : s.WarmedH U.vm) : jK E cl tb Ts U := by
  obtain ⟨h1, h2, h3, h4⟩ := h
  refine ⟨h1.moved hW.alike, jSt_go h2 hW.alike hU (fun a ha hA => hS.2.1 a ha hA) (fun _ _ _ _ h9 => h9.warm hW), ?_, fun w hw => jNw_warm hW (List.mem_filter.mp hw).2 (h4 w hw)⟩
  rw [hU]
  exact Nat.le_trans h3 hS.1
theorem jPc_blind {vals : List jv} {σ : Nat → jcell} {n : Nat} : FrameBlind (jPc E cl tb Ts vals σ n) := by
  intro a U g mk ⟨q0, q1, q2, q3, q4, q5⟩
  refine ⟨q0, q1, va_K.moved (u := U) (U := U.calling g mk a) (Vm.Alike.refl U.vm) q2, jSt_go (U := U) (V := U.calling g mk a) (H := U.heap) q3 (Vm.Alike.refl U.vm) rfl (fun _ _ _ => rfl) (fun _ _ _ _ h9 => h9.same (u := U) (U := U.calling g mk a) rfl), q4, fun w hw => va_Nw.same (u := U) (U := U.calling g mk a) (jnest_tb (List.mem_filter.mp hw).2) rfl (q5 w hw)⟩
end JMT
section JAF
variable {p : Program} {l : Launch} {e : Env} {R : Room} {s : State} {m : MethodId} {args : Array Value} {below : List Frame} {meth : Method} {c : Code} {H : Heap} {locs : List Loc} {cells slots : Nat} {Q : State → Prop}
theorem jk_after {E : jE} {cl : List vw_C} {post : jPo} {pc mc ms : Nat} {ls : Array Slot} {rest st0 : List Value} {a : Array Value} (hr : va_Run p l e R s m args below meth c H locs cells slots mc ms (F0 m pc ls st0) rest (jQc E cl post a) (jA E)) (hS : va_S (jA E) s.heap H locs)
    (kk : ∀ (r : Option jv) (σ' : Nat → jcell) (n' : Nat), post r σ' n' → ∀ (H1 : Heap) (locs1 : List Loc), jW E cl σ' n' H1 → va_S (jA E) s.heap H1 locs1 → W p l e R s m args below meth c H1 locs1 (cells + mc) (slots + ms) Q (F0 m (pc + 3) ls ((r.map (jc E)).toList ++ rest))) : W p l e R s m args below meth c H locs cells slots Q (F0 m pc ls st0) := by
  intro T hT X
  obtain ⟨v, st₀, t, T', L, h0, X', hL, e1, e2, ⟨⟨r, σ', n', hv, hp, hb⟩, hz, hk⟩, st⟩ := hr T hT X
  have hv' : v = r.map (jc E) := Outcome.returned.inj hv
  subst hv'
  rw [h0] at hz hk
  obtain ⟨t2, a1, b1⟩ := kk r σ' n' hp T'.heap (locs ++ L) (by rw [e1]; exact hb)
    ⟨Nat.le_trans hS.1 (by rw [e1]; exact hz), fun q h1 h2 => by rw [e1, hk q (Nat.lt_of_lt_of_le h1 hS.1) h2]; exact hS.2.1 q h1 h2, fun q hq => by
      rcases List.mem_append.mp hq with h | h
      · exact hS.2.2 q h
      · exact hL q h⟩ T' rfl X'
  exact ⟨t2, st t2 a1, b1⟩
end JAF
/-- what the tables say of a method that is called -/
def jmth (Ts : List Jvm.Cond) (Y : jY) (k : Nat) : Prop := Jvm.Cond.code Y.1 Y.2.1 Y.2.2.1 Y.2.2.2 ∈ jTA Ts ∧ Jvm.Cond.initialized Y.1.cls ∈ jTA Ts ∧ Y.1.cls ≠ "java/lang/invoke/MethodHandle" ∧ Y.1.cls ≠ "java/lang/invoke/VarHandle" ∧ (parseMethodDescriptor Y.1.desc).map (fun d => d.parameters.length) = some k
def jlm (Ts : List Jvm.Cond) (wi : Nat) (own : String) (i : Nat) (y : MethodName) : Bool := match Ts[wi]? with
  | some (Jvm.Cond.methodLink a b c) => decide (a = own) && decide (b = i) && decide (c = y)
  | some (Jvm.Cond.methodLinkNest a b c _) => decide (a = own) && decide (b = i) && decide (c = y)
  | _ => false
theorem jlm_or {Ts : List Jvm.Cond} {wi : Nat} {own : String} {i : Nat} {y : MethodName} (h : jlm Ts wi own i y = true) : Jvm.Cond.methodLink own i y ∈ jTA Ts ∨ ∃ host, Jvm.Cond.methodLinkNest own i y host ∈ jNW Ts := by
  unfold jlm at h
  split at h
  next hw =>
    simp only [Bool.and_eq_true, decide_eq_true_eq] at h
    obtain ⟨⟨rfl, rfl⟩, rfl⟩ := h
    exact Or.inl (jTA_in hw rfl)
  next hw =>
    simp only [Bool.and_eq_true, decide_eq_true_eq] at h
    obtain ⟨⟨rfl, rfl⟩, rfl⟩ := h
    exact Or.inr ⟨_, List.mem_filter.mpr ⟨List.mem_of_getElem? hw, rfl⟩⟩
  next => cases h
theorem jgood_or {w : Jvm.Cond} (h : jgood w = true) : (w.onTables && w.keeps) = true ∨ ∃ ty, w = .arrayClass ty := by
  unfold jgood at h
  rw [Bool.or_eq_true] at h
  rcases h with h | h
  · exact Or.inl h
  · split at h
    next ty => exact Or.inr ⟨ty, rfl⟩
    next => cases h
theorem jws_in {Ts : List Jvm.Cond} {Y : jY} (h : Jvm.Cond.code Y.1 Y.2.1 Y.2.2.1 Y.2.2.2 ∈ jTA Ts) : GoodIn (jTA Ts) (jws Ts Y) := by
  intro w hw
  rcases List.mem_cons.mp hw with rfl | hw
  · exact ⟨h, jgood_or (List.mem_filter.mp h).2⟩
  · exact ⟨hw, jgood_or (List.mem_filter.mp hw).2⟩
section JCA
variable {E : jE} {own : String} {Ts : List Jvm.Cond} {cl : List vw_C} {tb : jTb} {nL : Nat} {ini : Bool} {cc : ByteArray} {M : jM} {Q : State → Prop} {n cells slots : Nat}
theorem jcat_sum (E : jE) (r : List jv) : ((r.map (jc E)).map fun v => v.category).sum = (r.map jcat).sum := by
  rw [List.map_map]
  congr 1
  exact List.map_congr_left fun v _ => jc_cat E v
/-- a static method is called -/
theorem jk_callS (X : jX E own Ts cl tb nL ini cc M) {rm rc : Room} (hR : M.2.2.2.1 = rm) {pc i wi k : Nat} {Y : jY} (hd : decode cc pc = .ok (.invokestatic i, 3)) (hw : jlm Ts wi own i Y.1 = true) (hm : jmth Ts Y k) (hst : Jvm.Cond.static Y.1 ∈ jTA Ts) {lv : List (Option jv)} {r vals : List jv} {σ : Nat → jcell} {post : jPo} (hM : jMet M.2.1 E cl tb Ts Y rc vals σ n post) {st : List jv} (hs : st = vals.reverse ++ r) (hk : vals.length = k)
    (hf : rc.frames + 1 ≤ rm.frames ∧ 8 + (Y.2.2.1 + 11) + rc.locals ≤ rm.locals) (hc : cells + rc.cells ≤ rm.cells ∧ slots + rc.slots ≤ rm.slots) (hz : (r.map jcat).sum ≤ 8)
    (kk : ∀ (v : Option jv) (σ' : Nat → jcell) (n' : Nat), post v σ' n' → jJ E cl nL M Q n' (cells + rc.cells) (slots + rc.slots) (pc + 3) lv (v.toList ++ r) σ') : jJ E cl nL M Q n cells slots pc lv st σ := by
  subst hs
  obtain ⟨p, l, e, R, s, m, args, below, meth, c⟩ := M
  dsimp only at hR
  subst hR
  have X0 := X
  obtain ⟨hx, hb, hml, ho, hts, hK, -, -⟩ := X
  obtain ⟨h1, h2, h3, h4, h5⟩ := hm
  intro H locs ls hW hS hL
  have hpre : PreS s H (jPc E cl tb Ts vals σ n) (vals.map (jc E)) := ⟨jPc_blind, fun U hU hWm => ⟨rfl, by rw [hU]; exact hW, jK_go hK hS hU hWm⟩⟩
  have hstk : ((vals.reverse ++ r).map (jc E)) = (vals.map (jc E)).reverse ++ r.map (jc E) := by rw [List.map_append, List.map_reverse]
  have hgo : ∀ (v : Option jv) (σ' : Nat → jcell) (n' : Nat), post v σ' n' → ∀ (H1 : Heap) (locs1 : List Loc), jW E cl σ' n' H1 → va_S (jA E) s.heap H1 locs1 → W p l e R s m args below meth c H1 locs1 (cells + rc.cells) (slots + rc.slots) Q (F0 m (pc + 3) ls ((v.map (jc E)).toList ++ r.map (jc E))) := by
    intro v σ' n' hp H1 locs1 hW1 hS1
    have h := kk v σ' n' hp H1 locs1 ls hW1 hS1 hL
    have e1 : (v.toList ++ r).map (jc E) = (v.map (jc E)).toList ++ r.map (jc E) := by cases v <;> simp
    rw [e1] at h
    exact h
  rcases jlm_or hw with h8 | ⟨host, h8⟩
  · refine jk_after (va_runS (As := vals.map (jc E)) (rest := r.map (jc E)) (Ts := jTA Ts) ⟨hx, hb, hml, ho, hts⟩ hM (callB_of k hts (jws_in h1) rfl rfl rfl (hts _ h2) (hts _ h8) ⟨h3, h4, h5⟩ hf |> fun q => ⟨q, hts _ hst⟩) hpre rfl (by rw [List.length_map]; exact hk) hL.1 hstk (lv_room (by rw [jcat_sum]; exact hz)) hd hc) hS hgo
  · refine jk_after (va_runSN (As := vals.map (jc E)) (rest := r.map (jc E)) (host := host) (Ts := jTA Ts) ⟨hx, hb, hml, ho, hts⟩ hM ⟨va_cnB k hts (jws_in h1) rfl rfl rfl (hK.2.2.2 _ h8) (hts _ h2) ⟨h3, h4, h5⟩ hf, hts _ hst, trivial⟩ hpre rfl (by rw [List.length_map]; exact hk) hL.1 hstk (lv_room (by rw [jcat_sum]; exact hz)) hd hc) hS hgo
/-- a method of an object of ours is called -/
theorem jk_callV (X : jX E own Ts cl tb nL ini cc M) {rm rc : Room} (hR : M.2.2.2.1 = rm) {pc i wi k ci a : Nat} {Y : jY} (hd : decode cc pc = .ok (.invokevirtual i, 3)) (hw : jlm Ts wi own i Y.1 = true) (hm : jmth Ts Y k) (hin : Jvm.Cond.instanceMethod Y.1 ∈ jTA Ts) (hse : Jvm.Cond.selects Y.1.cls Y.1 Y.1 ∈ jTA Ts) {q : vw_C} (hq : cl[ci]? = some q) (hqc : q.1 = Y.1.cls) {lv : List (Option jv)} {r vals : List jv} {σ : Nat → jcell} {fs : List jv} (ha : a < n) (he : σ a = .inr (ci, fs)) {post : jPo} (hM : jMet M.2.1 E cl tb Ts Y rc (.inr (.inr (some (.inl a))) :: vals) σ n post) {st : List jv} (hs : st = vals.reverse ++ .inr (.inr (some (.inl a))) :: r) (hk : vals.length = k)
    (hf : rc.frames + 1 ≤ rm.frames ∧ 8 + (Y.2.2.1 + 11) + rc.locals ≤ rm.locals) (hc : cells + rc.cells ≤ rm.cells ∧ slots + rc.slots ≤ rm.slots) (hz : (r.map jcat).sum ≤ 8)
    (kk : ∀ (v : Option jv) (σ' : Nat → jcell) (n' : Nat), post v σ' n' → jJ E cl nL M Q n' (cells + rc.cells) (slots + rc.slots) (pc + 3) lv (v.toList ++ r) σ') : jJ E cl nL M Q n cells slots pc lv st σ := by
  subst hs
  obtain ⟨p, l, e, R, s, m, args, below, meth, c⟩ := M
  dsimp only at hR
  subst hR
  obtain ⟨hx, hb, hml, ho, hts, hK, -, -⟩ := X
  obtain ⟨h1, h2, h3, h4, h5⟩ := hm
  intro H locs ls hW hS hL
  have hP1 := jW_one hW ha (by rw [he]; simp only [jkn]; first | done | decide | assumption)
  rw [he] at hP1
  obtain ⟨cellB, hcB, hoB, hclB⟩ := va_recv hK.1 hP1 hq (q0 := 0) rfl
  rw [hqc] at hclB
  have hpre : PreV s H Y.1.cls (E.2.2.2 + a) (jPc E cl tb Ts (.inr (.inr (some (.inl a))) :: vals) σ n) (vals.map (jc E)) := ⟨jPc_blind, ⟨cellB, hcB, hoB, hclB⟩, fun U hU hWm => ⟨rfl, by rw [hU]; exact hW, jK_go hK hS hU hWm⟩⟩
  have hstk : ((vals.reverse ++ .inr (.inr (some (.inl a))) :: r).map (jc E)) = (vals.map (jc E)).reverse ++ .ref (E.2.2.2 + a) :: r.map (jc E) := by rw [List.map_append, List.map_reverse]; rfl
  have hgo : ∀ (v : Option jv) (σ' : Nat → jcell) (n' : Nat), post v σ' n' → ∀ (H1 : Heap) (locs1 : List Loc), jW E cl σ' n' H1 → va_S (jA E) s.heap H1 locs1 → W p l e R s m args below meth c H1 locs1 (cells + rc.cells) (slots + rc.slots) Q (F0 m (pc + 3) ls ((v.map (jc E)).toList ++ r.map (jc E))) := by
    intro v σ' n' hp H1 locs1 hW1 hS1
    have h := kk v σ' n' hp H1 locs1 ls hW1 hS1 hL
    have e1 : (v.toList ++ r).map (jc E) = (v.map (jc E)).toList ++ r.map (jc E) := by cases v <;> simp
    rw [e1] at h
    exact h
  rcases jlm_or hw with h8 | ⟨host, h8⟩
  · refine jk_after (va_runV (C := Y.1.cls) (b := E.2.2.2 + a) (As := vals.map (jc E)) (rest := r.map (jc E)) (Ts := jTA Ts) ⟨hx, hb, hml, ho, hts⟩ hM ⟨callB_of k hts (jws_in h1) rfl rfl rfl (hts _ h2) (hts _ h8) ⟨h3, h4, h5⟩ hf, hts _ hin, hts _ hse⟩ hpre rfl (by rw [List.length_map]; exact hk) hL.1 hstk (lv_room (by rw [jcat_sum]; exact hz)) hd hc) hS hgo
  · refine jk_after (va_runVN (C := Y.1.cls) (b := E.2.2.2 + a) (As := vals.map (jc E)) (rest := r.map (jc E)) (host := host) (Ts := jTA Ts) ⟨hx, hb, hml, ho, hts⟩ hM ⟨va_cnB k hts (jws_in h1) rfl rfl rfl (hK.2.2.2 _ h8) (hts _ h2) ⟨h3, h4, h5⟩ hf, hts _ hin, hts _ hse⟩ hpre rfl (by rw [List.length_map]; exact hk) hL.1 hstk (lv_room (by rw [jcat_sum]; exact hz)) hd hc) hS hgo
/-- a constructor is called -/
theorem jk_callI (X : jX E own Ts cl tb nL ini cc M) {rm rc : Room} (hR : M.2.2.2.1 = rm) {pc i wi k a : Nat} {Y : jY} (hd : decode cc pc = .ok (.invokespecial i, 3)) (hw : jlm Ts wi own i Y.1 = true) (hm : jmth Ts Y k) (hin : Jvm.Cond.instanceMethod Y.1 ∈ jTA Ts) (hnm : Y.1.name = "<init>") (hret : Y.2.2.2 = none) {lv : List (Option jv)} {r vals : List jv} {σ : Nat → jcell} {post : jPo} (hM : jMet M.2.1 E cl tb Ts Y rc (.inr (.inr (some (.inl a))) :: vals) σ n post) {st : List jv} (hs : st = vals.reverse ++ .inr (.inr (some (.inl a))) :: r) (hk : vals.length = k)
    (hf : rc.frames + 1 ≤ rm.frames ∧ 8 + (Y.2.2.1 + 11) + rc.locals ≤ rm.locals) (hc : cells + rc.cells ≤ rm.cells ∧ slots + rc.slots ≤ rm.slots) (hz : (r.map jcat).sum ≤ 8)
    (kk : ∀ (v : Option jv) (σ' : Nat → jcell) (n' : Nat), post v σ' n' → jJ E cl nL M Q n' (cells + rc.cells) (slots + rc.slots) (pc + 3) lv (v.toList ++ r) σ') : jJ E cl nL M Q n cells slots pc lv st σ := by
  subst hs
  obtain ⟨p, l, e, R, s, m, args, below, meth, c⟩ := M
  dsimp only at hR
  subst hR
  obtain ⟨y, bytes, maxL, ret⟩ := Y
  dsimp only at hret hnm
  subst hret
  obtain ⟨hx, hb, hml, ho, hts, hK, -, -⟩ := X
  obtain ⟨h1, h2, h3, h4, h5⟩ := hm
  intro H locs ls hW hS hL
  have hpre : PreS s H (jPc E cl tb Ts (.inr (.inr (some (.inl a))) :: vals) σ n) (.ref (E.2.2.2 + a) :: vals.map (jc E)) := ⟨jPc_blind, fun U hU hWm => ⟨rfl, by rw [hU]; exact hW, jK_go hK hS hU hWm⟩⟩
  have hstk : ((vals.reverse ++ .inr (.inr (some (.inl a))) :: r).map (jc E)) = (vals.map (jc E)).reverse ++ .ref (E.2.2.2 + a) :: r.map (jc E) := by rw [List.map_append, List.map_reverse]; rfl
  have hgo : ∀ (v : Option jv) (σ' : Nat → jcell) (n' : Nat), post v σ' n' → ∀ (H1 : Heap) (locs1 : List Loc), jW E cl σ' n' H1 → va_S (jA E) s.heap H1 locs1 → W p l e R s m args below meth c H1 locs1 (cells + rc.cells) (slots + rc.slots) Q (F0 m (pc + 3) ls ((v.map (jc E)).toList ++ r.map (jc E))) := by
    intro v σ' n' hp H1 locs1 hW1 hS1
    have h := kk v σ' n' hp H1 locs1 ls hW1 hS1 hL
    have e1 : (v.toList ++ r).map (jc E) = (v.map (jc E)).toList ++ r.map (jc E) := by cases v <;> simp
    rw [e1] at h
    exact h
  rcases jlm_or hw with h8 | ⟨host, h8⟩
  · refine jk_after (va_runI (b := E.2.2.2 + a) (As := vals.map (jc E)) (rest := r.map (jc E)) (Ts := jTA Ts) ⟨hx, hb, hml, ho, hts⟩ hM ⟨callB_of k hts (jws_in h1) rfl rfl rfl (hts _ h2) (hts _ h8) ⟨h3, h4, h5⟩ hf, hnm, hts _ hin⟩ hpre rfl (by rw [List.length_map]; exact hk) hL.1 hstk (lv_room (by rw [jcat_sum]; exact hz)) hd hc) hS hgo
  · refine jk_after (va_runIN (b := E.2.2.2 + a) (As := vals.map (jc E)) (rest := r.map (jc E)) (host := host) (Ts := jTA Ts) ⟨hx, hb, hml, ho, hts⟩ hM ⟨va_cnB k hts (jws_in h1) rfl rfl rfl (hK.2.2.2 _ h8) (hts _ h2) ⟨h3, h4, h5⟩ hf, hnm, hts _ hin⟩ hpre rfl (by rw [List.length_map]; exact hk) hL.1 hstk (lv_room (by rw [jcat_sum]; exact hz)) hd hc) hS hgo
/-- Object() -/
theorem jk_objInit (X : jX E own Ts cl tb nL ini cc M) {rm : Room} (hR : M.2.2.2.1 = rm) {pc i w1 w2 w3 : Nat} (hd : decode cc pc = .ok (.invokespecial i, 3)) (h1 : Ts[w1]? = some (Jvm.Cond.methodLink own i Lib.objectInit)) (h2 : Ts[w2]? = some (Jvm.Cond.instanceMethod Lib.objectInit)) (h3 : Ts[w3]? = some (Jvm.Cond.code Lib.objectInit ⟨#[0xb1]⟩ 1 none)) {lv : List (Option jv)} {r : List jv} {σ : Nat → jcell} {a : Nat} (hf : 1 ≤ rm.frames) (hz : (r.map jcat).sum + 12 ≤ rm.locals)
    (kk : jJ E cl nL M Q n cells slots (pc + 3) lv r σ) : jJ E cl nL M Q n cells slots pc lv (.inr (.inr (some (.inl a))) :: r) σ := by
  obtain ⟨p, l, e, R, s, m, args, below, meth, c⟩ := M
  dsimp only at hR
  subst hR
  obtain ⟨hx, hb, hml, ho, hts, hK, -, -⟩ := X
  intro H locs ls hW hS hL
  refine W.objInit hx hb ho (hts _ (jTA_in h1 rfl)) (hts _ (jTA_in h2 rfl)) (hts _ (jTA_in h3 rfl)) rfl (by rw [hml]; exact hL.1) rfl hd hf ?_ (kk H locs ls hW hS hL)
  have e1 : (F0 m pc ls ((Sum.inr (Sum.inr (some (Sum.inl a))) :: r).map (jc E))).monitorRoom = 0 := rfl
  rw [e1, jcat_sum]
  dsimp only at hz ⊢
  omega
def jdef (kd : Nat) : jv := match kd with
  | 2 => .inr (.inl 0)
  | 3 => .inr (.inr none)
  | _ => .inl 0
def jnew (q : vw_C) : List jv := (List.range q.2.2).map fun j => jdef (jkd (parseFieldDescriptor (q.2.1 j).2.2.1))
theorem jdef_ok {E : jE} {t : FieldType} (h : jkd (some t) ≠ 9) : defaultValue t = jc E (jdef (jkd (some t))) := by
  cases t <;> first | rfl | exact absurd rfl h
/-- a new object -/
theorem jk_new (hC : jCl Ts cl) (X : jX E own Ts cl tb nL ini cc M) {rm : Room} (hR : M.2.2.2.1 = rm) {pc i w1 w2 w3 ci : Nat} (hd : decode cc pc = .ok (.new i, 3)) {q : vw_C} (hq : cl[ci]? = some q) (h1 : Ts[w1]? = some (Jvm.Cond.classLink own i q.1)) (h2 : Ts[w2]? = some (Jvm.Cond.instantiable q.1 q.2.2)) (h3 : Ts[w3]? = some (Jvm.Cond.initialized q.1)) (h9 : ((List.range q.2.2).all fun j => decide (jkd (parseFieldDescriptor (q.2.1 j).2.2.1) ≠ 9)) = true) {fs : List jv} (hfs : jnew q = fs) {lv : List (Option jv)} {r : List jv} {σ : Nat → jcell} (hc : cells + 1 ≤ rm.cells ∧ slots + q.2.2 ≤ rm.slots)
    (kk : jJ E cl nL M Q (n + 1) (cells + 1) (slots + q.2.2) (pc + 3) lv (.inr (.inr (some (.inl n))) :: r) (jup σ n (.inr (ci, fs)))) : jJ E cl nL M Q n cells slots pc lv r σ := by
  obtain ⟨p, l, e, R, s, m, args, below, meth, c⟩ := M
  dsimp only at hR
  subst hR
  obtain ⟨hx, hb, hml, ho, hts, hK, -, -⟩ := X
  intro H locs ls hW hS hL
  have hKn := hK.1.1 ci _ hq
  refine W.newcK hx hb ho (hts _ (jTA_in h1 rfl)) (hts _ (jTA_in h2 rfl)) (hts _ (jTA_in h3 rfl)) rfl hd hc.1 hc.2 hKn.2.1 hW.1 fun H1 kC hkC e1 z1 o1 => ?_
  refine kk H1 locs ls ⟨by omega, fun k hk hkk => ?_⟩ ⟨by have h7 := hS.1; have h8 := hW.1; dsimp only at h7 ⊢; omega, fun x q1 q2 => (o1 x (by have h7 := hS.1; have h8 := hW.1; dsimp only at h7 q1; omega)).trans (hS.2.1 x q1 q2), hS.2.2⟩ hL
  by_cases hkn : k = n
  · subst hkn
    rw [jup_s]
    obtain ⟨hin, ⟨ty, hty⟩, hnm⟩ := hC ci q hq
    refine ⟨_, hq, (u_born ty hts hin hKn hkC e1 hty).to fun j hj => ?_⟩
    subst hfs
    have hj9 := List.all_eq_true.mp h9 j (List.mem_range.mpr hj)
    rw [decide_eq_true_eq, hty j hj] at hj9
    rw [jdef_ok (E := E) hj9]
    show _ = vp_V ((jnew q).map (jc E)) j
    simp [vp_V, jnew, hj, hty j hj]
  · rw [jup_n hkn] at hkk ⊢
    exact (hW.2 k (by omega) hkk).kept (o1 _ (by show E.2.2.2 + k < _; omega))
def jzero (t : ArrayType) (N : Nat) : vp_A := match t with
  | .long => (N, .inr (.inl fun _ => 0))
  | _ => (N, .inl fun _ => 0)
/-- a new array of numbers -/
theorem jk_newa (X : jX E own Ts cl tb nL ini cc M) {rm : Room} (hR : M.2.2.2.1 = rm) {pc w1 N : Nat} {at1 : ArrayType} (hd : decode cc pc = .ok (.newarray at1, 2)) (h1 : Ts[w1]? = some (Jvm.Cond.arrayClass (newarray.typeOf at1))) (hty : newarray.typeOf at1 ∈ jtys) {lv : List (Option jv)} {r : List jv} {σ : Nat → jcell} {k : Int32} (hk : ¬ k < 0) (hN : k.toNatClampNeg = N) (hby : N * 8 ≤ 536870912) (hc : cells + 1 ≤ rm.cells ∧ slots + N ≤ rm.slots)
    (kk : jJ E cl nL M Q (n + 1) (cells + 1) (slots + N) (pc + 2) lv (.inr (.inr (some (.inl n))) :: r) (jup σ n (.inl (newarray.typeOf at1, jzero at1 N)))) : jJ E cl nL M Q n cells slots pc lv (.inl k :: r) σ := by
  obtain ⟨p, l, e, R, s, m, args, below, meth, c⟩ := M
  dsimp only at hR
  subst hR
  obtain ⟨hx, hb, hml, ho, hts, hK, -, -⟩ := X
  intro H locs ls hW hS hL
  have hcb : componentBytes (newarray.typeOf at1) ≤ 8 := by cases at1 <;> decide
  refine va_newaK hx hb (hts _ (jTA_in h1 rfl)) rfl hd rfl hk hN (Nat.le_trans (Nat.mul_le_mul_left _ hcb) hby) hc.1 hc.2 hW.1 fun H1 cA e1 z1 o1 hAr hNm => ?_
  have hcA : cA = E.2.1 (newarray.typeOf at1) := by
    obtain ⟨t0, ht0⟩ := jty_in (E := E) hty
    have h5 := (hK.1.2 t0 _ ht0).2
    have h6 : s.vm.findClass ("[" ++ (newarray.typeOf at1).toString) = some (E.2.1 (newarray.typeOf at1)) := by
      cases at1 <;> exact h5
    exact Option.some.inj (hNm.symm.trans h6)
  refine kk H1 locs ls ⟨by omega, fun j hj hkk => ?_⟩ ⟨by have h7 := hS.1; have h8 := hW.1; dsimp only at h7 ⊢; omega, fun x q1 q2 => (o1 x (by have h7 := hS.1; have h8 := hW.1; dsimp only at h7 q1; omega)).trans (hS.2.1 x q1 q2), hS.2.2⟩ hL
  by_cases hjn : j = n
  · subst hjn
    rw [jup_s]
    show H1[_]? = some (vp_cell (E.2.1 (newarray.typeOf at1)) (jzero at1 N))
    rw [e1, hcA]
    cases at1 <;> first | rfl | exact absurd hty (by decide)
  · rw [jup_n hjn] at hkk ⊢
    exact (hW.2 j (by omega) hkk).kept (o1 _ (by show E.2.2.2 + j < _; omega))
/-- the ends of a method -/
theorem jk_vret (X : jX E own Ts cl tb nL ini cc M) {pc mc ms : Nat} (hd : decode cc pc = .ok (.return_, 1)) (hr : M.2.2.2.2.2.2.2.2.1.sig.returnType = none) {lv : List (Option jv)} {σ : Nat → jcell} {post : jPo} (hc : cells ≤ mc) (hs : slots ≤ ms) (hp : post none σ n) : jJ E cl nL M (jQ E cl M post mc ms) n cells slots pc lv [] σ := by
  obtain ⟨p, l, e, R, s, m, args, below, meth, c⟩ := M
  obtain ⟨hx, hb, hml, ho, hts, hK, hlk, -⟩ := X
  intro H locs ls hW hS hL
  exact W.widen hc hs (W.vret hx hb hr (fun t ht _ => ⟨⟨none, σ, n, rfl, hp, by rw [ht]; exact hW⟩, hS.F ht⟩) hS.2.2 hd hlk)
theorem jk_iret (X : jX E own Ts cl tb nL ini cc M) {pc mc ms : Nat} (hd : decode cc pc = .ok (.ireturn, 1)) {ty : FieldType} (hr : M.2.2.2.2.2.2.2.2.1.sig.returnType = some ty) {v : Int32} (hn : narrow ty (.int v) = .int v) {lv : List (Option jv)} {σ : Nat → jcell} {post : jPo} (hc : cells ≤ mc) (hs : slots ≤ ms) (hp : post (some (.inl v)) σ n) : jJ E cl nL M (jQ E cl M post mc ms) n cells slots pc lv [.inl v] σ := by
  obtain ⟨p, l, e, R, s, m, args, below, meth, c⟩ := M
  obtain ⟨hx, hb, hml, ho, hts, hK, hlk, -⟩ := X
  intro H locs ls hW hS hL
  exact W.widen hc hs (W.zret hx hb hr hn (fun t ht _ => ⟨⟨some (.inl v), σ, n, rfl, hp, by rw [ht]; exact hW⟩, hS.F ht⟩) hS.2.2 hd hlk)
theorem jk_lret (X : jX E own Ts cl tb nL ini cc M) {pc mc ms : Nat} (hd : decode cc pc = .ok (.lreturn, 1)) (hr : M.2.2.2.2.2.2.2.2.1.sig.returnType = some .long) {v : Int64} {lv : List (Option jv)} {σ : Nat → jcell} {post : jPo} (hc : cells ≤ mc) (hs : slots ≤ ms) (hp : post (some (.inr (.inl v))) σ n) : jJ E cl nL M (jQ E cl M post mc ms) n cells slots pc lv [.inr (.inl v)] σ := by
  obtain ⟨p, l, e, R, s, m, args, below, meth, c⟩ := M
  obtain ⟨hx, hb, hml, ho, hts, hK, hlk, -⟩ := X
  intro H locs ls hW hS hL
  exact W.widen hc hs (W.lret hx hb hr (fun t ht _ => ⟨⟨some (.inr (.inl v)), σ, n, rfl, hp, by rw [ht]; exact hW⟩, hS.F ht⟩) hS.2.2 hd hlk)
/-- weaker is enough -/
theorem jJ_widen {c2 s2 pc : Nat} {lv : List (Option jv)} {st : List jv} {σ : Nat → jcell} (hc : cells ≤ c2) (hs : slots ≤ s2) (h : jJ E cl nL M Q n c2 s2 pc lv st σ) : jJ E cl nL M Q n cells slots pc lv st σ := fun H locs ls hW hS hL => W.widen hc hs (h H locs ls hW hS hL)
/-- locals that nobody needs may be forgotten -/
theorem jJ_lv {pc : Nat} {lv lv' : List (Option jv)} {st : List jv} {σ : Nat → jcell} (hl : ∀ (i : Nat) (v : jv), lv'[i]? = some (some v) → lv[i]? = some (some v)) (h : jJ E cl nL M Q n cells slots pc lv' st σ) : jJ E cl nL M Q n cells slots pc lv st σ := fun H locs ls hW hS hL => h H locs ls hW hS ⟨hL.1, hL.2.1, fun i v hi => hL.2.2 i v (hl i v hi)⟩
end JCA
theorem jMet_post {l : Launch} {E : jE} {cl : List vw_C} {tb : jTb} {Ts : List Jvm.Cond} {Y : jY} {rm : Room} {vals : List jv} {σ : Nat → jcell} {n : Nat} {post post' : jPo} (h : jMet l E cl tb Ts Y rm vals σ n post) (hp : ∀ r σ' n', post r σ' n' → post' r σ' n') : jMet l E cl tb Ts Y rm vals σ n post' := by
  intro p e ha hc hk s m args below hf hs hP hK'
  obtain ⟨n', o, h1, h2, h3, ⟨⟨⟨r, σ', n2, q1, q2, q3⟩, q4⟩, q5⟩⟩ := h p e ha hc hk s m args below hf hs hP hK'
  exact ⟨n', o, h1, h2, h3, ⟨⟨⟨r, σ', n2, q1, hp _ _ _ q2, q3⟩, q4⟩, q5⟩⟩
