/-! throws: a method that ends in an exception of its own, and a call of one that is caught -/
/-- a cell of which nothing is known -/
def jun : jcell := .inl (.float, 0, .inl fun _ => 0)
theorem jun_kn : ¬ jkn jun := by
  show ¬ (FieldType.float ∈ jtys)
  decide
/-- a static field and the reference or null that it holds -/
def jrf (v : Value) : Prop := v = .null ∨ ∃ a, v = .ref a
def jLs (C n d : String) (A : Nat → Prop) (U : State) (H : Heap) : Prop := ∃ (c : ClassId) (kf : Class) (fi : Nat) (f : Field) (a : Nat) (cell : Cell) (v : Value), U.vm.findClass C = some c ∧ U.fieldFound? C n d = some (c, kf, fi, f) ∧ f.isStatic = true ∧ kf.statics = some a ∧ H[a]? = some cell ∧ cell.vm.isStatics = true ∧ cell.cls = c ∧ f.slot < cell.slots.size ∧ kf.staticTypes[f.slot]? = some f.type ∧ cell.slots[f.slot]? = some v ∧ jrf v ∧ ¬ A a
theorem jLs.moved {C n d : String} {A : Nat → Prop} {u U : State} {H : Heap} (hvm : u.vm.Alike U.vm) (h : jLs C n d A u H) : jLs C n d A U H := by
  obtain ⟨c, kf, fi, f, a, cell, v, h0, h1, h2, h3, h4, h5, h6, h7, h8, h9⟩ := h
  obtain ⟨k', hi', he⟩ := State.fieldFound?_setVm hvm h1
  exact ⟨c, k', fi, f, a, cell, v, by rw [hvm.findClass]; exact h0, hi', h2, by rw [he]; exact h3, h4, h5, h6, h7, by rw [he]; exact h8, h9⟩
theorem jLs.kept {C n d : String} {A : Nat → Prop} {U : State} {H H1 : Heap} (h : jLs C n d A U H) (hq : ∀ a : Nat, a < H.size → ¬ A a → H1[a]? = H[a]?) : jLs C n d A U H1 := by
  obtain ⟨c, kf, fi, f, a, cell, v, h0, h1, h2, h3, h4, h5, h6, h7, h8, h9, h10, h11⟩ := h
  exact ⟨c, kf, fi, f, a, cell, v, h0, h1, h2, h3, by rw [hq a (Array.getElem?_eq_some_iff.mp h4).1 h11]; exact h4, h5, h6, h7, h8, h9, h10, h11⟩
theorem jLs.ref {C n d : String} {A : Nat → Prop} {args : Array Value} {s : State} (h : jLs C n d A s s.heap) : (Jvm.Cond.isRef (.static C n d)).before args s = true := by
  obtain ⟨c, kf, fi, f, a, cell, v, h0, h1, h2, h3, h4, h5, h6, h7, h8, h9, h10, h11⟩ := h
  have ev : (Term.static C n d).eval args s none [] s = some v := by simp [Term.eval, State.fieldNamed?, h1, h2, h3, h4, h5, h9]
  rcases h10 with rfl | ⟨x, rfl⟩ <;> simp [Jvm.Cond.before, Jvm.Cond.holds, Jvm.Cond.value, ev]
theorem jLs.lays {C n d : String} {A : Nat → Prop} {args : Array Value} {s : State} (h : jLs C n d A s s.heap) : (Jvm.Cond.laysStatic C n d).before args s = true := by
  obtain ⟨c, kf, fi, f, a, cell, v, h0, h1, h2, h3, h4, h5, h6, h7, h8, h9, h10, h11⟩ := h
  simp [Jvm.Cond.before, Jvm.Cond.holds, Jvm.Cond.value, h0, h1, h2, h3, h4, h5, h6, h7, h8]
theorem jLs_of {C n d : String} {A : Nat → Prop} {args : Array Value} {s : State} (hl : (Jvm.Cond.laysStatic C n d).before args s = true) (hr : (Jvm.Cond.isRef (.static C n d)).before args s = true) (hA : ∀ a : Nat, a < s.heap.size → ¬ A a) : jLs C n d A s s.heap := by
  obtain ⟨c, k, i, f, a, cell, hc, hi, hst, ha, hcell, hs, hcls, hlt, hty⟩ := Cond.laysStatic_spec hl
  cases hv : (Term.static C n d).eval args s none [] s with
  | none => simp [Jvm.Cond.before, Jvm.Cond.holds, Jvm.Cond.value, hv] at hr
  | some w =>
    obtain ⟨hst', a', cell', ha', hcell', -, hslot⟩ := Term.static_spec hi hv
    cases ha.symm.trans ha'
    cases hcell.symm.trans hcell'
    refine ⟨c, k, i, f, a, cell, w, hc, hi, hst, ha, hcell, hs, hcls, hlt, hty, hslot, ?_, hA a (Array.getElem?_eq_some_iff.mp hcell).1⟩
    simp only [Jvm.Cond.before, Jvm.Cond.holds, Jvm.Cond.value, hv] at hr
    cases w with
    | null => exact Or.inl rfl
    | ref t => exact Or.inr ⟨t, rfl⟩
    | _ => simp at hr
/-- the words of a throw that steady readers don't carry -/
def jtw : List Jvm.Cond := [.declares ⟨"java/lang/RuntimeException", "<init>", "()V"⟩, .declares ⟨"java/lang/Exception", "<init>", "()V"⟩, .declares ⟨"java/lang/Throwable", "<init>", "()V"⟩, .castable "java/lang/IllegalArgumentException" "java/lang/IllegalArgumentException", .castable "java/lang/IndexOutOfBoundsException" "java/lang/IndexOutOfBoundsException", .castable "java/lang/UnsupportedOperationException" "java/lang/UnsupportedOperationException"]
def jTx : List Jvm.Cond := .laysStatic "java/lang/Throwable" "UNASSIGNED_STACK" "[Ljava/lang/StackTraceElement;" :: .laysStatic "java/lang/Throwable" "SUPPRESSED_SENTINEL" "Ljava/util/List;" :: .isRef (.static "java/lang/Throwable" "UNASSIGNED_STACK" "[Ljava/lang/StackTraceElement;") :: .isRef (.static "java/lang/Throwable" "SUPPRESSED_SENTINEL" "Ljava/util/List;") :: jtw
def jTh (E : jE) (U : State) : Prop := jLs "java/lang/Throwable" "UNASSIGNED_STACK" "[Ljava/lang/StackTraceElement;" (jA E) U U.heap ∧ jLs "java/lang/Throwable" "SUPPRESSED_SENTINEL" "Ljava/util/List;" (jA E) U U.heap ∧ ∀ w ∈ jtw, w.before #[] U = true
theorem jtw_tab : ∀ w ∈ jtw, w.onTables = true := by
  intro w hw
  simp only [jtw, List.mem_cons, List.not_mem_nil, or_false] at hw
  rcases hw with rfl | rfl | rfl | rfl | rfl | rfl <;> rfl
theorem jtw_moved {u U : State} (hvm : u.vm.Alike U.vm) (h : ∀ w ∈ jtw, w.before #[] u = true) : ∀ w ∈ jtw, w.before #[] U = true := by
  intro w hw
  have h1 := h w hw
  have h2 : w.before #[] (u.setVm U.vm) = true := by
    simp only [jtw, List.mem_cons, List.not_mem_nil, or_false] at hw
    rcases hw with rfl | rfl | rfl | rfl | rfl | rfl
    · rw [Cond.declares_setVm hvm]; exact h1
    · rw [Cond.declares_setVm hvm]; exact h1
    · rw [Cond.declares_setVm hvm]; exact h1
    · rw [Cond.castable_setVm hvm]; exact h1
    · rw [Cond.castable_setVm hvm]; exact h1
    · rw [Cond.castable_setVm hvm]; exact h1
  have e := Cond.onTables_vm (A := #[]) (A' := #[]) (U := u) (U' := U) U.vm w (jtw_tab w hw)
  have hU : U.setVm U.vm = U := rfl
  rw [hU] at e
  rw [← e]
  exact h2
theorem jTh_word {E : jE} {args : Array Value} {s : State} (h : jTh E s) : ∀ w ∈ jTx, w.before args s = true := by
  obtain ⟨h1, h2, h3⟩ := h
  intro w hw
  simp only [jTx, List.mem_cons] at hw
  rcases hw with rfl | rfl | rfl | rfl | hw
  · exact h1.lays
  · exact h2.lays
  · exact h1.ref
  · exact h2.ref
  · exact va_any (jtw_tab w hw) (h3 w hw)
theorem jTh_go {E : jE} {s U : State} {H : Heap} {locs : List Loc} (h : jTh E s) (hS : va_S (jA E) s.heap H locs) (hU : U.heap = H) (hW : s.WarmedH U.vm) : jTh E U := by
  obtain ⟨h1, h2, h3⟩ := h
  subst hU
  exact ⟨(h1.kept hS.2.1).moved hW.alike, (h2.kept hS.2.1).moved hW.alike, jtw_moved hW.alike h3⟩
/-- the words of a throw: in the tables, or among these -/
def jTw (Ts : List Jvm.Cond) (own : String) (ic : Nat) (cls : String) (names : List String) : Prop := ∀ a ∈ Bundle.ownAtoms0 own ic cls names, a ∈ jTA Ts ∨ a ∈ jTx
def jQt (E : jE) (cl : List vw_C) (cls : String) (σ : Nat → jcell) (n : Nat) : Array Value → State → Outcome → State → Prop := fun _ s o t => o = .threw (E.2.2.2 + n) ∧ jW E cl (jup σ n jun) (n + 1) t.heap ∧ (∃ ce, t.heap[E.2.2.2 + n]? = some ce ∧ ce.vm = .none ∧ s.vm.findClass cls = some ce.cls) ∧ va_F (jA E) s t
def jPt (E : jE) (cl : List vw_C) (tb : jTb) (Ts : List Jvm.Cond) (vals : List jv) (σ : Nat → jcell) (n : Nat) : Array Value → State → Prop := fun v U => jPc E cl tb Ts vals σ n v U ∧ jTh E U
/-- what an end by a throw leaves: the tables are warmer, and all but new cells and the slots of L is as it was -/
def jEt (s t : State) (L : List Loc) (k m : Nat) : Prop := s.WarmedH t.vm ∧ s.sameButNew ({ t with vm := s.vm } : State) L k m
def jMetT (l : Launch) (E : jE) (cl : List vw_C) (tb : jTb) (Ts : List Jvm.Cond) (Y : jY) (rm : Room) (vals : List jv) (σ : Nat → jcell) (n : Nat) (cls : String) : Prop := MetFree l Y.1 (headSpec (jws Ts Y) rm) (jPt E cl tb Ts vals σ n) (fun _ _ _ _ _ => True) (fun a st o t => jQt E cl cls σ n a st o t ∧ ∃ L, jEt st t L rm.cells rm.slots ∧ ∀ q ∈ L, jA E q.base)
def jQT (E : jE) (cl : List vw_C) (M : jM) (cls : String) (σ : Nat → jcell) (n : Nat) : State → Prop := fun t => ∃ o, t.status = .running ∧ Ended t M.2.2.2.2.2.2.2.1 o ∧ jQt E cl cls σ n M.2.2.2.2.2.2.1 M.2.2.2.2.1 o t ∧ ∃ L, jEt M.2.2.2.2.1 t L M.2.2.2.1.cells M.2.2.2.1.slots ∧ ∀ q ∈ L, jA E q.base
/-- the judgement over the heap as it was at the start: for roads that write nothing -/
def jF (E : jE) (cl : List vw_C) (nL : Nat) (M : jM) (Q : State → Prop) (n : Nat) : jN := fun pc lv st σ => ∀ ls : Array Slot, jW E cl σ n M.2.2.2.2.1.heap → jlv E ls nL lv →
  W M.1 M.2.1 M.2.2.1 M.2.2.2.1 M.2.2.2.2.1 M.2.2.2.2.2.1 M.2.2.2.2.2.2.1 M.2.2.2.2.2.2.2.1 M.2.2.2.2.2.2.2.2.1 M.2.2.2.2.2.2.2.2.2 M.2.2.2.2.1.heap [] 0 0 Q (F0 M.2.2.2.2.2.1 pc ls (st.map (jc E)))
section JTH
variable {E : jE} {own : String} {Ts : List Jvm.Cond} {cl : List vw_C} {tb : jTb} {nL : Nat} {ini : Bool} {cc : ByteArray} {M : jM} {Q : State → Prop} {n cells slots : Nat}
theorem jf_iload_n (X : jX E own Ts cl tb nL ini cc M) {pc : Nat} {i : Fin 4} (hd : decode cc pc = .ok (.iload_n i, 1)) {lv : List (Option jv)} {r : List jv} {σ : Nat → jcell} {x : Int32} (hl : lv[i.val]? = some (some (.inl x))) (k : jF E cl nL M Q n (pc + 1) lv (.inl x :: r) σ) : jF E cl nL M Q n pc lv r σ := by
  obtain ⟨hx, hb, -⟩ := X
  exact fun ls hW hL => lv_iload_n hx hb hd rfl (hL.2.2 _ _ hl) (k ls hW hL)
theorem jf_aload_n (X : jX E own Ts cl tb nL ini cc M) {pc : Nat} {i : Fin 4} (hd : decode cc pc = .ok (.aload_n i, 1)) {lv : List (Option jv)} {r : List jv} {σ : Nat → jcell} {a : Nat ⊕ Nat} (hl : lv[i.val]? = some (some (.inr (.inr (some a))))) (k : jF E cl nL M Q n (pc + 1) lv (.inr (.inr (some a)) :: r) σ) : jF E cl nL M Q n pc lv r σ := by
  obtain ⟨hx, hb, -⟩ := X
  rcases a with a | a
  · exact fun ls hW hL => lv_aload_n hx hb hd rfl (hL.2.2 _ _ hl) (k ls hW hL)
  · exact fun ls hW hL => lv_aload_n hx hb hd rfl (hL.2.2 _ _ hl) (k ls hW hL)
theorem jf_iflt (X : jX E own Ts cl tb nL ini cc M) {pc tg : Nat} {z : Int} (hd : decode cc pc = .ok (.ifCond .lt z, 3)) (ht : (pc : Int) + z = (tg : Int)) {lv : List (Option jv)} {r : List jv} {σ : Nat → jcell} {x : Int32} (ka : x < 0 → jF E cl nL M Q n tg lv r σ) (kb : ¬ x < 0 → jF E cl nL M Q n (pc + 3) lv r σ) : jF E cl nL M Q n pc lv (.inl x :: r) σ := by
  obtain ⟨hx, hb, -⟩ := X
  exact fun ls hW hL => lv_if_lt hx hb hd ht (fun q => ka q ls hW hL) (fun q => kb q ls hW hL)
theorem jf_icle (X : jX E own Ts cl tb nL ini cc M) {pc tg : Nat} {z : Int} (hd : decode cc pc = .ok (.if_icmp .le z, 3)) (ht : (pc : Int) + z = (tg : Int)) {lv : List (Option jv)} {r : List jv} {σ : Nat → jcell} {x y : Int32} (ka : x ≤ y → jF E cl nL M Q n tg lv r σ) (kb : ¬ x ≤ y → jF E cl nL M Q n (pc + 3) lv r σ) : jF E cl nL M Q n pc lv (.inl y :: .inl x :: r) σ := by
  obtain ⟨hx, hb, -⟩ := X
  exact fun ls hW hL => lv_icmp_le hx hb hd ht (fun q => ka q ls hW hL) (fun q => kb q ls hW hL)
theorem jf_iclt (X : jX E own Ts cl tb nL ini cc M) {pc tg : Nat} {z : Int} (hd : decode cc pc = .ok (.if_icmp .lt z, 3)) (ht : (pc : Int) + z = (tg : Int)) {lv : List (Option jv)} {r : List jv} {σ : Nat → jcell} {x y : Int32} (ka : x < y → jF E cl nL M Q n tg lv r σ) (kb : ¬ x < y → jF E cl nL M Q n (pc + 3) lv r σ) : jF E cl nL M Q n pc lv (.inl y :: .inl x :: r) σ := by
  obtain ⟨hx, hb, -⟩ := X
  exact fun ls hW hL => lv_icmp_lt hx hb hd ht (fun q => ka q ls hW hL) (fun q => kb q ls hW hL)
theorem jf_get (hC : jCl Ts cl) (X : jX E own Ts cl tb nL ini cc M) {pc i wi ci f : Nat} (hd : decode cc pc = .ok (.getfield i, 3)) {q : vw_C} (hq : cl[ci]? = some q) (hf : f < q.2.2) (hw : jlk Ts wi own i (q.2.1 f).1 (q.2.1 f).2.1 (q.2.1 f).2.2.1 = true) {lv : List (Option jv)} {r : List jv} {σ : Nat → jcell} {a : Nat} {fs : List jv} {v : jv} (ha : a < n) (he : σ a = .inr (ci, fs)) (hv : fs[f]? = some v) (k : jF E cl nL M Q n (pc + 3) lv (v :: r) σ) : jF E cl nL M Q n pc lv (.inr (.inr (some (.inl a))) :: r) σ := by
  obtain ⟨hx, hb, -, ho, hts, ⟨hK, -, -, hN⟩, -⟩ := X
  intro ls hW hL
  have hP := jW_one hW ha (by rw [he]; simp only [jkn]; first | done | decide | assumption)
  rw [he] at hP
  rcases jlk_or hw with h8 | ⟨host, h8⟩
  · exact va_get (C := q.1) (T := q.2.1) (N := q.2.2) hx hb hts (hC ci q hq).1 ho hK hP 0 rfl hq f hf (hts _ h8) (fun _ h9 => h9) (by rw [List.getElem?_map, hv]; rfl) hd (k ls hW hL)
  · exact va_getN (C := q.1) (T := q.2.1) (N := q.2.2) (host := host) hx hb hts (hC ci q hq).1 ho hK hP 0 rfl hq f hf (va_Nw.use rfl (hN _ h8)) (fun _ h9 => h9) (by rw [List.getElem?_map, hv]; rfl) hd (k ls hW hL)
/-- cells that were there are the same, where nothing was written -/
theorem jsame_at {s t : State} {k m : Nat} (h : s.sameButNew t [] k m) {a : Nat} (ha : a < s.heap.size) : t.heap[a]? = s.heap[a]? := by
  obtain ⟨-, -, -, -, -, h6⟩ := h
  obtain ⟨c', e1, e2, e3, e4⟩ := h6 a _ (Array.getElem?_eq_getElem ha)
  rw [e1, Array.getElem?_eq_getElem ha, e2]
  have e5 : c'.slots = (s.heap[a]).slots := Array.ext_getElem? fun i => e4 i (by simp)
  rw [e5]
/-- a new exception is made and thrown -/
theorem jf_thr0 (X : jX E own Ts cl tb nL ini cc M) {rm : Room} (hR : M.2.2.2.1 = rm) (hl : M.2.1.stackTraces = false) (hTh : jTh E M.2.2.2.2.1) (hex : M.2.2.2.2.2.2.2.2.2.exceptionTable.toList = []) {pc i ic : Nat} (hd0 : decode cc pc = .ok (.new i, 3)) (hd1 : decode cc (pc + 3) = .ok (.dup, 1)) (hd2 : decode cc (pc + 4) = .ok (.invokespecial ic, 3)) (hd3 : decode cc (pc + 7) = .ok (.athrow, 1))
    {cls : String} {names : List String} (w1 : Jvm.Cond.classLink own i cls ∈ jTA Ts) (w2 : Jvm.Cond.instantiable cls 6 ∈ jTA Ts) (w3 : Jvm.Cond.initialized cls ∈ jTA Ts) (hcls : Bundle.fit cls = true) (hnames : ∀ x ∈ names, Bundle.fit x = true) (hw : jTw Ts own ic cls names)
    (hf : names.length + 3 < rm.frames ∧ 13 * (names.length + 1) + 42 ≤ rm.locals ∧ 1 ≤ rm.cells ∧ 6 ≤ rm.slots) {lv : List (Option jv)} {σ : Nat → jcell} : jF E cl nL M (jQT E cl M cls σ n) n pc lv [] σ := by
  obtain ⟨p, l, e, R, s, m, args, below, meth, c⟩ := M
  dsimp only at hR hl hTh hex
  subst hR
  obtain ⟨hx, hb, hml, ho, hts, hK, hlk, -⟩ := X
  dsimp only at hx hb hml ho hts hK hlk
  intro ls hW hL
  dsimp only at hW ⊢
  refine W.newc (C := cls) (n := 6) hx hb ho (hts _ w1) (hts _ w2) (hts _ w3) rfl hd0 (by omega) (by omega) ?_
  intro cC kC q1 q2 q3 q4
  refine lv_dup (va := .ref s.heap.size) hx hb hd1 rfl ?_
  intro T hT Xs
  have htr : e.platform.stackTraces = false := by rw [Xs.admits.platform]; exact hl
  have hat : ∀ a ∈ Bundle.ownAtoms0 own ic cls names, a.before args s = true := by
    intro a ha
    rcases hw a ha with h | h
    · exact hts a h
    · exact jTh_word hTh a h
  obtain ⟨U, st, hrun, hend, hwarm, hsame, ce, hce, hoc⟩ := Xs.ctorThrow0 hx htr (own := own) (cls := cls) (names := names) (ic := ic) ho hcls hnames hat (by intro x hx9; cases hx9) (a := s.heap.size) q1 q2 (by rw [hT]; simp [freshCell]) (Nat.le_refl _)
    (g := F0 m (pc + 4) ls [.ref s.heap.size, .ref s.heap.size]) rfl (hL.1.trans hml.symm) rfl rfl (rest := []) rfl (by rw [hb]; exact hd2) (by rw [hb]; exact hd3) (by rw [hex]; intro x hx9; cases hx9) hf.1 (by
      have e1 : (F0 m (pc + 4) ls [Value.ref s.heap.size, .ref s.heap.size]).monitorRoom = 0 := rfl
      rw [e1]
      simp only [List.map_cons, List.map_nil, List.sum_cons, List.sum_nil, Value.category]
      omega) hlk
  have hz : U.heap.size = s.heap.size + 1 := by
    have h3 : U.heap.size ≤ s.heap.size + (0 + 1) := hsame.2.2.1
    have h4 := (Array.getElem?_eq_some_iff.mp hce).1
    omega
  have hB : s.heap.size = E.2.2.2 + n := hW.1
  have hq : ∀ a : Nat, a < s.heap.size → U.heap[a]? = s.heap[a]? := fun a ha => jsame_at (t := { U with vm := s.vm }) hsame ha
  refine ⟨U, st, .threw s.heap.size, hrun, hend, ⟨by rw [hB], ⟨by omega, fun k hk hkk => ?_⟩, ⟨ce, by rw [← hB]; exact hce, hoc.vm, hoc.cls⟩, by show s.heap.size ≤ U.heap.size; omega, fun q h1 _ => hq q h1⟩, [], ⟨hwarm, hsame.weaken (fun x hx9 => by cases hx9) (by show 0 + 1 ≤ R.cells; omega) (by show 0 + 6 ≤ R.slots; omega)⟩, fun q hq9 => by cases hq9⟩
  by_cases hkn : k = n
  · subst hkn
    rw [jup_s] at hkk
    exact (jun_kn hkk).elim
  · rw [jup_n hkn] at hkk ⊢
    exact (hW.2 k (by omega) hkk).kept (hq _ (by show E.2.2.2 + k < _; omega))
end JTH
section JTE
variable {l : Launch} {E : jE} {cl : List vw_C} {tb : jTb} {Ts : List Jvm.Cond}
theorem jPt_blind {vals : List jv} {σ : Nat → jcell} {n : Nat} : FrameBlind (jPt E cl tb Ts vals σ n) := by
  intro a U g mk ⟨h, h1, h2, h3⟩
  exact ⟨jPc_blind a U g mk h, jLs.moved (u := U) (U := U.calling g mk a) (Vm.Alike.refl U.vm) h1, jLs.moved (u := U) (U := U.calling g mk a) (Vm.Alike.refl U.vm) h2, jtw_moved (u := U) (U := U.calling g mk a) (Vm.Alike.refl U.vm) h3⟩
/-- the entry of a method that throws -/
theorem jMetT_of {Y : jY} {own nm ds : String} {cc : ByteArray} {nL : Nat} {ret : Option FieldType} {rm : Room} {vals : List jv} {σ : Nat → jcell} {n : Nat} {cls : String} (hY : Y = (⟨own, nm, ds⟩, cc, nL, ret)) (hy : plainName own = true) (hlen : (lg_sl (vals.map (jc E))).length ≤ nL) (lv0 : List (Option jv)) (hlv : jent vals nL = lv0)
    (body : ∀ M : jM, M.2.1 = l → M.2.2.2.1 = rm → jX E own Ts cl tb nL false cc M → jTh E M.2.2.2.2.1 → M.2.2.2.2.2.2.2.2.2.exceptionTable.toList = [] → jF E cl nL M (jQT E cl M cls σ n) n 0 lv0 [] σ) : jMetT l E cl tb Ts Y rm vals σ n cls := by
  subst hlv
  subst hY
  refine MetFree.of_bodyS (code := cc) (maxLocals := nL) (ret := ret) hy ?_ ?_
  · intro args s m h hn
    obtain ⟨meth, c, h1, h2, h3, h4, h5, h6, -, -⟩ := Cond.code_spec hn (atoms_spec (ws := jws Ts (⟨own, nm, ds⟩, cc, nL, ret)) h _ List.mem_cons_self)
    exact ⟨meth, c, h1, h2, h3, h4, h5, h6⟩
  · intro p e s m args below meth c s₁ B hml hP _
    obtain ⟨⟨rfl, hW, hK⟩, hT⟩ := hP
    have hh0 : s₁.heap = s.heap := by rw [B.state]; rfl
    have hex : c.exceptionTable.toList = [] := by
      have h9 := B.noHandlers (atoms_spec (ws := jws Ts (⟨own, nm, ds⟩, cc, nL, ret)) B.pre _ List.mem_cons_self)
      rw [Array.isEmpty_iff] at h9
      rw [h9]
    have h := body (p, l, e, rm, s, m, (vals.map (jc E)).toArray, below, meth, c) rfl rfl
      ⟨B.exec, B.bytes, hml, findClass_of_methodNamed B.named, fun w hw => atoms_spec (ws := jws Ts (⟨own, nm, ds⟩, cc, nL, ret)) B.pre w (List.mem_cons_of_mem _ hw), hK, B.notSynchronized, fun hi => by cases hi⟩ hT hex
    have hl := lv_entry (vals.map (jc E)) (n := nL) hlen
    have h2 := h _ hW ⟨hl.1, hl.2.1, fun i v hi => by
      have h1 := jar_in (E := E) vals 0 i v (jent_at hi)
      rw [Nat.zero_add] at h1
      exact hl.2.2 _ h1⟩
    have h3 : W p l e rm s m (vals.map (jc E)).toArray below meth c s.heap [] 0 0 (jQT E cl (p, l, e, rm, s, m, (vals.map (jc E)).toArray, below, meth, c) cls σ n) (entryFrame m (vals.map (jc E)).toArray nL) := by
      rw [lg_entry_eq]
      exact h2
    obtain ⟨t, a1, o, b1, b2, b3⟩ := h3 s₁ hh0 (Stand.of_body B)
    exact ⟨t, o, a1, b1, b2, b3⟩
/-- a method with an exception table -/
def jwsW (Ts : List Jvm.Cond) (Y : jY) (hh : List (Nat × Nat × Nat × Nat)) : List Jvm.Cond := Jvm.Cond.codeWith Y.1 Y.2.1 Y.2.2.1 Y.2.2.2 hh :: jTA Ts
def jMetW (l : Launch) (E : jE) (cl : List vw_C) (tb : jTb) (Ts : List Jvm.Cond) (Y : jY) (hh : List (Nat × Nat × Nat × Nat)) (rm : Room) (vals : List jv) (σ : Nat → jcell) (n : Nat) (post : jPo) : Prop := Met l Y.1 (jwsW Ts Y hh) rm (jPt E cl tb Ts vals σ n) (jQc E cl post) rm.cells rm.slots (jA E)
theorem jMetW_of {Y : jY} {own nm ds : String} {cc : ByteArray} {nL : Nat} {ret : Option FieldType} {hh : List (Nat × Nat × Nat × Nat)} {rm : Room} {vals : List jv} {σ : Nat → jcell} {n : Nat} {post : jPo} (hY : Y = (⟨own, nm, ds⟩, cc, nL, ret)) (hy : plainName own = true) (hlen : (lg_sl (vals.map (jc E))).length ≤ nL) (lv0 : List (Option jv)) (hlv : jent vals nL = lv0)
    (body : ∀ M : jM, M.2.1 = l → M.2.2.2.1 = rm → jX E own Ts cl tb nL false cc M → M.2.2.2.2.2.2.2.2.1.sig.returnType = ret → jTh E M.2.2.2.2.1 → M.2.2.2.2.2.2.2.2.2.exceptionTable.toList.map (fun h => (h.startPc, h.endPc, h.handlerPc, h.catchType)) = hh → jJ E cl nL M (jQ E cl M post rm.cells rm.slots) n 0 0 0 lv0 [] σ) : jMetW l E cl tb Ts Y hh rm vals σ n post := by
  subst hlv
  subst hY
  refine va_MetW (cc := cc) (maxL := nL) (ret := ret) (hh := hh) hy rfl ?_
  intro p e s m args below meth c s₁ B hml hv
  obtain ⟨⟨rfl, hW, hK⟩, hT⟩ := hv
  have hex : c.exceptionTable.toList.map (fun h => (h.startPc, h.endPc, h.handlerPc, h.catchType)) = hh := by
    obtain ⟨m9, meth9, c9, hn9, hm9, hc9, -, -, he9, -⟩ := Cond.codeWith_spec (atoms_spec (ws := jwsW Ts (⟨own, nm, ds⟩, cc, nL, ret) hh) B.pre _ List.mem_cons_self)
    cases B.named.symm.trans hn9
    cases B.method.symm.trans hm9
    cases (Stand.of_body B).code.symm.trans hc9
    exact he9
  have h := body (p, l, e, rm, s, m, (vals.map (jc E)).toArray, below, meth, c) rfl rfl
    ⟨B.exec, B.bytes, hml, findClass_of_methodNamed B.named, fun w hw => atoms_spec (ws := jwsW Ts (⟨own, nm, ds⟩, cc, nL, ret) hh) B.pre w (List.mem_cons_of_mem _ hw), hK, B.notSynchronized, fun hi => by cases hi⟩ B.returns hT hex
  have hl := lv_entry (vals.map (jc E)) (n := nL) hlen
  rw [lg_entry_eq]
  exact h s.heap [] _ hW va_S.rf ⟨hl.1, hl.2.1, fun i v hi => by
    have h1 := jar_in (E := E) vals 0 i v (jent_at hi)
    rw [Nat.zero_add] at h1
    exact hl.2.2 _ h1⟩
end JTE
section JTR
variable {p : Program} {l : Launch} {e : Env} {R : Room} {s : State} {m : MethodId} {args : Array Value} {below : List Frame} {meth : Method} {c : Code} {T : State} {locs : List Loc} {cells slots : Nat}
/-- behind the invocation of a method that throws: the exception's note lies over the caller's frame -/
theorem jthrown {E : jE} {cl : List vw_C} {tb : jTb} {Ts : List Jvm.Cond} {Y : jY} {rc : Room} {vals : List jv} {σ : Nat → jcell} {n : Nat} {cls : String} (hM : jMetT l E cl tb Ts Y rc vals σ n cls) (X : Stand p l e R s m args below meth c T locs cells slots) {g : JFrame} (hg : g.method = m) {mk : MethodId} {av : Array Value}
    (happ : (headSpec (jws Ts Y) rc).appliesLoose Y.1 e.platform (T.calling g mk av) = true) (hP : jPt E cl tb Ts vals σ n av (T.calling g mk av)) :
    ∃ (V t : State) (L : List Loc), V.heap = t.heap ∧ Stand p l e R s m args below meth c V (locs ++ L) (cells + rc.cells) (slots + rc.slots) ∧ jQt E cl cls σ n av (T.calling g mk av) (.threw (E.2.2.2 + n)) t ∧ (∀ q ∈ L, jA E q.base) ∧ Steps p.tables e below (doInvoke e (T.setTop g) [] mk av).1 ((V.setTop g).pushFrame (.throwing (E.2.2.2 + n))) := by
  subst hg
  have h : At T g.method c below := X.here
  obtain ⟨mid, hmid⟩ := h.above
  obtain ⟨g0, hg0⟩ := Option.isSome_iff_exists.mp h.top
  obtain ⟨r, hr⟩ := State.topJava?_eq_some.mp hg0
  have hfr : (T.setTop g).frames = (.java g :: mid) ++ below := by rw [State.frames_setTop' g h.top, hmid]; rfl
  obtain ⟨o, t, hst, -, hend, hq0⟩ := Steps.callFree hM p X.admits X.cas X.clock (acts := []) hfr happ hP trivial
  have hq2 : jQt E cl cls σ n av (T.calling g mk av) o t ∧ ∃ L, jEt (T.calling g mk av) t L rc.cells rc.slots ∧ ∀ q ∈ L, jA E q.base := hq0
  obtain ⟨hq, L, ⟨hWt, q1, q2, q3, q4, q5, q6⟩, hL⟩ := hq2
  obtain rfl : o = .threw (E.2.2.2 + n) := hq.1
  rw [State.frames_setTop' g h.top] at hend
  have hft : t.frames = .throwing (E.2.2.2 + n) :: .java g :: T.frames.tail := hend
  have hWT : T.WarmedH t.vm := hWt
  have hVf : (({ T with heap := t.heap, slotsUsed := t.slotsUsed } : State).setVm t.vm).frames = .java g0 :: r := hr
  have hsh : t = ({ (T.calling g mk av).setFrames t.frames with heap := t.heap, slotsUsed := t.slotsUsed } : State).setVm t.vm := by
    have h9 : t = ({ t with vm := (T.calling g mk av).vm } : State).setVm t.vm := rfl
    rw [q1] at h9
    exact h9
  have ht : t = ((({ T with heap := t.heap, slotsUsed := t.slotsUsed } : State).setVm t.vm).setTop g).pushFrame (.throwing (E.2.2.2 + n)) := by
    refine hsh.trans ?_
    rw [hft, State.calling_eq h.top, State.setFrames_setFrames, State.pushFrame, State.frames_setTop _ hVf, State.setTop_of_frames _ hVf, State.setFrames_setFrames, hr]
    rfl
  have hsm : T.sameButNew ({ T with heap := t.heap, slotsUsed := t.slotsUsed } : State) L rc.cells rc.slots := by
    refine ⟨?_, q2, q3, q4, q5, q6⟩
    obtain ⟨z, hz, -⟩ := State.frames_cons hr
    show ({ T with heap := t.heap, slotsUsed := t.slotsUsed } : State) = { T.setFrames T.frames with heap := t.heap, slotsUsed := t.slotsUsed }
    rw [State.setFrames_self hz]
  refine ⟨(({ T with heap := t.heap, slotsUsed := t.slotsUsed } : State).setVm t.vm), t, L, rfl, ⟨X.admits, X.cas, X.clock, X.frames, X.room, X.hears, X.method, X.code, (X.here.setHeapUsed t.heap t.slotsUsed).setVm hWT.alike, X.tail, State.WarmedH.trans X.warmed hWT, X.limits, X.bytes, X.same.trans (hsm.setVm s.vm)⟩, hq, hL, ?_⟩
  rw [← ht]
  exact hst
theorem jfinds {U : State} {g : JFrame} {x : ExceptionTableEntry} {a : Addr} {ce : Cell} {k1 : Class} (hm : U.vm.method? g.method = some meth) (hc : meth.code = some c) (hxt : c.exceptionTable.toList = [x]) (hcov : covers x g.pc = true) (h0 : x.catchType ≠ 0) (hlk : U.vm.ClassLinks e.platform g.method.cls x.catchType ce.cls) (hce : U.heap[a]? = some ce) (hvm : ce.vm = .none) (hk1 : (U.vm.noted g.method.cls x.catchType (.cls ce.cls)).classes[ce.cls]? = some k1) (hfit : (U.vm.noted g.method.cls x.catchType (.cls ce.cls)).assignable ce.cls ce.cls = true)
    (Q : Handler → Pre) (C : CtlPost) (d : Bool) (acts : List Action) : wp (findHandler g a) Q C e d acts U ↔ Q (.found x.handlerPc) d acts (U.setVm (U.vm.noted g.method.cls x.catchType (.cls ce.cls))) := by
  have hv : ∀ k, ce.vm ≠ .statics k := fun k h9 => by rw [hvm] at h9; cases h9
  obtain ⟨hres, hans⟩ := (resolveClass_links e.toSetting hlk).op (op := VmOp.resolveClass g.method.cls x.catchType) rfl
  rw [W.findHandler_eq hm hc, hxt]
  simp only [covers] at hcov
  simp [findHandler.go, hcov, h0, hres, hans, hce, hv, hk1, hfit, VmOp.dirties, VmOp.acts]
/-- the one row of the method's table takes the exception: the walk goes on at its handler, whether or not the row's type had been resolved -/
theorem jcaught (X : Stand p l e R s m args below meth c T locs cells slots) {a : Addr} {g : JFrame} (hg : g.method = m) {own cls : String} (hown : s.vm.findClass own = some m.cls) {x : ExceptionTableEntry} (hxt : c.exceptionTable.toList = [x]) (hcov : covers x g.pc = true) (h0 : x.catchType ≠ 0)
    (hlink : (Jvm.Cond.classLink own x.catchType cls).before args s = true) {ce : Cell} (hcls : s.vm.findClass cls = some ce.cls) (hce : T.heap[a]? = some ce) (hvm : ce.vm = .none) (hself : s.vm.assignable ce.cls ce.cls = true) :
    ∃ vm', Stand p l e R s m args below meth c (T.setVm vm') locs cells slots ∧ ∀ tg, Steps p.tables e below ((T.setVm vm').setTop { g with pc := x.handlerPc, stack := [.ref a] }) tg → Steps p.tables e below ((T.setTop g).pushFrame (.throwing a)) tg := by
  subst hg
  have hpl : e.platform.magicAccessors = ({} : Platform).magicAccessors := by rw [X.admits.platform]
  obtain ⟨cT, hcT, hlk⟩ := Cond.classLink_spec hown hlink e.platform hpl
  cases hcls.symm.trans hcT
  obtain ⟨dk, _, _, kt, hd, _, _, _, _, hkt, _, hfree⟩ := hlk.here
  have hlkT := X.warmed.classLinks hlk
  have hW' : s.WarmedH (T.vm.noted g.method.cls x.catchType (.cls ce.cls)) := X.warmed.noted hd hfree (State.rightAt_cls hlk)
  obtain ⟨k1, hk1, -⟩ := hW'.alike.2.2 _ _ hkt
  have hfit : (T.vm.noted g.method.cls x.catchType (.cls ce.cls)).assignable ce.cls ce.cls = true := by rw [hW'.alike.assignable]; exact hself
  refine ⟨T.vm.noted g.method.cls x.catchType (.cls ce.cls), X.noted hW', fun tg hrest => ?_⟩
  obtain ⟨hgo, hin⟩ := X.here.throwing a
  refine Steps.head hgo hin ?_
  obtain ⟨g0, hg0⟩ := Option.isSome_iff_exists.mp X.here.top
  obtain ⟨r, hr⟩ := State.topJava?_eq_some.mp hg0
  have hstep : (stepThrowing e ((T.setTop g).pushFrame (.throwing a)) a (.java g :: r)).Is ((((T.setTop g).pushFrame (.throwing a)).setVm (T.vm.noted g.method.cls x.catchType (.cls ce.cls))).setFrames (.java { g with pc := x.handlerPc, stack := [.ref a] } :: r)) [] := by
    have hfind : ∀ (Q : Handler → Pre) (C : CtlPost) (d : Bool) (acts : List Action), wp (findHandler g a) Q C e d acts ((T.setTop g).pushFrame (.throwing a)) ↔ Q (.found x.handlerPc) d acts (((T.setTop g).pushFrame (.throwing a)).setVm (T.vm.noted g.method.cls x.catchType (.cls ce.cls))) := jfinds (e := e) (U := (T.setTop g).pushFrame (.throwing a)) (a := a) (meth := meth) (c := c) X.method' X.code hxt hcov h0 hlkT hce hvm hk1 hfit
    simp only [stepThrowing, searchFrame, vmDo]
    generalize hgo9 : Sem.go _ e false [] ((T.setTop g).pushFrame (.throwing a)) = res
    obtain ⟨as, rfl, has⟩ := Sem.eq_ok_of hgo9 (a := Handler.found x.handlerPc) (s' := ((T.setTop g).pushFrame (.throwing a)).setVm (T.vm.noted g.method.cls x.catchType (.cls ce.cls))) (acts' := []) (by simp [hfind _ _ _ _])
    exact ⟨rfl, has⟩
  rw [stepThread_throwing (frames_entered X.here.top _), show T.frames.tail = r by rw [hr]; rfl, hstep.1]
  have hr' : (T.setVm (T.vm.noted g.method.cls x.catchType (.cls ce.cls))).frames = .java g0 :: r := hr
  rw [State.setTop_of_frames _ hr'] at hrest
  have e1 : (((T.setTop g).pushFrame (.throwing a)).setVm (T.vm.noted g.method.cls x.catchType (.cls ce.cls))).setFrames (.java { g with pc := x.handlerPc, stack := [.ref a] } :: r) = (T.setVm (T.vm.noted g.method.cls x.catchType (.cls ce.cls))).setFrames (.java { g with pc := x.handlerPc, stack := [.ref a] } :: r) := by
    rw [State.pushFrame, State.setTop_of_frames _ hr, State.setFrames_setFrames]
    exact State.setFrames_setFrames (T.setVm (T.vm.noted g.method.cls x.catchType (.cls ce.cls))) _ _
  rw [e1]
  exact hrest
end JTR
section JTC
variable {E : jE} {own : String} {Ts : List Jvm.Cond} {cl : List vw_C} {tb : jTb} {nL : Nat} {ini : Bool} {cc : ByteArray} {M : jM} {Q : State → Prop} {n cells slots : Nat}
/-- a method of an object of ours is called that throws; the exception is caught here -/
theorem jk_VT (X : jX E own Ts cl tb nL ini cc M) {rm rc : Room} (hR : M.2.2.2.1 = rm) (hTh : jTh E M.2.2.2.2.1) {pc i k ci a : Nat} {Y : jY} (hd : decode cc pc = .ok (.invokevirtual i, 3)) (hw : Jvm.Cond.methodLink own i Y.1 ∈ jTA Ts) (hm : jmth Ts Y k) (hin : Jvm.Cond.instanceMethod Y.1 ∈ jTA Ts) (hse : Jvm.Cond.selects Y.1.cls Y.1 Y.1 ∈ jTA Ts) {q : vw_C} (hq : cl[ci]? = some q) (hqc : q.1 = Y.1.cls) {lv : List (Option jv)} {r vals : List jv} {σ : Nat → jcell} {fs : List jv} (ha : a < n) (he : σ a = .inr (ci, fs)) {cls : String} (hM : jMetT M.2.1 E cl tb Ts Y rc (.inr (.inr (some (.inl a))) :: vals) σ n cls) {st : List jv} (hs : st = vals.reverse ++ .inr (.inr (some (.inl a))) :: r) (hk : vals.length = k)
    (hf : rc.frames + 1 ≤ rm.frames ∧ 8 + (Y.2.2.1 + 11) + rc.locals ≤ rm.locals) (hc : cells + rc.cells ≤ rm.cells ∧ slots + rc.slots ≤ rm.slots) (hz : (r.map jcat).sum ≤ 8)
    (x : ExceptionTableEntry) (hxt : M.2.2.2.2.2.2.2.2.2.exceptionTable.toList = [x]) (hcov : covers x pc = true) (h0 : x.catchType ≠ 0) (hl : Jvm.Cond.classLink own x.catchType cls ∈ jTA Ts) (hca : Jvm.Cond.castable cls cls ∈ jTx)
    (kk : jJ E cl nL M Q (n + 1) (cells + rc.cells) (slots + rc.slots) x.handlerPc lv [.inr (.inr (some (.inl n)))] (jup σ n jun)) : jJ E cl nL M Q n cells slots pc lv st σ := by
  subst hs
  obtain ⟨p, l, e, R, s, m, args, below, meth, c⟩ := M
  dsimp only at hR hTh hxt hM
  subst hR
  obtain ⟨hx, hb, hml, ho, hts, hK, -, -⟩ := X
  dsimp only at hx hb hml ho hts hK
  obtain ⟨h1, h2, h3, h4, h5⟩ := hm
  intro H locs ls hW hS hL
  dsimp only at hS ⊢
  have hP1 := jW_one hW ha (by rw [he]; trivial)
  rw [he] at hP1
  obtain ⟨cellB, hcB, hoB, hclB⟩ := va_recv hK.1 hP1 hq (q0 := 0) rfl
  rw [hqc] at hclB
  have hstk : ((vals.reverse ++ .inr (.inr (some (.inl a))) :: r).map (jc E)) = (vals.map (jc E)).reverse ++ .ref (E.2.2.2 + a) :: r.map (jc E) := by rw [List.map_append, List.map_reverse]; rfl
  intro T hT Xs
  obtain ⟨mk, methM, hnamed, hmethM, hstM, habM⟩ := Cond.instanceMethod_spec (hts _ hin)
  obtain ⟨methM', cM, hmethM', -, -, -, -, -, -, hsigM⟩ := Cond.code_spec hnamed (hts _ h1)
  cases hmethM.symm.trans hmethM'
  obtain ⟨c2, r2, m2, q1, q2, q3, q4, kP, hkP, hkPi⟩ := Cond.selects_spec (hts _ hse)
  cases hclB.symm.trans q1
  cases (State.methodFound?_of_named hnamed ⟨h3, h4⟩).symm.trans q2
  cases hnamed.symm.trans q3
  have hselP : selectMethod e.platform s.vm cellB.cls mk = .method mk := by rw [Launch.admits_selectMethod Xs.admits]; exact q4
  have hln : (vals.map (jc E)).length = methM.sig.parameters.length := by
    rw [hsigM] at h5
    rw [List.length_map, hk]
    exact (Option.some.inj h5).symm
  obtain ⟨vm₁, X₁, hstep₁⟩ := Xs.invokevirtual hx ho (hts _ hw) hnamed hmethM hstM hkP hkPi ⟨h3, h4⟩ (a := E.2.2.2 + a) (cell := cellB) (by rw [hT]; exact hcB)
    (fun z h => by rw [h] at hoB; cases hoB) hselP hmethM habM hkP hkPi (g := F0 m pc ls ((vals.reverse ++ .inr (.inr (some (.inl a))) :: r).map (jc E))) rfl (argsL := vals.map (jc E)) (rest := r.map (jc E)) hln hstk (by rw [hb]; exact hd)
  obtain ⟨kY, hkY, -⟩ := className_of_methodNamed (X₁.named hnamed)
  have hiY : kY.init = .initialized := Cond.initialized_spec (findClass_of_methodNamed (X₁.named hnamed)) hkY (word_at (a' := #[]) X₁.warmed (Or.inl (by first | rfl | simp [Jvm.Cond.onTables, Jvm.Cond.keeps, Jvm.Cond.steady])) (hts _ h2))
  obtain ⟨mY, cY, hmY, hcY, -, hlY, -, -, -, -⟩ := Cond.code_spec (X₁.named hnamed) (pay_in hts (jws_in h1) _ List.mem_cons_self #[] (T.setVm vm₁) X₁.warmed)
  have hpre : jPt E cl tb Ts (.inr (.inr (some (.inl a))) :: vals) σ n (Value.ref (E.2.2.2 + a) :: vals.map (jc E)).toArray (T.setVm vm₁) := ⟨⟨rfl, by show jW E cl σ n T.heap; rw [hT]; exact hW, jK_go hK hS (U := T.setVm vm₁) hT X₁.warmed⟩, jTh_go hTh hS (U := T.setVm vm₁) hT X₁.warmed⟩
  have happ : (headSpec (jws Ts Y) rc).appliesLoose Y.1 e.platform ((T.setVm vm₁).calling { F0 m pc ls ((vals.reverse ++ .inr (.inr (some (.inl a))) :: r).map (jc E)) with stack := r.map (jc E) } mk (Value.ref (E.2.2.2 + a) :: vals.map (jc E)).toArray) = true :=
    Spec.appliesLoose_calling (g := { F0 m pc ls ((vals.reverse ++ .inr (.inr (some (.inl a))) :: r).map (jc E)) with stack := r.map (jc E) }) X₁.here (by rw [hb]; exact hd) (X₁.named hnamed) hkY hiY
      (X₁.room_calling (g := { F0 m pc ls ((vals.reverse ++ .inr (.inr (some (.inl a))) :: r).map (jc E)) with stack := r.map (jc E) }) (R' := (headSpec (jws Ts Y) rc).room) (hL.1.trans hml.symm) hmY hcY hf.1 (by
        have h8 : 2 * (F0 m pc ls (r.map (jc E))).monitorRoom + ((r.map (jc E)).map fun v => v.category).sum ≤ 8 := lv_room (by rw [jcat_sum]; exact hz)
        have h9 := hf.2
        rw [hlY]
        show 2 * (F0 m pc ls (r.map (jc E))).monitorRoom + ((r.map (jc E)).map fun v => v.category).sum + (Y.2.2.1 + 11) + rc.locals ≤ R.locals
        omega) hc.1 hc.2)
      (atoms_intro fun w hw9 => pay_in hts (jws_in h1) w hw9 _ _ X₁.warmed)
  obtain ⟨U', t, L, e1, X', hq9, hL9, hsteps⟩ := jthrown hM X₁ (g := { F0 m pc ls ((vals.reverse ++ .inr (.inr (some (.inl a))) :: r).map (jc E)) with stack := r.map (jc E) }) rfl happ (jPt_blind _ _ _ _ hpre)
  obtain ⟨-, hW', ⟨ce, hce, hcv, hcc⟩, hF1, hF2⟩ := hq9
  obtain ⟨c3, cT, hc3, hcT, hasg⟩ := Cond.castable_spec (jTh_word (args := args) hTh _ hca)
  cases hc3.symm.trans hcT
  have hcc' : s.vm.findClass cls = some ce.cls := by
    have h9 : (T.setVm vm₁).vm.findClass cls = some ce.cls := hcc
    rw [X₁.warmed.alike.findClass] at h9
    exact h9
  cases hc3.symm.trans hcc'
  obtain ⟨vm', XV, stV⟩ := jcaught X' (a := E.2.2.2 + n) (g := { F0 m pc ls ((vals.reverse ++ .inr (.inr (some (.inl a))) :: r).map (jc E)) with stack := r.map (jc E) }) rfl ho hxt hcov h0 (hts _ hl) hcc' (by rw [e1]; exact hce) hcv hasg
  have hz1 : T.heap.size ≤ t.heap.size := hF1
  have hz2 : ∀ q : Nat, q < T.heap.size → ¬ jA E q → t.heap[q]? = T.heap[q]? := hF2
  obtain ⟨t9, a1, b1⟩ := kk U'.heap (locs ++ L) ls (by rw [e1]; exact hW') ⟨by
      have h7 := hS.1
      rw [e1]
      rw [← hT] at h7
      exact Nat.le_trans h7 hz1, fun q g1 g2 => by
      have h7 := hS.1
      rw [e1, hz2 q (by rw [hT]; exact Nat.lt_of_lt_of_le g1 h7) g2, hT]
      exact hS.2.1 q g1 g2, fun q hq8 => by
      rcases List.mem_append.mp hq8 with h | h
      · exact hS.2.2 q h
      · exact hL9 q h⟩ hL (U'.setVm vm') rfl XV
  refine ⟨t9, hstep₁ _ fun acts => ?_, b1⟩
  rw [doInvoke_state]
  exact hsteps.trans (stV t9 a1)
/-- a static method with an exception table is called -/
theorem jk_SW (X : jX E own Ts cl tb nL ini cc M) {rm rc : Room} (hR : M.2.2.2.1 = rm) (hTh : jTh E M.2.2.2.2.1) {pc i k : Nat} {Y : jY} {hh : List (Nat × Nat × Nat × Nat)} (hd : decode cc pc = .ok (.invokestatic i, 3)) (hw : Jvm.Cond.methodLink own i Y.1 ∈ jTA Ts) (hco : Jvm.Cond.codeWith Y.1 Y.2.1 Y.2.2.1 Y.2.2.2 hh ∈ jTA Ts) (hini : Jvm.Cond.initialized Y.1.cls ∈ jTA Ts) (hne : Y.1.cls ≠ "java/lang/invoke/MethodHandle" ∧ Y.1.cls ≠ "java/lang/invoke/VarHandle") (hpa : (parseMethodDescriptor Y.1.desc).map (fun d => d.parameters.length) = some k) (hst : Jvm.Cond.static Y.1 ∈ jTA Ts) {lv : List (Option jv)} {r vals : List jv} {σ : Nat → jcell} {post : jPo} (hM : jMetW M.2.1 E cl tb Ts Y hh rc vals σ n post) {st : List jv} (hs : st = vals.reverse ++ r) (hk : vals.length = k)
    (hf : rc.frames + 1 ≤ rm.frames ∧ 8 + (Y.2.2.1 + 11) + rc.locals ≤ rm.locals) (hc : cells + rc.cells ≤ rm.cells ∧ slots + rc.slots ≤ rm.slots) (hz : (r.map jcat).sum ≤ 8)
    (kk : ∀ (v : Option jv) (σ' : Nat → jcell) (n' : Nat), post v σ' n' → jJ E cl nL M Q n' (cells + rc.cells) (slots + rc.slots) (pc + 3) lv (v.toList ++ r) σ') : jJ E cl nL M Q n cells slots pc lv st σ := by
  subst hs
  obtain ⟨p, l, e, R, s, m, args, below, meth, c⟩ := M
  dsimp only at hR hTh hM
  subst hR
  obtain ⟨hx, hb, hml, ho, hts, hK, -, -⟩ := X
  dsimp only at hx hb hml ho hts hK
  intro H locs ls hW hS hL
  dsimp only at hS ⊢
  have hgood : GoodIn (jTA Ts) (jwsW Ts Y hh) := by
    intro w hw9
    rcases List.mem_cons.mp hw9 with rfl | hw9
    · exact ⟨hco, jgood_or (List.mem_filter.mp hco).2⟩
    · exact ⟨hw9, jgood_or (List.mem_filter.mp hw9).2⟩
  have hstk : ((vals.reverse ++ r).map (jc E)) = (vals.map (jc E)).reverse ++ r.map (jc E) := by rw [List.map_append, List.map_reverse]
  have hgo : ∀ (v : Option jv) (σ' : Nat → jcell) (n' : Nat), post v σ' n' → ∀ (H1 : Heap) (locs1 : List Loc), jW E cl σ' n' H1 → va_S (jA E) s.heap H1 locs1 → W p l e R s m args below meth c H1 locs1 (cells + rc.cells) (slots + rc.slots) Q (F0 m (pc + 3) ls ((v.map (jc E)).toList ++ r.map (jc E))) := by
    intro v σ' n' hp H1 locs1 hW1 hS1
    have h := kk v σ' n' hp H1 locs1 ls hW1 hS1 hL
    have e1 : (v.toList ++ r).map (jc E) = (v.map (jc E)).toList ++ r.map (jc E) := by cases v <;> simp
    rw [e1] at h
    exact h
  have hBk : Back l R p e below s args Y.1 3 8 (PreOf R rc.cells rc.slots (jPt E cl tb Ts vals σ n)) (PostOf (jQc E cl post) rc.cells rc.slots (jA E)) := va_backW (hh := hh) (bytes := Y.2.1) (maxL := Y.2.2.1) (ret := Y.2.2.2) hM jPt_blind rfl rfl hf.1 hf.2 (pay_in hts hgood) List.mem_cons_self (fun a' U hW9 => word_at hW9 (Or.inl (by first | rfl | simp [Jvm.Cond.onTables, Jvm.Cond.keeps, Jvm.Cond.steady])) (hts _ hini))
  obtain ⟨mk, methM, cM, hnamed, hmethM, -, -, -, -, -, -, hsigM⟩ := Cond.codeWith_spec (hts _ hco)
  have hstatic : methM.isStatic = true := Cond.static_spec hnamed hmethM (hts _ hst)
  obtain ⟨kP, hkP, -⟩ := className_of_methodNamed hnamed
  have hinitP : kP.init = .initialized := Cond.initialized_spec (findClass_of_methodNamed hnamed) hkP (hts _ hini)
  have hln : (vals.map (jc E)).length = methM.sig.parameters.length := by
    rw [hsigM] at hpa
    rw [List.length_map, hk]
    exact (Option.some.inj hpa).symm
  have hrun : va_Run p l e R s m args below meth c H locs cells slots rc.cells rc.slots (F0 m pc ls ((vals.reverse ++ r).map (jc E))) (r.map (jc E)) (jQc E cl post (vals.map (jc E)).toArray) (jA E) := by
    intro T hT Xs
    obtain ⟨vm₁, X₁, hstep₁⟩ := Xs.invokestatic hx ho (hts _ hw) hnamed hmethM hstatic hkP hinitP hne (g := F0 m pc ls ((vals.reverse ++ r).map (jc E))) rfl (argsL := vals.map (jc E)) (rest := r.map (jc E)) hln hstk (by rw [hb]; exact hd)
    obtain ⟨v, ⟨U', l2, c2, s2⟩, X', ⟨g', mk', t, L, e1, e2, hq, h1, hL9, h2, h3⟩, hsteps⟩ := hBk m meth c ⟨T.setVm vm₁, locs, cells, slots⟩ { F0 m pc ls ((vals.reverse ++ r).map (jc E)) with stack := r.map (jc E) } (.invokestatic i) mk (vals.map (jc E)).toArray X₁ rfl (hL.1.trans hml.symm) (by rw [hb]; exact hd)
      (lv_room (by rw [jcat_sum]; exact hz)) (X₁.named hnamed) ⟨hc.1, hc.2, ⟨rfl, by show jW E cl σ n T.heap; rw [hT]; exact hW, jK_go hK hS (U := T.setVm vm₁) hT X₁.warmed⟩, jTh_go hTh hS (U := T.setVm vm₁) hT X₁.warmed⟩
    dsimp only [Pt.U, Pt.locs, Pt.cells, Pt.slots] at X' e1 e2 h1 h2 h3 hsteps
    subst h1; subst h2; subst h3
    exact ⟨v, (T.setVm vm₁).calling g' mk' (vals.map (jc E)).toArray, t, U', L, hT, X', hL9, e1, e2, hq, fun target h => hstep₁ _ fun acts => by rw [doInvoke_state]; exact hsteps.trans h⟩
  exact jk_after hrun hS hgo
theorem jk_SWg (X : jX E own Ts cl tb nL ini cc M) {rm rc : Room} (hR : M.2.2.2.1 = rm) (hTh : jTh E M.2.2.2.2.1) {pc i k : Nat} {Y : jY} {hh : List (Nat × Nat × Nat × Nat)} (hd : decode cc pc = .ok (.invokestatic i, 3)) (hw : Jvm.Cond.methodLink own i Y.1 ∈ jTA Ts) (hco : Jvm.Cond.codeWith Y.1 Y.2.1 Y.2.2.1 Y.2.2.2 hh ∈ jTA Ts) (hini : Jvm.Cond.initialized Y.1.cls ∈ jTA Ts) (hne : Y.1.cls ≠ "java/lang/invoke/MethodHandle" ∧ Y.1.cls ≠ "java/lang/invoke/VarHandle") (hpa : (parseMethodDescriptor Y.1.desc).map (fun d => d.parameters.length) = some k) (hst : Jvm.Cond.static Y.1 ∈ jTA Ts) {lv : List (Option jv)} {r vals : List jv} {σ : Nat → jcell} {post : jPo} (hM : jMetW M.2.1 E cl tb Ts Y hh rc vals σ n post) {st : List jv} (hs : st = vals.reverse ++ r) (hk : vals.length = k)
    (hf : rc.frames + 1 ≤ rm.frames ∧ 8 + (Y.2.2.1 + 11) + rc.locals ≤ rm.locals) {c' s' : Nat} (hc' : cells + rc.cells = c') (hs' : slots + rc.slots = s') (hc : c' ≤ rm.cells ∧ s' ≤ rm.slots) (hz : (r.map jcat).sum ≤ 8) {pc' : Nat} (hp : pc + 3 = pc')
    (kk : ∀ (v : Option jv) (σ' : Nat → jcell) (n' : Nat), post v σ' n' → jJ E cl nL M Q n' c' s' pc' lv (v.toList ++ r) σ') : jJ E cl nL M Q n cells slots pc lv st σ := by
  subst hc'; subst hs'; subst hp
  exact jk_SW X hR hTh hd hw hco hini hne hpa hst hM hs hk hf hc hz kk
/-- the script is read -/
theorem jk_sld (X : jX E own Ts cl tb nL ini cc M) {pc : Nat} (hd : decode cc pc = .ok (.iaload, 1)) {j L : Nat} {xs : Nat → Int32} (hX : va_X (E.2.2.1 j) L xs M.2.2.2.2.1 M.2.2.2.2.1.heap) (hbl : E.2.2.1 j < E.2.2.2) {i : Int32} (hi : vp_in i L) {lv : List (Option jv)} {r : List jv} {σ : Nat → jcell} (k : jJ E cl nL M Q n cells slots (pc + 1) lv (.inl (xs i.toNatClampNeg) :: r) σ) : jJ E cl nL M Q n cells slots pc lv (.inl i :: .inr (.inr (some (.inr j))) :: r) σ := by
  obtain ⟨p, l, e, R, s, m, args, below, meth, c⟩ := M
  obtain ⟨hx, hb, -⟩ := X
  dsimp only at hx hb hX
  intro H locs ls hW hS hL
  dsimp only at hS ⊢
  have hlt : E.2.2.1 j < s.heap.size := by
    obtain ⟨scr, h1, -⟩ := hX
    exact (Array.getElem?_eq_some_iff.mp h1).1
  obtain ⟨scr, h1, h2, h3, h4, h5⟩ := hX.kept (hS.2.1 _ hlt (fun h9 => absurd h9 (Nat.not_le.mpr hbl)))
  have h8 : ¬ (i < 0 ∨ L ≤ i.toNatClampNeg) := hi
  exact W.iald (g := F0 m pc ls ((.inl i :: .inr (.inr (some (.inr j))) :: r : List jv).map (jc E))) hx hb h1 h2 h3 (by rw [h4]; exact h8) (h5 _ (by omega)) rfl rfl hd (k H locs ls hW hS hL)
theorem jk_slen (X : jX E own Ts cl tb nL ini cc M) {pc : Nat} (hd : decode cc pc = .ok (.arraylength, 1)) {j L : Nat} {xs : Nat → Int32} (hX : va_X (E.2.2.1 j) L xs M.2.2.2.2.1 M.2.2.2.2.1.heap) (hbl : E.2.2.1 j < E.2.2.2) {lv : List (Option jv)} {r : List jv} {σ : Nat → jcell} (k : jJ E cl nL M Q n cells slots (pc + 1) lv (.inl (Int32.ofNat L) :: r) σ) : jJ E cl nL M Q n cells slots pc lv (.inr (.inr (some (.inr j))) :: r) σ := by
  obtain ⟨p, l, e, R, s, m, args, below, meth, c⟩ := M
  obtain ⟨hx, hb, -⟩ := X
  dsimp only at hx hb hX
  intro H locs ls hW hS hL
  dsimp only at hS ⊢
  have hlt : E.2.2.1 j < s.heap.size := by
    obtain ⟨scr, h1, -⟩ := hX
    exact (Array.getElem?_eq_some_iff.mp h1).1
  obtain ⟨scr, h1, h2, h3, h4, h5⟩ := hX.kept (hS.2.1 _ hlt (fun h9 => absurd h9 (Nat.not_le.mpr hbl)))
  exact W.alen (g := F0 m pc ls ((.inr (.inr (some (.inr j))) :: r : List jv).map (jc E))) (n := Int32.ofNat L) hx hb h1 h2 (by rw [h4]) rfl rfl hd (k H locs ls hW hS hL)
end JTC
