/-! the static check of an instruction: what it decodes to, its word in the tables -/
def jkd (t : Option FieldType) : Nat := match t with
  | some .int => 0
  | some .boolean => 1
  | some .long => 2
  | some (.object _) => 3
  | some (.array _) => 3
  | _ => 9
/-- the word of a field's link: its own, or that of a nest mate's private field -/
def jlk (Ts : List Jvm.Cond) (wi : Nat) (own : String) (i : Nat) (ref nm ds : String) : Bool := match Ts[wi]? with
  | some (Jvm.Cond.fieldLink a b c e f) => decide (a = own) && decide (b = i) && decide (c = ref) && decide (e = nm) && decide (f = ds)
  | some (Jvm.Cond.fieldLinkNest a b c e f _) => decide (a = own) && decide (b = i) && decide (c = ref) && decide (e = nm) && decide (f = ds)
  | _ => false
theorem jlk_or {Ts : List Jvm.Cond} {wi : Nat} {own : String} {i : Nat} {ref nm ds : String} (h : jlk Ts wi own i ref nm ds = true) : Jvm.Cond.fieldLink own i ref nm ds ∈ jTA Ts ∨ ∃ host, Jvm.Cond.fieldLinkNest own i ref nm ds host ∈ jNW Ts := by
  unfold jlk at h
  split at h
  next hw =>
    simp only [Bool.and_eq_true, decide_eq_true_eq] at h
    obtain ⟨⟨⟨⟨rfl, rfl⟩, rfl⟩, rfl⟩, rfl⟩ := h
    exact Or.inl (jTA_in hw rfl)
  next hw =>
    simp only [Bool.and_eq_true, decide_eq_true_eq] at h
    obtain ⟨⟨⟨⟨rfl, rfl⟩, rfl⟩, rfl⟩, rfl⟩ := h
    exact Or.inr ⟨_, List.mem_filter.mpr ⟨List.mem_of_getElem? hw, rfl⟩⟩
  next => cases h
def jokF (own : String) (Ts : List Jvm.Cond) (cl : List vw_C) (i : Nat) (py : jP) : Bool := match cl[py.1]? with
  | some q => decide (py.2.1 < q.2.2) && jlk Ts py.2.2.1 own i (q.2.1 py.2.1).1 (q.2.1 py.2.1).2.1 (q.2.1 py.2.1).2.2.1
  | none => false
def jokW (own : String) (Ts : List Jvm.Cond) (cl : List vw_C) (ini : Bool) (i : Nat) (py : jP) : Bool := match cl[py.1]? with
  | some q => (!(q.2.1 py.2.1).2.2.2 || (ini && decide ((q.2.1 py.2.1).1 = own) && decide (Ts[py.2.2.1]? = some (Jvm.Cond.fieldLink own i (q.2.1 py.2.1).1 (q.2.1 py.2.1).2.1 (q.2.1 py.2.1).2.2.1)))) && decide (jkd (parseFieldDescriptor (q.2.1 py.2.1).2.2.1) = py.2.2.2.1.toNatClampNeg)
  | none => false
def jokS (own : String) (Ts : List Jvm.Cond) (tb : jTb) (i : Nat) (py : jP) : Bool := match tb py.1 with
  | some q => decide (Ts[py.2.2.1]? = some (Jvm.Cond.fieldLink own i q.1 q.2.1 q.2.2.1))
  | none => false
def jok1 (own : String) (Ts : List Jvm.Cond) (cl : List vw_C) (tb : jTb) (nL : Nat) (ini : Bool) (pc : Nat) (I : Instr) (ln : Nat) (py : jP) : Bool := match I with
  | .iconst i => decide (ln = 1) && decide (Int32.ofInt i = py.2.2.2.1)
  | .bipush i => decide (ln = 2) && decide ((Int8.ofInt i).toInt32 = py.2.2.2.1)
  | .sipush i => decide (ln = 3) && decide ((Int16.ofInt i).toInt32 = py.2.2.2.1)
  | .ldc i => decide (ln = 2) && decide (Ts[py.2.2.1]? = some (Jvm.Cond.constant own i py.2.2.2.1))
  | .lconst i => decide (ln = 1) && decide (Int64.ofNat (i : Nat) = py.2.2.2.2)
  | .ldc2_w i => decide (ln = 3) && decide (Ts[py.2.2.1]? = some (Jvm.Cond.constantLong own i py.2.2.2.2))
  | .iload_n i => decide (ln = 1) && decide (i.val = py.1)
  | .lload_n i => decide (ln = 1) && decide (i.val = py.1)
  | .aload_n i => decide (ln = 1) && decide (i.val = py.1)
  | .iload _ => decide (ln = 2)
  | .lload _ => decide (ln = 2)
  | .aload _ => decide (ln = 2)
  | .istore i => decide (ln = 2) && decide (i < nL)
  | .astore i => decide (ln = 2) && decide (i < nL)
  | .lstore i => decide (ln = 2) && decide (i + 1 < nL)
  | .istore_n i => decide (ln = 1) && decide (i.val < nL) && decide (i.val = py.1)
  | .astore_n i => decide (ln = 1) && decide (i.val < nL) && decide (i.val = py.1)
  | .lstore_n i => decide (ln = 1) && decide (i.val + 1 < nL) && decide (i.val = py.1)
  | .iinc i z => decide (ln = 3) && decide (i < nL) && decide (Int32.ofInt z = py.2.2.2.1)
  | .ifCond _ z => decide (ln = 3) && decide ((pc : Int) + z = (py.1 : Int))
  | .if_icmp _ z => decide (ln = 3) && decide ((pc : Int) + z = (py.1 : Int))
  | .ifnull z => decide (ln = 3) && decide ((pc : Int) + z = (py.1 : Int))
  | .ifnonnull z => decide (ln = 3) && decide ((pc : Int) + z = (py.1 : Int))
  | .goto z => decide (ln = 3) && decide ((pc : Int) + z = (py.1 : Int))
  | .getfield i => decide (ln = 3) && jokF own Ts cl i py
  | .putfield i => decide (ln = 3) && jokF own Ts cl i py && jokW own Ts cl ini i py
  | .getstatic i => decide (ln = 3) && jokS own Ts tb i py
  | .invokevirtual _ => true
  | .invokespecial _ => true
  | .invokestatic _ => true
  | .new _ => true
  | .newarray _ => true
  | .tableswitch _ _ _ _ => true
  | .lookupswitch _ _ => true
  | .ldc_w _ => true
  | .checkcast _ => true
  | .if_acmp _ _ => true
  | _ => decide (ln = 1)
def jok (own : String) (Ts : List Jvm.Cond) (cl : List vw_C) (tb : jTb) (nL : Nat) (ini : Bool) (cc : ByteArray) (pc : Nat) (x : jI) : Bool := decide (decode cc pc = .ok (x.1, x.2.1)) && jok1 own Ts cl tb nL ini pc x.1 x.2.1 x.2.2
def jokL (own : String) (Ts : List Jvm.Cond) (cl : List vw_C) (tb : jTb) (nL : Nat) (ini : Bool) (cc : ByteArray) : Nat → List jI → Bool
  | _, [] => true
  | pc, x :: r => jok own Ts cl tb nL ini cc pc x && jokL own Ts cl tb nL ini cc (pc + x.2.1) r
theorem jokL_app {own : String} {Ts : List Jvm.Cond} {cl : List vw_C} {tb : jTb} {nL : Nat} {ini : Bool} {cc : ByteArray} : ∀ (a b : List jI) (pc : Nat), jokL own Ts cl tb nL ini cc pc (a ++ b) = true → jokL own Ts cl tb nL ini cc pc a = true ∧ jokL own Ts cl tb nL ini cc (pc + (a.map (fun x => x.2.1)).sum) b = true
  | [], b, pc, h => ⟨rfl, by simpa using h⟩
  | x :: a, b, pc, h => by
    rw [List.cons_append] at h
    unfold jokL at h
    rw [Bool.and_eq_true] at h
    have h2 := jokL_app a b (pc + x.2.1) h.2
    refine ⟨?_, ?_⟩
    · unfold jokL
      rw [Bool.and_eq_true]
      exact ⟨h.1, h2.1⟩
    · rw [List.map_cons, List.sum_cons, ← Nat.add_assoc]
      exact h2.2
/-- a part of a checked row is checked -/
theorem jok_sub {own : String} {Ts : List Jvm.Cond} {cl : List vw_C} {tb : jTb} {nL : Nat} {ini : Bool} {cc : ByteArray} {pc : Nat} {is : List jI} (h : jokL own Ts cl tb nL ini cc pc is = true) (i j : Nat) {pc' : Nat} {mid : List jI} (hm : (is.drop i).take j = mid) (hp : pc + ((is.take i).map (fun x => x.2.1)).sum = pc') : jokL own Ts cl tb nL ini cc pc' mid = true := by
  subst hm; subst hp
  rw [← List.take_append_drop i is] at h
  have h2 := (jokL_app _ _ _ h).2
  rw [← List.take_append_drop j (is.drop i)] at h2
  exact (jokL_app _ _ _ h2).1
/-! the judgement -/
abbrev jM : Type := Program × Launch × Env × Room × State × MethodId × Array Value × List Frame × Method × Code
def jX (E : jE) (own : String) (Ts : List Jvm.Cond) (cl : List vw_C) (tb : jTb) (nL : Nat) (ini : Bool) (cc : ByteArray) (M : jM) : Prop :=
  M.1.tables.exec = Jvm.exec ∧ M.2.2.2.2.2.2.2.2.2.code = cc ∧ M.2.2.2.2.2.2.2.2.2.maxLocals = nL ∧ M.2.2.2.2.1.vm.findClass own = some M.2.2.2.2.2.1.cls ∧ (∀ w ∈ jTA Ts, w.before M.2.2.2.2.2.2.1 M.2.2.2.2.1 = true) ∧ jK E cl tb Ts M.2.2.2.2.1 ∧ M.2.2.2.2.2.2.2.2.1.locks = false ∧ (ini = true → M.2.2.2.2.2.2.2.2.1.name = "<init>")
def jJ (E : jE) (cl : List vw_C) (nL : Nat) (M : jM) (Q : State → Prop) (n cells slots : Nat) : jN := fun pc lv st σ => ∀ (H : Heap) (locs : List Loc) (ls : Array Slot), jW E cl σ n H → va_S (jA E) M.2.2.2.2.1.heap H locs → jlv E ls nL lv →
  W M.1 M.2.1 M.2.2.1 M.2.2.2.1 M.2.2.2.2.1 M.2.2.2.2.2.1 M.2.2.2.2.2.2.1 M.2.2.2.2.2.2.2.1 M.2.2.2.2.2.2.2.2.1 M.2.2.2.2.2.2.2.2.2 H locs cells slots Q (F0 M.2.2.2.2.2.1 pc ls (st.map (jc E)))
/-- what the tables give, once for all methods -/
def jCl (Ts : List Jvm.Cond) (cl : List vw_C) : Prop := ∀ (ci : Nat) (q : vw_C), cl[ci]? = some q → (∀ w ∈ u_ws q.1 q.2.1 q.2.2, w ∈ jTA Ts) ∧ (∃ ty : Nat → FieldType, ∀ k, k < q.2.2 → parseFieldDescriptor (q.2.1 k).2.2.1 = some (ty k)) ∧ ∀ a, a < q.2.2 → ∀ b, b < q.2.2 → a ≠ b → (q.2.1 a).2.1 ≠ (q.2.1 b).2.1
theorem jc_cat (E : jE) (v : jv) : (jc E v).category = jcat v := by
  rcases v with x | x | _ | k | j <;> rfl
theorem jpr_mem {E : jE} : ∀ (lv : List (Option jv)) (i : Nat) (q : Nat × Value), q ∈ jpr E i lv → ∃ (j : Nat) (v : jv), lv[j]? = some (some v) ∧ q = (i + j, jc E v)
  | [], _, _, h => by cases h
  | none :: r, i, q, h => by
    obtain ⟨j, v, h1, h2⟩ := jpr_mem r (i + 1) q h
    exact ⟨j + 1, v, by simpa using h1, by rw [h2]; congr 1; omega⟩
  | some v :: r, i, q, h => by
    rcases List.mem_cons.mp h with h | h
    · exact ⟨0, v, rfl, h⟩
    · obtain ⟨j, v, h1, h2⟩ := jpr_mem r (i + 1) q h
      exact ⟨j + 1, v, by simpa using h1, by rw [h2]; congr 1; omega⟩
theorem jpr_in {E : jE} : ∀ (lv : List (Option jv)) (i j : Nat) (v : jv), lv[j]? = some (some v) → (i + j, jc E v) ∈ jpr E i lv
  | [], _, _, _, h => by simp at h
  | x :: r, i, 0, v, h => by
    have hx : x = some v := by simpa using h
    subst hx
    exact List.mem_cons_self
  | x :: r, i, j + 1, v, h => by
    have h1 := jpr_in (E := E) r (i + 1) j v (by simpa using h)
    rw [show i + 1 + j = i + (j + 1) by omega] at h1
    cases x with
    | none => exact h1
    | some y => exact List.mem_cons_of_mem _ h1
theorem jlv_has {E : jE} {ls : Array Slot} {nL : Nat} {lv : List (Option jv)} (h : jlv E ls nL lv) : lv_has ls nL (jpr E 0 lv) := by
  refine ⟨h.1, h.2.1, fun q hq => ?_⟩
  obtain ⟨j, v, h1, h2⟩ := jpr_mem lv 0 q hq
  rw [h2]
  show ls[0 + j]? = _
  rw [Nat.zero_add]
  exact h.2.2 j v h1
theorem jkill_at {lv : List (Option jv)} {i j : Nat} {v : jv} (h : (jkill lv i)[j]? = some (some v)) : lv[j]? = some (some v) ∧ ¬ (j + 1 = i ∧ jcat v = 2) := by
  cases i with
  | zero => exact ⟨h, fun q => by omega⟩
  | succ k =>
    dsimp only [jkill] at h
    split at h
    next x hx =>
      by_cases hjk : j = k
      · subst hjk
        rw [List.getElem?_set_self (by exact (List.getElem?_eq_some_iff.mp hx).1)] at h
        cases h
      · rw [List.getElem?_set_ne (fun q => hjk q.symm)] at h
        exact ⟨h, fun q => hjk (by omega)⟩
    next hx =>
      refine ⟨h, fun q => ?_⟩
      have hjk : j = k := by omega
      subst hjk
      rcases v with x | x | a
      · cases q.2
      · exact hx x h
      · cases q.2
theorem jlv_st1 {E : jE} {ls : Array Slot} {nL : Nat} {lv : List (Option jv)} (h : jlv E ls nL lv) {i : Nat} (hi : i < nL) {v : jv} (hc : jcat v = 1) : ∃ ls', storeLocals ls i (jc E v) = some ls' ∧ jlv E ls' nL (jset1 lv i v) := by
  obtain ⟨ls', h1, h2⟩ := lv_store1 (i := i) (v := jc E v) (jlv_has h) hi (by rw [jc_cat]; exact hc)
  refine ⟨ls', h1, h2.1, h2.2.1, fun j w hj => ?_⟩
  by_cases hji : j = i
  · subst hji
    unfold jset1 at hj
    have hl : j < (jkill lv j).length := by
      have := (List.getElem?_eq_some_iff.mp hj).1
      simpa using this
    rw [List.getElem?_set_self hl] at hj
    cases hj
    exact h2.2.2 (j, jc E v) List.mem_cons_self
  · unfold jset1 at hj
    rw [List.getElem?_set_ne (fun q => hji q.symm)] at hj
    obtain ⟨h3, h4⟩ := jkill_at hj
    refine h2.2.2 (j, jc E w) (List.mem_cons_of_mem _ (List.mem_filter.mpr ⟨?_, ?_⟩))
    · have := jpr_in (E := E) lv 0 j w h3
      rwa [Nat.zero_add] at this
    · simp only [jc_cat]
      simp [hji]
      omega
theorem jlv_st2 {E : jE} {ls : Array Slot} {nL : Nat} {lv : List (Option jv)} (h : jlv E ls nL lv) {i : Nat} (hi : i + 1 < nL) {v : jv} (hc : jcat v = 2) : ∃ ls', storeLocals ls i (jc E v) = some ls' ∧ jlv E ls' nL (jset2 lv i v) := by
  obtain ⟨ls', h1, h2⟩ := lv_store2 (i := i) (v := jc E v) (jlv_has h) hi (by rw [jc_cat]; exact hc)
  refine ⟨ls', h1, h2.1, h2.2.1, fun j w hj => ?_⟩
  unfold jset2 at hj
  by_cases hj1 : j = i + 1
  · subst hj1
    have hl : i + 1 < ((jkill lv i).set i (some v)).length := by
      have := (List.getElem?_eq_some_iff.mp hj).1
      simpa using this
    rw [List.getElem?_set_self hl] at hj
    cases hj
  rw [List.getElem?_set_ne (fun q => hj1 q.symm)] at hj
  by_cases hji : j = i
  · subst hji
    have hl : j < (jkill lv j).length := by
      have := (List.getElem?_eq_some_iff.mp hj).1
      simpa using this
    rw [List.getElem?_set_self hl] at hj
    cases hj
    exact h2.2.2 (j, jc E v) List.mem_cons_self
  · rw [List.getElem?_set_ne (fun q => hji q.symm)] at hj
    obtain ⟨h3, h4⟩ := jkill_at hj
    refine h2.2.2 (j, jc E w) (List.mem_cons_of_mem _ (List.mem_filter.mpr ⟨?_, ?_⟩))
    · have := jpr_in (E := E) lv 0 j w h3
      rwa [Nat.zero_add] at this
    · simp only [jc_cat]
      simp [hji, hj1]
      omega
theorem jW_set {E : jE} {cl : List vw_C} {σ : Nat → jcell} {n a : Nat} {x : jcell} {H H1 : Heap} (h : jW E cl σ n H) (z : H1.size = H.size) (oq : ∀ q : Nat, q ≠ E.2.2.2 + a → H1[q]? = H[q]?) (he : va_at E.1 cl (E.2.2.2 + a, je E x) H1) : jW E cl (jup σ a x) n H1 := by
  refine ⟨z.trans h.1, fun k hk hkk => ?_⟩
  by_cases hka : k = a
  · subst hka
    rw [jup_s]
    exact he
  · rw [jup_n hka] at hkk ⊢
    exact (h.2 k hk hkk).kept (oq _ (by show E.2.2.2 + k ≠ _; omega))
theorem jS_put {E : jE} {H0 H H1 : Heap} {locs : List Loc} {a k : Nat} (h : va_S (jA E) H0 H locs) (z : H1.size = H.size) (oq : ∀ q : Nat, q ≠ E.2.2.2 + a → H1[q]? = H[q]?) : va_S (jA E) H0 H1 (locs ++ [⟨E.2.2.2 + a, k⟩]) := h.put z oq (Nat.le_add_right _ _)
theorem jW_one {E : jE} {cl : List vw_C} {σ : Nat → jcell} {n a : Nat} {H : Heap} (h : jW E cl σ n H) (ha : a < n) (hq : jkn (σ a)) : va_P E.1 cl [(E.2.2.2 + a, je E (σ a))] H := by
  intro k q hk
  cases k with
  | zero => cases hk; exact h.2 a ha hq
  | succ k => simp at hk
theorem jty_in {E : jE} {t : FieldType} (h : t ∈ jtys) : ∃ t0 : Nat, (jtyl E)[t0]? = some (E.2.1 t, t) := by
  obtain ⟨i, hi⟩ := List.getElem?_of_mem h
  exact ⟨i, by simp [jtyl, hi]⟩
theorem jfit_n {kd : Nat} {v : jv} {E : jE} {t : Option FieldType} (h : jfit kd v) (hk : jkd t = kd) : ∃ ty, t = some ty ∧ narrow ty (jc E v) = jc E v ∧ fits ty (jc E v) = true := by
  unfold jfit at h
  split at h
  · cases t with
    | none => cases hk
    | some ty => cases ty <;> first | (cases hk; done) | exact ⟨_, rfl, rfl, rfl⟩
  · cases t with
    | none => cases hk
    | some ty => cases ty <;> first | (cases hk; done) | (rcases h with h | h <;> subst h <;> exact ⟨_, rfl, rfl, rfl⟩)
  · cases t with
    | none => cases hk
    | some ty => cases ty <;> first | (cases hk; done) | exact ⟨_, rfl, rfl, rfl⟩
  · next a =>
    cases t with
    | none => cases hk
    | some ty => cases ty <;> first | (cases hk; done) | (rcases a with _ | k | k <;> exact ⟨_, rfl, rfl, rfl⟩)
  · exact h.elim

section JST
variable {E : jE} {own : String} {Ts : List Jvm.Cond} {cl : List vw_C} {tb : jTb} {nL : Nat} {ini : Bool} {cc : ByteArray} {M : jM} {Q : State → Prop} {n cells slots : Nat}

theorem jk_iadd (X : jX E own Ts cl tb nL ini cc M) {pc : Nat} (hd : decode cc pc = .ok (.iadd, 1)) {lv : List (Option jv)} {r : List jv} {σ : Nat → jcell} {x y : Int32} (k : jJ E cl nL M Q n cells slots (pc + 1) lv (.inl (x + y) :: r) σ) : jJ E cl nL M Q n cells slots pc lv (.inl y :: .inl x :: r) σ := by
  obtain ⟨hx, hb, -⟩ := X
  exact fun H locs ls hW hS hL => lv_iadd (x := x) (y := y) hx hb hd (k H locs ls hW hS hL)
theorem jk_isub (X : jX E own Ts cl tb nL ini cc M) {pc : Nat} (hd : decode cc pc = .ok (.isub, 1)) {lv : List (Option jv)} {r : List jv} {σ : Nat → jcell} {x y : Int32} (k : jJ E cl nL M Q n cells slots (pc + 1) lv (.inl (x - y) :: r) σ) : jJ E cl nL M Q n cells slots pc lv (.inl y :: .inl x :: r) σ := by
  obtain ⟨hx, hb, -⟩ := X
  exact fun H locs ls hW hS hL => lv_isub (x := x) (y := y) hx hb hd (k H locs ls hW hS hL)
theorem jk_imul (X : jX E own Ts cl tb nL ini cc M) {pc : Nat} (hd : decode cc pc = .ok (.imul, 1)) {lv : List (Option jv)} {r : List jv} {σ : Nat → jcell} {x y : Int32} (k : jJ E cl nL M Q n cells slots (pc + 1) lv (.inl (x * y) :: r) σ) : jJ E cl nL M Q n cells slots pc lv (.inl y :: .inl x :: r) σ := by
  obtain ⟨hx, hb, -⟩ := X
  exact fun H locs ls hW hS hL => lv_imul (x := x) (y := y) hx hb hd (k H locs ls hW hS hL)
theorem jk_iand (X : jX E own Ts cl tb nL ini cc M) {pc : Nat} (hd : decode cc pc = .ok (.iand, 1)) {lv : List (Option jv)} {r : List jv} {σ : Nat → jcell} {x y : Int32} (k : jJ E cl nL M Q n cells slots (pc + 1) lv (.inl (x &&& y) :: r) σ) : jJ E cl nL M Q n cells slots pc lv (.inl y :: .inl x :: r) σ := by
  obtain ⟨hx, hb, -⟩ := X
  exact fun H locs ls hW hS hL => lv_iand (x := x) (y := y) hx hb hd (k H locs ls hW hS hL)
theorem jk_ior (X : jX E own Ts cl tb nL ini cc M) {pc : Nat} (hd : decode cc pc = .ok (.ior, 1)) {lv : List (Option jv)} {r : List jv} {σ : Nat → jcell} {x y : Int32} (k : jJ E cl nL M Q n cells slots (pc + 1) lv (.inl (x ||| y) :: r) σ) : jJ E cl nL M Q n cells slots pc lv (.inl y :: .inl x :: r) σ := by
  obtain ⟨hx, hb, -⟩ := X
  exact fun H locs ls hW hS hL => lv_ior (x := x) (y := y) hx hb hd (k H locs ls hW hS hL)
theorem jk_ixor (X : jX E own Ts cl tb nL ini cc M) {pc : Nat} (hd : decode cc pc = .ok (.ixor, 1)) {lv : List (Option jv)} {r : List jv} {σ : Nat → jcell} {x y : Int32} (k : jJ E cl nL M Q n cells slots (pc + 1) lv (.inl (x ^^^ y) :: r) σ) : jJ E cl nL M Q n cells slots pc lv (.inl y :: .inl x :: r) σ := by
  obtain ⟨hx, hb, -⟩ := X
  exact fun H locs ls hW hS hL => lv_ixor (x := x) (y := y) hx hb hd (k H locs ls hW hS hL)
theorem jk_ishl (X : jX E own Ts cl tb nL ini cc M) {pc : Nat} (hd : decode cc pc = .ok (.ishl, 1)) {lv : List (Option jv)} {r : List jv} {σ : Nat → jcell} {x y : Int32} (k : jJ E cl nL M Q n cells slots (pc + 1) lv (.inl (x <<< (y &&& 31)) :: r) σ) : jJ E cl nL M Q n cells slots pc lv (.inl y :: .inl x :: r) σ := by
  obtain ⟨hx, hb, -⟩ := X
  exact fun H locs ls hW hS hL => lv_ishl (x := x) (y := y) hx hb hd (k H locs ls hW hS hL)
theorem jk_ishr (X : jX E own Ts cl tb nL ini cc M) {pc : Nat} (hd : decode cc pc = .ok (.ishr, 1)) {lv : List (Option jv)} {r : List jv} {σ : Nat → jcell} {x y : Int32} (k : jJ E cl nL M Q n cells slots (pc + 1) lv (.inl (x >>> (y &&& 31)) :: r) σ) : jJ E cl nL M Q n cells slots pc lv (.inl y :: .inl x :: r) σ := by
  obtain ⟨hx, hb, -⟩ := X
  exact fun H locs ls hW hS hL => lv_ishr (x := x) (y := y) hx hb hd (k H locs ls hW hS hL)
theorem jk_iushr (X : jX E own Ts cl tb nL ini cc M) {pc : Nat} (hd : decode cc pc = .ok (.iushr, 1)) {lv : List (Option jv)} {r : List jv} {σ : Nat → jcell} {x y : Int32} (k : jJ E cl nL M Q n cells slots (pc + 1) lv (.inl (x.toUInt32 >>> (y.toUInt32 &&& Int32.toUInt32 31)).toInt32 :: r) σ) : jJ E cl nL M Q n cells slots pc lv (.inl y :: .inl x :: r) σ := by
  obtain ⟨hx, hb, -⟩ := X
  exact fun H locs ls hW hS hL => lv_iushr (x := x) (y := y) hx hb hd rfl (k H locs ls hW hS hL)
theorem jk_idiv (X : jX E own Ts cl tb nL ini cc M) {pc : Nat} (hd : decode cc pc = .ok (.idiv, 1)) {lv : List (Option jv)} {r : List jv} {σ : Nat → jcell} {x y : Int32} (hne : ¬ y = 0) (k : jJ E cl nL M Q n cells slots (pc + 1) lv (.inl (x / y) :: r) σ) : jJ E cl nL M Q n cells slots pc lv (.inl y :: .inl x :: r) σ := by
  obtain ⟨hx, hb, -⟩ := X
  exact fun H locs ls hW hS hL => lv_idiv (x := x) (y := y) hx hb hd hne (k H locs ls hW hS hL)
theorem jk_irem (X : jX E own Ts cl tb nL ini cc M) {pc : Nat} (hd : decode cc pc = .ok (.irem, 1)) {lv : List (Option jv)} {r : List jv} {σ : Nat → jcell} {x y : Int32} (hne : ¬ y = 0) (k : jJ E cl nL M Q n cells slots (pc + 1) lv (.inl (x - x / y * y) :: r) σ) : jJ E cl nL M Q n cells slots pc lv (.inl y :: .inl x :: r) σ := by
  obtain ⟨hx, hb, -⟩ := X
  exact fun H locs ls hW hS hL => lv_irem (x := x) (y := y) hx hb hd hne (k H locs ls hW hS hL)
theorem jk_ineg (X : jX E own Ts cl tb nL ini cc M) {pc : Nat} (hd : decode cc pc = .ok (.ineg, 1)) {lv : List (Option jv)} {r : List jv} {σ : Nat → jcell} {x : Int32} (k : jJ E cl nL M Q n cells slots (pc + 1) lv (.inl (-x) :: r) σ) : jJ E cl nL M Q n cells slots pc lv (.inl x :: r) σ := by
  obtain ⟨hx, hb, -⟩ := X
  exact fun H locs ls hW hS hL => lv_ineg (x := x) hx hb hd (k H locs ls hW hS hL)
theorem jk_ladd (X : jX E own Ts cl tb nL ini cc M) {pc : Nat} (hd : decode cc pc = .ok (.ladd, 1)) {lv : List (Option jv)} {r : List jv} {σ : Nat → jcell} {x y : Int64} (k : jJ E cl nL M Q n cells slots (pc + 1) lv (.inr (.inl (x + y)) :: r) σ) : jJ E cl nL M Q n cells slots pc lv (.inr (.inl y) :: .inr (.inl x) :: r) σ := by
  obtain ⟨hx, hb, -⟩ := X
  exact fun H locs ls hW hS hL => lv_ladd (x := x) (y := y) hx hb hd (k H locs ls hW hS hL)
theorem jk_lsub (X : jX E own Ts cl tb nL ini cc M) {pc : Nat} (hd : decode cc pc = .ok (.lsub, 1)) {lv : List (Option jv)} {r : List jv} {σ : Nat → jcell} {x y : Int64} (k : jJ E cl nL M Q n cells slots (pc + 1) lv (.inr (.inl (x - y)) :: r) σ) : jJ E cl nL M Q n cells slots pc lv (.inr (.inl y) :: .inr (.inl x) :: r) σ := by
  obtain ⟨hx, hb, -⟩ := X
  exact fun H locs ls hW hS hL => lv_lsub (x := x) (y := y) hx hb hd (k H locs ls hW hS hL)
theorem jk_lmul (X : jX E own Ts cl tb nL ini cc M) {pc : Nat} (hd : decode cc pc = .ok (.lmul, 1)) {lv : List (Option jv)} {r : List jv} {σ : Nat → jcell} {x y : Int64} (k : jJ E cl nL M Q n cells slots (pc + 1) lv (.inr (.inl (x * y)) :: r) σ) : jJ E cl nL M Q n cells slots pc lv (.inr (.inl y) :: .inr (.inl x) :: r) σ := by
  obtain ⟨hx, hb, -⟩ := X
  exact fun H locs ls hW hS hL => lv_lmul (x := x) (y := y) hx hb hd (k H locs ls hW hS hL)
theorem jk_land (X : jX E own Ts cl tb nL ini cc M) {pc : Nat} (hd : decode cc pc = .ok (.land, 1)) {lv : List (Option jv)} {r : List jv} {σ : Nat → jcell} {x y : Int64} (k : jJ E cl nL M Q n cells slots (pc + 1) lv (.inr (.inl (x &&& y)) :: r) σ) : jJ E cl nL M Q n cells slots pc lv (.inr (.inl y) :: .inr (.inl x) :: r) σ := by
  obtain ⟨hx, hb, -⟩ := X
  exact fun H locs ls hW hS hL => lv_land (x := x) (y := y) hx hb hd (k H locs ls hW hS hL)
theorem jk_lor (X : jX E own Ts cl tb nL ini cc M) {pc : Nat} (hd : decode cc pc = .ok (.lor, 1)) {lv : List (Option jv)} {r : List jv} {σ : Nat → jcell} {x y : Int64} (k : jJ E cl nL M Q n cells slots (pc + 1) lv (.inr (.inl (x ||| y)) :: r) σ) : jJ E cl nL M Q n cells slots pc lv (.inr (.inl y) :: .inr (.inl x) :: r) σ := by
  obtain ⟨hx, hb, -⟩ := X
  exact fun H locs ls hW hS hL => lv_lor (x := x) (y := y) hx hb hd (k H locs ls hW hS hL)
theorem jk_lxor (X : jX E own Ts cl tb nL ini cc M) {pc : Nat} (hd : decode cc pc = .ok (.lxor, 1)) {lv : List (Option jv)} {r : List jv} {σ : Nat → jcell} {x y : Int64} (k : jJ E cl nL M Q n cells slots (pc + 1) lv (.inr (.inl (x ^^^ y)) :: r) σ) : jJ E cl nL M Q n cells slots pc lv (.inr (.inl y) :: .inr (.inl x) :: r) σ := by
  obtain ⟨hx, hb, -⟩ := X
  exact fun H locs ls hW hS hL => lv_lxor (x := x) (y := y) hx hb hd (k H locs ls hW hS hL)
theorem jk_ldiv (X : jX E own Ts cl tb nL ini cc M) {pc : Nat} (hd : decode cc pc = .ok (.ldiv, 1)) {lv : List (Option jv)} {r : List jv} {σ : Nat → jcell} {x y : Int64} (hne : ¬ y = 0) (k : jJ E cl nL M Q n cells slots (pc + 1) lv (.inr (.inl (x / y)) :: r) σ) : jJ E cl nL M Q n cells slots pc lv (.inr (.inl y) :: .inr (.inl x) :: r) σ := by
  obtain ⟨hx, hb, -⟩ := X
  exact fun H locs ls hW hS hL => lv_ldiv (x := x) (y := y) hx hb hd hne (k H locs ls hW hS hL)
theorem jk_lrem (X : jX E own Ts cl tb nL ini cc M) {pc : Nat} (hd : decode cc pc = .ok (.lrem, 1)) {lv : List (Option jv)} {r : List jv} {σ : Nat → jcell} {x y : Int64} (hne : ¬ y = 0) (k : jJ E cl nL M Q n cells slots (pc + 1) lv (.inr (.inl (x - x / y * y)) :: r) σ) : jJ E cl nL M Q n cells slots pc lv (.inr (.inl y) :: .inr (.inl x) :: r) σ := by
  obtain ⟨hx, hb, -⟩ := X
  exact fun H locs ls hW hS hL => lv_lrem (x := x) (y := y) hx hb hd hne (k H locs ls hW hS hL)
theorem jk_lneg (X : jX E own Ts cl tb nL ini cc M) {pc : Nat} (hd : decode cc pc = .ok (.lneg, 1)) {lv : List (Option jv)} {r : List jv} {σ : Nat → jcell} {x : Int64} (k : jJ E cl nL M Q n cells slots (pc + 1) lv (.inr (.inl (-x)) :: r) σ) : jJ E cl nL M Q n cells slots pc lv (.inr (.inl x) :: r) σ := by
  obtain ⟨hx, hb, -⟩ := X
  exact fun H locs ls hW hS hL => lv_lneg (x := x) hx hb hd (k H locs ls hW hS hL)
theorem jk_lshl (X : jX E own Ts cl tb nL ini cc M) {pc : Nat} (hd : decode cc pc = .ok (.lshl, 1)) {lv : List (Option jv)} {r : List jv} {σ : Nat → jcell} {x : Int64} {y : Int32} (k : jJ E cl nL M Q n cells slots (pc + 1) lv (.inr (.inl (x <<< (y.toInt64 &&& 63))) :: r) σ) : jJ E cl nL M Q n cells slots pc lv (.inl y :: .inr (.inl x) :: r) σ := by
  obtain ⟨hx, hb, -⟩ := X
  exact fun H locs ls hW hS hL => lv_lshl (x := x) (y := y) hx hb hd rfl (k H locs ls hW hS hL)
theorem jk_lshr (X : jX E own Ts cl tb nL ini cc M) {pc : Nat} (hd : decode cc pc = .ok (.lshr, 1)) {lv : List (Option jv)} {r : List jv} {σ : Nat → jcell} {x : Int64} {y : Int32} (k : jJ E cl nL M Q n cells slots (pc + 1) lv (.inr (.inl (x >>> (y.toInt64 &&& 63))) :: r) σ) : jJ E cl nL M Q n cells slots pc lv (.inl y :: .inr (.inl x) :: r) σ := by
  obtain ⟨hx, hb, -⟩ := X
  exact fun H locs ls hW hS hL => lv_lshr (x := x) (y := y) hx hb hd rfl (k H locs ls hW hS hL)
theorem jk_lushr (X : jX E own Ts cl tb nL ini cc M) {pc : Nat} (hd : decode cc pc = .ok (.lushr, 1)) {lv : List (Option jv)} {r : List jv} {σ : Nat → jcell} {x : Int64} {y : Int32} (k : jJ E cl nL M Q n cells slots (pc + 1) lv (.inr (.inl (x.toUInt64 >>> (y.toInt64.toUInt64 &&& Int64.toUInt64 63)).toInt64) :: r) σ) : jJ E cl nL M Q n cells slots pc lv (.inl y :: .inr (.inl x) :: r) σ := by
  obtain ⟨hx, hb, -⟩ := X
  exact fun H locs ls hW hS hL => lv_lushr (x := x) (y := y) hx hb hd rfl (k H locs ls hW hS hL)
theorem jk_lcmp (X : jX E own Ts cl tb nL ini cc M) {pc : Nat} (hd : decode cc pc = .ok (.lcmp, 1)) {lv : List (Option jv)} {r : List jv} {σ : Nat → jcell} {x y : Int64} (k : jJ E cl nL M Q n cells slots (pc + 1) lv (.inl (lg_cmp x y) :: r) σ) : jJ E cl nL M Q n cells slots pc lv (.inr (.inl y) :: .inr (.inl x) :: r) σ := by
  obtain ⟨hx, hb, -⟩ := X
  exact fun H locs ls hW hS hL => W.lcmp (x := x) (y := y) hx hb hd (k H locs ls hW hS hL)
theorem jk_i2l (X : jX E own Ts cl tb nL ini cc M) {pc : Nat} (hd : decode cc pc = .ok (.i2l, 1)) {lv : List (Option jv)} {r : List jv} {σ : Nat → jcell} {x : Int32} (k : jJ E cl nL M Q n cells slots (pc + 1) lv (.inr (.inl x.toInt64) :: r) σ) : jJ E cl nL M Q n cells slots pc lv (.inl x :: r) σ := by
  obtain ⟨hx, hb, -⟩ := X
  exact fun H locs ls hW hS hL => lv_i2l (x := x) hx hb hd rfl (k H locs ls hW hS hL)
theorem jk_l2i (X : jX E own Ts cl tb nL ini cc M) {pc : Nat} (hd : decode cc pc = .ok (.l2i, 1)) {lv : List (Option jv)} {r : List jv} {σ : Nat → jcell} {x : Int64} (k : jJ E cl nL M Q n cells slots (pc + 1) lv (.inl x.toInt32 :: r) σ) : jJ E cl nL M Q n cells slots pc lv (.inr (.inl x) :: r) σ := by
  obtain ⟨hx, hb, -⟩ := X
  exact fun H locs ls hW hS hL => lv_l2i (x := x) hx hb hd rfl (k H locs ls hW hS hL)
theorem jk_i2b (X : jX E own Ts cl tb nL ini cc M) {pc : Nat} (hd : decode cc pc = .ok (.i2b, 1)) {lv : List (Option jv)} {r : List jv} {σ : Nat → jcell} {x : Int32} (k : jJ E cl nL M Q n cells slots (pc + 1) lv (.inl x.toInt8.toInt32 :: r) σ) : jJ E cl nL M Q n cells slots pc lv (.inl x :: r) σ := by
  obtain ⟨hx, hb, -⟩ := X
  exact fun H locs ls hW hS hL => lv_i2b (x := x) hx hb hd rfl (k H locs ls hW hS hL)
theorem jk_i2c (X : jX E own Ts cl tb nL ini cc M) {pc : Nat} (hd : decode cc pc = .ok (.i2c, 1)) {lv : List (Option jv)} {r : List jv} {σ : Nat → jcell} {x : Int32} (k : jJ E cl nL M Q n cells slots (pc + 1) lv (.inl (x.toUInt32 % 65536).toInt32 :: r) σ) : jJ E cl nL M Q n cells slots pc lv (.inl x :: r) σ := by
  obtain ⟨hx, hb, -⟩ := X
  exact fun H locs ls hW hS hL => lv_i2c (x := x) hx hb hd rfl (k H locs ls hW hS hL)
theorem jk_anull (X : jX E own Ts cl tb nL ini cc M) {pc : Nat} (hd : decode cc pc = .ok (.aconst_null, 1)) {lv : List (Option jv)} {r : List jv} {σ : Nat → jcell} (k : jJ E cl nL M Q n cells slots (pc + 1) lv (.inr (.inr none) :: r) σ) : jJ E cl nL M Q n cells slots pc lv (r) σ := by
  obtain ⟨hx, hb, -⟩ := X
  exact fun H locs ls hW hS hL => lv_null hx hb hd (k H locs ls hW hS hL)
theorem jk_dup (X : jX E own Ts cl tb nL ini cc M) {pc : Nat} (hd : decode cc pc = .ok (.dup, 1)) {lv : List (Option jv)} {r : List jv} {σ : Nat → jcell} {v : jv} (hv : jcat v = 1) (k : jJ E cl nL M Q n cells slots (pc + 1) lv (v :: v :: r) σ) : jJ E cl nL M Q n cells slots pc lv (v :: r) σ := by
  obtain ⟨hx, hb, -⟩ := X
  exact fun H locs ls hW hS hL => lv_dup (va := jc E v) hx hb hd ((jc_cat E v).trans hv) (k H locs ls hW hS hL)
theorem jk_pop (X : jX E own Ts cl tb nL ini cc M) {pc : Nat} (hd : decode cc pc = .ok (.pop, 1)) {lv : List (Option jv)} {r : List jv} {σ : Nat → jcell} {v : jv} (hv : jcat v = 1) (k : jJ E cl nL M Q n cells slots (pc + 1) lv (r) σ) : jJ E cl nL M Q n cells slots pc lv (v :: r) σ := by
  obtain ⟨hx, hb, -⟩ := X
  exact fun H locs ls hW hS hL => lv_pop (va := jc E v) hx hb hd ((jc_cat E v).trans hv) (k H locs ls hW hS hL)
theorem jk_dup_x1 (X : jX E own Ts cl tb nL ini cc M) {pc : Nat} (hd : decode cc pc = .ok (.dup_x1, 1)) {lv : List (Option jv)} {r : List jv} {σ : Nat → jcell} {v w : jv} (hv : jcat v = 1) (hw : jcat w = 1) (k : jJ E cl nL M Q n cells slots (pc + 1) lv (v :: w :: v :: r) σ) : jJ E cl nL M Q n cells slots pc lv (v :: w :: r) σ := by
  obtain ⟨hx, hb, -⟩ := X
  exact fun H locs ls hW hS hL => lv_dup_x1 (va := jc E v) (vb := jc E w) hx hb hd ((jc_cat E v).trans hv) ((jc_cat E w).trans hw) (k H locs ls hW hS hL)
theorem jk_dup_x2 (X : jX E own Ts cl tb nL ini cc M) {pc : Nat} (hd : decode cc pc = .ok (.dup_x2, 1)) {lv : List (Option jv)} {r : List jv} {σ : Nat → jcell} {v w z : jv} (hv : jcat v = 1) (hw : jcat w = 1) (hz : jcat z = 1) (k : jJ E cl nL M Q n cells slots (pc + 1) lv (v :: w :: z :: v :: r) σ) : jJ E cl nL M Q n cells slots pc lv (v :: w :: z :: r) σ := by
  obtain ⟨hx, hb, -⟩ := X
  exact fun H locs ls hW hS hL => lv_dup_x2 (va := jc E v) (vb := jc E w) (vd := jc E z) hx hb hd ((jc_cat E v).trans hv) ((jc_cat E w).trans hw) ((jc_cat E z).trans hz) (k H locs ls hW hS hL)
theorem jk_dup2_11 (X : jX E own Ts cl tb nL ini cc M) {pc : Nat} (hd : decode cc pc = .ok (.dup2, 1)) {lv : List (Option jv)} {r : List jv} {σ : Nat → jcell} {v w : jv} (hv : jcat v = 1) (hw : jcat w = 1) (k : jJ E cl nL M Q n cells slots (pc + 1) lv (v :: w :: v :: w :: r) σ) : jJ E cl nL M Q n cells slots pc lv (v :: w :: r) σ := by
  obtain ⟨hx, hb, -⟩ := X
  exact fun H locs ls hW hS hL => lv_dup2_11 (va := jc E v) (vb := jc E w) hx hb hd ((jc_cat E v).trans hv) ((jc_cat E w).trans hw) (k H locs ls hW hS hL)
theorem jk_dup2_2 (X : jX E own Ts cl tb nL ini cc M) {pc : Nat} (hd : decode cc pc = .ok (.dup2, 1)) {lv : List (Option jv)} {r : List jv} {σ : Nat → jcell} {x : Int64} (k : jJ E cl nL M Q n cells slots (pc + 1) lv (.inr (.inl x) :: .inr (.inl x) :: r) σ) : jJ E cl nL M Q n cells slots pc lv (.inr (.inl x) :: r) σ := by
  obtain ⟨hx, hb, -⟩ := X
  exact fun H locs ls hW hS hL => lv_dup2_2 (va := .long x) hx hb hd rfl (k H locs ls hW hS hL)
theorem jk_iconst (X : jX E own Ts cl tb nL ini cc M) {pc : Nat} {i : Int} {v : Int32} (hd : decode cc pc = .ok (.iconst i, 1)) (hv : Int32.ofInt i = v) {lv : List (Option jv)} {r : List jv} {σ : Nat → jcell} (k : jJ E cl nL M Q n cells slots (pc + 1) lv (.inl v :: r) σ) : jJ E cl nL M Q n cells slots pc lv r σ := by
  obtain ⟨hx, hb, -⟩ := X
  exact fun H locs ls hW hS hL => lv_iconst hx hb hd hv (k H locs ls hW hS hL)
theorem jk_bipush (X : jX E own Ts cl tb nL ini cc M) {pc : Nat} {i : Int} {v : Int32} (hd : decode cc pc = .ok (.bipush i, 2)) (hv : (Int8.ofInt i).toInt32 = v) {lv : List (Option jv)} {r : List jv} {σ : Nat → jcell} (k : jJ E cl nL M Q n cells slots (pc + 2) lv (.inl v :: r) σ) : jJ E cl nL M Q n cells slots pc lv r σ := by
  obtain ⟨hx, hb, -⟩ := X
  exact fun H locs ls hW hS hL => lv_bipush hx hb hd hv (k H locs ls hW hS hL)
theorem jk_sipush (X : jX E own Ts cl tb nL ini cc M) {pc : Nat} {i : Int} {v : Int32} (hd : decode cc pc = .ok (.sipush i, 3)) (hv : (Int16.ofInt i).toInt32 = v) {lv : List (Option jv)} {r : List jv} {σ : Nat → jcell} (k : jJ E cl nL M Q n cells slots (pc + 3) lv (.inl v :: r) σ) : jJ E cl nL M Q n cells slots pc lv r σ := by
  obtain ⟨hx, hb, -⟩ := X
  exact fun H locs ls hW hS hL => lv_sipush hx hb hd hv (k H locs ls hW hS hL)
theorem jk_lconst (X : jX E own Ts cl tb nL ini cc M) {pc : Nat} {i : Fin 2} {v : Int64} (hd : decode cc pc = .ok (.lconst i, 1)) (hv : Int64.ofNat (i : Nat) = v) {lv : List (Option jv)} {r : List jv} {σ : Nat → jcell} (k : jJ E cl nL M Q n cells slots (pc + 1) lv (.inr (.inl v) :: r) σ) : jJ E cl nL M Q n cells slots pc lv r σ := by
  obtain ⟨hx, hb, -⟩ := X
  exact fun H locs ls hW hS hL => lv_lconst hx hb hd hv (k H locs ls hW hS hL)
theorem jk_ldc (X : jX E own Ts cl tb nL ini cc M) {pc i wi : Nat} {v : Int32} (hd : decode cc pc = .ok (.ldc i, 2)) (hw : Ts[wi]? = some (Jvm.Cond.constant own i v)) {lv : List (Option jv)} {r : List jv} {σ : Nat → jcell} (k : jJ E cl nL M Q n cells slots (pc + 2) lv (.inl v :: r) σ) : jJ E cl nL M Q n cells slots pc lv r σ := by
  obtain ⟨hx, hb, -, ho, hts, -⟩ := X
  exact fun H locs ls hW hS hL => lv_ldc hx hb ho (hts _ (jTA_in hw rfl)) hd (k H locs ls hW hS hL)
theorem jk_ldc2 (X : jX E own Ts cl tb nL ini cc M) {pc i wi : Nat} {v : Int64} (hd : decode cc pc = .ok (.ldc2_w i, 3)) (hw : Ts[wi]? = some (Jvm.Cond.constantLong own i v)) {lv : List (Option jv)} {r : List jv} {σ : Nat → jcell} (k : jJ E cl nL M Q n cells slots (pc + 3) lv (.inr (.inl v) :: r) σ) : jJ E cl nL M Q n cells slots pc lv r σ := by
  obtain ⟨hx, hb, -, ho, hts, -⟩ := X
  exact fun H locs ls hW hS hL => lv_ldc2 hx hb ho (hts _ (jTA_in hw rfl)) hd (k H locs ls hW hS hL)
theorem jk_iload_n (X : jX E own Ts cl tb nL ini cc M) {pc : Nat} {i : Fin 4} (hd : decode cc pc = .ok (.iload_n i, 1)) {lv : List (Option jv)} {r : List jv} {σ : Nat → jcell} {x : Int32} (hl : lv[i.val]? = some (some (.inl x))) (k : jJ E cl nL M Q n cells slots (pc + 1) lv (.inl x :: r) σ) : jJ E cl nL M Q n cells slots pc lv r σ := by
  obtain ⟨hx, hb, -⟩ := X
  exact fun H locs ls hW hS hL => lv_iload_n hx hb hd rfl (hL.2.2 _ _ hl) (k H locs ls hW hS hL)
theorem jk_iload (X : jX E own Ts cl tb nL ini cc M) {pc i : Nat} (hd : decode cc pc = .ok (.iload i, 2)) {lv : List (Option jv)} {r : List jv} {σ : Nat → jcell} {x : Int32} (hl : lv[i]? = some (some (.inl x))) (k : jJ E cl nL M Q n cells slots (pc + 2) lv (.inl x :: r) σ) : jJ E cl nL M Q n cells slots pc lv r σ := by
  obtain ⟨hx, hb, -⟩ := X
  exact fun H locs ls hW hS hL => lv_iload hx hb hd (hL.2.2 _ _ hl) (k H locs ls hW hS hL)
theorem jk_lload_n (X : jX E own Ts cl tb nL ini cc M) {pc : Nat} {i : Fin 4} (hd : decode cc pc = .ok (.lload_n i, 1)) {lv : List (Option jv)} {r : List jv} {σ : Nat → jcell} {x : Int64} (hl : lv[i.val]? = some (some (.inr (.inl x)))) (k : jJ E cl nL M Q n cells slots (pc + 1) lv (.inr (.inl x) :: r) σ) : jJ E cl nL M Q n cells slots pc lv r σ := by
  obtain ⟨hx, hb, -⟩ := X
  exact fun H locs ls hW hS hL => lv_lload_n hx hb hd rfl (hL.2.2 _ _ hl) (k H locs ls hW hS hL)
theorem jk_lload (X : jX E own Ts cl tb nL ini cc M) {pc i : Nat} (hd : decode cc pc = .ok (.lload i, 2)) {lv : List (Option jv)} {r : List jv} {σ : Nat → jcell} {x : Int64} (hl : lv[i]? = some (some (.inr (.inl x)))) (k : jJ E cl nL M Q n cells slots (pc + 2) lv (.inr (.inl x) :: r) σ) : jJ E cl nL M Q n cells slots pc lv r σ := by
  obtain ⟨hx, hb, -⟩ := X
  exact fun H locs ls hW hS hL => lv_lload hx hb hd (hL.2.2 _ _ hl) (k H locs ls hW hS hL)
theorem jk_aload_n (X : jX E own Ts cl tb nL ini cc M) {pc : Nat} {i : Fin 4} (hd : decode cc pc = .ok (.aload_n i, 1)) {lv : List (Option jv)} {r : List jv} {σ : Nat → jcell} {x : Option (Nat ⊕ Nat)} (hl : lv[i.val]? = some (some (.inr (.inr x)))) (k : jJ E cl nL M Q n cells slots (pc + 1) lv (.inr (.inr x) :: r) σ) : jJ E cl nL M Q n cells slots pc lv r σ := by
  obtain ⟨hx, hb, -⟩ := X
  rcases x with _ | a | a
  · exact fun H locs ls hW hS hL => lv_aload_nN hx hb hd rfl (hL.2.2 _ _ hl) (k H locs ls hW hS hL)
  · exact fun H locs ls hW hS hL => lv_aload_n hx hb hd rfl (hL.2.2 _ _ hl) (k H locs ls hW hS hL)
  · exact fun H locs ls hW hS hL => lv_aload_n hx hb hd rfl (hL.2.2 _ _ hl) (k H locs ls hW hS hL)
theorem jk_aload (X : jX E own Ts cl tb nL ini cc M) {pc i : Nat} (hd : decode cc pc = .ok (.aload i, 2)) {lv : List (Option jv)} {r : List jv} {σ : Nat → jcell} {x : Option (Nat ⊕ Nat)} (hl : lv[i]? = some (some (.inr (.inr x)))) (k : jJ E cl nL M Q n cells slots (pc + 2) lv (.inr (.inr x) :: r) σ) : jJ E cl nL M Q n cells slots pc lv r σ := by
  obtain ⟨hx, hb, -⟩ := X
  rcases x with _ | a | a
  · exact fun H locs ls hW hS hL => lv_aloadN hx hb hd (hL.2.2 _ _ hl) (k H locs ls hW hS hL)
  · exact fun H locs ls hW hS hL => lv_aload hx hb hd (hL.2.2 _ _ hl) (k H locs ls hW hS hL)
  · exact fun H locs ls hW hS hL => lv_aload hx hb hd (hL.2.2 _ _ hl) (k H locs ls hW hS hL)
theorem jk_istore_n (X : jX E own Ts cl tb nL ini cc M) {pc : Nat} {i : Fin 4} (hd : decode cc pc = .ok (.istore_n i, 1)) (hi : i.val < nL) {lv : List (Option jv)} {r : List jv} {σ : Nat → jcell} {x : Int32} (k : jJ E cl nL M Q n cells slots (pc + 1) (jset1 lv i.val (.inl x)) r σ) : jJ E cl nL M Q n cells slots pc lv (.inl x :: r) σ := by
  obtain ⟨hx, hb, -⟩ := X
  (intro H locs ls hW hS hL
   obtain ⟨ls', e', h'⟩ := jlv_st1 hL hi (v := .inl x) rfl
   intro T hT X
   obtain ⟨t, a1, b1⟩ := k H locs ls' hW hS h' T hT X
   refine ⟨t, ?_, b1⟩
   (simp only [jc] at e'
    jvm_step X.here [X.here.top, ↓top_set X.here.top, hx, hb, hd, e', List.map_cons, jc]
    exact a1))
theorem jk_istore (X : jX E own Ts cl tb nL ini cc M) {pc : Nat} {i : Nat} (hd : decode cc pc = .ok (.istore i, 2)) (hi : i < nL) {lv : List (Option jv)} {r : List jv} {σ : Nat → jcell} {x : Int32} (k : jJ E cl nL M Q n cells slots (pc + 2) (jset1 lv i (.inl x)) r σ) : jJ E cl nL M Q n cells slots pc lv (.inl x :: r) σ := by
  obtain ⟨hx, hb, -⟩ := X
  (intro H locs ls hW hS hL
   obtain ⟨ls', e', h'⟩ := jlv_st1 hL hi (v := .inl x) rfl
   intro T hT X
   obtain ⟨t, a1, b1⟩ := k H locs ls' hW hS h' T hT X
   refine ⟨t, ?_, b1⟩
   (simp only [jc] at e'
    jvm_step X.here [X.here.top, ↓top_set X.here.top, hx, hb, hd, e', List.map_cons, jc]
    exact a1))
theorem jk_lstore_n (X : jX E own Ts cl tb nL ini cc M) {pc : Nat} {i : Fin 4} (hd : decode cc pc = .ok (.lstore_n i, 1)) (hi : i.val + 1 < nL) {lv : List (Option jv)} {r : List jv} {σ : Nat → jcell} {x : Int64} (k : jJ E cl nL M Q n cells slots (pc + 1) (jset2 lv i.val (.inr (.inl x))) r σ) : jJ E cl nL M Q n cells slots pc lv (.inr (.inl x) :: r) σ := by
  obtain ⟨hx, hb, -⟩ := X
  (intro H locs ls hW hS hL
   obtain ⟨ls', e', h'⟩ := jlv_st2 hL hi (v := .inr (.inl x)) rfl
   intro T hT X
   obtain ⟨t, a1, b1⟩ := k H locs ls' hW hS h' T hT X
   refine ⟨t, ?_, b1⟩
   (simp only [jc] at e'
    jvm_step X.here [X.here.top, ↓top_set X.here.top, hx, hb, hd, e', List.map_cons, jc]
    exact a1))
theorem jk_lstore (X : jX E own Ts cl tb nL ini cc M) {pc : Nat} {i : Nat} (hd : decode cc pc = .ok (.lstore i, 2)) (hi : i + 1 < nL) {lv : List (Option jv)} {r : List jv} {σ : Nat → jcell} {x : Int64} (k : jJ E cl nL M Q n cells slots (pc + 2) (jset2 lv i (.inr (.inl x))) r σ) : jJ E cl nL M Q n cells slots pc lv (.inr (.inl x) :: r) σ := by
  obtain ⟨hx, hb, -⟩ := X
  (intro H locs ls hW hS hL
   obtain ⟨ls', e', h'⟩ := jlv_st2 hL hi (v := .inr (.inl x)) rfl
   intro T hT X
   obtain ⟨t, a1, b1⟩ := k H locs ls' hW hS h' T hT X
   refine ⟨t, ?_, b1⟩
   (simp only [jc] at e'
    jvm_step X.here [X.here.top, ↓top_set X.here.top, hx, hb, hd, e', List.map_cons, jc]
    exact a1))
theorem jk_astore_n (X : jX E own Ts cl tb nL ini cc M) {pc : Nat} {i : Fin 4} (hd : decode cc pc = .ok (.astore_n i, 1)) (hi : i.val < nL) {lv : List (Option jv)} {r : List jv} {σ : Nat → jcell} {x : Option (Nat ⊕ Nat)} (k : jJ E cl nL M Q n cells slots (pc + 1) (jset1 lv i.val (.inr (.inr x))) r σ) : jJ E cl nL M Q n cells slots pc lv (.inr (.inr x) :: r) σ := by
  obtain ⟨hx, hb, -⟩ := X
  (intro H locs ls hW hS hL
   obtain ⟨ls', e', h'⟩ := jlv_st1 hL hi (v := .inr (.inr x)) rfl
   intro T hT X
   obtain ⟨t, a1, b1⟩ := k H locs ls' hW hS h' T hT X
   refine ⟨t, ?_, b1⟩
   rcases x with _ | a | a <;>
   (simp only [jc] at e'
    jvm_step X.here [X.here.top, ↓top_set X.here.top, hx, hb, hd, e', Value.isRef, List.map_cons, jc]
    exact a1))
theorem jk_astore (X : jX E own Ts cl tb nL ini cc M) {pc : Nat} {i : Nat} (hd : decode cc pc = .ok (.astore i, 2)) (hi : i < nL) {lv : List (Option jv)} {r : List jv} {σ : Nat → jcell} {x : Option (Nat ⊕ Nat)} (k : jJ E cl nL M Q n cells slots (pc + 2) (jset1 lv i (.inr (.inr x))) r σ) : jJ E cl nL M Q n cells slots pc lv (.inr (.inr x) :: r) σ := by
  obtain ⟨hx, hb, -⟩ := X
  (intro H locs ls hW hS hL
   obtain ⟨ls', e', h'⟩ := jlv_st1 hL hi (v := .inr (.inr x)) rfl
   intro T hT X
   obtain ⟨t, a1, b1⟩ := k H locs ls' hW hS h' T hT X
   refine ⟨t, ?_, b1⟩
   rcases x with _ | a | a <;>
   (simp only [jc] at e'
    jvm_step X.here [X.here.top, ↓top_set X.here.top, hx, hb, hd, e', Value.isRef, List.map_cons, jc]
    exact a1))
theorem jk_iinc (X : jX E own Ts cl tb nL ini cc M) {pc i : Nat} {z : Int} {v : Int32} (hd : decode cc pc = .ok (.iinc i z, 3)) (hi : i < nL) (hv : Int32.ofInt z = v) {lv : List (Option jv)} {r : List jv} {σ : Nat → jcell} {x : Int32} (hl : lv[i]? = some (some (.inl x))) (k : jJ E cl nL M Q n cells slots (pc + 3) (jset1 lv i (.inl (x + v))) r σ) : jJ E cl nL M Q n cells slots pc lv r σ := by
  obtain ⟨hx, hb, -⟩ := X
  subst hv
  intro H locs ls hW hS hL
  have hg := hL.2.2 _ _ hl
  obtain ⟨ls', e', h'⟩ := jlv_st1 hL hi (v := .inl (x + Int32.ofInt z)) rfl
  intro T hT X
  obtain ⟨t, a1, b1⟩ := k H locs ls' hW hS h' T hT X
  refine ⟨t, ?_, b1⟩
  simp only [jc] at e' hg
  jvm_step X.here [X.here.top, ↓top_set X.here.top, hx, hb, hd, hg, e']
  exact a1
theorem jk_if (X : jX E own Ts cl tb nL ini cc M) {pc tg : Nat} {cd : Jvm.ClassFile.Cond} {z : Int} (hd : decode cc pc = .ok (.ifCond cd z, 3)) (ht : (pc : Int) + z = (tg : Int)) {lv : List (Option jv)} {r : List jv} {σ : Nat → jcell} {x : Int32} {A B : Prop} (h : jbr cd x 0 A B) (ka : A → jJ E cl nL M Q n cells slots tg lv r σ) (kb : B → jJ E cl nL M Q n cells slots (pc + 3) lv r σ) : jJ E cl nL M Q n cells slots pc lv (.inl x :: r) σ := by
  obtain ⟨hx, hb, -⟩ := X
  intro H locs ls hW hS hL
  cases cd
  · exact lv_if_eq hx hb hd ht (fun q => ka (h.1 q) H locs ls hW hS hL) (fun q => kb (h.2 q) H locs ls hW hS hL)
  · exact lv_if_ne hx hb hd ht (fun q => ka (h.1 q) H locs ls hW hS hL) (fun q => kb (h.2 q) H locs ls hW hS hL)
  · exact lv_if_lt hx hb hd ht (fun q => ka (h.1 q) H locs ls hW hS hL) (fun q => kb (h.2 q) H locs ls hW hS hL)
  · exact lv_if_ge hx hb hd ht (fun q => ka (h.1 q) H locs ls hW hS hL) (fun q => kb (h.2 q) H locs ls hW hS hL)
  · exact lv_if_gt hx hb hd ht (fun q => ka (h.1 q) H locs ls hW hS hL) (fun q => kb (h.2 q) H locs ls hW hS hL)
  · exact lv_if_le hx hb hd ht (fun q => ka (h.1 q) H locs ls hW hS hL) (fun q => kb (h.2 q) H locs ls hW hS hL)
theorem jk_icmp (X : jX E own Ts cl tb nL ini cc M) {pc tg : Nat} {cd : Jvm.ClassFile.Cond} {z : Int} (hd : decode cc pc = .ok (.if_icmp cd z, 3)) (ht : (pc : Int) + z = (tg : Int)) {lv : List (Option jv)} {r : List jv} {σ : Nat → jcell} {x y : Int32} {A B : Prop} (h : jbr cd x y A B) (ka : A → jJ E cl nL M Q n cells slots tg lv r σ) (kb : B → jJ E cl nL M Q n cells slots (pc + 3) lv r σ) : jJ E cl nL M Q n cells slots pc lv (.inl y :: .inl x :: r) σ := by
  obtain ⟨hx, hb, -⟩ := X
  intro H locs ls hW hS hL
  cases cd
  · exact lv_icmp_eq hx hb hd ht (fun q => ka (h.1 q) H locs ls hW hS hL) (fun q => kb (h.2 q) H locs ls hW hS hL)
  · exact lv_icmp_ne hx hb hd ht (fun q => ka (h.1 q) H locs ls hW hS hL) (fun q => kb (h.2 q) H locs ls hW hS hL)
  · exact lv_icmp_lt hx hb hd ht (fun q => ka (h.1 q) H locs ls hW hS hL) (fun q => kb (h.2 q) H locs ls hW hS hL)
  · exact lv_icmp_ge hx hb hd ht (fun q => ka (h.1 q) H locs ls hW hS hL) (fun q => kb (h.2 q) H locs ls hW hS hL)
  · exact lv_icmp_gt hx hb hd ht (fun q => ka (h.1 q) H locs ls hW hS hL) (fun q => kb (h.2 q) H locs ls hW hS hL)
  · exact lv_icmp_le hx hb hd ht (fun q => ka (h.1 q) H locs ls hW hS hL) (fun q => kb (h.2 q) H locs ls hW hS hL)
theorem jk_goto (X : jX E own Ts cl tb nL ini cc M) {pc tg : Nat} {z : Int} (hd : decode cc pc = .ok (.goto z, 3)) (ht : (pc : Int) + z = (tg : Int)) {lv : List (Option jv)} {r : List jv} {σ : Nat → jcell} (k : jJ E cl nL M Q n cells slots tg lv r σ) : jJ E cl nL M Q n cells slots pc lv r σ := by
  obtain ⟨hx, hb, -⟩ := X
  exact fun H locs ls hW hS hL => lv_goto hx hb hd ht (k H locs ls hW hS hL)
theorem jk_ifnull (X : jX E own Ts cl tb nL ini cc M) {pc tg : Nat} {z : Int} (hd : decode cc pc = .ok (.ifnull z, 3)) (ht : (pc : Int) + z = (tg : Int)) {lv : List (Option jv)} {r : List jv} {σ : Nat → jcell} {x : Option (Nat ⊕ Nat)} (ka : x = none → jJ E cl nL M Q n cells slots tg lv r σ) (kb : ¬ x = none → jJ E cl nL M Q n cells slots (pc + 3) lv r σ) : jJ E cl nL M Q n cells slots pc lv (.inr (.inr x) :: r) σ := by
  obtain ⟨hx, hb, -⟩ := X
  intro H locs ls hW hS hL
  rcases x with _ | a | a
  · exact lv_ifnullN hx hb hd ht (ka rfl H locs ls hW hS hL)
  · exact lv_ifnull hx hb hd (kb (fun q => by cases q) H locs ls hW hS hL)
  · exact lv_ifnull hx hb hd (kb (fun q => by cases q) H locs ls hW hS hL)
theorem jk_ifnonnull (X : jX E own Ts cl tb nL ini cc M) {pc tg : Nat} {z : Int} (hd : decode cc pc = .ok (.ifnonnull z, 3)) (ht : (pc : Int) + z = (tg : Int)) {lv : List (Option jv)} {r : List jv} {σ : Nat → jcell} {x : Option (Nat ⊕ Nat)} (ka : ¬ x = none → jJ E cl nL M Q n cells slots tg lv r σ) (kb : x = none → jJ E cl nL M Q n cells slots (pc + 3) lv r σ) : jJ E cl nL M Q n cells slots pc lv (.inr (.inr x) :: r) σ := by
  obtain ⟨hx, hb, -⟩ := X
  intro H locs ls hW hS hL
  rcases x with _ | a | a
  · exact lv_ifnonnullN hx hb hd (kb rfl H locs ls hW hS hL)
  · exact lv_ifnonnull hx hb hd ht (ka (fun q => by cases q) H locs ls hW hS hL)
  · exact lv_ifnonnull hx hb hd ht (ka (fun q => by cases q) H locs ls hW hS hL)
theorem jk_iald (X : jX E own Ts cl tb nL ini cc M) {pc : Nat} (hd : decode cc pc = .ok (.iaload, 1)) {lv : List (Option jv)} {r : List jv} {σ : Nat → jcell} {i : Int32} {a len : Nat} {g : Nat → Int32} (ha : a < n) (he : σ a = .inl (.int, len, .inl g)) (hin : vp_in i len) (k : jJ E cl nL M Q n cells slots (pc + 1) lv (.inl (g i.toNatClampNeg) :: r) σ) : jJ E cl nL M Q n cells slots pc lv (.inl i :: .inr (.inr (some (.inl a))) :: r) σ := by
  obtain ⟨hx, hb, -, -, -, ⟨hK, -⟩, -⟩ := X
  intro H locs ls hW hS hL
  have hP := jW_one hW ha (by rw [he]; simp only [jkn]; first | done | decide | assumption)
  rw [he] at hP
  obtain ⟨t0, ht0⟩ := jty_in (E := E) (t := .int) (by decide)
  exact va_iald hx hb hK hP 0 t0 rfl ht0 hin hd (k H locs ls hW hS hL)
theorem jk_ialdT (X : jX E own Ts cl tb nL ini cc M) {pc : Nat} (hd : decode cc pc = .ok (.iaload, 1)) {lv : List (Option jv)} {r : List jv} {σ : Nat → jcell} {i : Int32} {j len : Nat} {g : Nat → Int32} {s1 s2 s3 : String} (he : tb j = some (s1, s2, s3, .int, len, g)) (hin : vp_in i len) (k : jJ E cl nL M Q n cells slots (pc + 1) lv (.inl (g i.toNatClampNeg) :: r) σ) : jJ E cl nL M Q n cells slots pc lv (.inl i :: .inr (.inr (some (.inr j))) :: r) σ := by
  obtain ⟨hx, hb, -, -, -, ⟨-, hT, -⟩, -⟩ := X
  exact fun H locs ls hW hS hL => va_ti hx hb (hT.1 j _ he).2 hS hin rfl hd (k H locs ls hW hS hL)
theorem jk_bald (X : jX E own Ts cl tb nL ini cc M) {pc : Nat} (hd : decode cc pc = .ok (.baload, 1)) {lv : List (Option jv)} {r : List jv} {σ : Nat → jcell} {i : Int32} {a len : Nat} {g : Nat → Int32} (ha : a < n) (he : σ a = .inl (.byte, len, .inl g)) (hin : vp_in i len) (k : jJ E cl nL M Q n cells slots (pc + 1) lv (.inl (g i.toNatClampNeg) :: r) σ) : jJ E cl nL M Q n cells slots pc lv (.inl i :: .inr (.inr (some (.inl a))) :: r) σ := by
  obtain ⟨hx, hb, -, -, -, ⟨hK, -⟩, -⟩ := X
  intro H locs ls hW hS hL
  have hP := jW_one hW ha (by rw [he]; simp only [jkn]; first | done | decide | assumption)
  rw [he] at hP
  obtain ⟨t0, ht0⟩ := jty_in (E := E) (t := .byte) (by decide)
  exact va_bald hx hb hK hP 0 t0 rfl ht0 hin hd (k H locs ls hW hS hL)
theorem jk_baldT (X : jX E own Ts cl tb nL ini cc M) {pc : Nat} (hd : decode cc pc = .ok (.baload, 1)) {lv : List (Option jv)} {r : List jv} {σ : Nat → jcell} {i : Int32} {j len : Nat} {g : Nat → Int32} {s1 s2 s3 : String} (he : tb j = some (s1, s2, s3, .byte, len, g)) (hin : vp_in i len) (k : jJ E cl nL M Q n cells slots (pc + 1) lv (.inl (g i.toNatClampNeg) :: r) σ) : jJ E cl nL M Q n cells slots pc lv (.inl i :: .inr (.inr (some (.inr j))) :: r) σ := by
  obtain ⟨hx, hb, -, -, -, ⟨-, hT, -⟩, -⟩ := X
  exact fun H locs ls hW hS hL => va_tb hx hb (hT.1 j _ he).2 hS hin rfl hd (k H locs ls hW hS hL)
theorem jk_zald (X : jX E own Ts cl tb nL ini cc M) {pc : Nat} (hd : decode cc pc = .ok (.baload, 1)) {lv : List (Option jv)} {r : List jv} {σ : Nat → jcell} {i : Int32} {a len : Nat} {g : Nat → Int32} (ha : a < n) (he : σ a = .inl (.boolean, len, .inl g)) (hin : vp_in i len) (k : jJ E cl nL M Q n cells slots (pc + 1) lv (.inl (g i.toNatClampNeg) :: r) σ) : jJ E cl nL M Q n cells slots pc lv (.inl i :: .inr (.inr (some (.inl a))) :: r) σ := by
  obtain ⟨hx, hb, -, -, -, ⟨hK, -⟩, -⟩ := X
  intro H locs ls hW hS hL
  have hP := jW_one hW ha (by rw [he]; simp only [jkn]; first | done | decide | assumption)
  rw [he] at hP
  obtain ⟨t0, ht0⟩ := jty_in (E := E) (t := .boolean) (by decide)
  exact va_zald hx hb hK hP 0 t0 rfl ht0 hin hd (k H locs ls hW hS hL)
theorem jk_zaldT (X : jX E own Ts cl tb nL ini cc M) {pc : Nat} (hd : decode cc pc = .ok (.baload, 1)) {lv : List (Option jv)} {r : List jv} {σ : Nat → jcell} {i : Int32} {j len : Nat} {g : Nat → Int32} {s1 s2 s3 : String} (he : tb j = some (s1, s2, s3, .boolean, len, g)) (hin : vp_in i len) (k : jJ E cl nL M Q n cells slots (pc + 1) lv (.inl (g i.toNatClampNeg) :: r) σ) : jJ E cl nL M Q n cells slots pc lv (.inl i :: .inr (.inr (some (.inr j))) :: r) σ := by
  obtain ⟨hx, hb, -, -, -, ⟨-, hT, -⟩, -⟩ := X
  exact fun H locs ls hW hS hL => va_tz hx hb (hT.1 j _ he).2 hS hin rfl hd (k H locs ls hW hS hL)
theorem jk_cald (X : jX E own Ts cl tb nL ini cc M) {pc : Nat} (hd : decode cc pc = .ok (.caload, 1)) {lv : List (Option jv)} {r : List jv} {σ : Nat → jcell} {i : Int32} {a len : Nat} {g : Nat → Int32} (ha : a < n) (he : σ a = .inl (.char, len, .inl g)) (hin : vp_in i len) (k : jJ E cl nL M Q n cells slots (pc + 1) lv (.inl (g i.toNatClampNeg) :: r) σ) : jJ E cl nL M Q n cells slots pc lv (.inl i :: .inr (.inr (some (.inl a))) :: r) σ := by
  obtain ⟨hx, hb, -, -, -, ⟨hK, -⟩, -⟩ := X
  intro H locs ls hW hS hL
  have hP := jW_one hW ha (by rw [he]; simp only [jkn]; first | done | decide | assumption)
  rw [he] at hP
  obtain ⟨t0, ht0⟩ := jty_in (E := E) (t := .char) (by decide)
  exact va_cald hx hb hK hP 0 t0 rfl ht0 hin hd (k H locs ls hW hS hL)
theorem jk_caldT (X : jX E own Ts cl tb nL ini cc M) {pc : Nat} (hd : decode cc pc = .ok (.caload, 1)) {lv : List (Option jv)} {r : List jv} {σ : Nat → jcell} {i : Int32} {j len : Nat} {g : Nat → Int32} {s1 s2 s3 : String} (he : tb j = some (s1, s2, s3, .char, len, g)) (hin : vp_in i len) (k : jJ E cl nL M Q n cells slots (pc + 1) lv (.inl (g i.toNatClampNeg) :: r) σ) : jJ E cl nL M Q n cells slots pc lv (.inl i :: .inr (.inr (some (.inr j))) :: r) σ := by
  obtain ⟨hx, hb, -, -, -, ⟨-, hT, -⟩, -⟩ := X
  exact fun H locs ls hW hS hL => va_tc hx hb (hT.1 j _ he).2 hS hin rfl hd (k H locs ls hW hS hL)
theorem jk_iast (X : jX E own Ts cl tb nL ini cc M) {pc : Nat} (hd : decode cc pc = .ok (.iastore, 1)) {lv : List (Option jv)} {r : List jv} {σ : Nat → jcell} {i x : Int32} {a len : Nat} {g : Nat → Int32} (ha : a < n) (he : σ a = .inl (.int, len, .inl g)) (hin : vp_in i len) (k : jJ E cl nL M Q n cells slots (pc + 1) lv r (jup σ a (.inl (.int, len, .inl (upd g i.toNatClampNeg (vp_nar .int x)))))) : jJ E cl nL M Q n cells slots pc lv (.inl x :: .inl i :: .inr (.inr (some (.inl a))) :: r) σ := by
  obtain ⟨hx, hb, -, -, -, ⟨hK, -⟩, -⟩ := X
  intro H locs ls hW hS hL
  have hP := hW.2 a ha (by rw [he]; simp only [jkn]; first | done | decide | assumption)
  rw [he] at hP
  obtain ⟨t0, ht0⟩ := jty_in (E := E) (t := .int) (by decide)
  refine W.iast hx hb hP ((hK.2 t0 _ ht0).1 len (fun j => .int (g j))) (fun q => by cases q) (by show ¬ (i < 0 ∨ (arrV _ _ _).slots.size ≤ _); rw [arrV_size]; exact hin) rfl rfl hd fun H1 e z oq => ?_
  refine k H1 _ ls (jW_set hW z oq ?_) (jS_put hS z oq) hL
  show H1[_]? = some (vp_cell _ _)
  rw [e]
  show some ((vp_cell _ (len, .inl g)).setSlot _ _) = _
  rw [vp_cell_i, vp_cell_i, arrV_store]
  congr 2
  funext q
  by_cases hq : q = i.toNatClampNeg
  · subst hq
    simp [updV, upd, vp_nar]
    try rfl
  · simp [updV, upd, hq]
theorem jk_bast (X : jX E own Ts cl tb nL ini cc M) {pc : Nat} (hd : decode cc pc = .ok (.bastore, 1)) {lv : List (Option jv)} {r : List jv} {σ : Nat → jcell} {i x : Int32} {a len : Nat} {g : Nat → Int32} (ha : a < n) (he : σ a = .inl (.byte, len, .inl g)) (hin : vp_in i len) (k : jJ E cl nL M Q n cells slots (pc + 1) lv r (jup σ a (.inl (.byte, len, .inl (upd g i.toNatClampNeg (vp_nar .byte x)))))) : jJ E cl nL M Q n cells slots pc lv (.inl x :: .inl i :: .inr (.inr (some (.inl a))) :: r) σ := by
  obtain ⟨hx, hb, -, -, -, ⟨hK, -⟩, -⟩ := X
  intro H locs ls hW hS hL
  have hP := hW.2 a ha (by rw [he]; simp only [jkn]; first | done | decide | assumption)
  rw [he] at hP
  obtain ⟨t0, ht0⟩ := jty_in (E := E) (t := .byte) (by decide)
  refine W.bast hx hb hP ((hK.2 t0 _ ht0).1 len (fun j => .int (g j))) (fun q => by cases q) (by show ¬ (i < 0 ∨ (arrV _ _ _).slots.size ≤ _); rw [arrV_size]; exact hin) rfl rfl hd fun H1 e z oq => ?_
  refine k H1 _ ls (jW_set hW z oq ?_) (jS_put hS z oq) hL
  show H1[_]? = some (vp_cell _ _)
  rw [e]
  show some ((vp_cell _ (len, .inl g)).setSlot _ _) = _
  rw [vp_cell_i, vp_cell_i, arrV_store]
  congr 2
  funext q
  by_cases hq : q = i.toNatClampNeg
  · subst hq
    simp [updV, upd, vp_nar]
    try rfl
  · simp [updV, upd, hq]
theorem jk_zast (X : jX E own Ts cl tb nL ini cc M) {pc : Nat} (hd : decode cc pc = .ok (.bastore, 1)) {lv : List (Option jv)} {r : List jv} {σ : Nat → jcell} {i x : Int32} {a len : Nat} {g : Nat → Int32} (ha : a < n) (he : σ a = .inl (.boolean, len, .inl g)) (hin : vp_in i len) (k : jJ E cl nL M Q n cells slots (pc + 1) lv r (jup σ a (.inl (.boolean, len, .inl (upd g i.toNatClampNeg (vp_nar .boolean x)))))) : jJ E cl nL M Q n cells slots pc lv (.inl x :: .inl i :: .inr (.inr (some (.inl a))) :: r) σ := by
  obtain ⟨hx, hb, -, -, -, ⟨hK, -⟩, -⟩ := X
  intro H locs ls hW hS hL
  have hP := hW.2 a ha (by rw [he]; simp only [jkn]; first | done | decide | assumption)
  rw [he] at hP
  obtain ⟨t0, ht0⟩ := jty_in (E := E) (t := .boolean) (by decide)
  refine W.zast hx hb hP ((hK.2 t0 _ ht0).1 len (fun j => .int (g j))) (fun q => by cases q) (by show ¬ (i < 0 ∨ (arrV _ _ _).slots.size ≤ _); rw [arrV_size]; exact hin) rfl rfl hd fun H1 e z oq => ?_
  refine k H1 _ ls (jW_set hW z oq ?_) (jS_put hS z oq) hL
  show H1[_]? = some (vp_cell _ _)
  rw [e]
  show some ((vp_cell _ (len, .inl g)).setSlot _ _) = _
  rw [vp_cell_i, vp_cell_i, arrV_store]
  congr 2
  funext q
  by_cases hq : q = i.toNatClampNeg
  · subst hq
    simp [updV, upd, vp_nar]
    try rfl
  · simp [updV, upd, hq]
theorem jk_cast (X : jX E own Ts cl tb nL ini cc M) {pc : Nat} (hd : decode cc pc = .ok (.castore, 1)) {lv : List (Option jv)} {r : List jv} {σ : Nat → jcell} {i x : Int32} {a len : Nat} {g : Nat → Int32} (ha : a < n) (he : σ a = .inl (.char, len, .inl g)) (hin : vp_in i len) (k : jJ E cl nL M Q n cells slots (pc + 1) lv r (jup σ a (.inl (.char, len, .inl (upd g i.toNatClampNeg (vp_nar .char x)))))) : jJ E cl nL M Q n cells slots pc lv (.inl x :: .inl i :: .inr (.inr (some (.inl a))) :: r) σ := by
  obtain ⟨hx, hb, -, -, -, ⟨hK, -⟩, -⟩ := X
  intro H locs ls hW hS hL
  have hP := hW.2 a ha (by rw [he]; simp only [jkn]; first | done | decide | assumption)
  rw [he] at hP
  obtain ⟨t0, ht0⟩ := jty_in (E := E) (t := .char) (by decide)
  refine W.cast hx hb hP ((hK.2 t0 _ ht0).1 len (fun j => .int (g j))) (fun q => by cases q) (by show ¬ (i < 0 ∨ (arrV _ _ _).slots.size ≤ _); rw [arrV_size]; exact hin) rfl rfl hd fun H1 e z oq => ?_
  refine k H1 _ ls (jW_set hW z oq ?_) (jS_put hS z oq) hL
  show H1[_]? = some (vp_cell _ _)
  rw [e]
  show some ((vp_cell _ (len, .inl g)).setSlot _ _) = _
  rw [vp_cell_i, vp_cell_i, arrV_store]
  congr 2
  funext q
  by_cases hq : q = i.toNatClampNeg
  · subst hq
    simp [updV, upd, vp_nar]
    try rfl
  · simp [updV, upd, hq]
theorem jk_lald (X : jX E own Ts cl tb nL ini cc M) {pc : Nat} (hd : decode cc pc = .ok (.laload, 1)) {lv : List (Option jv)} {r : List jv} {σ : Nat → jcell} {i : Int32} {a len : Nat} {g : Nat → Int64} (ha : a < n) (he : σ a = .inl (.long, len, .inr (.inl g))) (hin : vp_in i len) (k : jJ E cl nL M Q n cells slots (pc + 1) lv (.inr (.inl (g i.toNatClampNeg)) :: r) σ) : jJ E cl nL M Q n cells slots pc lv (.inl i :: .inr (.inr (some (.inl a))) :: r) σ := by
  obtain ⟨hx, hb, -, -, -, ⟨hK, -⟩, -⟩ := X
  intro H locs ls hW hS hL
  have hP := jW_one hW ha (by rw [he]; simp only [jkn]; first | done | decide | assumption)
  rw [he] at hP
  obtain ⟨t0, ht0⟩ := jty_in (E := E) (t := .long) (by decide)
  exact va_lald hx hb hK hP 0 t0 rfl ht0 hin hd (k H locs ls hW hS hL)
theorem jk_last (X : jX E own Ts cl tb nL ini cc M) {pc : Nat} (hd : decode cc pc = .ok (.lastore, 1)) {lv : List (Option jv)} {r : List jv} {σ : Nat → jcell} {i : Int32} {x : Int64} {a len : Nat} {g : Nat → Int64} (ha : a < n) (he : σ a = .inl (.long, len, .inr (.inl g))) (hin : vp_in i len) (k : jJ E cl nL M Q n cells slots (pc + 1) lv r (jup σ a (.inl (.long, len, .inr (.inl (vp_updL g i.toNatClampNeg x)))))) : jJ E cl nL M Q n cells slots pc lv (.inr (.inl x) :: .inl i :: .inr (.inr (some (.inl a))) :: r) σ := by
  obtain ⟨hx, hb, -, -, -, ⟨hK, -⟩, -⟩ := X
  intro H locs ls hW hS hL
  have hP := hW.2 a ha (by rw [he]; simp only [jkn]; first | done | decide | assumption)
  rw [he] at hP
  obtain ⟨t0, ht0⟩ := jty_in (E := E) (t := .long) (by decide)
  refine W.last hx hb hP ((hK.2 t0 _ ht0).1 len (fun j => .long (g j))) (fun q => by cases q) (by show ¬ (i < 0 ∨ (arrV _ _ _).slots.size ≤ _); rw [arrV_size]; exact hin) rfl rfl hd fun H1 e z oq => ?_
  refine k H1 _ ls (jW_set hW z oq ?_) (jS_put hS z oq) hL
  show H1[_]? = some (vp_cell _ _)
  rw [e]
  show some ((vp_cell _ (len, .inr (.inl g))).setSlot _ _) = _
  rw [vp_cell_l, vp_cell_l, arrV_store]
  congr 2
  funext q
  by_cases hq : q = i.toNatClampNeg
  · subst hq
    simp [updV, vp_updL]
  · simp [updV, vp_updL, hq]
theorem jk_alen (X : jX E own Ts cl tb nL ini cc M) {pc : Nat} (hd : decode cc pc = .ok (.arraylength, 1)) {lv : List (Option jv)} {r : List jv} {σ : Nat → jcell} {a : Nat} {t : FieldType} {y : vp_A} (ha : a < n) (he : σ a = .inl (t, y)) (ht : t ∈ jtys) (k : jJ E cl nL M Q n cells slots (pc + 1) lv (.inl (Int32.ofNat y.1) :: r) σ) : jJ E cl nL M Q n cells slots pc lv (.inr (.inr (some (.inl a))) :: r) σ := by
  obtain ⟨hx, hb, -, -, -, ⟨hK, -⟩, -⟩ := X
  intro H locs ls hW hS hL
  have hP := jW_one hW ha (by rw [he]; simp only [jkn]; first | done | decide | assumption)
  rw [he] at hP
  obtain ⟨t0, ht0⟩ := jty_in (E := E) ht
  exact va_alen hx hb hK hP 0 t0 rfl ht0 rfl hd (k H locs ls hW hS hL)
theorem jk_alenT (X : jX E own Ts cl tb nL ini cc M) {pc : Nat} (hd : decode cc pc = .ok (.arraylength, 1)) {lv : List (Option jv)} {r : List jv} {σ : Nat → jcell} {j len : Nat} {t : FieldType} {g : Nat → Int32} {s1 s2 s3 : String} (he : tb j = some (s1, s2, s3, t, len, g)) (k : jJ E cl nL M Q n cells slots (pc + 1) lv (.inl (Int32.ofNat len) :: r) σ) : jJ E cl nL M Q n cells slots pc lv (.inr (.inr (some (.inr j))) :: r) σ := by
  obtain ⟨hx, hb, -, -, -, ⟨-, hT, -⟩, -⟩ := X
  exact fun H locs ls hW hS hL => va_tlen hx hb (hT.1 j _ he).2 hS rfl hd (k H locs ls hW hS hL)
theorem jk_gets (X : jX E own Ts cl tb nL ini cc M) {pc i wi j : Nat} (hd : decode cc pc = .ok (.getstatic i, 3)) {lv : List (Option jv)} {r : List jv} {σ : Nat → jcell} {q : String × String × String × FieldType × Nat × (Nat → Int32)} (he : tb j = some q) (hw : Ts[wi]? = some (Jvm.Cond.fieldLink own i q.1 q.2.1 q.2.2.1)) (k : jJ E cl nL M Q n cells slots (pc + 3) lv (.inr (.inr (some (.inr j))) :: r) σ) : jJ E cl nL M Q n cells slots pc lv r σ := by
  obtain ⟨hx, hb, -, ho, hts, ⟨-, hT, -⟩, -⟩ := X
  exact fun H locs ls hW hS hL => va_gets hx hb (hT.1 j _ he).1 hS ho (hts _ (jTA_in hw rfl)) (fun _ h9 => h9) hd (k H locs ls hW hS hL)
theorem jk_get (hC : jCl Ts cl) (X : jX E own Ts cl tb nL ini cc M) {pc i wi ci f : Nat} (hd : decode cc pc = .ok (.getfield i, 3)) {q : vw_C} (hq : cl[ci]? = some q) (hf : f < q.2.2) (hw : jlk Ts wi own i (q.2.1 f).1 (q.2.1 f).2.1 (q.2.1 f).2.2.1 = true) {lv : List (Option jv)} {r : List jv} {σ : Nat → jcell} {a : Nat} {fs : List jv} {v : jv} (ha : a < n) (he : σ a = .inr (ci, fs)) (hv : fs[f]? = some v) (k : jJ E cl nL M Q n cells slots (pc + 3) lv (v :: r) σ) : jJ E cl nL M Q n cells slots pc lv (.inr (.inr (some (.inl a))) :: r) σ := by
  obtain ⟨hx, hb, -, ho, hts, ⟨hK, -, -, hN⟩, -⟩ := X
  intro H locs ls hW hS hL
  have hP := jW_one hW ha (by rw [he]; simp only [jkn]; first | done | decide | assumption)
  rw [he] at hP
  rcases jlk_or hw with h8 | ⟨host, h8⟩
  · exact va_get (C := q.1) (T := q.2.1) (N := q.2.2) hx hb hts (hC ci q hq).1 ho hK hP 0 rfl hq f hf (hts _ h8) (fun _ h9 => h9) (by rw [List.getElem?_map, hv]; rfl) hd (k H locs ls hW hS hL)
  · exact va_getN (C := q.1) (T := q.2.1) (N := q.2.2) (host := host) hx hb hts (hC ci q hq).1 ho hK hP 0 rfl hq f hf (va_Nw.use rfl (hN _ h8)) (fun _ h9 => h9) (by rw [List.getElem?_map, hv]; rfl) hd (k H locs ls hW hS hL)
theorem jk_put (hC : jCl Ts cl) (X : jX E own Ts cl tb nL ini cc M) {pc i wi ci f kd : Nat} (hd : decode cc pc = .ok (.putfield i, 3)) {q : vw_C} (hq : cl[ci]? = some q) (hf : f < q.2.2) (hw : jlk Ts wi own i (q.2.1 f).1 (q.2.1 f).2.1 (q.2.1 f).2.2.1 = true) (hfin : (q.2.1 f).2.2.2 = true → ini = true ∧ (q.2.1 f).1 = own ∧ Jvm.Cond.fieldLink own i (q.2.1 f).1 (q.2.1 f).2.1 (q.2.1 f).2.2.1 ∈ jTA Ts) (hkd : jkd (parseFieldDescriptor (q.2.1 f).2.2.1) = kd) {lv : List (Option jv)} {r : List jv} {σ : Nat → jcell} {a : Nat} {fs : List jv} {v : jv} (ha : a < n) (he : σ a = .inr (ci, fs)) (hl : f < fs.length) (hv : jfit kd v) (k : jJ E cl nL M Q n cells slots (pc + 3) lv r (jup σ a (.inr (ci, fs.set f v)))) : jJ E cl nL M Q n cells slots pc lv (v :: .inr (.inr (some (.inl a))) :: r) σ := by
  obtain ⟨hx, hb, -, ho, hts, ⟨hK, -, -, hN⟩, -, hini⟩ := X
  intro H locs ls hW hS hL
  obtain ⟨hin, ⟨ty0, hty⟩, hnm⟩ := hC ci q hq
  have hap := va_apart (own := own) hts hin ty0 hty hnm hK hq
  have hP := hW.2 a ha (by rw [he]; simp only [jkn]; first | done | decide | assumption)
  rw [he] at hP
  obtain ⟨r0, h1, cell, q1, q2, q3, q4⟩ := hP
  have hr : r0 = q := Option.some.inj (h1.symm.trans hq)
  subst hr
  obtain ⟨hSl, hfc, kC, hkC, hkind⟩ := hK.1 ci _ hq
  obtain ⟨cf, kf, fi, fd, hi, hsl⟩ := hSl f hf
  obtain ⟨ty, hpty, hnw, hft⟩ := jfit_n (E := E) hv hkd
  have hlay := hts _ (hin _ (u_in_lay hf))
  have hst := (u_facts hfc hkC (u_lays hts hin hf) hi).1
  have hlen : f < (fs.map (jc E)).length := by rw [List.length_map]; exact hl
  have hend : ∀ H' : Heap, H'[E.2.2.2 + a]? = some (cell.setSlot fd.slot (jc E v)) → H'.size = H.size → (∀ z, z ≠ E.2.2.2 + a → H'[z]? = H[z]?) → jW E cl (jup σ a (.inr (ci, fs.set f v))) n H' := by
    intro H' e1 e2 e3
    refine jW_set hW e2 e3 ⟨_, hq, ?_⟩
    rw [hsl] at e1
    refine t_OB.to (V := updV (vp_V (fs.map (jc E))) f (jc E v)) ⟨_, e1, q2, q3, t_set q4 hap hf _⟩ (fun j _ => ?_)
    rw [vp_updV_set hlen]
    show vp_V ((fs.map (jc E)).set f (jc E v)) j = vp_V ((fs.set f v).map (jc E)) j
    rw [List.map_set]
  by_cases hfn : (r0.2.1 f).2.2.2 = true
  · unfold u_lay at hlay
    rw [if_pos hfn] at hlay
    obtain ⟨hi1, hi2, h8⟩ := hfin hfn
    have hcf : M.2.2.2.2.2.1.cls = cf := by
      obtain ⟨_, _, c', _, _, _, -, -, hf', -, -, -, hown2, -⟩ := Cond.laysFinal_spec hlay
      have e1 : c' = cf := by have := hi.symm.trans hf'; simp at this; exact this.1.symm
      rw [hi2] at hown2
      rw [← e1]; exact Option.some.inj (ho.symm.trans hown2)
    have h6 := u_fits hfc hkC hkind (Or.inr hlay) hi hpty hnw hft
    exact W.putFinK hx hb ho (hts _ h8) hi hst hcf (hini hi1) (by rw [q2]; exact h6) q1 q3 (by rw [hsl]; exact k2_hasslot (q4 f hf)) rfl rfl hd fun H' e1 e2 e3 => k H' _ ls (hend H' e1 e2 e3) (jS_put hS e2 e3) hL
  · unfold u_lay at hlay
    rw [if_neg hfn] at hlay
    have h6 := u_store hfc hkC hkind hlay hi hpty hnw hft
    rcases jlk_or hw with h8 | ⟨host, h8⟩
    · exact W.putK hx hb (f := fd) ⟨ho, hts _ h8, ⟨_, _, _, hi⟩, hst⟩ (by rw [q2]; exact h6) q1 q3 (by rw [hsl]; exact k2_hasslot (q4 f hf)) rfl rfl hd fun H' e1 e2 e3 => k H' _ ls (hend H' e1 e2 e3) (jS_put hS e2 e3) hL
    · exact va_WputK hx hb (f := fd) ho (va_Nw.use rfl (hN _ h8)) hi hst (by rw [q2]; exact h6) q1 q3 (by rw [hsl]; exact k2_hasslot (q4 f hf)) rfl rfl hd fun H' e1 e2 e3 => k H' _ ls (hend H' e1 e2 e3) (jS_put hS e2 e3) hL
set_option maxHeartbeats 4000000 in
/-- one instruction: what 'jstep' asks is enough -/
theorem jstep_ok (hC : jCl Ts cl) (X : jX E own Ts cl tb nL ini cc M) {pc : Nat} {I : Instr} {ln : Nat} {py : jP} (hk : jok own Ts cl tb nL ini cc pc (I, ln, py) = true) {lv : List (Option jv)} {st : List jv} {σ : Nat → jcell} {nx lf : jN} (h : jstep tb n I ln py pc lv st σ nx lf)
    (hn : ∀ lv' st' σ', nx (pc + ln) lv' st' σ' → jJ E cl nL M Q n cells slots (pc + ln) lv' st' σ') (hl : ∀ pc' lv' st' σ', lf pc' lv' st' σ' → jJ E cl nL M Q n cells slots pc' lv' st' σ') : jJ E cl nL M Q n cells slots pc lv st σ := by
  unfold jok at hk
  rw [Bool.and_eq_true, decide_eq_true_eq] at hk
  obtain ⟨hd, hk⟩ := hk
  dsimp only at hd hk
  cases I
  case aconst_null =>
    simp only [jok1, Bool.and_eq_true, decide_eq_true_eq] at hk
    simp only [jstep] at h
    subst hk; exact jk_anull X hd (hn _ _ _ h)
  case iconst z =>
    simp only [jok1, Bool.and_eq_true, decide_eq_true_eq] at hk
    simp only [jstep] at h
    obtain ⟨rfl, hv⟩ := hk; exact jk_iconst X hd hv (hn _ _ _ h)
  case bipush z =>
    simp only [jok1, Bool.and_eq_true, decide_eq_true_eq] at hk
    simp only [jstep] at h
    obtain ⟨rfl, hv⟩ := hk; exact jk_bipush X hd hv (hn _ _ _ h)
  case sipush z =>
    simp only [jok1, Bool.and_eq_true, decide_eq_true_eq] at hk
    simp only [jstep] at h
    obtain ⟨rfl, hv⟩ := hk; exact jk_sipush X hd hv (hn _ _ _ h)
  case lconst z =>
    simp only [jok1, Bool.and_eq_true, decide_eq_true_eq] at hk
    simp only [jstep] at h
    obtain ⟨rfl, hv⟩ := hk; exact jk_lconst X hd hv (hn _ _ _ h)
  case ldc z =>
    simp only [jok1, Bool.and_eq_true, decide_eq_true_eq] at hk
    simp only [jstep] at h
    obtain ⟨rfl, hv⟩ := hk; exact jk_ldc X hd hv (hn _ _ _ h)
  case ldc2_w z =>
    simp only [jok1, Bool.and_eq_true, decide_eq_true_eq] at hk
    simp only [jstep] at h
    obtain ⟨rfl, hv⟩ := hk; exact jk_ldc2 X hd hv (hn _ _ _ h)
  case iload_n z =>
    simp only [jok1, Bool.and_eq_true, decide_eq_true_eq] at hk
    simp only [jstep] at h
    obtain ⟨rfl, hv⟩ := hk
    rw [← hv] at h
    unfold jldi at h
    split at h
    next hx => exact jk_iload_n X hd hx (hn _ _ _ h)
    next => exact h.elim
  case iload z =>
    simp only [jok1, Bool.and_eq_true, decide_eq_true_eq] at hk
    simp only [jstep] at h
    subst hk
    unfold jldi at h
    split at h
    next hx => exact jk_iload X hd hx (hn _ _ _ h)
    next => exact h.elim
  case lload_n z =>
    simp only [jok1, Bool.and_eq_true, decide_eq_true_eq] at hk
    simp only [jstep] at h
    obtain ⟨rfl, hv⟩ := hk
    rw [← hv] at h
    unfold jldl at h
    split at h
    next hx => exact jk_lload_n X hd hx (hn _ _ _ h)
    next => exact h.elim
  case lload z =>
    simp only [jok1, Bool.and_eq_true, decide_eq_true_eq] at hk
    simp only [jstep] at h
    subst hk
    unfold jldl at h
    split at h
    next hx => exact jk_lload X hd hx (hn _ _ _ h)
    next => exact h.elim
  case aload_n z =>
    simp only [jok1, Bool.and_eq_true, decide_eq_true_eq] at hk
    simp only [jstep] at h
    obtain ⟨rfl, hv⟩ := hk
    rw [← hv] at h
    unfold jlda at h
    split at h
    next hx => exact jk_aload_n X hd hx (hn _ _ _ h)
    next => exact h.elim
  case aload z =>
    simp only [jok1, Bool.and_eq_true, decide_eq_true_eq] at hk
    simp only [jstep] at h
    subst hk
    unfold jlda at h
    split at h
    next hx => exact jk_aload X hd hx (hn _ _ _ h)
    next => exact h.elim
  case istore_n z =>
    simp only [jok1, Bool.and_eq_true, decide_eq_true_eq] at hk
    simp only [jstep] at h
    obtain ⟨⟨rfl, hi⟩, hv⟩ := hk
    rw [← hv] at h
    unfold j1 at h
    split at h
    next => exact jk_istore_n X hd hi (hn _ _ _ h)
    next => exact h.elim
  case istore z =>
    simp only [jok1, Bool.and_eq_true, decide_eq_true_eq] at hk
    simp only [jstep] at h
    obtain ⟨rfl, hi⟩ := hk
    unfold j1 at h
    split at h
    next => exact jk_istore X hd hi (hn _ _ _ h)
    next => exact h.elim
  case lstore_n z =>
    simp only [jok1, Bool.and_eq_true, decide_eq_true_eq] at hk
    simp only [jstep] at h
    obtain ⟨⟨rfl, hi⟩, hv⟩ := hk
    rw [← hv] at h
    unfold jl1 at h
    split at h
    next => exact jk_lstore_n X hd hi (hn _ _ _ h)
    next => exact h.elim
  case lstore z =>
    simp only [jok1, Bool.and_eq_true, decide_eq_true_eq] at hk
    simp only [jstep] at h
    obtain ⟨rfl, hi⟩ := hk
    unfold jl1 at h
    split at h
    next => exact jk_lstore X hd hi (hn _ _ _ h)
    next => exact h.elim
  case astore_n z =>
    simp only [jok1, Bool.and_eq_true, decide_eq_true_eq] at hk
    simp only [jstep] at h
    obtain ⟨⟨rfl, hi⟩, hv⟩ := hk
    rw [← hv] at h
    unfold ja1 at h
    split at h
    next => exact jk_astore_n X hd hi (hn _ _ _ h)
    next => exact h.elim
  case astore z =>
    simp only [jok1, Bool.and_eq_true, decide_eq_true_eq] at hk
    simp only [jstep] at h
    obtain ⟨rfl, hi⟩ := hk
    unfold ja1 at h
    split at h
    next => exact jk_astore X hd hi (hn _ _ _ h)
    next => exact h.elim
  case iinc z w =>
    simp only [jok1, Bool.and_eq_true, decide_eq_true_eq] at hk
    simp only [jstep] at h
    obtain ⟨⟨rfl, hi⟩, hv⟩ := hk
    unfold jldi at h
    split at h
    next hx => exact jk_iinc X hd hi hv hx (hn _ _ _ h)
    next => exact h.elim
  case iadd =>
    simp only [jok1, Bool.and_eq_true, decide_eq_true_eq] at hk
    simp only [jstep] at h
    subst hk
    unfold j2 at h
    split at h
    next => exact jk_iadd X hd (hn _ _ _ h)
    next => exact h.elim
  case isub =>
    simp only [jok1, Bool.and_eq_true, decide_eq_true_eq] at hk
    simp only [jstep] at h
    subst hk
    unfold j2 at h
    split at h
    next => exact jk_isub X hd (hn _ _ _ h)
    next => exact h.elim
  case imul =>
    simp only [jok1, Bool.and_eq_true, decide_eq_true_eq] at hk
    simp only [jstep] at h
    subst hk
    unfold j2 at h
    split at h
    next => exact jk_imul X hd (hn _ _ _ h)
    next => exact h.elim
  case iand =>
    simp only [jok1, Bool.and_eq_true, decide_eq_true_eq] at hk
    simp only [jstep] at h
    subst hk
    unfold j2 at h
    split at h
    next => exact jk_iand X hd (hn _ _ _ h)
    next => exact h.elim
  case ior =>
    simp only [jok1, Bool.and_eq_true, decide_eq_true_eq] at hk
    simp only [jstep] at h
    subst hk
    unfold j2 at h
    split at h
    next => exact jk_ior X hd (hn _ _ _ h)
    next => exact h.elim
  case ixor =>
    simp only [jok1, Bool.and_eq_true, decide_eq_true_eq] at hk
    simp only [jstep] at h
    subst hk
    unfold j2 at h
    split at h
    next => exact jk_ixor X hd (hn _ _ _ h)
    next => exact h.elim
  case ishl =>
    simp only [jok1, Bool.and_eq_true, decide_eq_true_eq] at hk
    simp only [jstep] at h
    subst hk
    unfold j2 at h
    split at h
    next => exact jk_ishl X hd (hn _ _ _ h)
    next => exact h.elim
  case ishr =>
    simp only [jok1, Bool.and_eq_true, decide_eq_true_eq] at hk
    simp only [jstep] at h
    subst hk
    unfold j2 at h
    split at h
    next => exact jk_ishr X hd (hn _ _ _ h)
    next => exact h.elim
  case iushr =>
    simp only [jok1, Bool.and_eq_true, decide_eq_true_eq] at hk
    simp only [jstep] at h
    subst hk
    unfold j2 at h
    split at h
    next => exact jk_iushr X hd (hn _ _ _ h)
    next => exact h.elim
  case idiv =>
    simp only [jok1, Bool.and_eq_true, decide_eq_true_eq] at hk
    simp only [jstep] at h
    subst hk
    unfold j2 at h
    split at h
    next => exact jk_idiv X hd h.1 (hn _ _ _ h.2)
    next => exact h.elim
  case irem =>
    simp only [jok1, Bool.and_eq_true, decide_eq_true_eq] at hk
    simp only [jstep] at h
    subst hk
    unfold j2 at h
    split at h
    next => exact jk_irem X hd h.1 (hn _ _ _ h.2)
    next => exact h.elim
  case ineg =>
    simp only [jok1, Bool.and_eq_true, decide_eq_true_eq] at hk
    simp only [jstep] at h
    subst hk
    unfold j1 at h
    split at h
    next => exact jk_ineg X hd (hn _ _ _ h)
    next => exact h.elim
  case ladd =>
    simp only [jok1, Bool.and_eq_true, decide_eq_true_eq] at hk
    simp only [jstep] at h
    subst hk
    unfold jl2 at h
    split at h
    next => exact jk_ladd X hd (hn _ _ _ h)
    next => exact h.elim
  case lsub =>
    simp only [jok1, Bool.and_eq_true, decide_eq_true_eq] at hk
    simp only [jstep] at h
    subst hk
    unfold jl2 at h
    split at h
    next => exact jk_lsub X hd (hn _ _ _ h)
    next => exact h.elim
  case lmul =>
    simp only [jok1, Bool.and_eq_true, decide_eq_true_eq] at hk
    simp only [jstep] at h
    subst hk
    unfold jl2 at h
    split at h
    next => exact jk_lmul X hd (hn _ _ _ h)
    next => exact h.elim
  case land =>
    simp only [jok1, Bool.and_eq_true, decide_eq_true_eq] at hk
    simp only [jstep] at h
    subst hk
    unfold jl2 at h
    split at h
    next => exact jk_land X hd (hn _ _ _ h)
    next => exact h.elim
  case lor =>
    simp only [jok1, Bool.and_eq_true, decide_eq_true_eq] at hk
    simp only [jstep] at h
    subst hk
    unfold jl2 at h
    split at h
    next => exact jk_lor X hd (hn _ _ _ h)
    next => exact h.elim
  case lxor =>
    simp only [jok1, Bool.and_eq_true, decide_eq_true_eq] at hk
    simp only [jstep] at h
    subst hk
    unfold jl2 at h
    split at h
    next => exact jk_lxor X hd (hn _ _ _ h)
    next => exact h.elim
  case lcmp =>
    simp only [jok1, Bool.and_eq_true, decide_eq_true_eq] at hk
    simp only [jstep] at h
    subst hk
    unfold jl2 at h
    split at h
    next => exact jk_lcmp X hd (hn _ _ _ h)
    next => exact h.elim
  case ldiv =>
    simp only [jok1, Bool.and_eq_true, decide_eq_true_eq] at hk
    simp only [jstep] at h
    subst hk
    unfold jl2 at h
    split at h
    next => exact jk_ldiv X hd h.1 (hn _ _ _ h.2)
    next => exact h.elim
  case lrem =>
    simp only [jok1, Bool.and_eq_true, decide_eq_true_eq] at hk
    simp only [jstep] at h
    subst hk
    unfold jl2 at h
    split at h
    next => exact jk_lrem X hd h.1 (hn _ _ _ h.2)
    next => exact h.elim
  case lneg =>
    simp only [jok1, Bool.and_eq_true, decide_eq_true_eq] at hk
    simp only [jstep] at h
    subst hk
    unfold jl1 at h
    split at h
    next => exact jk_lneg X hd (hn _ _ _ h)
    next => exact h.elim
  case lshl =>
    simp only [jok1, Bool.and_eq_true, decide_eq_true_eq] at hk
    simp only [jstep] at h
    subst hk
    unfold jli at h
    split at h
    next => exact jk_lshl X hd (hn _ _ _ h)
    next => exact h.elim
  case lshr =>
    simp only [jok1, Bool.and_eq_true, decide_eq_true_eq] at hk
    simp only [jstep] at h
    subst hk
    unfold jli at h
    split at h
    next => exact jk_lshr X hd (hn _ _ _ h)
    next => exact h.elim
  case lushr =>
    simp only [jok1, Bool.and_eq_true, decide_eq_true_eq] at hk
    simp only [jstep] at h
    subst hk
    unfold jli at h
    split at h
    next => exact jk_lushr X hd (hn _ _ _ h)
    next => exact h.elim
  case i2l =>
    simp only [jok1, Bool.and_eq_true, decide_eq_true_eq] at hk
    simp only [jstep] at h
    subst hk
    unfold j1 at h
    split at h
    next => exact jk_i2l X hd (hn _ _ _ h)
    next => exact h.elim
  case i2b =>
    simp only [jok1, Bool.and_eq_true, decide_eq_true_eq] at hk
    simp only [jstep] at h
    subst hk
    unfold j1 at h
    split at h
    next => exact jk_i2b X hd (hn _ _ _ h)
    next => exact h.elim
  case i2c =>
    simp only [jok1, Bool.and_eq_true, decide_eq_true_eq] at hk
    simp only [jstep] at h
    subst hk
    unfold j1 at h
    split at h
    next => exact jk_i2c X hd (hn _ _ _ h)
    next => exact h.elim
  case l2i =>
    simp only [jok1, Bool.and_eq_true, decide_eq_true_eq] at hk
    simp only [jstep] at h
    subst hk
    unfold jl1 at h
    split at h
    next => exact jk_l2i X hd (hn _ _ _ h)
    next => exact h.elim
  case dup =>
    simp only [jok1, Bool.and_eq_true, decide_eq_true_eq] at hk
    simp only [jstep] at h
    subst hk
    unfold jdup at h
    split at h
    next => exact jk_dup X hd h.1 (hn _ _ _ h.2)
    next => exact h.elim
  case pop =>
    simp only [jok1, Bool.and_eq_true, decide_eq_true_eq] at hk
    simp only [jstep] at h
    subst hk
    unfold jdup at h
    split at h
    next => exact jk_pop X hd h.1 (hn _ _ _ h.2)
    next => exact h.elim
  case dup_x1 =>
    simp only [jok1, Bool.and_eq_true, decide_eq_true_eq] at hk
    simp only [jstep] at h
    subst hk
    unfold jdupx at h
    split at h
    next => exact jk_dup_x1 X hd h.1 h.2.1 (hn _ _ _ h.2.2)
    next => exact h.elim
  case dup_x2 =>
    simp only [jok1, Bool.and_eq_true, decide_eq_true_eq] at hk
    simp only [jstep] at h
    subst hk
    unfold jdupx2 at h
    split at h
    next => exact jk_dup_x2 X hd h.1 h.2.1 h.2.2.1 (hn _ _ _ h.2.2.2)
    next => exact h.elim
  case dup2 =>
    simp only [jok1, Bool.and_eq_true, decide_eq_true_eq] at hk
    simp only [jstep] at h
    subst hk
    unfold jdup2 at h
    split at h
    next => exact jk_dup2_2 X hd (hn _ _ _ h)
    next => exact jk_dup2_11 X hd h.1 h.2.1 (hn _ _ _ h.2.2)
    next => exact h.elim
  case ifCond z w =>
    simp only [jok1, Bool.and_eq_true, decide_eq_true_eq] at hk
    simp only [jstep] at h
    obtain ⟨rfl, ht⟩ := hk
    unfold j1 at h
    split at h
    next => exact jk_if X hd ht h (hl _ _ _ _) (hn _ _ _)
    next => exact h.elim
  case if_icmp z w =>
    simp only [jok1, Bool.and_eq_true, decide_eq_true_eq] at hk
    simp only [jstep] at h
    obtain ⟨rfl, ht⟩ := hk
    unfold j2 at h
    split at h
    next => exact jk_icmp X hd ht h (hl _ _ _ _) (hn _ _ _)
    next => exact h.elim
  case ifnull w =>
    simp only [jok1, Bool.and_eq_true, decide_eq_true_eq] at hk
    simp only [jstep] at h
    obtain ⟨rfl, ht⟩ := hk
    unfold ja1 at h
    split at h
    next => exact jk_ifnull X hd ht (fun q => hl _ _ _ _ (h.1 q)) (fun q => hn _ _ _ (h.2 q))
    next => exact h.elim
  case ifnonnull w =>
    simp only [jok1, Bool.and_eq_true, decide_eq_true_eq] at hk
    simp only [jstep] at h
    obtain ⟨rfl, ht⟩ := hk
    unfold ja1 at h
    split at h
    next => exact jk_ifnonnull X hd ht (fun q => hl _ _ _ _ (h.1 q)) (fun q => hn _ _ _ (h.2 q))
    next => exact h.elim
  case goto w =>
    simp only [jok1, Bool.and_eq_true, decide_eq_true_eq] at hk
    simp only [jstep] at h
    obtain ⟨rfl, ht⟩ := hk; exact jk_goto X hd ht (hl _ _ _ _ h)
  case iaload =>
    simp only [jok1, Bool.and_eq_true, decide_eq_true_eq] at hk
    simp only [jstep] at h
    subst hk
    unfold jald at h
    split at h
    next =>
      obtain ⟨ha, h⟩ := h
      split at h
      next he => obtain ⟨rfl, hin, h⟩ := h; exact jk_iald X hd ha he hin (hn _ _ _ h)
      next => exact h.elim
    next =>
      split at h
      next he => obtain ⟨rfl, hin, h⟩ := h; exact jk_ialdT X hd he hin (hn _ _ _ h)
      next => exact h.elim
    next => exact h.elim
  case caload =>
    simp only [jok1, Bool.and_eq_true, decide_eq_true_eq] at hk
    simp only [jstep] at h
    subst hk
    unfold jald at h
    split at h
    next =>
      obtain ⟨ha, h⟩ := h
      split at h
      next he => obtain ⟨rfl, hin, h⟩ := h; exact jk_cald X hd ha he hin (hn _ _ _ h)
      next => exact h.elim
    next =>
      split at h
      next he => obtain ⟨rfl, hin, h⟩ := h; exact jk_caldT X hd he hin (hn _ _ _ h)
      next => exact h.elim
    next => exact h.elim
  case baload =>
    simp only [jok1, Bool.and_eq_true, decide_eq_true_eq] at hk
    simp only [jstep] at h
    subst hk
    unfold jald at h
    split at h
    next =>
      obtain ⟨ha, h⟩ := h
      split at h
      next he =>
        obtain ⟨ht, hin, h⟩ := h
        split at ht
        · subst ht; exact jk_bald X hd ha he hin (hn _ _ _ h)
        · subst ht; exact jk_zald X hd ha he hin (hn _ _ _ h)
      next => exact h.elim
    next =>
      split at h
      next he =>
        obtain ⟨ht, hin, h⟩ := h
        split at ht
        · subst ht; exact jk_baldT X hd he hin (hn _ _ _ h)
        · subst ht; exact jk_zaldT X hd he hin (hn _ _ _ h)
      next => exact h.elim
    next => exact h.elim
  case laload =>
    simp only [jok1, Bool.and_eq_true, decide_eq_true_eq] at hk
    simp only [jstep] at h
    subst hk
    unfold jlald at h
    split at h
    next =>
      obtain ⟨ha, h⟩ := h
      split at h
      next he => obtain ⟨rfl, hin, h⟩ := h; exact jk_lald X hd ha he hin (hn _ _ _ h)
      next => exact h.elim
    next => exact h.elim
  case iastore =>
    simp only [jok1, Bool.and_eq_true, decide_eq_true_eq] at hk
    simp only [jstep] at h
    subst hk
    unfold jast at h
    split at h
    next =>
      obtain ⟨ha, h⟩ := h
      split at h
      next he => obtain ⟨rfl, hin, h⟩ := h; exact jk_iast X hd ha he hin (hn _ _ _ h)
      next => exact h.elim
    next => exact h.elim
  case castore =>
    simp only [jok1, Bool.and_eq_true, decide_eq_true_eq] at hk
    simp only [jstep] at h
    subst hk
    unfold jast at h
    split at h
    next =>
      obtain ⟨ha, h⟩ := h
      split at h
      next he => obtain ⟨rfl, hin, h⟩ := h; exact jk_cast X hd ha he hin (hn _ _ _ h)
      next => exact h.elim
    next => exact h.elim
  case bastore =>
    simp only [jok1, Bool.and_eq_true, decide_eq_true_eq] at hk
    simp only [jstep] at h
    subst hk
    unfold jast at h
    split at h
    next =>
      obtain ⟨ha, h⟩ := h
      split at h
      next he =>
        obtain ⟨ht, hin, h⟩ := h
        by_cases hz : py.1 = 0
        · rw [if_pos hz] at ht h; subst ht; exact jk_bast X hd ha he hin (hn _ _ _ h)
        · rw [if_neg hz] at ht h; subst ht; exact jk_zast X hd ha he hin (hn _ _ _ h)
      next => exact h.elim
    next => exact h.elim
  case lastore =>
    simp only [jok1, Bool.and_eq_true, decide_eq_true_eq] at hk
    simp only [jstep] at h
    subst hk
    unfold jlast at h
    split at h
    next =>
      obtain ⟨ha, h⟩ := h
      split at h
      next he => obtain ⟨rfl, hin, h⟩ := h; exact jk_last X hd ha he hin (hn _ _ _ h)
      next => exact h.elim
    next => exact h.elim
  case arraylength =>
    simp only [jok1, Bool.and_eq_true, decide_eq_true_eq] at hk
    simp only [jstep] at h
    subst hk
    unfold jalen at h
    split at h
    next =>
      obtain ⟨ha, h⟩ := h
      split at h
      next he => exact jk_alen X hd ha he h.1 (hn _ _ _ h.2)
      next => exact h.elim
    next =>
      split at h
      next he => exact jk_alenT X hd he (hn _ _ _ h)
      next => exact h.elim
    next => exact h.elim
  case getstatic i =>
    simp only [jok1, Bool.and_eq_true, decide_eq_true_eq] at hk
    simp only [jstep] at h
    obtain ⟨rfl, hs⟩ := hk
    unfold jokS at hs
    split at hs
    next he => exact jk_gets X hd he (of_decide_eq_true hs) (hn _ _ _ h)
    next => cases hs
  case getfield i =>
    simp only [jok1, Bool.and_eq_true, decide_eq_true_eq] at hk
    simp only [jstep] at h
    obtain ⟨rfl, hs⟩ := hk
    unfold jokF at hs
    split at hs
    next hq =>
      rw [Bool.and_eq_true, decide_eq_true_eq] at hs
      unfold jget at h
      split at h
      next =>
        obtain ⟨ha, h⟩ := h
        split at h
        next he =>
          obtain ⟨rfl, h⟩ := h
          split at h
          next hv => exact jk_get hC X hd hq hs.1 hs.2 ha he hv (hn _ _ _ h)
          next => exact h.elim
        next => exact h.elim
      next => exact h.elim
    next => cases hs
  case putfield i =>
    simp only [jok1, Bool.and_eq_true, decide_eq_true_eq] at hk
    simp only [jstep] at h
    obtain ⟨⟨rfl, hs⟩, hs2⟩ := hk
    unfold jokF at hs
    unfold jokW at hs2
    split at hs
    next q hq =>
      rw [Bool.and_eq_true, decide_eq_true_eq] at hs
      rw [hq] at hs2
      simp only [Bool.and_eq_true, decide_eq_true_eq, Bool.or_eq_true] at hs2
      unfold jput at h
      split at h
      next =>
        obtain ⟨ha, h⟩ := h
        split at h
        next he =>
          obtain ⟨rfl, hlt, hft, h⟩ := h
          exact jk_put hC X hd hq hs.1 hs.2 (fun hf => by
            rcases hs2.1 with h9 | h9
            · rw [hf] at h9; cases h9
            · exact ⟨h9.1.1, h9.1.2, jTA_in h9.2 rfl⟩) hs2.2 ha he hlt hft (hn _ _ _ h)
        next => exact h.elim
      next => exact h.elim
    next => cases hs
  all_goals exact False.elim h
/-- a row of instructions: what 'jrun' asks is enough -/
theorem jrun_ok (hC : jCl Ts cl) (X : jX E own Ts cl tb nL ini cc M) : ∀ (is : List jI) (pc : Nat) (lv : List (Option jv)) (st : List jv) (σ : Nat → jcell), jokL own Ts cl tb nL ini cc pc is = true → jrun tb n is pc lv st σ (jJ E cl nL M Q n cells slots) → jJ E cl nL M Q n cells slots pc lv st σ
  | [], _, _, _, _, _, h => h
  | i :: r, pc, lv, st, σ, hk, h => by
    have hk2 : jok own Ts cl tb nL ini cc pc i = true ∧ jokL own Ts cl tb nL ini cc (pc + i.2.1) r = true := by
      have h9 := hk
      unfold jokL at h9
      rwa [Bool.and_eq_true] at h9
    exact jstep_ok (I := i.1) (ln := i.2.1) (py := i.2.2) hC X hk2.1 h (fun lv' st' σ' h' => jrun_ok hC X r (pc + i.2.1) lv' st' σ' hk2.2 h') (fun _ _ _ _ h' => h')
end JST
