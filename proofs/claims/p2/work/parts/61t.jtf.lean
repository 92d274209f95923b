/-! the words of the tables by two steps: a table, a place in it -/
def jtF (i : Nat) : Option Jvm.Cond := if i < 301 then (k2_sels lw_privs)[i]? else (match (i - 301) / 240 with
  | 0 => tables_1_1[(i - 301) % 240]?
  | 1 => tables_1_2[(i - 301) % 240]?
  | 2 => tables_1_3[(i - 301) % 240]?
  | 3 => tables_1_4[(i - 301) % 240]?
  | 4 => tables_1_5[(i - 301) % 240]?
  | 5 => tables_1_6[(i - 301) % 240]?
  | 6 => tables_1_7[(i - 301) % 240]?
  | 7 => tables_1_8[(i - 301) % 240]?
  | 8 => tables_1_9[(i - 301) % 240]?
  | 9 => tables_1_10[(i - 301) % 240]?
  | 10 => tables_1_11[(i - 301) % 240]?
  | 11 => tables_1_12[(i - 301) % 240]?
  | 12 => tables_1_13[(i - 301) % 240]?
  | _ => none)
theorem jt_step {A B : List Jvm.Cond} {c : Nat} (hA : A.length = c) {i : Nat} (hi : c ≤ i) {w : Jvm.Cond} (h : B[i - c]? = some w) : (A ++ B)[i]? = some w := by
  rw [List.getElem?_append_right (by omega), hA]
  exact h
theorem jt_here {A B : List Jvm.Cond} {i : Nat} {w : Jvm.Cond} (h : A[i]? = some w) : (A ++ B)[i]? = some w := by
  rw [List.getElem?_append_left (List.getElem?_eq_some_iff.mp h).1]
  exact h
theorem jt_l0 : (k2_sels lw_privs).length = 301 := by decide +kernel
theorem jt_l1 : tables_1_1.length = 240 := by decide +kernel
theorem jt_l2 : tables_1_2.length = 240 := by decide +kernel
theorem jt_l3 : tables_1_3.length = 240 := by decide +kernel
theorem jt_l4 : tables_1_4.length = 240 := by decide +kernel
theorem jt_l5 : tables_1_5.length = 240 := by decide +kernel
theorem jt_l6 : tables_1_6.length = 240 := by decide +kernel
theorem jt_l7 : tables_1_7.length = 240 := by decide +kernel
theorem jt_l8 : tables_1_8.length = 240 := by decide +kernel
theorem jt_l9 : tables_1_9.length = 240 := by decide +kernel
theorem jt_l10 : tables_1_10.length = 240 := by decide +kernel
theorem jt_l11 : tables_1_11.length = 240 := by decide +kernel
theorem jt_l12 : tables_1_12.length = 240 := by decide +kernel
theorem jtF_ok {i : Nat} {w : Jvm.Cond} (h : jtF i = some w) : lw_tbl[i]? = some w := by
  unfold jtF at h
  split at h
  next => exact jt_here h
  next hi =>
    refine jt_step jt_l0 (by omega) ?_
    show (tables_1_1 ++ (tables_1_2 ++ (tables_1_3 ++ (tables_1_4 ++ (tables_1_5 ++ (tables_1_6 ++ (tables_1_7 ++ (tables_1_8 ++ (tables_1_9 ++ (tables_1_10 ++ (tables_1_11 ++ (tables_1_12 ++ tables_1_13))))))))))))[i - 301]? = some w
    have hd := Nat.div_add_mod (i - 301) 240
    split at h
    next e =>
      rw [e] at hd
      exact jt_here (by rw [show i - 301 = (i - 301) % 240 by omega]; exact h)
    next e =>
      rw [e] at hd
      exact jt_step jt_l1 (by omega) (jt_here (by rw [show i - 301 - 240 = (i - 301) % 240 by omega]; exact h))
    next e =>
      rw [e] at hd
      exact jt_step jt_l1 (by omega) (jt_step jt_l2 (by omega) (jt_here (by rw [show i - 301 - 240 - 240 = (i - 301) % 240 by omega]; exact h)))
    next e =>
      rw [e] at hd
      exact jt_step jt_l1 (by omega) (jt_step jt_l2 (by omega) (jt_step jt_l3 (by omega) (jt_here (by rw [show i - 301 - 240 - 240 - 240 = (i - 301) % 240 by omega]; exact h))))
    next e =>
      rw [e] at hd
      exact jt_step jt_l1 (by omega) (jt_step jt_l2 (by omega) (jt_step jt_l3 (by omega) (jt_step jt_l4 (by omega) (jt_here (by rw [show i - 301 - 240 - 240 - 240 - 240 = (i - 301) % 240 by omega]; exact h)))))
    next e =>
      rw [e] at hd
      exact jt_step jt_l1 (by omega) (jt_step jt_l2 (by omega) (jt_step jt_l3 (by omega) (jt_step jt_l4 (by omega) (jt_step jt_l5 (by omega) (jt_here (by rw [show i - 301 - 240 - 240 - 240 - 240 - 240 = (i - 301) % 240 by omega]; exact h))))))
    next e =>
      rw [e] at hd
      exact jt_step jt_l1 (by omega) (jt_step jt_l2 (by omega) (jt_step jt_l3 (by omega) (jt_step jt_l4 (by omega) (jt_step jt_l5 (by omega) (jt_step jt_l6 (by omega) (jt_here (by rw [show i - 301 - 240 - 240 - 240 - 240 - 240 - 240 = (i - 301) % 240 by omega]; exact h)))))))
    next e =>
      rw [e] at hd
      exact jt_step jt_l1 (by omega) (jt_step jt_l2 (by omega) (jt_step jt_l3 (by omega) (jt_step jt_l4 (by omega) (jt_step jt_l5 (by omega) (jt_step jt_l6 (by omega) (jt_step jt_l7 (by omega) (jt_here (by rw [show i - 301 - 240 - 240 - 240 - 240 - 240 - 240 - 240 = (i - 301) % 240 by omega]; exact h))))))))
    next e =>
      rw [e] at hd
      exact jt_step jt_l1 (by omega) (jt_step jt_l2 (by omega) (jt_step jt_l3 (by omega) (jt_step jt_l4 (by omega) (jt_step jt_l5 (by omega) (jt_step jt_l6 (by omega) (jt_step jt_l7 (by omega) (jt_step jt_l8 (by omega) (jt_here (by rw [show i - 301 - 240 - 240 - 240 - 240 - 240 - 240 - 240 - 240 = (i - 301) % 240 by omega]; exact h)))))))))
    next e =>
      rw [e] at hd
      exact jt_step jt_l1 (by omega) (jt_step jt_l2 (by omega) (jt_step jt_l3 (by omega) (jt_step jt_l4 (by omega) (jt_step jt_l5 (by omega) (jt_step jt_l6 (by omega) (jt_step jt_l7 (by omega) (jt_step jt_l8 (by omega) (jt_step jt_l9 (by omega) (jt_here (by rw [show i - 301 - 240 - 240 - 240 - 240 - 240 - 240 - 240 - 240 - 240 = (i - 301) % 240 by omega]; exact h))))))))))
    next e =>
      rw [e] at hd
      exact jt_step jt_l1 (by omega) (jt_step jt_l2 (by omega) (jt_step jt_l3 (by omega) (jt_step jt_l4 (by omega) (jt_step jt_l5 (by omega) (jt_step jt_l6 (by omega) (jt_step jt_l7 (by omega) (jt_step jt_l8 (by omega) (jt_step jt_l9 (by omega) (jt_step jt_l10 (by omega) (jt_here (by rw [show i - 301 - 240 - 240 - 240 - 240 - 240 - 240 - 240 - 240 - 240 - 240 = (i - 301) % 240 by omega]; exact h)))))))))))
    next e =>
      rw [e] at hd
      exact jt_step jt_l1 (by omega) (jt_step jt_l2 (by omega) (jt_step jt_l3 (by omega) (jt_step jt_l4 (by omega) (jt_step jt_l5 (by omega) (jt_step jt_l6 (by omega) (jt_step jt_l7 (by omega) (jt_step jt_l8 (by omega) (jt_step jt_l9 (by omega) (jt_step jt_l10 (by omega) (jt_step jt_l11 (by omega) (jt_here (by rw [show i - 301 - 240 - 240 - 240 - 240 - 240 - 240 - 240 - 240 - 240 - 240 - 240 = (i - 301) % 240 by omega]; exact h))))))))))))
    next e =>
      rw [e] at hd
      exact jt_step jt_l1 (by omega) (jt_step jt_l2 (by omega) (jt_step jt_l3 (by omega) (jt_step jt_l4 (by omega) (jt_step jt_l5 (by omega) (jt_step jt_l6 (by omega) (jt_step jt_l7 (by omega) (jt_step jt_l8 (by omega) (jt_step jt_l9 (by omega) (jt_step jt_l10 (by omega) (jt_step jt_l11 (by omega) (jt_step jt_l12 (by omega) ((by rw [show i - 301 - 240 - 240 - 240 - 240 - 240 - 240 - 240 - 240 - 240 - 240 - 240 - 240 = (i - 301) % 240 by omega]; exact h)))))))))))))
    next => cases h
def jlkF (g : Nat → Option Jvm.Cond) (wi : Nat) (own : String) (i : Nat) (ref nm ds : String) : Bool := match g wi with
  | some (Jvm.Cond.fieldLink a b c e f) => decide (a = own) && decide (b = i) && decide (c = ref) && decide (e = nm) && decide (f = ds)
  | some (Jvm.Cond.fieldLinkNest a b c e f _) => decide (a = own) && decide (b = i) && decide (c = ref) && decide (e = nm) && decide (f = ds)
  | _ => false
def jlmF (g : Nat → Option Jvm.Cond) (wi : Nat) (own : String) (i : Nat) (y : MethodName) : Bool := match g wi with
  | some (Jvm.Cond.methodLink a b c) => decide (a = own) && decide (b = i) && decide (c = y)
  | some (Jvm.Cond.methodLinkNest a b c _) => decide (a = own) && decide (b = i) && decide (c = y)
  | _ => false
def jokFF (g : Nat → Option Jvm.Cond) (own : String) (cl : List vw_C) (i : Nat) (py : jP) : Bool := match cl[py.1]? with
  | some q => decide (py.2.1 < q.2.2) && jlkF g py.2.2.1 own i (q.2.1 py.2.1).1 (q.2.1 py.2.1).2.1 (q.2.1 py.2.1).2.2.1
  | none => false
def jokWF (cl : List vw_C) (py : jP) : Bool := match cl[py.1]? with
  | some q => !(q.2.1 py.2.1).2.2.2 && decide (jkd (parseFieldDescriptor (q.2.1 py.2.1).2.2.1) = py.2.2.2.1.toNatClampNeg)
  | none => false
def jokSF (g : Nat → Option Jvm.Cond) (own : String) (tb : jTb) (i : Nat) (py : jP) : Bool := match tb py.1 with
  | some q => (match g py.2.2.1 with
    | some (Jvm.Cond.fieldLink a b c e f) => decide (a = own) && decide (b = i) && decide (c = q.1) && decide (e = q.2.1) && decide (f = q.2.2.1)
    | _ => false)
  | none => false
def jok1F (g : Nat → Option Jvm.Cond) (own : String) (cl : List vw_C) (tb : jTb) (nL : Nat) (pc : Nat) (I : Instr) (ln : Nat) (py : jP) : Bool := match I with
  | .ldc i => decide (ln = 2) && (match g py.2.2.1 with
    | some (Jvm.Cond.constant a b c) => decide (a = own) && decide (b = i) && decide (c = py.2.2.2.1)
    | _ => false)
  | .ldc2_w i => decide (ln = 3) && (match g py.2.2.1 with
    | some (Jvm.Cond.constantLong a b c) => decide (a = own) && decide (b = i) && decide (c = py.2.2.2.2)
    | _ => false)
  | .getfield i => decide (ln = 3) && jokFF g own cl i py
  | .putfield i => decide (ln = 3) && jokFF g own cl i py && jokWF cl py
  | .getstatic i => decide (ln = 3) && jokSF g own tb i py
  | _ => jok1 own [] cl tb nL false pc I ln py
def jokLF (g : Nat → Option Jvm.Cond) (own : String) (cl : List vw_C) (tb : jTb) (nL : Nat) (cc : ByteArray) : Nat → List jI → Bool
  | _, [] => true
  | pc, x :: r => (decide (decode cc pc = .ok (x.1, x.2.1)) && jok1F g own cl tb nL pc x.1 x.2.1 x.2.2) && jokLF g own cl tb nL cc (pc + x.2.1) r
section JTF
variable {g : Nat → Option Jvm.Cond} {Ts : List Jvm.Cond}
theorem jlmF_ok (hg : ∀ i w, g i = some w → Ts[i]? = some w) {wi : Nat} {own : String} {i : Nat} {y : MethodName} (h : jlmF g wi own i y = true) : jlm Ts wi own i y = true := by
  unfold jlmF at h
  unfold jlm
  split at h
  next e => rw [hg _ _ e]; exact h
  next e => rw [hg _ _ e]; exact h
  next => cases h
theorem jlkF_ok (hg : ∀ i w, g i = some w → Ts[i]? = some w) {wi : Nat} {own : String} {i : Nat} {ref nm ds : String} (h : jlkF g wi own i ref nm ds = true) : jlk Ts wi own i ref nm ds = true := by
  unfold jlkF at h
  unfold jlk
  split at h
  next e => rw [hg _ _ e]; exact h
  next e => rw [hg _ _ e]; exact h
  next => cases h
theorem jokFF_ok (hg : ∀ i w, g i = some w → Ts[i]? = some w) {own : String} {cl : List vw_C} {i : Nat} {py : jP} (h : jokFF g own cl i py = true) : jokF own Ts cl i py = true := by
  unfold jokFF at h
  unfold jokF
  split at h
  next q e =>
    rw [Bool.and_eq_true] at h
    rw [e]
    dsimp only
    rw [h.1, jlkF_ok hg h.2]
    rfl
  next => cases h
theorem jok1F_ok (hg : ∀ i w, g i = some w → Ts[i]? = some w) {own : String} {cl : List vw_C} {tb : jTb} {nL pc : Nat} {I : Instr} {ln : Nat} {py : jP} (h : jok1F g own cl tb nL pc I ln py = true) : jok1 own Ts cl tb nL false pc I ln py = true := by
  cases I
  case ldc i =>
    simp only [jok1F, Bool.and_eq_true] at h
    obtain ⟨h1, h2⟩ := h
    split at h2
    next a b c e =>
      simp only [Bool.and_eq_true, decide_eq_true_eq] at h2
      obtain ⟨⟨rfl, rfl⟩, rfl⟩ := h2
      simp only [jok1, Bool.and_eq_true]
      exact ⟨h1, decide_eq_true (hg _ _ e)⟩
    next => cases h2
  case ldc2_w i =>
    simp only [jok1F, Bool.and_eq_true] at h
    obtain ⟨h1, h2⟩ := h
    split at h2
    next a b c e =>
      simp only [Bool.and_eq_true, decide_eq_true_eq] at h2
      obtain ⟨⟨rfl, rfl⟩, rfl⟩ := h2
      simp only [jok1, Bool.and_eq_true]
      exact ⟨h1, decide_eq_true (hg _ _ e)⟩
    next => cases h2
  case getfield i =>
    simp only [jok1F, Bool.and_eq_true] at h
    simp only [jok1, Bool.and_eq_true]
    exact ⟨h.1, jokFF_ok hg h.2⟩
  case putfield i =>
    simp only [jok1F, Bool.and_eq_true] at h
    simp only [jok1, Bool.and_eq_true]
    refine ⟨⟨h.1.1, jokFF_ok hg h.1.2⟩, ?_⟩
    have h2 := h.2
    unfold jokWF at h2
    unfold jokW
    split at h2
    next q e =>
      rw [Bool.and_eq_true] at h2
      rw [e]
      dsimp only
      rw [h2.1, h2.2]
      rfl
    next => cases h2
  case getstatic i =>
    simp only [jok1F, Bool.and_eq_true] at h
    simp only [jok1, Bool.and_eq_true]
    refine ⟨h.1, ?_⟩
    have h2 := h.2
    unfold jokSF at h2
    unfold jokS
    split at h2
    next q e =>
      rw [e]
      dsimp only
      split at h2
      next e2 =>
        simp only [Bool.and_eq_true, decide_eq_true_eq] at h2
        obtain ⟨⟨⟨⟨rfl, rfl⟩, h3⟩, h4⟩, h5⟩ := h2
        rw [← h3, ← h4, ← h5]
        exact decide_eq_true (hg _ _ e2)
      next => cases h2
    next => cases h2
  all_goals exact h
theorem jokLF_ok (hg : ∀ i w, g i = some w → Ts[i]? = some w) {own : String} {cl : List vw_C} {tb : jTb} {nL : Nat} {cc : ByteArray} : ∀ {is : List jI} {pc : Nat}, jokLF g own cl tb nL cc pc is = true → jokL own Ts cl tb nL false cc pc is = true
  | [], _, _ => rfl
  | x :: r, pc, h => by
    unfold jokLF at h
    rw [Bool.and_eq_true, Bool.and_eq_true] at h
    unfold jokL jok
    rw [Bool.and_eq_true, Bool.and_eq_true]
    exact ⟨⟨h.1.1, jok1F_ok hg h.1.2⟩, jokLF_ok hg h.2⟩
end JTF
