/-! the words of the tables by two steps: a table, a place in it -/
def jtF (i : Nat) : Option Jvm.Cond := if i < 301 then (k2_sels lw_privs)[i]? else (match (i - 301) / 240 with
  | 0 => tables_1_1[(i - 301) % 240]?
  | 1 => tables_1_2[(i - 301) % 240]?
  | 2 => tables_1_3[(i - 301) % 240]?
  | 3 => tables_1_4[(i - 301) % 240]?
  | 4 => tables_1_5[(i - 301) % 240]?
  | 5 => tables_1_6[(i - 301) % 240]?
  | 6 => tables_1_7[(i - 301) % 240]?
  | 7 => tables_1_8[(i - 301) % 240]?
  | 8 => tables_1_9[(i - 301) % 240]?
  | 9 => tables_1_10[(i - 301) % 240]?
  | 10 => tables_1_11[(i - 301) % 240]?
  | 11 => tables_1_12[(i - 301) % 240]?
  | 12 => tables_1_13[(i - 301) % 240]?
  | _ => none)
theorem jt_step {A B : List Jvm.Cond} {c : Nat} (hA : A.length = c) {i : Nat} (hi : c ≤ i) {w : Jvm.Cond} (h : B[i - c]? = some w) : (A ++ B)[i]? = some w := by
  rw [List.getElem?_append_right (by omega), hA]
  exact h
theorem jt_here {A B : List Jvm.Cond} {i : Nat} {w : Jvm.Cond} (h : A[i]? = some w) : (A ++ B)[i]? = some w := by
  rw [List.getElem?_append_left (List.getElem?_eq_some_iff.mp h).1]
  exact h
theorem jt_l0 : (k2_sels lw_privs).length = 301 := by decide +kernel
theorem jt_l1 : tables_1_1.length = 240 := by decide +kernel
theorem jt_l2 : tables_1_2.length = 240 := by decide +kernel
theorem jt_l3 : tables_1_3.length = 240 := by decide +kernel
theorem jt_l4 : tables_1_4.length = 240 := by decide +kernel
theorem jt_l5 : tables_1_5.length = 240 := by decide +kernel
theorem jt_l6 : tables_1_6.length = 240 := by decide +kernel
theorem jt_l7 : tables_1_7.length = 240 := by decide +kernel
theorem jt_l8 : tables_1_8.length = 240 := by decide +kernel
theorem jt_l9 : tables_1_9.length = 240 := by decide +kernel
theorem jt_l10 : tables_1_10.length = 240 := by decide +kernel
theorem jt_l11 : tables_1_11.length = 240 := by decide +kernel
theorem jt_l12 : tables_1_12.length = 240 := by decide +kernel
theorem jtF_ok {i : Nat} {w : Jvm.Cond} (h : jtF i = some w) : lw_tbl[i]? = some w := by
  unfold jtF at h
  split at h
  next => exact jt_here h
  next hi =>
    refine jt_step jt_l0 (by omega) ?_
    show (tables_1_1 ++ (tables_1_2 ++ (tables_1_3 ++ (tables_1_4 ++ (tables_1_5 ++ (tables_1_6 ++ (tables_1_7 ++ (tables_1_8 ++ (tables_1_9 ++ (tables_1_10 ++ (tables_1_11 ++ (tables_1_12 ++ tables_1_13))))))))))))[i - 301]? = some w
    have hd := Nat.div_add_mod (i - 301) 240
    split at h
    next e =>
      rw [e] at hd
      exact jt_here (by rw [show i - 301 = (i - 301) % 240 by omega]; exact h)
    next e =>
      rw [e] at hd
      exact jt_step jt_l1 (by omega) (jt_here (by rw [show i - 301 - 240 = (i - 301) % 240 by omega]; exact h))
    next e =>
      rw [e] at hd
      exact jt_step jt_l1 (by omega) (jt_step jt_l2 (by omega) (jt_here (by rw [show i - 301 - 240 - 240 = (i - 301) % 240 by omega]; exact h)))
    next e =>
      rw [e] at hd
      exact jt_step jt_l1 (by omega) (jt_step jt_l2 (by omega) (jt_step jt_l3 (by omega) (jt_here (by rw [show i - 301 - 240 - 240 - 240 = (i - 301) % 240 by omega]; exact h))))
    next e =>
      rw [e] at hd
      exact jt_step jt_l1 (by omega) (jt_step jt_l2 (by omega) (jt_step jt_l3 (by omega) (jt_step jt_l4 (by omega) (jt_here (by rw [show i - 301 - 240 - 240 - 240 - 240 = (i - 301) % 240 by omega]; exact h)))))
    next e =>
      rw [e] at hd
      exact jt_step jt_l1 (by omega) (jt_step jt_l2 (by omega) (jt_step jt_l3 (by omega) (jt_step jt_l4 (by omega) (jt_step jt_l5 (by omega) (jt_here (by rw [show i - 301 - 240 - 240 - 240 - 240 - 240 = (i - 301) % 240 by omega]; exact h))))))
    next e =>
      rw [e] at hd
      exact jt_step jt_l1 (by omega) (jt_step jt_l2 (by omega) (jt_step jt_l3 (by omega) (jt_step jt_l4 (by omega) (jt_step jt_l5 (by omega) (jt_step jt_l6 (by omega) (jt_here (by rw [show i - 301 - 240 - 240 - 240 - 240 - 240 - 240 = (i - 301) % 240 by omega]; exact h)))))))
    next e =>
      rw [e] at hd
      exact jt_step jt_l1 (by omega) (jt_step jt_l2 (by omega) (jt_step jt_l3 (by omega) (jt_step jt_l4 (by omega) (jt_step jt_l5 (by omega) (jt_step jt_l6 (by omega) (jt_step jt_l7 (by omega) (jt_here (by rw [show i - 301 - 240 - 240 - 240 - 240 - 240 - 240 - 240 = (i - 301) % 240 by omega]; exact h))))))))
    next e =>
      rw [e] at hd
      exact jt_step jt_l1 (by omega) (jt_step jt_l2 (by omega) (jt_step jt_l3 (by omega) (jt_step jt_l4 (by omega) (jt_step jt_l5 (by omega) (jt_step jt_l6 (by omega) (jt_step jt_l7 (by omega) (jt_step jt_l8 (by omega) (jt_here (by rw [show i - 301 - 240 - 240 - 240 - 240 - 240 - 240 - 240 - 240 = (i - 301) % 240 by omega]; exact h)))))))))
    next e =>
      rw [e] at hd
      exact jt_step jt_l1 (by omega) (jt_step jt_l2 (by omega) (jt_step jt_l3 (by omega) (jt_step jt_l4 (by omega) (jt_step jt_l5 (by omega) (jt_step jt_l6 (by omega) (jt_step jt_l7 (by omega) (jt_step jt_l8 (by omega) (jt_step jt_l9 (by omega) (jt_here (by rw [show i - 301 - 240 - 240 - 240 - 240 - 240 - 240 - 240 - 240 - 240 = (i - 301) % 240 by omega]; exact h))))))))))
    next e =>
      rw [e] at hd
      exact jt_step jt_l1 (by omega) (jt_step jt_l2 (by omega) (jt_step jt_l3 (by omega) (jt_step jt_l4 (by omega) (jt_step jt_l5 (by omega) (jt_step jt_l6 (by omega) (jt_step jt_l7 (by omega) (jt_step jt_l8 (by omega) (jt_step jt_l9 (by omega) (jt_step jt_l10 (by omega) (jt_here (by rw [show i - 301 - 240 - 240 - 240 - 240 - 240 - 240 - 240 - 240 - 240 - 240 = (i - 301) % 240 by omega]; exact h)))))))))))
    next e =>
      rw [e] at hd
      exact jt_step jt_l1 (by omega) (jt_step jt_l2 (by omega) (jt_step jt_l3 (by omega) (jt_step jt_l4 (by omega) (jt_step jt_l5 (by omega) (jt_step jt_l6 (by omega) (jt_step jt_l7 (by omega) (jt_step jt_l8 (by omega) (jt_step jt_l9 (by omega) (jt_step jt_l10 (by omega) (jt_step jt_l11 (by omega) (jt_here (by rw [show i - 301 - 240 - 240 - 240 - 240 - 240 - 240 - 240 - 240 - 240 - 240 - 240 = (i - 301) % 240 by omega]; exact h))))))))))))
    next e =>
      rw [e] at hd
      exact jt_step jt_l1 (by omega) (jt_step jt_l2 (by omega) (jt_step jt_l3 (by omega) (jt_step jt_l4 (by omega) (jt_step jt_l5 (by omega) (jt_step jt_l6 (by omega) (jt_step jt_l7 (by omega) (jt_step jt_l8 (by omega) (jt_step jt_l9 (by omega) (jt_step jt_l10 (by omega) (jt_step jt_l11 (by omega) (jt_step jt_l12 (by omega) ((by rw [show i - 301 - 240 - 240 - 240 - 240 - 240 - 240 - 240 - 240 - 240 - 240 - 240 - 240 = (i - 301) % 240 by omega]; exact h)))))))))))))
    next => cases h
theorem aAllc {α : Type} {p : α → Prop} {a : α} {l : List α} (h : p a) (h2 : ∀ b ∈ l, p b) : ∀ b ∈ a :: l, p b := fun b hb => by
  rcases List.mem_cons.mp hb with rfl | hb
  · exact h
  · exact h2 b hb
/-- the links of a class, once: fields that are read (entry, class, field, word), written (and the kind), tables, and the same as Props -/
abbrev jLk : Type := List (Nat × Nat × Nat × Nat) × List (Nat × Nat × Nat × Nat × Nat) × List (Nat × Nat × Nat)
def jLkOk (own : String) (Ts : List Jvm.Cond) (cl : List vw_C) (tb : jTb) (L : jLk) : Prop := (∀ q ∈ L.1, jokF own Ts cl q.1 (q.2.1, q.2.2.1, q.2.2.2, 0, 0) = true) ∧ (∀ q ∈ L.2.1, jokF own Ts cl q.1 (q.2.1, q.2.2.1, q.2.2.2.1, 0, 0) = true ∧ ∃ z, cl[q.2.1]? = some z ∧ (z.2.1 q.2.2.1).2.2.2 = false ∧ jkd (parseFieldDescriptor (z.2.1 q.2.2.1).2.2.1) = q.2.2.2.2) ∧ (∀ q ∈ L.2.2, jokS own Ts tb q.1 (q.2.1, 0, q.2.2, 0, 0) = true)
def jin4 (a b c d : Nat) : List (Nat × Nat × Nat × Nat) → Bool
  | [] => false
  | q :: r => (Nat.beq q.1 a && (Nat.beq q.2.1 b && (Nat.beq q.2.2.1 c && Nat.beq q.2.2.2 d))) || jin4 a b c d r
theorem jin4_ok {a b c d : Nat} : ∀ {L : List (Nat × Nat × Nat × Nat)}, jin4 a b c d L = true → (a, b, c, d) ∈ L
  | [], h => by cases h
  | q :: r, h => by
    unfold jin4 at h
    rw [Bool.or_eq_true] at h
    rcases h with h | h
    · obtain ⟨q0, q1, q2, q3⟩ := q
      simp only [Bool.and_eq_true] at h
      obtain ⟨h0, h1, h2, h3⟩ := h
      cases Nat.eq_of_beq_eq_true h0
      cases Nat.eq_of_beq_eq_true h1
      cases Nat.eq_of_beq_eq_true h2
      cases Nat.eq_of_beq_eq_true h3
      exact List.mem_cons_self
    · exact List.mem_cons_of_mem _ (jin4_ok h)
def jin5 (a b c d e : Nat) : List (Nat × Nat × Nat × Nat × Nat) → Bool
  | [] => false
  | q :: r => (Nat.beq q.1 a && (Nat.beq q.2.1 b && (Nat.beq q.2.2.1 c && (Nat.beq q.2.2.2.1 d && Nat.beq q.2.2.2.2 e)))) || jin5 a b c d e r
theorem jin5_ok {a b c d e : Nat} : ∀ {L : List (Nat × Nat × Nat × Nat × Nat)}, jin5 a b c d e L = true → (a, b, c, d, e) ∈ L
  | [], h => by cases h
  | q :: r, h => by
    unfold jin5 at h
    rw [Bool.or_eq_true] at h
    rcases h with h | h
    · obtain ⟨q0, q1, q2, q3, q4⟩ := q
      simp only [Bool.and_eq_true] at h
      obtain ⟨h0, h1, h2, h3, h4⟩ := h
      cases Nat.eq_of_beq_eq_true h0
      cases Nat.eq_of_beq_eq_true h1
      cases Nat.eq_of_beq_eq_true h2
      cases Nat.eq_of_beq_eq_true h3
      cases Nat.eq_of_beq_eq_true h4
      exact List.mem_cons_self
    · exact List.mem_cons_of_mem _ (jin5_ok h)
def jin3 (a b c : Nat) : List (Nat × Nat × Nat) → Bool
  | [] => false
  | q :: r => (Nat.beq q.1 a && (Nat.beq q.2.1 b && Nat.beq q.2.2 c)) || jin3 a b c r
theorem jin3_ok {a b c : Nat} : ∀ {L : List (Nat × Nat × Nat)}, jin3 a b c L = true → (a, b, c) ∈ L
  | [], h => by cases h
  | q :: r, h => by
    unfold jin3 at h
    rw [Bool.or_eq_true] at h
    rcases h with h | h
    · obtain ⟨q0, q1, q2⟩ := q
      simp only [Bool.and_eq_true] at h
      obtain ⟨h0, h1, h2⟩ := h
      cases Nat.eq_of_beq_eq_true h0
      cases Nat.eq_of_beq_eq_true h1
      cases Nat.eq_of_beq_eq_true h2
      exact List.mem_cons_self
    · exact List.mem_cons_of_mem _ (jin3_ok h)
def jok1F (g : Nat → Option Jvm.Cond) (L : jLk) (own : String) (cl : List vw_C) (tb : jTb) (nL : Nat) (pc : Nat) (I : Instr) (ln : Nat) (py : jP) : Bool := match I with
  | .ldc i => decide (ln = 2) && (match g py.2.2.1 with
    | some (Jvm.Cond.constant a b c) => decide (a = own) && decide (b = i) && decide (c = py.2.2.2.1)
    | _ => false)
  | .ldc2_w i => decide (ln = 3) && (match g py.2.2.1 with
    | some (Jvm.Cond.constantLong a b c) => decide (a = own) && decide (b = i) && decide (c = py.2.2.2.2)
    | _ => false)
  | .getfield i => decide (ln = 3) && jin4 i py.1 py.2.1 py.2.2.1 L.1
  | .putfield i => decide (ln = 3) && jin5 i py.1 py.2.1 py.2.2.1 py.2.2.2.1.toNatClampNeg L.2.1
  | .getstatic i => decide (ln = 3) && jin3 i py.1 py.2.2.1 L.2.2
  | _ => jok1 own [] cl tb nL false pc I ln py
def jokLF (g : Nat → Option Jvm.Cond) (L : jLk) (own : String) (cl : List vw_C) (tb : jTb) (nL : Nat) (cc : ByteArray) : Nat → List jI → Bool
  | _, [] => true
  | pc, x :: r => (decide (decode cc pc = .ok (x.1, x.2.1)) && jok1F g L own cl tb nL pc x.1 x.2.1 x.2.2) && jokLF g L own cl tb nL cc (pc + x.2.1) r
section JTF
variable {g : Nat → Option Jvm.Cond} {Ts : List Jvm.Cond}
theorem jokF_of {own : String} {cl : List vw_C} {i ci f wi : Nat} {q : vw_C} (hq : cl[ci]? = some q) (hf : f < q.2.2) {a b c : String} (h1 : (q.2.1 f).1 = a) (h2 : (q.2.1 f).2.1 = b) (h3 : (q.2.1 f).2.2.1 = c) (hw : Ts[wi]? = some (Jvm.Cond.fieldLink own i a b c) ∨ ∃ host, Ts[wi]? = some (Jvm.Cond.fieldLinkNest own i a b c host)) : jokF own Ts cl i (ci, f, wi, 0, 0) = true := by
  subst h1; subst h2; subst h3
  unfold jokF
  dsimp only
  rw [hq]
  dsimp only
  rw [Bool.and_eq_true]
  refine ⟨decide_eq_true hf, ?_⟩
  unfold jlk
  rcases hw with hw | ⟨host, hw⟩
  · rw [hw]; simp
  · rw [hw]; simp
theorem jokS_of {own : String} {tb : jTb} {i j wi : Nat} {q : String × String × String × FieldType × Nat × (Nat → Int32)} (hq : tb j = some q) {a b c : String} (h1 : q.1 = a) (h2 : q.2.1 = b) (h3 : q.2.2.1 = c) (hw : Ts[wi]? = some (Jvm.Cond.fieldLink own i a b c)) : jokS own Ts tb i (j, 0, wi, 0, 0) = true := by
  subst h1; subst h2; subst h3
  unfold jokS
  dsimp only
  rw [hq]
  dsimp only
  exact decide_eq_true hw
theorem jlm_of {own : String} {i wi : Nat} {y : MethodName} (hw : Ts[wi]? = some (Jvm.Cond.methodLink own i y) ∨ ∃ host, Ts[wi]? = some (Jvm.Cond.methodLinkNest own i y host)) : jlm Ts wi own i y = true := by
  unfold jlm
  rcases hw with hw | ⟨host, hw⟩
  · rw [hw]; simp
  · rw [hw]; simp
theorem jok1F_ok (hg : ∀ i w, g i = some w → Ts[i]? = some w) {L : jLk} {own : String} {cl : List vw_C} {tb : jTb} (hL : jLkOk own Ts cl tb L) {nL pc : Nat} {I : Instr} {ln : Nat} {py : jP} (h : jok1F g L own cl tb nL pc I ln py = true) : jok1 own Ts cl tb nL false pc I ln py = true := by
  obtain ⟨p1, p2, p3, p4, p5⟩ := py
  cases I
  case ldc i =>
    simp only [jok1F, Bool.and_eq_true] at h
    obtain ⟨h1, h2⟩ := h
    split at h2
    next a b c e =>
      simp only [Bool.and_eq_true, decide_eq_true_eq] at h2
      obtain ⟨⟨rfl, rfl⟩, rfl⟩ := h2
      simp only [jok1, Bool.and_eq_true]
      exact ⟨h1, decide_eq_true (hg _ _ e)⟩
    next => cases h2
  case ldc2_w i =>
    simp only [jok1F, Bool.and_eq_true] at h
    obtain ⟨h1, h2⟩ := h
    split at h2
    next a b c e =>
      simp only [Bool.and_eq_true, decide_eq_true_eq] at h2
      obtain ⟨⟨rfl, rfl⟩, rfl⟩ := h2
      simp only [jok1, Bool.and_eq_true]
      exact ⟨h1, decide_eq_true (hg _ _ e)⟩
    next => cases h2
  case getfield i =>
    simp only [jok1F, Bool.and_eq_true] at h
    simp only [jok1, Bool.and_eq_true]
    exact ⟨h.1, hL.1 _ (jin4_ok h.2)⟩
  case putfield i =>
    simp only [jok1F, Bool.and_eq_true] at h
    obtain ⟨h0, z, z1, z2, z3⟩ := hL.2.1 _ (jin5_ok h.2)
    simp only [jok1, Bool.and_eq_true]
    refine ⟨⟨h.1, h0⟩, ?_⟩
    unfold jokW
    dsimp only at z1 z2 z3 ⊢
    rw [z1]
    dsimp only
    rw [z2, Bool.and_eq_true]
    exact ⟨rfl, decide_eq_true z3⟩
  case getstatic i =>
    simp only [jok1F, Bool.and_eq_true] at h
    simp only [jok1, Bool.and_eq_true]
    exact ⟨h.1, hL.2.2 _ (jin3_ok h.2)⟩
  all_goals exact h
theorem jokLF_ok (hg : ∀ i w, g i = some w → Ts[i]? = some w) {L : jLk} {own : String} {cl : List vw_C} {tb : jTb} (hL : jLkOk own Ts cl tb L) {nL : Nat} {cc : ByteArray} : ∀ {is : List jI} {pc : Nat}, jokLF g L own cl tb nL cc pc is = true → jokL own Ts cl tb nL false cc pc is = true
  | [], _, _ => rfl
  | x :: r, pc, h => by
    unfold jokLF at h
    rw [Bool.and_eq_true, Bool.and_eq_true] at h
    unfold jokL jok
    rw [Bool.and_eq_true, Bool.and_eq_true]
    exact ⟨⟨h.1.1, jok1F_ok hg hL h.1.2⟩, jokLF_ok hg hL h.2⟩
end JTF
