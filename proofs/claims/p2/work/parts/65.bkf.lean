/-! the picture: kinds of cells, rows read and written, fields read and written -/
def aFs (K : Nat → Nat) (n : Nat) (ts : List aT) (fs : List jv) : Prop := fs.length = ts.length ∧ ∀ (f : Nat) (t : aT) (v : jv), ts[f]? = some t → fs[f]? = some v → aG K n t v
def aEl (R : List (Nat × Nat × Int × Int × Int)) (i : Nat) (x : Int32) : Prop := ∀ q ∈ R, q.1 ≤ i → i < q.2.1 → 0 ≤ q.2.2.1 * (i : Int) + q.2.2.2.1 * x.toInt + q.2.2.2.2
def aCe (K : Nat → Nat) (n : Nat) (d : aKd) (c : jcell) : Prop := match d, c with
  | .inl q, .inl (t, m, .inl g) => t = q.1 ∧ m = q.2.1 ∧ ¬ q.1 = .long ∧ ∀ i, i < q.2.1 → aIn q.2.2.1 (g i) ∧ aEl q.2.2.2 i (g i)
  | .inl q, .inl (t, m, .inr (.inl _)) => t = q.1 ∧ m = q.2.1 ∧ q.1 = .long
  | .inr q, .inr (c, fs) => c = q.1 ∧ aFs K n q.2 fs
  | _, _ => False
def aH (T : List aKd) (K : Nat → Nat) (n : Nat) (σ : Nat → jcell) : Prop := ∀ a, a < n → ∀ d, T[K a]? = some d → aCe K n d (σ a)
def aFr (K : Nat → Nat) (n : Nat) (md : List (Nat × Nat)) (σ0 σ : Nat → jcell) : Prop := ∀ (a : Nat), a < n → ∀ (c : Nat) (fs : List jv), σ0 a = .inr (c, fs) → ∃ fs' : List jv, σ a = .inr (c, fs') ∧ fs'.length = fs.length ∧ ∀ (f : Nat) (v : jv), fs[f]? = some v → ¬ (K a, f) ∈ md → fs'[f]? = some v
/-- rows: kinds that are not named keep all cells, the others those below a bound -/
def aFw (K : Nat → Nat) (mk : List (Nat × aF)) (ρ0 : List jv) (a i : Nat) : Prop := ∀ q ∈ mk, q.1 = K a → ∃ z, aVa ρ0 q.2 z ∧ (i : Int) < z
def aFa (K : Nat → Nat) (n : Nat) (mk : List (Nat × aF)) (ρ0 : List jv) (σ0 σ : Nat → jcell) : Prop := ∀ (a : Nat), a < n → (∀ (ty : FieldType) (m : Nat) (g : Nat → Int32), σ0 a = .inl (ty, m, .inl g) → ∃ g', σ a = .inl (ty, m, .inl g') ∧ ∀ i, aFw K mk ρ0 a i → g' i = g i) ∧ (∀ (ty : FieldType) (m : Nat) (g : Nat → Int64), σ0 a = .inl (ty, m, .inr (.inl g)) → ∃ g', σ a = .inl (ty, m, .inr (.inl g')) ∧ ∀ i, aFw K mk ρ0 a i → g' i = g i)
abbrev aCf : Type := List aKd × List (FieldType × Nat × (Int × Int) × List Int) × List Nat × List (Nat × Nat) × List (Nat × aF) × List (List (Nat × List Nat × Option aF)) × Nat
def aHp (C : aCf) (K : Nat → Nat) (n : Nat) (JX : (Nat → jcell) → Prop) (ρ0 : List jv) (σ0 σ : Nat → jcell) : Prop := aH C.1 K n σ ∧ JX σ ∧ aFr K n C.2.2.2.1 σ0 σ ∧ aFa K n C.2.2.2.2.1 ρ0 σ0 σ
def aIsR (v : jv) : Prop := ∃ o, v = .inr (.inr o)
/-- what stores keep: cells of the kinds Pk are not written, but for fields that hold no reference -/
def aJx (K : Nat → Nat) (n : Nat) (Pk : List Nat) (JX : (Nat → jcell) → Prop) : Prop := ∀ (σ : Nat → jcell) (a : Nat), a < n → JX σ → (∀ x : jcell, ¬ K a ∈ Pk → JX (jup σ a x)) ∧ (∀ (c : Nat) (fs : List jv) (f : Nat) (u v : jv), σ a = .inr (c, fs) → fs[f]? = some u → ¬ aIsR u → ¬ aIsR v → JX (jup σ a (.inr (c, fs.set f v))))
def aNr (t : aT) : Bool := match t with
  | .inl _ => true
  | .inr none => true
  | _ => false
theorem aNr_ok {K : Nat → Nat} {n : Nat} {t : aT} {v : jv} (h : aNr t = true) (hg : aG K n t v) : ¬ aIsR v := by
  rintro ⟨o, rfl⟩
  unfold aNr at h
  split at h
  · obtain ⟨x, e, -⟩ := aG_int hg
    cases e
  · obtain ⟨x, e⟩ := aG_lng hg
    cases e
  · cases h
/-- a fact looks at the kinds of its row alone: of an object at some fields, of a row at all or at what lies below a bound -/
abbrev aDe : Type := Nat × List Nat × Option aF
def aSm (vs : List jv) (q : aDe) (c c' : jcell) : Prop := c' = c ∨ (∃ (k : Nat) (fs fs' : List jv), c = .inr (k, fs) ∧ c' = .inr (k, fs') ∧ fs'.length = fs.length ∧ ∀ f ∈ q.2.1, fs'[f]? = fs[f]?) ∨ (∃ (ty : FieldType) (m : Nat) (g g' : Nat → Int32) (f : aF) (z : Int), q.2.2 = some f ∧ aVa vs f z ∧ c = .inl (ty, m, .inl g) ∧ c' = .inl (ty, m, .inl g') ∧ ∀ i : Nat, (i : Int) < z → g' i = g i)
/-- numbers of facts from 65536 on: what will hold behind a store into a row; from 131072 on: behind a store into a field -/
def aDg (dep : List (List aDe)) (r : Nat) : List aDe := if r < 65536 then dep.getD (r / 16) [] else (dep.getD (r / 16 % 4096) []).map (fun e => (e.1, e.2.1, none))
def aDl (dep : List (List aDe)) (r : Nat) : Bool := decide (r / 16 % 4096 < dep.length)
def jsto (c : jcell) (i : Nat) (x : Int32) : jcell := match c with
  | .inl (ty, m, .inl g) => .inl (ty, m, .inl (upd g i x))
  | c => c
def jstl (c : jcell) (i : Nat) (x : Int64) : jcell := match c with
  | .inl (ty, m, .inr (.inl g)) => .inl (ty, m, .inr (.inl (vp_updL g i x)))
  | c => c
def jstf (c : jcell) (f : Nat) (v : jv) : jcell := match c with
  | .inr (k, fs) => .inr (k, fs.set f v)
  | c => c
def aPd {P : Type} (F : aFt P) : Prop := (∀ (p : P) (r a : Nat) (x y : Int32) (vs : List jv) (σ : Nat → jcell), ¬ r = 0 → r < 65533 → F p (r + 65539) (.inr (.inr (some (.inl a))) :: .inl x :: .inl y :: vs) σ → F p r vs (jup σ a (jsto (σ a) x.toNatClampNeg y))) ∧ (∀ (p : P) (r a f : Nat) (y : jv) (vs : List jv) (σ : Nat → jcell), ¬ r = 0 → r < 65534 → F p (r + 131072 * (f + 1) + 2) (.inr (.inr (some (.inl a))) :: y :: vs) σ → F p r vs (jup σ a (jstf (σ a) f y))) ∧ (∀ (p : P) (r a : Nat) (x : Int32) (y : Int64) (vs : List jv) (σ : Nat → jcell), ¬ r = 0 → r < 65533 → F p (r + 65539) (.inr (.inr (some (.inl a))) :: .inl x :: .inr (.inl y) :: vs) σ → F p r vs (jup σ a (jstl (σ a) x.toNatClampNeg y)))
/-- what an operation gives -/
def aOv (o : Nat) (x y c : jv) : Prop := match x, y with
  | .inr (.inl a), .inr (.inl b) => (match o with
    | 0 => c = .inr (.inl (a ||| b))
    | 1 => c = .inr (.inl (a &&& b))
    | 4 => c = .inl (lg_cmp a b)
    | 5 => c = .inr (.inl (a * b))
    | 6 => ¬ b = 0 ∧ c = .inr (.inl (a / b))
    | 7 => ¬ b = 0 ∧ c = .inr (.inl (a - a / b * b))
    | 8 => c = .inr (.inl (a + b))
    | 9 => c = .inr (.inl (a - b))
    | _ => False)
  | .inr (.inl a), .inl b => (match o with
    | 2 => c = .inr (.inl (a <<< (b.toInt64 &&& 63)))
    | 3 => c = .inr (.inl (a >>> (b.toInt64 &&& 63)))
    | _ => False)
  | .inl a, .inl b => (match o with
    | 10 => c = .inl (a * b)
    | 11 => c = .inl (a &&& b)
    | 12 => c = .inl (a ||| b)
    | 13 => c = .inl (a <<< (b &&& 31))
    | 14 => c = .inl (a >>> (b &&& 31))
    | 15 => ¬ b = 0 ∧ c = .inl (a - a / b * b)
    | 16 => ¬ b = 0 ∧ c = .inl (a / b)
    | 17 => c = .inl (a ^^^ b)
    | _ => False)
  | _, _ => False
/-- facts of operations: on where the list begins with this mark -/
def aOm (dep : List (List aDe)) : Bool := match dep with
  | (q :: _) :: _ => decide (q.2.1 = [77777])
  | _ => false
def aOc {P : Type} (F : aFt P) (dep : List (List aDe)) : Prop := aOm dep = true → ∀ (p : P) (o : Nat) (x y c : jv) (σ : Nat → jcell), aOv o x y c → F p (16 * (100 + o) + 3) [x, y, c] σ
def aDp {P : Type} (F : aFt P) (K : Nat → Nat) (n : Nat) (dep : List (List aDe)) : Prop := (∀ (p : P) (r : Nat) (vs : List jv) (σ σ' : Nat → jcell), aDl dep r = true → (∀ a, a < n → ∀ q ∈ aDg dep r, q.1 = K a → aSm vs q (σ a) (σ' a)) → F p r vs σ → F p r vs σ') ∧ aPd F ∧ aOc F dep
/-- the facts that a store brings -/
def aPnd (a i x : Nat) (q : Nat × List Nat) : Option (Nat × List Nat) := if 65539 < q.1 ∧ q.1 < 131072 then (match q.2 with
  | a' :: i' :: x' :: r => if a' = a ∧ i' = i ∧ x' = x then some (q.1 - 65539, r) else none
  | _ => none) else none
def aPnf (o f v : Nat) (q : Nat × List Nat) : Option (Nat × List Nat) := if 131072 * (f + 1) + 2 < q.1 ∧ q.1 < 131072 * (f + 1) + 65536 then (match q.2 with
  | o' :: v' :: r => if o' = o ∧ v' = v then some (q.1 - (131072 * (f + 1) + 2), r) else none
  | _ => none) else none
def aTB (TB : List (FieldType × Nat × (Int × Int) × List Int)) (tb : jTb) : Prop := ∀ (j : Nat) (q : FieldType × Nat × (Int × Int) × List Int), TB[j]? = some q → ∃ (s1 s2 s3 : String) (g : Nat → Int32), tb j = some (s1, s2, s3, q.1, q.2.1, g) ∧ (∀ i, i < q.2.1 → aIn q.2.2.1 (g i)) ∧ (List.range q.2.2.2.length).all (fun i => decide ((g i).toInt = q.2.2.2.getD i 0)) = true
theorem aCe_arr {K : Nat → Nat} {n : Nat} {q : FieldType × Nat × (Int × Int) × List (Nat × Nat × Int × Int × Int)} {c : jcell} (h : aCe K n (.inl q) c) (hq : ¬ q.1 = .long) : ∃ g, c = .inl (q.1, q.2.1, .inl g) ∧ ∀ i, i < q.2.1 → aIn q.2.2.1 (g i) ∧ aEl q.2.2.2 i (g i) := by
  rcases c with ⟨t, m, g | g | g⟩ | ⟨c, fs⟩
  · obtain ⟨rfl, rfl, -, h⟩ := h; exact ⟨g, rfl, h⟩
  · obtain ⟨-, -, h⟩ := h; exact absurd h hq
  · exact h.elim
  · exact h.elim
theorem aCe_larr {K : Nat → Nat} {n : Nat} {q : FieldType × Nat × (Int × Int) × List (Nat × Nat × Int × Int × Int)} {c : jcell} (h : aCe K n (.inl q) c) (hq : q.1 = .long) : ∃ g, c = .inl (q.1, q.2.1, .inr (.inl g)) := by
  rcases c with ⟨t, m, g | g | g⟩ | ⟨c, fs⟩
  · obtain ⟨-, -, h, -⟩ := h; exact absurd hq h
  · obtain ⟨rfl, rfl, h⟩ := h; exact ⟨g, rfl⟩
  · exact h.elim
  · exact h.elim
theorem aCe_obj {K : Nat → Nat} {n : Nat} {q : Nat × List aT} {c : jcell} (h : aCe K n (.inr q) c) : ∃ fs, c = .inr (q.1, fs) ∧ aFs K n q.2 fs := by
  rcases c with ⟨t, m, g | g | g⟩ | ⟨c, fs⟩
  · exact h.elim
  · exact h.elim
  · exact h.elim
  · obtain ⟨rfl, h⟩ := h; exact ⟨fs, rfl, h⟩
theorem aH_up {T : List aKd} {K : Nat → Nat} {n : Nat} {σ : Nat → jcell} (h : aH T K n σ) {a : Nat} {x : jcell} (hx : ∀ d, T[K a]? = some d → aCe K n d x) : aH T K n (jup σ a x) := by
  intro b hb d hd
  by_cases e : b = a
  · subst e; rw [jup_s]; exact hx d hd
  · rw [jup_n e]; exact h b hb d hd
theorem aFr_arr {K : Nat → Nat} {n : Nat} {md : List (Nat × Nat)} {σ0 σ : Nat → jcell} (h : aFr K n md σ0 σ) {a : Nat} {y z : FieldType × vp_A} (hy : σ a = .inl y) : aFr K n md σ0 (jup σ a (.inl z)) := by
  intro b hb c fs h0
  obtain ⟨fs', h1, h2⟩ := h b hb c fs h0
  refine ⟨fs', ?_, h2⟩
  by_cases e : b = a
  · subst e; rw [hy] at h1; cases h1
  · rw [jup_n e]; exact h1
theorem aCa_arr {ρ : List jv} {σ : Nat → jcell} {cc : List (Nat × Nat × Nat)} (h : aCa ρ σ cc) {a : Nat} {y z : FieldType × vp_A} (hy : σ a = .inl y) : aCa ρ (jup σ a (.inl z)) cc := by
  intro q hq
  obtain ⟨b, c, fs, v, h1, h2, h3, h4⟩ := h q hq
  refine ⟨b, c, fs, v, h1, ?_, h3, h4⟩
  by_cases e : b = a
  · subst e; rw [hy] at h2; cases h2
  · rw [jup_n e]; exact h2
theorem aIx_ok {A : Int × Int} {i : Int32} {len : Nat} (h : aIn A i) (h1 : 0 ≤ A.1) (h2 : A.2 < (len : Int)) : vp_in i len ∧ i.toNatClampNeg < len := by
  obtain ⟨a1, a2⟩ := h
  have e : i.toNatClampNeg = i.toInt.toNat := rfl
  have e2 : ¬ i < 0 := by
    rw [Int32.lt_iff_toInt_lt]
    have : (0 : Int32).toInt = 0 := by decide
    omega
  have e3 : i.toNatClampNeg < len := by omega
  exact ⟨fun q => q.elim e2 (fun q => by omega), e3⟩
/-- the range of what a row of a type keeps -/
def aRg (ty : FieldType) : Int × Int := match ty with
  | .int => a32
  | .byte => (-128, 127)
  | .boolean => (0, 1)
  | .char => (0, 65535)
  | _ => (1, 0)
theorem aRg_ok {ty : FieldType} {x : Int32} (h : aIn (aRg ty) x) : vp_nar ty x = x := by
  cases ty
  case int => rfl
  case byte =>
    obtain ⟨h1, h2⟩ := h
    show x.toInt8.toInt32 = x
    rw [← Int32.toInt_inj, Int8.toInt_toInt32, Int32.toInt_toInt8]
    dsimp only [aRg] at h1 h2
    exact Int.bmod_eq_of_le (by omega) (by omega)
  case boolean =>
    obtain ⟨h1, h2⟩ := h
    dsimp only [aRg] at h1 h2
    show x &&& 1 = x
    have e : x.toInt = 0 ∨ x.toInt = 1 := by omega
    rcases e with e | e
    · rw [aYc (y := x) (c := 0) (by rw [e]; rfl)]; decide
    · rw [aYc (y := x) (c := 1) (by rw [e]; rfl)]; decide
  case char =>
    obtain ⟨h1, h2⟩ := h
    dsimp only [aRg] at h1 h2
    obtain ⟨e1, e2⟩ := aNat (x := x) h1
    show x.toUInt32.toUInt16.toUInt32.toInt32 = x
    rw [← Int32.toBitVec_inj]
    apply BitVec.eq_of_toNat_eq
    show x.toUInt32.toUInt16.toUInt32.toNat = x.toBitVec.toNat
    rw [UInt16.toNat_toUInt32, UInt32.toNat_toUInt16]
    show x.toBitVec.toNat % 65536 = _
    omega
  all_goals
    obtain ⟨h1, h2⟩ := h
    dsimp only [aRg] at h1 h2
    exfalso
    omega
def aSb (A B : Int × Int) : Bool := decide (B.1 ≤ A.1) && decide (A.2 ≤ B.2)
theorem aSb_ok {A B : Int × Int} (h : aSb A B = true) {x : Int32} (hx : aIn A x) : aIn B x := by
  simp only [aSb, Bool.and_eq_true, decide_eq_true_eq] at h
  obtain ⟨h1, h2⟩ := hx
  exact ⟨by omega, by omega⟩
def aLe (t t' : aT) : Bool := match t, t' with
  | .inl A, .inl B => aSb A B
  | .inr none, .inr none => true
  | .inr (some (.inl q)), .inr (some (.inl q')) => (Nat.beq q.2 q'.2 || Nat.beq q'.2 99999) && (!q.1 || q'.1)
  | .inr (some (.inr i)), .inr (some (.inr j)) => decide ((aRj j).1 ≤ (aRj i).1) && decide ((aRj i).2 ≤ (aRj j).2)
  | _, _ => false
theorem aLe_ok {K : Nat → Nat} {n : Nat} {t t' : aT} (h : aLe t t' = true) {v : jv} (hv : aG K n t v) : aG K n t' v := by
  unfold aLe at h
  split at h
  · obtain ⟨x, rfl, hx⟩ := aG_int hv; exact aSb_ok h hx
  · exact hv
  · next q q' =>
    simp only [Bool.and_eq_true, decide_eq_true_eq, Bool.or_eq_true] at h
    rcases aG_ref hv with ⟨e, rfl⟩ | ⟨a, rfl, h1, h2⟩
    · rcases h.2 with h3 | h3
      · rw [e] at h3; cases h3
      · exact h3
    · refine ⟨h1, ?_⟩
      rcases h.1 with h3 | h3
      · rw [← Nat.eq_of_beq_eq_true h3]; exact h2
      · exact Or.inr (Nat.eq_of_beq_eq_true h3)
  · simp only [Bool.and_eq_true, decide_eq_true_eq] at h
    obtain ⟨i, rfl, h1, h2⟩ := aG_rng hv
    exact ⟨by omega, by omega⟩
  · cases h
/-! names of a state put into another: values, forms -/
def aVal (ρ : List jv) (m : List Nat) : List jv := m.map (fun k => ρ.getD k (.inl 0))
theorem aVal_at {ρ : List jv} {m : List Nat} {i k : Nat} {v : jv} (h : m[i]? = some k) (hv : ρ[k]? = some v) : (aVal ρ m)[i]? = some v := by
  unfold aVal
  rw [List.getElem?_map, h]
  simp [List.getD, hv]
theorem aVal_in {ρ : List jv} {m : List Nat} {i k : Nat} {v : jv} (h : m[i]? = some k) (hk : k < ρ.length) (hv : (aVal ρ m)[i]? = some v) : ρ[k]? = some v := by
  rw [aVal_at h (List.getElem?_eq_getElem hk)] at hv
  rw [List.getElem?_eq_getElem hk]
  exact hv
def aSu (env : List aE) (m : List Nat) : List (Nat × Int) → Option aF
  | [] => some ([], 0)
  | q :: r => match m[q.1]?, aSu env m r with
    | some k, some f => some (aFp (aFm q.2 (aLi env k)) f)
    | _, _ => none
def aSb2 (env : List aE) (m : List Nat) (f : aF) : Option aF := match aSu env m f.1 with
  | some g => some (g.1, g.2 + f.2)
  | none => none
def aWm (ρ : List jv) (m : List Nat) : Prop := ∀ (i k : Nat), m[i]? = some k → k < ρ.length
theorem aSu_ok {K : Nat → Nat} {n : Nat} {env : List aE} {ρ : List jv} (h : aR K n env ρ) {m : List Nat} (hm : aWm ρ m) : ∀ {f : List (Nat × Int)} {g : aF}, aSu env m f = some g → ∃ z, aEv (aVal ρ m) f = some z ∧ aVa ρ g z
  | [], g, hg => by cases hg; exact ⟨0, rfl, aVa_k 0⟩
  | q :: r, g, hg => by
    unfold aSu at hg
    split at hg
    next k f1 hk hf1 =>
      cases hg
      obtain ⟨z, z1, z2⟩ := aSu_ok h hm hf1
      have hv : ρ[k]? = some (ρ[k]'(hm _ _ hk)) := List.getElem?_eq_getElem (hm _ _ hk)
      exact ⟨_, aEv_i (aVal_at hk hv) z1, aVa_p (aVa_m q.2 (aLi_ok h hv)) z2⟩
    next => cases hg
theorem aSb2_ok {K : Nat → Nat} {n : Nat} {env : List aE} {ρ : List jv} (h : aR K n env ρ) {m : List Nat} (hm : aWm ρ m) {f g : aF} (hg : aSb2 env m f = some g) : ∃ z, aVa (aVal ρ m) f z ∧ aVa ρ g z := by
  unfold aSb2 at hg
  split at hg
  next g1 h1 =>
    cases hg
    obtain ⟨z, z1, z2, z3, z4⟩ := aSu_ok h hm h1
    exact ⟨z + f.2, ⟨z, z1, rfl⟩, ⟨z2, z3, by dsimp only; omega⟩⟩
  next => cases hg
theorem aVal_rg {ρ ρ0 : List jv} (hx : aX ρ0 ρ) : aVal ρ (List.range ρ0.length) = ρ0 := by
  apply List.ext_getElem?
  intro i
  by_cases hi : i < ρ0.length
  · have hv : ρ0[i]? = some ρ0[i] := List.getElem?_eq_getElem hi
    rw [hv]
    exact aVal_at (k := i) (by rw [List.getElem?_range hi]) (hx _ _ hv)
  · rw [show ρ0[i]? = none from List.getElem?_eq_none (by omega)]
    apply List.getElem?_eq_none
    unfold aVal
    simp
    omega
theorem aWm_rg {ρ ρ0 : List jv} (hx : aX ρ0 ρ) : aWm ρ (List.range ρ0.length) := fun i k h => by
  have h2 := List.getElem?_eq_some_iff.mp h
  obtain ⟨h3, h4⟩ := h2
  simp at h3 h4
  subst h4
  exact (List.getElem?_eq_some_iff.mp (hx _ _ (List.getElem?_eq_getElem h3))).1
section ASH
variable {K : Nat → Nat} {n : Nat} {P : Type} {F : aFt P} {J : jN} {C : aCf} {tb : jTb} {JX : (Nat → jcell) → Prop} {ρ0 : List jv} {σ0 : Nat → jcell} {T : List aKd}
def aTx (env : List aE) (i : Nat) : Option aT := match aIv env i with
  | some A => some (.inl A)
  | none => aTy env i
theorem aTx_ok {env : List aE} {ρ : List jv} (h : aR K n env ρ) {i : Nat} {t : aT} {v : jv} (ht : aTx env i = some t) (hv : ρ[i]? = some v) : aG K n t v := by
  unfold aTx at ht
  split at ht
  next A hA =>
    cases ht
    obtain ⟨x, rfl, hx⟩ := aIv_ok h hA hv
    exact hx
  next => exact aTy_ok h ht hv
theorem aTx_lt {env : List aE} {i : Nat} {t : aT} (ht : aTx env i = some t) : i < env.length := by
  unfold aTx at ht
  split at ht
  next A hA =>
    unfold aIv at hA
    split at hA
    next he => exact (List.getElem?_eq_some_iff.mp he).1
    next he => exact (List.getElem?_eq_some_iff.mp he).1
    next => cases hA
  next =>
    unfold aTy at ht
    split at ht
    next e1 he1 => exact (List.getElem?_eq_some_iff.mp he1).1
    next => cases ht
def aLx (env : List aE) (cs : List aF) (i : Nat) (t : aT) : Bool := (match aTx env i with
    | some u => aLe u t
    | none => false) || (match t, aTy env i with
    | .inl B, some (.inl _) => aPr env cs 2 (aFp ([], -B.1) (aLi env i)) && aPr env cs 2 (aFp ([], B.2) (aFm (-1) (aLi env i)))
    | _, _ => false)
theorem aLx_lt {env : List aE} {cs : List aF} {i : Nat} {t : aT} (h : aLx env cs i t = true) : i < env.length := by
  unfold aLx at h
  rw [Bool.or_eq_true] at h
  rcases h with h | h
  · split at h
    next u hu => exact aTx_lt hu
    next => cases h
  · split at h
    next hu =>
      unfold aTy at hu
      split at hu
      next e1 he1 => exact (List.getElem?_eq_some_iff.mp he1).1
      next => cases hu
    next => cases h
theorem aLx_ok {env : List aE} {ρ : List jv} (hR : aR K n env ρ) {cs : List aF} (hcs : ∀ f ∈ cs, aHd ρ f) {i : Nat} {t : aT} (h : aLx env cs i t = true) {v : jv} (hv : ρ[i]? = some v) : aG K n t v := by
  unfold aLx at h
  rw [Bool.or_eq_true] at h
  rcases h with h | h
  · split at h
    next u hu => exact aLe_ok h (aTx_ok hR hu hv)
    next => cases h
  · split at h
    next B A hu =>
      rw [Bool.and_eq_true] at h
      obtain ⟨x, rfl, -⟩ := aG_int (aTy_ok hR hu hv)
      have h1 := aPr_ok hR hcs h.1 (aVa_p (aVa_k _) (aLi_ok hR hv))
      have h2 := aPr_ok hR hcs h.2 (aVa_p (aVa_k _) (aVa_m (-1) (aLi_ok hR hv)))
      replace h1 : 0 ≤ -B.1 + x.toInt := h1
      replace h2 : 0 ≤ B.2 + -1 * x.toInt := h2
      exact ⟨by omega, by omega⟩
    next => cases h
def aKi (env : List aE) (o : Nat) : Option Nat := match aTy env o with
  | some (.inr (some (.inl (false, k)))) => if k = 99999 then none else some k
  | _ => none
theorem aKi_ok {env : List aE} {ρ : List jv} (h : aR K n env ρ) {o k : Nat} (hk : aKi env o = some k) {v : jv} (hv : ρ[o]? = some v) : ∃ a, v = .inr (.inr (some (.inl a))) ∧ a < n ∧ K a = k := by
  unfold aKi at hk
  split at hk
  next k1 hq =>
    split at hk
    next => cases hk
    next h9 => cases hk; exact aG_obj h9 (aTy_ok h hq hv)
  next => cases hk
def aAr (T : List aKd) (env : List aE) (a : Nat) : Option (Nat × FieldType × Nat × (Int × Int) × List (Nat × Nat × Int × Int × Int)) := match aKi env a with
  | some k => (match T[k]? with
    | some (.inl q) => some (k, q)
    | _ => none)
  | none => none
theorem aAr_ok {env : List aE} {ρ : List jv} (h : aR K n env ρ) {σ : Nat → jcell} (hH : aH T K n σ) {o : Nat} {q : Nat × FieldType × Nat × (Int × Int) × List (Nat × Nat × Int × Int × Int)} (hq : aAr T env o = some q) {v : jv} (hv : ρ[o]? = some v) : ∃ a, v = .inr (.inr (some (.inl a))) ∧ a < n ∧ K a = q.1 ∧ T[K a]? = some (.inl q.2) ∧ aCe K n (.inl q.2) (σ a) := by
  unfold aAr at hq
  split at hq
  next k hk =>
    split at hq
    next d hd =>
      cases hq
      obtain ⟨a, rfl, h1, h2⟩ := aKi_ok h hk hv
      subst h2
      exact ⟨a, rfl, h1, rfl, hd, hH a h1 _ hd⟩
    next => cases hq
  next => cases hq
def aTj (TB : List (FieldType × Nat × (Int × Int) × List Int)) (env : List aE) (a : Nat) : Option (FieldType × Nat × (Int × Int) × List Int) := match aTy env a with
  | some (.inr (some (.inr j))) => if j < 1000000 then TB[j]? else none
  | _ => none
def aFc2 (cb : List (Nat × aF × Nat)) (a : Nat) (f : aF) : Option Nat := match cb with
  | [] => none
  | q :: r => if q.1 = a ∧ q.2.1 = f then some q.2.2 else aFc2 r a f
theorem aFc2_in : ∀ {cb : List (Nat × aF × Nat)} {a v : Nat} {f : aF}, aFc2 cb a f = some v → (a, f, v) ∈ cb
  | [], _, _, _, h => by cases h
  | q :: r, a, v, f, h => by
    unfold aFc2 at h
    split at h
    next hq =>
      cases h
      obtain ⟨rfl, rfl⟩ := hq
      exact List.mem_cons_self
    next => exact List.mem_cons_of_mem _ (aFc2_in h)
/-- an index is within a row -/
def aBd (env : List aE) (cs : List aF) (f : aF) (len : Nat) : Bool := aPr env cs 2 f && (aPr env cs 2 (aFp ([], (len : Int) - 1) (aFm (-1) f)) || aPr env cs 2 (aFp ([], 2 * (len : Int) - 1) (aFm (-2) f)))
theorem aBd_ok {env : List aE} {ρ : List jv} (h : aR K n env ρ) {cs : List aF} (hc : ∀ f ∈ cs, aHd ρ f) {f : aF} {len : Nat} (hb : aBd env cs f len = true) {i : Int32} (hi : aVa ρ f i.toInt) : vp_in i len ∧ i.toNatClampNeg < len ∧ (i.toNatClampNeg : Int) = i.toInt := by
  unfold aBd at hb
  rw [Bool.and_eq_true] at hb
  have h1 := aPr_ok h hc hb.1 hi
  have h2 : i.toInt ≤ (len : Int) - 1 := by
    have hb2 := hb.2
    rw [Bool.or_eq_true] at hb2
    rcases hb2 with hb2 | hb2
    · have := aPr_ok h hc hb2 (aVa_p (aVa_k _) (aVa_m (-1) hi))
      omega
    · have := aPr_ok h hc hb2 (aVa_p (aVa_k _) (aVa_m (-2) hi))
      omega
  have h3 := aIx_ok (A := (0, (len : Int) - 1)) (i := i) (len := len) ⟨h1, by dsimp only; omega⟩ (Int.le_refl _) (by dsimp only; omega)
  refine ⟨h3.1, h3.2, ?_⟩
  have e : i.toNatClampNeg = i.toInt.toNat := rfl
  omega
def aRcs (env : List aE) (cs : List aF) (R : List (Nat × Nat × Int × Int × Int)) (f : aF) (k : Nat) : List aF := (R.filter (fun q => aPr env cs 2 (aFp ([], -(q.1 : Int)) f) && aPr env cs 2 (aFp ([], (q.2.1 : Int) - 1) (aFm (-1) f)))).map (fun q => aFp (aFm q.2.2.1 f) ([(k, q.2.2.2.1)], q.2.2.2.2))
/-- what a table holds at a place that is known -/
def aTq (q : FieldType × Nat × (Int × Int) × List Int) (A : Option (Int × Int)) : Int × Int := match A with
  | some A => if A.1 = A.2 then (match q.2.2.2[A.1.toNat]? with
    | some v => (v, v)
    | none => q.2.2.1) else q.2.2.1
  | none => q.2.2.1
theorem aTq_ok {q : FieldType × Nat × (Int × Int) × List Int} {env : List aE} {ρ : List jv} (h : aR K n env ρ) {i : Nat} {x : Int32} (hx : ρ[i]? = some (.inl x)) {g : Nat → Int32} (h1 : aIn q.2.2.1 (g x.toNatClampNeg)) (h2 : (List.range q.2.2.2.length).all (fun i => decide ((g i).toInt = q.2.2.2.getD i 0)) = true) : aIn (aTq q (aIv env i)) (g x.toNatClampNeg) := by
  unfold aTq
  split
  next A hA =>
    split
    next e =>
      split
      next v hv =>
        obtain ⟨y, e1, e2⟩ := aIv_ok h hA hx
        cases e1
        have e3 : x.toNatClampNeg = A.1.toNat := by
          have e4 : x.toNatClampNeg = x.toInt.toNat := rfl
          have := e2.1
          have := e2.2
          have e5 : x.toInt = A.1 := by omega
          rw [e4, e5]
        have h3 := (List.getElem?_eq_some_iff.mp hv).1
        have h4 := of_decide_eq_true (List.all_eq_true.mp h2 _ (List.mem_range.mpr h3))
        have h5 : q.2.2.2.getD A.1.toNat 0 = v := by simp [List.getD, hv]
        rw [e3]
        rw [h5] at h4
        exact ⟨by rw [h4]; exact Int.le_refl _, by rw [h4]; exact Int.le_refl _⟩
      next => exact h1
    next => exact h1
  next => exact h1
/-- a row of ints, bytes, chars or booleans is read -/
def aAl (C : aCf) (ty : FieldType) (S : aS) (p : Nat) : Option (List (Nat × aS)) := match S.2.1 with
  | i :: a :: r => (match aTy S.2.2.1 i with
    | some (.inl _) => (match aAr C.1 S.2.2.1 a with
      | some q => if decide (q.2.1 = ty) = true ∧ ¬ ty = .long ∧ aBd S.2.2.1 S.2.2.2.2.2.1 (aLi S.2.2.1 i) q.2.2.1 = true then (match aFc2 S.2.2.2.2.1 a (aLi S.2.2.1 i) with
        | some v => some [(p, (S.1, v :: r, S.2.2.1, S.2.2.2))]
        | none => some [(p, (S.1, S.2.2.1.length :: r, S.2.2.1 ++ [(.inl q.2.2.2.1, none)], (S.2.2.2.1, (a, aLi S.2.2.1 i, S.2.2.1.length) :: S.2.2.2.2.1, aRcs S.2.2.1 S.2.2.2.2.2.1 q.2.2.2.2 (aLi S.2.2.1 i) S.2.2.1.length ++ S.2.2.2.2.2.1, S.2.2.2.2.2.2)))]) else none
      | none => (match aTj C.2.1 S.2.2.1 a with
        | some q => if decide (q.1 = ty) = true ∧ aBd S.2.2.1 S.2.2.2.2.2.1 (aLi S.2.2.1 i) q.2.1 = true then some [(p, aPu S r (.inl (aTq q (aIv S.2.2.1 i))) none)] else none
        | none => none))
    | _ => none)
  | _ => none
theorem aAl_ok (hT : aTB C.2.1 tb) {ty : FieldType} {S : aS} {p : Nat} {L : List (Nat × aS)} (hb : aAl C ty S p = some L) {ρ : List jv} {lv : List (Option jv)} {st : List jv} {σ : Nat → jcell} (hc : aCx F (aHp C K n JX ρ0 σ0) K n S ρ lv st σ) (h : aNx F (aHp C K n JX ρ0 σ0) K n J ρ L) : jald tb σ n ty st fun x r => J p lv (.inl x :: r) σ := by
  unfold aAl at hb
  split at hb
  next i a r hs =>
    obtain ⟨w, v, s, rfl, h1, h2, h3⟩ := aSk_2 (hs ▸ hc.2.2.1)
    split at hb
    next A hA =>
      obtain ⟨x, rfl, hx⟩ := aG_int (aTy_ok hc.1 hA h1)
      have hi := aLi_ok hc.1 h1
      obtain ⟨p9, m1, m2, m3, m4⟩ := hc.2.2.2.1
      split at hb
      next q hq =>
        obtain ⟨b, rfl, h4, h5, h6, h7⟩ := aAr_ok hc.1 hc.2.2.2.2.1 hq h2
        split at hb
        next hz =>
          obtain ⟨z1, z2, z3⟩ := hz
          rw [decide_eq_true_eq] at z1
          subst z1
          obtain ⟨g, e1, e2⟩ := aCe_arr h7 z2
          obtain ⟨i1, i2, i3⟩ := aBd_ok hc.1 m3 z3 hi
          simp only [jald, e1]
          refine ⟨h4, trivial, i1, ?_⟩
          split at hb
          next v9 hv9 =>
            cases hb
            obtain ⟨b9, m9, ty9, g9, i9, k1, k2, k3, k4, k5⟩ := m2 _ (aFc2_in hv9)
            dsimp only at k1 k4 k5
            rw [h2] at k1
            cases k1
            rw [e1] at k2
            obtain ⟨g8, rfl⟩ : ∃ g8, g9 = .inl g8 := by
              rcases g9 with g9 | g9
              · exact ⟨g9, rfl⟩
              · unfold aGc at k2
                cases k2
            unfold aGc at k2
            cases k2
            have e9 : i9 = x.toNatClampNeg := by
              have := aVa_f k4 hi
              replace this : (i9 : Int) = x.toInt := this
              omega
            subst e9
            exact aNx_in h List.mem_cons_self aX_rf ⟨hc.1, hc.2.1, ⟨k5, h3⟩, ⟨p9, m1, m2, m3, m4⟩, hc.2.2.2.2⟩
          next =>
            cases hb
            have hR2 := aR_push (t := .inl q.2.2.2.1) (r := none) (v := .inl (g x.toNatClampNeg)) hc.1 (e2 _ i2).1 trivial
            refine aNx_in h List.mem_cons_self aX_app ⟨hR2, hc.2.1.mo aX_app, ⟨aR_new hc.1, h3.mo aX_app⟩, ⟨p9, m1.mo aX_app, fun z hz => ?_, fun f hf => ?_, m4.mo aX_app⟩, hc.2.2.2.2⟩
            · rcases List.mem_cons.mp hz with rfl | hz
              · refine ⟨b, _, _, .inl g, x.toNatClampNeg, aX_app _ _ h2, e1, i2, ?_, aR_new hc.1⟩
                rw [i3]
                exact aVa_mo aX_app hi
              · exact (m2.mo aX_app) z hz
            · rcases List.mem_append.mp hf with hf | hf
              · obtain ⟨q9, q1, rfl⟩ := List.mem_map.mp hf
                obtain ⟨q1, qb⟩ := List.mem_filter.mp q1
                rw [Bool.and_eq_true] at qb
                have b1 := aPr_ok hc.1 m3 qb.1 (aVa_p (aVa_k _) hi)
                have b2 := aPr_ok hc.1 m3 qb.2 (aVa_p (aVa_k _) (aVa_m (-1) hi))
                replace b1 : 0 ≤ -(q9.1 : Int) + x.toInt := b1
                replace b2 : 0 ≤ (q9.2.1 : Int) - 1 + -1 * x.toInt := b2
                have h9 := (e2 _ i2).2 q9 q1 (by omega) (by omega)
                rw [i3] at h9
                have hn : aVa (ρ ++ [.inl (g x.toNatClampNeg)]) ([(S.2.2.1.length, q9.2.2.2.1)], q9.2.2.2.2) (q9.2.2.2.1 * (g x.toNatClampNeg).toInt + q9.2.2.2.2) := ⟨_, by rw [aEv_i (q := (S.2.2.1.length, q9.2.2.2.1)) (aR_new hc.1) rfl]; congr 1; exact Int.add_zero _, rfl⟩
                refine aHd_va.mpr ⟨_, aVa_p (aVa_m q9.2.2.1 (aVa_mo aX_app hi)) hn, ?_⟩
                show 0 ≤ q9.2.2.1 * x.toInt + _
                omega
              · exact (m3 f hf).mo aX_app
        next => cases hb
      next =>
        split at hb
        next q hq =>
          split at hb
          next hz =>
            cases hb
            obtain ⟨z1, z3⟩ := hz
            rw [decide_eq_true_eq] at z1
            subst z1
            unfold aTj at hq
            split at hq
            next j hj =>
              split at hq
              next hlt =>
               obtain rfl := aG_tab hlt (aTy_ok hc.1 hj h2)
               obtain ⟨s1, s2, s3, g, e1, e2, e3⟩ := hT j q hq
               obtain ⟨i1, i2, i3⟩ := aBd_ok hc.1 m3 z3 hi
               simp only [jald, e1]
               exact ⟨trivial, i1, aPu_ok (t := .inl (aTq q (aIv S.2.2.1 i))) (v := .inl (g x.toNatClampNeg)) (r := none) hc h3 (aTq_ok hc.1 h1 (e2 _ i2) e3) trivial h⟩
              next => cases hq
            next => cases hq
          next => cases hb
        next => cases hb
    next => cases hb
  next => cases hb
/-! what a store leaves -/
theorem aVs_al {ρ : List jv} : ∀ {is : List Nat} {vs : List jv}, aVs ρ is = some vs → vs = aVal ρ is ∧ aWm ρ is
  | [], vs, h => by
    cases h
    exact ⟨rfl, fun i k q => by simp at q⟩
  | i :: r, vs, h => by
    unfold aVs at h
    split at h
    next v s h1 h2 =>
      cases h
      obtain ⟨e1, e2⟩ := aVs_al h2
      refine ⟨?_, fun j k hk => ?_⟩
      · unfold aVal at e1 ⊢
        rw [List.map_cons, ← e1]
        simp [List.getD, h1]
      · cases j with
        | zero => cases hk; exact (List.getElem?_eq_some_iff.mp h1).1
        | succ j => exact e2 j k (by simpa using hk)
    next => cases h
/-- a field's store: facts that don't look at it -/
def aFk (dep : List (List aDe)) (k f : Nat) (q : Nat × List Nat) : Bool := aDl dep q.1 && (aDg dep q.1).all (fun e => decide (¬ e.1 = k) || decide (¬ f ∈ e.2.1))
theorem aFk_ok {dep : List (List aDe)} (hD : aDp F K n dep) {p : P} {ρ : List jv} {σ : Nat → jcell} {fx : List (Nat × List Nat)} (h : aFx F p ρ σ fx) {a c f : Nat} {fs : List jv} {u : jv} (ha : σ a = .inr (c, fs)) : aFx F p ρ (jup σ a (.inr (c, fs.set f u))) (fx.filter (aFk dep (K a) f)) := by
  intro q hq
  obtain ⟨h1, h2⟩ := List.mem_filter.mp hq
  obtain ⟨h0, h2⟩ := (Bool.and_eq_true _ _ ▸ h2 : _ ∧ _)
  obtain ⟨vs, h3, h4⟩ := h q h1
  refine ⟨vs, h3, hD.1 p q.1 vs σ _ h0 (fun b hb e he hk => ?_) h4⟩
  by_cases e9 : b = a
  · subst e9
    have h5 := List.all_eq_true.mp h2 e he
    rw [Bool.or_eq_true] at h5
    rcases h5 with h5 | h5
    · exact absurd hk (of_decide_eq_true h5)
    · refine Or.inr (Or.inl ⟨c, fs, fs.set f u, ha, jup_s, List.length_set, fun g hg => ?_⟩)
      exact List.getElem?_set_ne (fun (q9 : f = g) => of_decide_eq_true h5 (by rw [q9]; exact hg))
  · exact Or.inl (jup_n e9)
/-- a store into a row: facts that look below its place -/
def aFkr (dep : List (List aDe)) (env : List aE) (cs : List aF) (k : Nat) (ix : aF) (q : Nat × List Nat) : Bool := aDl dep q.1 && (aDg dep q.1).all (fun e => decide (¬ e.1 = k) || (match e.2.2 with
  | some f => (match aSb2 env q.2 f with
    | some g => aPr env cs 2 (aFp ix (aFm (-1) g))
    | none => false)
  | none => false))
theorem aFkr_ok {dep : List (List aDe)} (hD : aDp F K n dep) {env : List aE} {p : P} {ρ : List jv} (hR : aR K n env ρ) {cs : List aF} (hc : ∀ f ∈ cs, aHd ρ f) {σ : Nat → jcell} {fx : List (Nat × List Nat)} (h : aFx F p ρ σ fx) {a m i : Nat} {ty : FieldType} {g : Nat → Int32} {x : Int32} (ha : σ a = .inl (ty, m, .inl g)) {ix : aF} (hi : aVa ρ ix (i : Int)) : aFx F p ρ (jup σ a (.inl (ty, m, .inl (upd g i x)))) (fx.filter (aFkr dep env cs (K a) ix)) := by
  intro q hq
  obtain ⟨h1, h2⟩ := List.mem_filter.mp hq
  obtain ⟨h0, h2⟩ := (Bool.and_eq_true _ _ ▸ h2 : _ ∧ _)
  obtain ⟨vs, h3, h4⟩ := h q h1
  refine ⟨vs, h3, hD.1 p q.1 vs σ _ h0 (fun b hb e he hk => ?_) h4⟩
  by_cases e9 : b = a
  · subst e9
    have h5 := List.all_eq_true.mp h2 e he
    rw [Bool.or_eq_true] at h5
    rcases h5 with h5 | h5
    · exact absurd hk (of_decide_eq_true h5)
    · split at h5
      next f hf =>
        split at h5
        next g1 hg1 =>
          obtain ⟨e1, e2⟩ := aVs_al h3
          obtain ⟨z, z1, z2⟩ := aSb2_ok hR e2 hg1
          rw [← e1] at z1
          have h6 := aPr_ok hR hc h5 (aVa_p hi (aVa_m (-1) z2))
          refine Or.inr (Or.inr ⟨ty, m, g, upd g i x, f, z, hf, z1, ha, jup_s, fun j hj => ?_⟩)
          unfold upd
          rw [if_neg (by omega)]
        next => cases h5
      next => cases h5
  · exact Or.inl (jup_n e9)
def aFkl (dep : List (List aDe)) (k : Nat) (q : Nat × List Nat) : Bool := aDl dep q.1 && (aDg dep q.1).all (fun e => decide (¬ e.1 = k))
theorem aFkl_ok {dep : List (List aDe)} (hD : aDp F K n dep) {p : P} {ρ : List jv} {σ : Nat → jcell} {fx : List (Nat × List Nat)} (h : aFx F p ρ σ fx) {a : Nat} {x : jcell} : aFx F p ρ (jup σ a x) (fx.filter (aFkl dep (K a))) := by
  intro q hq
  obtain ⟨h1, h2⟩ := List.mem_filter.mp hq
  obtain ⟨h0, h2⟩ := (Bool.and_eq_true _ _ ▸ h2 : _ ∧ _)
  obtain ⟨vs, h3, h4⟩ := h q h1
  refine ⟨vs, h3, hD.1 p q.1 vs σ _ h0 (fun b hb e he hk => ?_) h4⟩
  by_cases e9 : b = a
  · subst e9
    exact absurd hk (of_decide_eq_true (List.all_eq_true.mp h2 e he))
  · exact Or.inl (jup_n e9)
theorem aVs_cons {ρ : List jv} {i : Nat} {r : List Nat} {vs : List jv} (h : aVs ρ (i :: r) = some vs) : ∃ v s, ρ[i]? = some v ∧ aVs ρ r = some s ∧ vs = v :: s := by
  unfold aVs at h
  split at h
  next v s h1 h2 => cases h; exact ⟨v, s, h1, h2, rfl⟩
  next => cases h
theorem aPnd_ok (hP : aPd F) {p : P} {ρ : List jv} {σ : Nat → jcell} {fx : List (Nat × List Nat)} (h : aFx F p ρ σ fx) {a i x b : Nat} {u w : Int32} (ha : ρ[a]? = some (.inr (.inr (some (.inl b))))) (hi : ρ[i]? = some (.inl u)) (hx : ρ[x]? = some (.inl w)) : aFx F p ρ (jup σ b (jsto (σ b) u.toNatClampNeg w)) (fx.filterMap (aPnd a i x)) := by
  intro q hq
  obtain ⟨q0, h1, h2⟩ := List.mem_filterMap.mp hq
  obtain ⟨vs, h3, h4⟩ := h q0 h1
  unfold aPnd at h2
  split at h2
  next hr =>
    split at h2
    next a' i' x' r hq0 =>
      split at h2
      next he =>
        obtain ⟨rfl, rfl, rfl⟩ := he
        have e9 := Option.some.inj h2
        subst e9
        rw [hq0] at h3
        obtain ⟨v1, s1, e1, e2, rfl⟩ := aVs_cons h3
        obtain ⟨v2, s2, e3, e4, rfl⟩ := aVs_cons e2
        obtain ⟨v3, s3, e5, e6, rfl⟩ := aVs_cons e4
        obtain rfl := Option.some.inj (e1.symm.trans ha)
        obtain rfl := Option.some.inj (e3.symm.trans hi)
        obtain rfl := Option.some.inj (e5.symm.trans hx)
        refine ⟨s3, e6, hP.1 p (q0.1 - 65539) b u w s3 σ (by omega) (by omega) ?_⟩
        rw [show q0.1 - 65539 + 65539 = q0.1 by omega]
        exact h4
      next => cases h2
    next => cases h2
  next => cases h2
theorem aPndl_ok (hP : aPd F) {p : P} {ρ : List jv} {σ : Nat → jcell} {fx : List (Nat × List Nat)} (h : aFx F p ρ σ fx) {a i x b : Nat} {u : Int32} {w : Int64} (ha : ρ[a]? = some (.inr (.inr (some (.inl b))))) (hi : ρ[i]? = some (.inl u)) (hx : ρ[x]? = some (.inr (.inl w))) : aFx F p ρ (jup σ b (jstl (σ b) u.toNatClampNeg w)) (fx.filterMap (aPnd a i x)) := by
  intro q hq
  obtain ⟨q0, h1, h2⟩ := List.mem_filterMap.mp hq
  obtain ⟨vs, h3, h4⟩ := h q0 h1
  unfold aPnd at h2
  split at h2
  next hr =>
    split at h2
    next a' i' x' r hq0 =>
      split at h2
      next he =>
        obtain ⟨rfl, rfl, rfl⟩ := he
        have e9 := Option.some.inj h2
        subst e9
        rw [hq0] at h3
        obtain ⟨v1, s1, e1, e2, rfl⟩ := aVs_cons h3
        obtain ⟨v2, s2, e3, e4, rfl⟩ := aVs_cons e2
        obtain ⟨v3, s3, e5, e6, rfl⟩ := aVs_cons e4
        obtain rfl := Option.some.inj (e1.symm.trans ha)
        obtain rfl := Option.some.inj (e3.symm.trans hi)
        obtain rfl := Option.some.inj (e5.symm.trans hx)
        refine ⟨s3, e6, hP.2.2 p (q0.1 - 65539) b u w s3 σ (by omega) (by omega) ?_⟩
        rw [show q0.1 - 65539 + 65539 = q0.1 by omega]
        exact h4
      next => cases h2
    next => cases h2
  next => cases h2
theorem aPnf_ok (hP : aPd F) {p : P} {ρ : List jv} {σ : Nat → jcell} {fx : List (Nat × List Nat)} (h : aFx F p ρ σ fx) {o f v b : Nat} {u : jv} (ha : ρ[o]? = some (.inr (.inr (some (.inl b))))) (hx : ρ[v]? = some u) : aFx F p ρ (jup σ b (jstf (σ b) f u)) (fx.filterMap (aPnf o f v)) := by
  intro q hq
  obtain ⟨q0, h1, h2⟩ := List.mem_filterMap.mp hq
  obtain ⟨vs, h3, h4⟩ := h q0 h1
  unfold aPnf at h2
  split at h2
  next hr =>
    split at h2
    next o' v' r hq0 =>
      split at h2
      next he =>
        obtain ⟨rfl, rfl⟩ := he
        have e9 := Option.some.inj h2
        subst e9
        rw [hq0] at h3
        obtain ⟨v1, s1, e1, e2, rfl⟩ := aVs_cons h3
        obtain ⟨v2, s2, e3, e4, rfl⟩ := aVs_cons e2
        obtain rfl := Option.some.inj (e1.symm.trans ha)
        obtain rfl := Option.some.inj (e3.symm.trans hx)
        refine ⟨s2, e4, hP.2.1 p (q0.1 - (131072 * (f + 1) + 2)) b f v2 s2 σ (by omega) (by omega) ?_⟩
        rw [show q0.1 - (131072 * (f + 1) + 2) + 131072 * (f + 1) + 2 = q0.1 by omega]
        exact h4
      next => cases h2
    next => cases h2
  next => cases h2
theorem aFx_app {p : P} {ρ : List jv} {σ : Nat → jcell} {a b : List (Nat × List Nat)} (h1 : aFx F p ρ σ a) (h2 : aFx F p ρ σ b) : aFx F p ρ σ (a ++ b) := fun q hq => (List.mem_append.mp hq).elim (h1 q) (h2 q)
def aCk (env : List aE) (k : Nat) (q : Nat × aF × Nat) : Bool := match aKi env q.1 with
  | some k1 => decide (¬ k1 = k)
  | none => false
theorem aCk_ok {env : List aE} {ρ : List jv} (hR : aR K n env ρ) {σ : Nat → jcell} {cb : List (Nat × aF × Nat)} (h : aCb ρ σ cb) {a : Nat} {x : jcell} : aCb ρ (jup σ a x) (cb.filter (aCk env (K a))) := by
  intro q hq
  obtain ⟨h1, h2⟩ := List.mem_filter.mp hq
  obtain ⟨b, m, ty, g, i, k1, k2, k3, k4, k5⟩ := h q h1
  refine ⟨b, m, ty, g, i, k1, ?_, k3, k4, k5⟩
  have e : b ≠ a := by
    intro e
    subst e
    unfold aCk at h2
    split at h2
    next k hk =>
      obtain ⟨b2, e2, -, e3⟩ := aKi_ok hR hk k1
      cases e2
      exact of_decide_eq_true h2 e3.symm
    next => cases h2
  rw [jup_n e]
  exact k2
theorem aCb_obj {ρ : List jv} {σ : Nat → jcell} {cb : List (Nat × aF × Nat)} (h : aCb ρ σ cb) {a : Nat} {y : Nat × List jv} {x : jcell} (hy : σ a = .inr y) : aCb ρ (jup σ a x) cb := by
  intro q hq
  obtain ⟨b, m, ty, g, i, k1, k2, k3, k4, k5⟩ := h q hq
  refine ⟨b, m, ty, g, i, k1, ?_, k3, k4, k5⟩
  have e : b ≠ a := by
    intro e
    subst e
    rw [hy] at k2
    rcases g with g | g
    · unfold aGc at k2; cases k2
    · unfold aGc at k2; cases k2
  rw [jup_n e]
  exact k2
theorem aFa_obj {mk : List (Nat × aF)} {σ : Nat → jcell} (h : aFa K n mk ρ0 σ0 σ) {a : Nat} {y : Nat × List jv} {x : jcell} (hy : σ a = .inr y) : aFa K n mk ρ0 σ0 (jup σ a x) := by
  intro b hb
  obtain ⟨h1, h2⟩ := h b hb
  refine ⟨fun ty m g h0 => ?_, fun ty m g h0 => ?_⟩
  · obtain ⟨g', e1, e2⟩ := h1 ty m g h0
    have e : b ≠ a := by
      intro e
      subst e
      rw [hy] at e1
      cases e1
    exact ⟨g', by rw [jup_n e]; exact e1, e2⟩
  · obtain ⟨g', e1, e2⟩ := h2 ty m g h0
    have e : b ≠ a := by
      intro e
      subst e
      rw [hy] at e1
      cases e1
    exact ⟨g', by rw [jup_n e]; exact e1, e2⟩
theorem aFa_int {mk : List (Nat × aF)} {σ : Nat → jcell} (h : aFa K n mk ρ0 σ0 σ) {a : Nat} {ty : FieldType} {m : Nat} {g : Nat → Int32} (hy : σ a = .inl (ty, m, .inl g)) {i : Nat} {x : Int32} (hw : ¬ aFw K mk ρ0 a i) : aFa K n mk ρ0 σ0 (jup σ a (.inl (ty, m, .inl (upd g i x)))) := by
  intro b hb
  obtain ⟨h1, h2⟩ := h b hb
  by_cases e : b = a
  · subst e
    refine ⟨fun ty9 m9 g9 h0 => ?_, fun ty9 m9 g9 h0 => ?_⟩
    · obtain ⟨g', e1, e2⟩ := h1 ty9 m9 g9 h0
      rw [hy] at e1
      cases e1
      refine ⟨_, jup_s, fun j hj => ?_⟩
      unfold upd
      split
      next e9 => subst e9; exact absurd hj hw
      next => exact e2 j hj
    · obtain ⟨g', e1, e2⟩ := h2 ty9 m9 g9 h0
      rw [hy] at e1
      cases e1
  · rw [jup_n e]
    exact ⟨h1, h2⟩
theorem aFa_lng {mk : List (Nat × aF)} {σ : Nat → jcell} (h : aFa K n mk ρ0 σ0 σ) {a : Nat} {ty : FieldType} {m : Nat} {g : Nat → Int64} (hy : σ a = .inl (ty, m, .inr (.inl g))) {i : Nat} {x : Int64} (hw : ¬ aFw K mk ρ0 a i) : aFa K n mk ρ0 σ0 (jup σ a (.inl (ty, m, .inr (.inl (vp_updL g i x))))) := by
  intro b hb
  obtain ⟨h1, h2⟩ := h b hb
  by_cases e : b = a
  · subst e
    refine ⟨fun ty9 m9 g9 h0 => ?_, fun ty9 m9 g9 h0 => ?_⟩
    · obtain ⟨g', e1, e2⟩ := h1 ty9 m9 g9 h0
      rw [hy] at e1
      cases e1
    · obtain ⟨g', e1, e2⟩ := h2 ty9 m9 g9 h0
      rw [hy] at e1
      cases e1
      refine ⟨_, jup_s, fun j hj => ?_⟩
      unfold vp_updL
      split
      next e9 => subst e9; exact absurd hj hw
      next => exact e2 j hj
  · rw [jup_n e]
    exact ⟨h1, h2⟩
/-- a row may be written at an index -/
def aMk (mk : List (Nat × aF)) (k : Nat) : Option aF := match mk with
  | [] => none
  | q :: r => if q.1 = k then some q.2 else aMk r k
theorem aMk_in : ∀ {mk : List (Nat × aF)} {k : Nat} {f : aF}, aMk mk k = some f → (k, f) ∈ mk
  | [], _, _, h => by cases h
  | q :: r, k, f, h => by
    unfold aMk at h
    split at h
    next e => cases h; subst e; exact List.mem_cons_self
    next => exact List.mem_cons_of_mem _ (aMk_in h)
def aWr (C : aCf) (env : List aE) (cs : List aF) (k : Nat) (f : aF) : Bool := match aMk C.2.2.2.2.1 k with
  | some B => (match aSb2 env (List.range C.2.2.2.2.2.2) B with
    | some g => aPr env cs 2 (aFp f (aFm (-1) g))
    | none => false)
  | none => false
theorem aWr_ok {env : List aE} {ρ : List jv} (h : aR K n env ρ) (hx : aX ρ0 ρ) (hE : C.2.2.2.2.2.2 = ρ0.length) {cs : List aF} (hc : ∀ f ∈ cs, aHd ρ f) {a : Nat} {f : aF} (hw : aWr C env cs (K a) f = true) {i : Nat} (hi : aVa ρ f (i : Int)) : ¬ aFw K C.2.2.2.2.1 ρ0 a i := by
  unfold aWr at hw
  split at hw
  next B hB =>
    split at hw
    next g hg =>
      intro q
      obtain ⟨z, z1, z2⟩ := q _ (aMk_in hB) rfl
      rw [hE] at hg
      obtain ⟨y, y1, y2⟩ := aSb2_ok h (aWm_rg hx) hg
      rw [aVal_rg hx] at y1
      have := aVa_f y1 z1
      have h9 := aPr_ok h hc hw (aVa_p hi (aVa_m (-1) y2))
      omega
    next => cases hw
  next => cases hw
def aAs (C : aCf) (ty : FieldType) (S : aS) (p : Nat) : Option (List (Nat × aS)) := match S.2.1 with
  | x :: i :: a :: r => (match aTy S.2.2.1 x, aTy S.2.2.1 i, aAr C.1 S.2.2.1 a with
    | some (.inl _), some (.inl _), some q => if decide (q.2.1 = ty) = true ∧ ¬ ty = .long ∧ aBd S.2.2.1 S.2.2.2.2.2.1 (aLi S.2.2.1 i) q.2.2.1 = true ∧ ¬ q.1 ∈ C.2.2.1 ∧ aLx S.2.2.1 S.2.2.2.2.2.1 x (.inl q.2.2.2.1) = true ∧ aLx S.2.2.1 S.2.2.2.2.2.1 x (.inl (aRg ty)) = true ∧ aWr C S.2.2.1 S.2.2.2.2.2.1 q.1 (aLi S.2.2.1 i) = true ∧ q.2.2.2.2.all (fun z => aPr S.2.2.1 S.2.2.2.2.2.1 1 (aFp ([], (z.1 : Int) - 1) (aFm (-1) (aLi S.2.2.1 i))) || (aPr S.2.2.1 S.2.2.2.2.2.1 1 (aFp ([], -(z.2.1 : Int)) (aLi S.2.2.1 i)) || aPr S.2.2.1 S.2.2.2.2.2.1 2 (aFp (aFm z.2.2.1 (aLi S.2.2.1 i)) (aFp (aFm z.2.2.2.1 (aLi S.2.2.1 x)) ([], z.2.2.2.2))))) = true then some [(p, (S.1, r, S.2.2.1, (S.2.2.2.1, (a, aLi S.2.2.1 i, x) :: S.2.2.2.2.1.filter (aCk S.2.2.1 q.1), S.2.2.2.2.2.1, S.2.2.2.2.2.2.filterMap (aPnd a i x) ++ S.2.2.2.2.2.2.filter (aFkr C.2.2.2.2.2.1 S.2.2.1 S.2.2.2.2.2.1 q.1 (aLi S.2.2.1 i)))))] else none
    | _, _, _ => none)
  | _ => none
theorem aAs_ok (hJ : aJx K n C.2.2.1 JX) (hD : aDp F K n C.2.2.2.2.2.1) (hE : C.2.2.2.2.2.2 = ρ0.length) {ty : FieldType} {S : aS} {p : Nat} {L : List (Nat × aS)} (hb : aAs C ty S p = some L) {ρ : List jv} (hx0 : aX ρ0 ρ) {lv : List (Option jv)} {st : List jv} {σ : Nat → jcell} (hc : aCx F (aHp C K n JX ρ0 σ0) K n S ρ lv st σ) (h : aNx F (aHp C K n JX ρ0 σ0) K n J ρ L) : jast σ n ty st fun σ' r => J p lv r σ' := by
  unfold aAs at hb
  split at hb
  next x i a r hs =>
    obtain ⟨u, w, s, rfl, h0, h1, h3⟩ := aSk_2 (hs ▸ hc.2.2.1)
    obtain ⟨v, s8, rfl, h2, h8⟩ := aSk_1 h3
    split at hb
    next B A q hB hA hq =>
      obtain ⟨y, rfl, -⟩ := aG_int (aTy_ok hc.1 hB h0)
      obtain ⟨x, rfl, hx⟩ := aG_int (aTy_ok hc.1 hA h1)
      obtain ⟨b, rfl, h4, h5, h6, h7⟩ := aAr_ok hc.1 hc.2.2.2.2.1 hq h2
      split at hb
      next hz =>
        cases hb
        obtain ⟨z1, z2, z3, z5, z6, z7, z8, z9⟩ := hz
        rw [decide_eq_true_eq] at z1
        subst z1
        obtain ⟨p9, m1, m2, m3, m4⟩ := hc.2.2.2.1
        have hy6 : aIn q.2.2.2.1 y := aLx_ok hc.1 m3 z6 h0
        have hy7 : aIn (aRg q.2.1) y := aLx_ok hc.1 m3 z7 h0
        obtain ⟨g, e1, e2⟩ := aCe_arr h7 z2
        have hi := aLi_ok hc.1 h1
        obtain ⟨i1, i2, i3⟩ := aBd_ok hc.1 m3 z3 hi
        simp only [jast, e1]
        refine ⟨h4, trivial, i1, ?_⟩
        rw [aRg_ok hy7]
        obtain ⟨p1, p2, p3, p4⟩ := hc.2.2.2.2
        have hi2 : aVa ρ (aLi S.2.2.1 i) (x.toNatClampNeg : Int) := by rw [i3]; exact hi
        have hw := aWr_ok hc.1 hx0 hE m3 (by rw [← h5] at z8; exact z8) hi2
        refine aNx_in h List.mem_cons_self aX_rf ⟨hc.1, hc.2.1, h8, ⟨p9, aCa_arr m1 e1, fun z hz => ?_, m3, by rw [← h5]; exact aFx_app (by have q9 := aPnd_ok hD.2.1 m4 h2 h1 h0; unfold jsto at q9; rw [e1] at q9; exact q9) (aFkr_ok hD hc.1 m3 m4 e1 hi2)⟩, aH_up p1 (fun d hd => ?_), (hJ _ _ h4 p2).1 _ (by rw [h5]; exact z5), aFr_arr p3 e1, aFa_int p4 e1 hw⟩
        · rcases List.mem_cons.mp hz with rfl | hz
          · exact ⟨b, _, _, .inl (upd g x.toNatClampNeg y), x.toNatClampNeg, h2, jup_s, i2, hi2, by show _ = (some (.inl (upd g x.toNatClampNeg y x.toNatClampNeg)) : Option jv); rw [show upd g x.toNatClampNeg y x.toNatClampNeg = y from by unfold upd; rw [if_pos rfl]]; exact h0⟩
          · rw [← h5] at hz
            exact aCk_ok hc.1 m2 z hz
        · rw [h6] at hd
          cases hd
          refine ⟨rfl, rfl, z2, fun k hk => ?_⟩
          unfold upd
          split
          next e9 =>
            subst e9
            refine ⟨hy6, fun q9 hq9 l1 l2 => ?_⟩
            have h9 := List.all_eq_true.mp z9 q9 hq9
            rw [Bool.or_eq_true, Bool.or_eq_true] at h9
            rcases h9 with h9 | h9 | h9
            · have h9 := aPr_ok hc.1 m3 h9 (aVa_p (aVa_k _) (aVa_m (-1) hi2))
              exfalso
              omega
            · have h9 := aPr_ok hc.1 m3 h9 (aVa_p (aVa_k _) hi2)
              exfalso
              omega
            · have h9 := aPr_ok hc.1 m3 h9 (aVa_p (aVa_m q9.2.2.1 hi2) (aVa_p (aVa_m q9.2.2.2.1 (aLi_ok hc.1 h0)) (aVa_k _)))
              replace h9 : 0 ≤ q9.2.2.1 * (x.toNatClampNeg : Int) + (q9.2.2.2.1 * y.toInt + q9.2.2.2.2) := h9
              omega
          next => exact e2 k hk
      next => cases hb
    next => cases hb
  next => cases hb
def aFind (cc : List (Nat × Nat × Nat)) (o f : Nat) : Option Nat := match cc with
  | [] => none
  | q :: r => if q.1 = o ∧ q.2.1 = f then some q.2.2 else aFind r o f
theorem aFind_in : ∀ {cc : List (Nat × Nat × Nat)} {o f v : Nat}, aFind cc o f = some v → (o, f, v) ∈ cc
  | [], _, _, _, h => by cases h
  | q :: r, o, f, v, h => by
    unfold aFind at h
    split at h
    next hq =>
      cases h
      obtain ⟨rfl, rfl⟩ := hq
      exact List.mem_cons_self
    next => exact List.mem_cons_of_mem _ (aFind_in h)
def aOb (T : List aKd) (env : List aE) (o ci f : Nat) : Option (Nat × aT) := match aKi env o with
  | some k => (match T[k]? with
    | some (.inr q) => if q.1 = ci then (match q.2[f]? with
      | some t => some (k, t)
      | none => none) else none
    | _ => none)
  | none => none
theorem aOb_ok {env : List aE} {ρ : List jv} (h : aR K n env ρ) {σ : Nat → jcell} (hH : aH T K n σ) {o ci f : Nat} {q : Nat × aT} (hq : aOb T env o ci f = some q) {v : jv} (hv : ρ[o]? = some v) : ∃ (a : Nat) (fs : List jv) (ts : List aT), v = .inr (.inr (some (.inl a))) ∧ a < n ∧ K a = q.1 ∧ T[K a]? = some (.inr (ci, ts)) ∧ ts[f]? = some q.2 ∧ σ a = .inr (ci, fs) ∧ aFs K n ts fs := by
  unfold aOb at hq
  split at hq
  next k hk =>
    split at hq
    next d hd =>
      split at hq
      next hci =>
        split at hq
        next t ht =>
          cases hq
          obtain ⟨a, rfl, h1, h2⟩ := aKi_ok h hk hv
          subst h2
          obtain ⟨fs, e1, e2⟩ := aCe_obj (hH a h1 _ hd)
          rw [hci] at e1
          exact ⟨a, fs, d.2, rfl, h1, rfl, by rw [hd, ← hci], ht, e1, e2⟩
        next => cases hq
      next => cases hq
    next => cases hq
  next => cases hq
/-- a field is read -/
def aGet (C : aCf) (ci f : Nat) (S : aS) (p : Nat) : Option (List (Nat × aS)) := match S.2.1 with
  | o :: r => (match aOb C.1 S.2.2.1 o ci f with
    | some q => (match aFind S.2.2.2.1 o f with
      | some v => some [(p, (S.1, v :: r, S.2.2.1, S.2.2.2))]
      | none => some [(p, (S.1, S.2.2.1.length :: r, S.2.2.1 ++ [(q.2, none)], ((o, f, S.2.2.1.length) :: S.2.2.2.1, S.2.2.2.2)))])
    | none => none)
  | _ => none
theorem aGet_ok {ci f : Nat} {S : aS} {p : Nat} {L : List (Nat × aS)} (hb : aGet C ci f S p = some L) {ρ : List jv} {lv : List (Option jv)} {st : List jv} {σ : Nat → jcell} (hc : aCx F (aHp C K n JX ρ0 σ0) K n S ρ lv st σ) (h : aNx F (aHp C K n JX ρ0 σ0) K n J ρ L) : jget σ n ci f st fun v r => J p lv (v :: r) σ := by
  unfold aGet at hb
  split at hb
  next o r hs =>
    obtain ⟨w, s, rfl, h1, h2⟩ := aSk_1 (hs ▸ hc.2.2.1)
    split at hb
    next q hq =>
      obtain ⟨a, fs, ts, rfl, k1, k2, k3, k4, k5, k6⟩ := aOb_ok hc.1 hc.2.2.2.2.1 hq h1
      have hl : f < fs.length := by rw [k6.1]; exact (List.getElem?_eq_some_iff.mp k4).1
      have hv : fs[f]? = some fs[f] := List.getElem?_eq_getElem hl
      simp only [jget, k5, hv]
      refine ⟨k1, trivial, ?_⟩
      obtain ⟨p9, m0, m9⟩ := hc.2.2.2.1
      split at hb
      next v9 hf =>
        cases hb
        obtain ⟨b, c, fs1, v, m1, m2, m3, m4⟩ := m0 _ (aFind_in hf)
        dsimp only at m1 m3 m4
        rw [h1] at m1
        cases m1
        rw [k5] at m2
        cases m2
        rw [hv] at m3
        cases m3
        exact aNx_in h List.mem_cons_self aX_rf ⟨hc.1, hc.2.1, ⟨m4, h2⟩, hc.2.2.2.1, hc.2.2.2.2⟩
      next hf =>
        cases hb
        have hR2 := aR_push (r := none) (v := fs[f]) hc.1 (k6.2 f _ _ k4 hv) trivial
        have m8 : aMm F p9 ρ σ S.2.2.2 := ⟨m0, m9⟩
        refine aNx_in h List.mem_cons_self aX_app ⟨hR2, hc.2.1.mo aX_app, ⟨aR_new hc.1, h2.mo aX_app⟩, ⟨p9, fun z hz => ?_, (m8.mo aX_app).2⟩, hc.2.2.2.2⟩
        rcases List.mem_cons.mp hz with rfl | hz
        · exact ⟨a, ci, fs, fs[f], aX_app _ _ h1, k5, hv, aR_new hc.1⟩
        · exact (m0.mo aX_app) z hz
    next => cases hb
  next => cases hb
def aFit2 (kd : Nat) (t : aT) : Bool := match kd, t with
  | 0, .inl _ => true
  | 1, .inl A => aSb A (0, 1)
  | 2, .inr none => true
  | 3, .inr (some _) => true
  | _, _ => false
theorem aFit2_ok {kd : Nat} {t : aT} (h : aFit2 kd t = true) {v : jv} (hv : aG K n t v) : jfit kd v := by
  unfold aFit2 at h
  split at h
  · obtain ⟨x, rfl, -⟩ := aG_int hv; trivial
  · obtain ⟨x, rfl, hx⟩ := aG_int hv
    obtain ⟨h1, h2⟩ := aSb_ok h hx
    dsimp only at h1 h2
    have e : x.toInt = 0 ∨ x.toInt = 1 := by omega
    show x = 0 ∨ x = 1
    rcases e with e | e
    · left; rw [← Int32.toInt_inj, e]; decide
    · right; rw [← Int32.toInt_inj, e]; decide
  · obtain ⟨x, rfl⟩ := aG_lng hv; trivial
  · next q =>
    rcases v with x | x | x
    · rcases q with q | q <;> exact hv.elim
    · rcases q with q | q <;> exact hv.elim
    · trivial
  · cases h
def aDrop (env : List aE) (k f : Nat) (q : Nat × Nat × Nat) : Bool := match aKi env q.1 with
  | some k1 => decide (¬ (k1 = k ∧ q.2.1 = f))
  | none => false
def aFix (env : List aE) (cs : List aF) (v : Nat) (tv : aT) (kd : Nat) : Bool := match kd with
  | 1 => aLx env cs v (.inl (0, 1))
  | k => aFit2 k tv
/-- a field is written -/
def aPut (C : aCf) (ci f kd : Nat) (S : aS) (p : Nat) : Option (List (Nat × aS)) := match S.2.1 with
  | v :: o :: r => (match aOb C.1 S.2.2.1 o ci f, aTy S.2.2.1 v with
    | some q, some tv => if aLx S.2.2.1 S.2.2.2.2.2.1 v q.2 = true ∧ aFix S.2.2.1 S.2.2.2.2.2.1 v tv kd = true ∧ (¬ q.1 ∈ C.2.2.1 ∨ aNr q.2 = true) ∧ (q.1, f) ∈ C.2.2.2.1 then some [(p, (S.1, r, S.2.2.1, ((o, f, v) :: S.2.2.2.1.filter (aDrop S.2.2.1 q.1 f), S.2.2.2.2.1, S.2.2.2.2.2.1, S.2.2.2.2.2.2.filterMap (aPnf o f v) ++ S.2.2.2.2.2.2.filter (aFk C.2.2.2.2.2.1 q.1 f))))] else none
    | _, _ => none)
  | _ => none
theorem aPut_ok (hJ : aJx K n C.2.2.1 JX) (hD : aDp F K n C.2.2.2.2.2.1) {ci f kd : Nat} {S : aS} {p : Nat} {L : List (Nat × aS)} (hb : aPut C ci f kd S p = some L) {ρ : List jv} {lv : List (Option jv)} {st : List jv} {σ : Nat → jcell} (hc : aCx F (aHp C K n JX ρ0 σ0) K n S ρ lv st σ) (h : aNx F (aHp C K n JX ρ0 σ0) K n J ρ L) : jput σ n ci f kd st fun σ' r => J p lv r σ' := by
  unfold aPut at hb
  split at hb
  next v o r hs =>
    obtain ⟨u, w, s, rfl, h0, h1, h3⟩ := aSk_2 (hs ▸ hc.2.2.1)
    split at hb
    next q tv hq ht =>
      split at hb
      next hz =>
        cases hb
        obtain ⟨z1, z2, z3, z4⟩ := hz
        obtain ⟨a, fs, ts, rfl, k1, k2, k3, k4, k5, k6⟩ := aOb_ok hc.1 hc.2.2.2.2.1 hq h1
        have hl : f < fs.length := by rw [k6.1]; exact (List.getElem?_eq_some_iff.mp k4).1
        obtain ⟨p9, m0, m6, m7, m8⟩ := hc.2.2.2.1
        have hg : aG K n q.2 u := aLx_ok hc.1 m7 z1 h0
        have hg2 : jfit kd u := by
          unfold aFix at z2
          split at z2
          next => exact aFit2_ok (t := .inl (0, 1)) rfl (aLx_ok hc.1 m7 z2 h0)
          next => exact aFit2_ok z2 (aTy_ok hc.1 ht h0)
        simp only [jput, k5]
        refine ⟨k1, trivial, hl, hg2, ?_⟩
        obtain ⟨p1, p2, p3, p4⟩ := hc.2.2.2.2
        refine aNx_in h List.mem_cons_self aX_rf ⟨hc.1, hc.2.1, h3, ⟨p9, fun z hz => ?_, aCb_obj m6 k5, m7, by rw [← k2]; exact aFx_app (by have q9 := aPnf_ok (f := f) hD.2.1 m8 h1 h0; unfold jstf at q9; rw [k5] at q9; exact q9) (aFk_ok hD m8 k5)⟩, aH_up p1 (fun d hd => ?_), (z3.elim (fun z9 => (hJ _ _ k1 p2).1 _ (by rw [k2]; exact z9)) (fun z9 => (hJ _ _ k1 p2).2 ci fs f fs[f] u k5 (List.getElem?_eq_getElem hl) (aNr_ok z9 (k6.2 f q.2 _ k4 (List.getElem?_eq_getElem hl))) (aNr_ok z9 hg))), fun b hb c fs0 h0' => ?_, aFa_obj p4 k5⟩
        · rcases List.mem_cons.mp hz with rfl | hz
          · exact ⟨a, ci, fs.set f u, u, h1, jup_s, List.getElem?_set_self hl, h0⟩
          · obtain ⟨hz1, hz2⟩ := List.mem_filter.mp hz
            obtain ⟨b, c, fs1, v1, m1, m2, m3, m4⟩ := m0 z hz1
            by_cases e : b = a
            · subst e
              rw [k5] at m2
              cases m2
              unfold aDrop at hz2
              split at hz2
              next k9 hk9 =>
                rw [decide_eq_true_eq] at hz2
                obtain ⟨b2, e2, -, e3⟩ := aKi_ok hc.1 hk9 m1
                cases e2
                have hne : ¬ z.2.1 = f := fun q9 => hz2 ⟨by rw [← e3, k2], q9⟩
                exact ⟨b, ci, fs.set f u, v1, m1, jup_s, by rw [List.getElem?_set_ne (fun q9 => hne q9.symm)]; exact m3, m4⟩
              next => cases hz2
            · exact ⟨b, c, fs1, v1, m1, by rw [jup_n e]; exact m2, m3, m4⟩
        · rw [k3] at hd
          cases hd
          refine ⟨rfl, by rw [List.length_set]; exact k6.1, fun g t v1 hg1 hv1 => ?_⟩
          by_cases e : g = f
          · subst e
            rw [List.getElem?_set_self hl] at hv1
            cases hv1
            rw [k4] at hg1
            cases hg1
            exact hg
          · rw [List.getElem?_set_ne (fun q9 => e q9.symm)] at hv1
            exact k6.2 g t v1 hg1 hv1
        · obtain ⟨fs', m1, ml, m2⟩ := p3 b hb c fs0 h0'
          by_cases e : b = a
          · subst e
            rw [k5] at m1
            cases m1
            refine ⟨fs.set f u, jup_s, by rw [List.length_set]; exact ml, fun g v1 hg1 hn1 => ?_⟩
            have hne : ¬ g = f := fun q9 => hn1 (by rw [q9, k2]; exact z4)
            rw [List.getElem?_set_ne (fun q9 => hne q9.symm)]
            exact m2 g v1 hg1 hn1
          · exact ⟨fs', by rw [jup_n e]; exact m1, ml, m2⟩
      next => cases hb
    next => cases hb
  next => cases hb
def aLl (C : aCf) (S : aS) (p : Nat) : Option (List (Nat × aS)) := match S.2.1 with
  | i :: a :: r => (match aTy S.2.2.1 i, aAr C.1 S.2.2.1 a with
    | some (.inl _), some q => if decide (q.2.1 = .long) = true ∧ aBd S.2.2.1 S.2.2.2.2.2.1 (aLi S.2.2.1 i) q.2.2.1 = true then (match aFc2 S.2.2.2.2.1 a (aLi S.2.2.1 i) with
      | some v => some [(p, (S.1, v :: r, S.2.2.1, S.2.2.2))]
      | none => some [(p, (S.1, S.2.2.1.length :: r, S.2.2.1 ++ [(.inr none, none)], (S.2.2.2.1, (a, aLi S.2.2.1 i, S.2.2.1.length) :: S.2.2.2.2.1, S.2.2.2.2.2.1, S.2.2.2.2.2.2)))]) else none
    | _, _ => none)
  | _ => none
theorem aLl_ok {S : aS} {p : Nat} {L : List (Nat × aS)} (hb : aLl C S p = some L) {ρ : List jv} {lv : List (Option jv)} {st : List jv} {σ : Nat → jcell} (hc : aCx F (aHp C K n JX ρ0 σ0) K n S ρ lv st σ) (h : aNx F (aHp C K n JX ρ0 σ0) K n J ρ L) : jlald σ n st fun x r => J p lv (.inr (.inl x) :: r) σ := by
  unfold aLl at hb
  split at hb
  next i a r hs =>
    obtain ⟨w, v, s, rfl, h1, h2, h3⟩ := aSk_2 (hs ▸ hc.2.2.1)
    split at hb
    next A q hA hq =>
      obtain ⟨x, rfl, hx⟩ := aG_int (aTy_ok hc.1 hA h1)
      obtain ⟨b, rfl, h4, h5, h6, h7⟩ := aAr_ok hc.1 hc.2.2.2.2.1 hq h2
      obtain ⟨p9, m1, m2, m3, m4⟩ := hc.2.2.2.1
      split at hb
      next hz =>
        obtain ⟨z1, z3⟩ := hz
        rw [decide_eq_true_eq] at z1
        obtain ⟨g, e1⟩ := aCe_larr h7 z1
        have hi := aLi_ok hc.1 h1
        obtain ⟨i1, i2, i3⟩ := aBd_ok hc.1 m3 z3 hi
        simp only [jlald, e1]
        refine ⟨h4, z1, i1, ?_⟩
        split at hb
        next v9 hv9 =>
          cases hb
          obtain ⟨b9, m9, ty9, g9, i9, k1, k2, k3, k4, k5⟩ := m2 _ (aFc2_in hv9)
          dsimp only at k1 k4 k5
          rw [h2] at k1
          cases k1
          rw [e1] at k2
          obtain ⟨g8, rfl⟩ : ∃ g8, g9 = .inr g8 := by
            rcases g9 with g9 | g9
            · unfold aGc at k2
              cases k2
            · exact ⟨g9, rfl⟩
          unfold aGc at k2
          cases k2
          have e9 : i9 = x.toNatClampNeg := by
            have := aVa_f k4 hi
            replace this : (i9 : Int) = x.toInt := this
            omega
          subst e9
          exact aNx_in h List.mem_cons_self aX_rf ⟨hc.1, hc.2.1, ⟨k5, h3⟩, ⟨p9, m1, m2, m3, m4⟩, hc.2.2.2.2⟩
        next =>
          cases hb
          have hR2 := aR_push (t := .inr none) (r := none) (v := .inr (.inl (g x.toNatClampNeg))) hc.1 trivial trivial
          refine aNx_in h List.mem_cons_self aX_app ⟨hR2, hc.2.1.mo aX_app, ⟨aR_new hc.1, h3.mo aX_app⟩, ⟨p9, m1.mo aX_app, fun z hz => ?_, fun f hf => (m3 f hf).mo aX_app, m4.mo aX_app⟩, hc.2.2.2.2⟩
          rcases List.mem_cons.mp hz with rfl | hz
          · refine ⟨b, _, _, .inr g, x.toNatClampNeg, aX_app _ _ h2, e1, i2, ?_, aR_new hc.1⟩
            rw [i3]
            exact aVa_mo aX_app hi
          · exact (m2.mo aX_app) z hz
      next => cases hb
    next => cases hb
  next => cases hb
def aLs (C : aCf) (S : aS) (p : Nat) : Option (List (Nat × aS)) := match S.2.1 with
  | x :: i :: a :: r => (match aTy S.2.2.1 x, aTy S.2.2.1 i, aAr C.1 S.2.2.1 a with
    | some (.inr none), some (.inl _), some q => if decide (q.2.1 = .long) = true ∧ aBd S.2.2.1 S.2.2.2.2.2.1 (aLi S.2.2.1 i) q.2.2.1 = true ∧ ¬ q.1 ∈ C.2.2.1 ∧ aWr C S.2.2.1 S.2.2.2.2.2.1 q.1 (aLi S.2.2.1 i) = true then some [(p, (S.1, r, S.2.2.1, (S.2.2.2.1, (a, aLi S.2.2.1 i, x) :: S.2.2.2.2.1.filter (aCk S.2.2.1 q.1), S.2.2.2.2.2.1, S.2.2.2.2.2.2.filterMap (aPnd a i x) ++ S.2.2.2.2.2.2.filter (aFkl C.2.2.2.2.2.1 q.1))))] else none
    | _, _, _ => none)
  | _ => none
theorem aLs_ok (hJ : aJx K n C.2.2.1 JX) (hD : aDp F K n C.2.2.2.2.2.1) (hE : C.2.2.2.2.2.2 = ρ0.length) {S : aS} {p : Nat} {L : List (Nat × aS)} (hb : aLs C S p = some L) {ρ : List jv} (hx0 : aX ρ0 ρ) {lv : List (Option jv)} {st : List jv} {σ : Nat → jcell} (hc : aCx F (aHp C K n JX ρ0 σ0) K n S ρ lv st σ) (h : aNx F (aHp C K n JX ρ0 σ0) K n J ρ L) : jlast σ n st fun σ' r => J p lv r σ' := by
  unfold aLs at hb
  split at hb
  next x i a r hs =>
    obtain ⟨u, w, s, rfl, h0, h1, h3⟩ := aSk_2 (hs ▸ hc.2.2.1)
    obtain ⟨v, s8, rfl, h2, h8⟩ := aSk_1 h3
    split at hb
    next A q hB hA hq =>
      obtain ⟨y, rfl⟩ := aG_lng (aTy_ok hc.1 hB h0)
      obtain ⟨x, rfl, hx⟩ := aG_int (aTy_ok hc.1 hA h1)
      obtain ⟨b, rfl, h4, h5, h6, h7⟩ := aAr_ok hc.1 hc.2.2.2.2.1 hq h2
      split at hb
      next hz =>
        cases hb
        obtain ⟨z1, z3, z5, z8⟩ := hz
        rw [decide_eq_true_eq] at z1
        obtain ⟨p9, m1, m2, m3, m4⟩ := hc.2.2.2.1
        obtain ⟨g, e1⟩ := aCe_larr h7 z1
        have hi := aLi_ok hc.1 h1
        obtain ⟨i1, i2, i3⟩ := aBd_ok hc.1 m3 z3 hi
        simp only [jlast, e1]
        refine ⟨h4, z1, i1, ?_⟩
        obtain ⟨p1, p2, p3, p4⟩ := hc.2.2.2.2
        have hi2 : aVa ρ (aLi S.2.2.1 i) (x.toNatClampNeg : Int) := by rw [i3]; exact hi
        have hw := aWr_ok hc.1 hx0 hE m3 (by rw [← h5] at z8; exact z8) hi2
        refine aNx_in h List.mem_cons_self aX_rf ⟨hc.1, hc.2.1, h8, ⟨p9, aCa_arr m1 e1, fun z hz => ?_, m3, by rw [← h5]; exact aFx_app (by have q9 := aPndl_ok hD.2.1 m4 h2 h1 h0; unfold jstl at q9; rw [e1] at q9; exact q9) (aFkl_ok hD m4)⟩, aH_up p1 (fun d hd => ?_), (hJ _ _ h4 p2).1 _ (by rw [h5]; exact z5), aFr_arr p3 e1, aFa_lng p4 e1 hw⟩
        · rcases List.mem_cons.mp hz with rfl | hz
          · exact ⟨b, _, _, .inr (vp_updL g x.toNatClampNeg y), x.toNatClampNeg, h2, jup_s, i2, hi2, by show _ = (some (.inr (.inl (vp_updL g x.toNatClampNeg y x.toNatClampNeg))) : Option jv); rw [show vp_updL g x.toNatClampNeg y x.toNatClampNeg = y from by unfold vp_updL; rw [if_pos rfl]]; exact h0⟩
          · rw [← h5] at hz
            exact aCk_ok hc.1 m2 z hz
        rw [h6] at hd
        cases hd
        exact ⟨rfl, rfl, z1⟩
      next => cases hb
    next => cases hb
  next => cases hb
def aLen (C : aCf) (S : aS) (p : Nat) : Option (List (Nat × aS)) := match S.2.1 with
  | a :: r => (match aAr C.1 S.2.2.1 a with
    | some q => if q.2.1 ∈ jtys ∧ q.2.2.1 ≤ 2147483647 then some [(p, aPu S r (.inl ((q.2.2.1 : Int), (q.2.2.1 : Int))) (some ([], (q.2.2.1 : Int))))] else none
    | none => (match aTj C.2.1 S.2.2.1 a with
      | some q => if q.2.1 ≤ 2147483647 then some [(p, aPu S r (.inl ((q.2.1 : Int), (q.2.1 : Int))) (some ([], (q.2.1 : Int))))] else none
      | none => none))
  | _ => none
theorem aNi {k : Nat} (h : k ≤ 2147483647) : aIn ((k : Int), (k : Int)) (Int32.ofNat k) ∧ (Int32.ofNat k).toInt = (k : Int) := by
  have e : (Int32.ofNat k).toInt = (k : Int) := Int32.toInt_ofNat_of_lt (by omega)
  exact ⟨⟨by rw [e]; exact Int.le_refl _, by rw [e]; exact Int.le_refl _⟩, e⟩
theorem aNk {ρ : List jv} {k : Nat} (h : k ≤ 2147483647) : aRl ρ (some ([], (k : Int))) (.inl (Int32.ofNat k)) := by
  show aVa ρ _ (Int32.ofNat k).toInt
  rw [(aNi h).2]
  exact aVa_k _
theorem aLen_ok (hT : aTB C.2.1 tb) {S : aS} {p : Nat} {L : List (Nat × aS)} (hb : aLen C S p = some L) {ρ : List jv} {lv : List (Option jv)} {st : List jv} {σ : Nat → jcell} (hc : aCx F (aHp C K n JX ρ0 σ0) K n S ρ lv st σ) (h : aNx F (aHp C K n JX ρ0 σ0) K n J ρ L) : jalen tb σ n st fun x r => J p lv (.inl x :: r) σ := by
  unfold aLen at hb
  split at hb
  next a r hs =>
    obtain ⟨v, s, rfl, h2, h3⟩ := aSk_1 (hs ▸ hc.2.2.1)
    split at hb
    next q hq =>
      obtain ⟨b, rfl, h4, h5, h6, h7⟩ := aAr_ok hc.1 hc.2.2.2.2.1 hq h2
      split at hb
      next hz =>
        cases hb
        have hj := aPu_ok (t := .inl ((q.2.2.1 : Int), (q.2.2.1 : Int))) (v := .inl (Int32.ofNat q.2.2.1)) hc h3 (aNi hz.2).1 (aNk hz.2) h
        by_cases hl : q.2.1 = .long
        · obtain ⟨g, e1⟩ := aCe_larr h7 hl
          simp only [jalen, e1]
          exact ⟨h4, hz.1, hj⟩
        · obtain ⟨g, e1, -⟩ := aCe_arr h7 hl
          simp only [jalen, e1]
          exact ⟨h4, hz.1, hj⟩
      next => cases hb
    next =>
      split at hb
      next q hq =>
        split at hb
        next hz =>
          cases hb
          unfold aTj at hq
          split at hq
          next j hj =>
            split at hq
            next hlt =>
              obtain rfl := aG_tab hlt (aTy_ok hc.1 hj h2)
              obtain ⟨s1, s2, s3, g, e1, e2, e3⟩ := hT j q hq
              simp only [jalen, e1]
              exact aPu_ok (t := .inl ((q.2.1 : Int), (q.2.1 : Int))) (v := .inl (Int32.ofNat q.2.1)) hc h3 (aNi hz).1 (aNk hz) h
            next => cases hq
          next => cases hq
        next => cases hb
      next => cases hb
  next => cases hb
end ASH
