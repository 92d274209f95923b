/-! the picture: kinds of cells, rows read and written, fields read and written -/
def aFs (K : Nat → Nat) (n : Nat) (ts : List aT) (fs : List jv) : Prop := fs.length = ts.length ∧ ∀ (f : Nat) (t : aT) (v : jv), ts[f]? = some t → fs[f]? = some v → aG K n t v
def aCe (K : Nat → Nat) (n : Nat) (d : aKd) (c : jcell) : Prop := match d, c with
  | .inl q, .inl (t, m, .inl g) => t = q.1 ∧ m = q.2.1 ∧ ¬ q.1 = .long ∧ ∀ i, i < q.2.1 → aIn q.2.2 (g i)
  | .inl q, .inl (t, m, .inr (.inl _)) => t = q.1 ∧ m = q.2.1 ∧ q.1 = .long
  | .inr q, .inr (c, fs) => c = q.1 ∧ aFs K n q.2 fs
  | _, _ => False
def aH (T : List aKd) (K : Nat → Nat) (n : Nat) (σ : Nat → jcell) : Prop := ∀ a, a < n → ∀ d, T[K a]? = some d → aCe K n d (σ a)
def aFr (K : Nat → Nat) (n : Nat) (md : List (Nat × Nat)) (σ0 σ : Nat → jcell) : Prop := ∀ (a : Nat), a < n → ∀ (c : Nat) (fs : List jv), σ0 a = .inr (c, fs) → ∃ fs' : List jv, σ a = .inr (c, fs') ∧ ∀ (f : Nat) (v : jv), fs[f]? = some v → ¬ (K a, f) ∈ md → fs'[f]? = some v
def aHp (T : List aKd) (K : Nat → Nat) (n : Nat) (JX : (Nat → jcell) → Prop) (md : List (Nat × Nat)) (σ0 σ : Nat → jcell) : Prop := aH T K n σ ∧ JX σ ∧ aFr K n md σ0 σ
def aJx (K : Nat → Nat) (n : Nat) (Pk : List Nat) (JX : (Nat → jcell) → Prop) : Prop := ∀ (σ : Nat → jcell) (a : Nat) (x : jcell), a < n → ¬ K a ∈ Pk → JX σ → JX (jup σ a x)
def aTB (TB : List (FieldType × Nat × Int × Int)) (tb : jTb) : Prop := ∀ (j : Nat) (q : FieldType × Nat × Int × Int), TB[j]? = some q → ∃ (s1 s2 s3 : String) (g : Nat → Int32), tb j = some (s1, s2, s3, q.1, q.2.1, g) ∧ ∀ i, i < q.2.1 → aIn q.2.2 (g i)
theorem aCe_arr {K : Nat → Nat} {n : Nat} {q : FieldType × Nat × Int × Int} {c : jcell} (h : aCe K n (.inl q) c) (hq : ¬ q.1 = .long) : ∃ g, c = .inl (q.1, q.2.1, .inl g) ∧ ∀ i, i < q.2.1 → aIn q.2.2 (g i) := by
  rcases c with ⟨t, m, g | g | g⟩ | ⟨c, fs⟩
  · obtain ⟨rfl, rfl, -, h⟩ := h; exact ⟨g, rfl, h⟩
  · obtain ⟨-, -, h⟩ := h; exact absurd h hq
  · exact h.elim
  · exact h.elim
theorem aCe_larr {K : Nat → Nat} {n : Nat} {q : FieldType × Nat × Int × Int} {c : jcell} (h : aCe K n (.inl q) c) (hq : q.1 = .long) : ∃ g, c = .inl (q.1, q.2.1, .inr (.inl g)) := by
  rcases c with ⟨t, m, g | g | g⟩ | ⟨c, fs⟩
  · obtain ⟨-, -, h, -⟩ := h; exact absurd hq h
  · obtain ⟨rfl, rfl, h⟩ := h; exact ⟨g, rfl⟩
  · exact h.elim
  · exact h.elim
theorem aCe_obj {K : Nat → Nat} {n : Nat} {q : Nat × List aT} {c : jcell} (h : aCe K n (.inr q) c) : ∃ fs, c = .inr (q.1, fs) ∧ aFs K n q.2 fs := by
  rcases c with ⟨t, m, g | g | g⟩ | ⟨c, fs⟩
  · exact h.elim
  · exact h.elim
  · exact h.elim
  · obtain ⟨rfl, h⟩ := h; exact ⟨fs, rfl, h⟩
theorem aH_up {T : List aKd} {K : Nat → Nat} {n : Nat} {σ : Nat → jcell} (h : aH T K n σ) {a : Nat} {x : jcell} (hx : ∀ d, T[K a]? = some d → aCe K n d x) : aH T K n (jup σ a x) := by
  intro b hb d hd
  by_cases e : b = a
  · subst e; rw [jup_s]; exact hx d hd
  · rw [jup_n e]; exact h b hb d hd
theorem aFr_arr {K : Nat → Nat} {n : Nat} {md : List (Nat × Nat)} {σ0 σ : Nat → jcell} (h : aFr K n md σ0 σ) {a : Nat} {y z : FieldType × vp_A} (hy : σ a = .inl y) : aFr K n md σ0 (jup σ a (.inl z)) := by
  intro b hb c fs h0
  obtain ⟨fs', h1, h2⟩ := h b hb c fs h0
  refine ⟨fs', ?_, h2⟩
  by_cases e : b = a
  · subst e; rw [hy] at h1; cases h1
  · rw [jup_n e]; exact h1
theorem aCa_arr {ρ : List jv} {σ : Nat → jcell} {cc : List (Nat × Nat × Nat)} (h : aCa ρ σ cc) {a : Nat} {y z : FieldType × vp_A} (hy : σ a = .inl y) : aCa ρ (jup σ a (.inl z)) cc := by
  intro q hq
  obtain ⟨b, c, fs, v, h1, h2, h3, h4⟩ := h q hq
  refine ⟨b, c, fs, v, h1, ?_, h3, h4⟩
  by_cases e : b = a
  · subst e; rw [hy] at h2; cases h2
  · rw [jup_n e]; exact h2
theorem aIx_ok {A : Int × Int} {i : Int32} {len : Nat} (h : aIn A i) (h1 : 0 ≤ A.1) (h2 : A.2 < (len : Int)) : vp_in i len ∧ i.toNatClampNeg < len := by
  obtain ⟨a1, a2⟩ := h
  have e : i.toNatClampNeg = i.toInt.toNat := rfl
  have e2 : ¬ i < 0 := by
    rw [Int32.lt_iff_toInt_lt]
    have : (0 : Int32).toInt = 0 := by decide
    omega
  have e3 : i.toNatClampNeg < len := by omega
  exact ⟨fun q => q.elim e2 (fun q => by omega), e3⟩
/-- the range of what a row of a type keeps -/
def aRg (ty : FieldType) : Int × Int := match ty with
  | .int => a32
  | .byte => (-128, 127)
  | .boolean => (0, 1)
  | .char => (0, 65535)
  | _ => (1, 0)
theorem aRg_ok {ty : FieldType} {x : Int32} (h : aIn (aRg ty) x) : vp_nar ty x = x := by
  cases ty
  case int => rfl
  case byte =>
    obtain ⟨h1, h2⟩ := h
    show x.toInt8.toInt32 = x
    rw [← Int32.toInt_inj, Int8.toInt_toInt32, Int32.toInt_toInt8]
    dsimp only [aRg] at h1 h2
    exact Int.bmod_eq_of_le (by omega) (by omega)
  case boolean =>
    obtain ⟨h1, h2⟩ := h
    dsimp only [aRg] at h1 h2
    show x &&& 1 = x
    have e : x.toInt = 0 ∨ x.toInt = 1 := by omega
    rcases e with e | e
    · rw [aYc (y := x) (c := 0) (by rw [e]; rfl)]; decide
    · rw [aYc (y := x) (c := 1) (by rw [e]; rfl)]; decide
  case char =>
    obtain ⟨h1, h2⟩ := h
    dsimp only [aRg] at h1 h2
    obtain ⟨e1, e2⟩ := aNat (x := x) h1
    show x.toUInt32.toUInt16.toUInt32.toInt32 = x
    rw [← Int32.toBitVec_inj]
    apply BitVec.eq_of_toNat_eq
    show x.toUInt32.toUInt16.toUInt32.toNat = x.toBitVec.toNat
    rw [UInt16.toNat_toUInt32, UInt32.toNat_toUInt16]
    show x.toBitVec.toNat % 65536 = _
    omega
  all_goals
    obtain ⟨h1, h2⟩ := h
    dsimp only [aRg] at h1 h2
    exfalso
    omega
def aSb (A B : Int × Int) : Bool := decide (B.1 ≤ A.1) && decide (A.2 ≤ B.2)
theorem aSb_ok {A B : Int × Int} (h : aSb A B = true) {x : Int32} (hx : aIn A x) : aIn B x := by
  simp only [aSb, Bool.and_eq_true, decide_eq_true_eq] at h
  obtain ⟨h1, h2⟩ := hx
  exact ⟨by omega, by omega⟩
def aLe (t t' : aT) : Bool := match t, t' with
  | .inl A, .inl B => aSb A B
  | .inr none, .inr none => true
  | .inr (some (.inl q)), .inr (some (.inl q')) => decide (q.2 = q'.2) && (!q.1 || q'.1)
  | .inr (some (.inr i)), .inr (some (.inr j)) => decide (i = j)
  | _, _ => false
theorem aLe_ok {K : Nat → Nat} {n : Nat} {t t' : aT} (h : aLe t t' = true) {v : jv} (hv : aG K n t v) : aG K n t' v := by
  unfold aLe at h
  split at h
  · obtain ⟨x, rfl, hx⟩ := aG_int hv; exact aSb_ok h hx
  · exact hv
  · next q q' =>
    simp only [Bool.and_eq_true, decide_eq_true_eq, Bool.or_eq_true] at h
    rcases aG_ref hv with ⟨e, rfl⟩ | ⟨a, rfl, h1, h2⟩
    · rcases h.2 with h3 | h3
      · rw [e] at h3; cases h3
      · exact h3
    · exact ⟨h1, h2.trans h.1⟩
  · rw [decide_eq_true_eq] at h; subst h; exact hv
  · cases h
section ASH
variable {K : Nat → Nat} {n : Nat} {J : jN} {T : List aKd} {TB : List (FieldType × Nat × Int × Int)} {tb : jTb} {JX : (Nat → jcell) → Prop} {md : List (Nat × Nat)} {Pk : List Nat} {σ0 : Nat → jcell}
def aKi (env : List aE) (o : Nat) : Option Nat := match aTy env o with
  | some (.inr (some (.inl (false, k)))) => some k
  | _ => none
theorem aKi_ok {env : List aE} {ρ : List jv} (h : aR K n env ρ) {o k : Nat} (hk : aKi env o = some k) {v : jv} (hv : ρ[o]? = some v) : ∃ a, v = .inr (.inr (some (.inl a))) ∧ a < n ∧ K a = k := by
  unfold aKi at hk
  split at hk
  next k1 hq => cases hk; exact aG_obj (aTy_ok h hq hv)
  next => cases hk
def aAr (T : List aKd) (env : List aE) (a : Nat) : Option (Nat × FieldType × Nat × Int × Int) := match aKi env a with
  | some k => (match T[k]? with
    | some (.inl q) => some (k, q)
    | _ => none)
  | none => none
theorem aAr_ok {env : List aE} {ρ : List jv} (h : aR K n env ρ) {σ : Nat → jcell} (hH : aH T K n σ) {o : Nat} {q : Nat × FieldType × Nat × Int × Int} (hq : aAr T env o = some q) {v : jv} (hv : ρ[o]? = some v) : ∃ a, v = .inr (.inr (some (.inl a))) ∧ a < n ∧ K a = q.1 ∧ T[K a]? = some (.inl q.2) ∧ aCe K n (.inl q.2) (σ a) := by
  unfold aAr at hq
  split at hq
  next k hk =>
    split at hq
    next d hd =>
      cases hq
      obtain ⟨a, rfl, h1, h2⟩ := aKi_ok h hk hv
      subst h2
      exact ⟨a, rfl, h1, rfl, hd, hH a h1 _ hd⟩
    next => cases hq
  next => cases hq
def aTj (TB : List (FieldType × Nat × Int × Int)) (env : List aE) (a : Nat) : Option (FieldType × Nat × Int × Int) := match aTy env a with
  | some (.inr (some (.inr j))) => TB[j]?
  | _ => none
/-- a row of ints, bytes, chars or booleans is read -/
def aAl (T : List aKd) (TB : List (FieldType × Nat × Int × Int)) (ty : FieldType) (S : aS) (p : Nat) : Option (List (Nat × aS)) := match S.2.1 with
  | i :: a :: r => (match aTy S.2.2.1 i with
    | some (.inl A) => (match aAr T S.2.2.1 a with
      | some q => if decide (q.2.1 = ty) = true ∧ ¬ ty = .long ∧ 0 ≤ A.1 ∧ A.2 < (q.2.2.1 : Int) then some [(p, aPu S r (.inl q.2.2.2) none)] else none
      | none => (match aTj TB S.2.2.1 a with
        | some q => if decide (q.1 = ty) = true ∧ 0 ≤ A.1 ∧ A.2 < (q.2.1 : Int) then some [(p, aPu S r (.inl q.2.2) none)] else none
        | none => none))
    | _ => none)
  | _ => none
theorem aAl_ok (hT : aTB TB tb) {ty : FieldType} {S : aS} {p : Nat} {L : List (Nat × aS)} (hb : aAl T TB ty S p = some L) {ρ : List jv} {lv : List (Option jv)} {st : List jv} {σ : Nat → jcell} (hc : aCx (aHp T K n JX md σ0) K n S ρ lv st σ) (h : aNx (aHp T K n JX md σ0) K n J ρ L) : jald tb σ n ty st fun x r => J p lv (.inl x :: r) σ := by
  unfold aAl at hb
  split at hb
  next i a r hs =>
    obtain ⟨w, v, s, rfl, h1, h2, h3⟩ := aSk_2 (hs ▸ hc.2.2.1)
    split at hb
    next A hA =>
      obtain ⟨x, rfl, hx⟩ := aG_int (aTy_ok hc.1 hA h1)
      split at hb
      next q hq =>
        obtain ⟨b, rfl, h4, h5, h6, h7⟩ := aAr_ok hc.1 hc.2.2.2.2.1 hq h2
        split at hb
        next hz =>
          cases hb
          obtain ⟨z1, z2, z3, z4⟩ := hz
          rw [decide_eq_true_eq] at z1
          subst z1
          obtain ⟨g, e1, e2⟩ := aCe_arr h7 z2
          obtain ⟨i1, i2⟩ := aIx_ok hx z3 z4
          simp only [jald, e1]
          exact ⟨h4, trivial, i1, aPu_ok (t := .inl q.2.2.2) (v := .inl (g x.toNatClampNeg)) (r := none) hc h3 (e2 _ i2) trivial h⟩
        next => cases hb
      next =>
        split at hb
        next q hq =>
          split at hb
          next hz =>
            cases hb
            obtain ⟨z1, z3, z4⟩ := hz
            rw [decide_eq_true_eq] at z1
            subst z1
            unfold aTj at hq
            split at hq
            next j hj =>
              obtain rfl := aG_tab (aTy_ok hc.1 hj h2)
              obtain ⟨s1, s2, s3, g, e1, e2⟩ := hT j q hq
              obtain ⟨i1, i2⟩ := aIx_ok hx z3 z4
              simp only [jald, e1]
              exact ⟨trivial, i1, aPu_ok (t := .inl q.2.2) (v := .inl (g x.toNatClampNeg)) (r := none) hc h3 (e2 _ i2) trivial h⟩
            next => cases hq
          next => cases hb
        next => cases hb
    next => cases hb
  next => cases hb
/-- a row is written -/
def aAs (T : List aKd) (Pk : List Nat) (ty : FieldType) (S : aS) (p : Nat) : Option (List (Nat × aS)) := match S.2.1 with
  | x :: i :: a :: r => (match aTy S.2.2.1 x, aTy S.2.2.1 i, aAr T S.2.2.1 a with
    | some (.inl B), some (.inl A), some q => if decide (q.2.1 = ty) = true ∧ ¬ ty = .long ∧ 0 ≤ A.1 ∧ A.2 < (q.2.2.1 : Int) ∧ ¬ q.1 ∈ Pk ∧ aSb B q.2.2.2 = true ∧ aSb B (aRg ty) = true then some [(p, (S.1, r, S.2.2.1, S.2.2.2))] else none
    | _, _, _ => none)
  | _ => none
theorem aAs_ok (hJ : aJx K n Pk JX) {ty : FieldType} {S : aS} {p : Nat} {L : List (Nat × aS)} (hb : aAs T Pk ty S p = some L) {ρ : List jv} {lv : List (Option jv)} {st : List jv} {σ : Nat → jcell} (hc : aCx (aHp T K n JX md σ0) K n S ρ lv st σ) (h : aNx (aHp T K n JX md σ0) K n J ρ L) : jast σ n ty st fun σ' r => J p lv r σ' := by
  unfold aAs at hb
  split at hb
  next x i a r hs =>
    obtain ⟨u, w, s, rfl, h0, h1, h3⟩ := aSk_2 (hs ▸ hc.2.2.1)
    obtain ⟨v, s8, rfl, h2, h8⟩ := aSk_1 h3
    split at hb
    next B A q hB hA hq =>
      obtain ⟨y, rfl, hy⟩ := aG_int (aTy_ok hc.1 hB h0)
      obtain ⟨x, rfl, hx⟩ := aG_int (aTy_ok hc.1 hA h1)
      obtain ⟨b, rfl, h4, h5, h6, h7⟩ := aAr_ok hc.1 hc.2.2.2.2.1 hq h2
      split at hb
      next hz =>
        cases hb
        obtain ⟨z1, z2, z3, z4, z5, z6, z7⟩ := hz
        rw [decide_eq_true_eq] at z1
        subst z1
        obtain ⟨g, e1, e2⟩ := aCe_arr h7 z2
        obtain ⟨i1, i2⟩ := aIx_ok hx z3 z4
        simp only [jast, e1]
        refine ⟨h4, trivial, i1, ?_⟩
        rw [aRg_ok (aSb_ok z7 hy)]
        obtain ⟨p1, p2, p3⟩ := hc.2.2.2.2
        refine aNx_in h List.mem_cons_self aX_rf ⟨hc.1, hc.2.1, h8, aCa_arr hc.2.2.2.1 e1, aH_up p1 (fun d hd => ?_), hJ _ _ _ h4 (by rw [h5]; exact z5) p2, aFr_arr p3 e1⟩
        rw [h6] at hd
        cases hd
        refine ⟨rfl, rfl, z2, fun k hk => ?_⟩
        unfold upd
        split
        · exact aSb_ok z6 hy
        · exact e2 k hk
      next => cases hb
    next => cases hb
  next => cases hb
def aFind (cc : List (Nat × Nat × Nat)) (o f : Nat) : Option Nat := match cc with
  | [] => none
  | q :: r => if q.1 = o ∧ q.2.1 = f then some q.2.2 else aFind r o f
theorem aFind_in : ∀ {cc : List (Nat × Nat × Nat)} {o f v : Nat}, aFind cc o f = some v → (o, f, v) ∈ cc
  | [], _, _, _, h => by cases h
  | q :: r, o, f, v, h => by
    unfold aFind at h
    split at h
    next hq =>
      cases h
      obtain ⟨rfl, rfl⟩ := hq
      exact List.mem_cons_self
    next => exact List.mem_cons_of_mem _ (aFind_in h)
def aOb (T : List aKd) (env : List aE) (o ci f : Nat) : Option (Nat × aT) := match aKi env o with
  | some k => (match T[k]? with
    | some (.inr q) => if q.1 = ci then (match q.2[f]? with
      | some t => some (k, t)
      | none => none) else none
    | _ => none)
  | none => none
theorem aOb_ok {env : List aE} {ρ : List jv} (h : aR K n env ρ) {σ : Nat → jcell} (hH : aH T K n σ) {o ci f : Nat} {q : Nat × aT} (hq : aOb T env o ci f = some q) {v : jv} (hv : ρ[o]? = some v) : ∃ (a : Nat) (fs : List jv) (ts : List aT), v = .inr (.inr (some (.inl a))) ∧ a < n ∧ K a = q.1 ∧ T[K a]? = some (.inr (ci, ts)) ∧ ts[f]? = some q.2 ∧ σ a = .inr (ci, fs) ∧ aFs K n ts fs := by
  unfold aOb at hq
  split at hq
  next k hk =>
    split at hq
    next d hd =>
      split at hq
      next hci =>
        split at hq
        next t ht =>
          cases hq
          obtain ⟨a, rfl, h1, h2⟩ := aKi_ok h hk hv
          subst h2
          obtain ⟨fs, e1, e2⟩ := aCe_obj (hH a h1 _ hd)
          rw [hci] at e1
          exact ⟨a, fs, d.2, rfl, h1, rfl, by rw [hd, ← hci], ht, e1, e2⟩
        next => cases hq
      next => cases hq
    next => cases hq
  next => cases hq
/-- a field is read -/
def aGet (T : List aKd) (ci f : Nat) (S : aS) (p : Nat) : Option (List (Nat × aS)) := match S.2.1 with
  | o :: r => (match aOb T S.2.2.1 o ci f with
    | some q => (match aFind S.2.2.2 o f with
      | some v => some [(p, (S.1, v :: r, S.2.2.1, S.2.2.2))]
      | none => some [(p, (S.1, S.2.2.1.length :: r, S.2.2.1 ++ [(q.2, none)], (o, f, S.2.2.1.length) :: S.2.2.2))])
    | none => none)
  | _ => none
theorem aGet_ok {ci f : Nat} {S : aS} {p : Nat} {L : List (Nat × aS)} (hb : aGet T ci f S p = some L) {ρ : List jv} {lv : List (Option jv)} {st : List jv} {σ : Nat → jcell} (hc : aCx (aHp T K n JX md σ0) K n S ρ lv st σ) (h : aNx (aHp T K n JX md σ0) K n J ρ L) : jget σ n ci f st fun v r => J p lv (v :: r) σ := by
  unfold aGet at hb
  split at hb
  next o r hs =>
    obtain ⟨w, s, rfl, h1, h2⟩ := aSk_1 (hs ▸ hc.2.2.1)
    split at hb
    next q hq =>
      obtain ⟨a, fs, ts, rfl, k1, k2, k3, k4, k5, k6⟩ := aOb_ok hc.1 hc.2.2.2.2.1 hq h1
      have hl : f < fs.length := by rw [k6.1]; exact (List.getElem?_eq_some_iff.mp k4).1
      have hv : fs[f]? = some fs[f] := List.getElem?_eq_getElem hl
      simp only [jget, k5, hv]
      refine ⟨k1, trivial, ?_⟩
      split at hb
      next v9 hf =>
        cases hb
        obtain ⟨b, c, fs1, v, m1, m2, m3, m4⟩ := hc.2.2.2.1 _ (aFind_in hf)
        dsimp only at m1 m3 m4
        rw [h1] at m1
        cases m1
        rw [k5] at m2
        cases m2
        rw [hv] at m3
        cases m3
        exact aNx_in h List.mem_cons_self aX_rf ⟨hc.1, hc.2.1, ⟨m4, h2⟩, hc.2.2.2.1, hc.2.2.2.2⟩
      next hf =>
        cases hb
        have hR2 := aR_push (r := none) (v := fs[f]) hc.1 (k6.2 f _ _ k4 hv) trivial
        refine aNx_in h List.mem_cons_self aX_app ⟨hR2, hc.2.1.mo aX_app, ⟨aR_new hc.1, h2.mo aX_app⟩, fun z hz => ?_, hc.2.2.2.2⟩
        rcases List.mem_cons.mp hz with rfl | hz
        · exact ⟨a, ci, fs, fs[f], aX_app _ _ h1, k5, hv, aR_new hc.1⟩
        · exact (hc.2.2.2.1.mo aX_app) z hz
    next => cases hb
  next => cases hb
def aFit2 (kd : Nat) (t : aT) : Bool := match kd, t with
  | 0, .inl _ => true
  | 1, .inl A => aSb A (0, 1)
  | 2, .inr none => true
  | 3, .inr (some _) => true
  | _, _ => false
theorem aFit2_ok {kd : Nat} {t : aT} (h : aFit2 kd t = true) {v : jv} (hv : aG K n t v) : jfit kd v := by
  unfold aFit2 at h
  split at h
  · obtain ⟨x, rfl, -⟩ := aG_int hv; trivial
  · obtain ⟨x, rfl, hx⟩ := aG_int hv
    obtain ⟨h1, h2⟩ := aSb_ok h hx
    dsimp only at h1 h2
    have e : x.toInt = 0 ∨ x.toInt = 1 := by omega
    show x = 0 ∨ x = 1
    rcases e with e | e
    · left; rw [← Int32.toInt_inj, e]; decide
    · right; rw [← Int32.toInt_inj, e]; decide
  · obtain ⟨x, rfl⟩ := aG_lng hv; trivial
  · next q =>
    rcases v with x | x | x
    · rcases q with q | q <;> exact hv.elim
    · rcases q with q | q <;> exact hv.elim
    · trivial
  · cases h
def aDrop (env : List aE) (k f : Nat) (q : Nat × Nat × Nat) : Bool := match aKi env q.1 with
  | some k1 => decide (¬ (k1 = k ∧ q.2.1 = f))
  | none => false
/-- a field is written -/
def aPut (T : List aKd) (Pk : List Nat) (md : List (Nat × Nat)) (ci f kd : Nat) (S : aS) (p : Nat) : Option (List (Nat × aS)) := match S.2.1 with
  | v :: o :: r => (match aOb T S.2.2.1 o ci f, aTy S.2.2.1 v with
    | some q, some tv => if aLe tv q.2 = true ∧ aFit2 kd tv = true ∧ ¬ q.1 ∈ Pk ∧ (q.1, f) ∈ md then some [(p, (S.1, r, S.2.2.1, (o, f, v) :: S.2.2.2.filter (aDrop S.2.2.1 q.1 f)))] else none
    | _, _ => none)
  | _ => none
theorem aPut_ok (hJ : aJx K n Pk JX) {ci f kd : Nat} {S : aS} {p : Nat} {L : List (Nat × aS)} (hb : aPut T Pk md ci f kd S p = some L) {ρ : List jv} {lv : List (Option jv)} {st : List jv} {σ : Nat → jcell} (hc : aCx (aHp T K n JX md σ0) K n S ρ lv st σ) (h : aNx (aHp T K n JX md σ0) K n J ρ L) : jput σ n ci f kd st fun σ' r => J p lv r σ' := by
  unfold aPut at hb
  split at hb
  next v o r hs =>
    obtain ⟨u, w, s, rfl, h0, h1, h3⟩ := aSk_2 (hs ▸ hc.2.2.1)
    split at hb
    next q tv hq ht =>
      split at hb
      next hz =>
        cases hb
        obtain ⟨z1, z2, z3, z4⟩ := hz
        obtain ⟨a, fs, ts, rfl, k1, k2, k3, k4, k5, k6⟩ := aOb_ok hc.1 hc.2.2.2.2.1 hq h1
        have hl : f < fs.length := by rw [k6.1]; exact (List.getElem?_eq_some_iff.mp k4).1
        have hg := aTy_ok hc.1 ht h0
        simp only [jput, k5]
        refine ⟨k1, trivial, hl, aFit2_ok z2 hg, ?_⟩
        obtain ⟨p1, p2, p3⟩ := hc.2.2.2.2
        refine aNx_in h List.mem_cons_self aX_rf ⟨hc.1, hc.2.1, h3, fun z hz => ?_, aH_up p1 (fun d hd => ?_), hJ _ _ _ k1 (by rw [k2]; exact z3) p2, fun b hb c fs0 h0' => ?_⟩
        · rcases List.mem_cons.mp hz with rfl | hz
          · exact ⟨a, ci, fs.set f u, u, h1, jup_s, List.getElem?_set_self hl, h0⟩
          · obtain ⟨hz1, hz2⟩ := List.mem_filter.mp hz
            obtain ⟨b, c, fs1, v1, m1, m2, m3, m4⟩ := hc.2.2.2.1 z hz1
            by_cases e : b = a
            · subst e
              rw [k5] at m2
              cases m2
              unfold aDrop at hz2
              split at hz2
              next k9 hk9 =>
                rw [decide_eq_true_eq] at hz2
                obtain ⟨b2, e2, -, e3⟩ := aKi_ok hc.1 hk9 m1
                cases e2
                have hne : ¬ z.2.1 = f := fun q9 => hz2 ⟨by rw [← e3, k2], q9⟩
                exact ⟨b, ci, fs.set f u, v1, m1, jup_s, by rw [List.getElem?_set_ne (fun q9 => hne q9.symm)]; exact m3, m4⟩
              next => cases hz2
            · exact ⟨b, c, fs1, v1, m1, by rw [jup_n e]; exact m2, m3, m4⟩
        · rw [k3] at hd
          cases hd
          refine ⟨rfl, by rw [List.length_set]; exact k6.1, fun g t v1 hg1 hv1 => ?_⟩
          by_cases e : g = f
          · subst e
            rw [List.getElem?_set_self hl] at hv1
            cases hv1
            rw [k4] at hg1
            cases hg1
            exact aLe_ok z1 hg
          · rw [List.getElem?_set_ne (fun q9 => e q9.symm)] at hv1
            exact k6.2 g t v1 hg1 hv1
        · obtain ⟨fs', m1, m2⟩ := p3 b hb c fs0 h0'
          by_cases e : b = a
          · subst e
            rw [k5] at m1
            cases m1
            refine ⟨fs.set f u, jup_s, fun g v1 hg1 hn1 => ?_⟩
            have hne : ¬ g = f := fun q9 => hn1 (by rw [q9, k2]; exact z4)
            rw [List.getElem?_set_ne (fun q9 => hne q9.symm)]
            exact m2 g v1 hg1 hn1
          · exact ⟨fs', by rw [jup_n e]; exact m1, m2⟩
      next => cases hb
    next => cases hb
  next => cases hb
end ASH
