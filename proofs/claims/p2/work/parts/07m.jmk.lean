/-! pictures of what a constructor has made: its object at a, and the cells that came behind n -/
def jz : jcell := .inl (.int, 0, .inl fun _ => 0)
def jmk (σ : Nat → jcell) (a n : Nat) (o : jcell) (cs : List jcell) : Nat → jcell := fun p => if p = a then o else if p < n then σ p else cs.getD (p - n) jz
theorem jmk_a {σ : Nat → jcell} {a n : Nat} {o : jcell} {cs : List jcell} : jmk σ a n o cs a = o := if_pos rfl
theorem jmk_put {σ : Nat → jcell} {a n : Nat} {o x : jcell} {cs : List jcell} : jup (jmk σ a n o cs) a x = jmk σ a n x cs := by
  funext p
  by_cases h : p = a
  · subst h
    rw [jup_s, jmk_a]
  · rw [jup_n h]
    unfold jmk
    rw [if_neg h, if_neg h]
theorem jmk_lo {σ : Nat → jcell} {a n p : Nat} {o : jcell} {cs : List jcell} (h : p < n) (hp : p ≠ a) : jmk σ a n o cs p = σ p := by
  unfold jmk
  rw [if_neg hp, if_pos h]
theorem jmk_at {σ : Nat → jcell} {a n k : Nat} {o c : jcell} {cs : List jcell} (ha : a < n) (h : cs[k]? = some c) : jmk σ a n o cs (n + k) = c := by
  unfold jmk
  rw [if_neg (by omega), if_neg (by omega), Nat.add_sub_cancel_left]
  simp [List.getD, h]
theorem jmk_add {σ : Nat → jcell} {a n k : Nat} {o c : jcell} {cs : List jcell} (ha : a < n) (hk : n + cs.length = k) : jup (jmk σ a n o cs) k c = jmk σ a n o (cs ++ [c]) := by
  subst hk
  funext p
  by_cases h : p = n + cs.length
  · subst h
    rw [jup_s, jmk_at (c := c) ha (by simp)]
  · rw [jup_n h]
    unfold jmk
    by_cases h1 : p = a
    · rw [if_pos h1, if_pos h1]
    · rw [if_neg h1, if_neg h1]
      by_cases h2 : p < n
      · rw [if_pos h2, if_pos h2]
      · rw [if_neg h2, if_neg h2]
        simp only [List.getD]
        by_cases h3 : p - n < cs.length
        · rw [List.getElem?_append_left h3]
        · rw [List.getElem?_eq_none (by omega), List.getElem?_eq_none (by simp; omega)]
theorem jmk_nest {σ : Nat → jcell} {a n b m : Nat} {o x y : jcell} {cs ds : List jcell} (ha : a < n) (hb : n + cs.length = b) (hm : b + 1 = m) : jmk (jmk σ a n o (cs ++ [x])) b m y ds = jmk σ a n o (cs ++ y :: ds) := by
  subst hb; subst hm
  funext p
  by_cases h : p = n + cs.length
  · subst h
    rw [jmk_a, jmk_at (c := y) ha (by simp)]
  · by_cases h1 : p < n + cs.length
    · rw [jmk_lo (by omega) h]
      unfold jmk
      by_cases h2 : p = a
      · rw [if_pos h2, if_pos h2]
      · rw [if_neg h2, if_neg h2]
        by_cases h3 : p < n
        · rw [if_pos h3, if_pos h3]
        · rw [if_neg h3, if_neg h3]
          simp only [List.getD]
          rw [List.getElem?_append_left (by omega), List.getElem?_append_left (by omega)]
    · have e1 : jmk (jmk σ a n o (cs ++ [x])) (n + cs.length) (n + cs.length + 1) y ds p = ds.getD (p - (n + cs.length + 1)) jz := by
        conv => lhs; unfold jmk
        rw [if_neg h, if_neg (by omega)]
      rw [e1]
      unfold jmk
      rw [if_neg (by omega), if_neg (by omega)]
      simp only [List.getD]
      rw [List.getElem?_append_right (by omega)]
      rw [show p - n - cs.length = (p - (n + cs.length + 1)) + 1 by omega, List.getElem?_cons_succ]
section JMK
variable {E : jE} {own : String} {Ts : List Jvm.Cond} {cl : List vw_C} {tb : jTb} {nL : Nat} {ini : Bool} {cc : ByteArray} {M : jM} {Q : State → Prop} {n cells slots : Nat}
theorem jJ_congr {pc : Nat} {lv : List (Option jv)} {st : List jv} {σ σ2 : Nat → jcell} (h : ∀ k, k < n → σ k = σ2 k) (hj : jJ E cl nL M Q n cells slots pc lv st σ2) : jJ E cl nL M Q n cells slots pc lv st σ := fun H locs ls hW hS hL => hj H locs ls ⟨hW.1, fun k hk hq => by rw [← h k hk]; exact hW.2 k hk (by rw [h k hk]; exact hq)⟩ hS hL
theorem jmk_in {pc a : Nat} {lv : List (Option jv)} {st : List jv} {σ : Nat → jcell} {o : jcell} (h : σ a = o) (hj : jJ E cl nL M Q n cells slots pc lv st (jmk σ a n o [])) : jJ E cl nL M Q n cells slots pc lv st σ := jJ_congr (fun k hk => by
  by_cases hka : k = a
  · subst hka; rw [jmk_a]; exact h
  · rw [jmk_lo hk hka]) hj
theorem jc_na (X : jX E own Ts cl tb nL ini cc M) {rm : Room} (hR : M.2.2.2.1 = rm) {pc w1 : Nat} {at1 : ArrayType} (hd : decode cc pc = .ok (.newarray at1, 2)) {ty : FieldType} (hty : newarray.typeOf at1 = ty) (h1 : Ts[w1]? = some (Jvm.Cond.arrayClass ty)) (hin : ty ∈ jtys) {lv : List (Option jv)} {r : List jv} {σ : Nat → jcell} {k : Int32} (hk : ¬ k < 0) (N : Nat) (hN : k.toNatClampNeg = N) (hby : N * 8 ≤ 536870912) {z : vp_A} (hz : jzero at1 N = z) {a n0 : Nat} {o : jcell} {cs : List jcell} (cs' : List jcell) (ha : a < n0) (hcs : cs ++ [.inl (ty, z)] = cs') (hn : n0 + cs.length = n) {n' c' s' : Nat} (hn' : n + 1 = n') (hc' : cells + 1 = c') (hs' : slots + N = s') (hc : c' ≤ rm.cells ∧ s' ≤ rm.slots) {pc' : Nat} (hp : pc + 2 = pc')
    (kk : jJ E cl nL M Q n' c' s' pc' lv (.inr (.inr (some (.inl n))) :: r) (jmk σ a n0 o cs')) : jJ E cl nL M Q n cells slots pc lv (.inl k :: r) (jmk σ a n0 o cs) := by
  refine jk_na X hR hd hty h1 hin hk N hN hby hz hn' hc' hs' hc hp ?_
  rw [jmk_add ha hn, hcs]
  exact kk
theorem jc_nw (hC : jCl Ts cl) (X : jX E own Ts cl tb nL ini cc M) {rm : Room} (hR : M.2.2.2.1 = rm) {pc i w1 w2 w3 ci : Nat} (hd : decode cc pc = .ok (.new i, 3)) {q : vw_C} (hq : cl[ci]? = some q) (h1 : Ts[w1]? = some (Jvm.Cond.classLink own i q.1)) (h2 : Ts[w2]? = some (Jvm.Cond.instantiable q.1 q.2.2)) (h3 : Ts[w3]? = some (Jvm.Cond.initialized q.1)) (h9 : ((List.range q.2.2).all fun j => decide (jkd (parseFieldDescriptor (q.2.1 j).2.2.1) ≠ 9)) = true) {fs : List jv} (hfs : jnew q = fs) {lv : List (Option jv)} {r : List jv} {σ : Nat → jcell} {a n0 : Nat} {o : jcell} {cs : List jcell} (ha : a < n0) (hn : n0 + cs.length = n) {n' c' s' : Nat} (hn' : n + 1 = n') (hc' : cells + 1 = c') (hs' : slots + q.2.2 = s') (hc : c' ≤ rm.cells ∧ s' ≤ rm.slots) {pc' : Nat} (hp : pc + 3 = pc')
    (kk : jJ E cl nL M Q n' c' s' pc' lv (.inr (.inr (some (.inl n))) :: r) (jmk σ a n0 o (cs ++ [.inr (ci, fs)]))) : jJ E cl nL M Q n cells slots pc lv r (jmk σ a n0 o cs) := by
  refine jk_nw hC X hR hd hq h1 h2 h3 h9 hfs hn' hc' hs' hc hp ?_
  rw [jmk_add ha hn]
  exact kk
end JMK
