/-! the reference's tables of endings: lines of men, counts, zero bits -/
def rJq (a b : Int) : Bool := decide (b % 8 = a % 8) || decide (b / 8 = a / 8) || decide (b % 8 - a % 8 = b / 8 - a / 8) || decide (b % 8 - a % 8 = a / 8 - b / 8) || decide ((b % 8 - a % 8) * (b % 8 - a % 8) + (b / 8 - a / 8) * (b / 8 - a / 8) = 5)
def rJn (a b : Int) : Bool := decide (-1 ≤ b % 8 - a % 8) && decide (b % 8 - a % 8 ≤ 1) && decide (-1 ≤ b / 8 - a / 8) && decide (b / 8 - a / 8 ≤ 1)
def rJc (f : Int → Bool) : Nat → Int
  | 0 => 0
  | k + 1 => rJc f k + (if f (k : Int) = true then 1 else 0)
theorem rJc_s {f : Int → Bool} {k : Nat} : rJc f k ≤ rJc f (k + 1) := by
  show rJc f k ≤ rJc f k + (if f (k : Int) = true then 1 else 0)
  split <;> omega
theorem rJc_le {f : Int → Bool} {a b : Nat} (h : a ≤ b) : rJc f a ≤ rJc f b := by
  induction b with
  | zero => rw [show a = 0 by omega]; exact Int.le_refl _
  | succ b ih =>
    by_cases c : a = b + 1
    · rw [c]; exact Int.le_refl _
    · exact Int.le_trans (ih (by omega)) rJc_s
theorem rJc_0 {f : Int → Bool} {a : Nat} : 0 ≤ rJc f a := rJc_le (a := 0) (Nat.zero_le a)
theorem rJc_t {f : Int → Bool} {t : Int} (h : 0 ≤ t) : rJc f (t + 1).toNat = rJc f t.toNat + (if f t = true then 1 else 0) := by
  rw [show (t + 1).toNat = t.toNat + 1 by omega]
  show rJc f t.toNat + (if f ((t.toNat : Nat) : Int) = true then 1 else 0) = _
  rw [show ((t.toNat : Nat) : Int) = t by omega]
theorem rJn_9 : ∀ x : Fin 64, rJc (rJn (x.val : Int)) 64 ≤ 9 := by decide +kernel
theorem rJq_36 : ∀ x : Fin 64, rJc (rJq (x.val : Int)) 64 ≤ 36 := by decide +kernel
theorem rJn_b {x : Int} {a : Nat} (h0 : 0 ≤ x) (h1 : x ≤ 63) (ha : a ≤ 64) : rJc (rJn x) a ≤ 9 := by
  have h := rJn_9 ⟨x.toNat, by omega⟩
  dsimp only at h
  rw [show ((x.toNat : Nat) : Int) = x by omega] at h
  exact Int.le_trans (rJc_le ha) h
theorem rJq_b {x : Int} {a : Nat} (h0 : 0 ≤ x) (h1 : x ≤ 63) (ha : a ≤ 64) : rJc (rJq x) a ≤ 36 := by
  have h := rJq_36 ⟨x.toNat, by omega⟩
  dsimp only at h
  rw [show ((x.toNat : Nat) : Int) = x by omega] at h
  exact Int.le_trans (rJc_le ha) h
def rJb (k m fr to : Int) : Int := (if k < fr then 9 else if k = fr then rJc (rJn k) to.toNat else 0) + (if m < fr then 39 else if m = fr then rJc (rJq m) to.toNat + (if m + 8 < to then 3 else 0) else 0)
theorem rJb_s {k m fr to : Int} (h : 0 ≤ to) : rJb k m fr to ≤ rJb k m fr (to + 1) := by
  unfold rJb
  have h1 := rJc_t (f := rJn k) h
  have h2 := rJc_t (f := rJq m) h
  rw [h1, h2]
  split <;> split <;> (repeat' split) <;> omega
theorem rJb_k {k m fr to : Int} (h : 0 ≤ to) (e : fr = k) (hn : rJn k to = true) : rJb k m fr to + 1 ≤ rJb k m fr (to + 1) := by
  unfold rJb
  have h1 := rJc_t (f := rJn k) h
  have h2 := rJc_t (f := rJq m) h
  rw [h1, h2, if_pos hn]
  subst e
  rw [if_neg (show ¬ fr < fr by omega), if_pos rfl, if_neg (show ¬ fr < fr by omega), if_pos rfl]
  (repeat' split) <;> omega
theorem rJb_m {k m fr to : Int} (h : 0 ≤ to) (e : fr = m) (hn : rJq m to = true) : rJb k m fr to + 1 ≤ rJb k m fr (to + 1) := by
  unfold rJb
  have h1 := rJc_t (f := rJn k) h
  have h2 := rJc_t (f := rJq m) h
  rw [h1, h2, if_pos hn]
  subst e
  rw [if_neg (show ¬ fr < fr by omega), if_pos rfl, if_neg (show ¬ fr < fr by omega), if_pos rfl]
  (repeat' split) <;> omega
theorem rJq_8 {m : Int} : rJq m (m + 8) = true := by
  unfold rJq
  rw [show decide ((m + 8) % 8 = m % 8) = true from decide_eq_true (by omega)]
  rfl
theorem rJq_16 {m : Int} : rJq m (m + 16) = true := by
  unfold rJq
  rw [show decide ((m + 16) % 8 = m % 8) = true from decide_eq_true (by omega)]
  rfl
theorem rJb_p {k m fr to : Int} (h : 0 ≤ to) (e : fr = m) (h8 : to = m + 8) : rJb k m fr to + 4 ≤ rJb k m fr (to + 1) := by
  have hn : rJq m to = true := by rw [h8]; exact rJq_8
  unfold rJb
  have h1 := rJc_t (f := rJn k) h
  have h2 := rJc_t (f := rJq m) h
  rw [h1, h2, if_pos hn]
  subst e
  rw [if_neg (show ¬ fr < fr by omega), if_pos rfl, if_neg (show ¬ fr < fr by omega), if_pos rfl, if_neg (show ¬ fr + 8 < to by omega), if_pos (show fr + 8 < to + 1 by omega)]
  (repeat' split) <;> omega
theorem rJb_e {k m fr to : Int} (hk : 0 ≤ k ∧ k ≤ 63) (hm : 0 ≤ m ∧ m ≤ 63) (ht : 0 ≤ to ∧ to ≤ 64) : rJb k m fr to ≤ rJb k m (fr + 1) 0 := by
  have h1 := rJn_b hk.1 hk.2 (show to.toNat ≤ 64 by omega)
  have h2 := rJq_b hm.1 hm.2 (show to.toNat ≤ 64 by omega)
  have h3 := rJc_0 (f := rJn k) (a := (0 : Int).toNat)
  have h4 := rJc_0 (f := rJq m) (a := (0 : Int).toNat)
  unfold rJb
  (repeat' split) <;> omega
theorem rJb_b {k m fr to : Int} (hk : 0 ≤ k ∧ k ≤ 63) (hm : 0 ≤ m ∧ m ≤ 63) (ht : 0 ≤ to ∧ to ≤ 64) : rJb k m fr to ≤ 50 := by
  have h1 := rJn_b hk.1 hk.2 (show to.toNat ≤ 64 by omega)
  have h2 := rJq_b hm.1 hm.2 (show to.toNat ≤ 64 by omega)
  unfold rJb
  (repeat' split) <;> omega
/-- kings: at most two men are a king -/
def rJk (M : Int → Int) : Int → Bool := fun j => decide (M j = 6) || decide (M j = 14)
theorem rJk_2 {M : Int → Int} (h : rKs M) (a : Nat) : rJc (rJk M) a ≤ 2 := by
  obtain ⟨s, -, -, -, s4⟩ := h 0 (by omega) (by omega)
  obtain ⟨t, -, -, -, t4⟩ := h 1 (by omega) (by omega)
  have hh : ∀ j, rJk M j = true → j = s ∨ j = t := fun j hj => by
    unfold rJk at hj
    rw [Bool.or_eq_true, decide_eq_true_eq, decide_eq_true_eq] at hj
    rcases hj with hj | hj
    · exact Or.inl (s4 j (by omega))
    · exact Or.inr (t4 j (by omega))
  have key : ∀ a : Nat, rJc (rJk M) a ≤ (if s < a then 1 else 0) + (if t < a then 1 else 0) := by
    intro a
    induction a with
    | zero => show (0 : Int) ≤ _; split <;> split <;> omega
    | succ a ih =>
      show rJc (rJk M) a + (if rJk M (a : Int) = true then 1 else 0) ≤ _
      by_cases c : rJk M (a : Int) = true
      · rw [if_pos c]
        have h9 := hh _ c
        by_cases c2 : s = t
        · subst c2
          have h9 : (a : Int) = s := by rcases h9 with h9 | h9 <;> exact h9
          rw [if_neg (by omega)] at ih
          rw [if_pos (by omega)]
          omega
        · rcases h9 with h9 | h9
          · rw [if_neg (show ¬ s < (a : Int) by omega)] at ih
            rw [if_pos (show s < ((a + 1 : Nat) : Int) by omega)]
            split at ih <;> split <;> omega
          · rw [if_neg (show ¬ t < (a : Int) by omega)] at ih
            rw [if_pos (show t < ((a + 1 : Nat) : Int) by omega)]
            split at ih <;> split <;> omega
      · rw [if_neg c]
        split at ih <;> split at ih <;> split <;> split <;> omega
  have h9 := key a
  split at h9 <;> split at h9 <;> omega
/-- a row of longs behind a field -/
def rJl (K : Nat → Nat) (n : Nat) (σ : Nat → jcell) (a k f kr len : Nat) (g : Nat → Int64) : Prop := ∃ r, rOb K n σ a k f (rR r) ∧ r < n ∧ K r = kr ∧ σ r = .inl (.long, len, .inr (.inl g))
theorem rJl_u {K : Nat → Nat} {n : Nat} {σ : Nat → jcell} {a k k' f kr kr' len len' : Nat} {g g' : Nat → Int64} (h : rJl K n σ a k f kr len g) (h' : rJl K n σ a k' f kr' len' g') : g = g' := by
  obtain ⟨r, o, -, -, e⟩ := h
  obtain ⟨r', o', -, -, e'⟩ := h'
  cases rOb_u o o'
  rw [e] at e'
  cases e'
  rfl
theorem rJl_st {K : Nat → Nat} {n : Nat} {σ σ' : Nat → jcell} {vs : List jv} {d : List aDe} (h : ∀ a, a < n → ∀ q ∈ d, q.1 = K a → aSm vs q (σ a) (σ' a)) {a k f kr len : Nat} {F : List Nat} {z : Option aF} {g : Nat → Int64} (hq : (k, F, z) ∈ d) (hf : f ∈ F) (hr : (kr, [], none) ∈ d) (ho : rJl K n σ a k f kr len g) : rJl K n σ' a k f kr len g := by
  obtain ⟨r, o, h1, h2, e⟩ := ho
  refine ⟨r, rOb_st h hq hf o, h1, h2, ?_⟩
  rcases h r h1 _ hr h2.symm with e1 | ⟨c', f1, f2, e3, e4, -, e5⟩ | ⟨ty, m, g1, g2, f', z', e0, -⟩
  · rw [e1]; exact e
  · rw [e3] at e
    cases e
  · cases e0
theorem rJl_ex {K : Nat → Nat} {n : Nat} {σ : Nat → jcell} (hH : aH fa_T K n σ) {a : Nat} (ha : a < n) (hk : K a = 109) : ∃ g, rJl K n σ a 109 3 110 327680 g := by
  have t1 : ∃ c ts, fa_T[109]? = some (.inr (c, ts)) ∧ ts[3]? = some (.inr (some (.inl (false, 110)))) := ⟨_, _, rfl, rfl⟩
  obtain ⟨c, ts, t1, t2⟩ := t1
  have t3 : ∃ iv el, fa_T[110]? = some (.inl (.long, 327680, iv, el)) := ⟨_, _, rfl⟩
  obtain ⟨iv, el, t3⟩ := t3
  have h1 := hH a ha _ (by rw [hk]; exact t1)
  match e : σ a, h1 with
  | .inr (c', fs), h1 =>
    obtain ⟨-, hl, h2⟩ := h1
    have hf : 3 < fs.length := by rw [hl]; exact (List.getElem?_eq_some_iff.mp t2).1
    obtain ⟨r, e2, h3, h4⟩ := rG_ref (by decide) (h2 3 _ _ t2 (List.getElem?_eq_getElem hf))
    have h5 := hH r h3 _ (by rw [h4]; exact t3)
    obtain ⟨g, e3⟩ := aCe_larr h5 rfl
    exact ⟨g, r, ⟨ha, hk, c', fs, e, by rw [List.getElem?_eq_getElem hf, e2]⟩, h3, h4, e3⟩
  | .inl x, h1 => exact h1.elim
def rJz (x : Int64) : Nat := (List.range 64).countP (fun i => !x.toBitVec.getLsbD i)
def rJs (g : Nat → Int64) : Nat → Nat
  | 0 => 0
  | k + 1 => rJs g k + rJz (g k)
theorem rJz_64 {x : Int64} : rJz x ≤ 64 := by
  have h := List.countP_le_length (p := fun i => !x.toBitVec.getLsbD i) (l := List.range 64)
  rw [List.length_range] at h
  exact h
theorem rJs_le {g : Nat → Int64} : ∀ k : Nat, rJs g k ≤ 64 * k
  | 0 => Nat.le_refl _
  | k + 1 => by
    have h := rJs_le (g := g) k
    have h2 := rJz_64 (x := g k)
    show rJs g k + rJz (g k) ≤ _
    omega
theorem rJs_cg {g g' : Nat → Int64} : ∀ k : Nat, (∀ i, i < k → g i = g' i) → rJs g k = rJs g' k
  | 0, _ => rfl
  | k + 1, h => by
    show rJs g k + rJz (g k) = rJs g' k + rJz (g' k)
    rw [rJs_cg k (fun i hi => h i (by omega)), h k (by omega)]
theorem rJs_up {g : Nat → Int64} {i : Nat} {x : Int64} : ∀ k : Nat, i < k → rJs (vp_updL g i x) k + rJz (g i) = rJs g k + rJz x
  | 0, h => by omega
  | k + 1, h => by
    show rJs (vp_updL g i x) k + rJz (vp_updL g i x k) + rJz (g i) = rJs g k + rJz (g k) + rJz x
    by_cases c : i = k
    · subst c
      rw [show vp_updL g i x i = x from if_pos rfl, rJs_cg (g := vp_updL g i x) (g' := g) i (fun j hj => if_neg (by omega))]
      omega
    · rw [show vp_updL g i x k = g k from if_neg (by omega)]
      have := rJs_up (g := g) (i := i) (x := x) k (by omega)
      omega
theorem rJp_le {p q : Nat → Bool} : ∀ {l : List Nat}, (∀ a ∈ l, p a = true → q a = true) → l.countP p ≤ l.countP q := fun h => List.countP_mono_left h
theorem rJp_lt {p q : Nat → Bool} : ∀ {l : List Nat}, (∀ a ∈ l, p a = true → q a = true) → (∃ a ∈ l, q a = true ∧ p a = false) → l.countP p < l.countP q
  | [], _, h => by obtain ⟨a, h, -⟩ := h; cases h
  | b :: l, h, h2 => by
    obtain ⟨a, ha, h3, h4⟩ := h2
    rw [List.countP_cons, List.countP_cons]
    rcases List.mem_cons.mp ha with rfl | ha
    · have h5 := rJp_le (l := l) (fun a ha => h a (List.mem_cons_of_mem _ ha))
      rw [if_pos h3, if_neg (by rw [h4]; decide)]
      omega
    · have h5 := rJp_lt (l := l) (fun a ha => h a (List.mem_cons_of_mem _ ha)) ⟨a, ha, h3, h4⟩
      by_cases c : p b = true
      · rw [if_pos c, if_pos (h b List.mem_cons_self c)]
        omega
      · rw [if_neg c]
        split <;> omega
theorem rJz_or {x t : Int64} : rJz (x ||| t) ≤ rJz x := rJp_le (fun a _ h => by
  rw [Int64.toBitVec_or, BitVec.getLsbD_or] at h
  cases c : x.toBitVec.getLsbD a with
  | false => rfl
  | true => rw [c] at h; cases h)
theorem rJz_lt {x t : Int64} (h : ∃ i, i < 64 ∧ x.toBitVec.getLsbD i = false ∧ t.toBitVec.getLsbD i = true) : rJz (x ||| t) < rJz x := by
  obtain ⟨i, h1, h2, h3⟩ := h
  refine rJp_lt (fun a _ h => ?_) ⟨i, List.mem_range.mpr h1, by rw [h2]; rfl, ?_⟩
  · rw [Int64.toBitVec_or, BitVec.getLsbD_or] at h
    cases c : x.toBitVec.getLsbD a with
    | false => rfl
    | true => rw [c] at h; cases h
  · rw [Int64.toBitVec_or, BitVec.getLsbD_or, h2, h3]
    rfl
/-- zero bits of the table: at most z -/
def rJe (K : Nat → Nat) (n : Nat) (σ : Nat → jcell) (a : Nat) (z : Int) : Prop := ∃ g, rJl K n σ a 109 3 110 327680 g ∧ (rJs g 327680 : Int) ≤ z
/-- the byte of a cell is zero -/
def rJy (K : Nat → Nat) (n : Nat) (σ : Nat → jcell) (a : Nat) (t : Int) : Prop := 0 ≤ t ∧ t < 2621440 ∧ ∃ g, rJl K n σ a 109 3 110 327680 g ∧ ∀ i, i < 8 → (g (t / 8).toNat).toBitVec.getLsbD (8 * (t % 8).toNat + i) = false
def rJg (d : Int) : Int := if d % 256 = 255 then 3 else if d % 256 = 254 then 2 else if d % 256 = 253 then 1 else 0
theorem rJg_b {d : Int} : 0 ≤ rJg d ∧ rJg d ≤ 3 := by
  unfold rJg
  (repeat' split) <;> omega
theorem rJg_n {d : Int} (h : ¬ (d + 1) % 256 = 0) : rJg (d + 1) ≤ rJg d + 1 := by
  unfold rJg
  (repeat' split) <;> omega
theorem rJg_0 {d : Int} (h : (d + 1) % 256 = 0) : rJg d = 3 ∧ rJg (d + 1) = 0 := by
  unfold rJg
  rw [if_pos (by omega), if_neg (by omega), if_neg (by omega), if_neg (by omega)]
  exact ⟨rfl, rfl⟩
theorem rJg_s {d : Int} : rJg (d + 1) ≤ rJg d + 1 := by
  by_cases h : (d + 1) % 256 = 0
  · have := rJg_0 h; omega
  · exact rJg_n h
/-- the low byte of a long -/
theorem rJ_lo {x : Int64} (h0 : 0 ≤ x.toInt) (h : ¬ x.toInt % 256 = 0) : ∃ i, i < 8 ∧ x.toBitVec.getLsbD i = true := by
  refine Classical.byContradiction (fun hn => h ?_)
  have e : x.toBitVec.setWidth 8 = 0#8 := by
    apply BitVec.eq_of_getLsbD_eq
    intro i hi
    rw [BitVec.getLsbD_setWidth, BitVec.getLsbD_zero]
    cases c : x.toBitVec.getLsbD i with
    | false => rw [Bool.and_false]
    | true => exact absurd ⟨i, hi, c⟩ hn
  have e2 : x.toBitVec.toNat % 256 = 0 := by
    have := congrArg BitVec.toNat e
    rw [BitVec.toNat_setWidth] at this
    exact this
  have e3 : x.toInt = (x.toBitVec.toNat : Int) := by
    have h1 : x.toInt = x.toBitVec.toInt := rfl
    rw [h1, BitVec.toInt_eq_toNat_cond] at h0 ⊢
    have hlt := x.toBitVec.isLt
    split at h0
    · split <;> omega
    · omega
  rw [e3]
  omega
theorem rJ_sh {x t : Int64} {s : Int32} {w i : Nat} (ht : t = x <<< (s.toInt64 &&& 63)) (hs : s.toInt = 8 * (w : Int)) (hw : w ≤ 7) (hi : i < 8) (hb : x.toBitVec.getLsbD i = true) : t.toBitVec.getLsbD (8 * w + i) = true := by
  have h9 := rShn ⟨s.toInt.toNat, by omega⟩
  dsimp only at h9
  rw [← rOf (by omega)] at h9
  rw [ht, Int64.toBitVec_shiftLeft, BitVec.shiftLeft_eq', BitVec.getLsbD_shiftLeft, h9, show s.toInt.toNat = 8 * w by omega, show 8 * w + i - 8 * w = i by omega, hb]
  rw [show decide (8 * w + i < 64) = true from decide_eq_true (by omega), show decide (8 * w + i < 8 * w) = false from decide_eq_false (by omega)]
  rfl
