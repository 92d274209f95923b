/-! the reference's object as a picture: its numbers F by field, its tables of endings e, what is on its tape T and in its OUT O -/
def mm_fl (n : Nat) (F : Nat → Int32) (e : jv) : List jv := [.inl (F 0), .inl (F 1), .inr (.inr (some (.inl (n)))), .inl (F 3), .inr (.inr (some (.inl (n + 1)))), .inr (.inr (some (.inl (n + 2)))), .inr (.inr (some (.inl (n + 28)))), e, .inl (F 8), .inl (F 9), .inl (F 10), .inl (F 11), .inl (F 12), .inl (F 13), .inr (.inr (some (.inl (n + 49)))), .inr (.inr (some (.inl (n + 50)))), .inl (F 16), .inr (.inr (some (.inl (n + 51)))), .inr (.inr (some (.inl (n + 52))))]
def mmP (σ : Nat → jcell) (a n : Nat) (F : Nat → Int32) (e : jv) (T O : Nat → Int32) : Nat → jcell := fun p => if p = a then .inr (11, mm_fl n F e) else if p = n then .inl (.byte, 65536, .inl T) else if p = n + 1 then .inl (.byte, 65536, .inl O) else σ p
section MMP
variable {σ : Nat → jcell} {a n : Nat} {F : Nat → Int32} {e : jv} {T O : Nat → Int32}
theorem mm_a : mmP σ a n F e T O a = .inr (11, mm_fl n F e) := if_pos rfl
theorem mm_t (h : a < n) : mmP σ a n F e T O n = .inl (.byte, 65536, .inl T) := by
  unfold mmP
  rw [if_neg (by omega), if_pos rfl]
theorem mm_o (h : a < n) : mmP σ a n F e T O (n + 1) = .inl (.byte, 65536, .inl O) := by
  unfold mmP
  rw [if_neg (by omega), if_neg (by omega), if_pos rfl]
theorem mm_lo {p : Nat} (h1 : p ≠ a) (h2 : p ≠ n) (h3 : p ≠ n + 1) : mmP σ a n F e T O p = σ p := by
  unfold mmP
  rw [if_neg h1, if_neg h2, if_neg h3]
theorem mm_ua {F' : Nat → Int32} {e' : jv} : jup (mmP σ a n F e T O) a (.inr (11, mm_fl n F' e')) = mmP σ a n F' e' T O := by
  funext p
  by_cases h : p = a
  · subst h
    rw [jup_s, mm_a]
  · rw [jup_n h]
    unfold mmP
    rw [if_neg h, if_neg h]
theorem mm_ut {T' : Nat → Int32} (ha : a < n) : jup (mmP σ a n F e T O) n (.inl (.byte, 65536, .inl T')) = mmP σ a n F e T' O := by
  funext p
  by_cases h : p = n
  · subst h
    rw [jup_s, mm_t ha]
  · rw [jup_n h]
    unfold mmP
    rw [if_neg h, if_neg h]
theorem mm_uo {O' : Nat → Int32} (ha : a < n) : jup (mmP σ a n F e T O) (n + 1) (.inl (.byte, 65536, .inl O')) = mmP σ a n F e T O' := by
  funext p
  by_cases h : p = n + 1
  · subst h
    rw [jup_s, mm_o ha]
  · rw [jup_n h]
    unfold mmP
    rw [if_neg h, if_neg h]
theorem mm_id (ha : a < n) (h1 : σ a = .inr (11, mm_fl n F e)) (h2 : σ n = .inl (.byte, 65536, .inl T)) (h3 : σ (n + 1) = .inl (.byte, 65536, .inl O)) : mmP σ a n F e T O = σ := by
  funext p
  unfold mmP
  split
  · next h => rw [h, h1]
  · split
    · next h => rw [h, h2]
    · split
      · next h => rw [h, h3]
      · rfl
theorem mm_f0 : (mm_fl n F e)[0]? = some (.inl (F 0)) := rfl
theorem mm_s0 {x : Int32} : (mm_fl n F e).set 0 (.inl x) = mm_fl n (va_up F 0 x) e := by
  simp [mm_fl, va_up]
theorem mm_f1 : (mm_fl n F e)[1]? = some (.inl (F 1)) := rfl
theorem mm_s1 {x : Int32} : (mm_fl n F e).set 1 (.inl x) = mm_fl n (va_up F 1 x) e := by
  simp [mm_fl, va_up]
theorem mm_f3 : (mm_fl n F e)[3]? = some (.inl (F 3)) := rfl
theorem mm_s3 {x : Int32} : (mm_fl n F e).set 3 (.inl x) = mm_fl n (va_up F 3 x) e := by
  simp [mm_fl, va_up]
theorem mm_f8 : (mm_fl n F e)[8]? = some (.inl (F 8)) := rfl
theorem mm_s8 {x : Int32} : (mm_fl n F e).set 8 (.inl x) = mm_fl n (va_up F 8 x) e := by
  simp [mm_fl, va_up]
theorem mm_f9 : (mm_fl n F e)[9]? = some (.inl (F 9)) := rfl
theorem mm_s9 {x : Int32} : (mm_fl n F e).set 9 (.inl x) = mm_fl n (va_up F 9 x) e := by
  simp [mm_fl, va_up]
theorem mm_f10 : (mm_fl n F e)[10]? = some (.inl (F 10)) := rfl
theorem mm_s10 {x : Int32} : (mm_fl n F e).set 10 (.inl x) = mm_fl n (va_up F 10 x) e := by
  simp [mm_fl, va_up]
theorem mm_f11 : (mm_fl n F e)[11]? = some (.inl (F 11)) := rfl
theorem mm_s11 {x : Int32} : (mm_fl n F e).set 11 (.inl x) = mm_fl n (va_up F 11 x) e := by
  simp [mm_fl, va_up]
theorem mm_f12 : (mm_fl n F e)[12]? = some (.inl (F 12)) := rfl
theorem mm_s12 {x : Int32} : (mm_fl n F e).set 12 (.inl x) = mm_fl n (va_up F 12 x) e := by
  simp [mm_fl, va_up]
theorem mm_f13 : (mm_fl n F e)[13]? = some (.inl (F 13)) := rfl
theorem mm_s13 {x : Int32} : (mm_fl n F e).set 13 (.inl x) = mm_fl n (va_up F 13 x) e := by
  simp [mm_fl, va_up]
theorem mm_f16 : (mm_fl n F e)[16]? = some (.inl (F 16)) := rfl
theorem mm_s16 {x : Int32} : (mm_fl n F e).set 16 (.inl x) = mm_fl n (va_up F 16 x) e := by
  simp [mm_fl, va_up]
theorem mm_f2 : (mm_fl n F e)[2]? = some (.inr (.inr (some (.inl (n))))) := rfl
theorem mm_f4 : (mm_fl n F e)[4]? = some (.inr (.inr (some (.inl (n + 1))))) := rfl
theorem mm_f5 : (mm_fl n F e)[5]? = some (.inr (.inr (some (.inl (n + 2))))) := rfl
theorem mm_f6 : (mm_fl n F e)[6]? = some (.inr (.inr (some (.inl (n + 28))))) := rfl
theorem mm_f14 : (mm_fl n F e)[14]? = some (.inr (.inr (some (.inl (n + 49))))) := rfl
theorem mm_f15 : (mm_fl n F e)[15]? = some (.inr (.inr (some (.inl (n + 50))))) := rfl
theorem mm_f17 : (mm_fl n F e)[17]? = some (.inr (.inr (some (.inl (n + 51))))) := rfl
theorem mm_f18 : (mm_fl n F e)[18]? = some (.inr (.inr (some (.inl (n + 52))))) := rfl
theorem mm_l : (mm_fl n F e).length = 19 := rfl
end MMP
theorem va_uu {α : Type} (F : Nat → α) (i : Nat) (x y : α) : va_up (va_up F i x) i y = va_up F i y := by
  funext j
  simp only [va_up]
  split <;> rfl
theorem va_us {α : Type} (F : Nat → α) (i : Nat) (x : α) : va_up F i x i = x := by simp [va_up]
theorem va_un {α : Type} (F : Nat → α) (i j : Nat) (x : α) (h : j ≠ i) : va_up F i x j = F j := by simp [va_up, h]
set_option maxRecDepth 100000 in
set_option maxHeartbeats 4000000 in
theorem c_MM_thrown (l : Launch) (E : jE) (σ : Nat → jcell) (n : Nat) (a n0 : Nat) (hab : a < n0) (hn0 : n0 + 53 ≤ n) (F : Nat → Int32) (e : jv) (T O : Nat → Int32) : jMet l E jcl jtb lw_tbl y_MM_thrown { frames := 0, cells := 0, slots := 0, locals := 0 } [.inr (.inr (some (.inl (a))))] (mmP σ a n0 F e T O) n (fun r σ' n' => r = some (.inl (F 0)) ∧ σ' = (mmP σ a n0 F e T O) ∧ n' = n) := by
  refine jMet_of (hY := rfl) false (fun h => by cases h) (by decide) (Nat.le_of_ble_eq_true rfl) [some (.inr (.inr (some (.inl (a)))))] rfl ?_
  intro M hl hR X hr
  have haa : (a < n) = True := eq_true (by omega)
  have ht : (n0 < n) = True := eq_true (by omega)
  have ho : (n0 + 1 < n) = True := eq_true (by omega)
  refine jrun_ok jC X k_MM_thrown_0 0 _ _ _ o_MM_thrown_0 ?_
  simp only [k_MM_thrown_0, jrun, jstep, jldi, jldl, jlda, j1, j2, jl1, jl2, jli, ja1, jbr, jald, jast, jlald, jlast, jalen, jget, jput, jfit, jdup, jdupx, jdupx2, jdup2, jcat, jset1, jset2, jkill, List.getElem?_cons_zero, List.getElem?_cons_succ, List.set_cons_zero, List.set_cons_succ, List.length_cons, List.length_nil, Nat.reduceAdd, Nat.reduceLT, Int32.reduceToNatClampNeg, true_and, and_true, and_self, reduceCtorEq, not_false_eq_true, false_and, and_false, or_false, false_or, true_or, or_true, mm_a, mm_t hab, mm_o hab, mm_ua, mm_ut hab, mm_uo hab, mm_l, haa, ht, ho, mm_f0, mm_f1, mm_f3, mm_f8, mm_f9, mm_f10, mm_f11, mm_f12, mm_f13, mm_f16, mm_f2, mm_f4, mm_f5, mm_f6, mm_f14, mm_f15, mm_f17, mm_f18, mm_s0, mm_s1, mm_s3, mm_s8, mm_s9, mm_s10, mm_s11, mm_s12, mm_s13, mm_s16]
  exact jk_iret X d_MM_thrown_4 hr rfl (Nat.le_refl _) (Nat.le_refl _) ⟨rfl, rfl, rfl⟩
set_option maxRecDepth 100000 in
set_option maxHeartbeats 4000000 in
theorem c_MM_size (l : Launch) (E : jE) (σ : Nat → jcell) (n : Nat) (a n0 : Nat) (hab : a < n0) (hn0 : n0 + 53 ≤ n) (F : Nat → Int32) (e : jv) (T O : Nat → Int32) : jMet l E jcl jtb lw_tbl y_MM_size { frames := 0, cells := 0, slots := 0, locals := 0 } [.inr (.inr (some (.inl (a))))] (mmP σ a n0 F e T O) n (fun r σ' n' => r = some (.inl (F 3)) ∧ σ' = (mmP σ a n0 (va_up F 0 0) e T O) ∧ n' = n) := by
  refine jMet_of (hY := rfl) false (fun h => by cases h) (by decide) (Nat.le_of_ble_eq_true rfl) [some (.inr (.inr (some (.inl (a)))))] rfl ?_
  intro M hl hR X hr
  have haa : (a < n) = True := eq_true (by omega)
  have ht : (n0 < n) = True := eq_true (by omega)
  have ho : (n0 + 1 < n) = True := eq_true (by omega)
  refine jrun_ok jC X k_MM_size_0 0 _ _ _ o_MM_size_0 ?_
  simp only [k_MM_size_0, jrun, jstep, jldi, jldl, jlda, j1, j2, jl1, jl2, jli, ja1, jbr, jald, jast, jlald, jlast, jalen, jget, jput, jfit, jdup, jdupx, jdupx2, jdup2, jcat, jset1, jset2, jkill, List.getElem?_cons_zero, List.getElem?_cons_succ, List.set_cons_zero, List.set_cons_succ, List.length_cons, List.length_nil, Nat.reduceAdd, Nat.reduceLT, Int32.reduceToNatClampNeg, true_and, and_true, and_self, reduceCtorEq, not_false_eq_true, false_and, and_false, or_false, false_or, true_or, or_true, mm_a, mm_t hab, mm_o hab, mm_ua, mm_ut hab, mm_uo hab, mm_l, haa, ht, ho, mm_f0, mm_f1, mm_f3, mm_f8, mm_f9, mm_f10, mm_f11, mm_f12, mm_f13, mm_f16, mm_f2, mm_f4, mm_f5, mm_f6, mm_f14, mm_f15, mm_f17, mm_f18, mm_s0, mm_s1, mm_s3, mm_s8, mm_s9, mm_s10, mm_s11, mm_s12, mm_s13, mm_s16, va_un F 0 3 _ (by decide)]
  exact jk_iret X d_MM_size_9 hr rfl (Nat.le_refl _) (Nat.le_refl _) ⟨rfl, rfl, rfl⟩
/-- a byte of a number, as the tape has it -/
def bt (v sh : Int32) : Int32 := vp_nar .byte (v >>> (sh &&& 31)).toInt8.toInt32
def lay4 (T : Nat → Int32) (k : Nat) (v : Int32) : Nat → Int32 := upd (upd (upd (upd T k (bt v 24)) (k + 1) (bt v 16)) (k + 2) (bt v 8)) (k + 3) (bt v 0)
def lay20 (T : Nat → Int32) (k : Nat) (v0 v1 v2 v3 v4 : Int32) : Nat → Int32 := lay4 (lay4 (lay4 (lay4 (lay4 T k v0) (k + 4) v1) (k + 8) v2) (k + 12) v3) (k + 16) v4
set_option maxRecDepth 100000 in
set_option maxHeartbeats 4000000 in
theorem c_MM_lay (l : Launch) (E : jE) (σ : Nat → jcell) (n : Nat) (a n0 : Nat) (hab : a < n0) (hn0 : n0 + 53 ≤ n) (F : Nat → Int32) (e : jv) (T O : Nat → Int32) (k : Nat) (hk : k + 4 ≤ 65536) (hF : F 1 = nI k) (v : Int32) : jMet l E jcl jtb lw_tbl y_MM_lay { frames := 0, cells := 0, slots := 0, locals := 0 } [.inr (.inr (some (.inl (a)))), .inl v] (mmP σ a n0 F e T O) n (fun r σ' n' => r = none ∧ n' = n ∧ σ' = (mmP σ a n0 (va_up F 1 (nI (k + 4))) e (lay4 T k v) O)) := by
  refine jMet_of (hY := rfl) false (fun h => by cases h) (by decide) (Nat.le_of_ble_eq_true rfl) [some (.inr (.inr (some (.inl (a))))), some (.inl v), none] rfl ?_
  intro M hl hR X hr
  have haa : (a < n) = True := eq_true (by omega)
  have ht : (n0 < n) = True := eq_true (by omega)
  have ho : (n0 + 1 < n) = True := eq_true (by omega)
  have it : ∀ (Q : State → Prop) (k : Nat) (hk : k < 65536) (sh sh' : Int32) (hsh : ¬ sh < 0) (hs' : sh + -8 = sh') (F T : Nat → Int32) (hF : F 1 = nI k), jJ E jcl 3 M Q n 0 0 3 [some (.inr (.inr (some (.inl (a))))), some (.inl v), some (.inl sh')] [] (mmP σ a n0 (va_up F 1 (nI (k + 1))) e (upd T k (bt v sh)) O) → jJ E jcl 3 M Q n 0 0 3 [some (.inr (.inr (some (.inl (a))))), some (.inl v), some (.inl sh)] [] (mmP σ a n0 F e T O) := by
    intro Q k hk sh sh' hsh hs' F T hF hJ
    have hc : (nI k).toNatClampNeg = k := nI_clamp (by omega)
    refine jrun_ok jC X k_MM_lay_3 3 _ _ _ o_MM_lay_3 ?_
    simp only [k_MM_lay_3, jrun, jstep, jldi, jldl, jlda, j1, j2, jl1, jl2, jli, ja1, jbr, jald, jast, jlald, jlast, jalen, jget, jput, jfit, jdup, jdupx, jdupx2, jdup2, jcat, jset1, jset2, jkill, List.getElem?_cons_zero, List.getElem?_cons_succ, List.set_cons_zero, List.set_cons_succ, List.length_cons, List.length_nil, Nat.reduceAdd, Nat.reduceLT, Int32.reduceToNatClampNeg, true_and, and_true, and_self, reduceCtorEq, not_false_eq_true, false_and, and_false, or_false, false_or, true_or, or_true, mm_a, mm_t hab, mm_o hab, mm_ua, mm_ut hab, mm_uo hab, mm_l, haa, ht, ho, mm_f0, mm_f1, mm_f3, mm_f8, mm_f9, mm_f10, mm_f11, mm_f12, mm_f13, mm_f16, mm_f2, mm_f4, mm_f5, mm_f6, mm_f14, mm_f15, mm_f17, mm_f18, mm_s0, mm_s1, mm_s3, mm_s8, mm_s9, mm_s10, mm_s11, mm_s12, mm_s13, mm_s16, hF, hc, nI_1, hs', if_true, ite_true]
    exact ⟨fun h => absurd h hsh, fun _ => ⟨vp_in_nI (by omega) (by omega), hJ⟩⟩
  refine jrun_ok jC X k_MM_lay_0 0 _ _ _ o_MM_lay_0 ?_
  simp only [k_MM_lay_0, jrun, jstep, jldi, jldl, jlda, j1, j2, jl1, jl2, jli, ja1, jbr, jald, jast, jlald, jlast, jalen, jget, jput, jfit, jdup, jdupx, jdupx2, jdup2, jcat, jset1, jset2, jkill, List.getElem?_cons_zero, List.getElem?_cons_succ, List.set_cons_zero, List.set_cons_succ, List.length_cons, List.length_nil, Nat.reduceAdd, Nat.reduceLT, Int32.reduceToNatClampNeg, true_and, and_true, and_self, reduceCtorEq, not_false_eq_true, false_and, and_false, or_false, false_or, true_or, or_true]
  refine it _ k (by omega) 24 16 (by decide) (by decide) _ _ hF ?_
  refine it _ (k + 1) (by omega) 16 8 (by decide) (by decide) _ _ (va_us _ _ _) ?_
  refine it _ (k + 2) (by omega) 8 0 (by decide) (by decide) _ _ (va_us _ _ _) ?_
  refine it _ (k + 3) (by omega) 0 (-8) (by decide) (by decide) _ _ (va_us _ _ _) ?_
  refine jrun_ok jC X k_MM_lay_3 3 _ _ _ o_MM_lay_3 ?_
  simp only [k_MM_lay_3, jrun, jstep, jldi, jldl, jlda, j1, j2, jl1, jl2, jli, ja1, jbr, jald, jast, jlald, jlast, jalen, jget, jput, jfit, jdup, jdupx, jdupx2, jdup2, jcat, jset1, jset2, jkill, List.getElem?_cons_zero, List.getElem?_cons_succ, List.set_cons_zero, List.set_cons_succ, List.length_cons, List.length_nil, Nat.reduceAdd, Nat.reduceLT, Int32.reduceToNatClampNeg, true_and, and_true, and_self, reduceCtorEq, not_false_eq_true, false_and, and_false, or_false, false_or, true_or, or_true, mm_a, mm_t hab, mm_o hab, mm_ua, mm_ut hab, mm_uo hab, mm_l, haa, ht, ho, mm_f0, mm_f1, mm_f3, mm_f8, mm_f9, mm_f10, mm_f11, mm_f12, mm_f13, mm_f16, mm_f2, mm_f4, mm_f5, mm_f6, mm_f14, mm_f15, mm_f17, mm_f18, mm_s0, mm_s1, mm_s3, mm_s8, mm_s9, mm_s10, mm_s11, mm_s12, mm_s13, mm_s16]
  refine ⟨fun _ => ?_, fun h => absurd (by decide) h⟩
  rw [va_uu, va_uu, va_uu]
  exact jk_vret X d_MM_lay_36 hr (Nat.le_refl _) (Nat.le_refl _) ⟨rfl, rfl, rfl⟩
set_option maxRecDepth 100000 in
set_option maxHeartbeats 4000000 in
theorem c_MM_feed (l : Launch) (E : jE) (σ : Nat → jcell) (n : Nat) (a n0 : Nat) (hab : a < n0) (hn0 : n0 + 53 ≤ n) (F : Nat → Int32) (e : jv) (T O : Nat → Int32) (k : Nat) (hk : k + 20 ≤ 65536) (hF : F 1 = nI k) (v0 v1 v2 v3 v4 : Int32) : jMet l E jcl jtb lw_tbl y_MM_feed { frames := 1, cells := 0, slots := 0, locals := 40 } [.inr (.inr (some (.inl (a)))), .inl v0, .inl v1, .inl v2, .inl v3, .inl v4] (mmP σ a n0 F e T O) n (fun r σ' n' => r = none ∧ n' = n ∧ σ' = (mmP σ a n0 (va_up (va_up F 0 0) 1 (nI (k + 20))) e (lay20 T k v0 v1 v2 v3 v4) O)) := by
  refine jMet_of (hY := rfl) false (fun h => by cases h) (by decide) (Nat.le_of_ble_eq_true rfl) [some (.inr (.inr (some (.inl (a))))), some (.inl v0), some (.inl v1), some (.inl v2), some (.inl v3), some (.inl v4)] rfl ?_
  intro M hl hR X hr
  have haa : (a < n) = True := eq_true (by omega)
  have ht : (n0 < n) = True := eq_true (by omega)
  have ho : (n0 + 1 < n) = True := eq_true (by omega)
  have hle : (nI k + 20 ≤ (65536 : Int32)) = (k + 20 ≤ 65536) := by
    rw [show (20 : Int32) = nI 20 from rfl, nI_add, show (65536 : Int32) = nI 65536 from rfl, nI_leI (by omega) (by omega)]
  refine jrun_ok jC X k_MM_feed_0 0 _ _ _ o_MM_feed_0 ?_
  simp only [k_MM_feed_0, jrun, jstep, jldi, jldl, jlda, j1, j2, jl1, jl2, jli, ja1, jbr, jald, jast, jlald, jlast, jalen, jget, jput, jfit, jdup, jdupx, jdupx2, jdup2, jcat, jset1, jset2, jkill, List.getElem?_cons_zero, List.getElem?_cons_succ, List.set_cons_zero, List.set_cons_succ, List.length_cons, List.length_nil, Nat.reduceAdd, Nat.reduceLT, Int32.reduceToNatClampNeg, true_and, and_true, and_self, reduceCtorEq, not_false_eq_true, false_and, and_false, or_false, false_or, true_or, or_true, mm_a, mm_t hab, mm_o hab, mm_ua, mm_ut hab, mm_uo hab, mm_l, haa, ht, ho, mm_f0, mm_f1, mm_f3, mm_f8, mm_f9, mm_f10, mm_f11, mm_f12, mm_f13, mm_f16, mm_f2, mm_f4, mm_f5, mm_f6, mm_f14, mm_f15, mm_f17, mm_f18, mm_s0, mm_s1, mm_s3, mm_s8, mm_s9, mm_s10, mm_s11, mm_s12, mm_s13, mm_s16, hF, hle]
  refine ⟨fun _ => ?_, fun h => absurd hk h⟩
  refine jrun_ok jC X k_MM_feed_17 17 _ _ _ o_MM_feed_17 ?_
  simp only [k_MM_feed_17, jrun, jstep, jldi, jldl, jlda, j1, j2, jl1, jl2, jli, ja1, jbr, jald, jast, jlald, jlast, jalen, jget, jput, jfit, jdup, jdupx, jdupx2, jdup2, jcat, jset1, jset2, jkill, List.getElem?_cons_zero, List.getElem?_cons_succ, List.set_cons_zero, List.set_cons_succ, List.length_cons, List.length_nil, Nat.reduceAdd, Nat.reduceLT, Int32.reduceToNatClampNeg, true_and, and_true, and_self, reduceCtorEq, not_false_eq_true, false_and, and_false, or_false, false_or, true_or, or_true]
  refine jrun_ok jC X k_MM_feed_18 18 _ _ _ o_MM_feed_18 ?_
  simp only [k_MM_feed_18, jrun, jstep, jldi, jldl, jlda, j1, j2, jl1, jl2, jli, ja1, jbr, jald, jast, jlald, jlast, jalen, jget, jput, jfit, jdup, jdupx, jdupx2, jdup2, jcat, jset1, jset2, jkill, List.getElem?_cons_zero, List.getElem?_cons_succ, List.set_cons_zero, List.set_cons_succ, List.length_cons, List.length_nil, Nat.reduceAdd, Nat.reduceLT, Int32.reduceToNatClampNeg, true_and, and_true, and_self, reduceCtorEq, not_false_eq_true, false_and, and_false, or_false, false_or, true_or, or_true, mm_a, mm_t hab, mm_o hab, mm_ua, mm_ut hab, mm_uo hab, mm_l, haa, ht, ho, mm_f0, mm_f1, mm_f3, mm_f8, mm_f9, mm_f10, mm_f11, mm_f12, mm_f13, mm_f16, mm_f2, mm_f4, mm_f5, mm_f6, mm_f14, mm_f15, mm_f17, mm_f18, mm_s0, mm_s1, mm_s3, mm_s8, mm_s9, mm_s10, mm_s11, mm_s12, mm_s13, mm_s16, va_us]
  refine ⟨fun h => absurd trivial h, fun _ => ?_⟩
  refine jk_Vg X hR d_MM_feed_30 q_MM_feed_30 m_MM_lay i_MM_lay e_MM_lay (ci := 11) rfl rfl (by omega) mm_a (c_MM_lay M.2.1 E _ _ _ _ hab hn0 _ _ _ _ k (by omega) (by rw [va_un _ _ _ _ (by decide)]; exact hF) _) rfl rfl ⟨Nat.le_of_ble_eq_true rfl, Nat.le_of_ble_eq_true rfl⟩ (c' := 0) rfl (s' := 0) rfl ⟨Nat.le_of_ble_eq_true rfl, Nat.le_of_ble_eq_true rfl⟩ (Nat.le_of_ble_eq_true rfl) (pc' := 33) rfl ?_
  rintro _ _ _ ⟨rfl, hn2, rfl⟩
  obtain rfl : n = _ := hn2.symm
  simp only [Option.toList_none, List.nil_append, va_uu, Nat.add_assoc, Nat.reduceAdd]
  refine jrun_ok jC X k_MM_feed_33 33 _ _ _ o_MM_feed_33 ?_
  simp only [k_MM_feed_33, jrun, jstep, jldi, jldl, jlda, j1, j2, jl1, jl2, jli, ja1, jbr, jald, jast, jlald, jlast, jalen, jget, jput, jfit, jdup, jdupx, jdupx2, jdup2, jcat, jset1, jset2, jkill, List.getElem?_cons_zero, List.getElem?_cons_succ, List.set_cons_zero, List.set_cons_succ, List.length_cons, List.length_nil, Nat.reduceAdd, Nat.reduceLT, Int32.reduceToNatClampNeg, true_and, and_true, and_self, reduceCtorEq, not_false_eq_true, false_and, and_false, or_false, false_or, true_or, or_true]
  refine jk_Vg X hR d_MM_feed_35 q_MM_feed_35 m_MM_lay i_MM_lay e_MM_lay (ci := 11) rfl rfl (by omega) mm_a (c_MM_lay M.2.1 E _ _ _ _ hab hn0 _ _ _ _ (k + 4) (by omega) (va_us _ _ _) _) rfl rfl ⟨Nat.le_of_ble_eq_true rfl, Nat.le_of_ble_eq_true rfl⟩ (c' := 0) rfl (s' := 0) rfl ⟨Nat.le_of_ble_eq_true rfl, Nat.le_of_ble_eq_true rfl⟩ (Nat.le_of_ble_eq_true rfl) (pc' := 38) rfl ?_
  rintro _ _ _ ⟨rfl, hn2, rfl⟩
  obtain rfl : n = _ := hn2.symm
  simp only [Option.toList_none, List.nil_append, va_uu, Nat.add_assoc, Nat.reduceAdd]
  refine jrun_ok jC X k_MM_feed_38 38 _ _ _ o_MM_feed_38 ?_
  simp only [k_MM_feed_38, jrun, jstep, jldi, jldl, jlda, j1, j2, jl1, jl2, jli, ja1, jbr, jald, jast, jlald, jlast, jalen, jget, jput, jfit, jdup, jdupx, jdupx2, jdup2, jcat, jset1, jset2, jkill, List.getElem?_cons_zero, List.getElem?_cons_succ, List.set_cons_zero, List.set_cons_succ, List.length_cons, List.length_nil, Nat.reduceAdd, Nat.reduceLT, Int32.reduceToNatClampNeg, true_and, and_true, and_self, reduceCtorEq, not_false_eq_true, false_and, and_false, or_false, false_or, true_or, or_true]
  refine jk_Vg X hR d_MM_feed_40 q_MM_feed_40 m_MM_lay i_MM_lay e_MM_lay (ci := 11) rfl rfl (by omega) mm_a (c_MM_lay M.2.1 E _ _ _ _ hab hn0 _ _ _ _ (k + 8) (by omega) (va_us _ _ _) _) rfl rfl ⟨Nat.le_of_ble_eq_true rfl, Nat.le_of_ble_eq_true rfl⟩ (c' := 0) rfl (s' := 0) rfl ⟨Nat.le_of_ble_eq_true rfl, Nat.le_of_ble_eq_true rfl⟩ (Nat.le_of_ble_eq_true rfl) (pc' := 43) rfl ?_
  rintro _ _ _ ⟨rfl, hn2, rfl⟩
  obtain rfl : n = _ := hn2.symm
  simp only [Option.toList_none, List.nil_append, va_uu, Nat.add_assoc, Nat.reduceAdd]
  refine jrun_ok jC X k_MM_feed_43 43 _ _ _ o_MM_feed_43 ?_
  simp only [k_MM_feed_43, jrun, jstep, jldi, jldl, jlda, j1, j2, jl1, jl2, jli, ja1, jbr, jald, jast, jlald, jlast, jalen, jget, jput, jfit, jdup, jdupx, jdupx2, jdup2, jcat, jset1, jset2, jkill, List.getElem?_cons_zero, List.getElem?_cons_succ, List.set_cons_zero, List.set_cons_succ, List.length_cons, List.length_nil, Nat.reduceAdd, Nat.reduceLT, Int32.reduceToNatClampNeg, true_and, and_true, and_self, reduceCtorEq, not_false_eq_true, false_and, and_false, or_false, false_or, true_or, or_true]
  refine jk_Vg X hR d_MM_feed_46 q_MM_feed_46 m_MM_lay i_MM_lay e_MM_lay (ci := 11) rfl rfl (by omega) mm_a (c_MM_lay M.2.1 E _ _ _ _ hab hn0 _ _ _ _ (k + 12) (by omega) (va_us _ _ _) _) rfl rfl ⟨Nat.le_of_ble_eq_true rfl, Nat.le_of_ble_eq_true rfl⟩ (c' := 0) rfl (s' := 0) rfl ⟨Nat.le_of_ble_eq_true rfl, Nat.le_of_ble_eq_true rfl⟩ (Nat.le_of_ble_eq_true rfl) (pc' := 49) rfl ?_
  rintro _ _ _ ⟨rfl, hn2, rfl⟩
  obtain rfl : n = _ := hn2.symm
  simp only [Option.toList_none, List.nil_append, va_uu, Nat.add_assoc, Nat.reduceAdd]
  refine jrun_ok jC X k_MM_feed_49 49 _ _ _ o_MM_feed_49 ?_
  simp only [k_MM_feed_49, jrun, jstep, jldi, jldl, jlda, j1, j2, jl1, jl2, jli, ja1, jbr, jald, jast, jlald, jlast, jalen, jget, jput, jfit, jdup, jdupx, jdupx2, jdup2, jcat, jset1, jset2, jkill, List.getElem?_cons_zero, List.getElem?_cons_succ, List.set_cons_zero, List.set_cons_succ, List.length_cons, List.length_nil, Nat.reduceAdd, Nat.reduceLT, Int32.reduceToNatClampNeg, true_and, and_true, and_self, reduceCtorEq, not_false_eq_true, false_and, and_false, or_false, false_or, true_or, or_true]
  refine jk_Vg X hR d_MM_feed_52 q_MM_feed_52 m_MM_lay i_MM_lay e_MM_lay (ci := 11) rfl rfl (by omega) mm_a (c_MM_lay M.2.1 E _ _ _ _ hab hn0 _ _ _ _ (k + 16) (by omega) (va_us _ _ _) _) rfl rfl ⟨Nat.le_of_ble_eq_true rfl, Nat.le_of_ble_eq_true rfl⟩ (c' := 0) rfl (s' := 0) rfl ⟨Nat.le_of_ble_eq_true rfl, Nat.le_of_ble_eq_true rfl⟩ (Nat.le_of_ble_eq_true rfl) (pc' := 55) rfl ?_
  rintro _ _ _ ⟨rfl, hn2, rfl⟩
  obtain rfl : n = _ := hn2.symm
  simp only [Option.toList_none, List.nil_append, va_uu, Nat.add_assoc, Nat.reduceAdd]
  exact jk_vret X d_MM_feed_55 hr (Nat.le_refl _) (Nat.le_refl _) ⟨rfl, rfl, rfl⟩
set_option maxRecDepth 100000 in
set_option maxHeartbeats 4000000 in
theorem c_MM_feed_f (l : Launch) (E : jE) (σ : Nat → jcell) (n : Nat) (a n0 : Nat) (hab : a < n0) (hn0 : n0 + 53 ≤ n) (F : Nat → Int32) (e : jv) (T O : Nat → Int32) (k : Nat) (hk : k ≤ 65536) (hk2 : 65536 < k + 20) (hF : F 1 = nI k) (v0 v1 v2 v3 v4 : Int32) : jMet l E jcl jtb lw_tbl y_MM_feed { frames := 0, cells := 0, slots := 0, locals := 0 } [.inr (.inr (some (.inl (a)))), .inl v0, .inl v1, .inl v2, .inl v3, .inl v4] (mmP σ a n0 F e T O) n (fun r σ' n' => r = none ∧ n' = n ∧ σ' = (mmP σ a n0 (va_up F 0 1) e T O)) := by
  refine jMet_of (hY := rfl) false (fun h => by cases h) (by decide) (Nat.le_of_ble_eq_true rfl) [some (.inr (.inr (some (.inl (a))))), some (.inl v0), some (.inl v1), some (.inl v2), some (.inl v3), some (.inl v4)] rfl ?_
  intro M hl hR X hr
  have haa : (a < n) = True := eq_true (by omega)
  have ht : (n0 < n) = True := eq_true (by omega)
  have ho : (n0 + 1 < n) = True := eq_true (by omega)
  have hle : (nI k + 20 ≤ (65536 : Int32)) = (k + 20 ≤ 65536) := by
    rw [show (20 : Int32) = nI 20 from rfl, nI_add, show (65536 : Int32) = nI 65536 from rfl, nI_leI (by omega) (by omega)]
  refine jrun_ok jC X k_MM_feed_0 0 _ _ _ o_MM_feed_0 ?_
  simp only [k_MM_feed_0, jrun, jstep, jldi, jldl, jlda, j1, j2, jl1, jl2, jli, ja1, jbr, jald, jast, jlald, jlast, jalen, jget, jput, jfit, jdup, jdupx, jdupx2, jdup2, jcat, jset1, jset2, jkill, List.getElem?_cons_zero, List.getElem?_cons_succ, List.set_cons_zero, List.set_cons_succ, List.length_cons, List.length_nil, Nat.reduceAdd, Nat.reduceLT, Int32.reduceToNatClampNeg, true_and, and_true, and_self, reduceCtorEq, not_false_eq_true, false_and, and_false, or_false, false_or, true_or, or_true, mm_a, mm_t hab, mm_o hab, mm_ua, mm_ut hab, mm_uo hab, mm_l, haa, ht, ho, mm_f0, mm_f1, mm_f3, mm_f8, mm_f9, mm_f10, mm_f11, mm_f12, mm_f13, mm_f16, mm_f2, mm_f4, mm_f5, mm_f6, mm_f14, mm_f15, mm_f17, mm_f18, mm_s0, mm_s1, mm_s3, mm_s8, mm_s9, mm_s10, mm_s11, mm_s12, mm_s13, mm_s16, hF, hle]
  refine ⟨fun h => absurd h (by omega), fun _ => ?_⟩
  refine jrun_ok jC X k_MM_feed_18 18 _ _ _ o_MM_feed_18 ?_
  simp only [k_MM_feed_18, jrun, jstep, jldi, jldl, jlda, j1, j2, jl1, jl2, jli, ja1, jbr, jald, jast, jlald, jlast, jalen, jget, jput, jfit, jdup, jdupx, jdupx2, jdup2, jcat, jset1, jset2, jkill, List.getElem?_cons_zero, List.getElem?_cons_succ, List.set_cons_zero, List.set_cons_succ, List.length_cons, List.length_nil, Nat.reduceAdd, Nat.reduceLT, Int32.reduceToNatClampNeg, true_and, and_true, and_self, reduceCtorEq, not_false_eq_true, false_and, and_false, or_false, false_or, true_or, or_true, mm_a, mm_t hab, mm_o hab, mm_ua, mm_ut hab, mm_uo hab, mm_l, haa, ht, ho, mm_f0, mm_f1, mm_f3, mm_f8, mm_f9, mm_f10, mm_f11, mm_f12, mm_f13, mm_f16, mm_f2, mm_f4, mm_f5, mm_f6, mm_f14, mm_f15, mm_f17, mm_f18, mm_s0, mm_s1, mm_s3, mm_s8, mm_s9, mm_s10, mm_s11, mm_s12, mm_s13, mm_s16, va_us]
  refine ⟨fun _ => ?_, fun h => absurd h (by decide)⟩
  exact jk_vret X d_MM_feed_55 hr (Nat.le_refl _) (Nat.le_refl _) ⟨rfl, rfl, rfl⟩
set_option maxRecDepth 100000 in
set_option maxHeartbeats 4000000 in
theorem c_MM_out (l : Launch) (E : jE) (σ : Nat → jcell) (n : Nat) (a n0 : Nat) (hab : a < n0) (hn0 : n0 + 53 ≤ n) (F : Nat → Int32) (e : jv) (T O : Nat → Int32) (m : Nat) (hm : m ≤ 65536) (hF : F 3 = nI m) (q : Int32) : jMet l E jcl jtb lw_tbl y_MM_out { frames := 0, cells := 0, slots := 0, locals := 0 } [.inr (.inr (some (.inl (a)))), .inl q] (mmP σ a n0 F e T O) n (fun r σ' n' => n' = n ∧ ((q < 0 ∨ ¬ q < nI m) ∧ r = some (.inl 0) ∧ σ' = (mmP σ a n0 (va_up F 0 1) e T O) ∨ ¬ q < 0 ∧ q < nI m ∧ r = some (.inl (O q.toNatClampNeg &&& 255)) ∧ σ' = (mmP σ a n0 (va_up F 0 0) e T O))) := by
  refine jMet_of (hY := rfl) false (fun h => by cases h) (by decide) (Nat.le_of_ble_eq_true rfl) [some (.inr (.inr (some (.inl (a))))), some (.inl q)] rfl ?_
  intro M hl hR X hr
  have haa : (a < n) = True := eq_true (by omega)
  have ht : (n0 < n) = True := eq_true (by omega)
  have ho : (n0 + 1 < n) = True := eq_true (by omega)
  have C13 : (q < 0 ∨ ¬ q < nI m) → jJ E jcl 2 M (jQ E jcl M (fun r σ' n' => n' = n ∧ ((q < 0 ∨ ¬ q < nI m) ∧ r = some (.inl 0) ∧ σ' = (mmP σ a n0 (va_up F 0 1) e T O) ∨ ¬ q < 0 ∧ q < nI m ∧ r = some (.inl (O q.toNatClampNeg &&& 255)) ∧ σ' = (mmP σ a n0 (va_up F 0 0) e T O))) 0 0) n 0 0 13 [some (.inr (.inr (some (.inl (a))))), some (.inl q)] [.inr (.inr (some (.inl (a))))] (mmP σ a n0 F e T O) := by
    intro hq
    refine jrun_ok jC X k_MM_out_13 13 _ _ _ o_MM_out_13 ?_
    simp only [k_MM_out_13, jrun, jstep, jldi, jldl, jlda, j1, j2, jl1, jl2, jli, ja1, jbr, jald, jast, jlald, jlast, jalen, jget, jput, jfit, jdup, jdupx, jdupx2, jdup2, jcat, jset1, jset2, jkill, List.getElem?_cons_zero, List.getElem?_cons_succ, List.set_cons_zero, List.set_cons_succ, List.length_cons, List.length_nil, Nat.reduceAdd, Nat.reduceLT, Int32.reduceToNatClampNeg, true_and, and_true, and_self, reduceCtorEq, not_false_eq_true, false_and, and_false, or_false, false_or, true_or, or_true]
    refine jrun_ok jC X k_MM_out_18 18 _ _ _ o_MM_out_18 ?_
    simp only [k_MM_out_18, jrun, jstep, jldi, jldl, jlda, j1, j2, jl1, jl2, jli, ja1, jbr, jald, jast, jlald, jlast, jalen, jget, jput, jfit, jdup, jdupx, jdupx2, jdup2, jcat, jset1, jset2, jkill, List.getElem?_cons_zero, List.getElem?_cons_succ, List.set_cons_zero, List.set_cons_succ, List.length_cons, List.length_nil, Nat.reduceAdd, Nat.reduceLT, Int32.reduceToNatClampNeg, true_and, and_true, and_self, reduceCtorEq, not_false_eq_true, false_and, and_false, or_false, false_or, true_or, or_true, mm_a, mm_t hab, mm_o hab, mm_ua, mm_ut hab, mm_uo hab, mm_l, haa, ht, ho, mm_f0, mm_f1, mm_f3, mm_f8, mm_f9, mm_f10, mm_f11, mm_f12, mm_f13, mm_f16, mm_f2, mm_f4, mm_f5, mm_f6, mm_f14, mm_f15, mm_f17, mm_f18, mm_s0, mm_s1, mm_s3, mm_s8, mm_s9, mm_s10, mm_s11, mm_s12, mm_s13, mm_s16, va_us]
    refine ⟨fun h => absurd h (by decide), fun _ => ?_⟩
    exact jk_iret X d_MM_out_42 hr rfl (Nat.le_refl _) (Nat.le_refl _) ⟨rfl, Or.inl ⟨hq, rfl, rfl⟩⟩
  refine jrun_ok jC X k_MM_out_0 0 _ _ _ o_MM_out_0 ?_
  simp only [k_MM_out_0, jrun, jstep, jldi, jldl, jlda, j1, j2, jl1, jl2, jli, ja1, jbr, jald, jast, jlald, jlast, jalen, jget, jput, jfit, jdup, jdupx, jdupx2, jdup2, jcat, jset1, jset2, jkill, List.getElem?_cons_zero, List.getElem?_cons_succ, List.set_cons_zero, List.set_cons_succ, List.length_cons, List.length_nil, Nat.reduceAdd, Nat.reduceLT, Int32.reduceToNatClampNeg, true_and, and_true, and_self, reduceCtorEq, not_false_eq_true, false_and, and_false, or_false, false_or, true_or, or_true, mm_a, mm_t hab, mm_o hab, mm_ua, mm_ut hab, mm_uo hab, mm_l, haa, ht, ho, mm_f0, mm_f1, mm_f3, mm_f8, mm_f9, mm_f10, mm_f11, mm_f12, mm_f13, mm_f16, mm_f2, mm_f4, mm_f5, mm_f6, mm_f14, mm_f15, mm_f17, mm_f18, mm_s0, mm_s1, mm_s3, mm_s8, mm_s9, mm_s10, mm_s11, mm_s12, mm_s13, mm_s16, hF]
  refine ⟨fun h => C13 (Or.inl h), fun h1 => ⟨fun h2 => ?_, fun h2 => C13 (Or.inr h2)⟩⟩
  have hv : vp_in q 65536 := by
    have e3 : (nI m).toInt = m := nI_toInt (by omega)
    have h3 := h1
    have h4 := h2
    rw [Int32.lt_iff_toInt_lt] at h3 h4
    rw [e3] at h4
    have e0 : (0 : Int32).toInt = 0 := rfl
    rw [e0] at h3
    rintro (h | h)
    · exact h1 h
    · have h5 : 65536 ≤ q.toInt.toNat := h
      omega
  refine jrun_ok jC X k_MM_out_17 17 _ _ _ o_MM_out_17 ?_
  simp only [k_MM_out_17, jrun, jstep, jldi, jldl, jlda, j1, j2, jl1, jl2, jli, ja1, jbr, jald, jast, jlald, jlast, jalen, jget, jput, jfit, jdup, jdupx, jdupx2, jdup2, jcat, jset1, jset2, jkill, List.getElem?_cons_zero, List.getElem?_cons_succ, List.set_cons_zero, List.set_cons_succ, List.length_cons, List.length_nil, Nat.reduceAdd, Nat.reduceLT, Int32.reduceToNatClampNeg, true_and, and_true, and_self, reduceCtorEq, not_false_eq_true, false_and, and_false, or_false, false_or, true_or, or_true]
  refine jrun_ok jC X k_MM_out_18 18 _ _ _ o_MM_out_18 ?_
  simp only [k_MM_out_18, jrun, jstep, jldi, jldl, jlda, j1, j2, jl1, jl2, jli, ja1, jbr, jald, jast, jlald, jlast, jalen, jget, jput, jfit, jdup, jdupx, jdupx2, jdup2, jcat, jset1, jset2, jkill, List.getElem?_cons_zero, List.getElem?_cons_succ, List.set_cons_zero, List.set_cons_succ, List.length_cons, List.length_nil, Nat.reduceAdd, Nat.reduceLT, Int32.reduceToNatClampNeg, true_and, and_true, and_self, reduceCtorEq, not_false_eq_true, false_and, and_false, or_false, false_or, true_or, or_true, mm_a, mm_t hab, mm_o hab, mm_ua, mm_ut hab, mm_uo hab, mm_l, haa, ht, ho, mm_f0, mm_f1, mm_f3, mm_f8, mm_f9, mm_f10, mm_f11, mm_f12, mm_f13, mm_f16, mm_f2, mm_f4, mm_f5, mm_f6, mm_f14, mm_f15, mm_f17, mm_f18, mm_s0, mm_s1, mm_s3, mm_s8, mm_s9, mm_s10, mm_s11, mm_s12, mm_s13, mm_s16, va_us]
  refine ⟨fun _ => ?_, fun h => absurd (by decide) h⟩
  refine jrun_ok jC X k_MM_out_32 32 _ _ _ o_MM_out_32 ?_
  simp only [k_MM_out_32, jrun, jstep, jldi, jldl, jlda, j1, j2, jl1, jl2, jli, ja1, jbr, jald, jast, jlald, jlast, jalen, jget, jput, jfit, jdup, jdupx, jdupx2, jdup2, jcat, jset1, jset2, jkill, List.getElem?_cons_zero, List.getElem?_cons_succ, List.set_cons_zero, List.set_cons_succ, List.length_cons, List.length_nil, Nat.reduceAdd, Nat.reduceLT, Int32.reduceToNatClampNeg, true_and, and_true, and_self, reduceCtorEq, not_false_eq_true, false_and, and_false, or_false, false_or, true_or, or_true, mm_a, mm_t hab, mm_o hab, mm_ua, mm_ut hab, mm_uo hab, mm_l, haa, ht, ho, mm_f0, mm_f1, mm_f3, mm_f8, mm_f9, mm_f10, mm_f11, mm_f12, mm_f13, mm_f16, mm_f2, mm_f4, mm_f5, mm_f6, mm_f14, mm_f15, mm_f17, mm_f18, mm_s0, mm_s1, mm_s3, mm_s8, mm_s9, mm_s10, mm_s11, mm_s12, mm_s13, mm_s16, if_true, ite_true]
  refine ⟨hv, ?_⟩
  exact jk_iret X d_MM_out_42 hr rfl (Nat.le_refl _) (Nat.le_refl _) ⟨rfl, Or.inr ⟨h1, h2, rfl, rfl⟩⟩
set_option maxRecDepth 100000 in
set_option maxHeartbeats 4000000 in
theorem c_MM_end_0 (l : Launch) (E : jE) (σ : Nat → jcell) (n : Nat) (a n0 : Nat) (hab : a < n0) (hn0 : n0 + 53 ≤ n) (F : Nat → Int32) (e : jv) (T O : Nat → Int32) (hF : F 1 = 0) (q : Int32) : jMet l E jcl jtb lw_tbl y_MM_end { frames := 0, cells := 0, slots := 0, locals := 0 } [.inr (.inr (some (.inl (a)))), .inl q] (mmP σ a n0 F e T O) n (fun r σ' n' => n' = n ∧ r = some (.inl 0) ∧ (q ≠ 0 ∧ σ' = (mmP σ a n0 (va_up F 0 1) e T O) ∨ q = 0 ∧ σ' = (mmP σ a n0 (va_up (va_up (va_up (va_up (va_up (va_up F 0 0) 3 0) 12 0) 10 0) 11 0) 1 0) e T O))) := by
  refine jMet_of (hY := rfl) false (fun h => by cases h) (by decide) (Nat.le_of_ble_eq_true rfl) [some (.inr (.inr (some (.inl (a))))), some (.inl q)] rfl ?_
  intro M hl hR X hr
  have haa : (a < n) = True := eq_true (by omega)
  have ht : (n0 < n) = True := eq_true (by omega)
  have ho : (n0 + 1 < n) = True := eq_true (by omega)
  have C13 : q ≠ 0 → jJ E jcl 2 M (jQ E jcl M (fun r σ' n' => n' = n ∧ r = some (.inl 0) ∧ (q ≠ 0 ∧ σ' = (mmP σ a n0 (va_up F 0 1) e T O) ∨ q = 0 ∧ σ' = (mmP σ a n0 (va_up (va_up (va_up (va_up (va_up (va_up F 0 0) 3 0) 12 0) 10 0) 11 0) 1 0) e T O))) 0 0) n 0 0 13 [some (.inr (.inr (some (.inl (a))))), some (.inl q)] [.inr (.inr (some (.inl (a))))] (mmP σ a n0 F e T O) := by
    intro hq
    refine jrun_ok jC X k_MM_end_13 13 _ _ _ o_MM_end_13 ?_
    simp only [k_MM_end_13, jrun, jstep, jldi, jldl, jlda, j1, j2, jl1, jl2, jli, ja1, jbr, jald, jast, jlald, jlast, jalen, jget, jput, jfit, jdup, jdupx, jdupx2, jdup2, jcat, jset1, jset2, jkill, List.getElem?_cons_zero, List.getElem?_cons_succ, List.set_cons_zero, List.set_cons_succ, List.length_cons, List.length_nil, Nat.reduceAdd, Nat.reduceLT, Int32.reduceToNatClampNeg, true_and, and_true, and_self, reduceCtorEq, not_false_eq_true, false_and, and_false, or_false, false_or, true_or, or_true]
    refine jrun_ok jC X k_MM_end_18 18 _ _ _ o_MM_end_18 ?_
    simp only [k_MM_end_18, jrun, jstep, jldi, jldl, jlda, j1, j2, jl1, jl2, jli, ja1, jbr, jald, jast, jlald, jlast, jalen, jget, jput, jfit, jdup, jdupx, jdupx2, jdup2, jcat, jset1, jset2, jkill, List.getElem?_cons_zero, List.getElem?_cons_succ, List.set_cons_zero, List.set_cons_succ, List.length_cons, List.length_nil, Nat.reduceAdd, Nat.reduceLT, Int32.reduceToNatClampNeg, true_and, and_true, and_self, reduceCtorEq, not_false_eq_true, false_and, and_false, or_false, false_or, true_or, or_true, mm_a, mm_t hab, mm_o hab, mm_ua, mm_ut hab, mm_uo hab, mm_l, haa, ht, ho, mm_f0, mm_f1, mm_f3, mm_f8, mm_f9, mm_f10, mm_f11, mm_f12, mm_f13, mm_f16, mm_f2, mm_f4, mm_f5, mm_f6, mm_f14, mm_f15, mm_f17, mm_f18, mm_s0, mm_s1, mm_s3, mm_s8, mm_s9, mm_s10, mm_s11, mm_s12, mm_s13, mm_s16, va_us]
    refine ⟨fun h => absurd h (by decide), fun _ => ?_⟩
    exact jk_iret X d_MM_end_29 hr rfl (Nat.le_refl _) (Nat.le_refl _) ⟨rfl, rfl, Or.inl ⟨hq, rfl⟩⟩
  refine jrun_ok jC X k_MM_end_0 0 _ _ _ o_MM_end_0 ?_
  simp only [k_MM_end_0, jrun, jstep, jldi, jldl, jlda, j1, j2, jl1, jl2, jli, ja1, jbr, jald, jast, jlald, jlast, jalen, jget, jput, jfit, jdup, jdupx, jdupx2, jdup2, jcat, jset1, jset2, jkill, List.getElem?_cons_zero, List.getElem?_cons_succ, List.set_cons_zero, List.set_cons_succ, List.length_cons, List.length_nil, Nat.reduceAdd, Nat.reduceLT, Int32.reduceToNatClampNeg, true_and, and_true, and_self, reduceCtorEq, not_false_eq_true, false_and, and_false, or_false, false_or, true_or, or_true, mm_a, mm_t hab, mm_o hab, mm_ua, mm_ut hab, mm_uo hab, mm_l, haa, ht, ho, mm_f0, mm_f1, mm_f3, mm_f8, mm_f9, mm_f10, mm_f11, mm_f12, mm_f13, mm_f16, mm_f2, mm_f4, mm_f5, mm_f6, mm_f14, mm_f15, mm_f17, mm_f18, mm_s0, mm_s1, mm_s3, mm_s8, mm_s9, mm_s10, mm_s11, mm_s12, mm_s13, mm_s16, hF]
  refine ⟨fun h => C13 (fun e0 => by subst e0; exact absurd h (by decide)), fun h1 => ⟨fun h2 => ?_, fun h2 => C13 (fun e0 => h2 (by subst e0; decide))⟩⟩
  have hq : q = 0 := by
    rw [Int32.lt_iff_toInt_lt] at h1
    rw [Int32.le_iff_toInt_le] at h2
    have e0 : (0 : Int32).toInt = 0 := rfl
    rw [e0] at h1 h2
    exact Int32.toInt_inj.mp (by rw [e0]; omega)
  subst hq
  refine jrun_ok jC X k_MM_end_17 17 _ _ _ o_MM_end_17 ?_
  simp only [k_MM_end_17, jrun, jstep, jldi, jldl, jlda, j1, j2, jl1, jl2, jli, ja1, jbr, jald, jast, jlald, jlast, jalen, jget, jput, jfit, jdup, jdupx, jdupx2, jdup2, jcat, jset1, jset2, jkill, List.getElem?_cons_zero, List.getElem?_cons_succ, List.set_cons_zero, List.set_cons_succ, List.length_cons, List.length_nil, Nat.reduceAdd, Nat.reduceLT, Int32.reduceToNatClampNeg, true_and, and_true, and_self, reduceCtorEq, not_false_eq_true, false_and, and_false, or_false, false_or, true_or, or_true]
  refine jrun_ok jC X k_MM_end_18 18 _ _ _ o_MM_end_18 ?_
  simp only [k_MM_end_18, jrun, jstep, jldi, jldl, jlda, j1, j2, jl1, jl2, jli, ja1, jbr, jald, jast, jlald, jlast, jalen, jget, jput, jfit, jdup, jdupx, jdupx2, jdup2, jcat, jset1, jset2, jkill, List.getElem?_cons_zero, List.getElem?_cons_succ, List.set_cons_zero, List.set_cons_succ, List.length_cons, List.length_nil, Nat.reduceAdd, Nat.reduceLT, Int32.reduceToNatClampNeg, true_and, and_true, and_self, reduceCtorEq, not_false_eq_true, false_and, and_false, or_false, false_or, true_or, or_true, mm_a, mm_t hab, mm_o hab, mm_ua, mm_ut hab, mm_uo hab, mm_l, haa, ht, ho, mm_f0, mm_f1, mm_f3, mm_f8, mm_f9, mm_f10, mm_f11, mm_f12, mm_f13, mm_f16, mm_f2, mm_f4, mm_f5, mm_f6, mm_f14, mm_f15, mm_f17, mm_f18, mm_s0, mm_s1, mm_s3, mm_s8, mm_s9, mm_s10, mm_s11, mm_s12, mm_s13, mm_s16, va_us]
  refine ⟨fun _ => ?_, fun h => absurd (by decide) h⟩
  refine jrun_ok jC X k_MM_end_30 30 _ _ _ o_MM_end_30 ?_
  simp only [k_MM_end_30, jrun, jstep, jldi, jldl, jlda, j1, j2, jl1, jl2, jli, ja1, jbr, jald, jast, jlald, jlast, jalen, jget, jput, jfit, jdup, jdupx, jdupx2, jdup2, jcat, jset1, jset2, jkill, List.getElem?_cons_zero, List.getElem?_cons_succ, List.set_cons_zero, List.set_cons_succ, List.length_cons, List.length_nil, Nat.reduceAdd, Nat.reduceLT, Int32.reduceToNatClampNeg, true_and, and_true, and_self, reduceCtorEq, not_false_eq_true, false_and, and_false, or_false, false_or, true_or, or_true, mm_a, mm_t hab, mm_o hab, mm_ua, mm_ut hab, mm_uo hab, mm_l, haa, ht, ho, mm_f0, mm_f1, mm_f3, mm_f8, mm_f9, mm_f10, mm_f11, mm_f12, mm_f13, mm_f16, mm_f2, mm_f4, mm_f5, mm_f6, mm_f14, mm_f15, mm_f17, mm_f18, mm_s0, mm_s1, mm_s3, mm_s8, mm_s9, mm_s10, mm_s11, mm_s12, mm_s13, mm_s16]
  refine jrun_ok jC X k_MM_end_50 50 _ _ _ o_MM_end_50 ?_
  simp only [k_MM_end_50, jrun, jstep, jldi, jldl, jlda, j1, j2, jl1, jl2, jli, ja1, jbr, jald, jast, jlald, jlast, jalen, jget, jput, jfit, jdup, jdupx, jdupx2, jdup2, jcat, jset1, jset2, jkill, List.getElem?_cons_zero, List.getElem?_cons_succ, List.set_cons_zero, List.set_cons_succ, List.length_cons, List.length_nil, Nat.reduceAdd, Nat.reduceLT, Int32.reduceToNatClampNeg, true_and, and_true, and_self, reduceCtorEq, not_false_eq_true, false_and, and_false, or_false, false_or, true_or, or_true, mm_a, mm_t hab, mm_o hab, mm_ua, mm_ut hab, mm_uo hab, mm_l, haa, ht, ho, mm_f0, mm_f1, mm_f3, mm_f8, mm_f9, mm_f10, mm_f11, mm_f12, mm_f13, mm_f16, mm_f2, mm_f4, mm_f5, mm_f6, mm_f14, mm_f15, mm_f17, mm_f18, mm_s0, mm_s1, mm_s3, mm_s8, mm_s9, mm_s10, mm_s11, mm_s12, mm_s13, mm_s16, va_up, Nat.reduceEqDiff, ite_true, if_true, ite_false, if_false]
  refine ⟨fun _ => ?_, fun h => absurd (by decide) h⟩
  refine jrun_ok jC X k_MM_end_83 83 _ _ _ o_MM_end_83 ?_
  simp only [k_MM_end_83, jrun, jstep, jldi, jldl, jlda, j1, j2, jl1, jl2, jli, ja1, jbr, jald, jast, jlald, jlast, jalen, jget, jput, jfit, jdup, jdupx, jdupx2, jdup2, jcat, jset1, jset2, jkill, List.getElem?_cons_zero, List.getElem?_cons_succ, List.set_cons_zero, List.set_cons_succ, List.length_cons, List.length_nil, Nat.reduceAdd, Nat.reduceLT, Int32.reduceToNatClampNeg, true_and, and_true, and_self, reduceCtorEq, not_false_eq_true, false_and, and_false, or_false, false_or, true_or, or_true, mm_a, mm_t hab, mm_o hab, mm_ua, mm_ut hab, mm_uo hab, mm_l, haa, ht, ho, mm_f0, mm_f1, mm_f3, mm_f8, mm_f9, mm_f10, mm_f11, mm_f12, mm_f13, mm_f16, mm_f2, mm_f4, mm_f5, mm_f6, mm_f14, mm_f15, mm_f17, mm_f18, mm_s0, mm_s1, mm_s3, mm_s8, mm_s9, mm_s10, mm_s11, mm_s12, mm_s13, mm_s16, va_up, Nat.reduceEqDiff, ite_true, if_true, ite_false, if_false]
  exact jk_iret X d_MM_end_92 hr rfl (Nat.le_refl _) (Nat.le_refl _) ⟨rfl, rfl, Or.inr rfl⟩

