/-! the whole of the Texts as a picture: its numbers F by field, its rows A in the order in which they were made -/
def ta_ty (j : Nat) : FieldType := if j ∈ [0, 1, 10, 15, 17, 24] then .char else .int
def ta_len (j : Nat) : Nat := [65536, 80000, 2, 602, 602, 602, 602, 602, 2408, 602, 120400, 128, 10, 2, 16, 192, 16, 1536, 2, 64, 64, 5, 2048, 301, 16].getD j 0
def ta_fl (n : Nat) (F : Nat → Int32) : List jv := [.inl (F 0), .inl (F 1), .inr (.inr (some (.inl (n)))), .inl (F 3), .inr (.inr (some (.inl (n + 1)))), .inl (F 5), .inl (F 6), .inr (.inr (some (.inl (n + 2)))), .inr (.inr (some (.inl (n + 3)))), .inr (.inr (some (.inl (n + 4)))), .inr (.inr (some (.inl (n + 5)))), .inr (.inr (some (.inl (n + 6)))), .inr (.inr (some (.inl (n + 7)))), .inr (.inr (some (.inl (n + 8)))), .inr (.inr (some (.inl (n + 9)))), .inr (.inr (some (.inl (n + 10)))), .inr (.inr (some (.inl (n + 11)))), .inr (.inr (some (.inl (n + 12)))), .inr (.inr (some (.inl (n + 13)))), .inr (.inr (some (.inl (n + 14)))), .inr (.inr (some (.inl (n + 15)))), .inr (.inr (some (.inl (n + 16)))), .inr (.inr (some (.inl (n + 17)))), .inr (.inr (some (.inl (n + 18)))), .inr (.inr (some (.inl (n + 19)))), .inl (F 25), .inl (F 26), .inl (F 27), .inl (F 28), .inl (F 29), .inr (.inr (some (.inl (n + 20)))), .inr (.inr (some (.inl (n + 21)))), .inr (.inr (some (.inl (n + 22)))), .inl (F 33), .inr (.inr (some (.inl (n + 23)))), .inr (.inr (some (.inl (n + 24)))), .inl (F 36), .inl (F 37), .inl (F 38), .inl (F 39)]
def txA (σ : Nat → jcell) (a n : Nat) (F : Nat → Int32) (A : Nat → Nat → Int32) : Nat → jcell := fun p => if p = a then .inr (12, ta_fl n F) else if n ≤ p ∧ p < n + 25 then .inl (ta_ty (p - n), ta_len (p - n), .inl (A (p - n))) else σ p
section TXA
variable {σ : Nat → jcell} {a n : Nat} {F : Nat → Int32} {A : Nat → Nat → Int32}
theorem ta_a : txA σ a n F A a = .inr (12, ta_fl n F) := if_pos rfl
theorem ta_g {j : Nat} (ha : a < n) (hj : j < 25) : txA σ a n F A (n + j) = .inl (ta_ty j, ta_len j, .inl (A j)) := by
  unfold txA
  rw [if_neg (by omega), if_pos ⟨by omega, by omega⟩, Nat.add_sub_cancel_left]
theorem ta_ug {j : Nat} {f : Nat → Int32} (ha : a < n) (hj : j < 25) : jup (txA σ a n F A) (n + j) (.inl (ta_ty j, ta_len j, .inl f)) = txA σ a n F (va_up A j f) := by
  funext p
  by_cases h : p = n + j
  · subst h
    rw [jup_s, ta_g ha hj]
    simp [va_up]
  · rw [jup_n h]
    unfold txA
    by_cases h1 : p = a
    · rw [if_pos h1, if_pos h1]
    · rw [if_neg h1, if_neg h1]
      by_cases h2 : n ≤ p ∧ p < n + 25
      · rw [if_pos h2, if_pos h2]
        have h3 : ¬ p - n = j := by omega
        simp [va_up, h3]
      · rw [if_neg h2, if_neg h2]
theorem ta_ua {F' : Nat → Int32} : jup (txA σ a n F A) a (.inr (12, ta_fl n F')) = txA σ a n F' A := by
  funext p
  by_cases h : p = a
  · subst h
    rw [jup_s, ta_a]
  · rw [jup_n h]
    unfold txA
    rw [if_neg h, if_neg h]
theorem ta_r0 (ha : a < n) : txA σ a n F A (n) = .inl (.char, 65536, .inl (A 0)) := ta_g (j := 0) ha (by decide)
theorem ta_u0 {f : Nat → Int32} (ha : a < n) : jup (txA σ a n F A) (n) (.inl (.char, 65536, .inl f)) = txA σ a n F (va_up A 0 f) := ta_ug (j := 0) ha (by decide)
theorem ta_r1 (ha : a < n) : txA σ a n F A (n + 1) = .inl (.char, 80000, .inl (A 1)) := ta_g (j := 1) ha (by decide)
theorem ta_u1 {f : Nat → Int32} (ha : a < n) : jup (txA σ a n F A) (n + 1) (.inl (.char, 80000, .inl f)) = txA σ a n F (va_up A 1 f) := ta_ug (j := 1) ha (by decide)
theorem ta_r2 (ha : a < n) : txA σ a n F A (n + 2) = .inl (.int, 2, .inl (A 2)) := ta_g (j := 2) ha (by decide)
theorem ta_u2 {f : Nat → Int32} (ha : a < n) : jup (txA σ a n F A) (n + 2) (.inl (.int, 2, .inl f)) = txA σ a n F (va_up A 2 f) := ta_ug (j := 2) ha (by decide)
theorem ta_r3 (ha : a < n) : txA σ a n F A (n + 3) = .inl (.int, 602, .inl (A 3)) := ta_g (j := 3) ha (by decide)
theorem ta_u3 {f : Nat → Int32} (ha : a < n) : jup (txA σ a n F A) (n + 3) (.inl (.int, 602, .inl f)) = txA σ a n F (va_up A 3 f) := ta_ug (j := 3) ha (by decide)
theorem ta_r4 (ha : a < n) : txA σ a n F A (n + 4) = .inl (.int, 602, .inl (A 4)) := ta_g (j := 4) ha (by decide)
theorem ta_u4 {f : Nat → Int32} (ha : a < n) : jup (txA σ a n F A) (n + 4) (.inl (.int, 602, .inl f)) = txA σ a n F (va_up A 4 f) := ta_ug (j := 4) ha (by decide)
theorem ta_r5 (ha : a < n) : txA σ a n F A (n + 5) = .inl (.int, 602, .inl (A 5)) := ta_g (j := 5) ha (by decide)
theorem ta_u5 {f : Nat → Int32} (ha : a < n) : jup (txA σ a n F A) (n + 5) (.inl (.int, 602, .inl f)) = txA σ a n F (va_up A 5 f) := ta_ug (j := 5) ha (by decide)
theorem ta_r6 (ha : a < n) : txA σ a n F A (n + 6) = .inl (.int, 602, .inl (A 6)) := ta_g (j := 6) ha (by decide)
theorem ta_u6 {f : Nat → Int32} (ha : a < n) : jup (txA σ a n F A) (n + 6) (.inl (.int, 602, .inl f)) = txA σ a n F (va_up A 6 f) := ta_ug (j := 6) ha (by decide)
theorem ta_r7 (ha : a < n) : txA σ a n F A (n + 7) = .inl (.int, 602, .inl (A 7)) := ta_g (j := 7) ha (by decide)
theorem ta_u7 {f : Nat → Int32} (ha : a < n) : jup (txA σ a n F A) (n + 7) (.inl (.int, 602, .inl f)) = txA σ a n F (va_up A 7 f) := ta_ug (j := 7) ha (by decide)
theorem ta_r8 (ha : a < n) : txA σ a n F A (n + 8) = .inl (.int, 2408, .inl (A 8)) := ta_g (j := 8) ha (by decide)
theorem ta_u8 {f : Nat → Int32} (ha : a < n) : jup (txA σ a n F A) (n + 8) (.inl (.int, 2408, .inl f)) = txA σ a n F (va_up A 8 f) := ta_ug (j := 8) ha (by decide)
theorem ta_r9 (ha : a < n) : txA σ a n F A (n + 9) = .inl (.int, 602, .inl (A 9)) := ta_g (j := 9) ha (by decide)
theorem ta_u9 {f : Nat → Int32} (ha : a < n) : jup (txA σ a n F A) (n + 9) (.inl (.int, 602, .inl f)) = txA σ a n F (va_up A 9 f) := ta_ug (j := 9) ha (by decide)
theorem ta_r10 (ha : a < n) : txA σ a n F A (n + 10) = .inl (.char, 120400, .inl (A 10)) := ta_g (j := 10) ha (by decide)
theorem ta_u10 {f : Nat → Int32} (ha : a < n) : jup (txA σ a n F A) (n + 10) (.inl (.char, 120400, .inl f)) = txA σ a n F (va_up A 10 f) := ta_ug (j := 10) ha (by decide)
theorem ta_r11 (ha : a < n) : txA σ a n F A (n + 11) = .inl (.int, 128, .inl (A 11)) := ta_g (j := 11) ha (by decide)
theorem ta_u11 {f : Nat → Int32} (ha : a < n) : jup (txA σ a n F A) (n + 11) (.inl (.int, 128, .inl f)) = txA σ a n F (va_up A 11 f) := ta_ug (j := 11) ha (by decide)
theorem ta_r12 (ha : a < n) : txA σ a n F A (n + 12) = .inl (.int, 10, .inl (A 12)) := ta_g (j := 12) ha (by decide)
theorem ta_u12 {f : Nat → Int32} (ha : a < n) : jup (txA σ a n F A) (n + 12) (.inl (.int, 10, .inl f)) = txA σ a n F (va_up A 12 f) := ta_ug (j := 12) ha (by decide)
theorem ta_r13 (ha : a < n) : txA σ a n F A (n + 13) = .inl (.int, 2, .inl (A 13)) := ta_g (j := 13) ha (by decide)
theorem ta_u13 {f : Nat → Int32} (ha : a < n) : jup (txA σ a n F A) (n + 13) (.inl (.int, 2, .inl f)) = txA σ a n F (va_up A 13 f) := ta_ug (j := 13) ha (by decide)
theorem ta_r14 (ha : a < n) : txA σ a n F A (n + 14) = .inl (.int, 16, .inl (A 14)) := ta_g (j := 14) ha (by decide)
theorem ta_u14 {f : Nat → Int32} (ha : a < n) : jup (txA σ a n F A) (n + 14) (.inl (.int, 16, .inl f)) = txA σ a n F (va_up A 14 f) := ta_ug (j := 14) ha (by decide)
theorem ta_r15 (ha : a < n) : txA σ a n F A (n + 15) = .inl (.char, 192, .inl (A 15)) := ta_g (j := 15) ha (by decide)
theorem ta_u15 {f : Nat → Int32} (ha : a < n) : jup (txA σ a n F A) (n + 15) (.inl (.char, 192, .inl f)) = txA σ a n F (va_up A 15 f) := ta_ug (j := 15) ha (by decide)
theorem ta_r16 (ha : a < n) : txA σ a n F A (n + 16) = .inl (.int, 16, .inl (A 16)) := ta_g (j := 16) ha (by decide)
theorem ta_u16 {f : Nat → Int32} (ha : a < n) : jup (txA σ a n F A) (n + 16) (.inl (.int, 16, .inl f)) = txA σ a n F (va_up A 16 f) := ta_ug (j := 16) ha (by decide)
theorem ta_r17 (ha : a < n) : txA σ a n F A (n + 17) = .inl (.char, 1536, .inl (A 17)) := ta_g (j := 17) ha (by decide)
theorem ta_u17 {f : Nat → Int32} (ha : a < n) : jup (txA σ a n F A) (n + 17) (.inl (.char, 1536, .inl f)) = txA σ a n F (va_up A 17 f) := ta_ug (j := 17) ha (by decide)
theorem ta_r18 (ha : a < n) : txA σ a n F A (n + 18) = .inl (.int, 2, .inl (A 18)) := ta_g (j := 18) ha (by decide)
theorem ta_u18 {f : Nat → Int32} (ha : a < n) : jup (txA σ a n F A) (n + 18) (.inl (.int, 2, .inl f)) = txA σ a n F (va_up A 18 f) := ta_ug (j := 18) ha (by decide)
theorem ta_r19 (ha : a < n) : txA σ a n F A (n + 19) = .inl (.int, 64, .inl (A 19)) := ta_g (j := 19) ha (by decide)
theorem ta_u19 {f : Nat → Int32} (ha : a < n) : jup (txA σ a n F A) (n + 19) (.inl (.int, 64, .inl f)) = txA σ a n F (va_up A 19 f) := ta_ug (j := 19) ha (by decide)
theorem ta_r20 (ha : a < n) : txA σ a n F A (n + 20) = .inl (.int, 64, .inl (A 20)) := ta_g (j := 20) ha (by decide)
theorem ta_u20 {f : Nat → Int32} (ha : a < n) : jup (txA σ a n F A) (n + 20) (.inl (.int, 64, .inl f)) = txA σ a n F (va_up A 20 f) := ta_ug (j := 20) ha (by decide)
theorem ta_r21 (ha : a < n) : txA σ a n F A (n + 21) = .inl (.int, 5, .inl (A 21)) := ta_g (j := 21) ha (by decide)
theorem ta_u21 {f : Nat → Int32} (ha : a < n) : jup (txA σ a n F A) (n + 21) (.inl (.int, 5, .inl f)) = txA σ a n F (va_up A 21 f) := ta_ug (j := 21) ha (by decide)
theorem ta_r22 (ha : a < n) : txA σ a n F A (n + 22) = .inl (.int, 2048, .inl (A 22)) := ta_g (j := 22) ha (by decide)
theorem ta_u22 {f : Nat → Int32} (ha : a < n) : jup (txA σ a n F A) (n + 22) (.inl (.int, 2048, .inl f)) = txA σ a n F (va_up A 22 f) := ta_ug (j := 22) ha (by decide)
theorem ta_r23 (ha : a < n) : txA σ a n F A (n + 23) = .inl (.int, 301, .inl (A 23)) := ta_g (j := 23) ha (by decide)
theorem ta_u23 {f : Nat → Int32} (ha : a < n) : jup (txA σ a n F A) (n + 23) (.inl (.int, 301, .inl f)) = txA σ a n F (va_up A 23 f) := ta_ug (j := 23) ha (by decide)
theorem ta_r24 (ha : a < n) : txA σ a n F A (n + 24) = .inl (.char, 16, .inl (A 24)) := ta_g (j := 24) ha (by decide)
theorem ta_u24 {f : Nat → Int32} (ha : a < n) : jup (txA σ a n F A) (n + 24) (.inl (.char, 16, .inl f)) = txA σ a n F (va_up A 24 f) := ta_ug (j := 24) ha (by decide)
theorem ta_f0 : (ta_fl n F)[0]? = some (.inl (F 0)) := rfl
theorem ta_s0 {x : Int32} : (ta_fl n F).set 0 (.inl x) = ta_fl n (va_up F 0 x) := by
  simp [ta_fl, va_up]
theorem ta_f1 : (ta_fl n F)[1]? = some (.inl (F 1)) := rfl
theorem ta_s1 {x : Int32} : (ta_fl n F).set 1 (.inl x) = ta_fl n (va_up F 1 x) := by
  simp [ta_fl, va_up]
theorem ta_f3 : (ta_fl n F)[3]? = some (.inl (F 3)) := rfl
theorem ta_s3 {x : Int32} : (ta_fl n F).set 3 (.inl x) = ta_fl n (va_up F 3 x) := by
  simp [ta_fl, va_up]
theorem ta_f5 : (ta_fl n F)[5]? = some (.inl (F 5)) := rfl
theorem ta_s5 {x : Int32} : (ta_fl n F).set 5 (.inl x) = ta_fl n (va_up F 5 x) := by
  simp [ta_fl, va_up]
theorem ta_f6 : (ta_fl n F)[6]? = some (.inl (F 6)) := rfl
theorem ta_s6 {x : Int32} : (ta_fl n F).set 6 (.inl x) = ta_fl n (va_up F 6 x) := by
  simp [ta_fl, va_up]
theorem ta_f25 : (ta_fl n F)[25]? = some (.inl (F 25)) := rfl
theorem ta_s25 {x : Int32} : (ta_fl n F).set 25 (.inl x) = ta_fl n (va_up F 25 x) := by
  simp [ta_fl, va_up]
theorem ta_f26 : (ta_fl n F)[26]? = some (.inl (F 26)) := rfl
theorem ta_s26 {x : Int32} : (ta_fl n F).set 26 (.inl x) = ta_fl n (va_up F 26 x) := by
  simp [ta_fl, va_up]
theorem ta_f27 : (ta_fl n F)[27]? = some (.inl (F 27)) := rfl
theorem ta_s27 {x : Int32} : (ta_fl n F).set 27 (.inl x) = ta_fl n (va_up F 27 x) := by
  simp [ta_fl, va_up]
theorem ta_f28 : (ta_fl n F)[28]? = some (.inl (F 28)) := rfl
theorem ta_s28 {x : Int32} : (ta_fl n F).set 28 (.inl x) = ta_fl n (va_up F 28 x) := by
  simp [ta_fl, va_up]
theorem ta_f29 : (ta_fl n F)[29]? = some (.inl (F 29)) := rfl
theorem ta_s29 {x : Int32} : (ta_fl n F).set 29 (.inl x) = ta_fl n (va_up F 29 x) := by
  simp [ta_fl, va_up]
theorem ta_f33 : (ta_fl n F)[33]? = some (.inl (F 33)) := rfl
theorem ta_s33 {x : Int32} : (ta_fl n F).set 33 (.inl x) = ta_fl n (va_up F 33 x) := by
  simp [ta_fl, va_up]
theorem ta_f36 : (ta_fl n F)[36]? = some (.inl (F 36)) := rfl
theorem ta_s36 {x : Int32} : (ta_fl n F).set 36 (.inl x) = ta_fl n (va_up F 36 x) := by
  simp [ta_fl, va_up]
theorem ta_f37 : (ta_fl n F)[37]? = some (.inl (F 37)) := rfl
theorem ta_s37 {x : Int32} : (ta_fl n F).set 37 (.inl x) = ta_fl n (va_up F 37 x) := by
  simp [ta_fl, va_up]
theorem ta_f38 : (ta_fl n F)[38]? = some (.inl (F 38)) := rfl
theorem ta_s38 {x : Int32} : (ta_fl n F).set 38 (.inl x) = ta_fl n (va_up F 38 x) := by
  simp [ta_fl, va_up]
theorem ta_f39 : (ta_fl n F)[39]? = some (.inl (F 39)) := rfl
theorem ta_s39 {x : Int32} : (ta_fl n F).set 39 (.inl x) = ta_fl n (va_up F 39 x) := by
  simp [ta_fl, va_up]
theorem ta_f2 : (ta_fl n F)[2]? = some (.inr (.inr (some (.inl (n))))) := rfl
theorem ta_f4 : (ta_fl n F)[4]? = some (.inr (.inr (some (.inl (n + 1))))) := rfl
theorem ta_f7 : (ta_fl n F)[7]? = some (.inr (.inr (some (.inl (n + 2))))) := rfl
theorem ta_f8 : (ta_fl n F)[8]? = some (.inr (.inr (some (.inl (n + 3))))) := rfl
theorem ta_f9 : (ta_fl n F)[9]? = some (.inr (.inr (some (.inl (n + 4))))) := rfl
theorem ta_f10 : (ta_fl n F)[10]? = some (.inr (.inr (some (.inl (n + 5))))) := rfl
theorem ta_f11 : (ta_fl n F)[11]? = some (.inr (.inr (some (.inl (n + 6))))) := rfl
theorem ta_f12 : (ta_fl n F)[12]? = some (.inr (.inr (some (.inl (n + 7))))) := rfl
theorem ta_f13 : (ta_fl n F)[13]? = some (.inr (.inr (some (.inl (n + 8))))) := rfl
theorem ta_f14 : (ta_fl n F)[14]? = some (.inr (.inr (some (.inl (n + 9))))) := rfl
theorem ta_f15 : (ta_fl n F)[15]? = some (.inr (.inr (some (.inl (n + 10))))) := rfl
theorem ta_f16 : (ta_fl n F)[16]? = some (.inr (.inr (some (.inl (n + 11))))) := rfl
theorem ta_f17 : (ta_fl n F)[17]? = some (.inr (.inr (some (.inl (n + 12))))) := rfl
theorem ta_f18 : (ta_fl n F)[18]? = some (.inr (.inr (some (.inl (n + 13))))) := rfl
theorem ta_f19 : (ta_fl n F)[19]? = some (.inr (.inr (some (.inl (n + 14))))) := rfl
theorem ta_f20 : (ta_fl n F)[20]? = some (.inr (.inr (some (.inl (n + 15))))) := rfl
theorem ta_f21 : (ta_fl n F)[21]? = some (.inr (.inr (some (.inl (n + 16))))) := rfl
theorem ta_f22 : (ta_fl n F)[22]? = some (.inr (.inr (some (.inl (n + 17))))) := rfl
theorem ta_f23 : (ta_fl n F)[23]? = some (.inr (.inr (some (.inl (n + 18))))) := rfl
theorem ta_f24 : (ta_fl n F)[24]? = some (.inr (.inr (some (.inl (n + 19))))) := rfl
theorem ta_f30 : (ta_fl n F)[30]? = some (.inr (.inr (some (.inl (n + 20))))) := rfl
theorem ta_f31 : (ta_fl n F)[31]? = some (.inr (.inr (some (.inl (n + 21))))) := rfl
theorem ta_f32 : (ta_fl n F)[32]? = some (.inr (.inr (some (.inl (n + 22))))) := rfl
theorem ta_f34 : (ta_fl n F)[34]? = some (.inr (.inr (some (.inl (n + 23))))) := rfl
theorem ta_f35 : (ta_fl n F)[35]? = some (.inr (.inr (some (.inl (n + 24))))) := rfl
theorem ta_l : (ta_fl n F).length = 40 := rfl
end TXA
set_option maxRecDepth 100000 in
set_option maxHeartbeats 4000000 in
theorem c_MT_clearNode (l : Launch) (E : jE) (σ : Nat → jcell) (n : Nat) (a n0 : Nat) (hab : a < n0) (hn0 : n0 + 25 ≤ n) (F : Nat → Int32) (A : Nat → Nat → Int32) (q : Int32) (hq : vp_in q 602) : jMet l E jcl jtb lw_tbl y_MT_clearNode { frames := 0, cells := 0, slots := 0, locals := 0 } [.inr (.inr (some (.inl (a)))), .inl q] (txA σ a n0 F A) n (fun r σ' n' => ∃ A', r = none ∧ n' = n ∧ σ' = (txA σ a n0 F A') ∧ A' 12 = A 12) := by
  refine jMet_of (hY := rfl) false (fun h => by cases h) (by decide) (Nat.le_of_ble_eq_true rfl) [some (.inr (.inr (some (.inl (a))))), some (.inl q)] rfl ?_
  intro M hl hR X hr
  have hb5 : (n0 + 5 < n) = True := eq_true (by omega)
  have hb6 : (n0 + 6 < n) = True := eq_true (by omega)
  have hb7 : (n0 + 7 < n) = True := eq_true (by omega)
  have hb9 : (n0 + 9 < n) = True := eq_true (by omega)
  have haa : (a < n) = True := eq_true (by omega)
  refine jrun_ok jC X k_MT_clearNode_0 0 _ _ _ o_MT_clearNode_0 ?_
  simp only [k_MT_clearNode_0, jrun, jstep, jldi, jldl, jlda, j1, j2, jl1, jl2, jli, ja1, jbr, jald, jast, jlald, jlast, jalen, jget, jput, jfit, jdup, jdupx, jdupx2, jdup2, jcat, jset1, jset2, jkill, List.getElem?_cons_zero, List.getElem?_cons_succ, List.set_cons_zero, List.set_cons_succ, List.length_cons, List.length_nil, Nat.reduceAdd, Nat.reduceLT, Int32.reduceToNatClampNeg, true_and, and_true, and_self, reduceCtorEq, not_false_eq_true, false_and, and_false, or_false, false_or, true_or, or_true, ta_a, ta_ua, ta_l, vp_nar_int32, haa, ta_r5 hab, ta_u5 hab, ta_f10, ta_r6 hab, ta_u6 hab, ta_f11, ta_r7 hab, ta_u7 hab, ta_f12, ta_r9 hab, ta_u9 hab, ta_f14, hb5, hb6, hb7, hb9, va_up, hq]
  exact jk_vret X d_MT_clearNode_28 hr (Nat.le_refl _) (Nat.le_refl _) ⟨_, rfl, rfl, rfl, by simp [va_up]⟩
set_option maxRecDepth 100000 in
set_option maxHeartbeats 4000000 in
theorem c_MT_clearGame_0 (l : Launch) (E : jE) (σ : Nat → jcell) (n : Nat) (a n0 : Nat) (hab : a < n0) (hn0 : n0 + 25 ≤ n) (F : Nat → Int32) (A : Nat → Nat → Int32) : jMet l E jcl jtb lw_tbl y_MT_clearGame { frames := 1, cells := 0, slots := 0, locals := 40 } [.inr (.inr (some (.inl (a)))), .inl 0] (txA σ a n0 F A) n (fun r σ' n' => ∃ A', r = none ∧ n' = n ∧ σ' = (txA σ a n0 F A')) := by
  refine jMet_of (hY := rfl) false (fun h => by cases h) (by decide) (Nat.le_of_ble_eq_true rfl) [some (.inr (.inr (some (.inl (a))))), some (.inl 0)] rfl ?_
  intro M hl hR X hr
  have hb2 : (n0 + 2 < n) = True := eq_true (by omega)
  have hb13 : (n0 + 13 < n) = True := eq_true (by omega)
  have hb18 : (n0 + 18 < n) = True := eq_true (by omega)
  have hb3 : (n0 + 3 < n) = True := eq_true (by omega)
  have hb4 : (n0 + 4 < n) = True := eq_true (by omega)
  have haa : (a < n) = True := eq_true (by omega)
  have z2 : vp_in 0 2 := by unfold vp_in; decide
  have z602 : vp_in 0 602 := by unfold vp_in; decide
  refine jrun_ok jC X k_MT_clearGame_0 0 _ _ _ o_MT_clearGame_0 ?_
  simp only [k_MT_clearGame_0, jrun, jstep, jldi, jldl, jlda, j1, j2, jl1, jl2, jli, ja1, jbr, jald, jast, jlald, jlast, jalen, jget, jput, jfit, jdup, jdupx, jdupx2, jdup2, jcat, jset1, jset2, jkill, List.getElem?_cons_zero, List.getElem?_cons_succ, List.set_cons_zero, List.set_cons_succ, List.length_cons, List.length_nil, Nat.reduceAdd, Nat.reduceLT, Int32.reduceToNatClampNeg, true_and, and_true, and_self, reduceCtorEq, not_false_eq_true, false_and, and_false, or_false, false_or, true_or, or_true, ta_a, ta_ua, ta_l, vp_nar_int32, haa, ta_r2 hab, ta_u2 hab, ta_f7, ta_r13 hab, ta_u13 hab, ta_f18, ta_r18 hab, ta_u18 hab, ta_f23, ta_r3 hab, ta_u3 hab, ta_f8, ta_r4 hab, ta_u4 hab, ta_f9, hb2, hb13, hb18, hb3, hb4, z2, z602, Int32.reduceMul]
  refine jk_Vg X hR d_MT_clearGame_27 q_MT_clearGame_27 m_MT_clearNode i_MT_clearNode e_MT_clearNode (ci := 12) rfl rfl (by omega) ta_a (c_MT_clearNode M.2.1 E _ _ _ _ hab hn0 _ _ _ z602) rfl rfl ⟨Nat.le_of_ble_eq_true rfl, Nat.le_of_ble_eq_true rfl⟩ (c' := 0) rfl (s' := 0) rfl ⟨Nat.le_of_ble_eq_true rfl, Nat.le_of_ble_eq_true rfl⟩ (Nat.le_of_ble_eq_true rfl) (pc' := 30) rfl ?_
  rintro _ _ _ ⟨A2, rfl, hn2, rfl, -⟩
  obtain rfl : n = _ := hn2.symm
  simp only [Option.toList_none, List.nil_append]
  refine jrun_ok jC X k_MT_clearGame_30 30 _ _ _ o_MT_clearGame_30 ?_
  simp only [k_MT_clearGame_30, jrun, jstep, jldi, jldl, jlda, j1, j2, jl1, jl2, jli, ja1, jbr, jald, jast, jlald, jlast, jalen, jget, jput, jfit, jdup, jdupx, jdupx2, jdup2, jcat, jset1, jset2, jkill, List.getElem?_cons_zero, List.getElem?_cons_succ, List.set_cons_zero, List.set_cons_succ, List.length_cons, List.length_nil, Nat.reduceAdd, Nat.reduceLT, Int32.reduceToNatClampNeg, true_and, and_true, and_self, reduceCtorEq, not_false_eq_true, false_and, and_false, or_false, false_or, true_or, or_true, ta_a, ta_ua, ta_l, vp_nar_int32, haa, ta_r2 hab, ta_u2 hab, ta_f7, ta_r13 hab, ta_u13 hab, ta_f18, ta_r18 hab, ta_u18 hab, ta_f23, ta_r3 hab, ta_u3 hab, ta_f8, ta_r4 hab, ta_u4 hab, ta_f9, hb2, hb13, hb18, hb3, hb4, z2, z602, Int32.reduceMul]
  exact jk_vret X d_MT_clearGame_52 hr (Nat.le_refl _) (Nat.le_refl _) ⟨_, rfl, rfl, rfl⟩

