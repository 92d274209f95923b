section
/-! frames that let rows of longs change -/
noncomputable def zFy (Fs : List (Nat × Nat)) (Rs Ls : List Nat) (W V : zW) : Prop := (∀ a i, ¬ (a, i) ∈ Fs → V.1 a i = W.1 a i) ∧ (∀ a, ¬ a ∈ Rs → V.2.1 a = W.2.1 a) ∧ (∀ a, ¬ a ∈ Ls → V.2.2.1 a = W.2.2.1 a) ∧ V.2.2.2 = W.2.2.2
theorem zFy_0 {Fs : List (Nat × Nat)} {Rs Ls : List Nat} {W : zW} : zFy Fs Rs Ls W W := ⟨fun _ _ _ => rfl, fun _ _ => rfl, fun _ _ => rfl, rfl⟩
theorem zFy_F {Fs : List (Nat × Nat)} {Rs Ls : List Nat} {W V : zW} {a i : Nat} {v : Int} (h : zFy Fs Rs Ls W V) (hm : (a, i) ∈ Fs) : zFy Fs Rs Ls W (zuF V a i v) := by
  refine ⟨fun b j hb => ?_, h.2.1, h.2.2.1, h.2.2.2⟩
  rw [← h.1 b j hb]
  show va_up V.1 a (va_up (V.1 a) i v) b j = V.1 b j
  unfold va_up
  by_cases e : b = a
  · subst e
    rw [if_pos rfl]
    by_cases e2 : j = i
    · subst e2
      exact absurd hm hb
    · rw [if_neg e2]
  · rw [if_neg e]
theorem zFy_R {Fs : List (Nat × Nat)} {Rs Ls : List Nat} {W V : zW} {a : Nat} {i v : Int} (h : zFy Fs Rs Ls W V) (hm : a ∈ Rs) : zFy Fs Rs Ls W (zuR V a i v) := by
  refine ⟨h.1, fun b hb => ?_, h.2.2.1, h.2.2.2⟩
  rw [← h.2.1 b hb]
  exact zuR_4 (fun e => hb (by rw [e]; exact hm))
theorem zFy_L {Fs : List (Nat × Nat)} {Rs Ls : List Nat} {W V : zW} {a i : Nat} {v : Int64} (h : zFy Fs Rs Ls W V) (hm : a ∈ Ls) : zFy Fs Rs Ls W (zuL V a i v) := by
  refine ⟨h.1, h.2.1, fun b hb => ?_, h.2.2.2⟩
  rw [← h.2.2.1 b hb]
  exact va_up_ne _ _ (fun e => hb (by rw [e]; exact hm))
theorem zFy_t {Fs : List (Nat × Nat)} {Rs Ls : List Nat} {W V U : zW} (h : zFy Fs Rs Ls W V) (h2 : zFy Fs Rs Ls V U) : zFy Fs Rs Ls W U := ⟨fun a i q => (h2.1 a i q).trans (h.1 a i q), fun a q => (h2.2.1 a q).trans (h.2.1 a q), fun a q => (h2.2.2.1 a q).trans (h.2.2.1 a q), h2.2.2.2.trans h.2.2.2⟩
theorem zFy_w {Fs Gs : List (Nat × Nat)} {Rs Ss Ls Ms : List Nat} {W V : zW} (h : zFy Fs Rs Ls W V) (h1 : ∀ x ∈ Fs, x ∈ Gs) (h2 : ∀ x ∈ Rs, x ∈ Ss) (h3 : ∀ x ∈ Ls, x ∈ Ms) : zFy Gs Ss Ms W V := ⟨fun a i q => h.1 a i (fun z => q (h1 _ z)), fun a q => h.2.1 a (fun z => q (h2 _ z)), fun a q => h.2.2.1 a (fun z => q (h3 _ z)), h.2.2.2⟩
theorem zFy_f {Fs : List (Nat × Nat)} {Rs Ls : List Nat} {W V : zW} (h : zFy Fs Rs Ls W V) (a i : Nat) (q : ((a, i) ∈ Fs : Bool) = false := by decide) : V.1 a i = W.1 a i := h.1 a i (of_decide_eq_false q)
theorem zFy_r {Fs : List (Nat × Nat)} {Rs Ls : List Nat} {W V : zW} (h : zFy Fs Rs Ls W V) (a : Nat) (q : (a ∈ Rs : Bool) = false := by decide) : V.2.1 a = W.2.1 a := h.2.1 a (of_decide_eq_false q)
theorem zFy_l {Fs : List (Nat × Nat)} {Rs Ls : List Nat} {W V : zW} (h : zFy Fs Rs Ls W V) (a : Nat) (q : (a ∈ Ls : Bool) = false := by decide) : V.2.2.1 a = W.2.2.1 a := h.2.2.1 a (of_decide_eq_false q)
theorem zFr_x {Fs : List (Nat × Nat)} {Rs Ls : List Nat} {W V : zW} (h : zFr Fs Rs W V) : zFy Fs Rs Ls W V := ⟨h.1, h.2.1, fun a _ => by rw [h.2.2], by rw [h.2.2]⟩
/-! how many men of a kind stand -/
noncomputable def cNm (A : Int → Int) (m : Int) : Nat → Int
  | 0 => 0
  | n + 1 => cNm A m n + (if A n = m then 1 else 0)
theorem cNm_b {A : Int → Int} {m : Int} : ∀ n : Nat, 0 ≤ cNm A m n ∧ cNm A m n ≤ n
  | 0 => ⟨Int.le_refl _, Int.le_refl _⟩
  | n + 1 => by
    have := cNm_b (A := A) (m := m) n
    show 0 ≤ cNm A m n + (if A n = m then 1 else 0) ∧ cNm A m n + (if A n = m then 1 else 0) ≤ ((n + 1 : Nat) : Int)
    split <;> omega
theorem cNm_c {A B : Int → Int} {m : Int} : ∀ n : Nat, (∀ i : Int, 0 ≤ i → i < n → A i = B i) → cNm A m n = cNm B m n
  | 0, _ => rfl
  | n + 1, h => by
    show cNm A m n + _ = cNm B m n + _
    rw [cNm_c n (fun i h0 h1 => h i h0 (by omega)), h n (by omega) (by omega)]
theorem cNm_u {A : Int → Int} {m s v : Int} : ∀ n : Nat, cNm (zuI A s v) m n = cNm A m n + (if 0 ≤ s ∧ s < n then (if v = m then 1 else 0) - (if A s = m then 1 else 0) else 0)
  | 0 => by
    show (0 : Int) = 0 + _
    rw [if_neg (by omega)]; rfl
  | n + 1 => by
    show cNm (zuI A s v) m n + (if zuI A s v n = m then 1 else 0) = cNm A m n + (if A n = m then 1 else 0) + _
    rw [cNm_u n]
    by_cases c : s = n
    · have e1 : ¬ (0 ≤ s ∧ s < (n : Int)) := by omega
      have e2 : 0 ≤ s ∧ s < ((n + 1 : Nat) : Int) := by omega
      rw [if_neg e1, if_pos e2, ← c, zuI_s]
      omega
    · rw [zuI_n (show ¬ (n : Int) = s by omega)]
      by_cases d : 0 ≤ s ∧ s < (n : Int)
      · rw [if_pos d, if_pos (show 0 ≤ s ∧ s < ((n + 1 : Nat) : Int) by omega)]; omega
      · rw [if_neg d, if_neg (show ¬ (0 ≤ s ∧ s < ((n + 1 : Nat) : Int)) by omega)]; omega
/-! a sum over the men -/
noncomputable def cGs (g : Int → Int → Int) (A : Int → Int) : Nat → Int
  | 0 => 0
  | n + 1 => cGs g A n + g (A n) n
theorem cGs_b {g : Int → Int → Int} {A : Int → Int} (h : ∀ v s : Int, 0 ≤ g v s ∧ g v s ≤ 1100) : ∀ n : Nat, 0 ≤ cGs g A n ∧ cGs g A n ≤ 1100 * n
  | 0 => ⟨Int.le_refl _, Int.le_refl _⟩
  | n + 1 => by
    have h1 := cGs_b (A := A) h n
    have h2 := h (A n) n
    show 0 ≤ cGs g A n + g (A n) n ∧ cGs g A n + g (A n) n ≤ 1100 * ((n + 1 : Nat) : Int)
    omega
theorem cGs_0 {g : Int → Int → Int} {A : Int → Int} : ∀ n : Nat, (∀ i : Int, 0 ≤ i → i < n → g (A i) i = 0) → cGs g A n = 0
  | 0, _ => rfl
  | n + 1, h => by
    show cGs g A n + g (A n) n = 0
    rw [cGs_0 n (fun i h0 h1 => h i h0 (by omega)), h n (by omega) (by omega)]
    rfl
theorem cGs_u {g : Int → Int → Int} {A : Int → Int} {s v : Int} : ∀ n : Nat, cGs g (zuI A s v) n = cGs g A n + (if 0 ≤ s ∧ s < n then g v s - g (A s) s else 0)
  | 0 => by
    show (0 : Int) = 0 + _
    rw [if_neg (by omega)]; rfl
  | n + 1 => by
    show cGs g (zuI A s v) n + g (zuI A s v n) n = cGs g A n + g (A n) n + _
    rw [cGs_u n]
    by_cases c : s = n
    · have e1 : ¬ (0 ≤ s ∧ s < (n : Int)) := by omega
      have e2 : 0 ≤ s ∧ s < ((n + 1 : Nat) : Int) := by omega
      rw [if_neg e1, if_pos e2, ← c, zuI_s]
      omega
    · rw [zuI_n (show ¬ (n : Int) = s by omega)]
      by_cases d : 0 ≤ s ∧ s < (n : Int)
      · rw [if_pos d, if_pos (show 0 ≤ s ∧ s < ((n + 1 : Nat) : Int) by omega)]; omega
      · rw [if_neg d, if_neg (show ¬ (0 ≤ s ∧ s < ((n + 1 : Nat) : Int)) by omega)]; omega
noncomputable def cWg (T : Int → Int) (c v s : Int) : Int := if (1 ≤ v ∧ v ≤ 14 ∧ v / 8 = c) ∧ 0 ≤ s ∧ s < 64 then T (64 * v + s) else 0
theorem cWg_b {T : Int → Int} (h : ∀ i, 64 ≤ i → i < 960 → 0 ≤ T i ∧ T i ≤ 1100) (c v s : Int) : 0 ≤ cWg T c v s ∧ cWg T c v s ≤ 1100 := by
  unfold cWg
  split
  · exact h _ (by omega) (by omega)
  · omega
/-- a man comes onto a square of the Board b -/
noncomputable def zPu (b : Nat) (W V : zW) (s m : Int) : Prop := zFy [] [b + 1, b + 2, b + 4, b + 5, b + 6] [b + 3] W V ∧ V.2.1 (b + 1) = zuI (W.2.1 (b + 1)) s m ∧ V.2.1 (b + 2) = (if m % 8 = 6 then zuI (W.2.1 (b + 2)) (m / 8) s else W.2.1 (b + 2)) ∧ V.2.1 (b + 5) = zuI (W.2.1 (b + 5)) m (W.2.1 (b + 5) m + 1) ∧ V.2.1 (b + 4) = zuI (W.2.1 (b + 4)) (m / 8) (lI (W.2.1 (b + 4) (m / 8)) + lI (W.2.1 (b + 7) (64 * m + s))).toInt
/-- the man on a square of the Board b goes -/
noncomputable def zLi (b : Nat) (W V : zW) (s : Int) : Prop := zFy [] [b + 1, b + 2, b + 4, b + 5, b + 6] [b + 3] W V ∧ V.2.1 (b + 1) = zuI (W.2.1 (b + 1)) s 0 ∧ V.2.1 (b + 2) = W.2.1 (b + 2) ∧ V.2.1 (b + 5) = zuI (W.2.1 (b + 5)) (W.2.1 (b + 1) s) (W.2.1 (b + 5) (W.2.1 (b + 1) s) - 1) ∧ V.2.1 (b + 4) = zuI (W.2.1 (b + 4)) (W.2.1 (b + 1) s / 8) (lI (W.2.1 (b + 4) (W.2.1 (b + 1) s / 8)) - lI (W.2.1 (b + 7) (64 * W.2.1 (b + 1) s + s))).toInt
theorem cx30 : ∀ s : Fin 64, 0 ≤ (lI (s.val : Int) ^^^ lI ((s.val : Int) / 8)).toInt ∧ (lI (s.val : Int) ^^^ lI ((s.val : Int) / 8)).toInt ≤ 2147483647 := by decide +kernel
theorem cx3 {s t : Int} (h : 0 ≤ s ∧ s < 64 ∧ t = s / 8) : 0 ≤ (lI s ^^^ lI t).toInt ∧ (lI s ^^^ lI t).toInt ≤ 2147483647 := by
  have e := cx30 ⟨s.toNat, by omega⟩
  dsimp only at e
  rw [show ((s.toNat : Nat) : Int) = s by omega] at e
  rw [h.2.2]
  exact e
end
section
noncomputable def ak_ZBOput34 : List jI := [(.aload_n 0, 1, (0, 0, 0, 0, 0)), (.getfield 7, 3, (10, 0, 660, 0, 0)), (.iload_n 1, 1, (1, 0, 0, 0, 0)), (.iload_n 2, 1, (2, 0, 0, 0, 0)), (.iastore, 1, (0, 0, 0, 0, 0)), (.aload_n 0, 1, (0, 0, 0, 0, 0)), (.getfield 16, 3, (10, 7, 676, 0, 0)), (.iload_n 1, 1, (1, 0, 0, 0, 0)), (.iconst 4, 1, (0, 0, 0, 4, 0)), (.ishr, 1, (0, 0, 0, 0, 0)), (.dup2, 1, (0, 0, 0, 0, 0)), (.laload, 1, (0, 0, 0, 0, 0)), (.iload_n 2, 1, (2, 0, 0, 0, 0)), (.i2l, 1, (0, 0, 0, 0, 0)), (.iload_n 1, 1, (1, 0, 0, 0, 0)), (.bipush 15, 2, (0, 0, 0, 15, 0)), (.iand, 1, (0, 0, 0, 0, 0)), (.iconst 2, 1, (0, 0, 0, 2, 0)), (.ishl, 1, (0, 0, 0, 0, 0)), (.lshl, 1, (0, 0, 0, 0, 0)), (.lxor, 1, (0, 0, 0, 0, 0)), (.lastore, 1, (0, 0, 0, 0, 0)), (.aload_n 0, 1, (0, 0, 0, 0, 0)), (.getfield 20, 3, (10, 8, 677, 0, 0)), (.iload_n 2, 1, (2, 0, 0, 0, 0)), (.iconst 3, 1, (0, 0, 0, 3, 0)), (.ishr, 1, (0, 0, 0, 0, 0)), (.dup2, 1, (0, 0, 0, 0, 0)), (.iaload, 1, (0, 0, 0, 0, 0)), (.aload_n 0, 1, (0, 0, 0, 0, 0)), (.getfield 29, 3, (10, 11, 680, 0, 0)), (.iload_n 2, 1, (2, 0, 0, 0, 0)), (.bipush 6, 2, (0, 0, 0, 6, 0)), (.ishl, 1, (0, 0, 0, 0, 0)), (.iload_n 1, 1, (1, 0, 0, 0, 0)), (.ior, 1, (0, 0, 0, 0, 0)), (.iaload, 1, (0, 0, 0, 0, 0)), (.iadd, 1, (0, 1, 0, 0, 0)), (.iastore, 1, (0, 0, 0, 0, 0)), (.aload_n 0, 1, (0, 0, 0, 0, 0)), (.getfield 23, 3, (10, 9, 678, 0, 0)), (.iload_n 2, 1, (2, 0, 0, 0, 0)), (.dup2, 1, (0, 0, 0, 0, 0)), (.iaload, 1, (0, 0, 0, 0, 0)), (.iconst 1, 1, (0, 0, 0, 1, 0)), (.iadd, 1, (0, 0, 0, 0, 0)), (.iastore, 1, (0, 0, 0, 0, 0)), (.iload_n 2, 1, (2, 0, 0, 0, 0)), (.bipush 7, 2, (0, 0, 0, 7, 0)), (.iand, 1, (0, 0, 0, 0, 0)), (.iconst 3, 1, (0, 0, 0, 3, 0)), (.if_icmp .ne 22, 3, (86, 0, 0, 0, 0)), (.aload_n 0, 1, (0, 0, 0, 0, 0)), (.getfield 26, 3, (10, 10, 679, 0, 0)), (.iload_n 1, 1, (1, 0, 0, 0, 0)), (.iload_n 1, 1, (1, 0, 0, 0, 0)), (.iconst 3, 1, (0, 0, 0, 3, 0)), (.ishr, 1, (0, 0, 0, 0, 0)), (.ixor, 1, (0, 0, 0, 0, 0)), (.iconst 1, 1, (0, 0, 0, 1, 0)), (.iand, 1, (0, 0, 0, 0, 0)), (.dup2, 1, (0, 0, 0, 0, 0)), (.iaload, 1, (0, 0, 0, 0, 0)), (.iconst 1, 1, (0, 0, 0, 1, 0)), (.iadd, 1, (0, 1, 0, 0, 0)), (.iastore, 1, (0, 0, 0, 0, 0)), (.goto 21, 3, (104, 0, 0, 0, 0)), (.iload_n 2, 1, (2, 0, 0, 0, 0)), (.bipush 7, 2, (0, 0, 0, 7, 0)), (.iand, 1, (0, 0, 0, 0, 0)), (.bipush 6, 2, (0, 0, 0, 6, 0)), (.if_icmp .ne 12, 3, (104, 0, 0, 0, 0)), (.aload_n 0, 1, (0, 0, 0, 0, 0)), (.getfield 13, 3, (10, 1, 663, 0, 0)), (.iload_n 2, 1, (2, 0, 0, 0, 0)), (.iconst 3, 1, (0, 0, 0, 3, 0)), (.ishr, 1, (0, 0, 0, 0, 0)), (.iload_n 1, 1, (1, 0, 0, 0, 0)), (.iastore, 1, (0, 0, 0, 0, 0)), (.return_, 1, (0, 0, 0, 0, 0))]
theorem ao_ZBOput34 : jokLG jtF lk_BO "ChessHouse$Board" jcl jtb 3 prog_3_method_8_code 0 ak_ZBOput34 = true := by decide +kernel
noncomputable def zm_BOput34 : zM := (none, { frames := 0, cells := 0, slots := 0, locals := 0 }, ([], []), [], ak_ZBOput34)
noncomputable def zc_BOput34 (vals : List zv) (W : zW) (post : zPo) : Prop := ∃ s m : Int, vals = [.inr (.inr (some (.inl 34))), .inl (s), .inl (m)] ∧ ((0 ≤ s ∧ s < 64) ∧ (0 ≤ m ∧ m < 16) ∧ (-1000 ≤ W.2.1 39 m ∧ W.2.1 39 m ≤ 1000)) ∧ ∀ V : zW, (zPu 34 W V s m) → post none V
set_option maxRecDepth 8000 in
theorem zp_BOput34_0 {n K : Nat} {W : zW} {post : zPo} {s m : Int}  (hK : 68 ≤ K) (hn : 142 ≤ n) (h : (0 ≤ s ∧ s < 64) ∧ (-2147483648 ≤ s ∧ s ≤ 2147483647) ∧ ∀ t0 : Int, t0 = s / 16 → (0 ≤ t0 ∧ t0 < 4) ∧ (0 ≤ s ∧ s ≤ 2147483647) ∧ ∀ t1 : Int, t1 = s % 16 → (0 ≤ t1 ∧ t1 * 4 ≤ 2147483647) ∧ ∀ t2 : Int, t2 = t1 * 4 → (0 ≤ t0 ∧ t0 < 4) ∧ (-2147483648 ≤ m ∧ m ≤ 2147483647) ∧ ∀ t3 : Int, t3 = m / 8 → (0 ≤ t3 ∧ t3 < 2) ∧ (0 ≤ m ∧ m * 64 ≤ 2147483647) ∧ ∀ t4 : Int, t4 = m * 64 → (0 ≤ t4 ∧ t4 ≤ 2147483647 ∧ t4 % 64 = 0 ∧ 0 ≤ s ∧ s < 64) ∧ ∀ t5 : Int, t5 = t4 + s → (0 ≤ t5 ∧ t5 < 1024) ∧ (0 ≤ t3 ∧ t3 < 2) ∧ (0 ≤ m ∧ m < 16) ∧ (-2147483648 ≤ (W.2.1 39 m) + 1 ∧ (W.2.1 39 m) + 1 ≤ 2147483647) ∧ (0 ≤ m ∧ m < 16) ∧ (0 ≤ m ∧ m ≤ 2147483647) ∧ ∀ t6 : Int, t6 = m % 8 → (¬ t6 = 3 → (0 ≤ m ∧ m ≤ 2147483647) ∧ ∀ t7 : Int, t7 = m % 8 → (¬ t7 = 6 → post none (zuR (zuR (zuL (zuR W 35 s m) 37 t0.toNat (((zuR W 35 s m).2.2.1 37 t0.toNat) ^^^ (((lI m).toInt64) <<< ((lI t2).toInt64 &&& 63)))) 38 t3 ((lI (W.2.1 38 t3) + lI (W.2.1 41 t5)).toInt)) 39 m ((W.2.1 39 m) + 1))) ∧ (t7 = 6 → (-2147483648 ≤ m ∧ m ≤ 2147483647) ∧ ∀ t8 : Int, t8 = m / 8 → (0 ≤ t8 ∧ t8 < 2) ∧ post none (zuR (zuR (zuR (zuL (zuR W 35 s m) 37 t0.toNat (((zuR W 35 s m).2.2.1 37 t0.toNat) ^^^ (((lI m).toInt64) <<< ((lI t2).toInt64 &&& 63)))) 38 t3 ((lI (W.2.1 38 t3) + lI (W.2.1 41 t5)).toInt)) 39 m ((W.2.1 39 m) + 1)) 36 t8 s))) ∧ (t6 = 3 → (-2147483648 ≤ s ∧ s ≤ 2147483647) ∧ ∀ t9 : Int, t9 = s / 8 → (0 ≤ ((lI s ^^^ lI t9).toInt) ∧ ((lI s ^^^ lI t9).toInt) ≤ 2147483647) ∧ ∀ t10 : Int, t10 = ((lI s ^^^ lI t9).toInt) % 2 → (0 ≤ t10 ∧ t10 < 2) ∧ (0 ≤ t10 ∧ t10 < 2) ∧ post none (zuR (zuR (zuR (zuL (zuR W 35 s m) 37 t0.toNat (((zuR W 35 s m).2.2.1 37 t0.toNat) ^^^ (((lI m).toInt64) <<< ((lI t2).toInt64 &&& 63)))) 38 t3 ((lI (W.2.1 38 t3) + lI (W.2.1 41 t5)).toInt)) 39 m ((W.2.1 39 m) + 1)) 40 t10 ((lI (W.2.1 40 t10) + lI 1).toInt)))) : zwp jtb zsh n zm_BOput34 post K (lGo ak_ZBOput34 0) 0 [some (.inr (.inr (some (.inl 34)))), some (.inl (s)), some (.inl (m))] [] W := by
  obtain ⟨kk__, rfl⟩ : ∃ kk__, K = kk__ + 68 := ⟨K - 68, by omega⟩
  exact (show 34 < n ∧ 10 = 10 ∧ 35 < n ∧ FieldType.int = FieldType.int ∧ (0 ≤ s ∧ s < 64) ∧ True ∧ 34 < n ∧ 10 = 10 ∧ 37 < n ∧ (0 ≤ ((lI s >>> (lI 4 &&& 31)).toInt) ∧ ((lI s >>> (lI 4 &&& 31)).toInt) < 4) ∧ 37 < n ∧ (0 ≤ ((lI s >>> (lI 4 &&& 31)).toInt) ∧ ((lI s >>> (lI 4 &&& 31)).toInt) < 4) ∧ 34 < n ∧ 10 = 10 ∧ 38 < n ∧ FieldType.int = FieldType.int ∧ (0 ≤ ((lI m >>> (lI 3 &&& 31)).toInt) ∧ ((lI m >>> (lI 3 &&& 31)).toInt) < 2) ∧ 34 < n ∧ 10 = 10 ∧ 41 < n ∧ FieldType.int = FieldType.int ∧ (0 ≤ ((lI ((lI m <<< (lI 6 &&& 31)).toInt) ||| lI s).toInt) ∧ ((lI ((lI m <<< (lI 6 &&& 31)).toInt) ||| lI s).toInt) < 1024) ∧ 38 < n ∧ FieldType.int = FieldType.int ∧ (0 ≤ ((lI m >>> (lI 3 &&& 31)).toInt) ∧ ((lI m >>> (lI 3 &&& 31)).toInt) < 2) ∧ True ∧ 34 < n ∧ 10 = 10 ∧ 39 < n ∧ FieldType.int = FieldType.int ∧ (0 ≤ m ∧ m < 16) ∧ (-2147483648 ≤ (W.2.1 39 m) + 1 ∧ (W.2.1 39 m) + 1 ≤ 2147483647) ∧ 39 < n ∧ FieldType.int = FieldType.int ∧ (0 ≤ m ∧ m < 16) ∧ True ∧ (¬ ((lI m &&& lI 7).toInt) = 3 → (¬ ((lI m &&& lI 7).toInt) = 6 → 1 = 1 ∧ (none : Option FieldType) = none ∧ post none (zuR (zuR (zuL (zuR W 35 s m) 37 ((lI s >>> (lI 4 &&& 31)).toInt).toNat (((zuR W 35 s m).2.2.1 37 ((lI s >>> (lI 4 &&& 31)).toInt).toNat) ^^^ (((lI m).toInt64) <<< ((lI ((lI ((lI s &&& lI 15).toInt) <<< (lI 2 &&& 31)).toInt)).toInt64 &&& 63)))) 38 ((lI m >>> (lI 3 &&& 31)).toInt) ((lI (W.2.1 38 ((lI m >>> (lI 3 &&& 31)).toInt)) + lI (W.2.1 41 ((lI ((lI m <<< (lI 6 &&& 31)).toInt) ||| lI s).toInt))).toInt)) 39 m ((W.2.1 39 m) + 1))) ∧ (((lI m &&& lI 7).toInt) = 6 → 34 < n ∧ 10 = 10 ∧ 36 < n ∧ FieldType.int = FieldType.int ∧ (0 ≤ ((lI m >>> (lI 3 &&& 31)).toInt) ∧ ((lI m >>> (lI 3 &&& 31)).toInt) < 2) ∧ True ∧ 1 = 1 ∧ (none : Option FieldType) = none ∧ post none (zuR (zuR (zuR (zuL (zuR W 35 s m) 37 ((lI s >>> (lI 4 &&& 31)).toInt).toNat (((zuR W 35 s m).2.2.1 37 ((lI s >>> (lI 4 &&& 31)).toInt).toNat) ^^^ (((lI m).toInt64) <<< ((lI ((lI ((lI s &&& lI 15).toInt) <<< (lI 2 &&& 31)).toInt)).toInt64 &&& 63)))) 38 ((lI m >>> (lI 3 &&& 31)).toInt) ((lI (W.2.1 38 ((lI m >>> (lI 3 &&& 31)).toInt)) + lI (W.2.1 41 ((lI ((lI m <<< (lI 6 &&& 31)).toInt) ||| lI s).toInt))).toInt)) 39 m ((W.2.1 39 m) + 1)) 36 ((lI m >>> (lI 3 &&& 31)).toInt) s))) ∧ (((lI m &&& lI 7).toInt) = 3 → 34 < n ∧ 10 = 10 ∧ 40 < n ∧ FieldType.int = FieldType.int ∧ (0 ≤ ((lI ((lI s ^^^ lI ((lI s >>> (lI 3 &&& 31)).toInt)).toInt) &&& lI 1).toInt) ∧ ((lI ((lI s ^^^ lI ((lI s >>> (lI 3 &&& 31)).toInt)).toInt) &&& lI 1).toInt) < 2) ∧ 40 < n ∧ FieldType.int = FieldType.int ∧ (0 ≤ ((lI ((lI s ^^^ lI ((lI s >>> (lI 3 &&& 31)).toInt)).toInt) &&& lI 1).toInt) ∧ ((lI ((lI s ^^^ lI ((lI s >>> (lI 3 &&& 31)).toInt)).toInt) &&& lI 1).toInt) < 2) ∧ True ∧ 1 = 1 ∧ (none : Option FieldType) = none ∧ post none (zuR (zuR (zuR (zuL (zuR W 35 s m) 37 ((lI s >>> (lI 4 &&& 31)).toInt).toNat (((zuR W 35 s m).2.2.1 37 ((lI s >>> (lI 4 &&& 31)).toInt).toNat) ^^^ (((lI m).toInt64) <<< ((lI ((lI ((lI s &&& lI 15).toInt) <<< (lI 2 &&& 31)).toInt)).toInt64 &&& 63)))) 38 ((lI m >>> (lI 3 &&& 31)).toInt) ((lI (W.2.1 38 ((lI m >>> (lI 3 &&& 31)).toInt)) + lI (W.2.1 41 ((lI ((lI m <<< (lI 6 &&& 31)).toInt) ||| lI s).toInt))).toInt)) 39 m ((W.2.1 39 m) + 1)) 40 ((lI ((lI s ^^^ lI ((lI s >>> (lI 3 &&& 31)).toInt)).toInt) &&& lI 1).toInt) ((lI (W.2.1 40 ((lI ((lI s ^^^ lI ((lI s >>> (lI 3 &&& 31)).toInt)).toInt) &&& lI 1).toInt)) + lI 1).toInt))) from ⟨(Nat.lt_of_lt_of_le (by decide) hn), rfl, ⟨(Nat.lt_of_lt_of_le (by decide) hn), rfl, (h).1, trivial, ⟨(Nat.lt_of_lt_of_le (by decide) hn), rfl, (have h := (((h).2).2 _ (z_sr4 ((h).2).1)); ⟨(Nat.lt_of_lt_of_le (by decide) hn), (h).1, (have h := (((h).2).2 _ (z_an15 ((h).2).1)); ⟨(Nat.lt_of_lt_of_le (by decide) hn), (((h).2 _ (z_sl2 (h).1))).1, (have h := (((h).2 _ (z_sl2 (h).1))).2; ⟨(Nat.lt_of_lt_of_le (by decide) hn), rfl, ⟨(Nat.lt_of_lt_of_le (by decide) hn), rfl, (((h).2 _ (z_sr3 (h).1))).1, (have h := (((h).2 _ (z_sr3 (h).1))).2; ⟨(Nat.lt_of_lt_of_le (by decide) hn), rfl, (have h := ((((h).2 _ (z_sl6 (h).1))).2 _ (z_or6 (((h).2 _ (z_sl6 (h).1))).1)); ⟨(Nat.lt_of_lt_of_le (by decide) hn), rfl, (h).1, ⟨(Nat.lt_of_lt_of_le (by decide) hn), rfl, ((h).2).1, trivial, ⟨(Nat.lt_of_lt_of_le (by decide) hn), rfl, ⟨(Nat.lt_of_lt_of_le (by decide) hn), rfl, (((h).2).2).1, ⟨((((h).2).2).2).1, ⟨(Nat.lt_of_lt_of_le (by decide) hn), rfl, (((((h).2).2).2).2).1, trivial, (have h := (((((((h).2).2).2).2).2).2 _ (z_an7 ((((((h).2).2).2).2).2).1)); ⟨fun c64_51 => (have h := ((((h).1 c64_51)).2 _ (z_an7 (((h).1 c64_51)).1)); ⟨fun c92_56 => ⟨rfl, rfl, ((h).1 c92_56)⟩, fun c92_56 => ⟨(Nat.lt_of_lt_of_le (by decide) hn), rfl, (have h := ((((h).2 c92_56)).2 _ (z_sr3 (((h).2 c92_56)).1)); ⟨(Nat.lt_of_lt_of_le (by decide) hn), rfl, (h).1, trivial, ⟨rfl, rfl, (h).2⟩⟩)⟩⟩), fun c64_51 => ⟨(Nat.lt_of_lt_of_le (by decide) hn), rfl, (have h := ((((h).2 c64_51)).2 _ (z_sr3 (((h).2 c64_51)).1)); ⟨(Nat.lt_of_lt_of_le (by decide) hn), rfl, (((h).2 _ (z_an1 (h).1))).1, (have h := (((h).2 _ (z_an1 (h).1))).2; ⟨(Nat.lt_of_lt_of_le (by decide) hn), rfl, (h).1, trivial, ⟨rfl, rfl, (h).2⟩⟩)⟩)⟩⟩)⟩⟩⟩⟩⟩⟩)⟩)⟩⟩)⟩)⟩)⟩⟩⟩)
theorem zk_BOput34 {l : Launch} {E : jE} {n : Nat} (hn : 142 ≤ n) : zHas l E jcl jtb lw_tbl zsh n (y_BO_put, false, 3, 10, { frames := 0, cells := 0, slots := 0, locals := 0 }, zc_BOput34) := by
  refine ⟨⟨rfl, rfl, ⟨show 1 ≤ 3 by decide, m_BO_put, i_BO_put, e_BO_put, fun _ => ⟨_, rfl, rfl⟩⟩⟩, ?_⟩
  rintro vz W po hO hW ⟨s, m, rfl, hq, hp⟩
  refine zmet (m := zm_BOput34) rfl (by decide) (fun _ _ => jtF_ok) lo_BO ao_ZBOput34 jC (fun q h => by cases h) (fun q h => by cases h) (fun q h => by cases h) (Nat.le_of_ble_eq_true rfl) hO hW (120) ?_
  obtain ⟨hs, hm, hc⟩ := hq
  exact zp_BOput34_0 (by omega) hn ⟨(by omega), ⟨(by omega), fun t0 e0 => ⟨(by omega), ⟨(by omega), fun t1 e1 => ⟨(by omega), fun t2 e2 => ⟨(by omega), ⟨(by omega), fun t3 e3 => ⟨(by omega), ⟨(by omega), fun t4 e4 => ⟨(by omega), fun t5 e5 => ⟨(by omega), ⟨(by omega), ⟨(by omega), ⟨(by omega), ⟨(by omega), ⟨(by omega), fun t6 e6 => ⟨fun c64 => ⟨(by omega), fun t7 e7 => ⟨fun c92 => (hp _ ⟨(zFy_R (zFy_R (zFy_L (zFy_R zFy_0 (by decide)) (by decide)) (by decide)) (by decide)), by first | rfl | (rw [if_neg (by omega)]; rfl) | (rw [if_pos (by omega), ← e8]; rfl), by first | rfl | (rw [if_neg (by omega)]; rfl) | (rw [if_pos (by omega), ← e8]; rfl), by first | rfl | (rw [if_neg (by omega)]; rfl) | (rw [if_pos (by omega), ← e8]; rfl), by rw [show 64 * m + s = t5 by omega, show m / 8 = t3 by omega]; rfl⟩), fun c92 => ⟨(by omega), fun t8 e8 => ⟨(by omega), (hp _ ⟨(zFy_R (zFy_R (zFy_R (zFy_L (zFy_R zFy_0 (by decide)) (by decide)) (by decide)) (by decide)) (by decide)), by first | rfl | (rw [if_neg (by omega)]; rfl) | (rw [if_pos (by omega), ← e8]; rfl), by first | rfl | (rw [if_neg (by omega)]; rfl) | (rw [if_pos (by omega), ← e8]; rfl), by first | rfl | (rw [if_neg (by omega)]; rfl) | (rw [if_pos (by omega), ← e8]; rfl), by rw [show 64 * m + s = t5 by omega, show m / 8 = t3 by omega]; rfl⟩)⟩⟩⟩⟩, fun c64 => ⟨(by omega), fun t9 e9 => ⟨(cx3 (by omega)), fun t10 e10 => ⟨(by omega), ⟨(by omega), (hp _ ⟨(zFy_R (zFy_R (zFy_R (zFy_L (zFy_R zFy_0 (by decide)) (by decide)) (by decide)) (by decide)) (by decide)), by first | rfl | (rw [if_neg (by omega)]; rfl) | (rw [if_pos (by omega), ← e8]; rfl), by first | rfl | (rw [if_neg (by omega)]; rfl) | (rw [if_pos (by omega), ← e8]; rfl), by first | rfl | (rw [if_neg (by omega)]; rfl) | (rw [if_pos (by omega), ← e8]; rfl), by rw [show 64 * m + s = t5 by omega, show m / 8 = t3 by omega]; rfl⟩)⟩⟩⟩⟩⟩⟩⟩⟩⟩⟩⟩⟩⟩⟩⟩⟩⟩⟩⟩⟩⟩
noncomputable def ak_ZBOlif34 : List jI := [(.aload_n 0, 1, (0, 0, 0, 0, 0)), (.getfield 7, 3, (10, 0, 660, 0, 0)), (.iload_n 1, 1, (1, 0, 0, 0, 0)), (.iaload, 1, (0, 0, 0, 0, 0)), (.istore_n 2, 1, (2, 0, 0, 0, 0)), (.aload_n 0, 1, (0, 0, 0, 0, 0)), (.getfield 7, 3, (10, 0, 660, 0, 0)), (.iload_n 1, 1, (1, 0, 0, 0, 0)), (.iconst 0, 1, (0, 0, 0, 0, 0)), (.iastore, 1, (0, 0, 0, 0, 0)), (.aload_n 0, 1, (0, 0, 0, 0, 0)), (.getfield 16, 3, (10, 7, 676, 0, 0)), (.iload_n 1, 1, (1, 0, 0, 0, 0)), (.iconst 4, 1, (0, 0, 0, 4, 0)), (.ishr, 1, (0, 0, 0, 0, 0)), (.dup2, 1, (0, 0, 0, 0, 0)), (.laload, 1, (0, 0, 0, 0, 0)), (.iload_n 2, 1, (2, 0, 0, 0, 0)), (.i2l, 1, (0, 0, 0, 0, 0)), (.iload_n 1, 1, (1, 0, 0, 0, 0)), (.bipush 15, 2, (0, 0, 0, 15, 0)), (.iand, 1, (0, 0, 0, 0, 0)), (.iconst 2, 1, (0, 0, 0, 2, 0)), (.ishl, 1, (0, 0, 0, 0, 0)), (.lshl, 1, (0, 0, 0, 0, 0)), (.lxor, 1, (0, 0, 0, 0, 0)), (.lastore, 1, (0, 0, 0, 0, 0)), (.aload_n 0, 1, (0, 0, 0, 0, 0)), (.getfield 20, 3, (10, 8, 677, 0, 0)), (.iload_n 2, 1, (2, 0, 0, 0, 0)), (.iconst 3, 1, (0, 0, 0, 3, 0)), (.ishr, 1, (0, 0, 0, 0, 0)), (.dup2, 1, (0, 0, 0, 0, 0)), (.iaload, 1, (0, 0, 0, 0, 0)), (.aload_n 0, 1, (0, 0, 0, 0, 0)), (.getfield 29, 3, (10, 11, 680, 0, 0)), (.iload_n 2, 1, (2, 0, 0, 0, 0)), (.bipush 6, 2, (0, 0, 0, 6, 0)), (.ishl, 1, (0, 0, 0, 0, 0)), (.iload_n 1, 1, (1, 0, 0, 0, 0)), (.ior, 1, (0, 0, 0, 0, 0)), (.iaload, 1, (0, 0, 0, 0, 0)), (.isub, 1, (0, 1, 0, 0, 0)), (.iastore, 1, (0, 0, 0, 0, 0)), (.aload_n 0, 1, (0, 0, 0, 0, 0)), (.getfield 23, 3, (10, 9, 678, 0, 0)), (.iload_n 2, 1, (2, 0, 0, 0, 0)), (.dup2, 1, (0, 0, 0, 0, 0)), (.iaload, 1, (0, 0, 0, 0, 0)), (.iconst 1, 1, (0, 0, 0, 1, 0)), (.isub, 1, (0, 0, 0, 0, 0)), (.iastore, 1, (0, 0, 0, 0, 0)), (.iload_n 2, 1, (2, 0, 0, 0, 0)), (.bipush 7, 2, (0, 0, 0, 7, 0)), (.iand, 1, (0, 0, 0, 0, 0)), (.iconst 3, 1, (0, 0, 0, 3, 0)), (.if_icmp .ne 19, 3, (90, 0, 0, 0, 0)), (.aload_n 0, 1, (0, 0, 0, 0, 0)), (.getfield 26, 3, (10, 10, 679, 0, 0)), (.iload_n 1, 1, (1, 0, 0, 0, 0)), (.iload_n 1, 1, (1, 0, 0, 0, 0)), (.iconst 3, 1, (0, 0, 0, 3, 0)), (.ishr, 1, (0, 0, 0, 0, 0)), (.ixor, 1, (0, 0, 0, 0, 0)), (.iconst 1, 1, (0, 0, 0, 1, 0)), (.iand, 1, (0, 0, 0, 0, 0)), (.dup2, 1, (0, 0, 0, 0, 0)), (.iaload, 1, (0, 0, 0, 0, 0)), (.iconst 1, 1, (0, 0, 0, 1, 0)), (.isub, 1, (0, 1, 0, 0, 0)), (.iastore, 1, (0, 0, 0, 0, 0)), (.return_, 1, (0, 0, 0, 0, 0))]
theorem ao_ZBOlif34 : jokLG jtF lk_BO "ChessHouse$Board" jcl jtb 3 prog_3_method_9_code 0 ak_ZBOlif34 = true := by decide +kernel
noncomputable def zm_BOlif34 : zM := (none, { frames := 0, cells := 0, slots := 0, locals := 0 }, ([], []), [], ak_ZBOlif34)
noncomputable def zc_BOlif34 (vals : List zv) (W : zW) (post : zPo) : Prop := ∃ s : Int, vals = [.inr (.inr (some (.inl 34))), .inl (s)] ∧ ((0 ≤ s ∧ s < 64) ∧ (0 ≤ W.2.1 35 s ∧ W.2.1 35 s < 16) ∧ (-1000 ≤ W.2.1 39 (W.2.1 35 s) ∧ W.2.1 39 (W.2.1 35 s) ≤ 1000)) ∧ ∀ V : zW, (zLi 34 W V s) → post none V
set_option maxRecDepth 8000 in
theorem zp_BOlif34_0 {n K : Nat} {W : zW} {post : zPo} {s : Int} {u2 : Option zv} (hK : 72 ≤ K) (hn : 142 ≤ n) (h : (0 ≤ s ∧ s < 64) ∧ (0 ≤ s ∧ s < 64) ∧ (-2147483648 ≤ s ∧ s ≤ 2147483647) ∧ ∀ t0 : Int, t0 = s / 16 → (0 ≤ t0 ∧ t0 < 4) ∧ (0 ≤ s ∧ s ≤ 2147483647) ∧ ∀ t1 : Int, t1 = s % 16 → (0 ≤ t1 ∧ t1 * 4 ≤ 2147483647) ∧ ∀ t2 : Int, t2 = t1 * 4 → (0 ≤ t0 ∧ t0 < 4) ∧ (-2147483648 ≤ (W.2.1 35 s) ∧ (W.2.1 35 s) ≤ 2147483647) ∧ ∀ t3 : Int, t3 = (W.2.1 35 s) / 8 → (0 ≤ t3 ∧ t3 < 2) ∧ (0 ≤ (W.2.1 35 s) ∧ (W.2.1 35 s) * 64 ≤ 2147483647) ∧ ∀ t4 : Int, t4 = (W.2.1 35 s) * 64 → (0 ≤ t4 ∧ t4 ≤ 2147483647 ∧ t4 % 64 = 0 ∧ 0 ≤ s ∧ s < 64) ∧ ∀ t5 : Int, t5 = t4 + s → (0 ≤ t5 ∧ t5 < 1024) ∧ (0 ≤ t3 ∧ t3 < 2) ∧ (0 ≤ (W.2.1 35 s) ∧ (W.2.1 35 s) < 16) ∧ (-2147483648 ≤ (W.2.1 39 (W.2.1 35 s)) - 1 ∧ (W.2.1 39 (W.2.1 35 s)) - 1 ≤ 2147483647) ∧ (0 ≤ (W.2.1 35 s) ∧ (W.2.1 35 s) < 16) ∧ (0 ≤ (W.2.1 35 s) ∧ (W.2.1 35 s) ≤ 2147483647) ∧ ∀ t6 : Int, t6 = (W.2.1 35 s) % 8 → (¬ t6 = 3 → post none (zuR (zuR (zuL (zuR W 35 s 0) 37 t0.toNat (((zuR W 35 s 0).2.2.1 37 t0.toNat) ^^^ (((lI (W.2.1 35 s)).toInt64) <<< ((lI t2).toInt64 &&& 63)))) 38 t3 ((lI (W.2.1 38 t3) - lI (W.2.1 41 t5)).toInt)) 39 (W.2.1 35 s) ((W.2.1 39 (W.2.1 35 s)) - 1))) ∧ (t6 = 3 → (-2147483648 ≤ s ∧ s ≤ 2147483647) ∧ ∀ t7 : Int, t7 = s / 8 → (0 ≤ ((lI s ^^^ lI t7).toInt) ∧ ((lI s ^^^ lI t7).toInt) ≤ 2147483647) ∧ ∀ t8 : Int, t8 = ((lI s ^^^ lI t7).toInt) % 2 → (0 ≤ t8 ∧ t8 < 2) ∧ (0 ≤ t8 ∧ t8 < 2) ∧ post none (zuR (zuR (zuR (zuL (zuR W 35 s 0) 37 t0.toNat (((zuR W 35 s 0).2.2.1 37 t0.toNat) ^^^ (((lI (W.2.1 35 s)).toInt64) <<< ((lI t2).toInt64 &&& 63)))) 38 t3 ((lI (W.2.1 38 t3) - lI (W.2.1 41 t5)).toInt)) 39 (W.2.1 35 s) ((W.2.1 39 (W.2.1 35 s)) - 1)) 40 t8 ((lI (W.2.1 40 t8) - lI 1).toInt)))) : zwp jtb zsh n zm_BOlif34 post K (lGo ak_ZBOlif34 0) 0 [some (.inr (.inr (some (.inl 34)))), some (.inl (s)), u2] [] W := by
  obtain ⟨kk__, rfl⟩ : ∃ kk__, K = kk__ + 72 := ⟨K - 72, by omega⟩
  exact (show 34 < n ∧ 10 = 10 ∧ 35 < n ∧ FieldType.int = FieldType.int ∧ (0 ≤ s ∧ s < 64) ∧ 34 < n ∧ 10 = 10 ∧ 35 < n ∧ FieldType.int = FieldType.int ∧ (0 ≤ s ∧ s < 64) ∧ True ∧ 34 < n ∧ 10 = 10 ∧ 37 < n ∧ (0 ≤ ((lI s >>> (lI 4 &&& 31)).toInt) ∧ ((lI s >>> (lI 4 &&& 31)).toInt) < 4) ∧ 37 < n ∧ (0 ≤ ((lI s >>> (lI 4 &&& 31)).toInt) ∧ ((lI s >>> (lI 4 &&& 31)).toInt) < 4) ∧ 34 < n ∧ 10 = 10 ∧ 38 < n ∧ FieldType.int = FieldType.int ∧ (0 ≤ ((lI (W.2.1 35 s) >>> (lI 3 &&& 31)).toInt) ∧ ((lI (W.2.1 35 s) >>> (lI 3 &&& 31)).toInt) < 2) ∧ 34 < n ∧ 10 = 10 ∧ 41 < n ∧ FieldType.int = FieldType.int ∧ (0 ≤ ((lI ((lI (W.2.1 35 s) <<< (lI 6 &&& 31)).toInt) ||| lI s).toInt) ∧ ((lI ((lI (W.2.1 35 s) <<< (lI 6 &&& 31)).toInt) ||| lI s).toInt) < 1024) ∧ 38 < n ∧ FieldType.int = FieldType.int ∧ (0 ≤ ((lI (W.2.1 35 s) >>> (lI 3 &&& 31)).toInt) ∧ ((lI (W.2.1 35 s) >>> (lI 3 &&& 31)).toInt) < 2) ∧ True ∧ 34 < n ∧ 10 = 10 ∧ 39 < n ∧ FieldType.int = FieldType.int ∧ (0 ≤ (W.2.1 35 s) ∧ (W.2.1 35 s) < 16) ∧ (-2147483648 ≤ (W.2.1 39 (W.2.1 35 s)) - 1 ∧ (W.2.1 39 (W.2.1 35 s)) - 1 ≤ 2147483647) ∧ 39 < n ∧ FieldType.int = FieldType.int ∧ (0 ≤ (W.2.1 35 s) ∧ (W.2.1 35 s) < 16) ∧ True ∧ (¬ ((lI (W.2.1 35 s) &&& lI 7).toInt) = 3 → 1 = 1 ∧ (none : Option FieldType) = none ∧ post none (zuR (zuR (zuL (zuR W 35 s 0) 37 ((lI s >>> (lI 4 &&& 31)).toInt).toNat (((zuR W 35 s 0).2.2.1 37 ((lI s >>> (lI 4 &&& 31)).toInt).toNat) ^^^ (((lI (W.2.1 35 s)).toInt64) <<< ((lI ((lI ((lI s &&& lI 15).toInt) <<< (lI 2 &&& 31)).toInt)).toInt64 &&& 63)))) 38 ((lI (W.2.1 35 s) >>> (lI 3 &&& 31)).toInt) ((lI (W.2.1 38 ((lI (W.2.1 35 s) >>> (lI 3 &&& 31)).toInt)) - lI (W.2.1 41 ((lI ((lI (W.2.1 35 s) <<< (lI 6 &&& 31)).toInt) ||| lI s).toInt))).toInt)) 39 (W.2.1 35 s) ((W.2.1 39 (W.2.1 35 s)) - 1))) ∧ (((lI (W.2.1 35 s) &&& lI 7).toInt) = 3 → 34 < n ∧ 10 = 10 ∧ 40 < n ∧ FieldType.int = FieldType.int ∧ (0 ≤ ((lI ((lI s ^^^ lI ((lI s >>> (lI 3 &&& 31)).toInt)).toInt) &&& lI 1).toInt) ∧ ((lI ((lI s ^^^ lI ((lI s >>> (lI 3 &&& 31)).toInt)).toInt) &&& lI 1).toInt) < 2) ∧ 40 < n ∧ FieldType.int = FieldType.int ∧ (0 ≤ ((lI ((lI s ^^^ lI ((lI s >>> (lI 3 &&& 31)).toInt)).toInt) &&& lI 1).toInt) ∧ ((lI ((lI s ^^^ lI ((lI s >>> (lI 3 &&& 31)).toInt)).toInt) &&& lI 1).toInt) < 2) ∧ True ∧ 1 = 1 ∧ (none : Option FieldType) = none ∧ post none (zuR (zuR (zuR (zuL (zuR W 35 s 0) 37 ((lI s >>> (lI 4 &&& 31)).toInt).toNat (((zuR W 35 s 0).2.2.1 37 ((lI s >>> (lI 4 &&& 31)).toInt).toNat) ^^^ (((lI (W.2.1 35 s)).toInt64) <<< ((lI ((lI ((lI s &&& lI 15).toInt) <<< (lI 2 &&& 31)).toInt)).toInt64 &&& 63)))) 38 ((lI (W.2.1 35 s) >>> (lI 3 &&& 31)).toInt) ((lI (W.2.1 38 ((lI (W.2.1 35 s) >>> (lI 3 &&& 31)).toInt)) - lI (W.2.1 41 ((lI ((lI (W.2.1 35 s) <<< (lI 6 &&& 31)).toInt) ||| lI s).toInt))).toInt)) 39 (W.2.1 35 s) ((W.2.1 39 (W.2.1 35 s)) - 1)) 40 ((lI ((lI s ^^^ lI ((lI s >>> (lI 3 &&& 31)).toInt)).toInt) &&& lI 1).toInt) ((lI (W.2.1 40 ((lI ((lI s ^^^ lI ((lI s >>> (lI 3 &&& 31)).toInt)).toInt) &&& lI 1).toInt)) - lI 1).toInt))) from ⟨(Nat.lt_of_lt_of_le (by decide) hn), rfl, ⟨(Nat.lt_of_lt_of_le (by decide) hn), rfl, (h).1, ⟨(Nat.lt_of_lt_of_le (by decide) hn), rfl, ⟨(Nat.lt_of_lt_of_le (by decide) hn), rfl, ((h).2).1, trivial, ⟨(Nat.lt_of_lt_of_le (by decide) hn), rfl, (have h := ((((h).2).2).2 _ (z_sr4 (((h).2).2).1)); ⟨(Nat.lt_of_lt_of_le (by decide) hn), (h).1, (have h := (((h).2).2 _ (z_an15 ((h).2).1)); ⟨(Nat.lt_of_lt_of_le (by decide) hn), (((h).2 _ (z_sl2 (h).1))).1, (have h := (((h).2 _ (z_sl2 (h).1))).2; ⟨(Nat.lt_of_lt_of_le (by decide) hn), rfl, ⟨(Nat.lt_of_lt_of_le (by decide) hn), rfl, (((h).2 _ (z_sr3 (h).1))).1, (have h := (((h).2 _ (z_sr3 (h).1))).2; ⟨(Nat.lt_of_lt_of_le (by decide) hn), rfl, (have h := ((((h).2 _ (z_sl6 (h).1))).2 _ (z_or6 (((h).2 _ (z_sl6 (h).1))).1)); ⟨(Nat.lt_of_lt_of_le (by decide) hn), rfl, (h).1, ⟨(Nat.lt_of_lt_of_le (by decide) hn), rfl, ((h).2).1, trivial, ⟨(Nat.lt_of_lt_of_le (by decide) hn), rfl, ⟨(Nat.lt_of_lt_of_le (by decide) hn), rfl, (((h).2).2).1, ⟨((((h).2).2).2).1, ⟨(Nat.lt_of_lt_of_le (by decide) hn), rfl, (((((h).2).2).2).2).1, trivial, (have h := (((((((h).2).2).2).2).2).2 _ (z_an7 ((((((h).2).2).2).2).2).1)); ⟨fun c71_56 => ⟨rfl, rfl, ((h).1 c71_56)⟩, fun c71_56 => ⟨(Nat.lt_of_lt_of_le (by decide) hn), rfl, (have h := ((((h).2 c71_56)).2 _ (z_sr3 (((h).2 c71_56)).1)); ⟨(Nat.lt_of_lt_of_le (by decide) hn), rfl, (((h).2 _ (z_an1 (h).1))).1, (have h := (((h).2 _ (z_an1 (h).1))).2; ⟨(Nat.lt_of_lt_of_le (by decide) hn), rfl, (h).1, trivial, ⟨rfl, rfl, (h).2⟩⟩)⟩)⟩⟩)⟩⟩⟩⟩⟩⟩)⟩)⟩⟩)⟩)⟩)⟩⟩⟩⟩⟩)
theorem zk_BOlif34 {l : Launch} {E : jE} {n : Nat} (hn : 142 ≤ n) : zHas l E jcl jtb lw_tbl zsh n (y_BO_lift, false, 2, 10, { frames := 0, cells := 0, slots := 0, locals := 0 }, zc_BOlif34) := by
  refine ⟨⟨rfl, rfl, ⟨show 1 ≤ 2 by decide, m_BO_lift, i_BO_lift, e_BO_lift, fun _ => ⟨_, rfl, rfl⟩⟩⟩, ?_⟩
  rintro vz W po hO hW ⟨s, rfl, hq, hp⟩
  refine zmet (m := zm_BOlif34) rfl (by decide) (fun _ _ => jtF_ok) lo_BO ao_ZBOlif34 jC (fun q h => by cases h) (fun q h => by cases h) (fun q h => by cases h) (Nat.le_of_ble_eq_true rfl) hO hW (120) ?_
  obtain ⟨hs, hm, hc⟩ := hq
  exact zp_BOlif34_0 (by omega) hn ⟨(by omega), ⟨(by omega), ⟨(by omega), fun t0 e0 => ⟨(by omega), ⟨(by omega), fun t1 e1 => ⟨(by omega), fun t2 e2 => ⟨(by omega), ⟨(by omega), fun t3 e3 => ⟨(by omega), ⟨(by omega), fun t4 e4 => ⟨(by omega), fun t5 e5 => ⟨(by omega), ⟨(by omega), ⟨(by omega), ⟨(by omega), ⟨(by omega), ⟨(by omega), fun t6 e6 => ⟨fun c71 => (hp _ ⟨(zFy_R (zFy_R (zFy_L (zFy_R zFy_0 (by decide)) (by decide)) (by decide)) (by decide)), by first | rfl | (rw [if_neg (by omega)]; rfl) | (rw [if_pos (by omega), ← e8]; rfl), by first | rfl | (rw [if_neg (by omega)]; rfl) | (rw [if_pos (by omega), ← e8]; rfl), by first | rfl | (rw [if_neg (by omega)]; rfl) | (rw [if_pos (by omega), ← e8]; rfl), by rw [show 64 * W.2.1 35 s + s = t5 by omega, show W.2.1 35 s / 8 = t3 by omega]; rfl⟩), fun c71 => ⟨(by omega), fun t7 e7 => ⟨(cx3 (by omega)), fun t8 e8 => ⟨(by omega), ⟨(by omega), (hp _ ⟨(zFy_R (zFy_R (zFy_R (zFy_L (zFy_R zFy_0 (by decide)) (by decide)) (by decide)) (by decide)) (by decide)), by first | rfl | (rw [if_neg (by omega)]; rfl) | (rw [if_pos (by omega), ← e8]; rfl), by first | rfl | (rw [if_neg (by omega)]; rfl) | (rw [if_pos (by omega), ← e8]; rfl), by first | rfl | (rw [if_neg (by omega)]; rfl) | (rw [if_pos (by omega), ← e8]; rfl), by rw [show 64 * W.2.1 35 s + s = t5 by omega, show W.2.1 35 s / 8 = t3 by omega]; rfl⟩)⟩⟩⟩⟩⟩⟩⟩⟩⟩⟩⟩⟩⟩⟩⟩⟩⟩⟩⟩⟩⟩⟩
noncomputable def ak_ZBOput61 : List jI := ak_ZBOput34
theorem ao_ZBOput61 : jokLG jtF lk_BO "ChessHouse$Board" jcl jtb 3 prog_3_method_8_code 0 ak_ZBOput61 = true := ao_ZBOput34
noncomputable def zm_BOput61 : zM := (none, { frames := 0, cells := 0, slots := 0, locals := 0 }, ([], []), [], ak_ZBOput61)
noncomputable def zc_BOput61 (vals : List zv) (W : zW) (post : zPo) : Prop := ∃ s m : Int, vals = [.inr (.inr (some (.inl 61))), .inl (s), .inl (m)] ∧ ((0 ≤ s ∧ s < 64) ∧ (0 ≤ m ∧ m < 16) ∧ (-1000 ≤ W.2.1 66 m ∧ W.2.1 66 m ≤ 1000)) ∧ ∀ V : zW, (zPu 61 W V s m) → post none V
set_option maxRecDepth 8000 in
theorem zp_BOput61_0 {n K : Nat} {W : zW} {post : zPo} {s m : Int}  (hK : 68 ≤ K) (hn : 142 ≤ n) (h : (0 ≤ s ∧ s < 64) ∧ (-2147483648 ≤ s ∧ s ≤ 2147483647) ∧ ∀ t0 : Int, t0 = s / 16 → (0 ≤ t0 ∧ t0 < 4) ∧ (0 ≤ s ∧ s ≤ 2147483647) ∧ ∀ t1 : Int, t1 = s % 16 → (0 ≤ t1 ∧ t1 * 4 ≤ 2147483647) ∧ ∀ t2 : Int, t2 = t1 * 4 → (0 ≤ t0 ∧ t0 < 4) ∧ (-2147483648 ≤ m ∧ m ≤ 2147483647) ∧ ∀ t3 : Int, t3 = m / 8 → (0 ≤ t3 ∧ t3 < 2) ∧ (0 ≤ m ∧ m * 64 ≤ 2147483647) ∧ ∀ t4 : Int, t4 = m * 64 → (0 ≤ t4 ∧ t4 ≤ 2147483647 ∧ t4 % 64 = 0 ∧ 0 ≤ s ∧ s < 64) ∧ ∀ t5 : Int, t5 = t4 + s → (0 ≤ t5 ∧ t5 < 1024) ∧ (0 ≤ t3 ∧ t3 < 2) ∧ (0 ≤ m ∧ m < 16) ∧ (-2147483648 ≤ (W.2.1 66 m) + 1 ∧ (W.2.1 66 m) + 1 ≤ 2147483647) ∧ (0 ≤ m ∧ m < 16) ∧ (0 ≤ m ∧ m ≤ 2147483647) ∧ ∀ t6 : Int, t6 = m % 8 → (¬ t6 = 3 → (0 ≤ m ∧ m ≤ 2147483647) ∧ ∀ t7 : Int, t7 = m % 8 → (¬ t7 = 6 → post none (zuR (zuR (zuL (zuR W 62 s m) 64 t0.toNat (((zuR W 62 s m).2.2.1 64 t0.toNat) ^^^ (((lI m).toInt64) <<< ((lI t2).toInt64 &&& 63)))) 65 t3 ((lI (W.2.1 65 t3) + lI (W.2.1 68 t5)).toInt)) 66 m ((W.2.1 66 m) + 1))) ∧ (t7 = 6 → (-2147483648 ≤ m ∧ m ≤ 2147483647) ∧ ∀ t8 : Int, t8 = m / 8 → (0 ≤ t8 ∧ t8 < 2) ∧ post none (zuR (zuR (zuR (zuL (zuR W 62 s m) 64 t0.toNat (((zuR W 62 s m).2.2.1 64 t0.toNat) ^^^ (((lI m).toInt64) <<< ((lI t2).toInt64 &&& 63)))) 65 t3 ((lI (W.2.1 65 t3) + lI (W.2.1 68 t5)).toInt)) 66 m ((W.2.1 66 m) + 1)) 63 t8 s))) ∧ (t6 = 3 → (-2147483648 ≤ s ∧ s ≤ 2147483647) ∧ ∀ t9 : Int, t9 = s / 8 → (0 ≤ ((lI s ^^^ lI t9).toInt) ∧ ((lI s ^^^ lI t9).toInt) ≤ 2147483647) ∧ ∀ t10 : Int, t10 = ((lI s ^^^ lI t9).toInt) % 2 → (0 ≤ t10 ∧ t10 < 2) ∧ (0 ≤ t10 ∧ t10 < 2) ∧ post none (zuR (zuR (zuR (zuL (zuR W 62 s m) 64 t0.toNat (((zuR W 62 s m).2.2.1 64 t0.toNat) ^^^ (((lI m).toInt64) <<< ((lI t2).toInt64 &&& 63)))) 65 t3 ((lI (W.2.1 65 t3) + lI (W.2.1 68 t5)).toInt)) 66 m ((W.2.1 66 m) + 1)) 67 t10 ((lI (W.2.1 67 t10) + lI 1).toInt)))) : zwp jtb zsh n zm_BOput61 post K (lGo ak_ZBOput61 0) 0 [some (.inr (.inr (some (.inl 61)))), some (.inl (s)), some (.inl (m))] [] W := by
  obtain ⟨kk__, rfl⟩ : ∃ kk__, K = kk__ + 68 := ⟨K - 68, by omega⟩
  exact (show 61 < n ∧ 10 = 10 ∧ 62 < n ∧ FieldType.int = FieldType.int ∧ (0 ≤ s ∧ s < 64) ∧ True ∧ 61 < n ∧ 10 = 10 ∧ 64 < n ∧ (0 ≤ ((lI s >>> (lI 4 &&& 31)).toInt) ∧ ((lI s >>> (lI 4 &&& 31)).toInt) < 4) ∧ 64 < n ∧ (0 ≤ ((lI s >>> (lI 4 &&& 31)).toInt) ∧ ((lI s >>> (lI 4 &&& 31)).toInt) < 4) ∧ 61 < n ∧ 10 = 10 ∧ 65 < n ∧ FieldType.int = FieldType.int ∧ (0 ≤ ((lI m >>> (lI 3 &&& 31)).toInt) ∧ ((lI m >>> (lI 3 &&& 31)).toInt) < 2) ∧ 61 < n ∧ 10 = 10 ∧ 68 < n ∧ FieldType.int = FieldType.int ∧ (0 ≤ ((lI ((lI m <<< (lI 6 &&& 31)).toInt) ||| lI s).toInt) ∧ ((lI ((lI m <<< (lI 6 &&& 31)).toInt) ||| lI s).toInt) < 1024) ∧ 65 < n ∧ FieldType.int = FieldType.int ∧ (0 ≤ ((lI m >>> (lI 3 &&& 31)).toInt) ∧ ((lI m >>> (lI 3 &&& 31)).toInt) < 2) ∧ True ∧ 61 < n ∧ 10 = 10 ∧ 66 < n ∧ FieldType.int = FieldType.int ∧ (0 ≤ m ∧ m < 16) ∧ (-2147483648 ≤ (W.2.1 66 m) + 1 ∧ (W.2.1 66 m) + 1 ≤ 2147483647) ∧ 66 < n ∧ FieldType.int = FieldType.int ∧ (0 ≤ m ∧ m < 16) ∧ True ∧ (¬ ((lI m &&& lI 7).toInt) = 3 → (¬ ((lI m &&& lI 7).toInt) = 6 → 1 = 1 ∧ (none : Option FieldType) = none ∧ post none (zuR (zuR (zuL (zuR W 62 s m) 64 ((lI s >>> (lI 4 &&& 31)).toInt).toNat (((zuR W 62 s m).2.2.1 64 ((lI s >>> (lI 4 &&& 31)).toInt).toNat) ^^^ (((lI m).toInt64) <<< ((lI ((lI ((lI s &&& lI 15).toInt) <<< (lI 2 &&& 31)).toInt)).toInt64 &&& 63)))) 65 ((lI m >>> (lI 3 &&& 31)).toInt) ((lI (W.2.1 65 ((lI m >>> (lI 3 &&& 31)).toInt)) + lI (W.2.1 68 ((lI ((lI m <<< (lI 6 &&& 31)).toInt) ||| lI s).toInt))).toInt)) 66 m ((W.2.1 66 m) + 1))) ∧ (((lI m &&& lI 7).toInt) = 6 → 61 < n ∧ 10 = 10 ∧ 63 < n ∧ FieldType.int = FieldType.int ∧ (0 ≤ ((lI m >>> (lI 3 &&& 31)).toInt) ∧ ((lI m >>> (lI 3 &&& 31)).toInt) < 2) ∧ True ∧ 1 = 1 ∧ (none : Option FieldType) = none ∧ post none (zuR (zuR (zuR (zuL (zuR W 62 s m) 64 ((lI s >>> (lI 4 &&& 31)).toInt).toNat (((zuR W 62 s m).2.2.1 64 ((lI s >>> (lI 4 &&& 31)).toInt).toNat) ^^^ (((lI m).toInt64) <<< ((lI ((lI ((lI s &&& lI 15).toInt) <<< (lI 2 &&& 31)).toInt)).toInt64 &&& 63)))) 65 ((lI m >>> (lI 3 &&& 31)).toInt) ((lI (W.2.1 65 ((lI m >>> (lI 3 &&& 31)).toInt)) + lI (W.2.1 68 ((lI ((lI m <<< (lI 6 &&& 31)).toInt) ||| lI s).toInt))).toInt)) 66 m ((W.2.1 66 m) + 1)) 63 ((lI m >>> (lI 3 &&& 31)).toInt) s))) ∧ (((lI m &&& lI 7).toInt) = 3 → 61 < n ∧ 10 = 10 ∧ 67 < n ∧ FieldType.int = FieldType.int ∧ (0 ≤ ((lI ((lI s ^^^ lI ((lI s >>> (lI 3 &&& 31)).toInt)).toInt) &&& lI 1).toInt) ∧ ((lI ((lI s ^^^ lI ((lI s >>> (lI 3 &&& 31)).toInt)).toInt) &&& lI 1).toInt) < 2) ∧ 67 < n ∧ FieldType.int = FieldType.int ∧ (0 ≤ ((lI ((lI s ^^^ lI ((lI s >>> (lI 3 &&& 31)).toInt)).toInt) &&& lI 1).toInt) ∧ ((lI ((lI s ^^^ lI ((lI s >>> (lI 3 &&& 31)).toInt)).toInt) &&& lI 1).toInt) < 2) ∧ True ∧ 1 = 1 ∧ (none : Option FieldType) = none ∧ post none (zuR (zuR (zuR (zuL (zuR W 62 s m) 64 ((lI s >>> (lI 4 &&& 31)).toInt).toNat (((zuR W 62 s m).2.2.1 64 ((lI s >>> (lI 4 &&& 31)).toInt).toNat) ^^^ (((lI m).toInt64) <<< ((lI ((lI ((lI s &&& lI 15).toInt) <<< (lI 2 &&& 31)).toInt)).toInt64 &&& 63)))) 65 ((lI m >>> (lI 3 &&& 31)).toInt) ((lI (W.2.1 65 ((lI m >>> (lI 3 &&& 31)).toInt)) + lI (W.2.1 68 ((lI ((lI m <<< (lI 6 &&& 31)).toInt) ||| lI s).toInt))).toInt)) 66 m ((W.2.1 66 m) + 1)) 67 ((lI ((lI s ^^^ lI ((lI s >>> (lI 3 &&& 31)).toInt)).toInt) &&& lI 1).toInt) ((lI (W.2.1 67 ((lI ((lI s ^^^ lI ((lI s >>> (lI 3 &&& 31)).toInt)).toInt) &&& lI 1).toInt)) + lI 1).toInt))) from ⟨(Nat.lt_of_lt_of_le (by decide) hn), rfl, ⟨(Nat.lt_of_lt_of_le (by decide) hn), rfl, (h).1, trivial, ⟨(Nat.lt_of_lt_of_le (by decide) hn), rfl, (have h := (((h).2).2 _ (z_sr4 ((h).2).1)); ⟨(Nat.lt_of_lt_of_le (by decide) hn), (h).1, (have h := (((h).2).2 _ (z_an15 ((h).2).1)); ⟨(Nat.lt_of_lt_of_le (by decide) hn), (((h).2 _ (z_sl2 (h).1))).1, (have h := (((h).2 _ (z_sl2 (h).1))).2; ⟨(Nat.lt_of_lt_of_le (by decide) hn), rfl, ⟨(Nat.lt_of_lt_of_le (by decide) hn), rfl, (((h).2 _ (z_sr3 (h).1))).1, (have h := (((h).2 _ (z_sr3 (h).1))).2; ⟨(Nat.lt_of_lt_of_le (by decide) hn), rfl, (have h := ((((h).2 _ (z_sl6 (h).1))).2 _ (z_or6 (((h).2 _ (z_sl6 (h).1))).1)); ⟨(Nat.lt_of_lt_of_le (by decide) hn), rfl, (h).1, ⟨(Nat.lt_of_lt_of_le (by decide) hn), rfl, ((h).2).1, trivial, ⟨(Nat.lt_of_lt_of_le (by decide) hn), rfl, ⟨(Nat.lt_of_lt_of_le (by decide) hn), rfl, (((h).2).2).1, ⟨((((h).2).2).2).1, ⟨(Nat.lt_of_lt_of_le (by decide) hn), rfl, (((((h).2).2).2).2).1, trivial, (have h := (((((((h).2).2).2).2).2).2 _ (z_an7 ((((((h).2).2).2).2).2).1)); ⟨fun c64_51 => (have h := ((((h).1 c64_51)).2 _ (z_an7 (((h).1 c64_51)).1)); ⟨fun c92_56 => ⟨rfl, rfl, ((h).1 c92_56)⟩, fun c92_56 => ⟨(Nat.lt_of_lt_of_le (by decide) hn), rfl, (have h := ((((h).2 c92_56)).2 _ (z_sr3 (((h).2 c92_56)).1)); ⟨(Nat.lt_of_lt_of_le (by decide) hn), rfl, (h).1, trivial, ⟨rfl, rfl, (h).2⟩⟩)⟩⟩), fun c64_51 => ⟨(Nat.lt_of_lt_of_le (by decide) hn), rfl, (have h := ((((h).2 c64_51)).2 _ (z_sr3 (((h).2 c64_51)).1)); ⟨(Nat.lt_of_lt_of_le (by decide) hn), rfl, (((h).2 _ (z_an1 (h).1))).1, (have h := (((h).2 _ (z_an1 (h).1))).2; ⟨(Nat.lt_of_lt_of_le (by decide) hn), rfl, (h).1, trivial, ⟨rfl, rfl, (h).2⟩⟩)⟩)⟩⟩)⟩⟩⟩⟩⟩⟩)⟩)⟩⟩)⟩)⟩)⟩⟩⟩)
theorem zk_BOput61 {l : Launch} {E : jE} {n : Nat} (hn : 142 ≤ n) : zHas l E jcl jtb lw_tbl zsh n (y_BO_put, false, 3, 10, { frames := 0, cells := 0, slots := 0, locals := 0 }, zc_BOput61) := by
  refine ⟨⟨rfl, rfl, ⟨show 1 ≤ 3 by decide, m_BO_put, i_BO_put, e_BO_put, fun _ => ⟨_, rfl, rfl⟩⟩⟩, ?_⟩
  rintro vz W po hO hW ⟨s, m, rfl, hq, hp⟩
  refine zmet (m := zm_BOput61) rfl (by decide) (fun _ _ => jtF_ok) lo_BO ao_ZBOput61 jC (fun q h => by cases h) (fun q h => by cases h) (fun q h => by cases h) (Nat.le_of_ble_eq_true rfl) hO hW (120) ?_
  obtain ⟨hs, hm, hc⟩ := hq
  exact zp_BOput61_0 (by omega) hn ⟨(by omega), ⟨(by omega), fun t0 e0 => ⟨(by omega), ⟨(by omega), fun t1 e1 => ⟨(by omega), fun t2 e2 => ⟨(by omega), ⟨(by omega), fun t3 e3 => ⟨(by omega), ⟨(by omega), fun t4 e4 => ⟨(by omega), fun t5 e5 => ⟨(by omega), ⟨(by omega), ⟨(by omega), ⟨(by omega), ⟨(by omega), ⟨(by omega), fun t6 e6 => ⟨fun c64 => ⟨(by omega), fun t7 e7 => ⟨fun c92 => (hp _ ⟨(zFy_R (zFy_R (zFy_L (zFy_R zFy_0 (by decide)) (by decide)) (by decide)) (by decide)), by first | rfl | (rw [if_neg (by omega)]; rfl) | (rw [if_pos (by omega), ← e8]; rfl), by first | rfl | (rw [if_neg (by omega)]; rfl) | (rw [if_pos (by omega), ← e8]; rfl), by first | rfl | (rw [if_neg (by omega)]; rfl) | (rw [if_pos (by omega), ← e8]; rfl), by rw [show 64 * m + s = t5 by omega, show m / 8 = t3 by omega]; rfl⟩), fun c92 => ⟨(by omega), fun t8 e8 => ⟨(by omega), (hp _ ⟨(zFy_R (zFy_R (zFy_R (zFy_L (zFy_R zFy_0 (by decide)) (by decide)) (by decide)) (by decide)) (by decide)), by first | rfl | (rw [if_neg (by omega)]; rfl) | (rw [if_pos (by omega), ← e8]; rfl), by first | rfl | (rw [if_neg (by omega)]; rfl) | (rw [if_pos (by omega), ← e8]; rfl), by first | rfl | (rw [if_neg (by omega)]; rfl) | (rw [if_pos (by omega), ← e8]; rfl), by rw [show 64 * m + s = t5 by omega, show m / 8 = t3 by omega]; rfl⟩)⟩⟩⟩⟩, fun c64 => ⟨(by omega), fun t9 e9 => ⟨(cx3 (by omega)), fun t10 e10 => ⟨(by omega), ⟨(by omega), (hp _ ⟨(zFy_R (zFy_R (zFy_R (zFy_L (zFy_R zFy_0 (by decide)) (by decide)) (by decide)) (by decide)) (by decide)), by first | rfl | (rw [if_neg (by omega)]; rfl) | (rw [if_pos (by omega), ← e8]; rfl), by first | rfl | (rw [if_neg (by omega)]; rfl) | (rw [if_pos (by omega), ← e8]; rfl), by first | rfl | (rw [if_neg (by omega)]; rfl) | (rw [if_pos (by omega), ← e8]; rfl), by rw [show 64 * m + s = t5 by omega, show m / 8 = t3 by omega]; rfl⟩)⟩⟩⟩⟩⟩⟩⟩⟩⟩⟩⟩⟩⟩⟩⟩⟩⟩⟩⟩⟩⟩
noncomputable def ak_ZBOlif61 : List jI := ak_ZBOlif34
theorem ao_ZBOlif61 : jokLG jtF lk_BO "ChessHouse$Board" jcl jtb 3 prog_3_method_9_code 0 ak_ZBOlif61 = true := ao_ZBOlif34
noncomputable def zm_BOlif61 : zM := (none, { frames := 0, cells := 0, slots := 0, locals := 0 }, ([], []), [], ak_ZBOlif61)
noncomputable def zc_BOlif61 (vals : List zv) (W : zW) (post : zPo) : Prop := ∃ s : Int, vals = [.inr (.inr (some (.inl 61))), .inl (s)] ∧ ((0 ≤ s ∧ s < 64) ∧ (0 ≤ W.2.1 62 s ∧ W.2.1 62 s < 16) ∧ (-1000 ≤ W.2.1 66 (W.2.1 62 s) ∧ W.2.1 66 (W.2.1 62 s) ≤ 1000)) ∧ ∀ V : zW, (zLi 61 W V s) → post none V
set_option maxRecDepth 8000 in
theorem zp_BOlif61_0 {n K : Nat} {W : zW} {post : zPo} {s : Int} {u2 : Option zv} (hK : 72 ≤ K) (hn : 142 ≤ n) (h : (0 ≤ s ∧ s < 64) ∧ (0 ≤ s ∧ s < 64) ∧ (-2147483648 ≤ s ∧ s ≤ 2147483647) ∧ ∀ t0 : Int, t0 = s / 16 → (0 ≤ t0 ∧ t0 < 4) ∧ (0 ≤ s ∧ s ≤ 2147483647) ∧ ∀ t1 : Int, t1 = s % 16 → (0 ≤ t1 ∧ t1 * 4 ≤ 2147483647) ∧ ∀ t2 : Int, t2 = t1 * 4 → (0 ≤ t0 ∧ t0 < 4) ∧ (-2147483648 ≤ (W.2.1 62 s) ∧ (W.2.1 62 s) ≤ 2147483647) ∧ ∀ t3 : Int, t3 = (W.2.1 62 s) / 8 → (0 ≤ t3 ∧ t3 < 2) ∧ (0 ≤ (W.2.1 62 s) ∧ (W.2.1 62 s) * 64 ≤ 2147483647) ∧ ∀ t4 : Int, t4 = (W.2.1 62 s) * 64 → (0 ≤ t4 ∧ t4 ≤ 2147483647 ∧ t4 % 64 = 0 ∧ 0 ≤ s ∧ s < 64) ∧ ∀ t5 : Int, t5 = t4 + s → (0 ≤ t5 ∧ t5 < 1024) ∧ (0 ≤ t3 ∧ t3 < 2) ∧ (0 ≤ (W.2.1 62 s) ∧ (W.2.1 62 s) < 16) ∧ (-2147483648 ≤ (W.2.1 66 (W.2.1 62 s)) - 1 ∧ (W.2.1 66 (W.2.1 62 s)) - 1 ≤ 2147483647) ∧ (0 ≤ (W.2.1 62 s) ∧ (W.2.1 62 s) < 16) ∧ (0 ≤ (W.2.1 62 s) ∧ (W.2.1 62 s) ≤ 2147483647) ∧ ∀ t6 : Int, t6 = (W.2.1 62 s) % 8 → (¬ t6 = 3 → post none (zuR (zuR (zuL (zuR W 62 s 0) 64 t0.toNat (((zuR W 62 s 0).2.2.1 64 t0.toNat) ^^^ (((lI (W.2.1 62 s)).toInt64) <<< ((lI t2).toInt64 &&& 63)))) 65 t3 ((lI (W.2.1 65 t3) - lI (W.2.1 68 t5)).toInt)) 66 (W.2.1 62 s) ((W.2.1 66 (W.2.1 62 s)) - 1))) ∧ (t6 = 3 → (-2147483648 ≤ s ∧ s ≤ 2147483647) ∧ ∀ t7 : Int, t7 = s / 8 → (0 ≤ ((lI s ^^^ lI t7).toInt) ∧ ((lI s ^^^ lI t7).toInt) ≤ 2147483647) ∧ ∀ t8 : Int, t8 = ((lI s ^^^ lI t7).toInt) % 2 → (0 ≤ t8 ∧ t8 < 2) ∧ (0 ≤ t8 ∧ t8 < 2) ∧ post none (zuR (zuR (zuR (zuL (zuR W 62 s 0) 64 t0.toNat (((zuR W 62 s 0).2.2.1 64 t0.toNat) ^^^ (((lI (W.2.1 62 s)).toInt64) <<< ((lI t2).toInt64 &&& 63)))) 65 t3 ((lI (W.2.1 65 t3) - lI (W.2.1 68 t5)).toInt)) 66 (W.2.1 62 s) ((W.2.1 66 (W.2.1 62 s)) - 1)) 67 t8 ((lI (W.2.1 67 t8) - lI 1).toInt)))) : zwp jtb zsh n zm_BOlif61 post K (lGo ak_ZBOlif61 0) 0 [some (.inr (.inr (some (.inl 61)))), some (.inl (s)), u2] [] W := by
  obtain ⟨kk__, rfl⟩ : ∃ kk__, K = kk__ + 72 := ⟨K - 72, by omega⟩
  exact (show 61 < n ∧ 10 = 10 ∧ 62 < n ∧ FieldType.int = FieldType.int ∧ (0 ≤ s ∧ s < 64) ∧ 61 < n ∧ 10 = 10 ∧ 62 < n ∧ FieldType.int = FieldType.int ∧ (0 ≤ s ∧ s < 64) ∧ True ∧ 61 < n ∧ 10 = 10 ∧ 64 < n ∧ (0 ≤ ((lI s >>> (lI 4 &&& 31)).toInt) ∧ ((lI s >>> (lI 4 &&& 31)).toInt) < 4) ∧ 64 < n ∧ (0 ≤ ((lI s >>> (lI 4 &&& 31)).toInt) ∧ ((lI s >>> (lI 4 &&& 31)).toInt) < 4) ∧ 61 < n ∧ 10 = 10 ∧ 65 < n ∧ FieldType.int = FieldType.int ∧ (0 ≤ ((lI (W.2.1 62 s) >>> (lI 3 &&& 31)).toInt) ∧ ((lI (W.2.1 62 s) >>> (lI 3 &&& 31)).toInt) < 2) ∧ 61 < n ∧ 10 = 10 ∧ 68 < n ∧ FieldType.int = FieldType.int ∧ (0 ≤ ((lI ((lI (W.2.1 62 s) <<< (lI 6 &&& 31)).toInt) ||| lI s).toInt) ∧ ((lI ((lI (W.2.1 62 s) <<< (lI 6 &&& 31)).toInt) ||| lI s).toInt) < 1024) ∧ 65 < n ∧ FieldType.int = FieldType.int ∧ (0 ≤ ((lI (W.2.1 62 s) >>> (lI 3 &&& 31)).toInt) ∧ ((lI (W.2.1 62 s) >>> (lI 3 &&& 31)).toInt) < 2) ∧ True ∧ 61 < n ∧ 10 = 10 ∧ 66 < n ∧ FieldType.int = FieldType.int ∧ (0 ≤ (W.2.1 62 s) ∧ (W.2.1 62 s) < 16) ∧ (-2147483648 ≤ (W.2.1 66 (W.2.1 62 s)) - 1 ∧ (W.2.1 66 (W.2.1 62 s)) - 1 ≤ 2147483647) ∧ 66 < n ∧ FieldType.int = FieldType.int ∧ (0 ≤ (W.2.1 62 s) ∧ (W.2.1 62 s) < 16) ∧ True ∧ (¬ ((lI (W.2.1 62 s) &&& lI 7).toInt) = 3 → 1 = 1 ∧ (none : Option FieldType) = none ∧ post none (zuR (zuR (zuL (zuR W 62 s 0) 64 ((lI s >>> (lI 4 &&& 31)).toInt).toNat (((zuR W 62 s 0).2.2.1 64 ((lI s >>> (lI 4 &&& 31)).toInt).toNat) ^^^ (((lI (W.2.1 62 s)).toInt64) <<< ((lI ((lI ((lI s &&& lI 15).toInt) <<< (lI 2 &&& 31)).toInt)).toInt64 &&& 63)))) 65 ((lI (W.2.1 62 s) >>> (lI 3 &&& 31)).toInt) ((lI (W.2.1 65 ((lI (W.2.1 62 s) >>> (lI 3 &&& 31)).toInt)) - lI (W.2.1 68 ((lI ((lI (W.2.1 62 s) <<< (lI 6 &&& 31)).toInt) ||| lI s).toInt))).toInt)) 66 (W.2.1 62 s) ((W.2.1 66 (W.2.1 62 s)) - 1))) ∧ (((lI (W.2.1 62 s) &&& lI 7).toInt) = 3 → 61 < n ∧ 10 = 10 ∧ 67 < n ∧ FieldType.int = FieldType.int ∧ (0 ≤ ((lI ((lI s ^^^ lI ((lI s >>> (lI 3 &&& 31)).toInt)).toInt) &&& lI 1).toInt) ∧ ((lI ((lI s ^^^ lI ((lI s >>> (lI 3 &&& 31)).toInt)).toInt) &&& lI 1).toInt) < 2) ∧ 67 < n ∧ FieldType.int = FieldType.int ∧ (0 ≤ ((lI ((lI s ^^^ lI ((lI s >>> (lI 3 &&& 31)).toInt)).toInt) &&& lI 1).toInt) ∧ ((lI ((lI s ^^^ lI ((lI s >>> (lI 3 &&& 31)).toInt)).toInt) &&& lI 1).toInt) < 2) ∧ True ∧ 1 = 1 ∧ (none : Option FieldType) = none ∧ post none (zuR (zuR (zuR (zuL (zuR W 62 s 0) 64 ((lI s >>> (lI 4 &&& 31)).toInt).toNat (((zuR W 62 s 0).2.2.1 64 ((lI s >>> (lI 4 &&& 31)).toInt).toNat) ^^^ (((lI (W.2.1 62 s)).toInt64) <<< ((lI ((lI ((lI s &&& lI 15).toInt) <<< (lI 2 &&& 31)).toInt)).toInt64 &&& 63)))) 65 ((lI (W.2.1 62 s) >>> (lI 3 &&& 31)).toInt) ((lI (W.2.1 65 ((lI (W.2.1 62 s) >>> (lI 3 &&& 31)).toInt)) - lI (W.2.1 68 ((lI ((lI (W.2.1 62 s) <<< (lI 6 &&& 31)).toInt) ||| lI s).toInt))).toInt)) 66 (W.2.1 62 s) ((W.2.1 66 (W.2.1 62 s)) - 1)) 67 ((lI ((lI s ^^^ lI ((lI s >>> (lI 3 &&& 31)).toInt)).toInt) &&& lI 1).toInt) ((lI (W.2.1 67 ((lI ((lI s ^^^ lI ((lI s >>> (lI 3 &&& 31)).toInt)).toInt) &&& lI 1).toInt)) - lI 1).toInt))) from ⟨(Nat.lt_of_lt_of_le (by decide) hn), rfl, ⟨(Nat.lt_of_lt_of_le (by decide) hn), rfl, (h).1, ⟨(Nat.lt_of_lt_of_le (by decide) hn), rfl, ⟨(Nat.lt_of_lt_of_le (by decide) hn), rfl, ((h).2).1, trivial, ⟨(Nat.lt_of_lt_of_le (by decide) hn), rfl, (have h := ((((h).2).2).2 _ (z_sr4 (((h).2).2).1)); ⟨(Nat.lt_of_lt_of_le (by decide) hn), (h).1, (have h := (((h).2).2 _ (z_an15 ((h).2).1)); ⟨(Nat.lt_of_lt_of_le (by decide) hn), (((h).2 _ (z_sl2 (h).1))).1, (have h := (((h).2 _ (z_sl2 (h).1))).2; ⟨(Nat.lt_of_lt_of_le (by decide) hn), rfl, ⟨(Nat.lt_of_lt_of_le (by decide) hn), rfl, (((h).2 _ (z_sr3 (h).1))).1, (have h := (((h).2 _ (z_sr3 (h).1))).2; ⟨(Nat.lt_of_lt_of_le (by decide) hn), rfl, (have h := ((((h).2 _ (z_sl6 (h).1))).2 _ (z_or6 (((h).2 _ (z_sl6 (h).1))).1)); ⟨(Nat.lt_of_lt_of_le (by decide) hn), rfl, (h).1, ⟨(Nat.lt_of_lt_of_le (by decide) hn), rfl, ((h).2).1, trivial, ⟨(Nat.lt_of_lt_of_le (by decide) hn), rfl, ⟨(Nat.lt_of_lt_of_le (by decide) hn), rfl, (((h).2).2).1, ⟨((((h).2).2).2).1, ⟨(Nat.lt_of_lt_of_le (by decide) hn), rfl, (((((h).2).2).2).2).1, trivial, (have h := (((((((h).2).2).2).2).2).2 _ (z_an7 ((((((h).2).2).2).2).2).1)); ⟨fun c71_56 => ⟨rfl, rfl, ((h).1 c71_56)⟩, fun c71_56 => ⟨(Nat.lt_of_lt_of_le (by decide) hn), rfl, (have h := ((((h).2 c71_56)).2 _ (z_sr3 (((h).2 c71_56)).1)); ⟨(Nat.lt_of_lt_of_le (by decide) hn), rfl, (((h).2 _ (z_an1 (h).1))).1, (have h := (((h).2 _ (z_an1 (h).1))).2; ⟨(Nat.lt_of_lt_of_le (by decide) hn), rfl, (h).1, trivial, ⟨rfl, rfl, (h).2⟩⟩)⟩)⟩⟩)⟩⟩⟩⟩⟩⟩)⟩)⟩⟩)⟩)⟩)⟩⟩⟩⟩⟩)
theorem zk_BOlif61 {l : Launch} {E : jE} {n : Nat} (hn : 142 ≤ n) : zHas l E jcl jtb lw_tbl zsh n (y_BO_lift, false, 2, 10, { frames := 0, cells := 0, slots := 0, locals := 0 }, zc_BOlif61) := by
  refine ⟨⟨rfl, rfl, ⟨show 1 ≤ 2 by decide, m_BO_lift, i_BO_lift, e_BO_lift, fun _ => ⟨_, rfl, rfl⟩⟩⟩, ?_⟩
  rintro vz W po hO hW ⟨s, rfl, hq, hp⟩
  refine zmet (m := zm_BOlif61) rfl (by decide) (fun _ _ => jtF_ok) lo_BO ao_ZBOlif61 jC (fun q h => by cases h) (fun q h => by cases h) (fun q h => by cases h) (Nat.le_of_ble_eq_true rfl) hO hW (120) ?_
  obtain ⟨hs, hm, hc⟩ := hq
  exact zp_BOlif61_0 (by omega) hn ⟨(by omega), ⟨(by omega), ⟨(by omega), fun t0 e0 => ⟨(by omega), ⟨(by omega), fun t1 e1 => ⟨(by omega), fun t2 e2 => ⟨(by omega), ⟨(by omega), fun t3 e3 => ⟨(by omega), ⟨(by omega), fun t4 e4 => ⟨(by omega), fun t5 e5 => ⟨(by omega), ⟨(by omega), ⟨(by omega), ⟨(by omega), ⟨(by omega), ⟨(by omega), fun t6 e6 => ⟨fun c71 => (hp _ ⟨(zFy_R (zFy_R (zFy_L (zFy_R zFy_0 (by decide)) (by decide)) (by decide)) (by decide)), by first | rfl | (rw [if_neg (by omega)]; rfl) | (rw [if_pos (by omega), ← e8]; rfl), by first | rfl | (rw [if_neg (by omega)]; rfl) | (rw [if_pos (by omega), ← e8]; rfl), by first | rfl | (rw [if_neg (by omega)]; rfl) | (rw [if_pos (by omega), ← e8]; rfl), by rw [show 64 * W.2.1 62 s + s = t5 by omega, show W.2.1 62 s / 8 = t3 by omega]; rfl⟩), fun c71 => ⟨(by omega), fun t7 e7 => ⟨(cx3 (by omega)), fun t8 e8 => ⟨(by omega), ⟨(by omega), (hp _ ⟨(zFy_R (zFy_R (zFy_R (zFy_L (zFy_R zFy_0 (by decide)) (by decide)) (by decide)) (by decide)) (by decide)), by first | rfl | (rw [if_neg (by omega)]; rfl) | (rw [if_pos (by omega), ← e8]; rfl), by first | rfl | (rw [if_neg (by omega)]; rfl) | (rw [if_pos (by omega), ← e8]; rfl), by first | rfl | (rw [if_neg (by omega)]; rfl) | (rw [if_pos (by omega), ← e8]; rfl), by rw [show 64 * W.2.1 62 s + s = t5 by omega, show W.2.1 62 s / 8 = t3 by omega]; rfl⟩)⟩⟩⟩⟩⟩⟩⟩⟩⟩⟩⟩⟩⟩⟩⟩⟩⟩⟩⟩⟩⟩⟩
end
section
/-! good positions, and what a legal move makes of them -/
noncomputable def rRi (q : rQ) : Prop := ∀ s : Int, (s = 0 ∨ s = 1) → (q.2.2.1 / (if s = 0 then 1 else 4) % 2 = 1 → q.1 (56 * s + 4) = 8 * s + 6 ∧ q.1 (56 * s + 7) = 8 * s + 4) ∧ (q.2.2.1 / (if s = 0 then 2 else 8) % 2 = 1 → q.1 (56 * s + 4) = 8 * s + 6 ∧ q.1 (56 * s) = 8 * s + 4)
noncomputable def zGd (q : rQ) : Prop := rGd q ∧ (0 ≤ q.2.2.1 ∧ q.2.2.1 ≤ 15) ∧ rRi q ∧ ∀ s : Int, (q.1 s = 1 ∨ q.1 s = 9) → 8 ≤ s ∧ s ≤ 55
theorem cM4_c {q : rQ} {m : Int} (h : rIsC q m) : rM4 q m = rM4c q m := by
  funext i; unfold rM4; rw [if_pos h]
theorem cM4_n {q : rQ} {m : Int} (h : ¬ rIsC q m) : rM4 q m = rM3 q m := by
  funext i; unfold rM4; rw [if_neg h]
theorem rAn_20 : ∀ (R : Fin 16) (s : Fin 64), rAn R.val (rLo s.val) / 1 % 2 = 1 → (R.val : Int) / 1 % 2 = 1 ∧ ¬ (s.val : Int) = 4 ∧ ¬ (s.val : Int) = 7 := by decide +kernel
theorem rAn_21 : ∀ (R : Fin 16) (s : Fin 64), rAn R.val (rLo s.val) / 2 % 2 = 1 → (R.val : Int) / 2 % 2 = 1 ∧ ¬ (s.val : Int) = 4 ∧ ¬ (s.val : Int) = 0 := by decide +kernel
theorem rAn_22 : ∀ (R : Fin 16) (s : Fin 64), rAn R.val (rLo s.val) / 4 % 2 = 1 → (R.val : Int) / 4 % 2 = 1 ∧ ¬ (s.val : Int) = 60 ∧ ¬ (s.val : Int) = 63 := by decide +kernel
theorem rAn_23 : ∀ (R : Fin 16) (s : Fin 64), rAn R.val (rLo s.val) / 8 % 2 = 1 → (R.val : Int) / 8 % 2 = 1 ∧ ¬ (s.val : Int) = 60 ∧ ¬ (s.val : Int) = 56 := by decide +kernel
/-- which rights a move leaves -/
theorem rAn_k {R s : Int} (hR : 0 ≤ R ∧ R ≤ 15) (hs : 0 ≤ s ∧ s ≤ 63) : (rAn R (rLo s) / 1 % 2 = 1 → R / 1 % 2 = 1 ∧ ¬ s = 4 ∧ ¬ s = 7) ∧ (rAn R (rLo s) / 2 % 2 = 1 → R / 2 % 2 = 1 ∧ ¬ s = 4 ∧ ¬ s = 0) ∧ (rAn R (rLo s) / 4 % 2 = 1 → R / 4 % 2 = 1 ∧ ¬ s = 60 ∧ ¬ s = 63) ∧ (rAn R (rLo s) / 8 % 2 = 1 → R / 8 % 2 = 1 ∧ ¬ s = 60 ∧ ¬ s = 56) := by
  have e0 := rAn_20 ⟨R.toNat, by omega⟩ ⟨s.toNat, by omega⟩
  have e1 := rAn_21 ⟨R.toNat, by omega⟩ ⟨s.toNat, by omega⟩
  have e2 := rAn_22 ⟨R.toNat, by omega⟩ ⟨s.toNat, by omega⟩
  have e3 := rAn_23 ⟨R.toNat, by omega⟩ ⟨s.toNat, by omega⟩
  dsimp only at e0 e1 e2 e3
  rw [show ((R.toNat : Nat) : Int) = R by omega, show ((s.toNat : Nat) : Int) = s by omega] at e0 e1 e2 e3
  exact ⟨e0, e1, e2, e3⟩
/-- a king that goes two squares castles -/
theorem rLm_c {q : rQ} {m : Int} (hl : rLm q m) (hc : rIsC q m) : rFr m = 56 * q.2.1 + 4 ∧ ((rTo m = rFr m + 2 ∧ rCa q 1) ∨ (rTo m = rFr m - 2 ∧ rCa q 0)) := by
  obtain ⟨l0, l1, l2, l3, l4, l5⟩ := hl
  obtain ⟨c0, c1⟩ := hc
  rcases l4 with ⟨h, _⟩ | ⟨_, h⟩
  · omega
  · rcases h with ⟨f, r, f0, f1, r0, r1, h⟩ | ⟨_, h1, h2⟩
    · exfalso
      rcases h with ⟨h, h2, h3⟩ | ⟨h, _⟩
      · unfold rSp at h3
        have hf : f = -2 ∨ f = -1 ∨ f = 0 ∨ f = 1 ∨ f = 2 := by omega
        have hr : r = -2 ∨ r = -1 ∨ r = 0 ∨ r = 1 ∨ r = 2 := by omega
        rcases h with h | h
        · omega
        · split at h3
          · rcases hf with rfl | rfl | rfl | rfl | rfl <;> rcases hr with rfl | rfl | rfl | rfl | rfl <;> omega
          · omega
      · rcases h with h | h | h <;> omega
    · refine ⟨h1, ?_⟩
      rcases h2 with h2 | h2
      · exact Or.inl ⟨h2.2, h2.1⟩
      · exact Or.inr ⟨h2.2, h2.1⟩
theorem rFr_b {m : Int} : 0 ≤ rFr m ∧ rFr m ≤ 63 := by unfold rFr; omega
theorem rTo_b {m : Int} : 0 ≤ rTo m ∧ rTo m ≤ 63 := by unfold rTo; omega
/-- where the pawn stands that is taken in passing -/
theorem rWh_p {q : rQ} {m : Int} (hg : rGd q) (hl : rLm q m) (hp : q.1 (rFr m) % 8 = 1) (ht : rTo m = q.2.2.2) : 8 * (rFr m / 8) + rTo m % 8 = q.2.2.2 - 8 + 16 * q.2.1 := by
  obtain ⟨l0, l1, l2, l3, l4, l5⟩ := hl
  obtain ⟨g0, g1, g2, g3, g4, g5⟩ := hg
  have hf := rFr_b (m := m)
  have htb := rTo_b (m := m)
  rcases g4 with g4 | ⟨p0, p1, p2, p3⟩
  · omega
  · rcases l4 with ⟨_, h⟩ | ⟨h, _⟩
    · rcases h with ⟨h1, h2, h3⟩ | ⟨f, h1, h2, h3, h4⟩
      · exfalso
        unfold rOwn at l2
        unfold rUpw rSp at h1 h2 h3
        rcases h3 with h3 | ⟨h3, h4, h5⟩
        · split at h3
          · rcases p3 with ⟨p3, p4, p5⟩ | ⟨p3, p4, p5⟩
            · rw [show q.2.2.2 - 8 = rFr m by omega] at p5; omega
            · rw [show q.2.2.2 + 8 = rFr m by omega] at p5; omega
          · omega
        · split at h4
          · split at h4
            · omega
            · omega
          · omega
      · unfold rUpw rSp at h3
        split at h3
        · omega
        · omega
    · omega
/-- squares that a move leaves alone -/
theorem rM3_n {q : rQ} {m s : Int} (h1 : ¬ s = rFr m) (h2 : ¬ s = rTo m) (h3 : ¬ s = rWh q m) : rM3 q m s = q.1 s := by
  unfold rM3 rM2 rM1
  rw [rUp_n h2, rUp_n h1, rUp_n h3]
theorem rM4_s {q : rQ} {m s : Int} (h1 : ¬ s = rFr m) (h2 : ¬ s = rTo m) (h3 : ¬ s = rWh q m) (h4 : rIsC q m → ¬ s = rOv (rFr m) (rTo m) ∧ ¬ s = rCo (rFr m) (rTo m)) : rM4 q m s = q.1 s := by
  by_cases c : rIsC q m
  · rw [cM4_c c]
    unfold rM4c
    rw [rUp_n (h4 c).2, rUp_n (h4 c).1]
    exact rM3_n h1 h2 h3
  · rw [cM4_n c]
    exact rM3_n h1 h2 h3
/-- a pawn is not taken on the ranks of the kings -/
theorem cWh_r {q : rQ} {m : Int} (hz : ∀ s : Int, (q.1 s = 1 ∨ q.1 s = 9) → 8 ≤ s ∧ s ≤ 55) (hv : rVal q.1) : rWh q m = rTo m ∨ (8 ≤ rWh q m ∧ rWh q m ≤ 55) := by
  unfold rWh
  split
  · rename_i h
    right
    have := hv (rFr m)
    have := hz (rFr m) (by omega)
    omega
  · exact Or.inl rfl
theorem zGd_m {q : rQ} {m : Int} (hq : zGd q) (hl : zLg q m) : zGd (rMk q m) := by
  obtain ⟨hg, hR, hi, hp⟩ := hq
  have hf := rFr_b (m := m)
  have ht := rTo_b (m := m)
  have b1 := rAn_b (R := q.2.2.1) (l := rLo (rFr m)) hR
  have b2 := rAn_b (R := rAn q.2.2.1 (rLo (rFr m))) (l := rLo (rTo m)) (by omega)
  have k1 := rAn_k hR hf
  have k2 := rAn_k (R := rAn q.2.2.1 (rLo (rFr m))) (s := rTo m) (by omega) ht
  have hw := cWh_r (m := m) hp hg.2.2.1
  have hs : q.2.1 = 0 ∨ q.2.1 = 1 := by have := hg.1; have := hg.2.1; omega
  have hcs : rIsC q m → rFr m = 56 * q.2.1 + 4 ∧ (rTo m = rFr m + 2 ∨ rTo m = rFr m - 2) := fun c => by
    have := rLm_c hl.1 c
    exact ⟨this.1, this.2.elim (fun h => Or.inl h.1) (fun h => Or.inr h.1)⟩
  have same : ∀ s : Int, ¬ s = rFr m → ¬ s = rTo m → (s < 8 ∨ 55 < s) → (rFr m = 56 * q.2.1 + 4 → q.2.1 = 0 → 8 ≤ s) → (rFr m = 56 * q.2.1 + 4 → q.2.1 = 1 → s ≤ 55) → rM4 q m s = q.1 s := by
    intro s h1 h2 h3 h4 h5
    refine rM4_s h1 h2 (by omega) (fun c => ?_)
    have := hcs c
    unfold rOv rCo
    constructor
    · omega
    · split <;> omega
  refine ⟨hl.2, ⟨by show 0 ≤ rAn _ _; omega, by show rAn _ _ ≤ 15; omega⟩, ?_, ?_⟩
  · intro s h
    show (rAn (rAn q.2.2.1 (rLo (rFr m))) (rLo (rTo m)) / _ % 2 = 1 → rM4 q m _ = _ ∧ rM4 q m _ = _) ∧ (rAn (rAn q.2.2.1 (rLo (rFr m))) (rLo (rTo m)) / _ % 2 = 1 → rM4 q m _ = _ ∧ rM4 q m _ = _)
    have hh := hi s h
    rcases h with rfl | rfl
    · rw [if_pos rfl, if_pos rfl] at hh ⊢
      refine ⟨fun c => ?_, fun c => ?_⟩
      · have c1 := k2.1 c
        have c2 := k1.1 c1.1
        rw [same _ (by omega) (by omega) (by omega) (by omega) (by omega), same _ (by omega) (by omega) (by omega) (by omega) (by omega)]
        exact hh.1 c2.1
      · have c1 := k2.2.1 c
        have c2 := k1.2.1 c1.1
        rw [same _ (by omega) (by omega) (by omega) (by omega) (by omega), same _ (by omega) (by omega) (by omega) (by omega) (by omega)]
        exact hh.2 c2.1
    · rw [if_neg (by decide), if_neg (by decide)] at hh ⊢
      refine ⟨fun c => ?_, fun c => ?_⟩
      · have c1 := k2.2.2.1 c
        have c2 := k1.2.2.1 c1.1
        rw [same _ (by omega) (by omega) (by omega) (by omega) (by omega), same _ (by omega) (by omega) (by omega) (by omega) (by omega)]
        exact hh.1 c2.1
      · have c1 := k2.2.2.2 c
        have c2 := k1.2.2.2 c1.1
        rw [same _ (by omega) (by omega) (by omega) (by omega) (by omega), same _ (by omega) (by omega) (by omega) (by omega) (by omega)]
        exact hh.2 c2.1
  · intro s h
    have h3 : ∀ s : Int, (rM3 q m s = 1 ∨ rM3 q m s = 9) → 8 ≤ s ∧ s ≤ 55 := by
      intro s h
      unfold rM3 at h
      by_cases e : s = rTo m
      · rw [e, rUp_s] at h
        obtain ⟨l0, l1, l2, l3, l4, l5⟩ := hl.1
        split at h
        · omega
        · omega
      · rw [rUp_n e] at h
        unfold rM2 at h
        by_cases e2 : s = rFr m
        · rw [e2, rUp_s] at h; omega
        · rw [rUp_n e2] at h
          unfold rM1 at h
          by_cases e3 : s = rWh q m
          · rw [e3, rUp_s] at h; omega
          · rw [rUp_n e3] at h
            exact hp s h
    change rM4 q m s = 1 ∨ rM4 q m s = 9 at h
    by_cases c : rIsC q m
    · rw [cM4_c c] at h
      unfold rM4c at h
      by_cases e : s = rCo (rFr m) (rTo m)
      · rw [e, rUp_s] at h; omega
      · rw [rUp_n e] at h
        by_cases e2 : s = rOv (rFr m) (rTo m)
        · rw [e2, rUp_s] at h
          have := h3 _ h
          have := hcs c
          unfold rCo at *
          exfalso
          split at * <;> omega
        · rw [rUp_n e2] at h
          exact h3 s h
    · rw [cM4_n c] at h
      exact h3 s h
end
section
/-! the class's legal moves are those of the position -/
theorem cEm_i {A B : Int → Int} {s i k : Int} (h : ∀ j, 0 ≤ j → j < 64 → A j = B j) (hs : 0 ≤ s ∧ s < 64) (hi : 0 ≤ i ∧ i < 8) (hk : k ≤ fRc s i + 1) (he : cEm A s i k) : cEm B s i k := by
  intro q q0 q1
  have := ca_p hs hi (k := q) (by omega) (by omega)
  rw [← h _ (by omega) (by omega)]
  exact he q q0 q1
theorem cAk_i {A B : Int → Int} {s y : Int} (h : ∀ j, 0 ≤ j → j < 64 → A j = B j) (hs : 0 ≤ s ∧ s < 64) (ha : cAk A s y) : cAk B s y := by
  rcases ha with ⟨j, j0, j1, j2⟩ | ⟨i, i0, i1, k, k0, k1, k2, k3, k4⟩
  · have := ca_h6 (s := s.toNat) (i := j)
    exact Or.inl ⟨j, j0, j1, by rw [← h _ (by omega) (by omega)]; exact j2⟩
  · have := ca_p hs (i := i) (k := k) ⟨i0, i1⟩ (by omega) (by omega)
    have e := h (s + k * fSt i) (by omega) (by omega)
    exact Or.inr ⟨i, i0, i1, k, k0, k1, cEm_i h hs ⟨i0, i1⟩ (by omega) k2, by rw [← e]; exact k3, by rw [← e]; exact k4⟩
theorem cAk_c {A B : Int → Int} {s y : Int} (h : ∀ j, 0 ≤ j → j < 64 → A j = B j) (hs : 0 ≤ s ∧ s < 64) : cAk A s y ↔ cAk B s y := ⟨cAk_i h hs, cAk_i (fun j a b => (h j a b).symm) hs⟩
theorem cEn_i {A B : Int → Int} {sd t : Int} (h : ∀ j, 0 ≤ j → j < 64 → A j = B j) (ht : 0 ≤ t ∧ t < 64) (he : cEn A sd t) : cEn B sd t := by
  unfold cEn at *; rw [← h t ht.1 ht.2]; exact he
theorem cPg_i {A B : Int → Int} {sd ps u t : Int} (h : ∀ j, 0 ≤ j → j < 64 → A j = B j) (hu : 0 ≤ u ∧ u ≤ 63) (he : cPg A sd ps u t) : cPg B sd ps u t := by
  obtain ⟨h1, h2⟩ := he
  refine ⟨fun e => ?_, fun e => ?_⟩
  · rw [← h t (by omega) (by omega)]; exact h1 e
  · obtain ⟨g0, g1, g2, g3, g4⟩ := h2 e
    rw [h t g0 g1] at g3 g4
    exact ⟨g0, g1, g2, g3, g4⟩
theorem cGn_i {A B : Int → Int} {sd R ps ck f x : Int} (h : ∀ j, 0 ≤ j → j < 64 → A j = B j) (hf : 0 ≤ f ∧ f < 64) (hs : 0 ≤ sd ∧ sd ≤ 1) (hg : cGn A sd R ps ck f x) : cGn B sd R ps ck f x := by
  unfold cGn at *
  rw [← h f hf.1 hf.2]
  rcases hg with ⟨h0, hg⟩ | ⟨h0, hg⟩ | ⟨h0, hg⟩ | ⟨h0, h1, h2, hg⟩
  · refine Or.inl ⟨h0, ?_⟩
    obtain ⟨hu, ⟨t, b, g0, g1, g2, g3⟩ | ⟨⟨g0, g1, g2⟩, g3⟩⟩ := hg
    · exact ⟨hu, Or.inl ⟨t, b, g0, g1, cPg_i h hu g2, g3⟩⟩
    · refine ⟨hu, Or.inr ⟨⟨g0, ?_, ?_⟩, g3⟩⟩
      · rw [← h _ (by omega) (by omega)]; exact g1
      · have : 0 ≤ cOn sd f + 8 - 16 * sd ∧ cOn sd f + 8 - 16 * sd < 64 := by unfold cOn at *; omega
        rw [← h _ this.1 this.2]; exact g2
  · refine Or.inr (Or.inl ⟨h0, ?_⟩)
    obtain ⟨j, j0, j1, j2, j3⟩ := hg
    have := ca_h6 (s := f.toNat) (i := j)
    exact ⟨j, j0, j1, cEn_i h (by omega) j2, j3⟩
  · refine Or.inr (Or.inr (Or.inl ⟨h0, ?_⟩))
    rcases hg with (⟨i, i0, i1, i2, i3, i4, i5⟩ | ⟨⟨a1, a2, a3, a4, a5⟩, i5⟩) | ⟨⟨a1, a2, a3, a4, a5, a6⟩, i5⟩
    · have := ca_p hf (i := i) (k := 1) (by omega) (by omega) (by omega)
      exact Or.inl (Or.inl ⟨i, i0, i1, i2, i3, cEn_i h (by omega) i4, i5⟩)
    · rw [h _ (by omega) (by omega)] at a4 a5
      exact Or.inl (Or.inr ⟨⟨a1, a2, a3, a4, a5⟩, i5⟩)
    · rw [h _ (by omega) (by omega)] at a4 a5 a6
      exact Or.inr ⟨⟨a1, a2, a3, a4, a5, a6⟩, i5⟩
  · refine Or.inr (Or.inr (Or.inr ⟨h0, h1, h2, ?_⟩))
    obtain ⟨i, k, ⟨s0, s1, s2, s3, s4, s5, s6, s7⟩, i5⟩ := hg
    have := ca_p hf (i := i) (k := k) ⟨s0, s1⟩ (by omega) s5
    exact ⟨i, k, ⟨s0, s1, s2, s3, s4, s5, cEm_i h hf ⟨s0, s1⟩ (by omega) s6, cEn_i h (by omega) s7⟩, i5⟩
theorem cMv_c {A B : Int → Int} {f w t : Int} (h : ∀ j, 0 ≤ j → j < 64 → A j = B j) (hf : 0 ≤ f ∧ f < 64) : ∀ j, 0 ≤ j → j < 64 → cMv A f w t j = cMv B f w t j := by
  intro j j0 j1
  unfold cMv zuI
  rw [h j j0 j1, h f hf.1 hf.2]
theorem cPw_c {A B : Int → Int} {sd ps f t : Int} (h : ∀ j, 0 ≤ j → j < 64 → A j = B j) (hf : 0 ≤ f ∧ f < 64) : cPw A sd ps f t = cPw B sd ps f t := by
  unfold cPw; rw [h f hf.1 hf.2]
theorem cSf_i {A B : Int → Int} {sd ps hh ck f x : Int} (h : ∀ j, 0 ≤ j → j < 64 → A j = B j) (hf : 0 ≤ f ∧ f < 64) (hH : 0 ≤ hh ∧ hh < 64) (hg : cSf A sd ps hh ck f x) : cSf B sd ps hh ck f x := by
  unfold cSf at *
  rw [← cPw_c h hf]
  rcases hg with hg | ⟨g1, g2⟩
  · exact Or.inl hg
  · refine Or.inr ⟨fun z => g1 ?_, fun e1 e2 z => g2 (by rw [h f hf.1 hf.2]; exact e1) e2 ?_⟩
    · rw [h f hf.1 hf.2]
      refine cAk_i (fun j a b => (cMv_c h hf j a b).symm) ?_ z
      split <;> omega
    · exact cAk_i (fun j a b => (cMv_c h hf j a b).symm) (by omega) z
/-! the same over words of 32 bits -/
noncomputable def cB (M : Nat → Int32) : Int → Int := fun s => (M s.toNat).toInt
theorem cB_ak {M : Nat → Int32} {s y : Int} : cAk (cB M) s y ↔ fAk M s y := Iff.rfl
theorem cB_gn {M F : Nat → Int32} {ck f : Int} {x : Int32} (hs : 0 ≤ (F 2).toInt ∧ (F 2).toInt ≤ 1) (hm : 1 ≤ (M f.toNat).toInt % 8 ∧ (M f.toNat).toInt % 8 ≤ 6) : cGn (cB M) (F 2).toInt (F 3).toInt (F 4).toInt ck f x.toInt ↔ fGn M F ck f x := by
  have er : cRt (F 3).toInt (F 2).toInt = (F 3).toInt / ((4 ^ (F 2).toInt.toNat : Nat) : Int) ∧ cRt (F 3).toInt (F 2).toInt / 2 = (F 3).toInt / ((2 * 4 ^ (F 2).toInt.toNat : Nat) : Int) := by
    unfold cRt
    rcases (by omega : (F 2).toInt = 0 ∨ (F 2).toInt = 1) with c | c
    · rw [c, if_pos rfl]
      constructor
      · rfl
      · show _ = (F 3).toInt / 2
        omega
    · rw [c, if_neg (by decide)]
      constructor
      · rfl
      · show _ = (F 3).toInt / 8
        omega
  unfold cGn fGn
  refine or_congr (and_congr Iff.rfl ?_) (or_congr (and_congr Iff.rfl ?_) (or_congr (and_congr Iff.rfl ?_) ?_))
  · unfold cPx fPx cPj cP2 cOn fOne
    refine and_congr Iff.rfl (or_congr ?_ ?_)
    · constructor
      · rintro ⟨t, b, g0, g1, g2, g3, g4, g5, g6⟩
        exact ⟨t, b, g0, g1, g2, g3, g4, trivial, g6⟩
      · rintro ⟨t, b, g0, g1, g2, g3, g4, g5, g6⟩
        exact ⟨t, b, g0, g1, g2, g3, g4, Or.inl (by show t < _ + 2; omega), g6⟩
    · constructor
      · rintro ⟨⟨g0, g1, g2⟩, g3⟩
        exact ⟨trivial, g0, g1, g2, g3⟩
      · rintro ⟨_, g0, g1, g2, g3⟩
        exact ⟨⟨g0, g1, g2⟩, g3⟩
  · constructor
    · rintro ⟨j, j0, j1, j2, j3⟩
      exact ⟨j, by omega, j1, j2, trivial, j3⟩
    · rintro ⟨j, j0, j1, j2, _, j3⟩
      exact ⟨j, by omega, j1, j2, j3⟩
  · unfold cKx cKy cKi cK1 cK2 fKx fCs fCl
    rw [er.1, ← er.1, er.2]
    constructor
    · rintro ((⟨i, i0, i1, i2, i3, i4, i5⟩ | ⟨⟨a1, a2, a3, a4, a5⟩, i5⟩) | ⟨⟨a1, a2, a3, a4, a5, a6⟩, i5⟩)
      · exact Or.inl ⟨i, i0, i1, i3, i4, trivial, i5⟩
      · exact Or.inr (Or.inl ⟨trivial, ⟨a1, a2, a3, a4, a5⟩, i5⟩)
      · exact Or.inr (Or.inr ⟨trivial, ⟨a1, a2, a3, a4, a5, a6⟩, i5⟩)
    · rintro (⟨i, i0, i1, i3, i4, _, i5⟩ | ⟨_, ⟨a1, a2, a3, a4, a5⟩, i5⟩ | ⟨_, ⟨a1, a2, a3, a4, a5, a6⟩, i5⟩)
      · exact Or.inl (Or.inl ⟨i, i0, i1, i1, i3, i4, i5⟩)
      · exact Or.inl (Or.inr ⟨⟨a1, a2, a3, a4, a5⟩, i5⟩)
      · exact Or.inr ⟨⟨a1, a2, a3, a4, a5, a6⟩, i5⟩
  · constructor
    · rintro ⟨h0, h1, h2, i, k, h3, h4⟩
      have e : cB M f = (M f.toNat).toInt := rfl
      rw [e] at h0 h1 h2
      exact ⟨by omega, by omega, i, k, h3, trivial, h4⟩
    · rintro ⟨h0, h1, i, k, h3, _, h4⟩
      have e : cB M f = (M f.toNat).toInt := rfl
      exact ⟨by rw [e]; omega, by rw [e]; omega, by rw [e]; omega, i, k, h3, h4⟩
theorem cB_k {m : Int32} (h : 0 ≤ m.toInt) : (m &&& 7 = 1 ↔ m.toInt % 8 = 1) := by
  have e := aAnd_m (x := m) (y := 7) h (by decide) (by decide)
  rw [show (7 : Int32).toInt = 7 by decide] at e
  rw [show (7 : Int) + 1 = 8 by decide] at e
  constructor
  · intro z; rw [z, show (1 : Int32).toInt = 1 by decide] at e; omega
  · intro z
    apply Int32.toInt_inj.mp
    rw [e, z]; rfl
theorem cB_wh {M F : Nat → Int32} {f : Int} {t : Nat} (hm : 0 ≤ (M f.toNat).toInt) (hs : 0 ≤ (F 2).toInt ∧ (F 2).toInt ≤ 1) (hp : -1 ≤ (F 4).toInt ∧ (F 4).toInt ≤ 63) (ht : t < 64) : (bWh M F f.toNat t).toInt = cPw (cB M) (F 2).toInt (F 4).toInt f t := by
  unfold bWh cPw
  have k := cB_k hm
  have e1 : (nI t).toInt = t := nI_toInt (by omega)
  have e2 : (nI t = F 4 ↔ (t : Int) = (F 4).toInt) := by
    rw [← e1]; exact Int32.toInt_inj.symm
  have e3 : (M f.toNat &&& 7 = 1 ∧ nI t = F 4) ↔ (cB M f % 8 = 1 ∧ (t : Int) = (F 4).toInt) := and_congr k e2
  by_cases c : M f.toNat &&& 7 = 1 ∧ nI t = F 4
  · rw [if_pos c, if_pos (e3.mp c)]
    unfold bPP
    by_cases d : F 2 = 0
    · rw [if_pos d, d, Int32.toInt_sub, show (8 : Int32).toInt = 8 by decide, show (0 : Int32).toInt = 0 by decide, Int.bmod_eq_of_le (by omega) (by omega)]
      omega
    · have d1 : (F 2).toInt = 1 := by
        have : ¬ (F 2).toInt = 0 := fun z => d (Int32.toInt_inj.mp (by rw [z]; rfl))
        omega
      rw [if_neg d, d1, Int32.toInt_add, show (8 : Int32).toInt = 8 by decide, Int.bmod_eq_of_le (by omega) (by omega)]
      omega
  · rw [if_neg c, if_neg (fun z => c (e3.mpr z)), e1]
theorem cB_ov {M : Nat → Int32} {f w t : Int} {wi : Int32} {ti : Nat} (hf : 0 ≤ f ∧ f < 64) (hw : wi.toInt = w) (hw0 : 0 ≤ w) (ht : (ti : Int) = t) (t1 : ti < 64) : ∀ j : Int, 0 ≤ j → j < 64 → cB (fOv M (nI f.toNat) wi (nI ti) (M f.toNat)) j = cMv (cB M) f w t j := by
  intro j j0 j1
  have c1 : (nI f.toNat).toNatClampNeg = f.toNat := nI_clamp (by omega)
  have c2 : (nI ti).toNatClampNeg = ti := nI_clamp (by omega)
  have c3 : wi.toNatClampNeg = w.toNat := by rw [← hw]; rfl
  unfold cB fOv cMv zuI upd
  rw [c1, c2, c3]
  by_cases d1 : j = t
  · rw [if_pos (by omega), if_pos d1]
  · rw [if_neg (by omega), if_neg d1]
    by_cases d2 : j = w
    · rw [if_pos (by omega), if_pos d2]; rfl
    · rw [if_neg (by omega), if_neg d2]
      by_cases d3 : j = f
      · rw [if_pos (by omega), if_pos d3]; rfl
      · rw [if_neg (by omega), if_neg d3]
theorem cB_sf {M F : Nat → Int32} {h ck f : Int} {x : Int32} (hf : 0 ≤ f ∧ f < 64) (hx : 0 ≤ x.toInt ∧ x.toInt < 32768) (hm : 0 ≤ (M f.toNat).toInt) (hs : 0 ≤ (F 2).toInt ∧ (F 2).toInt ≤ 1) (hp : (F 4).toInt = -1 ∨ (16 ≤ (F 4).toInt ∧ (F 4).toInt ≤ 47)) (hh : 0 ≤ h ∧ h < 64) : cSf (cB M) (F 2).toInt (F 4).toInt h ck f x.toInt ↔ fSf M F h ck f x := by
  have ext : (fMt x : Int) = x.toInt / 8 % 64 := (fMk (m := x) (f := x.toInt / 512) (t := x.toInt / 8 % 64) (b := x.toInt % 8) (by omega) (by omega) (by omega) (by omega)).2.1
  have t6 : fMt x < 64 := by omega
  have hw := cB_wh (M := M) (F := F) (f := f) (t := fMt x) hm hs (by omega) t6
  have w0 : 0 ≤ cPw (cB M) (F 2).toInt (F 4).toInt f (fMt x) := by unfold cPw; split <;> omega
  have ov := cB_ov (M := M) (f := f) (t := (fMt x : Int)) hf hw w0 rfl t6
  unfold cSf fSf
  rw [← ext]
  refine or_congr (and_congr Iff.rfl ?_) (and_congr (not_congr ?_) ?_)
  · constructor
    · intro e
      apply Int32.toInt_inj.mp
      rw [hw, e, nI_toInt (by omega)]
    · intro e
      rw [← hw, e, nI_toInt (by omega)]
  · refine Iff.trans (cAk_c (fun j a b => (ov j a b).symm) ?_) cB_ak
    show 0 ≤ (if (M f.toNat).toInt % 8 = 6 then (fMt x : Int) else h) ∧ (if (M f.toNat).toInt % 8 = 6 then (fMt x : Int) else h) < 64
    split <;> omega
  · refine forall_congr' fun e1 => forall_congr' fun e2 => not_congr ?_
    exact Iff.trans (cAk_c (fun j a b => (ov j a b).symm) (by omega)) cB_ak
/-- a position as words -/
noncomputable def cWM (q : rQ) : Nat → Int32 := fun n => Int32.ofInt (q.1 n)
noncomputable def cWF (q : rQ) : Nat → Int32 := fun i => if i = 2 then Int32.ofInt q.2.1 else if i = 3 then Int32.ofInt q.2.2.1 else if i = 4 then Int32.ofInt q.2.2.2 else if i = 12 then bSn fWa 0 (cWM q) 64 else bSn fWa 1 (cWM q) 64
theorem cW_t {x : Int} (h : -100 ≤ x ∧ x ≤ 100) : (Int32.ofInt x).toInt = x := lI_t (by unfold lRg; omega)
theorem cWM_i {q : rQ} (hv : rVal q.1) (n : Nat) : (cWM q n).toInt = q.1 n := cW_t (by have := hv n; omega)
theorem cW_q {q : rQ} (hz : zGd q) : brQ (cWM q) (cWF q) = q ∧ (cWF q 2).toInt = q.2.1 ∧ (cWF q 3).toInt = q.2.2.1 ∧ (cWF q 4).toInt = q.2.2.2 := by
  obtain ⟨⟨g0, g1, g2, g3, g4, g5⟩, hR, hi, hp⟩ := hz
  have e2 : (cWF q 2).toInt = q.2.1 := cW_t (by omega)
  have e3 : (cWF q 3).toInt = q.2.2.1 := cW_t (by omega)
  have e4 : (cWF q 4).toInt = q.2.2.2 := cW_t (by unfold rPs at g4; omega)
  refine ⟨?_, e2, e3, e4⟩
  show (rMn (cWM q), (cWF q 2).toInt, (cWF q 3).toInt, (cWF q 4).toInt) = q
  rw [e2, e3, e4]
  refine Prod.ext (funext fun i => ?_) rfl
  show rMn (cWM q) i = q.1 i
  unfold rMn
  by_cases c : 0 ≤ i ∧ i ≤ 63
  · rw [if_pos c, cWM_i g2, show ((i.toNat : Nat) : Int) = i by omega]
  · rw [if_neg c]
    have := g2 i
    omega
theorem cW_g {q : rQ} (hz : zGd q) : fGood (cWM q) (cWF q) := by
  obtain ⟨e1, e2, e3, e4⟩ := cW_q hz
  obtain ⟨⟨g0, g1, g2, g3, g4, g5⟩, hR, hi, hp⟩ := hz
  have mi : ∀ n : Nat, (cWM q n).toInt = q.1 n := fun n => cWM_i g2 n
  unfold fGood
  rw [e2, e3, e4]
  refine ⟨?_, ?_, ⟨g0, g1⟩, hR, ?_⟩
  · rcases g4 with g4 | ⟨p0, p1, p2, p3⟩
    · exact Or.inl g4
    · refine Or.inr ⟨p0, ?_, ?_, by omega, by omega⟩
      · rw [mi, show ((q.2.2.2.toNat : Nat) : Int) = q.2.2.2 by omega]; exact p2
      · unfold fPp
        rw [mi, e2, e4]
        rcases p3 with ⟨p3, p4, p5⟩ | ⟨p3, p4, p5⟩
        · rw [if_pos p3, show (((q.2.2.2 - 8).toNat : Nat) : Int) = q.2.2.2 - 8 by omega, p5]; omega
        · rw [if_neg (by omega), show (((q.2.2.2 + 8).toNat : Nat) : Int) = q.2.2.2 + 8 by omega, p5]; omega
  · intro s hs
    have hh := hi s (by omega)
    rcases (by omega : s = 0 ∨ s = 1) with rfl | rfl
    · refine ⟨fun c => ?_, fun c => ?_, rfl⟩
      · have := hh.1 c; rw [mi, mi]; exact this
      · have := hh.2 c; rw [mi, mi]; exact this
    · refine ⟨fun c => ?_, fun c => ?_, rfl⟩
      · have := hh.1 c; rw [mi, mi]; exact this
      · have := hh.2 c; rw [mi, mi]; exact this
  · intro i hi
    rw [mi]
    have h1 := g2 i
    have h2 := hp i
    omega
/-- what the class finds from one square is what is legal from it -/
theorem cLg_z {A : Int → Int} {q : rQ} {hh ck f x : Int} (hz : zGd q) (hA : ∀ s, 0 ≤ s → s < 64 → A s = q.1 s) (hH : 0 ≤ hh ∧ hh ≤ 63) (hK : q.1 hh = 8 * q.2.1 + 6) (hck : xBl ck (cAk A hh (1 - q.2.1))) (hf : 0 ≤ f ∧ f < 64) (ho : ¬ q.1 f = 0 ∧ q.1 f / 8 = q.2.1) : (cGn A q.2.1 q.2.2.1 q.2.2.2 ck f x ∧ cSf A q.2.1 q.2.2.2 hh ck f x) ↔ ∃ t b : Int, (0 ≤ t ∧ t < 64) ∧ (0 ≤ b ∧ b < 8) ∧ x = 512 * f + 8 * t + b ∧ zLg q (f + 64 * t + 4096 * b) := by
  obtain ⟨e1, e2, e3, e4⟩ := cW_q hz
  have hG := cW_g hz
  have g2 := hz.1.2.2.1
  have hs : 0 ≤ q.2.1 ∧ q.2.1 ≤ 1 := ⟨hz.1.1, hz.1.2.1⟩
  have mi : ∀ s : Int, 0 ≤ s → (cWM q s.toNat).toInt = q.1 s := fun s h => by rw [cWM_i g2, show ((s.toNat : Nat) : Int) = s by omega]
  have hB : ∀ j, 0 ≤ j → j < 64 → A j = cB (cWM q) j := fun j a b => by rw [hA j a b]; exact (mi j a).symm
  have hB' : ∀ j, 0 ≤ j → j < 64 → cB (cWM q) j = A j := fun j a b => (hB j a b).symm
  have hps : q.2.2.2 = -1 ∨ (16 ≤ q.2.2.2 ∧ q.2.2.2 ≤ 47) := by
    rcases hz.1.2.2.2.2.1 with c | ⟨p0, p1, p2, p3⟩
    · exact Or.inl c
    · omega
  have mf := mi f hf.1
  have v := g2 f
  have key : ∀ t b : Int, (0 ≤ t ∧ t < 64) → (0 ≤ b ∧ b < 8) → x = 512 * f + 8 * t + b → ((cGn A q.2.1 q.2.2.1 q.2.2.2 ck f x ∧ cSf A q.2.1 q.2.2.2 hh ck f x) ↔ zLg q (f + 64 * t + 4096 * b)) := by
    intro t b ht hb hx
    have ex : (Int32.ofInt x).toInt = x := lI_t (by unfold lRg; omega)
    have c1 : cGn A q.2.1 q.2.2.1 q.2.2.2 ck f x ↔ fGn (cWM q) (cWF q) ck f (Int32.ofInt x) := by
      rw [← cB_gn (by rw [e2]; exact hs) (by rw [mf]; omega), ex, e2, e3, e4]
      exact ⟨cGn_i hB hf hs, cGn_i hB' hf hs⟩
    have c2 : cSf A q.2.1 q.2.2.2 hh ck f x ↔ fSf (cWM q) (cWF q) hh ck f (Int32.ofInt x) := by
      rw [← cB_sf hf (by rw [ex]; omega) (by rw [mf]; omega) (by rw [e2]; exact hs) (by rw [e4]; exact hps) (by omega), ex, e2, e4]
      exact ⟨cSf_i hB hf (by omega), cSf_i hB' hf (by omega)⟩
    have hc : fCk (cWM q) (cWF q) hh ck := by
      unfold fCk
      rw [e2, ← cB_ak, ← cAk_c hB (by omega)]
      rcases hck with ⟨k1, k2⟩ | ⟨k1, k2⟩
      · exact ⟨Or.inr k1, fun _ => k2, fun _ => k1⟩
      · exact ⟨Or.inl k1, fun z => by omega, fun z => absurd z k2⟩
    have key := br_Lg (M := cWM q) (F := cWF q) (h := hh) (ck := ck) (f := f) (t := t) (b := b) (x := Int32.ofInt x) hG (by rw [e1]; exact hz.1) hH.1 hH.2 (by rw [mi hh hH.1, e2]; exact hK) hc hf.1 (by omega) ht.1 (by omega) hb.1 (by omega) (by rw [ex]; exact hx) ⟨by rw [mf]; exact ho.1, by rw [mf, e2]; exact ho.2⟩
    rw [e1] at key
    exact (and_congr c1 c2).trans key
  constructor
  · intro h
    obtain ⟨t, b, t0, t1, b0, b1, hx⟩ := cGn_r hf hs h.1
    exact ⟨t, b, ⟨t0, t1⟩, ⟨b0, b1⟩, hx, (key t b ⟨t0, t1⟩ ⟨b0, b1⟩ hx).mp h⟩
  · rintro ⟨t, b, ht, hb, hx, h⟩
    exact (key t b ht hb hx).mpr h
end
section
/-! the class's Board stands at a position -/
/-- the worth of each side is the sum over its men -/
noncomputable def zBw (W : zW) (b : Nat) : Prop := zBm W b ∧ (∀ i, 64 ≤ i → i < 960 → 0 ≤ W.2.1 (b + 7) i ∧ W.2.1 (b + 7) i ≤ 1100) ∧ ∀ c : Int, (c = 0 ∨ c = 1) → W.2.1 (b + 4) c = cGs (cWg (W.2.1 (b + 7)) c) (W.2.1 (b + 1)) 64
theorem zBw_b {W : zW} {b : Nat} (h : zBw W b) {c : Int} (hc : c = 0 ∨ c = 1) : 0 ≤ W.2.1 (b + 4) c ∧ W.2.1 (b + 4) c ≤ 70400 := by
  have := cGs_b (A := W.2.1 (b + 1)) (cWg_b h.2.1 c) 64
  rw [h.2.2 c hc]
  omega
theorem zPu_w {b : Nat} {W V : zW} {s m : Int} (h : zPu b W V s m) (hi : zBw W b) (hs : 0 ≤ s ∧ s < 64) (h0 : W.2.1 (b + 1) s = 0) (hm : 1 ≤ m ∧ m ≤ 14) : zBw V b := by
  obtain ⟨h1, h2, -, -, h5⟩ := h
  have e7 : V.2.1 (b + 7) = W.2.1 (b + 7) := h1.2.1 _ (by simp)
  refine ⟨fun t t0 t1 => ?_, by rw [e7]; exact hi.2.1, fun c hc => ?_⟩
  · rw [h2]
    by_cases cs : t = s
    · rw [cs, zuI_s]; omega
    · rw [zuI_n cs]; exact hi.1 t t0 t1
  · rw [h2, e7, h5, cGs_u, if_pos (show 0 ≤ s ∧ s < ((64 : Nat) : Int) by omega), h0]
    have bw := zBw_b hi hc
    have bt := hi.2.1 (64 * m + s) (by omega) (by omega)
    have z0 : cWg (W.2.1 (b + 7)) c 0 s = 0 := by unfold cWg; rw [if_neg (by omega)]
    by_cases cc : c = m / 8
    · have z1 : cWg (W.2.1 (b + 7)) c m s = W.2.1 (b + 7) (64 * m + s) := by unfold cWg; rw [if_pos (by omega)]
      rw [← cc, zuI_s, z0, z1, ← hi.2.2 c hc, lI_a (show lRg _ by unfold lRg; omega) (show lRg _ by unfold lRg; omega) (show lRg _ by unfold lRg; omega), lI_t (show lRg _ by unfold lRg; omega)]
      omega
    · have z1 : cWg (W.2.1 (b + 7)) c m s = 0 := by unfold cWg; rw [if_neg (by omega)]
      rw [zuI_n cc, z0, z1, hi.2.2 c hc]
      omega
theorem zLi_w {b : Nat} {W V : zW} {s : Int} (h : zLi b W V s) (hi : zBw W b) (hs : 0 ≤ s ∧ s < 64) (hm : 1 ≤ W.2.1 (b + 1) s) : zBw V b := by
  obtain ⟨h1, h2, -, -, h5⟩ := h
  have e7 : V.2.1 (b + 7) = W.2.1 (b + 7) := h1.2.1 _ (by simp)
  have hm2 := (hi.1 s hs.1 hs.2).2
  refine ⟨fun t t0 t1 => ?_, by rw [e7]; exact hi.2.1, fun c hc => ?_⟩
  · rw [h2]
    by_cases cs : t = s
    · rw [cs, zuI_s]; omega
    · rw [zuI_n cs]; exact hi.1 t t0 t1
  · rw [h2, e7, h5, cGs_u, if_pos (show 0 ≤ s ∧ s < ((64 : Nat) : Int) by omega)]
    have bw := zBw_b hi hc
    have bt := hi.2.1 (64 * W.2.1 (b + 1) s + s) (by omega) (by omega)
    have z0 : cWg (W.2.1 (b + 7)) c 0 s = 0 := by unfold cWg; rw [if_neg (by omega)]
    by_cases cc : c = W.2.1 (b + 1) s / 8
    · have z1 : cWg (W.2.1 (b + 7)) c (W.2.1 (b + 1) s) s = W.2.1 (b + 7) (64 * W.2.1 (b + 1) s + s) := by unfold cWg; rw [if_pos (by omega)]
      rw [← cc, zuI_s, z0, z1, ← hi.2.2 c hc, lI_s (show lRg _ by unfold lRg; omega) (show lRg _ by unfold lRg; omega) (show lRg _ by unfold lRg; omega), lI_t (show lRg _ by unfold lRg; omega)]
      omega
    · have z1 : cWg (W.2.1 (b + 7)) c (W.2.1 (b + 1) s) s = 0 := by unfold cWg; rw [if_neg (by omega)]
      rw [zuI_n cc, z0, z1, hi.2.2 c hc]
      omega
noncomputable def zBi (W : zW) (b : Nat) : Prop := (∀ m : Int, 1 ≤ m → m ≤ 14 → W.2.1 (b + 5) m = cNm (W.2.1 (b + 1)) m 64) ∧ (∀ c s : Int, (c = 0 ∨ c = 1) → 0 ≤ s → s < 64 → W.2.1 (b + 1) s = 8 * c + 6 → W.2.1 (b + 2) c = s) ∧ zBw W b
theorem zPu_i {b : Nat} {W V : zW} {s m : Int} (h : zPu b W V s m) (hi : zBi W b) (hs : 0 ≤ s ∧ s < 64) (h0 : W.2.1 (b + 1) s = 0) (hm : 1 ≤ m ∧ m ≤ 14) (hk : m % 8 = 6 → ∀ j, 0 ≤ j → j < 64 → ¬ W.2.1 (b + 1) j = m) : zBi V b := by
  have hw := zPu_w h hi.2.2 hs h0 hm
  obtain ⟨h1, h2, h3, h4, -⟩ := h
  obtain ⟨i1, i2, -⟩ := hi
  refine ⟨fun k k0 k1 => ?_, fun c j hc j0 j1 e => ?_, hw⟩
  · rw [h2, h4, cNm_u, if_pos (show 0 ≤ s ∧ s < ((64 : Nat) : Int) by omega), h0]
    by_cases c : k = m
    · rw [c, zuI_s, i1 m hm.1 hm.2, if_pos rfl, if_neg (by omega)]; omega
    · rw [zuI_n c, i1 k k0 k1, if_neg (by omega), if_neg (by omega)]; omega
  · rw [h2] at e
    rw [h3]
    by_cases c6 : m % 8 = 6
    · rw [if_pos c6]
      by_cases cs : j = s
      · rw [cs, zuI_s] at e
        rw [show m / 8 = c by omega, zuI_s, cs]
      · rw [zuI_n cs] at e
        by_cases cc : c = m / 8
        · exact absurd (e.trans (by omega)) (hk c6 j j0 j1)
        · rw [zuI_n cc]; exact i2 c j hc j0 j1 e
    · rw [if_neg c6]
      by_cases cs : j = s
      · rw [cs, zuI_s] at e; omega
      · rw [zuI_n cs] at e; exact i2 c j hc j0 j1 e
theorem zLi_i {b : Nat} {W V : zW} {s : Int} (h : zLi b W V s) (hi : zBi W b) (hs : 0 ≤ s ∧ s < 64) (hm : 1 ≤ W.2.1 (b + 1) s) : zBi V b := by
  have hw := zLi_w h hi.2.2 hs hm
  obtain ⟨h1, h2, h3, h4, -⟩ := h
  obtain ⟨i1, i2, -⟩ := hi
  refine ⟨fun k k0 k1 => ?_, fun c j hc j0 j1 e => ?_, hw⟩
  · rw [h2, h4, cNm_u, if_pos (show 0 ≤ s ∧ s < ((64 : Nat) : Int) by omega), if_neg (by omega : ¬ (0 : Int) = k)]
    by_cases c : k = W.2.1 (b + 1) s
    · rw [← c, zuI_s, i1 k k0 k1, if_pos rfl]; omega
    · rw [zuI_n c, i1 k k0 k1, if_neg (fun z => c z.symm)]; omega
  · rw [h2] at e
    rw [h3]
    by_cases cs : j = s
    · rw [cs, zuI_s] at e; omega
    · rw [zuI_n cs] at e; exact i2 c j hc j0 j1 e
noncomputable def zBo (W : zW) (b : Nat) (q : rQ) : Prop := zBt W b ∧ (∀ s, 0 ≤ s → s < 64 → W.2.1 (b + 1) s = q.1 s) ∧ W.1 b 2 = q.2.1 ∧ W.1 b 3 = q.2.2.1 ∧ W.1 b 4 = q.2.2.2 ∧ zBi W b
theorem zBo_k {W : zW} {b : Nat} {q : rQ} (h : zBo W b q) (hz : zGd q) {c : Int} (hc : c = 0 ∨ c = 1) : 0 ≤ W.2.1 (b + 2) c ∧ W.2.1 (b + 2) c ≤ 63 ∧ q.1 (W.2.1 (b + 2) c) = 8 * c + 6 := by
  obtain ⟨s, s0, s1, s2, s3⟩ := hz.1.2.2.2.1 c (by omega) (by omega)
  have := h.2.2.2.2.2.2.1 c s hc s0 (by omega) (by rw [h.2.1 s s0 (by omega)]; exact s2)
  rw [this]
  exact ⟨s0, s1, s2⟩
theorem zBo_m {W : zW} {b : Nat} {q : rQ} (h : zBo W b q) (hz : zGd q) : zBm W b := by
  intro s s0 s1
  rw [h.2.1 s s0 s1]
  have := hz.1.2.2.1 s
  omega
theorem zBo_g {W : zW} {b : Nat} {q : rQ} (h : zBo W b q) (hz : zGd q) : zBg W b := by
  have hk := zBo_k h hz (c := W.1 b 2) (by rw [h.2.2.1]; have := hz.1.1; have := hz.1.2.1; omega)
  have hm := zBo_m h hz
  obtain ⟨h0, h1, h2, h3, h4, h5⟩ := h
  have g0 := hz.1.1
  have g1 := hz.1.2.1
  refine ⟨h0, hm, by rw [h2]; omega, by rw [h3]; exact hz.2.1, ?_, ⟨hk.1, hk.2.1⟩⟩
  rw [h4, h2]
  rcases hz.1.2.2.2.2.1 with c | ⟨p0, p1, p2, p3⟩
  · exact Or.inl c
  · right
    rw [h1 _ p0 (by omega)]
    exact ⟨p2, by omega⟩
/-- a move of the class, told as the reference tells it -/
noncomputable def cMm (x : Int) : Int := x / 512 + 64 * (x / 8 % 64) + 4096 * (x % 8)
theorem cMm_e {f t b : Int} (ht : 0 ≤ t ∧ t < 64) (hb : 0 ≤ b ∧ b < 8) : cMm (512 * f + 8 * t + b) = f + 64 * t + 4096 * b := by
  unfold cMm
  rw [show (512 * f + 8 * t + b) / 512 = f by omega, show (512 * f + 8 * t + b) / 8 % 64 = t by omega, show (512 * f + 8 * t + b) % 8 = b by omega]
/-- a legal move as the class tells it -/
noncomputable def cL (q : rQ) (x : Int) : Prop := 0 ≤ x ∧ x < 32768 ∧ zLg q (cMm x)
theorem cL_o {q : rQ} {x : Int} (h : cL q x) : ¬ q.1 (x / 512) = 0 ∧ q.1 (x / 512) / 8 = q.2.1 := by
  have h1 := h.2.2.1.2.2.1
  rw [show rFr (cMm x) = x / 512 by unfold rFr cMm; have := h.1; have := h.2.1; omega] at h1
  exact h1
/-- what legal leaves: the list from a to r -/
noncomputable def zLl (L : Nat) (W V : zW) (q : rQ) (e a r : Int) : Prop := zFr [] [L] W V ∧ (∀ i, i < a → V.2.1 L i = W.2.1 L i) ∧ (a ≤ r ∧ r ≤ a + 1728) ∧ (∀ i, a ≤ i → i < r → cL q (V.2.1 L i)) ∧ (∀ i j, a ≤ i → i < r → a ≤ j → j < r → V.2.1 L i = V.2.1 L j → i = j) ∧ ((r - a < e ∨ e = 1728) → hqE (cL q) (V.2.1 L) a r)
theorem zLe_l {L b : Nat} {W V : zW} {q : rQ} {e a r : Int} (h : zLe L b W V e a r) (hb : zBo W b q) (hz : zGd q) : zLl L W V q e a r := by
  obtain ⟨ck, F, hck, hF, h1, h2, h3, h4, h5⟩ := h
  have hk := zBo_k hb hz (c := W.1 b 2) (by rw [hb.2.2.1]; have := hz.1.1; have := hz.1.2.1; omega)
  rw [hb.2.2.1, hb.2.2.2.1, hb.2.2.2.2.1] at h5
  rw [hb.2.2.1] at hck hk
  have fw : ∀ x, cLg (W.2.1 (b + 1)) q.2.1 q.2.2.1 q.2.2.2 (W.2.1 (b + 2) q.2.1) ck F x → cL q x := by
    rintro x ⟨f, f0, f1, f2, f3, f4⟩
    rw [hb.2.1 f f0 (by omega)] at f2 f3
    obtain ⟨t, c, ht, hc, hx, hl⟩ := (cLg_z hz hb.2.1 ⟨hk.1, hk.2.1⟩ hk.2.2 hck ⟨f0, by omega⟩ ⟨f2, f3⟩).mp f4
    refine ⟨by omega, by omega, ?_⟩
    rw [hx, cMm_e ht hc]; exact hl
  refine ⟨h3, h4, ⟨h5.1, by omega⟩, fun i i0 i1 => fw _ (h5.2.1 i i0 i1), h5.2.2.2, fun hr => ?_⟩
  have hF2 : F = 64 := by omega
  refine hq_c h5 (fun x => ⟨fw x, fun hx => ?_⟩)
  have ow := cL_o hx
  have f0 : 0 ≤ x / 512 ∧ x / 512 < 64 := by have := hx.1; have := hx.2.1; omega
  refine ⟨x / 512, f0.1, by omega, by rw [hb.2.1 _ f0.1 f0.2]; exact ow.1, by rw [hb.2.1 _ f0.1 f0.2]; exact ow.2, ?_⟩
  exact (cLg_z hz hb.2.1 ⟨hk.1, hk.2.1⟩ hk.2.2 hck f0 ow).mpr ⟨x / 8 % 64, x % 8, by omega, by omega, by omega, hx.2.2⟩
end
section
/-! what make puts into its answer, and unmake takes out of it -/
theorem ud_lob (l : Nat) (hl : l < 65536) (c : BitVec 32) (j m : Nat) (hj : j + m ≤ 16) : (((BitVec.ofNat 64 l ||| (c.signExtend 64) <<< 16).sshiftRight j).signExtend 32 &&& BitVec.ofNat 32 (2 ^ m - 1)) = BitVec.ofNat 32 (l / 2 ^ j % 2 ^ m) := by
  apply BitVec.eq_of_getLsbD_eq
  intro i hi
  have h1 : i < 64 := by omega
  have h4 : ¬ 64 ≤ i := by omega
  rw [BitVec.getLsbD_and, BitVec.getLsbD_signExtend, BitVec.getLsbD_sshiftRight, BitVec.getLsbD_or, BitVec.getLsbD_ofNat, BitVec.getLsbD_ofNat, BitVec.getLsbD_ofNat, BitVec.getLsbD_shiftLeft, Nat.testBit_two_pow_sub_one, Nat.testBit_mod_two_pow, Nat.testBit_div_two_pow]
  by_cases c1 : i < m
  · have h2 : j + i < 64 := by omega
    have h3 : j + i < 16 := by omega
    simp [hi, h1, h2, h3, h4, c1, Nat.add_comm]
  · simp [c1]
theorem ud_lo0 (l : Nat) (hl : l < 65536) (c : BitVec 32) (m : Nat) (hj : m ≤ 16) : ((BitVec.ofNat 64 l ||| (c.signExtend 64) <<< 16).signExtend 32 &&& BitVec.ofNat 32 (2 ^ m - 1)) = BitVec.ofNat 32 (l % 2 ^ m) := by
  have h := ud_lob l hl c 0 m (by omega)
  rw [BitVec.sshiftRight_zero] at h
  simpa using h
noncomputable def cUw (l : Nat) (c : Int32) : Int64 := Int64.ofNat l ||| c.toInt64 <<< (Int32.toInt64 16 &&& 63)
theorem cUw_0 (l : Nat) (hl : l < 65536) (c : Int32) : (cUw l c).toInt32 &&& 15 = Int32.ofNat (l % 16) := by
  apply Int32.toBitVec_inj.mp
  have h := ud_lo0 l hl c.toBitVec 4 (by omega)
  have e : (BitVec.ofNat 64 l).signExtend 32 = BitVec.ofNat 32 l := by
    apply BitVec.eq_of_getLsbD_eq
    intro i hi
    have h1 : i < 64 := by omega
    rw [BitVec.getLsbD_signExtend, BitVec.getLsbD_ofNat, BitVec.getLsbD_ofNat]
    simp [hi, h1]
  simpa [cUw, e] using h
theorem cUw_4 (l : Nat) (hl : l < 65536) (c : Int32) : (cUw l c >>> (Int32.toInt64 4 &&& 63)).toInt32 &&& 15 = Int32.ofNat (l / 16 % 16) := by
  apply Int32.toBitVec_inj.mp
  have h := ud_lob l hl c.toBitVec 4 4 (by omega)
  simpa [cUw] using h
theorem cUw_8 (l : Nat) (hl : l < 65536) (c : Int32) : (cUw l c >>> (Int32.toInt64 8 &&& 63)).toInt32 &&& 127 = Int32.ofNat (l / 256 % 128) := by
  apply Int32.toBitVec_inj.mp
  have h := ud_lob l hl c.toBitVec 8 7 (by omega)
  simpa [cUw] using h
noncomputable def cUd (u : Int64) (tk R P : Int) : Prop := (lI u.toInt32.toInt &&& lI 15).toInt = tk ∧ (lI (u >>> ((lI 4).toInt64 &&& 63)).toInt32.toInt &&& lI 15).toInt = R ∧ (lI (u >>> ((lI 8).toInt64 &&& 63)).toInt32.toInt &&& lI 127).toInt = P + 1
theorem cUd_e {n0 c : Int} (h : 0 ≤ n0 ∧ n0 < 65536) : cUd ((lI n0).toInt64 ||| (lI c).toInt64 <<< ((lI 16).toInt64 &&& 63)) (n0 % 16) (n0 / 16 % 16) (n0 / 256 % 128 - 1) := by
  have e : (lI n0).toInt64 = Int64.ofNat n0.toNat := by
    apply Int64.toInt_inj.mp
    rw [Int32.toInt_toInt64, lI_t (by unfold lRg; omega), Int64.toInt_ofNat_of_lt (by omega)]
    omega
  have eu : (lI n0).toInt64 ||| (lI c).toInt64 <<< ((lI 16).toInt64 &&& 63) = cUw n0.toNat (lI c) := by
    unfold cUw
    rw [e]
    rfl
  have lo : ∀ X : Int32, lI X.toInt = X := fun X => (lI_e rfl).symm
  have on : ∀ k : Nat, k < 1000 → (Int32.ofNat k).toInt = k := fun k hk => Int32.toInt_ofNat_of_lt (by omega)
  rw [eu]
  refine ⟨?_, ?_, ?_⟩
  · rw [lo, show lI 15 = 15 from rfl, cUw_0 _ (by omega), on _ (by omega)]; omega
  · rw [lo, show lI 15 = 15 from rfl, show (lI 4).toInt64 = Int32.toInt64 4 from rfl, cUw_4 _ (by omega), on _ (by omega)]; omega
  · rw [lo, show lI 127 = 127 from rfl, show (lI 8).toInt64 = Int32.toInt64 8 from rfl, cUw_8 _ (by omega), on _ (by omega)]; omega
theorem cUd_m {tk R P c : Int} (h1 : 0 ≤ tk ∧ tk < 16) (h2 : 0 ≤ R ∧ R ≤ 15) (h3 : -1 ≤ P ∧ P ≤ 63) {a b : Int} (ea : a = R * 16) (eb : b = (P + 1) * 256) : cUd (((lI ((lI ((lI tk ||| lI a).toInt) ||| lI b).toInt)).toInt64) ||| (((lI c).toInt64) <<< ((lI 16).toInt64 &&& 63))) tk R P := by
  have k1 : (lI tk ||| lI a).toInt = a + tk := by
    rw [Int32.or_comm]; exact z_or4 (by omega)
  have k2 : (lI (a + tk) ||| lI b).toInt = b + (a + tk) := by
    rw [Int32.or_comm]; exact z_or8 (by omega)
  rw [k1, k2]
  have := cUd_e (n0 := b + (a + tk)) (c := c) (by omega)
  rw [show (b + (a + tk)) % 16 = tk by omega, show (b + (a + tk)) / 16 % 16 = R by omega, show (b + (a + tk)) / 256 % 128 - 1 = P by omega] at this
  exact this
theorem cKp0 : ∀ (R : Fin 16) (s : Fin 64), (lI (R.val : Int) &&& lI ((tv_4.getD s.val 0).toInt)) = (lI (R.val : Int) &&& (Int32.ofInt (rLo s.val) ^^^ -1)) := by decide +kernel
theorem cKp1 {R s : Int} (hR : 0 ≤ R ∧ R ≤ 15) (hs : 0 ≤ s ∧ s < 64) : (lI R &&& lI ((tv_4.getD s.toNat 0).toInt)) = lI (rAn R (rLo s)) := by
  have e := cKp0 ⟨R.toNat, by omega⟩ ⟨s.toNat, by omega⟩
  dsimp only at e
  rw [show ((R.toNat : Nat) : Int) = R by omega, show ((s.toNat : Nat) : Int) = s by omega] at e
  rw [e]
  exact lI_e rfl
theorem cKp {R f t : Int} (hR : 0 ≤ R ∧ R ≤ 15) (hf : 0 ≤ f ∧ f < 64) (ht : 0 ≤ t ∧ t < 64) : (lI R &&& lI ((lI ((tv_4.getD f.toNat 0).toInt) &&& lI ((tv_4.getD t.toNat 0).toInt)).toInt)).toInt = rAn (rAn R (rLo f)) (rLo t) := by
  have b1 := rAn_b (R := R) (l := rLo f) hR
  rw [← lI_e (x := lI ((tv_4.getD f.toNat 0).toInt) &&& lI ((tv_4.getD t.toNat 0).toInt)) rfl, ← Int32.and_assoc, cKp1 hR hf, cKp1 (by omega) ht]
  have b2 := rAn_b (R := rAn R (rLo f)) (l := rLo t) (by omega)
  exact lI_t (by unfold lRg; omega)
theorem cA80 : ∀ x : Fin 16, (lI (x.val : Int) &&& lI 8).toInt = 8 * ((x.val : Int) / 8) := by decide +kernel
theorem cA8 {x : Int} (h : 0 ≤ x ∧ x < 16) : (lI x &&& lI 8).toInt = 8 * (x / 8) := by
  have e := cA80 ⟨x.toNat, by omega⟩
  dsimp only at e
  rw [show ((x.toNat : Nat) : Int) = x by omega] at e
  exact e
/-- the passed square behind a move, as the class finds it -/
noncomputable def cPb (A : Int → Int) (sd f t : Int) : Int := if (t - f = 16 ∨ f - t = 16) ∧ ((0 < t % 8 ∧ A (t - 1) = 8 * (1 - sd) + 1) ∨ (t % 8 < 7 ∧ A (t + 1) = 8 * (1 - sd) + 1)) then (f + t) / 2 else -1
theorem rNp_n {q : rQ} {m : Int} (h : ¬ q.1 (rFr m) % 8 = 1) : rNp q m = -1 := by
  unfold rNp
  rw [if_neg (fun z => h z.1.1)]
theorem cPb_e {q : rQ} {m : Int} {A : Int → Int} (hA : ∀ s, 0 ≤ s → s < 64 → A s = rM4 q m s) (hk : q.1 (rFr m) % 8 = 1) : cPb A q.2.1 (rFr m) (rTo m) = rNp q m := by
  have ht := rTo_b (m := m)
  have sp := br_Sp1 (s := rTo m) ht.1 ht.2
  have n1 : rNbr (rM4 q m) (rTo m) (-1) (1 + 8 * (1 - q.2.1)) ↔ (0 < rTo m % 8 ∧ A (rTo m - 1) = 8 * (1 - q.2.1) + 1) := by
    unfold rNbr
    by_cases c : 0 < rTo m % 8
    · rw [sp.2.2.1 c, hA _ (by omega) (by omega)]
      constructor
      · rintro ⟨_, h⟩; exact ⟨c, by omega⟩
      · rintro ⟨_, h⟩; exact ⟨by omega, by omega⟩
    · rw [sp.2.2.2 (by omega)]
      constructor
      · rintro ⟨h, _⟩; omega
      · rintro ⟨h, _⟩; omega
  have n2 : rNbr (rM4 q m) (rTo m) 1 (1 + 8 * (1 - q.2.1)) ↔ (rTo m % 8 < 7 ∧ A (rTo m + 1) = 8 * (1 - q.2.1) + 1) := by
    unfold rNbr
    by_cases c : rTo m % 8 < 7
    · rw [sp.1 c, hA _ (by omega) (by omega)]
      constructor
      · rintro ⟨_, h⟩; exact ⟨c, by omega⟩
      · rintro ⟨_, h⟩; exact ⟨by omega, by omega⟩
    · rw [sp.2.1 (by omega)]
      constructor
      · rintro ⟨h, _⟩; omega
      · rintro ⟨h, _⟩; omega
  have e : rPa q m ↔ (rTo m - rFr m = 16 ∨ rFr m - rTo m = 16) ∧ ((0 < rTo m % 8 ∧ A (rTo m - 1) = 8 * (1 - q.2.1) + 1) ∨ (rTo m % 8 < 7 ∧ A (rTo m + 1) = 8 * (1 - q.2.1) + 1)) := by
    unfold rPa rTwo
    rw [n1, n2]
    exact and_congr ⟨fun h => h.2, fun h => ⟨hk, h⟩⟩ Iff.rfl
  unfold cPb rNp
  by_cases c : rPa q m
  · rw [if_pos (e.mp c), if_pos c]
  · rw [if_neg (fun z => c (e.mpr z)), if_neg c]
theorem cMm_f {x : Int} (h : 0 ≤ x ∧ x < 32768) : rFr (cMm x) = x / 512 ∧ rTo (cMm x) = x / 8 % 64 ∧ rBc (cMm x) = x % 8 := by
  have h1 : 0 ≤ x / 512 ∧ x / 512 < 64 := by omega
  have h2 : 0 ≤ x / 8 % 64 ∧ x / 8 % 64 < 64 := by omega
  have h3 : 0 ≤ x % 8 ∧ x % 8 < 8 := by omega
  unfold rFr rTo rBc cMm
  generalize x / 512 = f at *
  generalize x / 8 % 64 = t at *
  generalize x % 8 = b at *
  omega
theorem rHas_k0 : ∀ R : Fin 16, (rHas R.val 1 → (R.val : Int) / 1 % 2 = 1) ∧ (rHas R.val 2 → (R.val : Int) / 2 % 2 = 1) ∧ (rHas R.val 4 → (R.val : Int) / 4 % 2 = 1) ∧ (rHas R.val 8 → (R.val : Int) / 8 % 2 = 1) := by unfold rHas; decide +kernel
/-- who may castle has the rook there, and nothing between -/
theorem rCa_r {q : rQ} (hz : zGd q) : (rCa q 1 → q.1 (56 * q.2.1 + 5) = 0 ∧ q.1 (56 * q.2.1 + 6) = 0 ∧ q.1 (56 * q.2.1 + 7) = 8 * q.2.1 + 4) ∧ (rCa q 0 → q.1 (56 * q.2.1 + 1) = 0 ∧ q.1 (56 * q.2.1 + 2) = 0 ∧ q.1 (56 * q.2.1 + 3) = 0 ∧ q.1 (56 * q.2.1) = 8 * q.2.1 + 4) := by
  have hs : q.2.1 = 0 ∨ q.2.1 = 1 := by have := hz.1.1; have := hz.1.2.1; omega
  have hi := hz.2.2.1 q.2.1 hs
  have hk := rHas_k0 ⟨q.2.2.1.toNat, by have := hz.2.1; omega⟩
  dsimp only at hk
  rw [show ((q.2.2.1.toNat : Nat) : Int) = q.2.2.1 by have := hz.2.1; omega] at hk
  constructor
  · rintro ⟨c1, c2, c3⟩
    rw [if_pos rfl] at c1 c2
    refine ⟨c2 _ (by omega) (by rw [if_pos rfl]; omega), c2 _ (by omega) (by rw [if_pos rfl]; omega), (hi.1 ?_).2⟩
    rcases hs with e | e
    · rw [e] at c1 ⊢; exact hk.1 c1
    · rw [e] at c1 ⊢; exact hk.2.2.1 c1
  · rintro ⟨c1, c2, c3⟩
    rw [if_neg (by decide)] at c1 c2
    refine ⟨c2 _ (by omega) (by rw [if_neg (by decide)]; omega), c2 _ (by omega) (by rw [if_neg (by decide)]; omega), c2 _ (by omega) (by rw [if_neg (by decide)]; omega), (hi.2 ?_).2⟩
    rcases hs with e | e
    · rw [e] at c1 ⊢; exact hk.2.1 c1
    · rw [e] at c1 ⊢; exact hk.2.2.2 c1
theorem cU_16b (l : Nat) (hl : l < 65536) (c : BitVec 32) : ((BitVec.ofNat 64 l ||| (c.signExtend 64) <<< 16).sshiftRight 16).signExtend 32 = c := by
  apply BitVec.eq_of_getLsbD_eq
  intro i hi
  have h1 : i < 64 := by omega
  have h2 : 16 + i < 64 := by omega
  have h4 : ¬ 64 ≤ i := by omega
  have ht : l.testBit (16 + i) = false := Nat.testBit_lt_two_pow (Nat.lt_of_lt_of_le hl (by rw [show (65536 : Nat) = 2 ^ 16 by decide]; exact Nat.pow_le_pow_right (by decide) (by omega)))
  rw [BitVec.getLsbD_signExtend, BitVec.getLsbD_sshiftRight, BitVec.getLsbD_or, BitVec.getLsbD_ofNat, BitVec.getLsbD_shiftLeft, BitVec.getLsbD_signExtend]
  simp [hi, h1, h2, h4, ht]
theorem cUw_16 (l : Nat) (hl : l < 65536) (c : Int32) : (cUw l c >>> (Int32.toInt64 16 &&& 63)).toInt32 = c := by
  apply Int32.toBitVec_inj.mp
  have h := cU_16b l hl c.toBitVec
  simpa [cUw] using h
/-- the clock in what make answers -/
noncomputable def cUk (u : Int64) (c : Int) : Prop := (u >>> ((lI 16).toInt64 &&& 63)).toInt32.toInt = c
theorem cUk_m {tk R P c : Int} (h1 : 0 ≤ tk ∧ tk < 16) (h2 : 0 ≤ R ∧ R ≤ 15) (h3 : -1 ≤ P ∧ P ≤ 63) (h4 : lRg c) {a b : Int} (ea : a = R * 16) (eb : b = (P + 1) * 256) : cUk (((lI ((lI ((lI tk ||| lI a).toInt) ||| lI b).toInt)).toInt64) ||| (((lI c).toInt64) <<< ((lI 16).toInt64 &&& 63))) c := by
  have k1 : (lI tk ||| lI a).toInt = a + tk := by
    rw [Int32.or_comm]; exact z_or4 (by omega)
  have k2 : (lI (a + tk) ||| lI b).toInt = b + (a + tk) := by
    rw [Int32.or_comm]; exact z_or8 (by omega)
  rw [k1, k2]
  have e : (lI (b + (a + tk))).toInt64 = Int64.ofNat (b + (a + tk)).toNat := by
    apply Int64.toInt_inj.mp
    rw [Int32.toInt_toInt64, lI_t (by unfold lRg; omega), Int64.toInt_ofNat_of_lt (by omega)]
    omega
  have eu : (lI (b + (a + tk))).toInt64 ||| (lI c).toInt64 <<< ((lI 16).toInt64 &&& 63) = cUw (b + (a + tk)).toNat (lI c) := by
    unfold cUw
    rw [e]
    rfl
  unfold cUk
  rw [eu, show (lI 16).toInt64 = Int32.toInt64 16 from rfl, cUw_16 _ (by omega)]
  exact lI_t h4
end
section
/-! what is known of a legal move of the class -/
noncomputable def cMf (q : rQ) (f t w bb : Int) : Prop := (0 ≤ f ∧ f < 64 ∧ 0 ≤ t ∧ t < 64 ∧ 0 ≤ w ∧ w < 64 ∧ ¬ t = f ∧ ¬ w = f) ∧ (1 ≤ q.1 f ∧ q.1 f ≤ 14 ∧ q.1 f / 8 = q.2.1 ∧ 1 ≤ q.1 f % 8 ∧ q.1 f % 8 ≤ 6) ∧ (w = if q.1 f % 8 = 1 ∧ t = q.2.2.2 then q.2.2.2 - 8 + 16 * q.2.1 else t) ∧ (0 ≤ q.1 w ∧ q.1 w ≤ 14 ∧ (¬ q.1 w = 0 → ¬ q.1 w / 8 = q.2.1)) ∧ (t = w ∨ q.1 t = 0) ∧ (q.1 f % 8 = 6 → ∀ j, q.1 j = 8 * q.2.1 + 6 → j = f) ∧ (bb = 0 ∨ (q.1 f % 8 = 1 ∧ 2 ≤ bb ∧ bb ≤ 5)) ∧ (q.1 f % 8 = 6 → t - f = 2 → f = 56 * q.2.1 + 4 ∧ q.1 (f + 1) = 0 ∧ q.1 (f + 2) = 0 ∧ q.1 (f + 3) = 8 * q.2.1 + 4) ∧ (q.1 f % 8 = 6 → f - t = 2 → f = 56 * q.2.1 + 4 ∧ q.1 (f - 1) = 0 ∧ q.1 (f - 2) = 0 ∧ q.1 (f - 3) = 0 ∧ q.1 (f - 4) = 8 * q.2.1 + 4)
theorem cMf_i {q : rQ} {x : Int} (hz : zGd q) (hx : cL q x) : cMf q (x / 512) (x / 8 % 64) (rWh q (cMm x)) (x % 8) := by
  obtain ⟨x0, x1, hl⟩ := hx
  obtain ⟨ef, et, eb⟩ := cMm_f ⟨x0, x1⟩
  have hf := rFr_b (m := cMm x)
  have ht := rTo_b (m := cMm x)
  rw [ef] at hf
  rw [et] at ht
  have hw : rWh q (cMm x) = if q.1 (x / 512) % 8 = 1 ∧ x / 8 % 64 = q.2.2.2 then q.2.2.2 - 8 + 16 * q.2.1 else x / 8 % 64 := by
    by_cases c : q.1 (x / 512) % 8 = 1 ∧ x / 8 % 64 = q.2.2.2
    · have := rWh_p hz.1 hl.1 (by rw [ef]; exact c.1) (by rw [et]; exact c.2)
      rw [if_pos c]
      unfold rWh
      rw [ef, et, if_pos c]
      rw [ef, et] at this
      exact this
    · rw [if_neg c]
      unfold rWh
      rw [ef, et, if_neg c]
  have cs : rIsC q (cMm x) → _ := rLm_c hl.1
  have ca := rCa_r hz
  obtain ⟨l0, l1, l2, l3, l4, l5⟩ := hl.1
  unfold rOwn at l2 l3
  unfold rIsC at cs
  rw [ef, et] at cs
  rw [ef] at l2 l5
  rw [et] at l3 l5
  rw [eb] at l5
  clear l4
  obtain ⟨⟨g0, g1, g2, g3, g4, g5⟩, hR, hi, hp⟩ := hz
  have v1 := g2 (x / 512)
  have v2 := g2 (rWh q (cMm x))
  generalize x / 512 = f at *
  generalize x / 8 % 64 = t at *
  generalize rWh q (cMm x) = w at *
  generalize x % 8 = bb at *
  have tf : ¬ t = f := fun z => by rw [z] at l3; exact l3 l2
  have ww : 0 ≤ w ∧ w < 64 ∧ ¬ w = f ∧ (¬ q.1 w = 0 → ¬ q.1 w / 8 = q.2.1) ∧ (t = w ∨ q.1 t = 0) := by
    clear l5 v1 v2 cs ca hi hp
    by_cases c : q.1 f % 8 = 1 ∧ t = q.2.2.2
    · rw [if_pos c] at hw
      rcases g4 with g4 | ⟨p0, p1, p2, p3⟩
      · omega
      · have e : q.1 w / 8 = 1 - q.2.1 ∧ ¬ q.1 w = 0 := by
          rcases p3 with ⟨p3, p4, p5⟩ | ⟨p3, p4, p5⟩
          · rw [hw, show q.2.2.2 - 8 + 16 * q.2.1 = q.2.2.2 - 8 by omega, p5]; omega
          · rw [hw, show q.2.2.2 - 8 + 16 * q.2.1 = q.2.2.2 + 8 by omega, p5]; omega
        refine ⟨by omega, by omega, fun z => ?_, fun _ => by omega, Or.inr (by rw [c.2]; exact p2)⟩
        rw [z] at e; omega
    · rw [if_neg c] at hw
      rw [hw]
      exact ⟨by omega, by omega, tf, fun z z2 => l3 ⟨z, z2⟩, Or.inl rfl⟩
  have r1 : 1 ≤ q.1 f ∧ q.1 f ≤ 14 ∧ q.1 f / 8 = q.2.1 ∧ 1 ≤ q.1 f % 8 ∧ q.1 f % 8 ≤ 6 := by clear l5 v2 hw ww g4 hi hp cs ca l3; omega
  have r2 : 0 ≤ q.1 w ∧ q.1 w ≤ 14 := by clear l5 v1 hw ww g4 hi hp cs ca l3 r1; omega
  have r3 : bb = 0 ∨ (q.1 f % 8 = 1 ∧ 2 ≤ bb ∧ bb ≤ 5) := by clear v1 v2 hw ww g4 hi hp cs ca l3 r1; omega
  clear v1 v2 l5 g4 hi hp
  refine ⟨⟨hf.1, by omega, ht.1, by omega, ww.1, ww.2.1, tf, ww.2.2.1⟩, r1, hw, ⟨r2.1, r2.2, ww.2.2.2.1⟩, ww.2.2.2.2, ?_, r3, ?_, ?_⟩
  · intro k j hj
    obtain ⟨s, s0, s1, s2, s3⟩ := g3 q.2.1 g0 g1
    rw [s3 j hj]
    exact (s3 f (by omega)).symm
  · intro k e
    have := cs ⟨k, Or.inl e⟩
    rcases this.2 with h | h
    · have c := ca.1 h.2
      rw [this.1]
      refine ⟨rfl, ?_, ?_, ?_⟩
      · rw [show 56 * q.2.1 + 4 + 1 = 56 * q.2.1 + 5 by omega]; exact c.1
      · rw [show 56 * q.2.1 + 4 + 2 = 56 * q.2.1 + 6 by omega]; exact c.2.1
      · rw [show 56 * q.2.1 + 4 + 3 = 56 * q.2.1 + 7 by omega]; exact c.2.2
    · omega
  · intro k e
    have := cs ⟨k, Or.inr e⟩
    rcases this.2 with h | h
    · omega
    · have c := ca.2 h.2
      rw [this.1]
      refine ⟨rfl, ?_, ?_, ?_, ?_⟩
      · rw [show 56 * q.2.1 + 4 - 1 = 56 * q.2.1 + 3 by omega]; exact c.2.2.1
      · rw [show 56 * q.2.1 + 4 - 2 = 56 * q.2.1 + 2 by omega]; exact c.2.1
      · rw [show 56 * q.2.1 + 4 - 3 = 56 * q.2.1 + 1 by omega]; exact c.1
      · rw [show 56 * q.2.1 + 4 - 4 = 56 * q.2.1 by omega]; exact c.2.2.2
/-! men on their way -/
noncomputable def zMs (b : Nat) (W V : zW) (B : Int → Int) : Prop := zFy [] [b + 1, b + 2, b + 4, b + 5, b + 6] [b + 3] W V ∧ (∀ s, 0 ≤ s → s < 64 → V.2.1 (b + 1) s = B s) ∧ zBi V b
theorem zMs_l {b : Nat} {W V U : zW} {B : Int → Int} {s : Int} (h : zMs b W V B) (hl : zLi b V U s) (hs : 0 ≤ s ∧ s < 64) (h1 : 1 ≤ B s) : zMs b W U (fun j => if j = s then 0 else B j) := by
  refine ⟨zFy_t h.1 hl.1, fun j j0 j1 => ?_, zLi_i hl h.2.2 hs (by rw [h.2.1 s hs.1 hs.2]; exact h1)⟩
  rw [hl.2.1]
  unfold zuI
  rw [h.2.1 j j0 j1]
theorem zMs_p {b : Nat} {W V U : zW} {B : Int → Int} {s m : Int} (h : zMs b W V B) (hl : zPu b V U s m) (hs : 0 ≤ s ∧ s < 64) (h0 : B s = 0) (hm : 1 ≤ m ∧ m ≤ 14) (hk : m % 8 = 6 → ∀ j, 0 ≤ j → j < 64 → ¬ B j = m) : zMs b W U (fun j => if j = s then m else B j) := by
  refine ⟨zFy_t h.1 hl.1, fun j j0 j1 => ?_, zPu_i hl h.2.2 hs (by rw [h.2.1 s hs.1 hs.2]; exact h0) hm (fun k j j0 j1 => by rw [h.2.1 j j0 j1]; exact hk k j j0 j1)⟩
  rw [hl.2.1]
  unfold zuI
  rw [h.2.1 j j0 j1]
theorem zMs_c {b : Nat} {W V : zW} {B C : Int → Int} (h : zMs b W V B) (e : ∀ s, 0 ≤ s → s < 64 → B s = C s) : zMs b W V C := ⟨h.1, fun s s0 s1 => by rw [h.2.1 s s0 s1]; exact e s s0 s1, h.2.2⟩
theorem zMs_n {b : Nat} {W V : zW} {B : Int → Int} {m : Int} (h : zMs b W V B) (hm : 1 ≤ m ∧ m ≤ 14) : -1000 ≤ V.2.1 (b + 5) m ∧ V.2.1 (b + 5) m ≤ 1000 := by
  rw [h.2.2.1 m hm.1 hm.2]
  have := cNm_b (A := V.2.1 (b + 1)) (m := m) 64
  omega
/-- make and unmake change these -/
noncomputable def zMx (b : Nat) (W V : zW) : Prop := zFy [(b, 2), (b, 3), (b, 4), (b, 5), (b, 6)] [b + 1, b + 2, b + 4, b + 5, b + 6] [b + 3] W V
end
section
noncomputable def ak_ZBOpby34 : List jI := [(.iload_n 2, 1, (2, 0, 0, 0, 0)), (.iload_n 1, 1, (1, 0, 0, 0, 0)), (.isub, 1, (0, 0, 0, 0, 0)), (.bipush 16, 2, (0, 0, 0, 16, 0)), (.if_icmp .eq 13, 3, (18, 0, 0, 0, 0)), (.iload_n 1, 1, (1, 0, 0, 0, 0)), (.iload_n 2, 1, (2, 0, 0, 0, 0)), (.isub, 1, (0, 0, 0, 0, 0)), (.bipush 16, 2, (0, 0, 0, 16, 0)), (.if_icmp .eq 5, 3, (18, 0, 0, 0, 0)), (.iconst (-1), 1, (0, 0, 0, (-1), 0)), (.ireturn, 1, (0, 0, 0, 0, 0)), (.iconst 1, 1, (0, 0, 0, 1, 0)), (.aload_n 0, 1, (0, 0, 0, 0, 0)), (.getfield 77, 3, (10, 2, 667, 0, 0)), (.isub, 1, (0, 0, 0, 0, 0)), (.iconst 3, 1, (0, 0, 0, 3, 0)), (.ishl, 1, (0, 0, 0, 0, 0)), (.iconst 1, 1, (0, 0, 0, 1, 0)), (.ior, 1, (0, 0, 0, 0, 0)), (.istore_n 3, 1, (3, 0, 0, 0, 0)), (.iload_n 2, 1, (2, 0, 0, 0, 0)), (.bipush 7, 2, (0, 0, 0, 7, 0)), (.iand, 1, (0, 0, 0, 0, 0)), (.ifCond .le 15, 3, (48, 0, 0, 0, 0)), (.aload_n 0, 1, (0, 0, 0, 0, 0)), (.getfield 7, 3, (10, 0, 660, 0, 0)), (.iload_n 2, 1, (2, 0, 0, 0, 0)), (.iconst 1, 1, (0, 0, 0, 1, 0)), (.isub, 1, (0, 0, 0, 0, 0)), (.iaload, 1, (0, 0, 0, 0, 0)), (.iload_n 3, 1, (3, 0, 0, 0, 0)), (.if_icmp .eq 24, 3, (69, 0, 0, 0, 0)), (.iload_n 2, 1, (2, 0, 0, 0, 0)), (.bipush 7, 2, (0, 0, 0, 7, 0)), (.iand, 1, (0, 0, 0, 0, 0)), (.bipush 7, 2, (0, 0, 0, 7, 0)), (.if_icmp .ge 19, 3, (73, 0, 0, 0, 0)), (.aload_n 0, 1, (0, 0, 0, 0, 0)), (.getfield 7, 3, (10, 0, 660, 0, 0)), (.iload_n 2, 1, (2, 0, 0, 0, 0)), (.iconst 1, 1, (0, 0, 0, 1, 0)), (.iadd, 1, (0, 0, 0, 0, 0)), (.iaload, 1, (0, 0, 0, 0, 0)), (.iload_n 3, 1, (3, 0, 0, 0, 0)), (.if_icmp .ne 7, 3, (73, 0, 0, 0, 0)), (.iconst 1, 1, (0, 0, 0, 1, 0)), (.goto 4, 3, (74, 0, 0, 0, 0)), (.iconst 0, 1, (0, 0, 0, 0, 0)), (.istore 4, 2, (4, 0, 0, 0, 0)), (.iload 4, 2, (4, 0, 0, 0, 0)), (.ifCond .eq 11, 3, (89, 0, 0, 0, 0)), (.iload_n 1, 1, (1, 0, 0, 0, 0)), (.iload_n 2, 1, (2, 0, 0, 0, 0)), (.iadd, 1, (0, 0, 0, 0, 0)), (.iconst 1, 1, (0, 0, 0, 1, 0)), (.ishr, 1, (0, 0, 0, 0, 0)), (.goto 4, 3, (90, 0, 0, 0, 0)), (.iconst (-1), 1, (0, 0, 0, (-1), 0)), (.ireturn, 1, (0, 0, 0, 0, 0))]
theorem ao_ZBOpby34 : jokLG jtF lk_BO "ChessHouse$Board" jcl jtb 5 prog_3_method_22_code 0 ak_ZBOpby34 = true := by decide +kernel
noncomputable def zm_BOpby34 : zM := (some .int, { frames := 0, cells := 0, slots := 0, locals := 0 }, ([], []), [], ak_ZBOpby34)
noncomputable def zc_BOpby34 (vals : List zv) (W : zW) (post : zPo) : Prop := ∃ f t : Int, vals = [.inr (.inr (some (.inl 34))), .inl (f), .inl (t)] ∧ ((0 ≤ f ∧ f < 64) ∧ (0 ≤ t ∧ t < 64) ∧ (0 ≤ W.1 34 2 ∧ W.1 34 2 ≤ 1)) ∧ ∀ r : Int, (r = cPb (W.2.1 35) (W.1 34 2) f t) → post (some (.inl r)) W
set_option maxRecDepth 8000 in
theorem zp_BOpby34_0 {n K : Nat} {W : zW} {post : zPo} {f t : Int} {u3 u4 : Option zv} (hK : 56 ≤ K) (hn : 142 ≤ n) (h : (-2147483648 ≤ t - f ∧ t - f ≤ 2147483647) ∧ ((t - f) = 16 → (-2147483648 ≤ 1 - (W.1 34 2) ∧ 1 - (W.1 34 2) ≤ 2147483647) ∧ (0 ≤ (1 - (W.1 34 2)) ∧ (1 - (W.1 34 2)) * 8 ≤ 2147483647) ∧ ∀ t0 : Int, t0 = (1 - (W.1 34 2)) * 8 → (0 ≤ t0 ∧ t0 ≤ 2147483647 ∧ t0 % 2 = 0 ∧ 0 ≤ (1 : Int) ∧ (1 : Int) < 2) ∧ ∀ t1 : Int, t1 = t0 + 1 → (0 ≤ t ∧ t ≤ 2147483647) ∧ ∀ t2 : Int, t2 = t % 8 → (t2 ≤ 0 → (0 ≤ t ∧ t ≤ 2147483647) ∧ ∀ t3 : Int, t3 = t % 8 → (7 ≤ t3 → post (some (.inl (-1))) W) ∧ (¬ 7 ≤ t3 → (-2147483648 ≤ t + 1 ∧ t + 1 ≤ 2147483647) ∧ (0 ≤ (t + 1) ∧ (t + 1) < 64) ∧ (¬ (W.2.1 35 (t + 1)) = t1 → post (some (.inl (-1))) W) ∧ ((W.2.1 35 (t + 1)) = t1 → (-2147483648 ≤ f + t ∧ f + t ≤ 2147483647) ∧ (-2147483648 ≤ (f + t) ∧ (f + t) ≤ 2147483647) ∧ ∀ t4 : Int, t4 = (f + t) / 2 → post (some (.inl (t4))) W))) ∧ (¬ t2 ≤ 0 → (-2147483648 ≤ t - 1 ∧ t - 1 ≤ 2147483647) ∧ (0 ≤ (t - 1) ∧ (t - 1) < 64) ∧ ((W.2.1 35 (t - 1)) = t1 → (-2147483648 ≤ f + t ∧ f + t ≤ 2147483647) ∧ (-2147483648 ≤ (f + t) ∧ (f + t) ≤ 2147483647) ∧ ∀ t5 : Int, t5 = (f + t) / 2 → post (some (.inl (t5))) W) ∧ (¬ (W.2.1 35 (t - 1)) = t1 → (0 ≤ t ∧ t ≤ 2147483647) ∧ ∀ t6 : Int, t6 = t % 8 → (7 ≤ t6 → post (some (.inl (-1))) W) ∧ (¬ 7 ≤ t6 → (-2147483648 ≤ t + 1 ∧ t + 1 ≤ 2147483647) ∧ (0 ≤ (t + 1) ∧ (t + 1) < 64) ∧ (¬ (W.2.1 35 (t + 1)) = t1 → post (some (.inl (-1))) W) ∧ ((W.2.1 35 (t + 1)) = t1 → (-2147483648 ≤ f + t ∧ f + t ≤ 2147483647) ∧ (-2147483648 ≤ (f + t) ∧ (f + t) ≤ 2147483647) ∧ ∀ t7 : Int, t7 = (f + t) / 2 → post (some (.inl (t7))) W))))) ∧ (¬ (t - f) = 16 → (-2147483648 ≤ f - t ∧ f - t ≤ 2147483647) ∧ ((f - t) = 16 → (-2147483648 ≤ 1 - (W.1 34 2) ∧ 1 - (W.1 34 2) ≤ 2147483647) ∧ (0 ≤ (1 - (W.1 34 2)) ∧ (1 - (W.1 34 2)) * 8 ≤ 2147483647) ∧ ∀ t8 : Int, t8 = (1 - (W.1 34 2)) * 8 → (0 ≤ t8 ∧ t8 ≤ 2147483647 ∧ t8 % 2 = 0 ∧ 0 ≤ (1 : Int) ∧ (1 : Int) < 2) ∧ ∀ t9 : Int, t9 = t8 + 1 → (0 ≤ t ∧ t ≤ 2147483647) ∧ ∀ t10 : Int, t10 = t % 8 → (t10 ≤ 0 → (0 ≤ t ∧ t ≤ 2147483647) ∧ ∀ t11 : Int, t11 = t % 8 → (7 ≤ t11 → post (some (.inl (-1))) W) ∧ (¬ 7 ≤ t11 → (-2147483648 ≤ t + 1 ∧ t + 1 ≤ 2147483647) ∧ (0 ≤ (t + 1) ∧ (t + 1) < 64) ∧ (¬ (W.2.1 35 (t + 1)) = t9 → post (some (.inl (-1))) W) ∧ ((W.2.1 35 (t + 1)) = t9 → (-2147483648 ≤ f + t ∧ f + t ≤ 2147483647) ∧ (-2147483648 ≤ (f + t) ∧ (f + t) ≤ 2147483647) ∧ ∀ t12 : Int, t12 = (f + t) / 2 → post (some (.inl (t12))) W))) ∧ (¬ t10 ≤ 0 → (-2147483648 ≤ t - 1 ∧ t - 1 ≤ 2147483647) ∧ (0 ≤ (t - 1) ∧ (t - 1) < 64) ∧ ((W.2.1 35 (t - 1)) = t9 → (-2147483648 ≤ f + t ∧ f + t ≤ 2147483647) ∧ (-2147483648 ≤ (f + t) ∧ (f + t) ≤ 2147483647) ∧ ∀ t13 : Int, t13 = (f + t) / 2 → post (some (.inl (t13))) W) ∧ (¬ (W.2.1 35 (t - 1)) = t9 → (0 ≤ t ∧ t ≤ 2147483647) ∧ ∀ t14 : Int, t14 = t % 8 → (7 ≤ t14 → post (some (.inl (-1))) W) ∧ (¬ 7 ≤ t14 → (-2147483648 ≤ t + 1 ∧ t + 1 ≤ 2147483647) ∧ (0 ≤ (t + 1) ∧ (t + 1) < 64) ∧ (¬ (W.2.1 35 (t + 1)) = t9 → post (some (.inl (-1))) W) ∧ ((W.2.1 35 (t + 1)) = t9 → (-2147483648 ≤ f + t ∧ f + t ≤ 2147483647) ∧ (-2147483648 ≤ (f + t) ∧ (f + t) ≤ 2147483647) ∧ ∀ t15 : Int, t15 = (f + t) / 2 → post (some (.inl (t15))) W))))) ∧ (¬ (f - t) = 16 → post (some (.inl (-1))) W))) : zwp jtb zsh n zm_BOpby34 post K (lGo ak_ZBOpby34 0) 0 [some (.inr (.inr (some (.inl 34)))), some (.inl (f)), some (.inl (t)), u3, u4] [] W := by
  obtain ⟨kk__, rfl⟩ : ∃ kk__, K = kk__ + 56 := ⟨K - 56, by omega⟩
  exact (show (-2147483648 ≤ t - f ∧ t - f ≤ 2147483647) ∧ ((t - f) = 16 → 34 < n ∧ 10 = 10 ∧ (-2147483648 ≤ 1 - (W.1 34 2) ∧ 1 - (W.1 34 2) ≤ 2147483647) ∧ (((lI t &&& lI 7).toInt) ≤ 0 → (7 ≤ ((lI t &&& lI 7).toInt) → ((0 : Int) = 0 → 1 = 1 ∧ True ∧ post (some (.inl (-1))) W) ∧ (¬ (0 : Int) = 0 → zwp jtb zsh n zm_BOpby34 post (kk__ + 29) (lGo ak_ZBOpby34 81) 81 [some (.inr (.inr (some (.inl 34)))), some (.inl (f)), some (.inl (t)), some (.inl (((lI ((lI (1 - (W.1 34 2)) <<< (lI 3 &&& 31)).toInt) ||| lI 1).toInt))), some (.inl (0))] [] W)) ∧ (¬ 7 ≤ ((lI t &&& lI 7).toInt) → 34 < n ∧ 10 = 10 ∧ (-2147483648 ≤ t + 1 ∧ t + 1 ≤ 2147483647) ∧ 35 < n ∧ FieldType.int = FieldType.int ∧ (0 ≤ (t + 1) ∧ (t + 1) < 64) ∧ (¬ (W.2.1 35 (t + 1)) = ((lI ((lI (1 - (W.1 34 2)) <<< (lI 3 &&& 31)).toInt) ||| lI 1).toInt) → ((0 : Int) = 0 → 1 = 1 ∧ True ∧ post (some (.inl (-1))) W) ∧ (¬ (0 : Int) = 0 → zwp jtb zsh n zm_BOpby34 post (kk__ + 21) (lGo ak_ZBOpby34 81) 81 [some (.inr (.inr (some (.inl 34)))), some (.inl (f)), some (.inl (t)), some (.inl (((lI ((lI (1 - (W.1 34 2)) <<< (lI 3 &&& 31)).toInt) ||| lI 1).toInt))), some (.inl (0))] [] W)) ∧ ((W.2.1 35 (t + 1)) = ((lI ((lI (1 - (W.1 34 2)) <<< (lI 3 &&& 31)).toInt) ||| lI 1).toInt) → ((1 : Int) = 0 → zwp jtb zsh n zm_BOpby34 post (kk__ + 20) (lGo ak_ZBOpby34 89) 89 [some (.inr (.inr (some (.inl 34)))), some (.inl (f)), some (.inl (t)), some (.inl (((lI ((lI (1 - (W.1 34 2)) <<< (lI 3 &&& 31)).toInt) ||| lI 1).toInt))), some (.inl (1))] [] W) ∧ (¬ (1 : Int) = 0 → (-2147483648 ≤ f + t ∧ f + t ≤ 2147483647) ∧ 1 = 1 ∧ True ∧ post (some (.inl (((lI (f + t) >>> (lI 1 &&& 31)).toInt)))) W)))) ∧ (¬ ((lI t &&& lI 7).toInt) ≤ 0 → 34 < n ∧ 10 = 10 ∧ (-2147483648 ≤ t - 1 ∧ t - 1 ≤ 2147483647) ∧ 35 < n ∧ FieldType.int = FieldType.int ∧ (0 ≤ (t - 1) ∧ (t - 1) < 64) ∧ ((W.2.1 35 (t - 1)) = ((lI ((lI (1 - (W.1 34 2)) <<< (lI 3 &&& 31)).toInt) ||| lI 1).toInt) → ((1 : Int) = 0 → zwp jtb zsh n zm_BOpby34 post (kk__ + 25) (lGo ak_ZBOpby34 89) 89 [some (.inr (.inr (some (.inl 34)))), some (.inl (f)), some (.inl (t)), some (.inl (((lI ((lI (1 - (W.1 34 2)) <<< (lI 3 &&& 31)).toInt) ||| lI 1).toInt))), some (.inl (1))] [] W) ∧ (¬ (1 : Int) = 0 → (-2147483648 ≤ f + t ∧ f + t ≤ 2147483647) ∧ 1 = 1 ∧ True ∧ post (some (.inl (((lI (f + t) >>> (lI 1 &&& 31)).toInt)))) W)) ∧ (¬ (W.2.1 35 (t - 1)) = ((lI ((lI (1 - (W.1 34 2)) <<< (lI 3 &&& 31)).toInt) ||| lI 1).toInt) → (7 ≤ ((lI t &&& lI 7).toInt) → ((0 : Int) = 0 → 1 = 1 ∧ True ∧ post (some (.inl (-1))) W) ∧ (¬ (0 : Int) = 0 → zwp jtb zsh n zm_BOpby34 post (kk__ + 21) (lGo ak_ZBOpby34 81) 81 [some (.inr (.inr (some (.inl 34)))), some (.inl (f)), some (.inl (t)), some (.inl (((lI ((lI (1 - (W.1 34 2)) <<< (lI 3 &&& 31)).toInt) ||| lI 1).toInt))), some (.inl (0))] [] W)) ∧ (¬ 7 ≤ ((lI t &&& lI 7).toInt) → 34 < n ∧ 10 = 10 ∧ (-2147483648 ≤ t + 1 ∧ t + 1 ≤ 2147483647) ∧ 35 < n ∧ FieldType.int = FieldType.int ∧ (0 ≤ (t + 1) ∧ (t + 1) < 64) ∧ (¬ (W.2.1 35 (t + 1)) = ((lI ((lI (1 - (W.1 34 2)) <<< (lI 3 &&& 31)).toInt) ||| lI 1).toInt) → ((0 : Int) = 0 → 1 = 1 ∧ True ∧ post (some (.inl (-1))) W) ∧ (¬ (0 : Int) = 0 → zwp jtb zsh n zm_BOpby34 post (kk__ + 13) (lGo ak_ZBOpby34 81) 81 [some (.inr (.inr (some (.inl 34)))), some (.inl (f)), some (.inl (t)), some (.inl (((lI ((lI (1 - (W.1 34 2)) <<< (lI 3 &&& 31)).toInt) ||| lI 1).toInt))), some (.inl (0))] [] W)) ∧ ((W.2.1 35 (t + 1)) = ((lI ((lI (1 - (W.1 34 2)) <<< (lI 3 &&& 31)).toInt) ||| lI 1).toInt) → ((1 : Int) = 0 → zwp jtb zsh n zm_BOpby34 post (kk__ + 12) (lGo ak_ZBOpby34 89) 89 [some (.inr (.inr (some (.inl 34)))), some (.inl (f)), some (.inl (t)), some (.inl (((lI ((lI (1 - (W.1 34 2)) <<< (lI 3 &&& 31)).toInt) ||| lI 1).toInt))), some (.inl (1))] [] W) ∧ (¬ (1 : Int) = 0 → (-2147483648 ≤ f + t ∧ f + t ≤ 2147483647) ∧ 1 = 1 ∧ True ∧ post (some (.inl (((lI (f + t) >>> (lI 1 &&& 31)).toInt)))) W)))))) ∧ (¬ (t - f) = 16 → (-2147483648 ≤ f - t ∧ f - t ≤ 2147483647) ∧ ((f - t) = 16 → 34 < n ∧ 10 = 10 ∧ (-2147483648 ≤ 1 - (W.1 34 2) ∧ 1 - (W.1 34 2) ≤ 2147483647) ∧ (((lI t &&& lI 7).toInt) ≤ 0 → (7 ≤ ((lI t &&& lI 7).toInt) → ((0 : Int) = 0 → 1 = 1 ∧ True ∧ post (some (.inl (-1))) W) ∧ (¬ (0 : Int) = 0 → zwp jtb zsh n zm_BOpby34 post (kk__ + 24) (lGo ak_ZBOpby34 81) 81 [some (.inr (.inr (some (.inl 34)))), some (.inl (f)), some (.inl (t)), some (.inl (((lI ((lI (1 - (W.1 34 2)) <<< (lI 3 &&& 31)).toInt) ||| lI 1).toInt))), some (.inl (0))] [] W)) ∧ (¬ 7 ≤ ((lI t &&& lI 7).toInt) → 34 < n ∧ 10 = 10 ∧ (-2147483648 ≤ t + 1 ∧ t + 1 ≤ 2147483647) ∧ 35 < n ∧ FieldType.int = FieldType.int ∧ (0 ≤ (t + 1) ∧ (t + 1) < 64) ∧ (¬ (W.2.1 35 (t + 1)) = ((lI ((lI (1 - (W.1 34 2)) <<< (lI 3 &&& 31)).toInt) ||| lI 1).toInt) → ((0 : Int) = 0 → 1 = 1 ∧ True ∧ post (some (.inl (-1))) W) ∧ (¬ (0 : Int) = 0 → zwp jtb zsh n zm_BOpby34 post (kk__ + 16) (lGo ak_ZBOpby34 81) 81 [some (.inr (.inr (some (.inl 34)))), some (.inl (f)), some (.inl (t)), some (.inl (((lI ((lI (1 - (W.1 34 2)) <<< (lI 3 &&& 31)).toInt) ||| lI 1).toInt))), some (.inl (0))] [] W)) ∧ ((W.2.1 35 (t + 1)) = ((lI ((lI (1 - (W.1 34 2)) <<< (lI 3 &&& 31)).toInt) ||| lI 1).toInt) → ((1 : Int) = 0 → zwp jtb zsh n zm_BOpby34 post (kk__ + 15) (lGo ak_ZBOpby34 89) 89 [some (.inr (.inr (some (.inl 34)))), some (.inl (f)), some (.inl (t)), some (.inl (((lI ((lI (1 - (W.1 34 2)) <<< (lI 3 &&& 31)).toInt) ||| lI 1).toInt))), some (.inl (1))] [] W) ∧ (¬ (1 : Int) = 0 → (-2147483648 ≤ f + t ∧ f + t ≤ 2147483647) ∧ 1 = 1 ∧ True ∧ post (some (.inl (((lI (f + t) >>> (lI 1 &&& 31)).toInt)))) W)))) ∧ (¬ ((lI t &&& lI 7).toInt) ≤ 0 → 34 < n ∧ 10 = 10 ∧ (-2147483648 ≤ t - 1 ∧ t - 1 ≤ 2147483647) ∧ 35 < n ∧ FieldType.int = FieldType.int ∧ (0 ≤ (t - 1) ∧ (t - 1) < 64) ∧ ((W.2.1 35 (t - 1)) = ((lI ((lI (1 - (W.1 34 2)) <<< (lI 3 &&& 31)).toInt) ||| lI 1).toInt) → ((1 : Int) = 0 → zwp jtb zsh n zm_BOpby34 post (kk__ + 20) (lGo ak_ZBOpby34 89) 89 [some (.inr (.inr (some (.inl 34)))), some (.inl (f)), some (.inl (t)), some (.inl (((lI ((lI (1 - (W.1 34 2)) <<< (lI 3 &&& 31)).toInt) ||| lI 1).toInt))), some (.inl (1))] [] W) ∧ (¬ (1 : Int) = 0 → (-2147483648 ≤ f + t ∧ f + t ≤ 2147483647) ∧ 1 = 1 ∧ True ∧ post (some (.inl (((lI (f + t) >>> (lI 1 &&& 31)).toInt)))) W)) ∧ (¬ (W.2.1 35 (t - 1)) = ((lI ((lI (1 - (W.1 34 2)) <<< (lI 3 &&& 31)).toInt) ||| lI 1).toInt) → (7 ≤ ((lI t &&& lI 7).toInt) → ((0 : Int) = 0 → 1 = 1 ∧ True ∧ post (some (.inl (-1))) W) ∧ (¬ (0 : Int) = 0 → zwp jtb zsh n zm_BOpby34 post (kk__ + 16) (lGo ak_ZBOpby34 81) 81 [some (.inr (.inr (some (.inl 34)))), some (.inl (f)), some (.inl (t)), some (.inl (((lI ((lI (1 - (W.1 34 2)) <<< (lI 3 &&& 31)).toInt) ||| lI 1).toInt))), some (.inl (0))] [] W)) ∧ (¬ 7 ≤ ((lI t &&& lI 7).toInt) → 34 < n ∧ 10 = 10 ∧ (-2147483648 ≤ t + 1 ∧ t + 1 ≤ 2147483647) ∧ 35 < n ∧ FieldType.int = FieldType.int ∧ (0 ≤ (t + 1) ∧ (t + 1) < 64) ∧ (¬ (W.2.1 35 (t + 1)) = ((lI ((lI (1 - (W.1 34 2)) <<< (lI 3 &&& 31)).toInt) ||| lI 1).toInt) → ((0 : Int) = 0 → 1 = 1 ∧ True ∧ post (some (.inl (-1))) W) ∧ (¬ (0 : Int) = 0 → zwp jtb zsh n zm_BOpby34 post (kk__ + 8) (lGo ak_ZBOpby34 81) 81 [some (.inr (.inr (some (.inl 34)))), some (.inl (f)), some (.inl (t)), some (.inl (((lI ((lI (1 - (W.1 34 2)) <<< (lI 3 &&& 31)).toInt) ||| lI 1).toInt))), some (.inl (0))] [] W)) ∧ ((W.2.1 35 (t + 1)) = ((lI ((lI (1 - (W.1 34 2)) <<< (lI 3 &&& 31)).toInt) ||| lI 1).toInt) → ((1 : Int) = 0 → zwp jtb zsh n zm_BOpby34 post (kk__ + 7) (lGo ak_ZBOpby34 89) 89 [some (.inr (.inr (some (.inl 34)))), some (.inl (f)), some (.inl (t)), some (.inl (((lI ((lI (1 - (W.1 34 2)) <<< (lI 3 &&& 31)).toInt) ||| lI 1).toInt))), some (.inl (1))] [] W) ∧ (¬ (1 : Int) = 0 → (-2147483648 ≤ f + t ∧ f + t ≤ 2147483647) ∧ 1 = 1 ∧ True ∧ post (some (.inl (((lI (f + t) >>> (lI 1 &&& 31)).toInt)))) W)))))) ∧ (¬ (f - t) = 16 → 1 = 1 ∧ True ∧ post (some (.inl (-1))) W)) from ⟨(h).1, ⟨fun c5_4 => ⟨(Nat.lt_of_lt_of_le (by decide) hn), rfl, ⟨((((h).2).1 c5_4)).1, (have h := ((((((h).2).1 c5_4)).2).2 _ (z_sl3 (((((h).2).1 c5_4)).2).1)); (have h := ((((h).2 _ (z_or1 (h).1))).2 _ (z_an7 (((h).2 _ (z_or1 (h).1))).1)); ⟨fun c33_17 => (have h := ((((h).1 c33_17)).2 _ (z_an7 (((h).1 c33_17)).1)); ⟨fun c54_22 => ⟨fun _ => ⟨rfl, trivial, ((h).1 c54_22)⟩, fun hc26 => absurd hc26 (by decide)⟩, fun c54_22 => ⟨(Nat.lt_of_lt_of_le (by decide) hn), rfl, ⟨(((h).2 c54_22)).1, ⟨(Nat.lt_of_lt_of_le (by decide) hn), rfl, ((((h).2 c54_22)).2).1, ⟨fun c66_30 => (have h := ((((((h).2 c54_22)).2).2).1 c66_30); ⟨fun _ => ⟨rfl, trivial, h⟩, fun hc34 => absurd hc34 (by decide)⟩), fun c66_30 => (have h := ((((((h).2 c54_22)).2).2).2 c66_30); ⟨fun hc35 => absurd hc35 (by decide), fun _ => ⟨(h).1, (have h := (((h).2).2 _ (z_sr1 ((h).2).1)); ⟨rfl, trivial, h⟩)⟩⟩)⟩⟩⟩⟩⟩), fun c33_17 => ⟨(Nat.lt_of_lt_of_le (by decide) hn), rfl, ⟨(((h).2 c33_17)).1, ⟨(Nat.lt_of_lt_of_le (by decide) hn), rfl, ((((h).2 c33_17)).2).1, ⟨fun c45_25 => (have h := ((((((h).2 c33_17)).2).2).1 c45_25); ⟨fun hc30 => absurd hc30 (by decide), fun _ => ⟨(h).1, (have h := (((h).2).2 _ (z_sr1 ((h).2).1)); ⟨rfl, trivial, h⟩)⟩⟩), fun c45_25 => (have h := ((((((h).2 c33_17)).2).2).2 c45_25); ⟨fun c54_30 => (have h := ((((h).2 _ (z_an7 (h).1))).1 c54_30); ⟨fun _ => ⟨rfl, trivial, h⟩, fun hc34 => absurd hc34 (by decide)⟩), fun c54_30 => (have h := ((((h).2 _ (z_an7 (h).1))).2 c54_30); ⟨(Nat.lt_of_lt_of_le (by decide) hn), rfl, ⟨(h).1, ⟨(Nat.lt_of_lt_of_le (by decide) hn), rfl, ((h).2).1, ⟨fun c66_38 => ⟨fun _ => ⟨rfl, trivial, ((((h).2).2).1 c66_38)⟩, fun hc42 => absurd hc42 (by decide)⟩, fun c66_38 => ⟨fun hc43 => absurd hc43 (by decide), fun _ => ⟨(((((h).2).2).2 c66_38)).1, (have h := (((((h).2).2).2 c66_38)).2; ⟨rfl, trivial, ((h).2 _ (z_sr1 (h).1))⟩)⟩⟩⟩⟩⟩⟩)⟩)⟩⟩⟩⟩⟩))⟩⟩, fun c5_4 => ⟨((((h).2).2 c5_4)).1, ⟨fun c13_9 => (have h := ((((((h).2).2 c5_4)).2).1 c13_9); ⟨(Nat.lt_of_lt_of_le (by decide) hn), rfl, ⟨(h).1, (have h := (((h).2).2 _ (z_sl3 ((h).2).1)); (have h := ((((h).2 _ (z_or1 (h).1))).2 _ (z_an7 (((h).2 _ (z_or1 (h).1))).1)); ⟨fun c33_22 => (have h := ((((h).1 c33_22)).2 _ (z_an7 (((h).1 c33_22)).1)); ⟨fun c54_27 => ⟨fun _ => ⟨rfl, trivial, ((h).1 c54_27)⟩, fun hc31 => absurd hc31 (by decide)⟩, fun c54_27 => ⟨(Nat.lt_of_lt_of_le (by decide) hn), rfl, ⟨(((h).2 c54_27)).1, ⟨(Nat.lt_of_lt_of_le (by decide) hn), rfl, ((((h).2 c54_27)).2).1, ⟨fun c66_35 => (have h := ((((((h).2 c54_27)).2).2).1 c66_35); ⟨fun _ => ⟨rfl, trivial, h⟩, fun hc39 => absurd hc39 (by decide)⟩), fun c66_35 => (have h := ((((((h).2 c54_27)).2).2).2 c66_35); ⟨fun hc40 => absurd hc40 (by decide), fun _ => ⟨(h).1, (have h := (((h).2).2 _ (z_sr1 ((h).2).1)); ⟨rfl, trivial, h⟩)⟩⟩)⟩⟩⟩⟩⟩), fun c33_22 => ⟨(Nat.lt_of_lt_of_le (by decide) hn), rfl, ⟨(((h).2 c33_22)).1, ⟨(Nat.lt_of_lt_of_le (by decide) hn), rfl, ((((h).2 c33_22)).2).1, ⟨fun c45_30 => (have h := ((((((h).2 c33_22)).2).2).1 c45_30); ⟨fun hc35 => absurd hc35 (by decide), fun _ => ⟨(h).1, (have h := (((h).2).2 _ (z_sr1 ((h).2).1)); ⟨rfl, trivial, h⟩)⟩⟩), fun c45_30 => (have h := ((((((h).2 c33_22)).2).2).2 c45_30); ⟨fun c54_35 => (have h := ((((h).2 _ (z_an7 (h).1))).1 c54_35); ⟨fun _ => ⟨rfl, trivial, h⟩, fun hc39 => absurd hc39 (by decide)⟩), fun c54_35 => (have h := ((((h).2 _ (z_an7 (h).1))).2 c54_35); ⟨(Nat.lt_of_lt_of_le (by decide) hn), rfl, ⟨(h).1, ⟨(Nat.lt_of_lt_of_le (by decide) hn), rfl, ((h).2).1, ⟨fun c66_43 => ⟨fun _ => ⟨rfl, trivial, ((((h).2).2).1 c66_43)⟩, fun hc47 => absurd hc47 (by decide)⟩, fun c66_43 => ⟨fun hc48 => absurd hc48 (by decide), fun _ => ⟨(((((h).2).2).2 c66_43)).1, (have h := (((((h).2).2).2 c66_43)).2; ⟨rfl, trivial, ((h).2 _ (z_sr1 (h).1))⟩)⟩⟩⟩⟩⟩⟩)⟩)⟩⟩⟩⟩⟩))⟩⟩), fun c13_9 => (have h := ((((((h).2).2 c5_4)).2).2 c13_9); ⟨rfl, trivial, h⟩)⟩⟩⟩⟩)
theorem zk_BOpby34 {l : Launch} {E : jE} {n : Nat} (hn : 142 ≤ n) : zHas l E jcl jtb lw_tbl zsh n (y_BO_passedBy, false, 3, 10, { frames := 0, cells := 0, slots := 0, locals := 0 }, zc_BOpby34) := by
  refine ⟨⟨rfl, rfl, ⟨show 1 ≤ 3 by decide, m_BO_passedBy, i_BO_passedBy, e_BO_passedBy, fun _ => ⟨_, rfl, rfl⟩⟩⟩, ?_⟩
  rintro vz W po hO hW ⟨f, t, rfl, hq, hp⟩
  refine zmet (m := zm_BOpby34) rfl (by decide) (fun _ _ => jtF_ok) lo_BO ao_ZBOpby34 jC (fun q h => by cases h) (fun q h => by cases h) (fun q h => by cases h) (Nat.le_of_ble_eq_true rfl) hO hW (120) ?_
  exact zp_BOpby34_0 (by omega) hn ⟨(by omega), ⟨fun c5 => ⟨(by omega), ⟨(by omega), fun t0 e0 => ⟨(by omega), fun t1 e1 => ⟨(by omega), fun t2 e2 => ⟨fun c33 => ⟨(by omega), fun t3 e3 => ⟨fun c54 => (hp _ (by unfold cPb; rw [if_neg (by omega)])), fun c54 => ⟨(by omega), ⟨(by omega), ⟨fun c66 => (hp _ (by unfold cPb; rw [if_neg (by omega)])), fun c66 => ⟨(by omega), ⟨(by omega), fun t4 e4 => (hp _ (by unfold cPb; rw [if_pos (by omega)]; omega))⟩⟩⟩⟩⟩⟩⟩, fun c33 => ⟨(by omega), ⟨(by omega), ⟨fun c45 => ⟨(by omega), ⟨(by omega), fun t5 e5 => (hp _ (by unfold cPb; rw [if_pos (by omega)]; omega))⟩⟩, fun c45 => ⟨(by omega), fun t6 e6 => ⟨fun c54 => (hp _ (by unfold cPb; rw [if_neg (by omega)])), fun c54 => ⟨(by omega), ⟨(by omega), ⟨fun c66 => (hp _ (by unfold cPb; rw [if_neg (by omega)])), fun c66 => ⟨(by omega), ⟨(by omega), fun t7 e7 => (hp _ (by unfold cPb; rw [if_pos (by omega)]; omega))⟩⟩⟩⟩⟩⟩⟩⟩⟩⟩⟩⟩⟩⟩⟩, fun c5 => ⟨(by omega), ⟨fun c13 => ⟨(by omega), ⟨(by omega), fun t8 e8 => ⟨(by omega), fun t9 e9 => ⟨(by omega), fun t10 e10 => ⟨fun c33 => ⟨(by omega), fun t11 e11 => ⟨fun c54 => (hp _ (by unfold cPb; rw [if_neg (by omega)])), fun c54 => ⟨(by omega), ⟨(by omega), ⟨fun c66 => (hp _ (by unfold cPb; rw [if_neg (by omega)])), fun c66 => ⟨(by omega), ⟨(by omega), fun t12 e12 => (hp _ (by unfold cPb; rw [if_pos (by omega)]; omega))⟩⟩⟩⟩⟩⟩⟩, fun c33 => ⟨(by omega), ⟨(by omega), ⟨fun c45 => ⟨(by omega), ⟨(by omega), fun t13 e13 => (hp _ (by unfold cPb; rw [if_pos (by omega)]; omega))⟩⟩, fun c45 => ⟨(by omega), fun t14 e14 => ⟨fun c54 => (hp _ (by unfold cPb; rw [if_neg (by omega)])), fun c54 => ⟨(by omega), ⟨(by omega), ⟨fun c66 => (hp _ (by unfold cPb; rw [if_neg (by omega)])), fun c66 => ⟨(by omega), ⟨(by omega), fun t15 e15 => (hp _ (by unfold cPb; rw [if_pos (by omega)]; omega))⟩⟩⟩⟩⟩⟩⟩⟩⟩⟩⟩⟩⟩⟩⟩, fun c13 => (hp _ (by unfold cPb; rw [if_neg (by omega)]))⟩⟩⟩⟩
theorem ql_BO_132 : jlm lw_tbl 1286 "ChessHouse$Board" 132 ⟨"ChessHouse$Board", "lift", "(I)V"⟩ = true := jlm_of (Or.inl (jtF_ok rfl))
theorem ql_BO_138 : jlm lw_tbl 1309 "ChessHouse$Board" 138 ⟨"ChessHouse$Board", "passedBy", "(II)I"⟩ = true := jlm_of (Or.inl (jtF_ok rfl))
noncomputable def ak_ZBOmak34 : List jI := [(.iload_n 1, 1, (1, 0, 0, 0, 0)), (.bipush 9, 2, (0, 0, 0, 9, 0)), (.ishr, 1, (0, 0, 0, 0, 0)), (.istore_n 2, 1, (2, 0, 0, 0, 0)), (.iload_n 1, 1, (1, 0, 0, 0, 0)), (.iconst 3, 1, (0, 0, 0, 3, 0)), (.ishr, 1, (0, 0, 0, 0, 0)), (.bipush 63, 2, (0, 0, 0, 63, 0)), (.iand, 1, (0, 0, 0, 0, 0)), (.istore_n 3, 1, (3, 0, 0, 0, 0)), (.iload_n 1, 1, (1, 0, 0, 0, 0)), (.bipush 7, 2, (0, 0, 0, 7, 0)), (.iand, 1, (0, 0, 0, 0, 0)), (.istore 4, 2, (4, 0, 0, 0, 0)), (.aload_n 0, 1, (0, 0, 0, 0, 0)), (.getfield 7, 3, (10, 0, 660, 0, 0)), (.iload_n 2, 1, (2, 0, 0, 0, 0)), (.iaload, 1, (0, 0, 0, 0, 0)), (.istore 5, 2, (5, 0, 0, 0, 0)), (.iload 5, 2, (5, 0, 0, 0, 0)), (.bipush 7, 2, (0, 0, 0, 7, 0)), (.iand, 1, (0, 0, 0, 0, 0)), (.istore 6, 2, (6, 0, 0, 0, 0)), (.iload 6, 2, (6, 0, 0, 0, 0)), (.iconst 1, 1, (0, 0, 0, 1, 0)), (.if_icmp .ne 18, 3, (54, 0, 0, 0, 0)), (.iload_n 3, 1, (3, 0, 0, 0, 0)), (.aload_n 0, 1, (0, 0, 0, 0, 0)), (.getfield 84, 3, (10, 4, 670, 0, 0)), (.if_icmp .ne 10, 3, (54, 0, 0, 0, 0)), (.aload_n 0, 1, (0, 0, 0, 0, 0)), (.invokevirtual 125, 3, (0, 0, 1179, 0, 0)), (.goto 4, 3, (55, 0, 0, 0, 0)), (.iload_n 3, 1, (3, 0, 0, 0, 0)), (.istore 7, 2, (7, 0, 0, 0, 0)), (.aload_n 0, 1, (0, 0, 0, 0, 0)), (.getfield 7, 3, (10, 0, 660, 0, 0)), (.iload 7, 2, (7, 0, 0, 0, 0)), (.iaload, 1, (0, 0, 0, 0, 0)), (.istore 8, 2, (8, 0, 0, 0, 0)), (.iload 8, 2, (8, 0, 0, 0, 0)), (.aload_n 0, 1, (0, 0, 0, 0, 0)), (.getfield 81, 3, (10, 3, 669, 0, 0)), (.iconst 4, 1, (0, 0, 0, 4, 0)), (.ishl, 1, (0, 0, 0, 0, 0)), (.ior, 1, (0, 0, 0, 0, 0)), (.aload_n 0, 1, (0, 0, 0, 0, 0)), (.getfield 84, 3, (10, 4, 670, 0, 0)), (.iconst 1, 1, (0, 0, 0, 1, 0)), (.iadd, 1, (0, 0, 0, 0, 0)), (.bipush 8, 2, (0, 0, 0, 8, 0)), (.ishl, 1, (0, 0, 0, 0, 0)), (.ior, 1, (0, 0, 0, 0, 0)), (.i2l, 1, (0, 0, 0, 0, 0)), (.aload_n 0, 1, (0, 0, 0, 0, 0)), (.getfield 87, 3, (10, 5, 671, 0, 0)), (.i2l, 1, (0, 0, 0, 0, 0)), (.bipush 16, 2, (0, 0, 0, 16, 0)), (.lshl, 1, (0, 0, 0, 0, 0)), (.lor, 1, (0, 0, 0, 0, 0)), (.lstore 9, 2, (9, 0, 0, 0, 0)), (.aload_n 0, 1, (0, 0, 0, 0, 0)), (.iload_n 2, 1, (2, 0, 0, 0, 0)), (.invokevirtual 132, 3, (1, 0, 1286, 0, 0)), (.iload 8, 2, (8, 0, 0, 0, 0)), (.ifCond .eq 9, 3, (113, 0, 0, 0, 0)), (.aload_n 0, 1, (0, 0, 0, 0, 0)), (.iload 7, 2, (7, 0, 0, 0, 0)), (.invokevirtual 132, 3, (1, 0, 1286, 0, 0)), (.aload_n 0, 1, (0, 0, 0, 0, 0)), (.iload_n 3, 1, (3, 0, 0, 0, 0)), (.iload 4, 2, (4, 0, 0, 0, 0)), (.ifCond .ne 8, 3, (125, 0, 0, 0, 0)), (.iload 5, 2, (5, 0, 0, 0, 0)), (.goto 11, 3, (133, 0, 0, 0, 0)), (.iload 5, 2, (5, 0, 0, 0, 0)), (.bipush 8, 2, (0, 0, 0, 8, 0)), (.iand, 1, (0, 0, 0, 0, 0)), (.iload 4, 2, (4, 0, 0, 0, 0)), (.ior, 1, (0, 0, 0, 0, 0)), (.invokevirtual 102, 3, (2, 0, 656, 0, 0)), (.iload 6, 2, (6, 0, 0, 0, 0)), (.bipush 6, 2, (0, 0, 0, 6, 0)), (.if_icmp .ne 35, 3, (175, 0, 0, 0, 0)), (.iload_n 3, 1, (3, 0, 0, 0, 0)), (.iload_n 2, 1, (2, 0, 0, 0, 0)), (.isub, 1, (0, 0, 0, 0, 0)), (.iconst 2, 1, (0, 0, 0, 2, 0)), (.if_icmp .ne 28, 3, (175, 0, 0, 0, 0)), (.aload_n 0, 1, (0, 0, 0, 0, 0)), (.iload_n 2, 1, (2, 0, 0, 0, 0)), (.iconst 3, 1, (0, 0, 0, 3, 0)), (.iadd, 1, (0, 0, 0, 0, 0)), (.invokevirtual 132, 3, (1, 0, 1286, 0, 0)), (.aload_n 0, 1, (0, 0, 0, 0, 0)), (.iload_n 2, 1, (2, 0, 0, 0, 0)), (.iconst 1, 1, (0, 0, 0, 1, 0)), (.iadd, 1, (0, 0, 0, 0, 0)), (.aload_n 0, 1, (0, 0, 0, 0, 0)), (.getfield 77, 3, (10, 2, 667, 0, 0)), (.iconst 3, 1, (0, 0, 0, 3, 0)), (.ishl, 1, (0, 0, 0, 0, 0)), (.iconst 4, 1, (0, 0, 0, 4, 0)), (.ior, 1, (0, 0, 0, 0, 0)), (.invokevirtual 102, 3, (2, 0, 656, 0, 0)), (.goto 39, 3, (211, 0, 0, 0, 0)), (.iload 6, 2, (6, 0, 0, 0, 0)), (.bipush 6, 2, (0, 0, 0, 6, 0)), (.if_icmp .ne 32, 3, (211, 0, 0, 0, 0)), (.iload_n 2, 1, (2, 0, 0, 0, 0)), (.iload_n 3, 1, (3, 0, 0, 0, 0)), (.isub, 1, (0, 0, 0, 0, 0)), (.iconst 2, 1, (0, 0, 0, 2, 0)), (.if_icmp .ne 25, 3, (211, 0, 0, 0, 0)), (.aload_n 0, 1, (0, 0, 0, 0, 0)), (.iload_n 2, 1, (2, 0, 0, 0, 0)), (.iconst 4, 1, (0, 0, 0, 4, 0)), (.isub, 1, (0, 0, 0, 0, 0)), (.invokevirtual 132, 3, (1, 0, 1286, 0, 0)), (.aload_n 0, 1, (0, 0, 0, 0, 0)), (.iload_n 2, 1, (2, 0, 0, 0, 0)), (.iconst 1, 1, (0, 0, 0, 1, 0)), (.isub, 1, (0, 0, 0, 0, 0)), (.aload_n 0, 1, (0, 0, 0, 0, 0)), (.getfield 77, 3, (10, 2, 667, 0, 0)), (.iconst 3, 1, (0, 0, 0, 3, 0)), (.ishl, 1, (0, 0, 0, 0, 0)), (.iconst 4, 1, (0, 0, 0, 4, 0)), (.ior, 1, (0, 0, 0, 0, 0)), (.invokevirtual 102, 3, (2, 0, 656, 0, 0)), (.aload_n 0, 1, (0, 0, 0, 0, 0)), (.dup, 1, (0, 0, 0, 0, 0)), (.getfield 81, 3, (10, 3, 669, 0, 0)), (.getstatic 135, 3, (4, 0, 1307, 0, 0)), (.iload_n 2, 1, (2, 0, 0, 0, 0)), (.iaload, 1, (0, 0, 0, 0, 0)), (.getstatic 135, 3, (4, 0, 1307, 0, 0)), (.iload_n 3, 1, (3, 0, 0, 0, 0)), (.iaload, 1, (0, 0, 0, 0, 0)), (.iand, 1, (0, 0, 0, 0, 0)), (.iand, 1, (0, 0, 0, 0, 0)), (.putfield 81, 3, (10, 3, 669, 0, 0)), (.aload_n 0, 1, (0, 0, 0, 0, 0)), (.iload 6, 2, (6, 0, 0, 0, 0)), (.iconst 1, 1, (0, 0, 0, 1, 0)), (.if_icmp .ne 12, 3, (247, 0, 0, 0, 0)), (.aload_n 0, 1, (0, 0, 0, 0, 0)), (.iload_n 2, 1, (2, 0, 0, 0, 0)), (.iload_n 3, 1, (3, 0, 0, 0, 0)), (.invokevirtual 138, 3, (3, 0, 1309, 0, 0)), (.goto 4, 3, (248, 0, 0, 0, 0)), (.iconst (-1), 1, (0, 0, 0, (-1), 0)), (.putfield 84, 3, (10, 4, 670, 0, 0)), (.aload_n 0, 1, (0, 0, 0, 0, 0)), (.iload 6, 2, (6, 0, 0, 0, 0)), (.iconst 1, 1, (0, 0, 0, 1, 0)), (.if_icmp .eq 8, 3, (263, 0, 0, 0, 0)), (.iload 8, 2, (8, 0, 0, 0, 0)), (.ifCond .eq 7, 3, (267, 0, 0, 0, 0)), (.iconst 0, 1, (0, 0, 0, 0, 0)), (.goto 9, 3, (273, 0, 0, 0, 0)), (.aload_n 0, 1, (0, 0, 0, 0, 0)), (.getfield 87, 3, (10, 5, 671, 0, 0)), (.iconst 1, 1, (0, 0, 0, 1, 0)), (.iadd, 1, (0, 0, 0, 0, 0)), (.putfield 87, 3, (10, 5, 671, 0, 0)), (.aload_n 0, 1, (0, 0, 0, 0, 0)), (.dup, 1, (0, 0, 0, 0, 0)), (.getfield 90, 3, (10, 6, 674, 0, 0)), (.aload_n 0, 1, (0, 0, 0, 0, 0)), (.getfield 77, 3, (10, 2, 667, 0, 0)), (.iadd, 1, (0, 0, 0, 0, 0)), (.putfield 90, 3, (10, 6, 674, 0, 0)), (.aload_n 0, 1, (0, 0, 0, 0, 0)), (.dup, 1, (0, 0, 0, 0, 0)), (.getfield 77, 3, (10, 2, 667, 0, 0)), (.iconst 1, 1, (0, 0, 0, 1, 0)), (.ixor, 1, (0, 0, 0, 0, 0)), (.putfield 77, 3, (10, 2, 667, 0, 0)), (.lload 9, 2, (9, 0, 0, 0, 0)), (.lreturn, 1, (0, 0, 0, 0, 0))]
theorem ao_ZBOmak34 : jokLG jtF lk_BO "ChessHouse$Board" jcl jtb 11 prog_3_method_21_code 0 ak_ZBOmak34 = true := by decide +kernel
noncomputable def zm_BOmak34 : zM := (some .long, { frames := 1, cells := 0, slots := 0, locals := 24 }, ([(125, 1179, 0), (132, 1286, 1), (102, 656, 2), (138, 1309, 3)], []), [(y_BO_passedPawn, false, 1, 10, { frames := 0, cells := 0, slots := 0, locals := 0 }, zc_BOppw34), (y_BO_lift, false, 2, 10, { frames := 0, cells := 0, slots := 0, locals := 0 }, zc_BOlif34), (y_BO_put, false, 3, 10, { frames := 0, cells := 0, slots := 0, locals := 0 }, zc_BOput34), (y_BO_passedBy, false, 3, 10, { frames := 0, cells := 0, slots := 0, locals := 0 }, zc_BOpby34)], ak_ZBOmak34)
noncomputable def zc_BOmak34 (vals : List zv) (W : zW) (post : zPo) : Prop := ∃ x : Int, ∃ q : rQ, vals = [.inr (.inr (some (.inl 34))), .inl (x)] ∧ (zBo W 34 q ∧ zGd q ∧ cL q x ∧ (-1000000 ≤ W.1 34 6 ∧ W.1 34 6 ≤ 1000000) ∧ (0 ≤ W.1 34 5 ∧ W.1 34 5 ≤ 1000000)) ∧ ∀ r : Int64, ∀ V : zW, (zMx 34 W V ∧ zBo V 34 (rMk q (cMm x)) ∧ V.1 34 6 = W.1 34 6 + q.2.1 ∧ cUd r (q.1 (rWh q (cMm x))) q.2.2.1 q.2.2.2 ∧ (0 ≤ V.1 34 5 ∧ V.1 34 5 ≤ W.1 34 5 + 1) ∧ cUk r (W.1 34 5)) → post (some (.inr (.inl r))) V
set_option maxRecDepth 60000 in
theorem zp_BOmak34_0 {n K : Nat} {W : zW} {post : zPo} {x : Int} {u2 u3 u4 u5 u6 u7 u8 u9 u10 : Option zv} (hK : 14 ≤ K) (hn : 142 ≤ n) (h : (-2147483648 ≤ x ∧ x ≤ 2147483647) ∧ ∀ t0 : Int, t0 = x / 512 → (-2147483648 ≤ x ∧ x ≤ 2147483647) ∧ ∀ t1 : Int, t1 = x / 8 → (0 ≤ t1 ∧ t1 ≤ 2147483647) ∧ ∀ t2 : Int, t2 = t1 % 64 → (0 ≤ x ∧ x ≤ 2147483647) ∧ ∀ t3 : Int, t3 = x % 8 → zwp jtb zsh n zm_BOmak34 post (K - 14) (lGo ak_ZBOmak34 18) 18 [some (.inr (.inr (some (.inl 34)))), some (.inl (x)), some (.inl (t0)), some (.inl (t2)), some (.inl (t3)), u5, u6, u7, u8, u9, u10] [] W) : zwp jtb zsh n zm_BOmak34 post K (lGo ak_ZBOmak34 0) 0 [some (.inr (.inr (some (.inl 34)))), some (.inl (x)), u2, u3, u4, u5, u6, u7, u8, u9, u10] [] W := by
  obtain ⟨kk__, rfl⟩ : ∃ kk__, K = kk__ + 14 := ⟨K - 14, by omega⟩
  exact (show zwp jtb zsh n zm_BOmak34 post (kk__ + 0) (lGo ak_ZBOmak34 18) 18 [some (.inr (.inr (some (.inl 34)))), some (.inl (x)), some (.inl (((lI x >>> (lI 9 &&& 31)).toInt))), some (.inl (((lI ((lI x >>> (lI 3 &&& 31)).toInt) &&& lI 63).toInt))), some (.inl (((lI x &&& lI 7).toInt))), u5, u6, u7, u8, u9, u10] [] W from (have h := ((((h).2 _ (z_sr9 (h).1))).2 _ (z_sr3 (((h).2 _ (z_sr9 (h).1))).1)); ((((h).2 _ (z_an63 (h).1))).2 _ (z_an7 (((h).2 _ (z_an63 (h).1))).1))))
set_option maxRecDepth 60000 in
theorem zp_BOmak34_18 {n K : Nat} {W : zW} {post : zPo} {x f t bb : Int} {u5 u6 u7 u8 u9 u10 : Option zv} (hK : 20 ≤ K) (hn : 142 ≤ n) (h : (0 ≤ f ∧ f < 64) ∧ (0 ≤ (W.2.1 35 f) ∧ (W.2.1 35 f) ≤ 2147483647) ∧ ∀ t0 : Int, t0 = (W.2.1 35 f) % 8 → (¬ t0 = 1 → zwp jtb zsh n zm_BOmak34 post (K - 14) (lGo ak_ZBOmak34 57) 57 [some (.inr (.inr (some (.inl 34)))), some (.inl (x)), some (.inl (f)), some (.inl (t)), some (.inl (bb)), some (.inl (W.2.1 35 f)), some (.inl (t0)), some (.inl (t)), u8, u9, u10] [] W) ∧ (t0 = 1 → (¬ t = (W.1 34 4) → zwp jtb zsh n zm_BOmak34 post (K - 18) (lGo ak_ZBOmak34 57) 57 [some (.inr (.inr (some (.inl 34)))), some (.inl (x)), some (.inl (f)), some (.inl (t)), some (.inl (bb)), some (.inl (W.2.1 35 f)), some (.inl (t0)), some (.inl (t)), u8, u9, u10] [] W) ∧ (t = (W.1 34 4) → ((0 ≤ W.1 34 2 ∧ W.1 34 2 ≤ 1) ∧ (-100 ≤ W.1 34 4 ∧ W.1 34 4 ≤ 100)) ∧ ∀ r48 : Int, (r48 = W.1 34 4 - 8 + 16 * W.1 34 2) → zwp jtb zsh n zm_BOmak34 post (K - 20) (lGo ak_ZBOmak34 57) 57 [some (.inr (.inr (some (.inl 34)))), some (.inl (x)), some (.inl (f)), some (.inl (t)), some (.inl (bb)), some (.inl (W.2.1 35 f)), some (.inl (t0)), some (.inl (r48)), u8, u9, u10] [] W))) : zwp jtb zsh n zm_BOmak34 post K (lGo ak_ZBOmak34 18) 18 [some (.inr (.inr (some (.inl 34)))), some (.inl (x)), some (.inl (f)), some (.inl (t)), some (.inl (bb)), u5, u6, u7, u8, u9, u10] [] W := by
  obtain ⟨kk__, rfl⟩ : ∃ kk__, K = kk__ + 20 := ⟨K - 20, by omega⟩
  exact (show 34 < n ∧ 10 = 10 ∧ 35 < n ∧ FieldType.int = FieldType.int ∧ (0 ≤ f ∧ f < 64) ∧ (¬ ((lI (W.2.1 35 f) &&& lI 7).toInt) = 1 → zwp jtb zsh n zm_BOmak34 post (kk__ + 6) (lGo ak_ZBOmak34 57) 57 [some (.inr (.inr (some (.inl 34)))), some (.inl (x)), some (.inl (f)), some (.inl (t)), some (.inl (bb)), some (.inl (W.2.1 35 f)), some (.inl (((lI (W.2.1 35 f) &&& lI 7).toInt))), some (.inl (t)), u8, u9, u10] [] W) ∧ (((lI (W.2.1 35 f) &&& lI 7).toInt) = 1 → 34 < n ∧ 10 = 10 ∧ (¬ t = (W.1 34 4) → zwp jtb zsh n zm_BOmak34 post (kk__ + 2) (lGo ak_ZBOmak34 57) 57 [some (.inr (.inr (some (.inl 34)))), some (.inl (x)), some (.inl (f)), some (.inl (t)), some (.inl (bb)), some (.inl (W.2.1 35 f)), some (.inl (((lI (W.2.1 35 f) &&& lI 7).toInt))), some (.inl (t)), u8, u9, u10] [] W) ∧ (t = (W.1 34 4) → 3 = 3 ∧ false = false ∧ jin3 125 1179 0 zm_BOmak34.2.2.1.1 = true ∧ lRm zm_BOmak34.2.1 { frames := 0, cells := 0, slots := 0, locals := 0 } 1 = true ∧ Nat.ble 1 1 = true ∧ Nat.ble 0 8 = true ∧ 34 < n ∧ 10 = 10 ∧ Nat.ble 1000 10 = false ∧ zc_BOppw34 [.inr (.inr (some (.inl 34)))] W (fun vv__ WW__ => zwp jtb zsh n zm_BOmak34 post (kk__ + 2) (lGo ak_ZBOmak34 51) 51 [some (.inr (.inr (some (.inl 34)))), some (.inl (x)), some (.inl (f)), some (.inl (t)), some (.inl (bb)), some (.inl (W.2.1 35 f)), some (.inl (((lI (W.2.1 35 f) &&& lI 7).toInt))), u7, u8, u9, u10] (vv__.toList ++ []) WW__))) from ⟨(Nat.lt_of_lt_of_le (by decide) hn), rfl, ⟨(Nat.lt_of_lt_of_le (by decide) hn), rfl, (h).1, (have h := (((h).2).2 _ (z_an7 ((h).2).1)); ⟨fun c36_11 => ((h).1 c36_11), fun c36_11 => ⟨(Nat.lt_of_lt_of_le (by decide) hn), rfl, ⟨fun c44_15 => ((((h).2 c36_11)).1 c44_15), fun c44_15 => (have h := ((((h).2 c36_11)).2 c44_15); ⟨rfl, rfl, rfl, rfl, rfl, rfl, (Nat.lt_of_lt_of_le (by decide) hn), rfl, rfl, rfl, (h).1, fun r48 hr48 => (show zwp jtb zsh n zm_BOmak34 post (kk__ + 0) (lGo ak_ZBOmak34 57) 57 [some (.inr (.inr (some (.inl 34)))), some (.inl (x)), some (.inl (f)), some (.inl (t)), some (.inl (bb)), some (.inl (W.2.1 35 f)), some (.inl (((lI (W.2.1 35 f) &&& lI 7).toInt))), some (.inl (r48)), u8, u9, u10] [] W from ((h).2 r48 hr48))⟩)⟩⟩⟩)⟩⟩)
set_option maxRecDepth 60000 in
theorem zp_BOmak34_57 {n K : Nat} {W : zW} {post : zPo} {x f t bb mm kd w : Int} {u8 u9 u10 : Option zv} (hK : 34 ≤ K) (hn : 142 ≤ n) (h : (0 ≤ w ∧ w < 64) ∧ (0 ≤ (W.1 34 3) ∧ (W.1 34 3) * 16 ≤ 2147483647) ∧ ∀ t0 : Int, t0 = (W.1 34 3) * 16 → (-2147483648 ≤ (W.1 34 4) + 1 ∧ (W.1 34 4) + 1 ≤ 2147483647) ∧ (0 ≤ ((W.1 34 4) + 1) ∧ ((W.1 34 4) + 1) * 256 ≤ 2147483647) ∧ ∀ t1 : Int, t1 = ((W.1 34 4) + 1) * 256 → ((0 ≤ f ∧ f < 64) ∧ (0 ≤ W.2.1 35 f ∧ W.2.1 35 f < 16) ∧ (-1000 ≤ W.2.1 39 (W.2.1 35 f) ∧ W.2.1 39 (W.2.1 35 f) ≤ 1000)) ∧ ∀ W99 : zW, (zLi 34 W W99 f) → ((W.2.1 35 w) = 0 → zwp jtb zsh n zm_BOmak34 post (K - 31) (lGo ak_ZBOmak34 113) 113 [some (.inr (.inr (some (.inl 34)))), some (.inl (x)), some (.inl (f)), some (.inl (t)), some (.inl (bb)), some (.inl (mm)), some (.inl (kd)), some (.inl (w)), some (.inl (W.2.1 35 w)), some (.inr (.inl (((lI ((lI ((lI (W.2.1 35 w) ||| lI t0).toInt) ||| lI t1).toInt)).toInt64) ||| (((lI (W.1 34 5)).toInt64) <<< ((lI 16).toInt64 &&& 63))))), none] [] W99) ∧ (¬ (W.2.1 35 w) = 0 → ((0 ≤ w ∧ w < 64) ∧ (0 ≤ W99.2.1 35 w ∧ W99.2.1 35 w < 16) ∧ (-1000 ≤ W99.2.1 39 (W99.2.1 35 w) ∧ W99.2.1 39 (W99.2.1 35 w) ≤ 1000)) ∧ ∀ W110 : zW, (zLi 34 W99 W110 w) → zwp jtb zsh n zm_BOmak34 post (K - 34) (lGo ak_ZBOmak34 113) 113 [some (.inr (.inr (some (.inl 34)))), some (.inl (x)), some (.inl (f)), some (.inl (t)), some (.inl (bb)), some (.inl (mm)), some (.inl (kd)), some (.inl (w)), some (.inl (W.2.1 35 w)), some (.inr (.inl (((lI ((lI ((lI (W.2.1 35 w) ||| lI t0).toInt) ||| lI t1).toInt)).toInt64) ||| (((lI (W.1 34 5)).toInt64) <<< ((lI 16).toInt64 &&& 63))))), none] [] W110)) : zwp jtb zsh n zm_BOmak34 post K (lGo ak_ZBOmak34 57) 57 [some (.inr (.inr (some (.inl 34)))), some (.inl (x)), some (.inl (f)), some (.inl (t)), some (.inl (bb)), some (.inl (mm)), some (.inl (kd)), some (.inl (w)), u8, u9, u10] [] W := by
  obtain ⟨kk__, rfl⟩ : ∃ kk__, K = kk__ + 34 := ⟨K - 34, by omega⟩
  exact (show 34 < n ∧ 10 = 10 ∧ 35 < n ∧ FieldType.int = FieldType.int ∧ (0 ≤ w ∧ w < 64) ∧ 34 < n ∧ 10 = 10 ∧ 34 < n ∧ 10 = 10 ∧ (-2147483648 ≤ (W.1 34 4) + 1 ∧ (W.1 34 4) + 1 ≤ 2147483647) ∧ 34 < n ∧ 10 = 10 ∧ 3 = 3 ∧ false = false ∧ jin3 132 1286 1 zm_BOmak34.2.2.1.1 = true ∧ lRm zm_BOmak34.2.1 { frames := 0, cells := 0, slots := 0, locals := 0 } 3 = true ∧ Nat.ble 2 2 = true ∧ Nat.ble 0 8 = true ∧ 34 < n ∧ 10 = 10 ∧ Nat.ble 1000 10 = false ∧ zc_BOlif34 [.inr (.inr (some (.inl 34))), .inl (f)] W (fun vv__ WW__ => zwp jtb zsh n zm_BOmak34 post (kk__ + 5) (lGo ak_ZBOmak34 102) 102 [some (.inr (.inr (some (.inl 34)))), some (.inl (x)), some (.inl (f)), some (.inl (t)), some (.inl (bb)), some (.inl (mm)), some (.inl (kd)), some (.inl (w)), some (.inl (W.2.1 35 w)), some (.inr (.inl (((lI ((lI ((lI (W.2.1 35 w) ||| lI ((lI (W.1 34 3) <<< (lI 4 &&& 31)).toInt)).toInt) ||| lI ((lI ((W.1 34 4) + 1) <<< (lI 8 &&& 31)).toInt)).toInt)).toInt64) ||| (((lI (W.1 34 5)).toInt64) <<< ((lI 16).toInt64 &&& 63))))), none] (vv__.toList ++ []) WW__) from ⟨(Nat.lt_of_lt_of_le (by decide) hn), rfl, ⟨(Nat.lt_of_lt_of_le (by decide) hn), rfl, (h).1, ⟨(Nat.lt_of_lt_of_le (by decide) hn), rfl, (have h := (((h).2).2 _ (z_sl4 ((h).2).1)); ⟨(Nat.lt_of_lt_of_le (by decide) hn), rfl, ⟨(h).1, (have h := (((h).2).2 _ (z_sl8 ((h).2).1)); ⟨(Nat.lt_of_lt_of_le (by decide) hn), rfl, ⟨rfl, rfl, rfl, rfl, rfl, rfl, (Nat.lt_of_lt_of_le (by decide) hn), rfl, rfl, f, rfl, (h).1, fun W99 hr99 => (show ((W.2.1 35 w) = 0 → zwp jtb zsh n zm_BOmak34 post (kk__ + 3) (lGo ak_ZBOmak34 113) 113 [some (.inr (.inr (some (.inl 34)))), some (.inl (x)), some (.inl (f)), some (.inl (t)), some (.inl (bb)), some (.inl (mm)), some (.inl (kd)), some (.inl (w)), some (.inl (W.2.1 35 w)), some (.inr (.inl (((lI ((lI ((lI (W.2.1 35 w) ||| lI ((lI (W.1 34 3) <<< (lI 4 &&& 31)).toInt)).toInt) ||| lI ((lI ((W.1 34 4) + 1) <<< (lI 8 &&& 31)).toInt)).toInt)).toInt64) ||| (((lI (W.1 34 5)).toInt64) <<< ((lI 16).toInt64 &&& 63))))), none] [] W99) ∧ (¬ (W.2.1 35 w) = 0 → 3 = 3 ∧ false = false ∧ jin3 132 1286 1 zm_BOmak34.2.2.1.1 = true ∧ lRm zm_BOmak34.2.1 { frames := 0, cells := 0, slots := 0, locals := 0 } 3 = true ∧ Nat.ble 2 2 = true ∧ Nat.ble 0 8 = true ∧ 34 < n ∧ 10 = 10 ∧ Nat.ble 1000 10 = false ∧ zc_BOlif34 [.inr (.inr (some (.inl 34))), .inl (w)] W99 (fun vv__ WW__ => zwp jtb zsh n zm_BOmak34 post (kk__ + 0) (lGo ak_ZBOmak34 113) 113 [some (.inr (.inr (some (.inl 34)))), some (.inl (x)), some (.inl (f)), some (.inl (t)), some (.inl (bb)), some (.inl (mm)), some (.inl (kd)), some (.inl (w)), some (.inl (W.2.1 35 w)), some (.inr (.inl (((lI ((lI ((lI (W.2.1 35 w) ||| lI ((lI (W.1 34 3) <<< (lI 4 &&& 31)).toInt)).toInt) ||| lI ((lI ((W.1 34 4) + 1) <<< (lI 8 &&& 31)).toInt)).toInt)).toInt64) ||| (((lI (W.1 34 5)).toInt64) <<< ((lI 16).toInt64 &&& 63))))), none] (vv__.toList ++ []) WW__)) from ⟨fun c104_30 => ((((h).2 W99 hr99)).1 c104_30), fun c104_30 => (have h := ((((h).2 W99 hr99)).2 c104_30); ⟨rfl, rfl, rfl, rfl, rfl, rfl, (Nat.lt_of_lt_of_le (by decide) hn), rfl, rfl, w, rfl, (h).1, fun W110 hr110 => (show zwp jtb zsh n zm_BOmak34 post (kk__ + 0) (lGo ak_ZBOmak34 113) 113 [some (.inr (.inr (some (.inl 34)))), some (.inl (x)), some (.inl (f)), some (.inl (t)), some (.inl (bb)), some (.inl (mm)), some (.inl (kd)), some (.inl (w)), some (.inl (W.2.1 35 w)), some (.inr (.inl (((lI ((lI ((lI (W.2.1 35 w) ||| lI ((lI (W.1 34 3) <<< (lI 4 &&& 31)).toInt)).toInt) ||| lI ((lI ((W.1 34 4) + 1) <<< (lI 8 &&& 31)).toInt)).toInt)).toInt64) ||| (((lI (W.1 34 5)).toInt64) <<< ((lI 16).toInt64 &&& 63))))), none] [] W110 from ((h).2 W110 hr110))⟩)⟩)⟩⟩)⟩⟩)⟩⟩⟩)
set_option maxRecDepth 60000 in
theorem zp_BOmak34_113 {n K : Nat} {V : zW} {post : zPo} {x f t bb mm kd w tk : Int} {ud : Int64} {u10 : Option zv} (hK : 10 ≤ K) (hn : 142 ≤ n) (h : (¬ bb = 0 → (0 ≤ ((lI mm &&& lI 8).toInt) ∧ ((lI mm &&& lI 8).toInt) ≤ 2147483647 ∧ ((lI mm &&& lI 8).toInt) % 8 = 0 ∧ 0 ≤ bb ∧ bb < 8) ∧ ∀ t0 : Int, t0 = ((lI mm &&& lI 8).toInt) + bb → ((0 ≤ t ∧ t < 64) ∧ (0 ≤ t0 ∧ t0 < 16) ∧ (-1000 ≤ V.2.1 39 t0 ∧ V.2.1 39 t0 ≤ 1000)) ∧ ∀ W133 : zW, (zPu 34 V W133 t t0) → zwp jtb zsh n zm_BOmak34 post (K - 10) (lGo ak_ZBOmak34 136) 136 [some (.inr (.inr (some (.inl 34)))), some (.inl (x)), some (.inl (f)), some (.inl (t)), some (.inl (bb)), some (.inl (mm)), some (.inl (kd)), some (.inl (w)), some (.inl (tk)), some (.inr (.inl (ud))), u10] [] W133) ∧ (bb = 0 → ((0 ≤ t ∧ t < 64) ∧ (0 ≤ mm ∧ mm < 16) ∧ (-1000 ≤ V.2.1 39 mm ∧ V.2.1 39 mm ≤ 1000)) ∧ ∀ W133 : zW, (zPu 34 V W133 t mm) → zwp jtb zsh n zm_BOmak34 post (K - 7) (lGo ak_ZBOmak34 136) 136 [some (.inr (.inr (some (.inl 34)))), some (.inl (x)), some (.inl (f)), some (.inl (t)), some (.inl (bb)), some (.inl (mm)), some (.inl (kd)), some (.inl (w)), some (.inl (tk)), some (.inr (.inl (ud))), u10] [] W133)) : zwp jtb zsh n zm_BOmak34 post K (lGo ak_ZBOmak34 113) 113 [some (.inr (.inr (some (.inl 34)))), some (.inl (x)), some (.inl (f)), some (.inl (t)), some (.inl (bb)), some (.inl (mm)), some (.inl (kd)), some (.inl (w)), some (.inl (tk)), some (.inr (.inl (ud))), u10] [] V := by
  obtain ⟨kk__, rfl⟩ : ∃ kk__, K = kk__ + 10 := ⟨K - 10, by omega⟩
  exact (show (¬ bb = 0 → 3 = 3 ∧ false = false ∧ jin3 102 656 2 zm_BOmak34.2.2.1.1 = true ∧ lRm zm_BOmak34.2.1 { frames := 0, cells := 0, slots := 0, locals := 0 } 3 = true ∧ Nat.ble 3 3 = true ∧ Nat.ble 0 8 = true ∧ 34 < n ∧ 10 = 10 ∧ Nat.ble 1000 10 = false ∧ zc_BOput34 [.inr (.inr (some (.inl 34))), .inl (t), .inl (((lI ((lI mm &&& lI 8).toInt) ||| lI bb).toInt))] V (fun vv__ WW__ => zwp jtb zsh n zm_BOmak34 post (kk__ + 0) (lGo ak_ZBOmak34 136) 136 [some (.inr (.inr (some (.inl 34)))), some (.inl (x)), some (.inl (f)), some (.inl (t)), some (.inl (bb)), some (.inl (mm)), some (.inl (kd)), some (.inl (w)), some (.inl (tk)), some (.inr (.inl (ud))), u10] (vv__.toList ++ []) WW__)) ∧ (bb = 0 → 3 = 3 ∧ false = false ∧ jin3 102 656 2 zm_BOmak34.2.2.1.1 = true ∧ lRm zm_BOmak34.2.1 { frames := 0, cells := 0, slots := 0, locals := 0 } 3 = true ∧ Nat.ble 3 3 = true ∧ Nat.ble 0 8 = true ∧ 34 < n ∧ 10 = 10 ∧ Nat.ble 1000 10 = false ∧ zc_BOput34 [.inr (.inr (some (.inl 34))), .inl (t), .inl (mm)] V (fun vv__ WW__ => zwp jtb zsh n zm_BOmak34 post (kk__ + 3) (lGo ak_ZBOmak34 136) 136 [some (.inr (.inr (some (.inl 34)))), some (.inl (x)), some (.inl (f)), some (.inl (t)), some (.inl (bb)), some (.inl (mm)), some (.inl (kd)), some (.inl (w)), some (.inl (tk)), some (.inr (.inl (ud))), u10] (vv__.toList ++ []) WW__)) from ⟨fun c117_3 => (have h := ((((h).1 c117_3)).2 _ (z_or3 (((h).1 c117_3)).1)); ⟨rfl, rfl, rfl, rfl, rfl, rfl, (Nat.lt_of_lt_of_le (by decide) hn), rfl, rfl, t, ((lI ((lI mm &&& lI 8).toInt) ||| lI bb).toInt), rfl, (h).1, fun W133 hr133 => (show zwp jtb zsh n zm_BOmak34 post (kk__ + 0) (lGo ak_ZBOmak34 136) 136 [some (.inr (.inr (some (.inl 34)))), some (.inl (x)), some (.inl (f)), some (.inl (t)), some (.inl (bb)), some (.inl (mm)), some (.inl (kd)), some (.inl (w)), some (.inl (tk)), some (.inr (.inl (ud))), u10] [] W133 from ((h).2 W133 hr133))⟩), fun c117_3 => ⟨rfl, rfl, rfl, rfl, rfl, rfl, (Nat.lt_of_lt_of_le (by decide) hn), rfl, rfl, t, mm, rfl, (((h).2 c117_3)).1, fun W133 hr133 => (show zwp jtb zsh n zm_BOmak34 post (kk__ + 3) (lGo ak_ZBOmak34 136) 136 [some (.inr (.inr (some (.inl 34)))), some (.inl (x)), some (.inl (f)), some (.inl (t)), some (.inl (bb)), some (.inl (mm)), some (.inl (kd)), some (.inl (w)), some (.inl (tk)), some (.inr (.inl (ud))), u10] [] W133 from ((((h).2 c117_3)).2 W133 hr133))⟩⟩)
set_option maxRecDepth 60000 in
theorem zp_BOmak34_136 {n K : Nat} {V : zW} {post : zPo} {x f t bb mm kd w tk : Int} {ud : Int64} {u10 : Option zv} (hK : 32 ≤ K) (hn : 142 ≤ n) (h : (¬ kd = 6 → (¬ kd = 6 → zwp jtb zsh n zm_BOmak34 post (K - 6) (lGo ak_ZBOmak34 211) 211 [some (.inr (.inr (some (.inl 34)))), some (.inl (x)), some (.inl (f)), some (.inl (t)), some (.inl (bb)), some (.inl (mm)), some (.inl (kd)), some (.inl (w)), some (.inl (tk)), some (.inr (.inl (ud))), u10] [] V) ∧ (kd = 6 → (-2147483648 ≤ f - t ∧ f - t ≤ 2147483647) ∧ (¬ (f - t) = 2 → zwp jtb zsh n zm_BOmak34 post (K - 11) (lGo ak_ZBOmak34 211) 211 [some (.inr (.inr (some (.inl 34)))), some (.inl (x)), some (.inl (f)), some (.inl (t)), some (.inl (bb)), some (.inl (mm)), some (.inl (kd)), some (.inl (w)), some (.inl (tk)), some (.inr (.inl (ud))), u10] [] V) ∧ ((f - t) = 2 → (-2147483648 ≤ f - 4 ∧ f - 4 ≤ 2147483647) ∧ ((0 ≤ (f - 4) ∧ (f - 4) < 64) ∧ (0 ≤ V.2.1 35 (f - 4) ∧ V.2.1 35 (f - 4) < 16) ∧ (-1000 ≤ V.2.1 39 (V.2.1 35 (f - 4)) ∧ V.2.1 39 (V.2.1 35 (f - 4)) ≤ 1000)) ∧ ∀ W193 : zW, (zLi 34 V W193 (f - 4)) → (-2147483648 ≤ f - 1 ∧ f - 1 ≤ 2147483647) ∧ (0 ≤ (W193.1 34 2) ∧ (W193.1 34 2) * 8 ≤ 2147483647) ∧ ∀ t0 : Int, t0 = (W193.1 34 2) * 8 → (0 ≤ t0 ∧ t0 ≤ 2147483647 ∧ t0 % 8 = 0 ∧ 0 ≤ (4 : Int) ∧ (4 : Int) < 8) ∧ ∀ t1 : Int, t1 = t0 + 4 → ((0 ≤ (f - 1) ∧ (f - 1) < 64) ∧ (0 ≤ t1 ∧ t1 < 16) ∧ (-1000 ≤ W193.2.1 39 t1 ∧ W193.2.1 39 t1 ≤ 1000)) ∧ ∀ W208 : zW, (zPu 34 W193 W208 (f - 1) t1) → zwp jtb zsh n zm_BOmak34 post (K - 27) (lGo ak_ZBOmak34 211) 211 [some (.inr (.inr (some (.inl 34)))), some (.inl (x)), some (.inl (f)), some (.inl (t)), some (.inl (bb)), some (.inl (mm)), some (.inl (kd)), some (.inl (w)), some (.inl (tk)), some (.inr (.inl (ud))), u10] [] W208))) ∧ (kd = 6 → (-2147483648 ≤ t - f ∧ t - f ≤ 2147483647) ∧ (¬ (t - f) = 2 → (¬ kd = 6 → zwp jtb zsh n zm_BOmak34 post (K - 11) (lGo ak_ZBOmak34 211) 211 [some (.inr (.inr (some (.inl 34)))), some (.inl (x)), some (.inl (f)), some (.inl (t)), some (.inl (bb)), some (.inl (mm)), some (.inl (kd)), some (.inl (w)), some (.inl (tk)), some (.inr (.inl (ud))), u10] [] V) ∧ (kd = 6 → (-2147483648 ≤ f - t ∧ f - t ≤ 2147483647) ∧ (¬ (f - t) = 2 → zwp jtb zsh n zm_BOmak34 post (K - 16) (lGo ak_ZBOmak34 211) 211 [some (.inr (.inr (some (.inl 34)))), some (.inl (x)), some (.inl (f)), some (.inl (t)), some (.inl (bb)), some (.inl (mm)), some (.inl (kd)), some (.inl (w)), some (.inl (tk)), some (.inr (.inl (ud))), u10] [] V) ∧ ((f - t) = 2 → (-2147483648 ≤ f - 4 ∧ f - 4 ≤ 2147483647) ∧ ((0 ≤ (f - 4) ∧ (f - 4) < 64) ∧ (0 ≤ V.2.1 35 (f - 4) ∧ V.2.1 35 (f - 4) < 16) ∧ (-1000 ≤ V.2.1 39 (V.2.1 35 (f - 4)) ∧ V.2.1 39 (V.2.1 35 (f - 4)) ≤ 1000)) ∧ ∀ W193 : zW, (zLi 34 V W193 (f - 4)) → (-2147483648 ≤ f - 1 ∧ f - 1 ≤ 2147483647) ∧ (0 ≤ (W193.1 34 2) ∧ (W193.1 34 2) * 8 ≤ 2147483647) ∧ ∀ t2 : Int, t2 = (W193.1 34 2) * 8 → (0 ≤ t2 ∧ t2 ≤ 2147483647 ∧ t2 % 8 = 0 ∧ 0 ≤ (4 : Int) ∧ (4 : Int) < 8) ∧ ∀ t3 : Int, t3 = t2 + 4 → ((0 ≤ (f - 1) ∧ (f - 1) < 64) ∧ (0 ≤ t3 ∧ t3 < 16) ∧ (-1000 ≤ W193.2.1 39 t3 ∧ W193.2.1 39 t3 ≤ 1000)) ∧ ∀ W208 : zW, (zPu 34 W193 W208 (f - 1) t3) → zwp jtb zsh n zm_BOmak34 post (K - 32) (lGo ak_ZBOmak34 211) 211 [some (.inr (.inr (some (.inl 34)))), some (.inl (x)), some (.inl (f)), some (.inl (t)), some (.inl (bb)), some (.inl (mm)), some (.inl (kd)), some (.inl (w)), some (.inl (tk)), some (.inr (.inl (ud))), u10] [] W208))) ∧ ((t - f) = 2 → (-2147483648 ≤ f + 3 ∧ f + 3 ≤ 2147483647) ∧ ((0 ≤ (f + 3) ∧ (f + 3) < 64) ∧ (0 ≤ V.2.1 35 (f + 3) ∧ V.2.1 35 (f + 3) < 16) ∧ (-1000 ≤ V.2.1 39 (V.2.1 35 (f + 3)) ∧ V.2.1 39 (V.2.1 35 (f + 3)) ≤ 1000)) ∧ ∀ W154 : zW, (zLi 34 V W154 (f + 3)) → (-2147483648 ≤ f + 1 ∧ f + 1 ≤ 2147483647) ∧ (0 ≤ (W154.1 34 2) ∧ (W154.1 34 2) * 8 ≤ 2147483647) ∧ ∀ t4 : Int, t4 = (W154.1 34 2) * 8 → (0 ≤ t4 ∧ t4 ≤ 2147483647 ∧ t4 % 8 = 0 ∧ 0 ≤ (4 : Int) ∧ (4 : Int) < 8) ∧ ∀ t5 : Int, t5 = t4 + 4 → ((0 ≤ (f + 1) ∧ (f + 1) < 64) ∧ (0 ≤ t5 ∧ t5 < 16) ∧ (-1000 ≤ W154.2.1 39 t5 ∧ W154.2.1 39 t5 ≤ 1000)) ∧ ∀ W169 : zW, (zPu 34 W154 W169 (f + 1) t5) → zwp jtb zsh n zm_BOmak34 post (K - 25) (lGo ak_ZBOmak34 211) 211 [some (.inr (.inr (some (.inl 34)))), some (.inl (x)), some (.inl (f)), some (.inl (t)), some (.inl (bb)), some (.inl (mm)), some (.inl (kd)), some (.inl (w)), some (.inl (tk)), some (.inr (.inl (ud))), u10] [] W169))) : zwp jtb zsh n zm_BOmak34 post K (lGo ak_ZBOmak34 136) 136 [some (.inr (.inr (some (.inl 34)))), some (.inl (x)), some (.inl (f)), some (.inl (t)), some (.inl (bb)), some (.inl (mm)), some (.inl (kd)), some (.inl (w)), some (.inl (tk)), some (.inr (.inl (ud))), u10] [] V := by
  obtain ⟨kk__, rfl⟩ : ∃ kk__, K = kk__ + 32 := ⟨K - 32, by omega⟩
  exact (show (¬ kd = 6 → (¬ kd = 6 → zwp jtb zsh n zm_BOmak34 post (kk__ + 26) (lGo ak_ZBOmak34 211) 211 [some (.inr (.inr (some (.inl 34)))), some (.inl (x)), some (.inl (f)), some (.inl (t)), some (.inl (bb)), some (.inl (mm)), some (.inl (kd)), some (.inl (w)), some (.inl (tk)), some (.inr (.inl (ud))), u10] [] V) ∧ (kd = 6 → (-2147483648 ≤ f - t ∧ f - t ≤ 2147483647) ∧ (¬ (f - t) = 2 → zwp jtb zsh n zm_BOmak34 post (kk__ + 21) (lGo ak_ZBOmak34 211) 211 [some (.inr (.inr (some (.inl 34)))), some (.inl (x)), some (.inl (f)), some (.inl (t)), some (.inl (bb)), some (.inl (mm)), some (.inl (kd)), some (.inl (w)), some (.inl (tk)), some (.inr (.inl (ud))), u10] [] V) ∧ ((f - t) = 2 → (-2147483648 ≤ f - 4 ∧ f - 4 ≤ 2147483647) ∧ 3 = 3 ∧ false = false ∧ jin3 132 1286 1 zm_BOmak34.2.2.1.1 = true ∧ lRm zm_BOmak34.2.1 { frames := 0, cells := 0, slots := 0, locals := 0 } 3 = true ∧ Nat.ble 2 2 = true ∧ Nat.ble 0 8 = true ∧ 34 < n ∧ 10 = 10 ∧ Nat.ble 1000 10 = false ∧ zc_BOlif34 [.inr (.inr (some (.inl 34))), .inl (f - 4)] V (fun vv__ WW__ => zwp jtb zsh n zm_BOmak34 post (kk__ + 16) (lGo ak_ZBOmak34 196) 196 [some (.inr (.inr (some (.inl 34)))), some (.inl (x)), some (.inl (f)), some (.inl (t)), some (.inl (bb)), some (.inl (mm)), some (.inl (kd)), some (.inl (w)), some (.inl (tk)), some (.inr (.inl (ud))), u10] (vv__.toList ++ []) WW__)))) ∧ (kd = 6 → (-2147483648 ≤ t - f ∧ t - f ≤ 2147483647) ∧ (¬ (t - f) = 2 → (¬ kd = 6 → zwp jtb zsh n zm_BOmak34 post (kk__ + 21) (lGo ak_ZBOmak34 211) 211 [some (.inr (.inr (some (.inl 34)))), some (.inl (x)), some (.inl (f)), some (.inl (t)), some (.inl (bb)), some (.inl (mm)), some (.inl (kd)), some (.inl (w)), some (.inl (tk)), some (.inr (.inl (ud))), u10] [] V) ∧ (kd = 6 → (-2147483648 ≤ f - t ∧ f - t ≤ 2147483647) ∧ (¬ (f - t) = 2 → zwp jtb zsh n zm_BOmak34 post (kk__ + 16) (lGo ak_ZBOmak34 211) 211 [some (.inr (.inr (some (.inl 34)))), some (.inl (x)), some (.inl (f)), some (.inl (t)), some (.inl (bb)), some (.inl (mm)), some (.inl (kd)), some (.inl (w)), some (.inl (tk)), some (.inr (.inl (ud))), u10] [] V) ∧ ((f - t) = 2 → (-2147483648 ≤ f - 4 ∧ f - 4 ≤ 2147483647) ∧ 3 = 3 ∧ false = false ∧ jin3 132 1286 1 zm_BOmak34.2.2.1.1 = true ∧ lRm zm_BOmak34.2.1 { frames := 0, cells := 0, slots := 0, locals := 0 } 3 = true ∧ Nat.ble 2 2 = true ∧ Nat.ble 0 8 = true ∧ 34 < n ∧ 10 = 10 ∧ Nat.ble 1000 10 = false ∧ zc_BOlif34 [.inr (.inr (some (.inl 34))), .inl (f - 4)] V (fun vv__ WW__ => zwp jtb zsh n zm_BOmak34 post (kk__ + 11) (lGo ak_ZBOmak34 196) 196 [some (.inr (.inr (some (.inl 34)))), some (.inl (x)), some (.inl (f)), some (.inl (t)), some (.inl (bb)), some (.inl (mm)), some (.inl (kd)), some (.inl (w)), some (.inl (tk)), some (.inr (.inl (ud))), u10] (vv__.toList ++ []) WW__)))) ∧ ((t - f) = 2 → (-2147483648 ≤ f + 3 ∧ f + 3 ≤ 2147483647) ∧ 3 = 3 ∧ false = false ∧ jin3 132 1286 1 zm_BOmak34.2.2.1.1 = true ∧ lRm zm_BOmak34.2.1 { frames := 0, cells := 0, slots := 0, locals := 0 } 3 = true ∧ Nat.ble 2 2 = true ∧ Nat.ble 0 8 = true ∧ 34 < n ∧ 10 = 10 ∧ Nat.ble 1000 10 = false ∧ zc_BOlif34 [.inr (.inr (some (.inl 34))), .inl (f + 3)] V (fun vv__ WW__ => zwp jtb zsh n zm_BOmak34 post (kk__ + 19) (lGo ak_ZBOmak34 157) 157 [some (.inr (.inr (some (.inl 34)))), some (.inl (x)), some (.inl (f)), some (.inl (t)), some (.inl (bb)), some (.inl (mm)), some (.inl (kd)), some (.inl (w)), some (.inl (tk)), some (.inr (.inl (ud))), u10] (vv__.toList ++ []) WW__))) from ⟨fun c140_2 => ⟨fun c179_5 => ((((h).1 c140_2)).1 c179_5), fun c179_5 => (have h := ((((h).1 c140_2)).2 c179_5); ⟨(h).1, ⟨fun c186_10 => (((h).2).1 c186_10), fun c186_10 => ⟨((((h).2).2 c186_10)).1, ⟨rfl, rfl, rfl, rfl, rfl, rfl, (Nat.lt_of_lt_of_le (by decide) hn), rfl, rfl, f - 4, rfl, (((((h).2).2 c186_10)).2).1, fun W193 hr193 => (show (-2147483648 ≤ f - 1 ∧ f - 1 ≤ 2147483647) ∧ 34 < n ∧ 10 = 10 ∧ 3 = 3 ∧ false = false ∧ jin3 102 656 2 zm_BOmak34.2.2.1.1 = true ∧ lRm zm_BOmak34.2.1 { frames := 0, cells := 0, slots := 0, locals := 0 } 3 = true ∧ Nat.ble 3 3 = true ∧ Nat.ble 0 8 = true ∧ 34 < n ∧ 10 = 10 ∧ Nat.ble 1000 10 = false ∧ zc_BOput34 [.inr (.inr (some (.inl 34))), .inl (f - 1), .inl (((lI ((lI (W193.1 34 2) <<< (lI 3 &&& 31)).toInt) ||| lI 4).toInt))] W193 (fun vv__ WW__ => zwp jtb zsh n zm_BOmak34 post (kk__ + 5) (lGo ak_ZBOmak34 211) 211 [some (.inr (.inr (some (.inl 34)))), some (.inl (x)), some (.inl (f)), some (.inl (t)), some (.inl (bb)), some (.inl (mm)), some (.inl (kd)), some (.inl (w)), some (.inl (tk)), some (.inr (.inl (ud))), u10] (vv__.toList ++ []) WW__) from (have h := ((((((h).2).2 c186_10)).2).2 W193 hr193); ⟨(h).1, ⟨(Nat.lt_of_lt_of_le (by decide) hn), rfl, (have h := (((h).2).2 _ (z_sl3 ((h).2).1)); ⟨rfl, rfl, rfl, rfl, rfl, rfl, (Nat.lt_of_lt_of_le (by decide) hn), rfl, rfl, f - 1, ((lI ((lI (W193.1 34 2) <<< (lI 3 &&& 31)).toInt) ||| lI 4).toInt), rfl, (((h).2 _ (z_or3 (h).1))).1, fun W208 hr208 => (show zwp jtb zsh n zm_BOmak34 post (kk__ + 5) (lGo ak_ZBOmak34 211) 211 [some (.inr (.inr (some (.inl 34)))), some (.inl (x)), some (.inl (f)), some (.inl (t)), some (.inl (bb)), some (.inl (mm)), some (.inl (kd)), some (.inl (w)), some (.inl (tk)), some (.inr (.inl (ud))), u10] [] W208 from ((((h).2 _ (z_or3 (h).1))).2 W208 hr208))⟩)⟩⟩))⟩⟩⟩⟩)⟩, fun c140_2 => ⟨(((h).2 c140_2)).1, ⟨fun c147_7 => (have h := (((((h).2 c140_2)).2).1 c147_7); ⟨fun c179_10 => ((h).1 c179_10), fun c179_10 => ⟨(((h).2 c179_10)).1, ⟨fun c186_15 => (((((h).2 c179_10)).2).1 c186_15), fun c186_15 => (have h := (((((h).2 c179_10)).2).2 c186_15); ⟨(h).1, ⟨rfl, rfl, rfl, rfl, rfl, rfl, (Nat.lt_of_lt_of_le (by decide) hn), rfl, rfl, f - 4, rfl, ((h).2).1, fun W193 hr193 => (show (-2147483648 ≤ f - 1 ∧ f - 1 ≤ 2147483647) ∧ 34 < n ∧ 10 = 10 ∧ 3 = 3 ∧ false = false ∧ jin3 102 656 2 zm_BOmak34.2.2.1.1 = true ∧ lRm zm_BOmak34.2.1 { frames := 0, cells := 0, slots := 0, locals := 0 } 3 = true ∧ Nat.ble 3 3 = true ∧ Nat.ble 0 8 = true ∧ 34 < n ∧ 10 = 10 ∧ Nat.ble 1000 10 = false ∧ zc_BOput34 [.inr (.inr (some (.inl 34))), .inl (f - 1), .inl (((lI ((lI (W193.1 34 2) <<< (lI 3 &&& 31)).toInt) ||| lI 4).toInt))] W193 (fun vv__ WW__ => zwp jtb zsh n zm_BOmak34 post (kk__ + 0) (lGo ak_ZBOmak34 211) 211 [some (.inr (.inr (some (.inl 34)))), some (.inl (x)), some (.inl (f)), some (.inl (t)), some (.inl (bb)), some (.inl (mm)), some (.inl (kd)), some (.inl (w)), some (.inl (tk)), some (.inr (.inl (ud))), u10] (vv__.toList ++ []) WW__) from ⟨((((h).2).2 W193 hr193)).1, (have h := ((((h).2).2 W193 hr193)).2; ⟨(Nat.lt_of_lt_of_le (by decide) hn), rfl, (have h := ((((h).2 _ (z_sl3 (h).1))).2 _ (z_or3 (((h).2 _ (z_sl3 (h).1))).1)); ⟨rfl, rfl, rfl, rfl, rfl, rfl, (Nat.lt_of_lt_of_le (by decide) hn), rfl, rfl, f - 1, ((lI ((lI (W193.1 34 2) <<< (lI 3 &&& 31)).toInt) ||| lI 4).toInt), rfl, (h).1, fun W208 hr208 => (show zwp jtb zsh n zm_BOmak34 post (kk__ + 0) (lGo ak_ZBOmak34 211) 211 [some (.inr (.inr (some (.inl 34)))), some (.inl (x)), some (.inl (f)), some (.inl (t)), some (.inl (bb)), some (.inl (mm)), some (.inl (kd)), some (.inl (w)), some (.inl (tk)), some (.inr (.inl (ud))), u10] [] W208 from ((h).2 W208 hr208))⟩)⟩)⟩)⟩⟩)⟩⟩⟩), fun c147_7 => (have h := (((((h).2 c140_2)).2).2 c147_7); ⟨(h).1, ⟨rfl, rfl, rfl, rfl, rfl, rfl, (Nat.lt_of_lt_of_le (by decide) hn), rfl, rfl, f + 3, rfl, ((h).2).1, fun W154 hr154 => (show (-2147483648 ≤ f + 1 ∧ f + 1 ≤ 2147483647) ∧ 34 < n ∧ 10 = 10 ∧ 3 = 3 ∧ false = false ∧ jin3 102 656 2 zm_BOmak34.2.2.1.1 = true ∧ lRm zm_BOmak34.2.1 { frames := 0, cells := 0, slots := 0, locals := 0 } 3 = true ∧ Nat.ble 3 3 = true ∧ Nat.ble 0 8 = true ∧ 34 < n ∧ 10 = 10 ∧ Nat.ble 1000 10 = false ∧ zc_BOput34 [.inr (.inr (some (.inl 34))), .inl (f + 1), .inl (((lI ((lI (W154.1 34 2) <<< (lI 3 &&& 31)).toInt) ||| lI 4).toInt))] W154 (fun vv__ WW__ => zwp jtb zsh n zm_BOmak34 post (kk__ + 8) (lGo ak_ZBOmak34 172) 172 [some (.inr (.inr (some (.inl 34)))), some (.inl (x)), some (.inl (f)), some (.inl (t)), some (.inl (bb)), some (.inl (mm)), some (.inl (kd)), some (.inl (w)), some (.inl (tk)), some (.inr (.inl (ud))), u10] (vv__.toList ++ []) WW__) from ⟨((((h).2).2 W154 hr154)).1, (have h := ((((h).2).2 W154 hr154)).2; ⟨(Nat.lt_of_lt_of_le (by decide) hn), rfl, (have h := ((((h).2 _ (z_sl3 (h).1))).2 _ (z_or3 (((h).2 _ (z_sl3 (h).1))).1)); ⟨rfl, rfl, rfl, rfl, rfl, rfl, (Nat.lt_of_lt_of_le (by decide) hn), rfl, rfl, f + 1, ((lI ((lI (W154.1 34 2) <<< (lI 3 &&& 31)).toInt) ||| lI 4).toInt), rfl, (h).1, fun W169 hr169 => (show zwp jtb zsh n zm_BOmak34 post (kk__ + 7) (lGo ak_ZBOmak34 211) 211 [some (.inr (.inr (some (.inl 34)))), some (.inl (x)), some (.inl (f)), some (.inl (t)), some (.inl (bb)), some (.inl (mm)), some (.inl (kd)), some (.inl (w)), some (.inl (tk)), some (.inr (.inl (ud))), u10] [] W169 from ((h).2 W169 hr169))⟩)⟩)⟩)⟩⟩)⟩⟩⟩)
set_option maxRecDepth 60000 in
theorem zp_BOmak34_211 {n K : Nat} {V : zW} {post : zPo} {x f t bb mm kd w tk : Int} {ud : Int64} {u10 : Option zv} (hK : 48 ≤ K) (hn : 142 ≤ n) (h : (0 ≤ f ∧ f < 64) ∧ (0 ≤ t ∧ t < 64) ∧ (¬ kd = 1 → (kd = 1 → (-2147483648 ≤ (V.1 34 6) + (V.1 34 2) ∧ (V.1 34 6) + (V.1 34 2) ≤ 2147483647) ∧ ((V.1 34 2) = 0 ∨ (V.1 34 2) = 1) ∧ ∀ t0 : Int, t0 = 1 - (V.1 34 2) → post (some (.inr (.inl (ud)))) (zuF (zuF (zuF (zuF (zuF V 34 3 ((lI (V.1 34 3) &&& lI ((lI ((tv_4.getD f.toNat 0).toInt) &&& lI ((tv_4.getD t.toNat 0).toInt)).toInt)).toInt)) 34 4 (-1)) 34 5 0) 34 6 ((V.1 34 6) + (V.1 34 2))) 34 2 t0)) ∧ (¬ kd = 1 → (tk = 0 → (-2147483648 ≤ (V.1 34 5) + 1 ∧ (V.1 34 5) + 1 ≤ 2147483647) ∧ (-2147483648 ≤ (V.1 34 6) + (V.1 34 2) ∧ (V.1 34 6) + (V.1 34 2) ≤ 2147483647) ∧ ((V.1 34 2) = 0 ∨ (V.1 34 2) = 1) ∧ ∀ t1 : Int, t1 = 1 - (V.1 34 2) → post (some (.inr (.inl (ud)))) (zuF (zuF (zuF (zuF (zuF V 34 3 ((lI (V.1 34 3) &&& lI ((lI ((tv_4.getD f.toNat 0).toInt) &&& lI ((tv_4.getD t.toNat 0).toInt)).toInt)).toInt)) 34 4 (-1)) 34 5 ((V.1 34 5) + 1)) 34 6 ((V.1 34 6) + (V.1 34 2))) 34 2 t1)) ∧ (¬ tk = 0 → (-2147483648 ≤ (V.1 34 6) + (V.1 34 2) ∧ (V.1 34 6) + (V.1 34 2) ≤ 2147483647) ∧ ((V.1 34 2) = 0 ∨ (V.1 34 2) = 1) ∧ ∀ t2 : Int, t2 = 1 - (V.1 34 2) → post (some (.inr (.inl (ud)))) (zuF (zuF (zuF (zuF (zuF V 34 3 ((lI (V.1 34 3) &&& lI ((lI ((tv_4.getD f.toNat 0).toInt) &&& lI ((tv_4.getD t.toNat 0).toInt)).toInt)).toInt)) 34 4 (-1)) 34 5 0) 34 6 ((V.1 34 6) + (V.1 34 2))) 34 2 t2)))) ∧ (kd = 1 → ((0 ≤ f ∧ f < 64) ∧ (0 ≤ t ∧ t < 64) ∧ (0 ≤ (zuF V 34 3 ((lI (V.1 34 3) &&& lI ((lI ((tv_4.getD f.toNat 0).toInt) &&& lI ((tv_4.getD t.toNat 0).toInt)).toInt)).toInt)).1 34 2 ∧ (zuF V 34 3 ((lI (V.1 34 3) &&& lI ((lI ((tv_4.getD f.toNat 0).toInt) &&& lI ((tv_4.getD t.toNat 0).toInt)).toInt)).toInt)).1 34 2 ≤ 1)) ∧ ∀ r241 : Int, (r241 = cPb ((zuF V 34 3 ((lI (V.1 34 3) &&& lI ((lI ((tv_4.getD f.toNat 0).toInt) &&& lI ((tv_4.getD t.toNat 0).toInt)).toInt)).toInt)).2.1 35) ((zuF V 34 3 ((lI (V.1 34 3) &&& lI ((lI ((tv_4.getD f.toNat 0).toInt) &&& lI ((tv_4.getD t.toNat 0).toInt)).toInt)).toInt)).1 34 2) f t) → (kd = 1 → (-2147483648 ≤ (V.1 34 6) + (V.1 34 2) ∧ (V.1 34 6) + (V.1 34 2) ≤ 2147483647) ∧ ((V.1 34 2) = 0 ∨ (V.1 34 2) = 1) ∧ ∀ t3 : Int, t3 = 1 - (V.1 34 2) → post (some (.inr (.inl (ud)))) (zuF (zuF (zuF (zuF (zuF V 34 3 ((lI (V.1 34 3) &&& lI ((lI ((tv_4.getD f.toNat 0).toInt) &&& lI ((tv_4.getD t.toNat 0).toInt)).toInt)).toInt)) 34 4 r241) 34 5 0) 34 6 ((V.1 34 6) + (V.1 34 2))) 34 2 t3)) ∧ (¬ kd = 1 → (tk = 0 → (-2147483648 ≤ (V.1 34 5) + 1 ∧ (V.1 34 5) + 1 ≤ 2147483647) ∧ (-2147483648 ≤ (V.1 34 6) + (V.1 34 2) ∧ (V.1 34 6) + (V.1 34 2) ≤ 2147483647) ∧ ((V.1 34 2) = 0 ∨ (V.1 34 2) = 1) ∧ ∀ t4 : Int, t4 = 1 - (V.1 34 2) → post (some (.inr (.inl (ud)))) (zuF (zuF (zuF (zuF (zuF V 34 3 ((lI (V.1 34 3) &&& lI ((lI ((tv_4.getD f.toNat 0).toInt) &&& lI ((tv_4.getD t.toNat 0).toInt)).toInt)).toInt)) 34 4 r241) 34 5 ((V.1 34 5) + 1)) 34 6 ((V.1 34 6) + (V.1 34 2))) 34 2 t4)) ∧ (¬ tk = 0 → (-2147483648 ≤ (V.1 34 6) + (V.1 34 2) ∧ (V.1 34 6) + (V.1 34 2) ≤ 2147483647) ∧ ((V.1 34 2) = 0 ∨ (V.1 34 2) = 1) ∧ ∀ t5 : Int, t5 = 1 - (V.1 34 2) → post (some (.inr (.inl (ud)))) (zuF (zuF (zuF (zuF (zuF V 34 3 ((lI (V.1 34 3) &&& lI ((lI ((tv_4.getD f.toNat 0).toInt) &&& lI ((tv_4.getD t.toNat 0).toInt)).toInt)).toInt)) 34 4 r241) 34 5 0) 34 6 ((V.1 34 6) + (V.1 34 2))) 34 2 t5))))) : zwp jtb zsh n zm_BOmak34 post K (lGo ak_ZBOmak34 211) 211 [some (.inr (.inr (some (.inl 34)))), some (.inl (x)), some (.inl (f)), some (.inl (t)), some (.inl (bb)), some (.inl (mm)), some (.inl (kd)), some (.inl (w)), some (.inl (tk)), some (.inr (.inl (ud))), u10] [] V := by
  obtain ⟨kk__, rfl⟩ : ∃ kk__, K = kk__ + 48 := ⟨K - 48, by omega⟩
  exact (show 34 < n ∧ 10 = 10 ∧ FieldType.int = FieldType.int ∧ (0 ≤ f ∧ f < 64) ∧ FieldType.int = FieldType.int ∧ (0 ≤ t ∧ t < 64) ∧ 34 < n ∧ 10 = 10 ∧ (some 0 : Option Nat) = some 0 ∧ ((0 : Nat) = 0 ∨ ((0 : Nat) = 1 ∧ (((lI (V.1 34 3) &&& lI ((lI ((tv_4.getD f.toNat 0).toInt) &&& lI ((tv_4.getD t.toNat 0).toInt)).toInt)).toInt) = 0 ∨ ((lI (V.1 34 3) &&& lI ((lI ((tv_4.getD f.toNat 0).toInt) &&& lI ((tv_4.getD t.toNat 0).toInt)).toInt)).toInt) = 1))) ∧ (¬ kd = 1 → 34 < n ∧ 10 = 10 ∧ (some 0 : Option Nat) = some 0 ∧ ((0 : Nat) = 0 ∨ ((0 : Nat) = 1 ∧ ((-1 : Int) = 0 ∨ (-1 : Int) = 1))) ∧ (kd = 1 → 34 < n ∧ 10 = 10 ∧ (some 0 : Option Nat) = some 0 ∧ ((0 : Nat) = 0 ∨ ((0 : Nat) = 1 ∧ ((0 : Int) = 0 ∨ (0 : Int) = 1))) ∧ 34 < n ∧ 10 = 10 ∧ 34 < n ∧ 10 = 10 ∧ (-2147483648 ≤ (V.1 34 6) + (V.1 34 2) ∧ (V.1 34 6) + (V.1 34 2) ≤ 2147483647) ∧ 34 < n ∧ 10 = 10 ∧ (some 0 : Option Nat) = some 0 ∧ ((0 : Nat) = 0 ∨ ((0 : Nat) = 1 ∧ (((V.1 34 6) + (V.1 34 2)) = 0 ∨ ((V.1 34 6) + (V.1 34 2)) = 1))) ∧ 34 < n ∧ 10 = 10 ∧ 34 < n ∧ 10 = 10 ∧ (some 0 : Option Nat) = some 0 ∧ ((0 : Nat) = 0 ∨ ((0 : Nat) = 1 ∧ (((lI (V.1 34 2) ^^^ lI 1).toInt) = 0 ∨ ((lI (V.1 34 2) ^^^ lI 1).toInt) = 1))) ∧ 1 = 1 ∧ (some FieldType.long : Option FieldType) = some FieldType.long ∧ post (some (.inr (.inl (ud)))) (zuF (zuF (zuF (zuF (zuF V 34 3 ((lI (V.1 34 3) &&& lI ((lI ((tv_4.getD f.toNat 0).toInt) &&& lI ((tv_4.getD t.toNat 0).toInt)).toInt)).toInt)) 34 4 (-1)) 34 5 0) 34 6 ((V.1 34 6) + (V.1 34 2))) 34 2 ((lI (V.1 34 2) ^^^ lI 1).toInt))) ∧ (¬ kd = 1 → (tk = 0 → 34 < n ∧ 10 = 10 ∧ (-2147483648 ≤ (V.1 34 5) + 1 ∧ (V.1 34 5) + 1 ≤ 2147483647) ∧ 34 < n ∧ 10 = 10 ∧ (some 0 : Option Nat) = some 0 ∧ ((0 : Nat) = 0 ∨ ((0 : Nat) = 1 ∧ (((V.1 34 5) + 1) = 0 ∨ ((V.1 34 5) + 1) = 1))) ∧ 34 < n ∧ 10 = 10 ∧ 34 < n ∧ 10 = 10 ∧ (-2147483648 ≤ (V.1 34 6) + (V.1 34 2) ∧ (V.1 34 6) + (V.1 34 2) ≤ 2147483647) ∧ 34 < n ∧ 10 = 10 ∧ (some 0 : Option Nat) = some 0 ∧ ((0 : Nat) = 0 ∨ ((0 : Nat) = 1 ∧ (((V.1 34 6) + (V.1 34 2)) = 0 ∨ ((V.1 34 6) + (V.1 34 2)) = 1))) ∧ 34 < n ∧ 10 = 10 ∧ 34 < n ∧ 10 = 10 ∧ (some 0 : Option Nat) = some 0 ∧ ((0 : Nat) = 0 ∨ ((0 : Nat) = 1 ∧ (((lI (V.1 34 2) ^^^ lI 1).toInt) = 0 ∨ ((lI (V.1 34 2) ^^^ lI 1).toInt) = 1))) ∧ 1 = 1 ∧ (some FieldType.long : Option FieldType) = some FieldType.long ∧ post (some (.inr (.inl (ud)))) (zuF (zuF (zuF (zuF (zuF V 34 3 ((lI (V.1 34 3) &&& lI ((lI ((tv_4.getD f.toNat 0).toInt) &&& lI ((tv_4.getD t.toNat 0).toInt)).toInt)).toInt)) 34 4 (-1)) 34 5 ((V.1 34 5) + 1)) 34 6 ((V.1 34 6) + (V.1 34 2))) 34 2 ((lI (V.1 34 2) ^^^ lI 1).toInt))) ∧ (¬ tk = 0 → 34 < n ∧ 10 = 10 ∧ (some 0 : Option Nat) = some 0 ∧ ((0 : Nat) = 0 ∨ ((0 : Nat) = 1 ∧ ((0 : Int) = 0 ∨ (0 : Int) = 1))) ∧ 34 < n ∧ 10 = 10 ∧ 34 < n ∧ 10 = 10 ∧ (-2147483648 ≤ (V.1 34 6) + (V.1 34 2) ∧ (V.1 34 6) + (V.1 34 2) ≤ 2147483647) ∧ 34 < n ∧ 10 = 10 ∧ (some 0 : Option Nat) = some 0 ∧ ((0 : Nat) = 0 ∨ ((0 : Nat) = 1 ∧ (((V.1 34 6) + (V.1 34 2)) = 0 ∨ ((V.1 34 6) + (V.1 34 2)) = 1))) ∧ 34 < n ∧ 10 = 10 ∧ 34 < n ∧ 10 = 10 ∧ (some 0 : Option Nat) = some 0 ∧ ((0 : Nat) = 0 ∨ ((0 : Nat) = 1 ∧ (((lI (V.1 34 2) ^^^ lI 1).toInt) = 0 ∨ ((lI (V.1 34 2) ^^^ lI 1).toInt) = 1))) ∧ 1 = 1 ∧ (some FieldType.long : Option FieldType) = some FieldType.long ∧ post (some (.inr (.inl (ud)))) (zuF (zuF (zuF (zuF (zuF V 34 3 ((lI (V.1 34 3) &&& lI ((lI ((tv_4.getD f.toNat 0).toInt) &&& lI ((tv_4.getD t.toNat 0).toInt)).toInt)).toInt)) 34 4 (-1)) 34 5 0) 34 6 ((V.1 34 6) + (V.1 34 2))) 34 2 ((lI (V.1 34 2) ^^^ lI 1).toInt))))) ∧ (kd = 1 → 3 = 3 ∧ false = false ∧ jin3 138 1309 3 zm_BOmak34.2.2.1.1 = true ∧ lRm zm_BOmak34.2.1 { frames := 0, cells := 0, slots := 0, locals := 0 } 5 = true ∧ Nat.ble 3 4 = true ∧ Nat.ble 1 8 = true ∧ 34 < n ∧ 10 = 10 ∧ Nat.ble 1000 10 = false ∧ zc_BOpby34 [.inr (.inr (some (.inl 34))), .inl (f), .inl (t)] (zuF V 34 3 ((lI (V.1 34 3) &&& lI ((lI ((tv_4.getD f.toNat 0).toInt) &&& lI ((tv_4.getD t.toNat 0).toInt)).toInt)).toInt)) (fun vv__ WW__ => zwp jtb zsh n zm_BOmak34 post (kk__ + 28) (lGo ak_ZBOmak34 244) 244 [some (.inr (.inr (some (.inl 34)))), some (.inl (x)), some (.inl (f)), some (.inl (t)), some (.inl (bb)), some (.inl (mm)), some (.inl (kd)), some (.inl (w)), some (.inl (tk)), some (.inr (.inl (ud))), u10] (vv__.toList ++ [.inr (.inr (some (.inl 34)))]) WW__)) from ⟨(Nat.lt_of_lt_of_le (by decide) hn), rfl, ⟨rfl, (h).1, ⟨rfl, ((h).2).1, ⟨(Nat.lt_of_lt_of_le (by decide) hn), rfl, rfl, (Or.inl rfl), ⟨fun c235_15 => ⟨(Nat.lt_of_lt_of_le (by decide) hn), rfl, rfl, (Or.inl rfl), ⟨fun c255_21 => (have h := ((((((h).2).2).1 c235_15)).1 c255_21); ⟨(Nat.lt_of_lt_of_le (by decide) hn), rfl, rfl, (Or.inl rfl), ⟨(Nat.lt_of_lt_of_le (by decide) hn), rfl, ⟨(Nat.lt_of_lt_of_le (by decide) hn), rfl, ⟨(h).1, ⟨(Nat.lt_of_lt_of_le (by decide) hn), rfl, rfl, (Or.inl rfl), ⟨(Nat.lt_of_lt_of_le (by decide) hn), rfl, (have h := (((h).2).2 _ (z_x1 ((h).2).1)); ⟨(Nat.lt_of_lt_of_le (by decide) hn), rfl, rfl, (Or.inl rfl), ⟨rfl, rfl, h⟩⟩)⟩⟩⟩⟩⟩⟩), fun c255_21 => (have h := ((((((h).2).2).1 c235_15)).2 c255_21); ⟨fun c260_23 => ⟨(Nat.lt_of_lt_of_le (by decide) hn), rfl, ⟨(((h).1 c260_23)).1, ⟨(Nat.lt_of_lt_of_le (by decide) hn), rfl, rfl, (Or.inl rfl), ⟨(Nat.lt_of_lt_of_le (by decide) hn), rfl, ⟨(Nat.lt_of_lt_of_le (by decide) hn), rfl, ⟨((((h).1 c260_23)).2).1, ⟨(Nat.lt_of_lt_of_le (by decide) hn), rfl, rfl, (Or.inl rfl), ⟨(Nat.lt_of_lt_of_le (by decide) hn), rfl, (have h := ((((((h).1 c260_23)).2).2).2 _ (z_x1 (((((h).1 c260_23)).2).2).1)); ⟨(Nat.lt_of_lt_of_le (by decide) hn), rfl, rfl, (Or.inl rfl), ⟨rfl, rfl, h⟩⟩)⟩⟩⟩⟩⟩⟩⟩⟩, fun c260_23 => ⟨(Nat.lt_of_lt_of_le (by decide) hn), rfl, rfl, (Or.inl rfl), ⟨(Nat.lt_of_lt_of_le (by decide) hn), rfl, ⟨(Nat.lt_of_lt_of_le (by decide) hn), rfl, ⟨(((h).2 c260_23)).1, ⟨(Nat.lt_of_lt_of_le (by decide) hn), rfl, rfl, (Or.inl rfl), ⟨(Nat.lt_of_lt_of_le (by decide) hn), rfl, (have h := (((((h).2 c260_23)).2).2 _ (z_x1 ((((h).2 c260_23)).2).1)); ⟨(Nat.lt_of_lt_of_le (by decide) hn), rfl, rfl, (Or.inl rfl), ⟨rfl, rfl, h⟩⟩)⟩⟩⟩⟩⟩⟩⟩)⟩⟩, fun c235_15 => ⟨rfl, rfl, rfl, rfl, rfl, rfl, (Nat.lt_of_lt_of_le (by decide) hn), rfl, rfl, f, t, rfl, (((((h).2).2).2 c235_15)).1, fun r241 hr241 => (show 34 < n ∧ 10 = 10 ∧ (some 0 : Option Nat) = some 0 ∧ ((0 : Nat) = 0 ∨ ((0 : Nat) = 1 ∧ (r241 = 0 ∨ r241 = 1))) ∧ (kd = 1 → 34 < n ∧ 10 = 10 ∧ (some 0 : Option Nat) = some 0 ∧ ((0 : Nat) = 0 ∨ ((0 : Nat) = 1 ∧ ((0 : Int) = 0 ∨ (0 : Int) = 1))) ∧ 34 < n ∧ 10 = 10 ∧ 34 < n ∧ 10 = 10 ∧ (-2147483648 ≤ (V.1 34 6) + (V.1 34 2) ∧ (V.1 34 6) + (V.1 34 2) ≤ 2147483647) ∧ 34 < n ∧ 10 = 10 ∧ (some 0 : Option Nat) = some 0 ∧ ((0 : Nat) = 0 ∨ ((0 : Nat) = 1 ∧ (((V.1 34 6) + (V.1 34 2)) = 0 ∨ ((V.1 34 6) + (V.1 34 2)) = 1))) ∧ 34 < n ∧ 10 = 10 ∧ 34 < n ∧ 10 = 10 ∧ (some 0 : Option Nat) = some 0 ∧ ((0 : Nat) = 0 ∨ ((0 : Nat) = 1 ∧ (((lI (V.1 34 2) ^^^ lI 1).toInt) = 0 ∨ ((lI (V.1 34 2) ^^^ lI 1).toInt) = 1))) ∧ 1 = 1 ∧ (some FieldType.long : Option FieldType) = some FieldType.long ∧ post (some (.inr (.inl (ud)))) (zuF (zuF (zuF (zuF (zuF V 34 3 ((lI (V.1 34 3) &&& lI ((lI ((tv_4.getD f.toNat 0).toInt) &&& lI ((tv_4.getD t.toNat 0).toInt)).toInt)).toInt)) 34 4 r241) 34 5 0) 34 6 ((V.1 34 6) + (V.1 34 2))) 34 2 ((lI (V.1 34 2) ^^^ lI 1).toInt))) ∧ (¬ kd = 1 → (tk = 0 → 34 < n ∧ 10 = 10 ∧ (-2147483648 ≤ (V.1 34 5) + 1 ∧ (V.1 34 5) + 1 ≤ 2147483647) ∧ 34 < n ∧ 10 = 10 ∧ (some 0 : Option Nat) = some 0 ∧ ((0 : Nat) = 0 ∨ ((0 : Nat) = 1 ∧ (((V.1 34 5) + 1) = 0 ∨ ((V.1 34 5) + 1) = 1))) ∧ 34 < n ∧ 10 = 10 ∧ 34 < n ∧ 10 = 10 ∧ (-2147483648 ≤ (V.1 34 6) + (V.1 34 2) ∧ (V.1 34 6) + (V.1 34 2) ≤ 2147483647) ∧ 34 < n ∧ 10 = 10 ∧ (some 0 : Option Nat) = some 0 ∧ ((0 : Nat) = 0 ∨ ((0 : Nat) = 1 ∧ (((V.1 34 6) + (V.1 34 2)) = 0 ∨ ((V.1 34 6) + (V.1 34 2)) = 1))) ∧ 34 < n ∧ 10 = 10 ∧ 34 < n ∧ 10 = 10 ∧ (some 0 : Option Nat) = some 0 ∧ ((0 : Nat) = 0 ∨ ((0 : Nat) = 1 ∧ (((lI (V.1 34 2) ^^^ lI 1).toInt) = 0 ∨ ((lI (V.1 34 2) ^^^ lI 1).toInt) = 1))) ∧ 1 = 1 ∧ (some FieldType.long : Option FieldType) = some FieldType.long ∧ post (some (.inr (.inl (ud)))) (zuF (zuF (zuF (zuF (zuF V 34 3 ((lI (V.1 34 3) &&& lI ((lI ((tv_4.getD f.toNat 0).toInt) &&& lI ((tv_4.getD t.toNat 0).toInt)).toInt)).toInt)) 34 4 r241) 34 5 ((V.1 34 5) + 1)) 34 6 ((V.1 34 6) + (V.1 34 2))) 34 2 ((lI (V.1 34 2) ^^^ lI 1).toInt))) ∧ (¬ tk = 0 → 34 < n ∧ 10 = 10 ∧ (some 0 : Option Nat) = some 0 ∧ ((0 : Nat) = 0 ∨ ((0 : Nat) = 1 ∧ ((0 : Int) = 0 ∨ (0 : Int) = 1))) ∧ 34 < n ∧ 10 = 10 ∧ 34 < n ∧ 10 = 10 ∧ (-2147483648 ≤ (V.1 34 6) + (V.1 34 2) ∧ (V.1 34 6) + (V.1 34 2) ≤ 2147483647) ∧ 34 < n ∧ 10 = 10 ∧ (some 0 : Option Nat) = some 0 ∧ ((0 : Nat) = 0 ∨ ((0 : Nat) = 1 ∧ (((V.1 34 6) + (V.1 34 2)) = 0 ∨ ((V.1 34 6) + (V.1 34 2)) = 1))) ∧ 34 < n ∧ 10 = 10 ∧ 34 < n ∧ 10 = 10 ∧ (some 0 : Option Nat) = some 0 ∧ ((0 : Nat) = 0 ∨ ((0 : Nat) = 1 ∧ (((lI (V.1 34 2) ^^^ lI 1).toInt) = 0 ∨ ((lI (V.1 34 2) ^^^ lI 1).toInt) = 1))) ∧ 1 = 1 ∧ (some FieldType.long : Option FieldType) = some FieldType.long ∧ post (some (.inr (.inl (ud)))) (zuF (zuF (zuF (zuF (zuF V 34 3 ((lI (V.1 34 3) &&& lI ((lI ((tv_4.getD f.toNat 0).toInt) &&& lI ((tv_4.getD t.toNat 0).toInt)).toInt)).toInt)) 34 4 r241) 34 5 0) 34 6 ((V.1 34 6) + (V.1 34 2))) 34 2 ((lI (V.1 34 2) ^^^ lI 1).toInt)))) from (have h := ((((((h).2).2).2 c235_15)).2 r241 hr241); ⟨(Nat.lt_of_lt_of_le (by decide) hn), rfl, rfl, (Or.inl rfl), ⟨fun c255_25 => ⟨(Nat.lt_of_lt_of_le (by decide) hn), rfl, rfl, (Or.inl rfl), ⟨(Nat.lt_of_lt_of_le (by decide) hn), rfl, ⟨(Nat.lt_of_lt_of_le (by decide) hn), rfl, ⟨(((h).1 c255_25)).1, ⟨(Nat.lt_of_lt_of_le (by decide) hn), rfl, rfl, (Or.inl rfl), ⟨(Nat.lt_of_lt_of_le (by decide) hn), rfl, (have h := (((((h).1 c255_25)).2).2 _ (z_x1 ((((h).1 c255_25)).2).1)); ⟨(Nat.lt_of_lt_of_le (by decide) hn), rfl, rfl, (Or.inl rfl), ⟨rfl, rfl, h⟩⟩)⟩⟩⟩⟩⟩⟩, fun c255_25 => ⟨fun c260_27 => (have h := ((((h).2 c255_25)).1 c260_27); ⟨(Nat.lt_of_lt_of_le (by decide) hn), rfl, ⟨(h).1, ⟨(Nat.lt_of_lt_of_le (by decide) hn), rfl, rfl, (Or.inl rfl), ⟨(Nat.lt_of_lt_of_le (by decide) hn), rfl, ⟨(Nat.lt_of_lt_of_le (by decide) hn), rfl, ⟨((h).2).1, ⟨(Nat.lt_of_lt_of_le (by decide) hn), rfl, rfl, (Or.inl rfl), ⟨(Nat.lt_of_lt_of_le (by decide) hn), rfl, (have h := ((((h).2).2).2 _ (z_x1 (((h).2).2).1)); ⟨(Nat.lt_of_lt_of_le (by decide) hn), rfl, rfl, (Or.inl rfl), ⟨rfl, rfl, h⟩⟩)⟩⟩⟩⟩⟩⟩⟩⟩), fun c260_27 => (have h := ((((h).2 c255_25)).2 c260_27); ⟨(Nat.lt_of_lt_of_le (by decide) hn), rfl, rfl, (Or.inl rfl), ⟨(Nat.lt_of_lt_of_le (by decide) hn), rfl, ⟨(Nat.lt_of_lt_of_le (by decide) hn), rfl, ⟨(h).1, ⟨(Nat.lt_of_lt_of_le (by decide) hn), rfl, rfl, (Or.inl rfl), ⟨(Nat.lt_of_lt_of_le (by decide) hn), rfl, (have h := (((h).2).2 _ (z_x1 ((h).2).1)); ⟨(Nat.lt_of_lt_of_le (by decide) hn), rfl, rfl, (Or.inl rfl), ⟨rfl, rfl, h⟩⟩)⟩⟩⟩⟩⟩⟩)⟩⟩⟩))⟩⟩⟩⟩⟩⟩)
set_option maxHeartbeats 4000000 in
set_option maxRecDepth 100000 in
theorem zk_BOmak34 {l : Launch} {E : jE} {n : Nat} (hn : 142 ≤ n) : zHas l E jcl jtb lw_tbl zsh n (y_BO_make, false, 2, 10, { frames := 1, cells := 0, slots := 0, locals := 24 }, zc_BOmak34) := by
  refine ⟨⟨rfl, rfl, ⟨show 1 ≤ 2 by decide, m_BO_make, i_BO_make, e_BO_make, fun _ => ⟨_, rfl, rfl⟩⟩⟩, ?_⟩
  rintro vz W po hO hW ⟨x, q, rfl, hq, hp⟩
  refine zmet (m := zm_BOmak34) rfl (by decide) (fun _ _ => jtF_ok) lo_BO ao_ZBOmak34 jC (fun q h => by cases h) (aAllc (fun G h => by obtain rfl := Option.some.inj h; exact ql_BO_125) (aAllc (fun G h => by obtain rfl := Option.some.inj h; exact ql_BO_132) (aAllc (fun G h => by obtain rfl := Option.some.inj h; exact ql_BO_102) (aAllc (fun G h => by obtain rfl := Option.some.inj h; exact ql_BO_138) (fun q h => by cases h))))) (aAllc (zk_BOppw34 hn) (aAllc (zk_BOlif34 hn) (aAllc (zk_BOput34 hn) (aAllc (zk_BOpby34 hn) (fun q h => by cases h))))) (Nat.le_of_ble_eq_true rfl) hO hW (500) ?_
  obtain ⟨hb, hz, hx, hn6, hn5⟩ := hq
  have hx2 : 0 ≤ x ∧ x < 32768 := ⟨hx.1, hx.2.1⟩
  have F := cMf_i hz hx
  obtain ⟨ef0, et0, eb0⟩ := cMm_f hx2
  obtain ⟨bT, bA, b2, b3, b4, bI⟩ := hb
  have mA : ∀ s, 0 ≤ s → s < 64 → W.2.1 35 s = q.1 s := bA
  have hsd : 0 ≤ q.2.1 ∧ q.2.1 ≤ 1 := ⟨hz.1.1, hz.1.2.1⟩
  have hRt := hz.2.1
  have hps : -1 ≤ q.2.2.2 ∧ q.2.2.2 ≤ 63 := by
    rcases hz.1.2.2.2.2.1 with c | ⟨p0, p1, p2, p3⟩
    · omega
    · omega
  have hw := F.2.2.1
  have mE : ∀ f, f = x / 512 → W.2.1 35 f = q.1 (x / 512) := fun f e => by rw [e]; exact mA _ (by omega) (by omega)
  have mR : ∀ f, f = x / 512 → 1 ≤ W.2.1 35 f ∧ W.2.1 35 f ≤ 14 := fun f e => by rw [mE f e]; exact ⟨F.2.1.1, F.2.1.2.1⟩
  have main : ∀ f t bb mm kd w : Int, (f = x / 512 ∧ t = x / 8 % 64 ∧ bb = x % 8 ∧ mm = q.1 (x / 512) ∧ kd = q.1 (x / 512) % 8 ∧ w = rWh q (cMm x)) → ∀ (K : Nat) (u8 u9 u10 : Option zv), 400 ≤ K → zwp jtb zsh n zm_BOmak34 po K (lGo ak_ZBOmak34 57) 57 [some (.inr (.inr (some (.inl 34)))), some (.inl x), some (.inl f), some (.inl t), some (.inl bb), some (.inl mm), some (.inl kd), some (.inl w), u8, u9, u10] [] W := by
    rintro f t bb mm kd w ⟨e1, e2, e3, e4, e5, e6⟩ K u8 u9 u10 hK
    rw [← e1, ← e2, ← e3, ← e6] at F
    rw [← e1] at e4 e5 ef0
    rw [← e2] at et0
    rw [← e3] at eb0
    have ef : rFr (cMm x) = f := ef0
    have et : rTo (cMm x) = t := et0
    have eb : rBc (cMm x) = bb := eb0
    have mw0 : W.2.1 35 w = q.1 w := mA w F.1.2.2.2.2.1 F.1.2.2.2.2.2.1
    clear ef0 et0 eb0 mE mR hw
    obtain ⟨⟨f0, f1, t0', t1', w0, w1, tf, wf⟩, ⟨m1, m2, m3, m4, m5⟩, hw, ⟨k1, k2, k3⟩, k4, k5, k6, k7, k8⟩ := F
    have mf : W.2.1 35 f = q.1 f := mA f f0 f1
    have z0 : zMs 34 W W q.1 := ⟨zFy_0, bA, bI⟩
    have m3e : ∀ j, rM3 q (cMm x) j = if j = t then (if 0 < bb then bb + 8 * q.2.1 else q.1 f) else if j = f then 0 else if j = w then 0 else q.1 j := by
      intro j
      unfold rM3 rM2 rM1 rUp
      rw [ef, et, eb, ← e6]
    have h211 : ∀ (K : Nat) (V : zW) (tk : Int) (ud : Int64) (u10 : Option zv), 60 ≤ K → tk = q.1 w → (cUd ud (q.1 w) q.2.2.1 q.2.2.2 ∧ cUk ud (W.1 34 5)) → zMs 34 W V (rM4 q (cMm x)) → zwp jtb zsh n zm_BOmak34 po K (lGo ak_ZBOmak34 211) 211 [some (.inr (.inr (some (.inl 34)))), some (.inl x), some (.inl f), some (.inl t), some (.inl bb), some (.inl mm), some (.inl kd), some (.inl w), some (.inl (tk)), some (.inr (.inl ud)), u10] [] V := by
      intro K V tk ud u10 hK etk hud hV
      have v2 : V.1 34 2 = q.2.1 := (zFy_f hV.1 34 2).trans b2
      have v3 : V.1 34 3 = q.2.2.1 := (zFy_f hV.1 34 3).trans b3
      have v6 : V.1 34 6 = W.1 34 6 := zFy_f hV.1 34 6
      have v5 : V.1 34 5 = W.1 34 5 := zFy_f hV.1 34 5
      have rE : (lI (V.1 34 3) &&& lI ((lI ((tv_4.getD f.toNat 0).toInt) &&& lI ((tv_4.getD t.toNat 0).toInt)).toInt)).toInt = rAn (rAn q.2.2.1 (rLo (rFr (cMm x)))) (rLo (rTo (cMm x))) := by
        rw [v3, ef, et]; exact cKp hRt ⟨f0, f1⟩ ⟨t0', t1'⟩
      have pbE : kd = 1 → cPb (V.2.1 35) (V.1 34 2) f t = rNp q (cMm x) := by
        intro k
        rw [v2, ← ef, ← et]
        exact cPb_e hV.2.1 (by rw [ef]; omega)
      have fin : ∀ R' P' c' n' s' : Int, R' = rAn (rAn q.2.2.1 (rLo (rFr (cMm x)))) (rLo (rTo (cMm x))) → P' = rNp q (cMm x) → n' = W.1 34 6 + q.2.1 → s' = 1 - q.2.1 → (0 ≤ c' ∧ c' ≤ W.1 34 5 + 1) → zMx 34 W (zuF (zuF (zuF (zuF (zuF V 34 3 R') 34 4 P') 34 5 c') 34 6 n') 34 2 s') ∧ zBo (zuF (zuF (zuF (zuF (zuF V 34 3 R') 34 4 P') 34 5 c') 34 6 n') 34 2 s') 34 (rMk q (cMm x)) ∧ (zuF (zuF (zuF (zuF (zuF V 34 3 R') 34 4 P') 34 5 c') 34 6 n') 34 2 s').1 34 6 = W.1 34 6 + q.2.1 ∧ cUd ud (q.1 (rWh q (cMm x))) q.2.2.1 q.2.2.2 ∧ (0 ≤ (zuF (zuF (zuF (zuF (zuF V 34 3 R') 34 4 P') 34 5 c') 34 6 n') 34 2 s').1 34 5 ∧ (zuF (zuF (zuF (zuF (zuF V 34 3 R') 34 4 P') 34 5 c') 34 6 n') 34 2 s').1 34 5 ≤ W.1 34 5 + 1) ∧ cUk ud (W.1 34 5) := by
        intro R' P' c' n' s' hR hP hN hS hC
        refine ⟨zFy_F (zFy_F (zFy_F (zFy_F (zFy_F (zFy_w hV.1 (fun _ z => by cases z) (fun _ z => z) (fun _ z => z)) (by decide)) (by decide)) (by decide)) (by decide)) (by decide), ⟨?_, hV.2.1, hS, hR, hP, hV.2.2⟩, hN, by rw [← e6]; exact hud.1, hC, hud.2⟩
        have r8 := zFy_r hV.1 42
        have r9 := zFy_r hV.1 43
        exact zBt_x bT r8 r9
      exact zp_BOmak34_211 (by omega) hn ⟨(by omega), ⟨(by omega), ⟨fun c235 => ⟨fun c255 => ⟨(by omega), ⟨(by omega), fun t0 e0 => (hp _ _ (fin _ _ _ _ _ rE (rNp_n (by rw [ef]; omega)).symm (by omega) (by omega) (by omega)))⟩⟩, fun c255 => ⟨fun c260 => ⟨(by omega), ⟨(by omega), ⟨(by omega), fun t1 e1 => (hp _ _ (fin _ _ _ _ _ rE (rNp_n (by rw [ef]; omega)).symm (by omega) (by omega) (by omega)))⟩⟩⟩, fun c260 => ⟨(by omega), ⟨(by omega), fun t2 e2 => (hp _ _ (fin _ _ _ _ _ rE (rNp_n (by rw [ef]; omega)).symm (by omega) (by omega) (by omega)))⟩⟩⟩⟩, fun c235 => ⟨⟨by omega, by omega, (show 0 ≤ V.1 34 2 ∧ V.1 34 2 ≤ 1 by omega)⟩, fun r241 hr241 => ⟨fun c255 => ⟨(by omega), ⟨(by omega), fun t3 e3 => (hp _ _ (fin _ _ _ _ _ rE (by rw [hr241]; exact pbE (by omega)) (by omega) (by omega) (by omega)))⟩⟩, fun c255 => ⟨fun c260 => ⟨(by omega), ⟨(by omega), ⟨(by omega), fun t4 e4 => (hp _ _ (fin _ _ _ _ _ rE (by rw [hr241]; exact pbE (by omega)) (by omega) (by omega) (by omega)))⟩⟩⟩, fun c260 => ⟨(by omega), ⟨(by omega), fun t5 e5 => (hp _ _ (fin _ _ _ _ _ rE (by rw [hr241]; exact pbE (by omega)) (by omega) (by omega) (by omega)))⟩⟩⟩⟩⟩⟩⟩⟩
    have h136 : ∀ (K : Nat) (V : zW) (tk : Int) (ud : Int64) (u10 : Option zv), 140 ≤ K → tk = q.1 w → (cUd ud (q.1 w) q.2.2.1 q.2.2.2 ∧ cUk ud (W.1 34 5)) → zMs 34 W V (rM3 q (cMm x)) → zwp jtb zsh n zm_BOmak34 po K (lGo ak_ZBOmak34 136) 136 [some (.inr (.inr (some (.inl 34)))), some (.inl x), some (.inl f), some (.inl t), some (.inl bb), some (.inl mm), some (.inl kd), some (.inl w), some (.inl (tk)), some (.inr (.inl ud)), u10] [] V := by
      intro K V tk ud u10 hK etk hud hV
      have v2 : V.1 34 2 = q.2.1 := (zFy_f hV.1 34 2).trans b2
      have sd2 : ∀ {s : Int} (U : zW), zLi 34 V U s → U.1 34 2 = q.2.1 := fun U z => (zFy_f z.1 34 2).trans v2
      have wt : kd = 6 → w = t := fun k => by rw [hw, if_neg (by omega)]
      have nc : ¬ (kd = 6 ∧ (t - f = 2 ∨ f - t = 2)) → zMs 34 W V (rM4 q (cMm x)) := by
        intro z
        rw [rM4_n (fun c => z ⟨by have := c.1; rw [ef] at this; omega, by have := c.2; rw [ef, et] at this; exact this⟩)]
        exact hV
      have s1 : (kd = 6 ∧ t - f = 2) → V.2.1 35 (f + 3) = 8 * q.2.1 + 4 := by
        rintro ⟨z, z2⟩
        have h7 := k7 (by omega) z2
        have hw2 := wt z
        refine (hV.2.1 _ (by omega) (by omega)).trans ?_
        rw [m3e, if_neg (by omega), if_neg (by omega), if_neg (by omega)]
        exact h7.2.2.2
      have l1 : (kd = 6 ∧ f - t = 2) → V.2.1 35 (f - 4) = 8 * q.2.1 + 4 := by
        rintro ⟨z, z2⟩
        have h7 := k8 (by omega) z2
        have hw2 := wt z
        refine (hV.2.1 _ (by omega) (by omega)).trans ?_
        rw [m3e, if_neg (by omega), if_neg (by omega), if_neg (by omega)]
        exact h7.2.2.2.2
      have s2 : ∀ U : zW, (kd = 6 ∧ t - f = 2) → zLi 34 V U (f + 3) → zMs 34 W U (fun j => if j = f + 3 then 0 else rM3 q (cMm x) j) := by
        intro U z hl
        have h7 := k7 (by omega) z.2
        exact zMs_l hV hl (by omega) (by rw [← hV.2.1 _ (by omega) (by omega)]; have := s1 z; show 1 ≤ V.2.1 35 (f + 3); omega)
      have l2 : ∀ U : zW, (kd = 6 ∧ f - t = 2) → zLi 34 V U (f - 4) → zMs 34 W U (fun j => if j = f - 4 then 0 else rM3 q (cMm x) j) := by
        intro U z hl
        have h7 := k8 (by omega) z.2
        exact zMs_l hV hl (by omega) (by rw [← hV.2.1 _ (by omega) (by omega)]; have := l1 z; show 1 ≤ V.2.1 35 (f - 4); omega)
      have s3 : ∀ (U X : zW) (v : Int), (kd = 6 ∧ t - f = 2) → v = 8 * q.2.1 + 4 → zLi 34 V U (f + 3) → zPu 34 U X (f + 1) v → zMs 34 W X (rM4 q (cMm x)) := by
        intro U X v z ev hl hpp
        have h7 := k7 (by omega) z.2
        have hw2 := wt z.1
        have ic : rIsC q (cMm x) := ⟨by rw [ef]; omega, by rw [ef, et]; exact Or.inl z.2⟩
        have co : rM3 q (cMm x) (f + 3) = 8 * q.2.1 + 4 := by rw [m3e, if_neg (by omega), if_neg (by omega), if_neg (by omega)]; exact h7.2.2.2
        refine zMs_c (zMs_p (s2 U z hl) hpp (by omega) (by rw [if_neg (by omega), m3e, if_neg (by omega), if_neg (by omega), if_neg (by omega)]; exact h7.2.1) (by omega) (by omega)) (fun j j0 j1 => ?_)
        rw [rM4_c ic]
        unfold rM4c rUp rCo rOv
        rw [ef, et, if_pos (show f < t by omega), show (f + t) / 2 = f + 1 by omega, co, ev]
        by_cases c : j = f + 3
        · rw [if_neg (by omega), if_pos c, if_pos c]
        · rw [if_neg c, if_neg c]
      have l3 : ∀ (U X : zW) (v : Int), (kd = 6 ∧ f - t = 2) → v = 8 * q.2.1 + 4 → zLi 34 V U (f - 4) → zPu 34 U X (f - 1) v → zMs 34 W X (rM4 q (cMm x)) := by
        intro U X v z ev hl hpp
        have h7 := k8 (by omega) z.2
        have hw2 := wt z.1
        have ic : rIsC q (cMm x) := ⟨by rw [ef]; omega, by rw [ef, et]; exact Or.inr z.2⟩
        have co : rM3 q (cMm x) (f - 4) = 8 * q.2.1 + 4 := by rw [m3e, if_neg (by omega), if_neg (by omega), if_neg (by omega)]; exact h7.2.2.2.2
        refine zMs_c (zMs_p (l2 U z hl) hpp (by omega) (by rw [if_neg (by omega), m3e, if_neg (by omega), if_neg (by omega), if_neg (by omega)]; exact h7.2.1) (by omega) (by omega)) (fun j j0 j1 => ?_)
        rw [rM4_c ic]
        unfold rM4c rUp rCo rOv
        rw [ef, et, if_neg (show ¬ f < t by omega), show (f + t) / 2 = f - 1 by omega, co, ev]
        by_cases c : j = f - 4
        · rw [if_neg (by omega), if_pos c, if_pos c]
        · rw [if_neg c, if_neg c]
      have h7' : (kd = 6 ∧ t - f = 2) → f = 56 * q.2.1 + 4 := fun z => (k7 (by omega) z.2).1
      have h8' : (kd = 6 ∧ f - t = 2) → f = 56 * q.2.1 + 4 := fun z => (k8 (by omega) z.2).1
      clear k7 k8 k5 hw
      exact zp_BOmak34_136 (by omega) hn ⟨fun c140 => ⟨fun c179 => (h211 _ _ _ _ _ (by omega) etk hud (nc (by omega))), fun c179 => ⟨(by omega), ⟨fun c186 => (h211 _ _ _ _ _ (by omega) etk hud (nc (by omega))), fun c186 => ⟨(by omega), ⟨⟨by omega, by have := l1 (by omega); omega, by rw [l1 (by omega)]; exact zMs_n hV (by omega)⟩, fun W193 hr193 => ⟨(by omega), ⟨(by have := sd2 _ hr193; omega), fun t0 e0 => ⟨(by have := sd2 _ hr193; omega), fun t1 e1 => ⟨⟨by omega, by have := sd2 _ hr193; omega, zMs_n (l2 _ (by omega) hr193) (by have := sd2 _ hr193; omega)⟩, fun W208 hr208 => (h211 _ _ _ _ _ (by omega) etk hud (l3 _ _ _ (by omega) (by have := sd2 _ hr193; omega) hr193 hr208))⟩⟩⟩⟩⟩⟩⟩⟩⟩, fun c140 => ⟨(by omega), ⟨fun c147 => ⟨fun c179 => (h211 _ _ _ _ _ (by omega) etk hud (nc (by omega))), fun c179 => ⟨(by omega), ⟨fun c186 => (h211 _ _ _ _ _ (by omega) etk hud (nc (by omega))), fun c186 => ⟨(by omega), ⟨⟨by omega, by have := l1 (by omega); omega, by rw [l1 (by omega)]; exact zMs_n hV (by omega)⟩, fun W193 hr193 => ⟨(by omega), ⟨(by have := sd2 _ hr193; omega), fun t2 e2 => ⟨(by have := sd2 _ hr193; omega), fun t3 e3 => ⟨⟨by omega, by have := sd2 _ hr193; omega, zMs_n (l2 _ (by omega) hr193) (by have := sd2 _ hr193; omega)⟩, fun W208 hr208 => (h211 _ _ _ _ _ (by omega) etk hud (l3 _ _ _ (by omega) (by have := sd2 _ hr193; omega) hr193 hr208))⟩⟩⟩⟩⟩⟩⟩⟩⟩, fun c147 => ⟨(by omega), ⟨⟨by omega, by have := s1 (by omega); omega, by rw [s1 (by omega)]; exact zMs_n hV (by omega)⟩, fun W154 hr154 => ⟨(by omega), ⟨(by have := sd2 _ hr154; omega), fun t4 e4 => ⟨(by have := sd2 _ hr154; omega), fun t5 e5 => ⟨⟨by omega, by have := sd2 _ hr154; omega, zMs_n (s2 _ (by omega) hr154) (by have := sd2 _ hr154; omega)⟩, fun W169 hr169 => (h211 _ _ _ _ _ (by omega) etk hud (s3 _ _ _ (by omega) (by have := sd2 _ hr154; omega) hr154 hr169))⟩⟩⟩⟩⟩⟩⟩⟩⟩
    have h113 : ∀ (K : Nat) (V : zW) (tk : Int) (ud : Int64) (u10 : Option zv), 200 ≤ K → tk = q.1 w → (cUd ud (q.1 w) q.2.2.1 q.2.2.2 ∧ cUk ud (W.1 34 5)) → zMs 34 W V (fun j => if j = f then 0 else if j = w then 0 else q.1 j) → zwp jtb zsh n zm_BOmak34 po K (lGo ak_ZBOmak34 113) 113 [some (.inr (.inr (some (.inl 34)))), some (.inl x), some (.inl f), some (.inl t), some (.inl bb), some (.inl mm), some (.inl kd), some (.inl w), some (.inl (tk)), some (.inr (.inl ud)), u10] [] V := by
      intro K V tk ud u10 hK etk hud hV
      have a8 : (lI mm &&& lI 8).toInt = 8 * (mm / 8) := cA8 (by omega)
      have pt : ∀ (U : zW) (v : Int), zPu 34 V U t v → v = (if 0 < bb then bb + 8 * q.2.1 else q.1 f) → zMs 34 W U (rM3 q (cMm x)) := by
        intro U v hpp ev
        refine zMs_c (zMs_p hV hpp ⟨t0', t1'⟩ ?_ ?_ (fun z j j0 j1 => ?_)) (fun j j0 j1 => ?_)
        · rw [if_neg tf]
          by_cases c : t = w
          · rw [if_pos c]
          · rw [if_neg c]; exact k4.resolve_left c
        · rw [ev]; split <;> omega
        · have e7 : q.1 f % 8 = 6 ∧ v = q.1 f := by
            rw [ev] at z ⊢
            by_cases c : 0 < bb
            · rw [if_pos c] at z; omega
            · rw [if_neg c] at z ⊢; exact ⟨z, rfl⟩
          intro ee
          by_cases c : j = f
          · rw [if_pos c] at ee; omega
          · rw [if_neg c] at ee
            by_cases d : j = w
            · rw [if_pos d] at ee; omega
            · rw [if_neg d] at ee
              exact c (k5 e7.1 j (by omega))
        · rw [m3e j, ← ev]
      exact zp_BOmak34_113 (by omega) hn ⟨fun c117 => ⟨(by omega), fun t0 e0 => ⟨⟨by omega, by omega, zMs_n hV (by omega)⟩, fun W133 hr133 => (h136 _ _ _ _ _ (by omega) etk hud (pt _ _ hr133 (by first | (rw [if_pos (by omega)]; omega) | (rw [if_neg (by omega)]; omega))))⟩⟩, fun c117 => ⟨⟨by omega, by omega, zMs_n hV (by omega)⟩, fun W133 hr133 => (h136 _ _ _ _ _ (by omega) etk hud (pt _ _ hr133 (by first | (rw [if_pos (by omega)]; omega) | (rw [if_neg (by omega)]; omega))))⟩⟩
    have mw : W.2.1 35 w = q.1 w := mw0
    have st1 : ∀ U : zW, zLi 34 W U f → zMs 34 W U (fun j => if j = f then 0 else q.1 j) := fun U h => zMs_l z0 h ⟨f0, f1⟩ m1
    have st4 : ∀ U : zW, zLi 34 W U f → W.2.1 35 w = 0 → zMs 34 W U (fun j => if j = f then 0 else if j = w then 0 else q.1 j) := by
      intro U h z
      refine zMs_c (st1 U h) (fun j j0 j1 => ?_)
      by_cases c : j = f
      · rw [if_pos c, if_pos c]
      · rw [if_neg c, if_neg c]
        by_cases d : j = w
        · rw [if_pos d, d, ← mw]; exact z
        · rw [if_neg d]
    have uw : ∀ U : zW, zLi 34 W U f → U.2.1 35 w = q.1 w := by
      intro U h
      refine ((st1 U h).2.1 w w0 w1).trans ?_
      show (if w = f then 0 else q.1 w) = q.1 w
      rw [if_neg wf]
    have st2 : ∀ U : zW, zLi 34 W U f → ¬ W.2.1 35 w = 0 → (0 ≤ w ∧ w < 64) ∧ (0 ≤ U.2.1 35 w ∧ U.2.1 35 w < 16) ∧ (-1000 ≤ U.2.1 39 (U.2.1 35 w) ∧ U.2.1 39 (U.2.1 35 w) ≤ 1000) := by
      intro U h z
      rw [uw U h]
      exact ⟨⟨w0, w1⟩, by omega, zMs_n (st1 U h) (by omega)⟩
    have st3 : ∀ U X : zW, zLi 34 W U f → zLi 34 U X w → ¬ W.2.1 35 w = 0 → zMs 34 W X (fun j => if j = f then 0 else if j = w then 0 else q.1 j) := by
      intro U X h h2 z
      refine zMs_c (zMs_l (st1 U h) h2 ⟨w0, w1⟩ (by rw [if_neg wf]; omega)) (fun j j0 j1 => ?_)
      by_cases c : j = f
      · rw [if_pos c, if_neg (by omega), if_pos c]
      · rw [if_neg c, if_neg c]
    have cu : ∀ a b' : Int, a = W.1 34 3 * 16 → b' = (W.1 34 4 + 1) * 256 → (cUd (((lI ((lI ((lI (W.2.1 35 w) ||| lI a).toInt) ||| lI b').toInt)).toInt64) ||| (((lI (W.1 34 5)).toInt64) <<< ((lI 16).toInt64 &&& 63))) (q.1 w) q.2.2.1 q.2.2.2 ∧ cUk (((lI ((lI ((lI (W.2.1 35 w) ||| lI a).toInt) ||| lI b').toInt)).toInt64) ||| (((lI (W.1 34 5)).toInt64) <<< ((lI 16).toInt64 &&& 63))) (W.1 34 5)) := by
      intro a b' h1 h2
      rw [← mw, ← b3, ← b4]
      exact ⟨cUd_m (by omega) (by omega) (by omega) h1 h2, cUk_m (by omega) (by omega) (by omega) (by unfold lRg; omega) h1 h2⟩
    clear k5 k7 k8 hw k6
    exact zp_BOmak34_57 (by omega) hn ⟨(by omega), ⟨(by omega), fun t0 e0 => ⟨(by omega), ⟨(by omega), fun t1 e1 => ⟨⟨by omega, by omega, by rw [mf]; exact zMs_n z0 (by omega)⟩, fun W99 hr99 => ⟨fun c104 => (h113 _ _ _ _ _ (by omega) mw (cu _ _ e0 e1) (st4 _ hr99 (by omega))), fun c104 => ⟨(st2 _ hr99 (by omega)), fun W110 hr110 => (h113 _ _ _ _ _ (by omega) mw (cu _ _ e0 e1) (st3 _ _ hr99 hr110 (by omega)))⟩⟩⟩⟩⟩⟩⟩
  have h18 : ∀ (K : Nat) (f t bb : Int) (u5 u6 u7 u8 u9 u10 : Option zv), 440 ≤ K → (f = x / 512 ∧ t = x / 8 % 64 ∧ bb = x % 8) → zwp jtb zsh n zm_BOmak34 po K (lGo ak_ZBOmak34 18) 18 [some (.inr (.inr (some (.inl 34)))), some (.inl x), some (.inl f), some (.inl t), some (.inl bb), u5, u6, u7, u8, u9, u10] [] W := by
    intro K f t bb u5 u6 u7 u8 u9 u10 hK he
    exact zp_BOmak34_18 (by omega) hn ⟨(by omega), ⟨(by have := mR f (by omega); omega), fun t0 e0 => ⟨fun c36 => (main _ _ _ _ _ _ ⟨by omega, by omega, by omega, mE _ (by omega), by rw [← mE f (by omega)]; omega, by rw [hw, ← mE f (by omega), ← b4, if_neg (by omega)]; omega⟩ _ _ _ _ (by omega)), fun c36 => ⟨fun c44 => (main _ _ _ _ _ _ ⟨by omega, by omega, by omega, mE _ (by omega), by rw [← mE f (by omega)]; omega, by rw [hw, ← mE f (by omega), ← b4, if_neg (by omega)]; omega⟩ _ _ _ _ (by omega)), fun c44 => ⟨(by omega), fun r48 hr48 => (main _ _ _ _ _ _ ⟨by omega, by omega, by omega, mE _ (by omega), by rw [← mE f (by omega)]; omega, by rw [hw, ← mE f (by omega), ← b4, ← b2, if_pos (by omega)]; omega⟩ _ _ _ _ (by omega))⟩⟩⟩⟩⟩
  exact zp_BOmak34_0 (by omega) hn ⟨(by omega), fun t0 e0 => ⟨(by omega), fun t1 e1 => ⟨(by omega), fun t2 e2 => ⟨(by omega), fun t3 e3 => (h18 _ _ _ _ _ _ _ _ _ _ (by omega) (by omega))⟩⟩⟩⟩
noncomputable def ak_ZBOpby61 : List jI := ak_ZBOpby34
theorem ao_ZBOpby61 : jokLG jtF lk_BO "ChessHouse$Board" jcl jtb 5 prog_3_method_22_code 0 ak_ZBOpby61 = true := ao_ZBOpby34
noncomputable def zm_BOpby61 : zM := (some .int, { frames := 0, cells := 0, slots := 0, locals := 0 }, ([], []), [], ak_ZBOpby61)
noncomputable def zc_BOpby61 (vals : List zv) (W : zW) (post : zPo) : Prop := ∃ f t : Int, vals = [.inr (.inr (some (.inl 61))), .inl (f), .inl (t)] ∧ ((0 ≤ f ∧ f < 64) ∧ (0 ≤ t ∧ t < 64) ∧ (0 ≤ W.1 61 2 ∧ W.1 61 2 ≤ 1)) ∧ ∀ r : Int, (r = cPb (W.2.1 62) (W.1 61 2) f t) → post (some (.inl r)) W
set_option maxRecDepth 8000 in
theorem zp_BOpby61_0 {n K : Nat} {W : zW} {post : zPo} {f t : Int} {u3 u4 : Option zv} (hK : 56 ≤ K) (hn : 142 ≤ n) (h : (-2147483648 ≤ t - f ∧ t - f ≤ 2147483647) ∧ ((t - f) = 16 → (-2147483648 ≤ 1 - (W.1 61 2) ∧ 1 - (W.1 61 2) ≤ 2147483647) ∧ (0 ≤ (1 - (W.1 61 2)) ∧ (1 - (W.1 61 2)) * 8 ≤ 2147483647) ∧ ∀ t0 : Int, t0 = (1 - (W.1 61 2)) * 8 → (0 ≤ t0 ∧ t0 ≤ 2147483647 ∧ t0 % 2 = 0 ∧ 0 ≤ (1 : Int) ∧ (1 : Int) < 2) ∧ ∀ t1 : Int, t1 = t0 + 1 → (0 ≤ t ∧ t ≤ 2147483647) ∧ ∀ t2 : Int, t2 = t % 8 → (t2 ≤ 0 → (0 ≤ t ∧ t ≤ 2147483647) ∧ ∀ t3 : Int, t3 = t % 8 → (7 ≤ t3 → post (some (.inl (-1))) W) ∧ (¬ 7 ≤ t3 → (-2147483648 ≤ t + 1 ∧ t + 1 ≤ 2147483647) ∧ (0 ≤ (t + 1) ∧ (t + 1) < 64) ∧ (¬ (W.2.1 62 (t + 1)) = t1 → post (some (.inl (-1))) W) ∧ ((W.2.1 62 (t + 1)) = t1 → (-2147483648 ≤ f + t ∧ f + t ≤ 2147483647) ∧ (-2147483648 ≤ (f + t) ∧ (f + t) ≤ 2147483647) ∧ ∀ t4 : Int, t4 = (f + t) / 2 → post (some (.inl (t4))) W))) ∧ (¬ t2 ≤ 0 → (-2147483648 ≤ t - 1 ∧ t - 1 ≤ 2147483647) ∧ (0 ≤ (t - 1) ∧ (t - 1) < 64) ∧ ((W.2.1 62 (t - 1)) = t1 → (-2147483648 ≤ f + t ∧ f + t ≤ 2147483647) ∧ (-2147483648 ≤ (f + t) ∧ (f + t) ≤ 2147483647) ∧ ∀ t5 : Int, t5 = (f + t) / 2 → post (some (.inl (t5))) W) ∧ (¬ (W.2.1 62 (t - 1)) = t1 → (0 ≤ t ∧ t ≤ 2147483647) ∧ ∀ t6 : Int, t6 = t % 8 → (7 ≤ t6 → post (some (.inl (-1))) W) ∧ (¬ 7 ≤ t6 → (-2147483648 ≤ t + 1 ∧ t + 1 ≤ 2147483647) ∧ (0 ≤ (t + 1) ∧ (t + 1) < 64) ∧ (¬ (W.2.1 62 (t + 1)) = t1 → post (some (.inl (-1))) W) ∧ ((W.2.1 62 (t + 1)) = t1 → (-2147483648 ≤ f + t ∧ f + t ≤ 2147483647) ∧ (-2147483648 ≤ (f + t) ∧ (f + t) ≤ 2147483647) ∧ ∀ t7 : Int, t7 = (f + t) / 2 → post (some (.inl (t7))) W))))) ∧ (¬ (t - f) = 16 → (-2147483648 ≤ f - t ∧ f - t ≤ 2147483647) ∧ ((f - t) = 16 → (-2147483648 ≤ 1 - (W.1 61 2) ∧ 1 - (W.1 61 2) ≤ 2147483647) ∧ (0 ≤ (1 - (W.1 61 2)) ∧ (1 - (W.1 61 2)) * 8 ≤ 2147483647) ∧ ∀ t8 : Int, t8 = (1 - (W.1 61 2)) * 8 → (0 ≤ t8 ∧ t8 ≤ 2147483647 ∧ t8 % 2 = 0 ∧ 0 ≤ (1 : Int) ∧ (1 : Int) < 2) ∧ ∀ t9 : Int, t9 = t8 + 1 → (0 ≤ t ∧ t ≤ 2147483647) ∧ ∀ t10 : Int, t10 = t % 8 → (t10 ≤ 0 → (0 ≤ t ∧ t ≤ 2147483647) ∧ ∀ t11 : Int, t11 = t % 8 → (7 ≤ t11 → post (some (.inl (-1))) W) ∧ (¬ 7 ≤ t11 → (-2147483648 ≤ t + 1 ∧ t + 1 ≤ 2147483647) ∧ (0 ≤ (t + 1) ∧ (t + 1) < 64) ∧ (¬ (W.2.1 62 (t + 1)) = t9 → post (some (.inl (-1))) W) ∧ ((W.2.1 62 (t + 1)) = t9 → (-2147483648 ≤ f + t ∧ f + t ≤ 2147483647) ∧ (-2147483648 ≤ (f + t) ∧ (f + t) ≤ 2147483647) ∧ ∀ t12 : Int, t12 = (f + t) / 2 → post (some (.inl (t12))) W))) ∧ (¬ t10 ≤ 0 → (-2147483648 ≤ t - 1 ∧ t - 1 ≤ 2147483647) ∧ (0 ≤ (t - 1) ∧ (t - 1) < 64) ∧ ((W.2.1 62 (t - 1)) = t9 → (-2147483648 ≤ f + t ∧ f + t ≤ 2147483647) ∧ (-2147483648 ≤ (f + t) ∧ (f + t) ≤ 2147483647) ∧ ∀ t13 : Int, t13 = (f + t) / 2 → post (some (.inl (t13))) W) ∧ (¬ (W.2.1 62 (t - 1)) = t9 → (0 ≤ t ∧ t ≤ 2147483647) ∧ ∀ t14 : Int, t14 = t % 8 → (7 ≤ t14 → post (some (.inl (-1))) W) ∧ (¬ 7 ≤ t14 → (-2147483648 ≤ t + 1 ∧ t + 1 ≤ 2147483647) ∧ (0 ≤ (t + 1) ∧ (t + 1) < 64) ∧ (¬ (W.2.1 62 (t + 1)) = t9 → post (some (.inl (-1))) W) ∧ ((W.2.1 62 (t + 1)) = t9 → (-2147483648 ≤ f + t ∧ f + t ≤ 2147483647) ∧ (-2147483648 ≤ (f + t) ∧ (f + t) ≤ 2147483647) ∧ ∀ t15 : Int, t15 = (f + t) / 2 → post (some (.inl (t15))) W))))) ∧ (¬ (f - t) = 16 → post (some (.inl (-1))) W))) : zwp jtb zsh n zm_BOpby61 post K (lGo ak_ZBOpby61 0) 0 [some (.inr (.inr (some (.inl 61)))), some (.inl (f)), some (.inl (t)), u3, u4] [] W := by
  obtain ⟨kk__, rfl⟩ : ∃ kk__, K = kk__ + 56 := ⟨K - 56, by omega⟩
  exact (show (-2147483648 ≤ t - f ∧ t - f ≤ 2147483647) ∧ ((t - f) = 16 → 61 < n ∧ 10 = 10 ∧ (-2147483648 ≤ 1 - (W.1 61 2) ∧ 1 - (W.1 61 2) ≤ 2147483647) ∧ (((lI t &&& lI 7).toInt) ≤ 0 → (7 ≤ ((lI t &&& lI 7).toInt) → ((0 : Int) = 0 → 1 = 1 ∧ True ∧ post (some (.inl (-1))) W) ∧ (¬ (0 : Int) = 0 → zwp jtb zsh n zm_BOpby61 post (kk__ + 29) (lGo ak_ZBOpby61 81) 81 [some (.inr (.inr (some (.inl 61)))), some (.inl (f)), some (.inl (t)), some (.inl (((lI ((lI (1 - (W.1 61 2)) <<< (lI 3 &&& 31)).toInt) ||| lI 1).toInt))), some (.inl (0))] [] W)) ∧ (¬ 7 ≤ ((lI t &&& lI 7).toInt) → 61 < n ∧ 10 = 10 ∧ (-2147483648 ≤ t + 1 ∧ t + 1 ≤ 2147483647) ∧ 62 < n ∧ FieldType.int = FieldType.int ∧ (0 ≤ (t + 1) ∧ (t + 1) < 64) ∧ (¬ (W.2.1 62 (t + 1)) = ((lI ((lI (1 - (W.1 61 2)) <<< (lI 3 &&& 31)).toInt) ||| lI 1).toInt) → ((0 : Int) = 0 → 1 = 1 ∧ True ∧ post (some (.inl (-1))) W) ∧ (¬ (0 : Int) = 0 → zwp jtb zsh n zm_BOpby61 post (kk__ + 21) (lGo ak_ZBOpby61 81) 81 [some (.inr (.inr (some (.inl 61)))), some (.inl (f)), some (.inl (t)), some (.inl (((lI ((lI (1 - (W.1 61 2)) <<< (lI 3 &&& 31)).toInt) ||| lI 1).toInt))), some (.inl (0))] [] W)) ∧ ((W.2.1 62 (t + 1)) = ((lI ((lI (1 - (W.1 61 2)) <<< (lI 3 &&& 31)).toInt) ||| lI 1).toInt) → ((1 : Int) = 0 → zwp jtb zsh n zm_BOpby61 post (kk__ + 20) (lGo ak_ZBOpby61 89) 89 [some (.inr (.inr (some (.inl 61)))), some (.inl (f)), some (.inl (t)), some (.inl (((lI ((lI (1 - (W.1 61 2)) <<< (lI 3 &&& 31)).toInt) ||| lI 1).toInt))), some (.inl (1))] [] W) ∧ (¬ (1 : Int) = 0 → (-2147483648 ≤ f + t ∧ f + t ≤ 2147483647) ∧ 1 = 1 ∧ True ∧ post (some (.inl (((lI (f + t) >>> (lI 1 &&& 31)).toInt)))) W)))) ∧ (¬ ((lI t &&& lI 7).toInt) ≤ 0 → 61 < n ∧ 10 = 10 ∧ (-2147483648 ≤ t - 1 ∧ t - 1 ≤ 2147483647) ∧ 62 < n ∧ FieldType.int = FieldType.int ∧ (0 ≤ (t - 1) ∧ (t - 1) < 64) ∧ ((W.2.1 62 (t - 1)) = ((lI ((lI (1 - (W.1 61 2)) <<< (lI 3 &&& 31)).toInt) ||| lI 1).toInt) → ((1 : Int) = 0 → zwp jtb zsh n zm_BOpby61 post (kk__ + 25) (lGo ak_ZBOpby61 89) 89 [some (.inr (.inr (some (.inl 61)))), some (.inl (f)), some (.inl (t)), some (.inl (((lI ((lI (1 - (W.1 61 2)) <<< (lI 3 &&& 31)).toInt) ||| lI 1).toInt))), some (.inl (1))] [] W) ∧ (¬ (1 : Int) = 0 → (-2147483648 ≤ f + t ∧ f + t ≤ 2147483647) ∧ 1 = 1 ∧ True ∧ post (some (.inl (((lI (f + t) >>> (lI 1 &&& 31)).toInt)))) W)) ∧ (¬ (W.2.1 62 (t - 1)) = ((lI ((lI (1 - (W.1 61 2)) <<< (lI 3 &&& 31)).toInt) ||| lI 1).toInt) → (7 ≤ ((lI t &&& lI 7).toInt) → ((0 : Int) = 0 → 1 = 1 ∧ True ∧ post (some (.inl (-1))) W) ∧ (¬ (0 : Int) = 0 → zwp jtb zsh n zm_BOpby61 post (kk__ + 21) (lGo ak_ZBOpby61 81) 81 [some (.inr (.inr (some (.inl 61)))), some (.inl (f)), some (.inl (t)), some (.inl (((lI ((lI (1 - (W.1 61 2)) <<< (lI 3 &&& 31)).toInt) ||| lI 1).toInt))), some (.inl (0))] [] W)) ∧ (¬ 7 ≤ ((lI t &&& lI 7).toInt) → 61 < n ∧ 10 = 10 ∧ (-2147483648 ≤ t + 1 ∧ t + 1 ≤ 2147483647) ∧ 62 < n ∧ FieldType.int = FieldType.int ∧ (0 ≤ (t + 1) ∧ (t + 1) < 64) ∧ (¬ (W.2.1 62 (t + 1)) = ((lI ((lI (1 - (W.1 61 2)) <<< (lI 3 &&& 31)).toInt) ||| lI 1).toInt) → ((0 : Int) = 0 → 1 = 1 ∧ True ∧ post (some (.inl (-1))) W) ∧ (¬ (0 : Int) = 0 → zwp jtb zsh n zm_BOpby61 post (kk__ + 13) (lGo ak_ZBOpby61 81) 81 [some (.inr (.inr (some (.inl 61)))), some (.inl (f)), some (.inl (t)), some (.inl (((lI ((lI (1 - (W.1 61 2)) <<< (lI 3 &&& 31)).toInt) ||| lI 1).toInt))), some (.inl (0))] [] W)) ∧ ((W.2.1 62 (t + 1)) = ((lI ((lI (1 - (W.1 61 2)) <<< (lI 3 &&& 31)).toInt) ||| lI 1).toInt) → ((1 : Int) = 0 → zwp jtb zsh n zm_BOpby61 post (kk__ + 12) (lGo ak_ZBOpby61 89) 89 [some (.inr (.inr (some (.inl 61)))), some (.inl (f)), some (.inl (t)), some (.inl (((lI ((lI (1 - (W.1 61 2)) <<< (lI 3 &&& 31)).toInt) ||| lI 1).toInt))), some (.inl (1))] [] W) ∧ (¬ (1 : Int) = 0 → (-2147483648 ≤ f + t ∧ f + t ≤ 2147483647) ∧ 1 = 1 ∧ True ∧ post (some (.inl (((lI (f + t) >>> (lI 1 &&& 31)).toInt)))) W)))))) ∧ (¬ (t - f) = 16 → (-2147483648 ≤ f - t ∧ f - t ≤ 2147483647) ∧ ((f - t) = 16 → 61 < n ∧ 10 = 10 ∧ (-2147483648 ≤ 1 - (W.1 61 2) ∧ 1 - (W.1 61 2) ≤ 2147483647) ∧ (((lI t &&& lI 7).toInt) ≤ 0 → (7 ≤ ((lI t &&& lI 7).toInt) → ((0 : Int) = 0 → 1 = 1 ∧ True ∧ post (some (.inl (-1))) W) ∧ (¬ (0 : Int) = 0 → zwp jtb zsh n zm_BOpby61 post (kk__ + 24) (lGo ak_ZBOpby61 81) 81 [some (.inr (.inr (some (.inl 61)))), some (.inl (f)), some (.inl (t)), some (.inl (((lI ((lI (1 - (W.1 61 2)) <<< (lI 3 &&& 31)).toInt) ||| lI 1).toInt))), some (.inl (0))] [] W)) ∧ (¬ 7 ≤ ((lI t &&& lI 7).toInt) → 61 < n ∧ 10 = 10 ∧ (-2147483648 ≤ t + 1 ∧ t + 1 ≤ 2147483647) ∧ 62 < n ∧ FieldType.int = FieldType.int ∧ (0 ≤ (t + 1) ∧ (t + 1) < 64) ∧ (¬ (W.2.1 62 (t + 1)) = ((lI ((lI (1 - (W.1 61 2)) <<< (lI 3 &&& 31)).toInt) ||| lI 1).toInt) → ((0 : Int) = 0 → 1 = 1 ∧ True ∧ post (some (.inl (-1))) W) ∧ (¬ (0 : Int) = 0 → zwp jtb zsh n zm_BOpby61 post (kk__ + 16) (lGo ak_ZBOpby61 81) 81 [some (.inr (.inr (some (.inl 61)))), some (.inl (f)), some (.inl (t)), some (.inl (((lI ((lI (1 - (W.1 61 2)) <<< (lI 3 &&& 31)).toInt) ||| lI 1).toInt))), some (.inl (0))] [] W)) ∧ ((W.2.1 62 (t + 1)) = ((lI ((lI (1 - (W.1 61 2)) <<< (lI 3 &&& 31)).toInt) ||| lI 1).toInt) → ((1 : Int) = 0 → zwp jtb zsh n zm_BOpby61 post (kk__ + 15) (lGo ak_ZBOpby61 89) 89 [some (.inr (.inr (some (.inl 61)))), some (.inl (f)), some (.inl (t)), some (.inl (((lI ((lI (1 - (W.1 61 2)) <<< (lI 3 &&& 31)).toInt) ||| lI 1).toInt))), some (.inl (1))] [] W) ∧ (¬ (1 : Int) = 0 → (-2147483648 ≤ f + t ∧ f + t ≤ 2147483647) ∧ 1 = 1 ∧ True ∧ post (some (.inl (((lI (f + t) >>> (lI 1 &&& 31)).toInt)))) W)))) ∧ (¬ ((lI t &&& lI 7).toInt) ≤ 0 → 61 < n ∧ 10 = 10 ∧ (-2147483648 ≤ t - 1 ∧ t - 1 ≤ 2147483647) ∧ 62 < n ∧ FieldType.int = FieldType.int ∧ (0 ≤ (t - 1) ∧ (t - 1) < 64) ∧ ((W.2.1 62 (t - 1)) = ((lI ((lI (1 - (W.1 61 2)) <<< (lI 3 &&& 31)).toInt) ||| lI 1).toInt) → ((1 : Int) = 0 → zwp jtb zsh n zm_BOpby61 post (kk__ + 20) (lGo ak_ZBOpby61 89) 89 [some (.inr (.inr (some (.inl 61)))), some (.inl (f)), some (.inl (t)), some (.inl (((lI ((lI (1 - (W.1 61 2)) <<< (lI 3 &&& 31)).toInt) ||| lI 1).toInt))), some (.inl (1))] [] W) ∧ (¬ (1 : Int) = 0 → (-2147483648 ≤ f + t ∧ f + t ≤ 2147483647) ∧ 1 = 1 ∧ True ∧ post (some (.inl (((lI (f + t) >>> (lI 1 &&& 31)).toInt)))) W)) ∧ (¬ (W.2.1 62 (t - 1)) = ((lI ((lI (1 - (W.1 61 2)) <<< (lI 3 &&& 31)).toInt) ||| lI 1).toInt) → (7 ≤ ((lI t &&& lI 7).toInt) → ((0 : Int) = 0 → 1 = 1 ∧ True ∧ post (some (.inl (-1))) W) ∧ (¬ (0 : Int) = 0 → zwp jtb zsh n zm_BOpby61 post (kk__ + 16) (lGo ak_ZBOpby61 81) 81 [some (.inr (.inr (some (.inl 61)))), some (.inl (f)), some (.inl (t)), some (.inl (((lI ((lI (1 - (W.1 61 2)) <<< (lI 3 &&& 31)).toInt) ||| lI 1).toInt))), some (.inl (0))] [] W)) ∧ (¬ 7 ≤ ((lI t &&& lI 7).toInt) → 61 < n ∧ 10 = 10 ∧ (-2147483648 ≤ t + 1 ∧ t + 1 ≤ 2147483647) ∧ 62 < n ∧ FieldType.int = FieldType.int ∧ (0 ≤ (t + 1) ∧ (t + 1) < 64) ∧ (¬ (W.2.1 62 (t + 1)) = ((lI ((lI (1 - (W.1 61 2)) <<< (lI 3 &&& 31)).toInt) ||| lI 1).toInt) → ((0 : Int) = 0 → 1 = 1 ∧ True ∧ post (some (.inl (-1))) W) ∧ (¬ (0 : Int) = 0 → zwp jtb zsh n zm_BOpby61 post (kk__ + 8) (lGo ak_ZBOpby61 81) 81 [some (.inr (.inr (some (.inl 61)))), some (.inl (f)), some (.inl (t)), some (.inl (((lI ((lI (1 - (W.1 61 2)) <<< (lI 3 &&& 31)).toInt) ||| lI 1).toInt))), some (.inl (0))] [] W)) ∧ ((W.2.1 62 (t + 1)) = ((lI ((lI (1 - (W.1 61 2)) <<< (lI 3 &&& 31)).toInt) ||| lI 1).toInt) → ((1 : Int) = 0 → zwp jtb zsh n zm_BOpby61 post (kk__ + 7) (lGo ak_ZBOpby61 89) 89 [some (.inr (.inr (some (.inl 61)))), some (.inl (f)), some (.inl (t)), some (.inl (((lI ((lI (1 - (W.1 61 2)) <<< (lI 3 &&& 31)).toInt) ||| lI 1).toInt))), some (.inl (1))] [] W) ∧ (¬ (1 : Int) = 0 → (-2147483648 ≤ f + t ∧ f + t ≤ 2147483647) ∧ 1 = 1 ∧ True ∧ post (some (.inl (((lI (f + t) >>> (lI 1 &&& 31)).toInt)))) W)))))) ∧ (¬ (f - t) = 16 → 1 = 1 ∧ True ∧ post (some (.inl (-1))) W)) from ⟨(h).1, ⟨fun c5_4 => ⟨(Nat.lt_of_lt_of_le (by decide) hn), rfl, ⟨((((h).2).1 c5_4)).1, (have h := ((((((h).2).1 c5_4)).2).2 _ (z_sl3 (((((h).2).1 c5_4)).2).1)); (have h := ((((h).2 _ (z_or1 (h).1))).2 _ (z_an7 (((h).2 _ (z_or1 (h).1))).1)); ⟨fun c33_17 => (have h := ((((h).1 c33_17)).2 _ (z_an7 (((h).1 c33_17)).1)); ⟨fun c54_22 => ⟨fun _ => ⟨rfl, trivial, ((h).1 c54_22)⟩, fun hc26 => absurd hc26 (by decide)⟩, fun c54_22 => ⟨(Nat.lt_of_lt_of_le (by decide) hn), rfl, ⟨(((h).2 c54_22)).1, ⟨(Nat.lt_of_lt_of_le (by decide) hn), rfl, ((((h).2 c54_22)).2).1, ⟨fun c66_30 => (have h := ((((((h).2 c54_22)).2).2).1 c66_30); ⟨fun _ => ⟨rfl, trivial, h⟩, fun hc34 => absurd hc34 (by decide)⟩), fun c66_30 => (have h := ((((((h).2 c54_22)).2).2).2 c66_30); ⟨fun hc35 => absurd hc35 (by decide), fun _ => ⟨(h).1, (have h := (((h).2).2 _ (z_sr1 ((h).2).1)); ⟨rfl, trivial, h⟩)⟩⟩)⟩⟩⟩⟩⟩), fun c33_17 => ⟨(Nat.lt_of_lt_of_le (by decide) hn), rfl, ⟨(((h).2 c33_17)).1, ⟨(Nat.lt_of_lt_of_le (by decide) hn), rfl, ((((h).2 c33_17)).2).1, ⟨fun c45_25 => (have h := ((((((h).2 c33_17)).2).2).1 c45_25); ⟨fun hc30 => absurd hc30 (by decide), fun _ => ⟨(h).1, (have h := (((h).2).2 _ (z_sr1 ((h).2).1)); ⟨rfl, trivial, h⟩)⟩⟩), fun c45_25 => (have h := ((((((h).2 c33_17)).2).2).2 c45_25); ⟨fun c54_30 => (have h := ((((h).2 _ (z_an7 (h).1))).1 c54_30); ⟨fun _ => ⟨rfl, trivial, h⟩, fun hc34 => absurd hc34 (by decide)⟩), fun c54_30 => (have h := ((((h).2 _ (z_an7 (h).1))).2 c54_30); ⟨(Nat.lt_of_lt_of_le (by decide) hn), rfl, ⟨(h).1, ⟨(Nat.lt_of_lt_of_le (by decide) hn), rfl, ((h).2).1, ⟨fun c66_38 => ⟨fun _ => ⟨rfl, trivial, ((((h).2).2).1 c66_38)⟩, fun hc42 => absurd hc42 (by decide)⟩, fun c66_38 => ⟨fun hc43 => absurd hc43 (by decide), fun _ => ⟨(((((h).2).2).2 c66_38)).1, (have h := (((((h).2).2).2 c66_38)).2; ⟨rfl, trivial, ((h).2 _ (z_sr1 (h).1))⟩)⟩⟩⟩⟩⟩⟩)⟩)⟩⟩⟩⟩⟩))⟩⟩, fun c5_4 => ⟨((((h).2).2 c5_4)).1, ⟨fun c13_9 => (have h := ((((((h).2).2 c5_4)).2).1 c13_9); ⟨(Nat.lt_of_lt_of_le (by decide) hn), rfl, ⟨(h).1, (have h := (((h).2).2 _ (z_sl3 ((h).2).1)); (have h := ((((h).2 _ (z_or1 (h).1))).2 _ (z_an7 (((h).2 _ (z_or1 (h).1))).1)); ⟨fun c33_22 => (have h := ((((h).1 c33_22)).2 _ (z_an7 (((h).1 c33_22)).1)); ⟨fun c54_27 => ⟨fun _ => ⟨rfl, trivial, ((h).1 c54_27)⟩, fun hc31 => absurd hc31 (by decide)⟩, fun c54_27 => ⟨(Nat.lt_of_lt_of_le (by decide) hn), rfl, ⟨(((h).2 c54_27)).1, ⟨(Nat.lt_of_lt_of_le (by decide) hn), rfl, ((((h).2 c54_27)).2).1, ⟨fun c66_35 => (have h := ((((((h).2 c54_27)).2).2).1 c66_35); ⟨fun _ => ⟨rfl, trivial, h⟩, fun hc39 => absurd hc39 (by decide)⟩), fun c66_35 => (have h := ((((((h).2 c54_27)).2).2).2 c66_35); ⟨fun hc40 => absurd hc40 (by decide), fun _ => ⟨(h).1, (have h := (((h).2).2 _ (z_sr1 ((h).2).1)); ⟨rfl, trivial, h⟩)⟩⟩)⟩⟩⟩⟩⟩), fun c33_22 => ⟨(Nat.lt_of_lt_of_le (by decide) hn), rfl, ⟨(((h).2 c33_22)).1, ⟨(Nat.lt_of_lt_of_le (by decide) hn), rfl, ((((h).2 c33_22)).2).1, ⟨fun c45_30 => (have h := ((((((h).2 c33_22)).2).2).1 c45_30); ⟨fun hc35 => absurd hc35 (by decide), fun _ => ⟨(h).1, (have h := (((h).2).2 _ (z_sr1 ((h).2).1)); ⟨rfl, trivial, h⟩)⟩⟩), fun c45_30 => (have h := ((((((h).2 c33_22)).2).2).2 c45_30); ⟨fun c54_35 => (have h := ((((h).2 _ (z_an7 (h).1))).1 c54_35); ⟨fun _ => ⟨rfl, trivial, h⟩, fun hc39 => absurd hc39 (by decide)⟩), fun c54_35 => (have h := ((((h).2 _ (z_an7 (h).1))).2 c54_35); ⟨(Nat.lt_of_lt_of_le (by decide) hn), rfl, ⟨(h).1, ⟨(Nat.lt_of_lt_of_le (by decide) hn), rfl, ((h).2).1, ⟨fun c66_43 => ⟨fun _ => ⟨rfl, trivial, ((((h).2).2).1 c66_43)⟩, fun hc47 => absurd hc47 (by decide)⟩, fun c66_43 => ⟨fun hc48 => absurd hc48 (by decide), fun _ => ⟨(((((h).2).2).2 c66_43)).1, (have h := (((((h).2).2).2 c66_43)).2; ⟨rfl, trivial, ((h).2 _ (z_sr1 (h).1))⟩)⟩⟩⟩⟩⟩⟩)⟩)⟩⟩⟩⟩⟩))⟩⟩), fun c13_9 => (have h := ((((((h).2).2 c5_4)).2).2 c13_9); ⟨rfl, trivial, h⟩)⟩⟩⟩⟩)
theorem zk_BOpby61 {l : Launch} {E : jE} {n : Nat} (hn : 142 ≤ n) : zHas l E jcl jtb lw_tbl zsh n (y_BO_passedBy, false, 3, 10, { frames := 0, cells := 0, slots := 0, locals := 0 }, zc_BOpby61) := by
  refine ⟨⟨rfl, rfl, ⟨show 1 ≤ 3 by decide, m_BO_passedBy, i_BO_passedBy, e_BO_passedBy, fun _ => ⟨_, rfl, rfl⟩⟩⟩, ?_⟩
  rintro vz W po hO hW ⟨f, t, rfl, hq, hp⟩
  refine zmet (m := zm_BOpby61) rfl (by decide) (fun _ _ => jtF_ok) lo_BO ao_ZBOpby61 jC (fun q h => by cases h) (fun q h => by cases h) (fun q h => by cases h) (Nat.le_of_ble_eq_true rfl) hO hW (120) ?_
  exact zp_BOpby61_0 (by omega) hn ⟨(by omega), ⟨fun c5 => ⟨(by omega), ⟨(by omega), fun t0 e0 => ⟨(by omega), fun t1 e1 => ⟨(by omega), fun t2 e2 => ⟨fun c33 => ⟨(by omega), fun t3 e3 => ⟨fun c54 => (hp _ (by unfold cPb; rw [if_neg (by omega)])), fun c54 => ⟨(by omega), ⟨(by omega), ⟨fun c66 => (hp _ (by unfold cPb; rw [if_neg (by omega)])), fun c66 => ⟨(by omega), ⟨(by omega), fun t4 e4 => (hp _ (by unfold cPb; rw [if_pos (by omega)]; omega))⟩⟩⟩⟩⟩⟩⟩, fun c33 => ⟨(by omega), ⟨(by omega), ⟨fun c45 => ⟨(by omega), ⟨(by omega), fun t5 e5 => (hp _ (by unfold cPb; rw [if_pos (by omega)]; omega))⟩⟩, fun c45 => ⟨(by omega), fun t6 e6 => ⟨fun c54 => (hp _ (by unfold cPb; rw [if_neg (by omega)])), fun c54 => ⟨(by omega), ⟨(by omega), ⟨fun c66 => (hp _ (by unfold cPb; rw [if_neg (by omega)])), fun c66 => ⟨(by omega), ⟨(by omega), fun t7 e7 => (hp _ (by unfold cPb; rw [if_pos (by omega)]; omega))⟩⟩⟩⟩⟩⟩⟩⟩⟩⟩⟩⟩⟩⟩⟩, fun c5 => ⟨(by omega), ⟨fun c13 => ⟨(by omega), ⟨(by omega), fun t8 e8 => ⟨(by omega), fun t9 e9 => ⟨(by omega), fun t10 e10 => ⟨fun c33 => ⟨(by omega), fun t11 e11 => ⟨fun c54 => (hp _ (by unfold cPb; rw [if_neg (by omega)])), fun c54 => ⟨(by omega), ⟨(by omega), ⟨fun c66 => (hp _ (by unfold cPb; rw [if_neg (by omega)])), fun c66 => ⟨(by omega), ⟨(by omega), fun t12 e12 => (hp _ (by unfold cPb; rw [if_pos (by omega)]; omega))⟩⟩⟩⟩⟩⟩⟩, fun c33 => ⟨(by omega), ⟨(by omega), ⟨fun c45 => ⟨(by omega), ⟨(by omega), fun t13 e13 => (hp _ (by unfold cPb; rw [if_pos (by omega)]; omega))⟩⟩, fun c45 => ⟨(by omega), fun t14 e14 => ⟨fun c54 => (hp _ (by unfold cPb; rw [if_neg (by omega)])), fun c54 => ⟨(by omega), ⟨(by omega), ⟨fun c66 => (hp _ (by unfold cPb; rw [if_neg (by omega)])), fun c66 => ⟨(by omega), ⟨(by omega), fun t15 e15 => (hp _ (by unfold cPb; rw [if_pos (by omega)]; omega))⟩⟩⟩⟩⟩⟩⟩⟩⟩⟩⟩⟩⟩⟩⟩, fun c13 => (hp _ (by unfold cPb; rw [if_neg (by omega)]))⟩⟩⟩⟩
noncomputable def ak_ZBOmak61 : List jI := ak_ZBOmak34
theorem ao_ZBOmak61 : jokLG jtF lk_BO "ChessHouse$Board" jcl jtb 11 prog_3_method_21_code 0 ak_ZBOmak61 = true := ao_ZBOmak34
noncomputable def zm_BOmak61 : zM := (some .long, { frames := 1, cells := 0, slots := 0, locals := 24 }, ([(125, 1179, 0), (132, 1286, 1), (102, 656, 2), (138, 1309, 3)], []), [(y_BO_passedPawn, false, 1, 10, { frames := 0, cells := 0, slots := 0, locals := 0 }, zc_BOppw61), (y_BO_lift, false, 2, 10, { frames := 0, cells := 0, slots := 0, locals := 0 }, zc_BOlif61), (y_BO_put, false, 3, 10, { frames := 0, cells := 0, slots := 0, locals := 0 }, zc_BOput61), (y_BO_passedBy, false, 3, 10, { frames := 0, cells := 0, slots := 0, locals := 0 }, zc_BOpby61)], ak_ZBOmak61)
noncomputable def zc_BOmak61 (vals : List zv) (W : zW) (post : zPo) : Prop := ∃ x : Int, ∃ q : rQ, vals = [.inr (.inr (some (.inl 61))), .inl (x)] ∧ (zBo W 61 q ∧ zGd q ∧ cL q x ∧ (-1000000 ≤ W.1 61 6 ∧ W.1 61 6 ≤ 1000000) ∧ (0 ≤ W.1 61 5 ∧ W.1 61 5 ≤ 1000000)) ∧ ∀ r : Int64, ∀ V : zW, (zMx 61 W V ∧ zBo V 61 (rMk q (cMm x)) ∧ V.1 61 6 = W.1 61 6 + q.2.1 ∧ cUd r (q.1 (rWh q (cMm x))) q.2.2.1 q.2.2.2 ∧ (0 ≤ V.1 61 5 ∧ V.1 61 5 ≤ W.1 61 5 + 1) ∧ cUk r (W.1 61 5)) → post (some (.inr (.inl r))) V
set_option maxRecDepth 60000 in
theorem zp_BOmak61_0 {n K : Nat} {W : zW} {post : zPo} {x : Int} {u2 u3 u4 u5 u6 u7 u8 u9 u10 : Option zv} (hK : 14 ≤ K) (hn : 142 ≤ n) (h : (-2147483648 ≤ x ∧ x ≤ 2147483647) ∧ ∀ t0 : Int, t0 = x / 512 → (-2147483648 ≤ x ∧ x ≤ 2147483647) ∧ ∀ t1 : Int, t1 = x / 8 → (0 ≤ t1 ∧ t1 ≤ 2147483647) ∧ ∀ t2 : Int, t2 = t1 % 64 → (0 ≤ x ∧ x ≤ 2147483647) ∧ ∀ t3 : Int, t3 = x % 8 → zwp jtb zsh n zm_BOmak61 post (K - 14) (lGo ak_ZBOmak61 18) 18 [some (.inr (.inr (some (.inl 61)))), some (.inl (x)), some (.inl (t0)), some (.inl (t2)), some (.inl (t3)), u5, u6, u7, u8, u9, u10] [] W) : zwp jtb zsh n zm_BOmak61 post K (lGo ak_ZBOmak61 0) 0 [some (.inr (.inr (some (.inl 61)))), some (.inl (x)), u2, u3, u4, u5, u6, u7, u8, u9, u10] [] W := by
  obtain ⟨kk__, rfl⟩ : ∃ kk__, K = kk__ + 14 := ⟨K - 14, by omega⟩
  exact (show zwp jtb zsh n zm_BOmak61 post (kk__ + 0) (lGo ak_ZBOmak61 18) 18 [some (.inr (.inr (some (.inl 61)))), some (.inl (x)), some (.inl (((lI x >>> (lI 9 &&& 31)).toInt))), some (.inl (((lI ((lI x >>> (lI 3 &&& 31)).toInt) &&& lI 63).toInt))), some (.inl (((lI x &&& lI 7).toInt))), u5, u6, u7, u8, u9, u10] [] W from (have h := ((((h).2 _ (z_sr9 (h).1))).2 _ (z_sr3 (((h).2 _ (z_sr9 (h).1))).1)); ((((h).2 _ (z_an63 (h).1))).2 _ (z_an7 (((h).2 _ (z_an63 (h).1))).1))))
set_option maxRecDepth 60000 in
theorem zp_BOmak61_18 {n K : Nat} {W : zW} {post : zPo} {x f t bb : Int} {u5 u6 u7 u8 u9 u10 : Option zv} (hK : 20 ≤ K) (hn : 142 ≤ n) (h : (0 ≤ f ∧ f < 64) ∧ (0 ≤ (W.2.1 62 f) ∧ (W.2.1 62 f) ≤ 2147483647) ∧ ∀ t0 : Int, t0 = (W.2.1 62 f) % 8 → (¬ t0 = 1 → zwp jtb zsh n zm_BOmak61 post (K - 14) (lGo ak_ZBOmak61 57) 57 [some (.inr (.inr (some (.inl 61)))), some (.inl (x)), some (.inl (f)), some (.inl (t)), some (.inl (bb)), some (.inl (W.2.1 62 f)), some (.inl (t0)), some (.inl (t)), u8, u9, u10] [] W) ∧ (t0 = 1 → (¬ t = (W.1 61 4) → zwp jtb zsh n zm_BOmak61 post (K - 18) (lGo ak_ZBOmak61 57) 57 [some (.inr (.inr (some (.inl 61)))), some (.inl (x)), some (.inl (f)), some (.inl (t)), some (.inl (bb)), some (.inl (W.2.1 62 f)), some (.inl (t0)), some (.inl (t)), u8, u9, u10] [] W) ∧ (t = (W.1 61 4) → ((0 ≤ W.1 61 2 ∧ W.1 61 2 ≤ 1) ∧ (-100 ≤ W.1 61 4 ∧ W.1 61 4 ≤ 100)) ∧ ∀ r48 : Int, (r48 = W.1 61 4 - 8 + 16 * W.1 61 2) → zwp jtb zsh n zm_BOmak61 post (K - 20) (lGo ak_ZBOmak61 57) 57 [some (.inr (.inr (some (.inl 61)))), some (.inl (x)), some (.inl (f)), some (.inl (t)), some (.inl (bb)), some (.inl (W.2.1 62 f)), some (.inl (t0)), some (.inl (r48)), u8, u9, u10] [] W))) : zwp jtb zsh n zm_BOmak61 post K (lGo ak_ZBOmak61 18) 18 [some (.inr (.inr (some (.inl 61)))), some (.inl (x)), some (.inl (f)), some (.inl (t)), some (.inl (bb)), u5, u6, u7, u8, u9, u10] [] W := by
  obtain ⟨kk__, rfl⟩ : ∃ kk__, K = kk__ + 20 := ⟨K - 20, by omega⟩
  exact (show 61 < n ∧ 10 = 10 ∧ 62 < n ∧ FieldType.int = FieldType.int ∧ (0 ≤ f ∧ f < 64) ∧ (¬ ((lI (W.2.1 62 f) &&& lI 7).toInt) = 1 → zwp jtb zsh n zm_BOmak61 post (kk__ + 6) (lGo ak_ZBOmak61 57) 57 [some (.inr (.inr (some (.inl 61)))), some (.inl (x)), some (.inl (f)), some (.inl (t)), some (.inl (bb)), some (.inl (W.2.1 62 f)), some (.inl (((lI (W.2.1 62 f) &&& lI 7).toInt))), some (.inl (t)), u8, u9, u10] [] W) ∧ (((lI (W.2.1 62 f) &&& lI 7).toInt) = 1 → 61 < n ∧ 10 = 10 ∧ (¬ t = (W.1 61 4) → zwp jtb zsh n zm_BOmak61 post (kk__ + 2) (lGo ak_ZBOmak61 57) 57 [some (.inr (.inr (some (.inl 61)))), some (.inl (x)), some (.inl (f)), some (.inl (t)), some (.inl (bb)), some (.inl (W.2.1 62 f)), some (.inl (((lI (W.2.1 62 f) &&& lI 7).toInt))), some (.inl (t)), u8, u9, u10] [] W) ∧ (t = (W.1 61 4) → 3 = 3 ∧ false = false ∧ jin3 125 1179 0 zm_BOmak61.2.2.1.1 = true ∧ lRm zm_BOmak61.2.1 { frames := 0, cells := 0, slots := 0, locals := 0 } 1 = true ∧ Nat.ble 1 1 = true ∧ Nat.ble 0 8 = true ∧ 61 < n ∧ 10 = 10 ∧ Nat.ble 1000 10 = false ∧ zc_BOppw61 [.inr (.inr (some (.inl 61)))] W (fun vv__ WW__ => zwp jtb zsh n zm_BOmak61 post (kk__ + 2) (lGo ak_ZBOmak61 51) 51 [some (.inr (.inr (some (.inl 61)))), some (.inl (x)), some (.inl (f)), some (.inl (t)), some (.inl (bb)), some (.inl (W.2.1 62 f)), some (.inl (((lI (W.2.1 62 f) &&& lI 7).toInt))), u7, u8, u9, u10] (vv__.toList ++ []) WW__))) from ⟨(Nat.lt_of_lt_of_le (by decide) hn), rfl, ⟨(Nat.lt_of_lt_of_le (by decide) hn), rfl, (h).1, (have h := (((h).2).2 _ (z_an7 ((h).2).1)); ⟨fun c36_11 => ((h).1 c36_11), fun c36_11 => ⟨(Nat.lt_of_lt_of_le (by decide) hn), rfl, ⟨fun c44_15 => ((((h).2 c36_11)).1 c44_15), fun c44_15 => (have h := ((((h).2 c36_11)).2 c44_15); ⟨rfl, rfl, rfl, rfl, rfl, rfl, (Nat.lt_of_lt_of_le (by decide) hn), rfl, rfl, rfl, (h).1, fun r48 hr48 => (show zwp jtb zsh n zm_BOmak61 post (kk__ + 0) (lGo ak_ZBOmak61 57) 57 [some (.inr (.inr (some (.inl 61)))), some (.inl (x)), some (.inl (f)), some (.inl (t)), some (.inl (bb)), some (.inl (W.2.1 62 f)), some (.inl (((lI (W.2.1 62 f) &&& lI 7).toInt))), some (.inl (r48)), u8, u9, u10] [] W from ((h).2 r48 hr48))⟩)⟩⟩⟩)⟩⟩)
set_option maxRecDepth 60000 in
theorem zp_BOmak61_57 {n K : Nat} {W : zW} {post : zPo} {x f t bb mm kd w : Int} {u8 u9 u10 : Option zv} (hK : 34 ≤ K) (hn : 142 ≤ n) (h : (0 ≤ w ∧ w < 64) ∧ (0 ≤ (W.1 61 3) ∧ (W.1 61 3) * 16 ≤ 2147483647) ∧ ∀ t0 : Int, t0 = (W.1 61 3) * 16 → (-2147483648 ≤ (W.1 61 4) + 1 ∧ (W.1 61 4) + 1 ≤ 2147483647) ∧ (0 ≤ ((W.1 61 4) + 1) ∧ ((W.1 61 4) + 1) * 256 ≤ 2147483647) ∧ ∀ t1 : Int, t1 = ((W.1 61 4) + 1) * 256 → ((0 ≤ f ∧ f < 64) ∧ (0 ≤ W.2.1 62 f ∧ W.2.1 62 f < 16) ∧ (-1000 ≤ W.2.1 66 (W.2.1 62 f) ∧ W.2.1 66 (W.2.1 62 f) ≤ 1000)) ∧ ∀ W99 : zW, (zLi 61 W W99 f) → ((W.2.1 62 w) = 0 → zwp jtb zsh n zm_BOmak61 post (K - 31) (lGo ak_ZBOmak61 113) 113 [some (.inr (.inr (some (.inl 61)))), some (.inl (x)), some (.inl (f)), some (.inl (t)), some (.inl (bb)), some (.inl (mm)), some (.inl (kd)), some (.inl (w)), some (.inl (W.2.1 62 w)), some (.inr (.inl (((lI ((lI ((lI (W.2.1 62 w) ||| lI t0).toInt) ||| lI t1).toInt)).toInt64) ||| (((lI (W.1 61 5)).toInt64) <<< ((lI 16).toInt64 &&& 63))))), none] [] W99) ∧ (¬ (W.2.1 62 w) = 0 → ((0 ≤ w ∧ w < 64) ∧ (0 ≤ W99.2.1 62 w ∧ W99.2.1 62 w < 16) ∧ (-1000 ≤ W99.2.1 66 (W99.2.1 62 w) ∧ W99.2.1 66 (W99.2.1 62 w) ≤ 1000)) ∧ ∀ W110 : zW, (zLi 61 W99 W110 w) → zwp jtb zsh n zm_BOmak61 post (K - 34) (lGo ak_ZBOmak61 113) 113 [some (.inr (.inr (some (.inl 61)))), some (.inl (x)), some (.inl (f)), some (.inl (t)), some (.inl (bb)), some (.inl (mm)), some (.inl (kd)), some (.inl (w)), some (.inl (W.2.1 62 w)), some (.inr (.inl (((lI ((lI ((lI (W.2.1 62 w) ||| lI t0).toInt) ||| lI t1).toInt)).toInt64) ||| (((lI (W.1 61 5)).toInt64) <<< ((lI 16).toInt64 &&& 63))))), none] [] W110)) : zwp jtb zsh n zm_BOmak61 post K (lGo ak_ZBOmak61 57) 57 [some (.inr (.inr (some (.inl 61)))), some (.inl (x)), some (.inl (f)), some (.inl (t)), some (.inl (bb)), some (.inl (mm)), some (.inl (kd)), some (.inl (w)), u8, u9, u10] [] W := by
  obtain ⟨kk__, rfl⟩ : ∃ kk__, K = kk__ + 34 := ⟨K - 34, by omega⟩
  exact (show 61 < n ∧ 10 = 10 ∧ 62 < n ∧ FieldType.int = FieldType.int ∧ (0 ≤ w ∧ w < 64) ∧ 61 < n ∧ 10 = 10 ∧ 61 < n ∧ 10 = 10 ∧ (-2147483648 ≤ (W.1 61 4) + 1 ∧ (W.1 61 4) + 1 ≤ 2147483647) ∧ 61 < n ∧ 10 = 10 ∧ 3 = 3 ∧ false = false ∧ jin3 132 1286 1 zm_BOmak61.2.2.1.1 = true ∧ lRm zm_BOmak61.2.1 { frames := 0, cells := 0, slots := 0, locals := 0 } 3 = true ∧ Nat.ble 2 2 = true ∧ Nat.ble 0 8 = true ∧ 61 < n ∧ 10 = 10 ∧ Nat.ble 1000 10 = false ∧ zc_BOlif61 [.inr (.inr (some (.inl 61))), .inl (f)] W (fun vv__ WW__ => zwp jtb zsh n zm_BOmak61 post (kk__ + 5) (lGo ak_ZBOmak61 102) 102 [some (.inr (.inr (some (.inl 61)))), some (.inl (x)), some (.inl (f)), some (.inl (t)), some (.inl (bb)), some (.inl (mm)), some (.inl (kd)), some (.inl (w)), some (.inl (W.2.1 62 w)), some (.inr (.inl (((lI ((lI ((lI (W.2.1 62 w) ||| lI ((lI (W.1 61 3) <<< (lI 4 &&& 31)).toInt)).toInt) ||| lI ((lI ((W.1 61 4) + 1) <<< (lI 8 &&& 31)).toInt)).toInt)).toInt64) ||| (((lI (W.1 61 5)).toInt64) <<< ((lI 16).toInt64 &&& 63))))), none] (vv__.toList ++ []) WW__) from ⟨(Nat.lt_of_lt_of_le (by decide) hn), rfl, ⟨(Nat.lt_of_lt_of_le (by decide) hn), rfl, (h).1, ⟨(Nat.lt_of_lt_of_le (by decide) hn), rfl, (have h := (((h).2).2 _ (z_sl4 ((h).2).1)); ⟨(Nat.lt_of_lt_of_le (by decide) hn), rfl, ⟨(h).1, (have h := (((h).2).2 _ (z_sl8 ((h).2).1)); ⟨(Nat.lt_of_lt_of_le (by decide) hn), rfl, ⟨rfl, rfl, rfl, rfl, rfl, rfl, (Nat.lt_of_lt_of_le (by decide) hn), rfl, rfl, f, rfl, (h).1, fun W99 hr99 => (show ((W.2.1 62 w) = 0 → zwp jtb zsh n zm_BOmak61 post (kk__ + 3) (lGo ak_ZBOmak61 113) 113 [some (.inr (.inr (some (.inl 61)))), some (.inl (x)), some (.inl (f)), some (.inl (t)), some (.inl (bb)), some (.inl (mm)), some (.inl (kd)), some (.inl (w)), some (.inl (W.2.1 62 w)), some (.inr (.inl (((lI ((lI ((lI (W.2.1 62 w) ||| lI ((lI (W.1 61 3) <<< (lI 4 &&& 31)).toInt)).toInt) ||| lI ((lI ((W.1 61 4) + 1) <<< (lI 8 &&& 31)).toInt)).toInt)).toInt64) ||| (((lI (W.1 61 5)).toInt64) <<< ((lI 16).toInt64 &&& 63))))), none] [] W99) ∧ (¬ (W.2.1 62 w) = 0 → 3 = 3 ∧ false = false ∧ jin3 132 1286 1 zm_BOmak61.2.2.1.1 = true ∧ lRm zm_BOmak61.2.1 { frames := 0, cells := 0, slots := 0, locals := 0 } 3 = true ∧ Nat.ble 2 2 = true ∧ Nat.ble 0 8 = true ∧ 61 < n ∧ 10 = 10 ∧ Nat.ble 1000 10 = false ∧ zc_BOlif61 [.inr (.inr (some (.inl 61))), .inl (w)] W99 (fun vv__ WW__ => zwp jtb zsh n zm_BOmak61 post (kk__ + 0) (lGo ak_ZBOmak61 113) 113 [some (.inr (.inr (some (.inl 61)))), some (.inl (x)), some (.inl (f)), some (.inl (t)), some (.inl (bb)), some (.inl (mm)), some (.inl (kd)), some (.inl (w)), some (.inl (W.2.1 62 w)), some (.inr (.inl (((lI ((lI ((lI (W.2.1 62 w) ||| lI ((lI (W.1 61 3) <<< (lI 4 &&& 31)).toInt)).toInt) ||| lI ((lI ((W.1 61 4) + 1) <<< (lI 8 &&& 31)).toInt)).toInt)).toInt64) ||| (((lI (W.1 61 5)).toInt64) <<< ((lI 16).toInt64 &&& 63))))), none] (vv__.toList ++ []) WW__)) from ⟨fun c104_30 => ((((h).2 W99 hr99)).1 c104_30), fun c104_30 => (have h := ((((h).2 W99 hr99)).2 c104_30); ⟨rfl, rfl, rfl, rfl, rfl, rfl, (Nat.lt_of_lt_of_le (by decide) hn), rfl, rfl, w, rfl, (h).1, fun W110 hr110 => (show zwp jtb zsh n zm_BOmak61 post (kk__ + 0) (lGo ak_ZBOmak61 113) 113 [some (.inr (.inr (some (.inl 61)))), some (.inl (x)), some (.inl (f)), some (.inl (t)), some (.inl (bb)), some (.inl (mm)), some (.inl (kd)), some (.inl (w)), some (.inl (W.2.1 62 w)), some (.inr (.inl (((lI ((lI ((lI (W.2.1 62 w) ||| lI ((lI (W.1 61 3) <<< (lI 4 &&& 31)).toInt)).toInt) ||| lI ((lI ((W.1 61 4) + 1) <<< (lI 8 &&& 31)).toInt)).toInt)).toInt64) ||| (((lI (W.1 61 5)).toInt64) <<< ((lI 16).toInt64 &&& 63))))), none] [] W110 from ((h).2 W110 hr110))⟩)⟩)⟩⟩)⟩⟩)⟩⟩⟩)
set_option maxRecDepth 60000 in
theorem zp_BOmak61_113 {n K : Nat} {V : zW} {post : zPo} {x f t bb mm kd w tk : Int} {ud : Int64} {u10 : Option zv} (hK : 10 ≤ K) (hn : 142 ≤ n) (h : (¬ bb = 0 → (0 ≤ ((lI mm &&& lI 8).toInt) ∧ ((lI mm &&& lI 8).toInt) ≤ 2147483647 ∧ ((lI mm &&& lI 8).toInt) % 8 = 0 ∧ 0 ≤ bb ∧ bb < 8) ∧ ∀ t0 : Int, t0 = ((lI mm &&& lI 8).toInt) + bb → ((0 ≤ t ∧ t < 64) ∧ (0 ≤ t0 ∧ t0 < 16) ∧ (-1000 ≤ V.2.1 66 t0 ∧ V.2.1 66 t0 ≤ 1000)) ∧ ∀ W133 : zW, (zPu 61 V W133 t t0) → zwp jtb zsh n zm_BOmak61 post (K - 10) (lGo ak_ZBOmak61 136) 136 [some (.inr (.inr (some (.inl 61)))), some (.inl (x)), some (.inl (f)), some (.inl (t)), some (.inl (bb)), some (.inl (mm)), some (.inl (kd)), some (.inl (w)), some (.inl (tk)), some (.inr (.inl (ud))), u10] [] W133) ∧ (bb = 0 → ((0 ≤ t ∧ t < 64) ∧ (0 ≤ mm ∧ mm < 16) ∧ (-1000 ≤ V.2.1 66 mm ∧ V.2.1 66 mm ≤ 1000)) ∧ ∀ W133 : zW, (zPu 61 V W133 t mm) → zwp jtb zsh n zm_BOmak61 post (K - 7) (lGo ak_ZBOmak61 136) 136 [some (.inr (.inr (some (.inl 61)))), some (.inl (x)), some (.inl (f)), some (.inl (t)), some (.inl (bb)), some (.inl (mm)), some (.inl (kd)), some (.inl (w)), some (.inl (tk)), some (.inr (.inl (ud))), u10] [] W133)) : zwp jtb zsh n zm_BOmak61 post K (lGo ak_ZBOmak61 113) 113 [some (.inr (.inr (some (.inl 61)))), some (.inl (x)), some (.inl (f)), some (.inl (t)), some (.inl (bb)), some (.inl (mm)), some (.inl (kd)), some (.inl (w)), some (.inl (tk)), some (.inr (.inl (ud))), u10] [] V := by
  obtain ⟨kk__, rfl⟩ : ∃ kk__, K = kk__ + 10 := ⟨K - 10, by omega⟩
  exact (show (¬ bb = 0 → 3 = 3 ∧ false = false ∧ jin3 102 656 2 zm_BOmak61.2.2.1.1 = true ∧ lRm zm_BOmak61.2.1 { frames := 0, cells := 0, slots := 0, locals := 0 } 3 = true ∧ Nat.ble 3 3 = true ∧ Nat.ble 0 8 = true ∧ 61 < n ∧ 10 = 10 ∧ Nat.ble 1000 10 = false ∧ zc_BOput61 [.inr (.inr (some (.inl 61))), .inl (t), .inl (((lI ((lI mm &&& lI 8).toInt) ||| lI bb).toInt))] V (fun vv__ WW__ => zwp jtb zsh n zm_BOmak61 post (kk__ + 0) (lGo ak_ZBOmak61 136) 136 [some (.inr (.inr (some (.inl 61)))), some (.inl (x)), some (.inl (f)), some (.inl (t)), some (.inl (bb)), some (.inl (mm)), some (.inl (kd)), some (.inl (w)), some (.inl (tk)), some (.inr (.inl (ud))), u10] (vv__.toList ++ []) WW__)) ∧ (bb = 0 → 3 = 3 ∧ false = false ∧ jin3 102 656 2 zm_BOmak61.2.2.1.1 = true ∧ lRm zm_BOmak61.2.1 { frames := 0, cells := 0, slots := 0, locals := 0 } 3 = true ∧ Nat.ble 3 3 = true ∧ Nat.ble 0 8 = true ∧ 61 < n ∧ 10 = 10 ∧ Nat.ble 1000 10 = false ∧ zc_BOput61 [.inr (.inr (some (.inl 61))), .inl (t), .inl (mm)] V (fun vv__ WW__ => zwp jtb zsh n zm_BOmak61 post (kk__ + 3) (lGo ak_ZBOmak61 136) 136 [some (.inr (.inr (some (.inl 61)))), some (.inl (x)), some (.inl (f)), some (.inl (t)), some (.inl (bb)), some (.inl (mm)), some (.inl (kd)), some (.inl (w)), some (.inl (tk)), some (.inr (.inl (ud))), u10] (vv__.toList ++ []) WW__)) from ⟨fun c117_3 => (have h := ((((h).1 c117_3)).2 _ (z_or3 (((h).1 c117_3)).1)); ⟨rfl, rfl, rfl, rfl, rfl, rfl, (Nat.lt_of_lt_of_le (by decide) hn), rfl, rfl, t, ((lI ((lI mm &&& lI 8).toInt) ||| lI bb).toInt), rfl, (h).1, fun W133 hr133 => (show zwp jtb zsh n zm_BOmak61 post (kk__ + 0) (lGo ak_ZBOmak61 136) 136 [some (.inr (.inr (some (.inl 61)))), some (.inl (x)), some (.inl (f)), some (.inl (t)), some (.inl (bb)), some (.inl (mm)), some (.inl (kd)), some (.inl (w)), some (.inl (tk)), some (.inr (.inl (ud))), u10] [] W133 from ((h).2 W133 hr133))⟩), fun c117_3 => ⟨rfl, rfl, rfl, rfl, rfl, rfl, (Nat.lt_of_lt_of_le (by decide) hn), rfl, rfl, t, mm, rfl, (((h).2 c117_3)).1, fun W133 hr133 => (show zwp jtb zsh n zm_BOmak61 post (kk__ + 3) (lGo ak_ZBOmak61 136) 136 [some (.inr (.inr (some (.inl 61)))), some (.inl (x)), some (.inl (f)), some (.inl (t)), some (.inl (bb)), some (.inl (mm)), some (.inl (kd)), some (.inl (w)), some (.inl (tk)), some (.inr (.inl (ud))), u10] [] W133 from ((((h).2 c117_3)).2 W133 hr133))⟩⟩)
set_option maxRecDepth 60000 in
theorem zp_BOmak61_136 {n K : Nat} {V : zW} {post : zPo} {x f t bb mm kd w tk : Int} {ud : Int64} {u10 : Option zv} (hK : 32 ≤ K) (hn : 142 ≤ n) (h : (¬ kd = 6 → (¬ kd = 6 → zwp jtb zsh n zm_BOmak61 post (K - 6) (lGo ak_ZBOmak61 211) 211 [some (.inr (.inr (some (.inl 61)))), some (.inl (x)), some (.inl (f)), some (.inl (t)), some (.inl (bb)), some (.inl (mm)), some (.inl (kd)), some (.inl (w)), some (.inl (tk)), some (.inr (.inl (ud))), u10] [] V) ∧ (kd = 6 → (-2147483648 ≤ f - t ∧ f - t ≤ 2147483647) ∧ (¬ (f - t) = 2 → zwp jtb zsh n zm_BOmak61 post (K - 11) (lGo ak_ZBOmak61 211) 211 [some (.inr (.inr (some (.inl 61)))), some (.inl (x)), some (.inl (f)), some (.inl (t)), some (.inl (bb)), some (.inl (mm)), some (.inl (kd)), some (.inl (w)), some (.inl (tk)), some (.inr (.inl (ud))), u10] [] V) ∧ ((f - t) = 2 → (-2147483648 ≤ f - 4 ∧ f - 4 ≤ 2147483647) ∧ ((0 ≤ (f - 4) ∧ (f - 4) < 64) ∧ (0 ≤ V.2.1 62 (f - 4) ∧ V.2.1 62 (f - 4) < 16) ∧ (-1000 ≤ V.2.1 66 (V.2.1 62 (f - 4)) ∧ V.2.1 66 (V.2.1 62 (f - 4)) ≤ 1000)) ∧ ∀ W193 : zW, (zLi 61 V W193 (f - 4)) → (-2147483648 ≤ f - 1 ∧ f - 1 ≤ 2147483647) ∧ (0 ≤ (W193.1 61 2) ∧ (W193.1 61 2) * 8 ≤ 2147483647) ∧ ∀ t0 : Int, t0 = (W193.1 61 2) * 8 → (0 ≤ t0 ∧ t0 ≤ 2147483647 ∧ t0 % 8 = 0 ∧ 0 ≤ (4 : Int) ∧ (4 : Int) < 8) ∧ ∀ t1 : Int, t1 = t0 + 4 → ((0 ≤ (f - 1) ∧ (f - 1) < 64) ∧ (0 ≤ t1 ∧ t1 < 16) ∧ (-1000 ≤ W193.2.1 66 t1 ∧ W193.2.1 66 t1 ≤ 1000)) ∧ ∀ W208 : zW, (zPu 61 W193 W208 (f - 1) t1) → zwp jtb zsh n zm_BOmak61 post (K - 27) (lGo ak_ZBOmak61 211) 211 [some (.inr (.inr (some (.inl 61)))), some (.inl (x)), some (.inl (f)), some (.inl (t)), some (.inl (bb)), some (.inl (mm)), some (.inl (kd)), some (.inl (w)), some (.inl (tk)), some (.inr (.inl (ud))), u10] [] W208))) ∧ (kd = 6 → (-2147483648 ≤ t - f ∧ t - f ≤ 2147483647) ∧ (¬ (t - f) = 2 → (¬ kd = 6 → zwp jtb zsh n zm_BOmak61 post (K - 11) (lGo ak_ZBOmak61 211) 211 [some (.inr (.inr (some (.inl 61)))), some (.inl (x)), some (.inl (f)), some (.inl (t)), some (.inl (bb)), some (.inl (mm)), some (.inl (kd)), some (.inl (w)), some (.inl (tk)), some (.inr (.inl (ud))), u10] [] V) ∧ (kd = 6 → (-2147483648 ≤ f - t ∧ f - t ≤ 2147483647) ∧ (¬ (f - t) = 2 → zwp jtb zsh n zm_BOmak61 post (K - 16) (lGo ak_ZBOmak61 211) 211 [some (.inr (.inr (some (.inl 61)))), some (.inl (x)), some (.inl (f)), some (.inl (t)), some (.inl (bb)), some (.inl (mm)), some (.inl (kd)), some (.inl (w)), some (.inl (tk)), some (.inr (.inl (ud))), u10] [] V) ∧ ((f - t) = 2 → (-2147483648 ≤ f - 4 ∧ f - 4 ≤ 2147483647) ∧ ((0 ≤ (f - 4) ∧ (f - 4) < 64) ∧ (0 ≤ V.2.1 62 (f - 4) ∧ V.2.1 62 (f - 4) < 16) ∧ (-1000 ≤ V.2.1 66 (V.2.1 62 (f - 4)) ∧ V.2.1 66 (V.2.1 62 (f - 4)) ≤ 1000)) ∧ ∀ W193 : zW, (zLi 61 V W193 (f - 4)) → (-2147483648 ≤ f - 1 ∧ f - 1 ≤ 2147483647) ∧ (0 ≤ (W193.1 61 2) ∧ (W193.1 61 2) * 8 ≤ 2147483647) ∧ ∀ t2 : Int, t2 = (W193.1 61 2) * 8 → (0 ≤ t2 ∧ t2 ≤ 2147483647 ∧ t2 % 8 = 0 ∧ 0 ≤ (4 : Int) ∧ (4 : Int) < 8) ∧ ∀ t3 : Int, t3 = t2 + 4 → ((0 ≤ (f - 1) ∧ (f - 1) < 64) ∧ (0 ≤ t3 ∧ t3 < 16) ∧ (-1000 ≤ W193.2.1 66 t3 ∧ W193.2.1 66 t3 ≤ 1000)) ∧ ∀ W208 : zW, (zPu 61 W193 W208 (f - 1) t3) → zwp jtb zsh n zm_BOmak61 post (K - 32) (lGo ak_ZBOmak61 211) 211 [some (.inr (.inr (some (.inl 61)))), some (.inl (x)), some (.inl (f)), some (.inl (t)), some (.inl (bb)), some (.inl (mm)), some (.inl (kd)), some (.inl (w)), some (.inl (tk)), some (.inr (.inl (ud))), u10] [] W208))) ∧ ((t - f) = 2 → (-2147483648 ≤ f + 3 ∧ f + 3 ≤ 2147483647) ∧ ((0 ≤ (f + 3) ∧ (f + 3) < 64) ∧ (0 ≤ V.2.1 62 (f + 3) ∧ V.2.1 62 (f + 3) < 16) ∧ (-1000 ≤ V.2.1 66 (V.2.1 62 (f + 3)) ∧ V.2.1 66 (V.2.1 62 (f + 3)) ≤ 1000)) ∧ ∀ W154 : zW, (zLi 61 V W154 (f + 3)) → (-2147483648 ≤ f + 1 ∧ f + 1 ≤ 2147483647) ∧ (0 ≤ (W154.1 61 2) ∧ (W154.1 61 2) * 8 ≤ 2147483647) ∧ ∀ t4 : Int, t4 = (W154.1 61 2) * 8 → (0 ≤ t4 ∧ t4 ≤ 2147483647 ∧ t4 % 8 = 0 ∧ 0 ≤ (4 : Int) ∧ (4 : Int) < 8) ∧ ∀ t5 : Int, t5 = t4 + 4 → ((0 ≤ (f + 1) ∧ (f + 1) < 64) ∧ (0 ≤ t5 ∧ t5 < 16) ∧ (-1000 ≤ W154.2.1 66 t5 ∧ W154.2.1 66 t5 ≤ 1000)) ∧ ∀ W169 : zW, (zPu 61 W154 W169 (f + 1) t5) → zwp jtb zsh n zm_BOmak61 post (K - 25) (lGo ak_ZBOmak61 211) 211 [some (.inr (.inr (some (.inl 61)))), some (.inl (x)), some (.inl (f)), some (.inl (t)), some (.inl (bb)), some (.inl (mm)), some (.inl (kd)), some (.inl (w)), some (.inl (tk)), some (.inr (.inl (ud))), u10] [] W169))) : zwp jtb zsh n zm_BOmak61 post K (lGo ak_ZBOmak61 136) 136 [some (.inr (.inr (some (.inl 61)))), some (.inl (x)), some (.inl (f)), some (.inl (t)), some (.inl (bb)), some (.inl (mm)), some (.inl (kd)), some (.inl (w)), some (.inl (tk)), some (.inr (.inl (ud))), u10] [] V := by
  obtain ⟨kk__, rfl⟩ : ∃ kk__, K = kk__ + 32 := ⟨K - 32, by omega⟩
  exact (show (¬ kd = 6 → (¬ kd = 6 → zwp jtb zsh n zm_BOmak61 post (kk__ + 26) (lGo ak_ZBOmak61 211) 211 [some (.inr (.inr (some (.inl 61)))), some (.inl (x)), some (.inl (f)), some (.inl (t)), some (.inl (bb)), some (.inl (mm)), some (.inl (kd)), some (.inl (w)), some (.inl (tk)), some (.inr (.inl (ud))), u10] [] V) ∧ (kd = 6 → (-2147483648 ≤ f - t ∧ f - t ≤ 2147483647) ∧ (¬ (f - t) = 2 → zwp jtb zsh n zm_BOmak61 post (kk__ + 21) (lGo ak_ZBOmak61 211) 211 [some (.inr (.inr (some (.inl 61)))), some (.inl (x)), some (.inl (f)), some (.inl (t)), some (.inl (bb)), some (.inl (mm)), some (.inl (kd)), some (.inl (w)), some (.inl (tk)), some (.inr (.inl (ud))), u10] [] V) ∧ ((f - t) = 2 → (-2147483648 ≤ f - 4 ∧ f - 4 ≤ 2147483647) ∧ 3 = 3 ∧ false = false ∧ jin3 132 1286 1 zm_BOmak61.2.2.1.1 = true ∧ lRm zm_BOmak61.2.1 { frames := 0, cells := 0, slots := 0, locals := 0 } 3 = true ∧ Nat.ble 2 2 = true ∧ Nat.ble 0 8 = true ∧ 61 < n ∧ 10 = 10 ∧ Nat.ble 1000 10 = false ∧ zc_BOlif61 [.inr (.inr (some (.inl 61))), .inl (f - 4)] V (fun vv__ WW__ => zwp jtb zsh n zm_BOmak61 post (kk__ + 16) (lGo ak_ZBOmak61 196) 196 [some (.inr (.inr (some (.inl 61)))), some (.inl (x)), some (.inl (f)), some (.inl (t)), some (.inl (bb)), some (.inl (mm)), some (.inl (kd)), some (.inl (w)), some (.inl (tk)), some (.inr (.inl (ud))), u10] (vv__.toList ++ []) WW__)))) ∧ (kd = 6 → (-2147483648 ≤ t - f ∧ t - f ≤ 2147483647) ∧ (¬ (t - f) = 2 → (¬ kd = 6 → zwp jtb zsh n zm_BOmak61 post (kk__ + 21) (lGo ak_ZBOmak61 211) 211 [some (.inr (.inr (some (.inl 61)))), some (.inl (x)), some (.inl (f)), some (.inl (t)), some (.inl (bb)), some (.inl (mm)), some (.inl (kd)), some (.inl (w)), some (.inl (tk)), some (.inr (.inl (ud))), u10] [] V) ∧ (kd = 6 → (-2147483648 ≤ f - t ∧ f - t ≤ 2147483647) ∧ (¬ (f - t) = 2 → zwp jtb zsh n zm_BOmak61 post (kk__ + 16) (lGo ak_ZBOmak61 211) 211 [some (.inr (.inr (some (.inl 61)))), some (.inl (x)), some (.inl (f)), some (.inl (t)), some (.inl (bb)), some (.inl (mm)), some (.inl (kd)), some (.inl (w)), some (.inl (tk)), some (.inr (.inl (ud))), u10] [] V) ∧ ((f - t) = 2 → (-2147483648 ≤ f - 4 ∧ f - 4 ≤ 2147483647) ∧ 3 = 3 ∧ false = false ∧ jin3 132 1286 1 zm_BOmak61.2.2.1.1 = true ∧ lRm zm_BOmak61.2.1 { frames := 0, cells := 0, slots := 0, locals := 0 } 3 = true ∧ Nat.ble 2 2 = true ∧ Nat.ble 0 8 = true ∧ 61 < n ∧ 10 = 10 ∧ Nat.ble 1000 10 = false ∧ zc_BOlif61 [.inr (.inr (some (.inl 61))), .inl (f - 4)] V (fun vv__ WW__ => zwp jtb zsh n zm_BOmak61 post (kk__ + 11) (lGo ak_ZBOmak61 196) 196 [some (.inr (.inr (some (.inl 61)))), some (.inl (x)), some (.inl (f)), some (.inl (t)), some (.inl (bb)), some (.inl (mm)), some (.inl (kd)), some (.inl (w)), some (.inl (tk)), some (.inr (.inl (ud))), u10] (vv__.toList ++ []) WW__)))) ∧ ((t - f) = 2 → (-2147483648 ≤ f + 3 ∧ f + 3 ≤ 2147483647) ∧ 3 = 3 ∧ false = false ∧ jin3 132 1286 1 zm_BOmak61.2.2.1.1 = true ∧ lRm zm_BOmak61.2.1 { frames := 0, cells := 0, slots := 0, locals := 0 } 3 = true ∧ Nat.ble 2 2 = true ∧ Nat.ble 0 8 = true ∧ 61 < n ∧ 10 = 10 ∧ Nat.ble 1000 10 = false ∧ zc_BOlif61 [.inr (.inr (some (.inl 61))), .inl (f + 3)] V (fun vv__ WW__ => zwp jtb zsh n zm_BOmak61 post (kk__ + 19) (lGo ak_ZBOmak61 157) 157 [some (.inr (.inr (some (.inl 61)))), some (.inl (x)), some (.inl (f)), some (.inl (t)), some (.inl (bb)), some (.inl (mm)), some (.inl (kd)), some (.inl (w)), some (.inl (tk)), some (.inr (.inl (ud))), u10] (vv__.toList ++ []) WW__))) from ⟨fun c140_2 => ⟨fun c179_5 => ((((h).1 c140_2)).1 c179_5), fun c179_5 => (have h := ((((h).1 c140_2)).2 c179_5); ⟨(h).1, ⟨fun c186_10 => (((h).2).1 c186_10), fun c186_10 => ⟨((((h).2).2 c186_10)).1, ⟨rfl, rfl, rfl, rfl, rfl, rfl, (Nat.lt_of_lt_of_le (by decide) hn), rfl, rfl, f - 4, rfl, (((((h).2).2 c186_10)).2).1, fun W193 hr193 => (show (-2147483648 ≤ f - 1 ∧ f - 1 ≤ 2147483647) ∧ 61 < n ∧ 10 = 10 ∧ 3 = 3 ∧ false = false ∧ jin3 102 656 2 zm_BOmak61.2.2.1.1 = true ∧ lRm zm_BOmak61.2.1 { frames := 0, cells := 0, slots := 0, locals := 0 } 3 = true ∧ Nat.ble 3 3 = true ∧ Nat.ble 0 8 = true ∧ 61 < n ∧ 10 = 10 ∧ Nat.ble 1000 10 = false ∧ zc_BOput61 [.inr (.inr (some (.inl 61))), .inl (f - 1), .inl (((lI ((lI (W193.1 61 2) <<< (lI 3 &&& 31)).toInt) ||| lI 4).toInt))] W193 (fun vv__ WW__ => zwp jtb zsh n zm_BOmak61 post (kk__ + 5) (lGo ak_ZBOmak61 211) 211 [some (.inr (.inr (some (.inl 61)))), some (.inl (x)), some (.inl (f)), some (.inl (t)), some (.inl (bb)), some (.inl (mm)), some (.inl (kd)), some (.inl (w)), some (.inl (tk)), some (.inr (.inl (ud))), u10] (vv__.toList ++ []) WW__) from (have h := ((((((h).2).2 c186_10)).2).2 W193 hr193); ⟨(h).1, ⟨(Nat.lt_of_lt_of_le (by decide) hn), rfl, (have h := (((h).2).2 _ (z_sl3 ((h).2).1)); ⟨rfl, rfl, rfl, rfl, rfl, rfl, (Nat.lt_of_lt_of_le (by decide) hn), rfl, rfl, f - 1, ((lI ((lI (W193.1 61 2) <<< (lI 3 &&& 31)).toInt) ||| lI 4).toInt), rfl, (((h).2 _ (z_or3 (h).1))).1, fun W208 hr208 => (show zwp jtb zsh n zm_BOmak61 post (kk__ + 5) (lGo ak_ZBOmak61 211) 211 [some (.inr (.inr (some (.inl 61)))), some (.inl (x)), some (.inl (f)), some (.inl (t)), some (.inl (bb)), some (.inl (mm)), some (.inl (kd)), some (.inl (w)), some (.inl (tk)), some (.inr (.inl (ud))), u10] [] W208 from ((((h).2 _ (z_or3 (h).1))).2 W208 hr208))⟩)⟩⟩))⟩⟩⟩⟩)⟩, fun c140_2 => ⟨(((h).2 c140_2)).1, ⟨fun c147_7 => (have h := (((((h).2 c140_2)).2).1 c147_7); ⟨fun c179_10 => ((h).1 c179_10), fun c179_10 => ⟨(((h).2 c179_10)).1, ⟨fun c186_15 => (((((h).2 c179_10)).2).1 c186_15), fun c186_15 => (have h := (((((h).2 c179_10)).2).2 c186_15); ⟨(h).1, ⟨rfl, rfl, rfl, rfl, rfl, rfl, (Nat.lt_of_lt_of_le (by decide) hn), rfl, rfl, f - 4, rfl, ((h).2).1, fun W193 hr193 => (show (-2147483648 ≤ f - 1 ∧ f - 1 ≤ 2147483647) ∧ 61 < n ∧ 10 = 10 ∧ 3 = 3 ∧ false = false ∧ jin3 102 656 2 zm_BOmak61.2.2.1.1 = true ∧ lRm zm_BOmak61.2.1 { frames := 0, cells := 0, slots := 0, locals := 0 } 3 = true ∧ Nat.ble 3 3 = true ∧ Nat.ble 0 8 = true ∧ 61 < n ∧ 10 = 10 ∧ Nat.ble 1000 10 = false ∧ zc_BOput61 [.inr (.inr (some (.inl 61))), .inl (f - 1), .inl (((lI ((lI (W193.1 61 2) <<< (lI 3 &&& 31)).toInt) ||| lI 4).toInt))] W193 (fun vv__ WW__ => zwp jtb zsh n zm_BOmak61 post (kk__ + 0) (lGo ak_ZBOmak61 211) 211 [some (.inr (.inr (some (.inl 61)))), some (.inl (x)), some (.inl (f)), some (.inl (t)), some (.inl (bb)), some (.inl (mm)), some (.inl (kd)), some (.inl (w)), some (.inl (tk)), some (.inr (.inl (ud))), u10] (vv__.toList ++ []) WW__) from ⟨((((h).2).2 W193 hr193)).1, (have h := ((((h).2).2 W193 hr193)).2; ⟨(Nat.lt_of_lt_of_le (by decide) hn), rfl, (have h := ((((h).2 _ (z_sl3 (h).1))).2 _ (z_or3 (((h).2 _ (z_sl3 (h).1))).1)); ⟨rfl, rfl, rfl, rfl, rfl, rfl, (Nat.lt_of_lt_of_le (by decide) hn), rfl, rfl, f - 1, ((lI ((lI (W193.1 61 2) <<< (lI 3 &&& 31)).toInt) ||| lI 4).toInt), rfl, (h).1, fun W208 hr208 => (show zwp jtb zsh n zm_BOmak61 post (kk__ + 0) (lGo ak_ZBOmak61 211) 211 [some (.inr (.inr (some (.inl 61)))), some (.inl (x)), some (.inl (f)), some (.inl (t)), some (.inl (bb)), some (.inl (mm)), some (.inl (kd)), some (.inl (w)), some (.inl (tk)), some (.inr (.inl (ud))), u10] [] W208 from ((h).2 W208 hr208))⟩)⟩)⟩)⟩⟩)⟩⟩⟩), fun c147_7 => (have h := (((((h).2 c140_2)).2).2 c147_7); ⟨(h).1, ⟨rfl, rfl, rfl, rfl, rfl, rfl, (Nat.lt_of_lt_of_le (by decide) hn), rfl, rfl, f + 3, rfl, ((h).2).1, fun W154 hr154 => (show (-2147483648 ≤ f + 1 ∧ f + 1 ≤ 2147483647) ∧ 61 < n ∧ 10 = 10 ∧ 3 = 3 ∧ false = false ∧ jin3 102 656 2 zm_BOmak61.2.2.1.1 = true ∧ lRm zm_BOmak61.2.1 { frames := 0, cells := 0, slots := 0, locals := 0 } 3 = true ∧ Nat.ble 3 3 = true ∧ Nat.ble 0 8 = true ∧ 61 < n ∧ 10 = 10 ∧ Nat.ble 1000 10 = false ∧ zc_BOput61 [.inr (.inr (some (.inl 61))), .inl (f + 1), .inl (((lI ((lI (W154.1 61 2) <<< (lI 3 &&& 31)).toInt) ||| lI 4).toInt))] W154 (fun vv__ WW__ => zwp jtb zsh n zm_BOmak61 post (kk__ + 8) (lGo ak_ZBOmak61 172) 172 [some (.inr (.inr (some (.inl 61)))), some (.inl (x)), some (.inl (f)), some (.inl (t)), some (.inl (bb)), some (.inl (mm)), some (.inl (kd)), some (.inl (w)), some (.inl (tk)), some (.inr (.inl (ud))), u10] (vv__.toList ++ []) WW__) from ⟨((((h).2).2 W154 hr154)).1, (have h := ((((h).2).2 W154 hr154)).2; ⟨(Nat.lt_of_lt_of_le (by decide) hn), rfl, (have h := ((((h).2 _ (z_sl3 (h).1))).2 _ (z_or3 (((h).2 _ (z_sl3 (h).1))).1)); ⟨rfl, rfl, rfl, rfl, rfl, rfl, (Nat.lt_of_lt_of_le (by decide) hn), rfl, rfl, f + 1, ((lI ((lI (W154.1 61 2) <<< (lI 3 &&& 31)).toInt) ||| lI 4).toInt), rfl, (h).1, fun W169 hr169 => (show zwp jtb zsh n zm_BOmak61 post (kk__ + 7) (lGo ak_ZBOmak61 211) 211 [some (.inr (.inr (some (.inl 61)))), some (.inl (x)), some (.inl (f)), some (.inl (t)), some (.inl (bb)), some (.inl (mm)), some (.inl (kd)), some (.inl (w)), some (.inl (tk)), some (.inr (.inl (ud))), u10] [] W169 from ((h).2 W169 hr169))⟩)⟩)⟩)⟩⟩)⟩⟩⟩)
set_option maxRecDepth 60000 in
theorem zp_BOmak61_211 {n K : Nat} {V : zW} {post : zPo} {x f t bb mm kd w tk : Int} {ud : Int64} {u10 : Option zv} (hK : 48 ≤ K) (hn : 142 ≤ n) (h : (0 ≤ f ∧ f < 64) ∧ (0 ≤ t ∧ t < 64) ∧ (¬ kd = 1 → (kd = 1 → (-2147483648 ≤ (V.1 61 6) + (V.1 61 2) ∧ (V.1 61 6) + (V.1 61 2) ≤ 2147483647) ∧ ((V.1 61 2) = 0 ∨ (V.1 61 2) = 1) ∧ ∀ t0 : Int, t0 = 1 - (V.1 61 2) → post (some (.inr (.inl (ud)))) (zuF (zuF (zuF (zuF (zuF V 61 3 ((lI (V.1 61 3) &&& lI ((lI ((tv_4.getD f.toNat 0).toInt) &&& lI ((tv_4.getD t.toNat 0).toInt)).toInt)).toInt)) 61 4 (-1)) 61 5 0) 61 6 ((V.1 61 6) + (V.1 61 2))) 61 2 t0)) ∧ (¬ kd = 1 → (tk = 0 → (-2147483648 ≤ (V.1 61 5) + 1 ∧ (V.1 61 5) + 1 ≤ 2147483647) ∧ (-2147483648 ≤ (V.1 61 6) + (V.1 61 2) ∧ (V.1 61 6) + (V.1 61 2) ≤ 2147483647) ∧ ((V.1 61 2) = 0 ∨ (V.1 61 2) = 1) ∧ ∀ t1 : Int, t1 = 1 - (V.1 61 2) → post (some (.inr (.inl (ud)))) (zuF (zuF (zuF (zuF (zuF V 61 3 ((lI (V.1 61 3) &&& lI ((lI ((tv_4.getD f.toNat 0).toInt) &&& lI ((tv_4.getD t.toNat 0).toInt)).toInt)).toInt)) 61 4 (-1)) 61 5 ((V.1 61 5) + 1)) 61 6 ((V.1 61 6) + (V.1 61 2))) 61 2 t1)) ∧ (¬ tk = 0 → (-2147483648 ≤ (V.1 61 6) + (V.1 61 2) ∧ (V.1 61 6) + (V.1 61 2) ≤ 2147483647) ∧ ((V.1 61 2) = 0 ∨ (V.1 61 2) = 1) ∧ ∀ t2 : Int, t2 = 1 - (V.1 61 2) → post (some (.inr (.inl (ud)))) (zuF (zuF (zuF (zuF (zuF V 61 3 ((lI (V.1 61 3) &&& lI ((lI ((tv_4.getD f.toNat 0).toInt) &&& lI ((tv_4.getD t.toNat 0).toInt)).toInt)).toInt)) 61 4 (-1)) 61 5 0) 61 6 ((V.1 61 6) + (V.1 61 2))) 61 2 t2)))) ∧ (kd = 1 → ((0 ≤ f ∧ f < 64) ∧ (0 ≤ t ∧ t < 64) ∧ (0 ≤ (zuF V 61 3 ((lI (V.1 61 3) &&& lI ((lI ((tv_4.getD f.toNat 0).toInt) &&& lI ((tv_4.getD t.toNat 0).toInt)).toInt)).toInt)).1 61 2 ∧ (zuF V 61 3 ((lI (V.1 61 3) &&& lI ((lI ((tv_4.getD f.toNat 0).toInt) &&& lI ((tv_4.getD t.toNat 0).toInt)).toInt)).toInt)).1 61 2 ≤ 1)) ∧ ∀ r241 : Int, (r241 = cPb ((zuF V 61 3 ((lI (V.1 61 3) &&& lI ((lI ((tv_4.getD f.toNat 0).toInt) &&& lI ((tv_4.getD t.toNat 0).toInt)).toInt)).toInt)).2.1 62) ((zuF V 61 3 ((lI (V.1 61 3) &&& lI ((lI ((tv_4.getD f.toNat 0).toInt) &&& lI ((tv_4.getD t.toNat 0).toInt)).toInt)).toInt)).1 61 2) f t) → (kd = 1 → (-2147483648 ≤ (V.1 61 6) + (V.1 61 2) ∧ (V.1 61 6) + (V.1 61 2) ≤ 2147483647) ∧ ((V.1 61 2) = 0 ∨ (V.1 61 2) = 1) ∧ ∀ t3 : Int, t3 = 1 - (V.1 61 2) → post (some (.inr (.inl (ud)))) (zuF (zuF (zuF (zuF (zuF V 61 3 ((lI (V.1 61 3) &&& lI ((lI ((tv_4.getD f.toNat 0).toInt) &&& lI ((tv_4.getD t.toNat 0).toInt)).toInt)).toInt)) 61 4 r241) 61 5 0) 61 6 ((V.1 61 6) + (V.1 61 2))) 61 2 t3)) ∧ (¬ kd = 1 → (tk = 0 → (-2147483648 ≤ (V.1 61 5) + 1 ∧ (V.1 61 5) + 1 ≤ 2147483647) ∧ (-2147483648 ≤ (V.1 61 6) + (V.1 61 2) ∧ (V.1 61 6) + (V.1 61 2) ≤ 2147483647) ∧ ((V.1 61 2) = 0 ∨ (V.1 61 2) = 1) ∧ ∀ t4 : Int, t4 = 1 - (V.1 61 2) → post (some (.inr (.inl (ud)))) (zuF (zuF (zuF (zuF (zuF V 61 3 ((lI (V.1 61 3) &&& lI ((lI ((tv_4.getD f.toNat 0).toInt) &&& lI ((tv_4.getD t.toNat 0).toInt)).toInt)).toInt)) 61 4 r241) 61 5 ((V.1 61 5) + 1)) 61 6 ((V.1 61 6) + (V.1 61 2))) 61 2 t4)) ∧ (¬ tk = 0 → (-2147483648 ≤ (V.1 61 6) + (V.1 61 2) ∧ (V.1 61 6) + (V.1 61 2) ≤ 2147483647) ∧ ((V.1 61 2) = 0 ∨ (V.1 61 2) = 1) ∧ ∀ t5 : Int, t5 = 1 - (V.1 61 2) → post (some (.inr (.inl (ud)))) (zuF (zuF (zuF (zuF (zuF V 61 3 ((lI (V.1 61 3) &&& lI ((lI ((tv_4.getD f.toNat 0).toInt) &&& lI ((tv_4.getD t.toNat 0).toInt)).toInt)).toInt)) 61 4 r241) 61 5 0) 61 6 ((V.1 61 6) + (V.1 61 2))) 61 2 t5))))) : zwp jtb zsh n zm_BOmak61 post K (lGo ak_ZBOmak61 211) 211 [some (.inr (.inr (some (.inl 61)))), some (.inl (x)), some (.inl (f)), some (.inl (t)), some (.inl (bb)), some (.inl (mm)), some (.inl (kd)), some (.inl (w)), some (.inl (tk)), some (.inr (.inl (ud))), u10] [] V := by
  obtain ⟨kk__, rfl⟩ : ∃ kk__, K = kk__ + 48 := ⟨K - 48, by omega⟩
  exact (show 61 < n ∧ 10 = 10 ∧ FieldType.int = FieldType.int ∧ (0 ≤ f ∧ f < 64) ∧ FieldType.int = FieldType.int ∧ (0 ≤ t ∧ t < 64) ∧ 61 < n ∧ 10 = 10 ∧ (some 0 : Option Nat) = some 0 ∧ ((0 : Nat) = 0 ∨ ((0 : Nat) = 1 ∧ (((lI (V.1 61 3) &&& lI ((lI ((tv_4.getD f.toNat 0).toInt) &&& lI ((tv_4.getD t.toNat 0).toInt)).toInt)).toInt) = 0 ∨ ((lI (V.1 61 3) &&& lI ((lI ((tv_4.getD f.toNat 0).toInt) &&& lI ((tv_4.getD t.toNat 0).toInt)).toInt)).toInt) = 1))) ∧ (¬ kd = 1 → 61 < n ∧ 10 = 10 ∧ (some 0 : Option Nat) = some 0 ∧ ((0 : Nat) = 0 ∨ ((0 : Nat) = 1 ∧ ((-1 : Int) = 0 ∨ (-1 : Int) = 1))) ∧ (kd = 1 → 61 < n ∧ 10 = 10 ∧ (some 0 : Option Nat) = some 0 ∧ ((0 : Nat) = 0 ∨ ((0 : Nat) = 1 ∧ ((0 : Int) = 0 ∨ (0 : Int) = 1))) ∧ 61 < n ∧ 10 = 10 ∧ 61 < n ∧ 10 = 10 ∧ (-2147483648 ≤ (V.1 61 6) + (V.1 61 2) ∧ (V.1 61 6) + (V.1 61 2) ≤ 2147483647) ∧ 61 < n ∧ 10 = 10 ∧ (some 0 : Option Nat) = some 0 ∧ ((0 : Nat) = 0 ∨ ((0 : Nat) = 1 ∧ (((V.1 61 6) + (V.1 61 2)) = 0 ∨ ((V.1 61 6) + (V.1 61 2)) = 1))) ∧ 61 < n ∧ 10 = 10 ∧ 61 < n ∧ 10 = 10 ∧ (some 0 : Option Nat) = some 0 ∧ ((0 : Nat) = 0 ∨ ((0 : Nat) = 1 ∧ (((lI (V.1 61 2) ^^^ lI 1).toInt) = 0 ∨ ((lI (V.1 61 2) ^^^ lI 1).toInt) = 1))) ∧ 1 = 1 ∧ (some FieldType.long : Option FieldType) = some FieldType.long ∧ post (some (.inr (.inl (ud)))) (zuF (zuF (zuF (zuF (zuF V 61 3 ((lI (V.1 61 3) &&& lI ((lI ((tv_4.getD f.toNat 0).toInt) &&& lI ((tv_4.getD t.toNat 0).toInt)).toInt)).toInt)) 61 4 (-1)) 61 5 0) 61 6 ((V.1 61 6) + (V.1 61 2))) 61 2 ((lI (V.1 61 2) ^^^ lI 1).toInt))) ∧ (¬ kd = 1 → (tk = 0 → 61 < n ∧ 10 = 10 ∧ (-2147483648 ≤ (V.1 61 5) + 1 ∧ (V.1 61 5) + 1 ≤ 2147483647) ∧ 61 < n ∧ 10 = 10 ∧ (some 0 : Option Nat) = some 0 ∧ ((0 : Nat) = 0 ∨ ((0 : Nat) = 1 ∧ (((V.1 61 5) + 1) = 0 ∨ ((V.1 61 5) + 1) = 1))) ∧ 61 < n ∧ 10 = 10 ∧ 61 < n ∧ 10 = 10 ∧ (-2147483648 ≤ (V.1 61 6) + (V.1 61 2) ∧ (V.1 61 6) + (V.1 61 2) ≤ 2147483647) ∧ 61 < n ∧ 10 = 10 ∧ (some 0 : Option Nat) = some 0 ∧ ((0 : Nat) = 0 ∨ ((0 : Nat) = 1 ∧ (((V.1 61 6) + (V.1 61 2)) = 0 ∨ ((V.1 61 6) + (V.1 61 2)) = 1))) ∧ 61 < n ∧ 10 = 10 ∧ 61 < n ∧ 10 = 10 ∧ (some 0 : Option Nat) = some 0 ∧ ((0 : Nat) = 0 ∨ ((0 : Nat) = 1 ∧ (((lI (V.1 61 2) ^^^ lI 1).toInt) = 0 ∨ ((lI (V.1 61 2) ^^^ lI 1).toInt) = 1))) ∧ 1 = 1 ∧ (some FieldType.long : Option FieldType) = some FieldType.long ∧ post (some (.inr (.inl (ud)))) (zuF (zuF (zuF (zuF (zuF V 61 3 ((lI (V.1 61 3) &&& lI ((lI ((tv_4.getD f.toNat 0).toInt) &&& lI ((tv_4.getD t.toNat 0).toInt)).toInt)).toInt)) 61 4 (-1)) 61 5 ((V.1 61 5) + 1)) 61 6 ((V.1 61 6) + (V.1 61 2))) 61 2 ((lI (V.1 61 2) ^^^ lI 1).toInt))) ∧ (¬ tk = 0 → 61 < n ∧ 10 = 10 ∧ (some 0 : Option Nat) = some 0 ∧ ((0 : Nat) = 0 ∨ ((0 : Nat) = 1 ∧ ((0 : Int) = 0 ∨ (0 : Int) = 1))) ∧ 61 < n ∧ 10 = 10 ∧ 61 < n ∧ 10 = 10 ∧ (-2147483648 ≤ (V.1 61 6) + (V.1 61 2) ∧ (V.1 61 6) + (V.1 61 2) ≤ 2147483647) ∧ 61 < n ∧ 10 = 10 ∧ (some 0 : Option Nat) = some 0 ∧ ((0 : Nat) = 0 ∨ ((0 : Nat) = 1 ∧ (((V.1 61 6) + (V.1 61 2)) = 0 ∨ ((V.1 61 6) + (V.1 61 2)) = 1))) ∧ 61 < n ∧ 10 = 10 ∧ 61 < n ∧ 10 = 10 ∧ (some 0 : Option Nat) = some 0 ∧ ((0 : Nat) = 0 ∨ ((0 : Nat) = 1 ∧ (((lI (V.1 61 2) ^^^ lI 1).toInt) = 0 ∨ ((lI (V.1 61 2) ^^^ lI 1).toInt) = 1))) ∧ 1 = 1 ∧ (some FieldType.long : Option FieldType) = some FieldType.long ∧ post (some (.inr (.inl (ud)))) (zuF (zuF (zuF (zuF (zuF V 61 3 ((lI (V.1 61 3) &&& lI ((lI ((tv_4.getD f.toNat 0).toInt) &&& lI ((tv_4.getD t.toNat 0).toInt)).toInt)).toInt)) 61 4 (-1)) 61 5 0) 61 6 ((V.1 61 6) + (V.1 61 2))) 61 2 ((lI (V.1 61 2) ^^^ lI 1).toInt))))) ∧ (kd = 1 → 3 = 3 ∧ false = false ∧ jin3 138 1309 3 zm_BOmak61.2.2.1.1 = true ∧ lRm zm_BOmak61.2.1 { frames := 0, cells := 0, slots := 0, locals := 0 } 5 = true ∧ Nat.ble 3 4 = true ∧ Nat.ble 1 8 = true ∧ 61 < n ∧ 10 = 10 ∧ Nat.ble 1000 10 = false ∧ zc_BOpby61 [.inr (.inr (some (.inl 61))), .inl (f), .inl (t)] (zuF V 61 3 ((lI (V.1 61 3) &&& lI ((lI ((tv_4.getD f.toNat 0).toInt) &&& lI ((tv_4.getD t.toNat 0).toInt)).toInt)).toInt)) (fun vv__ WW__ => zwp jtb zsh n zm_BOmak61 post (kk__ + 28) (lGo ak_ZBOmak61 244) 244 [some (.inr (.inr (some (.inl 61)))), some (.inl (x)), some (.inl (f)), some (.inl (t)), some (.inl (bb)), some (.inl (mm)), some (.inl (kd)), some (.inl (w)), some (.inl (tk)), some (.inr (.inl (ud))), u10] (vv__.toList ++ [.inr (.inr (some (.inl 61)))]) WW__)) from ⟨(Nat.lt_of_lt_of_le (by decide) hn), rfl, ⟨rfl, (h).1, ⟨rfl, ((h).2).1, ⟨(Nat.lt_of_lt_of_le (by decide) hn), rfl, rfl, (Or.inl rfl), ⟨fun c235_15 => ⟨(Nat.lt_of_lt_of_le (by decide) hn), rfl, rfl, (Or.inl rfl), ⟨fun c255_21 => (have h := ((((((h).2).2).1 c235_15)).1 c255_21); ⟨(Nat.lt_of_lt_of_le (by decide) hn), rfl, rfl, (Or.inl rfl), ⟨(Nat.lt_of_lt_of_le (by decide) hn), rfl, ⟨(Nat.lt_of_lt_of_le (by decide) hn), rfl, ⟨(h).1, ⟨(Nat.lt_of_lt_of_le (by decide) hn), rfl, rfl, (Or.inl rfl), ⟨(Nat.lt_of_lt_of_le (by decide) hn), rfl, (have h := (((h).2).2 _ (z_x1 ((h).2).1)); ⟨(Nat.lt_of_lt_of_le (by decide) hn), rfl, rfl, (Or.inl rfl), ⟨rfl, rfl, h⟩⟩)⟩⟩⟩⟩⟩⟩), fun c255_21 => (have h := ((((((h).2).2).1 c235_15)).2 c255_21); ⟨fun c260_23 => ⟨(Nat.lt_of_lt_of_le (by decide) hn), rfl, ⟨(((h).1 c260_23)).1, ⟨(Nat.lt_of_lt_of_le (by decide) hn), rfl, rfl, (Or.inl rfl), ⟨(Nat.lt_of_lt_of_le (by decide) hn), rfl, ⟨(Nat.lt_of_lt_of_le (by decide) hn), rfl, ⟨((((h).1 c260_23)).2).1, ⟨(Nat.lt_of_lt_of_le (by decide) hn), rfl, rfl, (Or.inl rfl), ⟨(Nat.lt_of_lt_of_le (by decide) hn), rfl, (have h := ((((((h).1 c260_23)).2).2).2 _ (z_x1 (((((h).1 c260_23)).2).2).1)); ⟨(Nat.lt_of_lt_of_le (by decide) hn), rfl, rfl, (Or.inl rfl), ⟨rfl, rfl, h⟩⟩)⟩⟩⟩⟩⟩⟩⟩⟩, fun c260_23 => ⟨(Nat.lt_of_lt_of_le (by decide) hn), rfl, rfl, (Or.inl rfl), ⟨(Nat.lt_of_lt_of_le (by decide) hn), rfl, ⟨(Nat.lt_of_lt_of_le (by decide) hn), rfl, ⟨(((h).2 c260_23)).1, ⟨(Nat.lt_of_lt_of_le (by decide) hn), rfl, rfl, (Or.inl rfl), ⟨(Nat.lt_of_lt_of_le (by decide) hn), rfl, (have h := (((((h).2 c260_23)).2).2 _ (z_x1 ((((h).2 c260_23)).2).1)); ⟨(Nat.lt_of_lt_of_le (by decide) hn), rfl, rfl, (Or.inl rfl), ⟨rfl, rfl, h⟩⟩)⟩⟩⟩⟩⟩⟩⟩)⟩⟩, fun c235_15 => ⟨rfl, rfl, rfl, rfl, rfl, rfl, (Nat.lt_of_lt_of_le (by decide) hn), rfl, rfl, f, t, rfl, (((((h).2).2).2 c235_15)).1, fun r241 hr241 => (show 61 < n ∧ 10 = 10 ∧ (some 0 : Option Nat) = some 0 ∧ ((0 : Nat) = 0 ∨ ((0 : Nat) = 1 ∧ (r241 = 0 ∨ r241 = 1))) ∧ (kd = 1 → 61 < n ∧ 10 = 10 ∧ (some 0 : Option Nat) = some 0 ∧ ((0 : Nat) = 0 ∨ ((0 : Nat) = 1 ∧ ((0 : Int) = 0 ∨ (0 : Int) = 1))) ∧ 61 < n ∧ 10 = 10 ∧ 61 < n ∧ 10 = 10 ∧ (-2147483648 ≤ (V.1 61 6) + (V.1 61 2) ∧ (V.1 61 6) + (V.1 61 2) ≤ 2147483647) ∧ 61 < n ∧ 10 = 10 ∧ (some 0 : Option Nat) = some 0 ∧ ((0 : Nat) = 0 ∨ ((0 : Nat) = 1 ∧ (((V.1 61 6) + (V.1 61 2)) = 0 ∨ ((V.1 61 6) + (V.1 61 2)) = 1))) ∧ 61 < n ∧ 10 = 10 ∧ 61 < n ∧ 10 = 10 ∧ (some 0 : Option Nat) = some 0 ∧ ((0 : Nat) = 0 ∨ ((0 : Nat) = 1 ∧ (((lI (V.1 61 2) ^^^ lI 1).toInt) = 0 ∨ ((lI (V.1 61 2) ^^^ lI 1).toInt) = 1))) ∧ 1 = 1 ∧ (some FieldType.long : Option FieldType) = some FieldType.long ∧ post (some (.inr (.inl (ud)))) (zuF (zuF (zuF (zuF (zuF V 61 3 ((lI (V.1 61 3) &&& lI ((lI ((tv_4.getD f.toNat 0).toInt) &&& lI ((tv_4.getD t.toNat 0).toInt)).toInt)).toInt)) 61 4 r241) 61 5 0) 61 6 ((V.1 61 6) + (V.1 61 2))) 61 2 ((lI (V.1 61 2) ^^^ lI 1).toInt))) ∧ (¬ kd = 1 → (tk = 0 → 61 < n ∧ 10 = 10 ∧ (-2147483648 ≤ (V.1 61 5) + 1 ∧ (V.1 61 5) + 1 ≤ 2147483647) ∧ 61 < n ∧ 10 = 10 ∧ (some 0 : Option Nat) = some 0 ∧ ((0 : Nat) = 0 ∨ ((0 : Nat) = 1 ∧ (((V.1 61 5) + 1) = 0 ∨ ((V.1 61 5) + 1) = 1))) ∧ 61 < n ∧ 10 = 10 ∧ 61 < n ∧ 10 = 10 ∧ (-2147483648 ≤ (V.1 61 6) + (V.1 61 2) ∧ (V.1 61 6) + (V.1 61 2) ≤ 2147483647) ∧ 61 < n ∧ 10 = 10 ∧ (some 0 : Option Nat) = some 0 ∧ ((0 : Nat) = 0 ∨ ((0 : Nat) = 1 ∧ (((V.1 61 6) + (V.1 61 2)) = 0 ∨ ((V.1 61 6) + (V.1 61 2)) = 1))) ∧ 61 < n ∧ 10 = 10 ∧ 61 < n ∧ 10 = 10 ∧ (some 0 : Option Nat) = some 0 ∧ ((0 : Nat) = 0 ∨ ((0 : Nat) = 1 ∧ (((lI (V.1 61 2) ^^^ lI 1).toInt) = 0 ∨ ((lI (V.1 61 2) ^^^ lI 1).toInt) = 1))) ∧ 1 = 1 ∧ (some FieldType.long : Option FieldType) = some FieldType.long ∧ post (some (.inr (.inl (ud)))) (zuF (zuF (zuF (zuF (zuF V 61 3 ((lI (V.1 61 3) &&& lI ((lI ((tv_4.getD f.toNat 0).toInt) &&& lI ((tv_4.getD t.toNat 0).toInt)).toInt)).toInt)) 61 4 r241) 61 5 ((V.1 61 5) + 1)) 61 6 ((V.1 61 6) + (V.1 61 2))) 61 2 ((lI (V.1 61 2) ^^^ lI 1).toInt))) ∧ (¬ tk = 0 → 61 < n ∧ 10 = 10 ∧ (some 0 : Option Nat) = some 0 ∧ ((0 : Nat) = 0 ∨ ((0 : Nat) = 1 ∧ ((0 : Int) = 0 ∨ (0 : Int) = 1))) ∧ 61 < n ∧ 10 = 10 ∧ 61 < n ∧ 10 = 10 ∧ (-2147483648 ≤ (V.1 61 6) + (V.1 61 2) ∧ (V.1 61 6) + (V.1 61 2) ≤ 2147483647) ∧ 61 < n ∧ 10 = 10 ∧ (some 0 : Option Nat) = some 0 ∧ ((0 : Nat) = 0 ∨ ((0 : Nat) = 1 ∧ (((V.1 61 6) + (V.1 61 2)) = 0 ∨ ((V.1 61 6) + (V.1 61 2)) = 1))) ∧ 61 < n ∧ 10 = 10 ∧ 61 < n ∧ 10 = 10 ∧ (some 0 : Option Nat) = some 0 ∧ ((0 : Nat) = 0 ∨ ((0 : Nat) = 1 ∧ (((lI (V.1 61 2) ^^^ lI 1).toInt) = 0 ∨ ((lI (V.1 61 2) ^^^ lI 1).toInt) = 1))) ∧ 1 = 1 ∧ (some FieldType.long : Option FieldType) = some FieldType.long ∧ post (some (.inr (.inl (ud)))) (zuF (zuF (zuF (zuF (zuF V 61 3 ((lI (V.1 61 3) &&& lI ((lI ((tv_4.getD f.toNat 0).toInt) &&& lI ((tv_4.getD t.toNat 0).toInt)).toInt)).toInt)) 61 4 r241) 61 5 0) 61 6 ((V.1 61 6) + (V.1 61 2))) 61 2 ((lI (V.1 61 2) ^^^ lI 1).toInt)))) from (have h := ((((((h).2).2).2 c235_15)).2 r241 hr241); ⟨(Nat.lt_of_lt_of_le (by decide) hn), rfl, rfl, (Or.inl rfl), ⟨fun c255_25 => ⟨(Nat.lt_of_lt_of_le (by decide) hn), rfl, rfl, (Or.inl rfl), ⟨(Nat.lt_of_lt_of_le (by decide) hn), rfl, ⟨(Nat.lt_of_lt_of_le (by decide) hn), rfl, ⟨(((h).1 c255_25)).1, ⟨(Nat.lt_of_lt_of_le (by decide) hn), rfl, rfl, (Or.inl rfl), ⟨(Nat.lt_of_lt_of_le (by decide) hn), rfl, (have h := (((((h).1 c255_25)).2).2 _ (z_x1 ((((h).1 c255_25)).2).1)); ⟨(Nat.lt_of_lt_of_le (by decide) hn), rfl, rfl, (Or.inl rfl), ⟨rfl, rfl, h⟩⟩)⟩⟩⟩⟩⟩⟩, fun c255_25 => ⟨fun c260_27 => (have h := ((((h).2 c255_25)).1 c260_27); ⟨(Nat.lt_of_lt_of_le (by decide) hn), rfl, ⟨(h).1, ⟨(Nat.lt_of_lt_of_le (by decide) hn), rfl, rfl, (Or.inl rfl), ⟨(Nat.lt_of_lt_of_le (by decide) hn), rfl, ⟨(Nat.lt_of_lt_of_le (by decide) hn), rfl, ⟨((h).2).1, ⟨(Nat.lt_of_lt_of_le (by decide) hn), rfl, rfl, (Or.inl rfl), ⟨(Nat.lt_of_lt_of_le (by decide) hn), rfl, (have h := ((((h).2).2).2 _ (z_x1 (((h).2).2).1)); ⟨(Nat.lt_of_lt_of_le (by decide) hn), rfl, rfl, (Or.inl rfl), ⟨rfl, rfl, h⟩⟩)⟩⟩⟩⟩⟩⟩⟩⟩), fun c260_27 => (have h := ((((h).2 c255_25)).2 c260_27); ⟨(Nat.lt_of_lt_of_le (by decide) hn), rfl, rfl, (Or.inl rfl), ⟨(Nat.lt_of_lt_of_le (by decide) hn), rfl, ⟨(Nat.lt_of_lt_of_le (by decide) hn), rfl, ⟨(h).1, ⟨(Nat.lt_of_lt_of_le (by decide) hn), rfl, rfl, (Or.inl rfl), ⟨(Nat.lt_of_lt_of_le (by decide) hn), rfl, (have h := (((h).2).2 _ (z_x1 ((h).2).1)); ⟨(Nat.lt_of_lt_of_le (by decide) hn), rfl, rfl, (Or.inl rfl), ⟨rfl, rfl, h⟩⟩)⟩⟩⟩⟩⟩⟩)⟩⟩⟩))⟩⟩⟩⟩⟩⟩)
set_option maxHeartbeats 4000000 in
set_option maxRecDepth 100000 in
theorem zk_BOmak61 {l : Launch} {E : jE} {n : Nat} (hn : 142 ≤ n) : zHas l E jcl jtb lw_tbl zsh n (y_BO_make, false, 2, 10, { frames := 1, cells := 0, slots := 0, locals := 24 }, zc_BOmak61) := by
  refine ⟨⟨rfl, rfl, ⟨show 1 ≤ 2 by decide, m_BO_make, i_BO_make, e_BO_make, fun _ => ⟨_, rfl, rfl⟩⟩⟩, ?_⟩
  rintro vz W po hO hW ⟨x, q, rfl, hq, hp⟩
  refine zmet (m := zm_BOmak61) rfl (by decide) (fun _ _ => jtF_ok) lo_BO ao_ZBOmak61 jC (fun q h => by cases h) (aAllc (fun G h => by obtain rfl := Option.some.inj h; exact ql_BO_125) (aAllc (fun G h => by obtain rfl := Option.some.inj h; exact ql_BO_132) (aAllc (fun G h => by obtain rfl := Option.some.inj h; exact ql_BO_102) (aAllc (fun G h => by obtain rfl := Option.some.inj h; exact ql_BO_138) (fun q h => by cases h))))) (aAllc (zk_BOppw61 hn) (aAllc (zk_BOlif61 hn) (aAllc (zk_BOput61 hn) (aAllc (zk_BOpby61 hn) (fun q h => by cases h))))) (Nat.le_of_ble_eq_true rfl) hO hW (500) ?_
  obtain ⟨hb, hz, hx, hn6, hn5⟩ := hq
  have hx2 : 0 ≤ x ∧ x < 32768 := ⟨hx.1, hx.2.1⟩
  have F := cMf_i hz hx
  obtain ⟨ef0, et0, eb0⟩ := cMm_f hx2
  obtain ⟨bT, bA, b2, b3, b4, bI⟩ := hb
  have mA : ∀ s, 0 ≤ s → s < 64 → W.2.1 62 s = q.1 s := bA
  have hsd : 0 ≤ q.2.1 ∧ q.2.1 ≤ 1 := ⟨hz.1.1, hz.1.2.1⟩
  have hRt := hz.2.1
  have hps : -1 ≤ q.2.2.2 ∧ q.2.2.2 ≤ 63 := by
    rcases hz.1.2.2.2.2.1 with c | ⟨p0, p1, p2, p3⟩
    · omega
    · omega
  have hw := F.2.2.1
  have mE : ∀ f, f = x / 512 → W.2.1 62 f = q.1 (x / 512) := fun f e => by rw [e]; exact mA _ (by omega) (by omega)
  have mR : ∀ f, f = x / 512 → 1 ≤ W.2.1 62 f ∧ W.2.1 62 f ≤ 14 := fun f e => by rw [mE f e]; exact ⟨F.2.1.1, F.2.1.2.1⟩
  have main : ∀ f t bb mm kd w : Int, (f = x / 512 ∧ t = x / 8 % 64 ∧ bb = x % 8 ∧ mm = q.1 (x / 512) ∧ kd = q.1 (x / 512) % 8 ∧ w = rWh q (cMm x)) → ∀ (K : Nat) (u8 u9 u10 : Option zv), 400 ≤ K → zwp jtb zsh n zm_BOmak61 po K (lGo ak_ZBOmak61 57) 57 [some (.inr (.inr (some (.inl 61)))), some (.inl x), some (.inl f), some (.inl t), some (.inl bb), some (.inl mm), some (.inl kd), some (.inl w), u8, u9, u10] [] W := by
    rintro f t bb mm kd w ⟨e1, e2, e3, e4, e5, e6⟩ K u8 u9 u10 hK
    rw [← e1, ← e2, ← e3, ← e6] at F
    rw [← e1] at e4 e5 ef0
    rw [← e2] at et0
    rw [← e3] at eb0
    have ef : rFr (cMm x) = f := ef0
    have et : rTo (cMm x) = t := et0
    have eb : rBc (cMm x) = bb := eb0
    have mw0 : W.2.1 62 w = q.1 w := mA w F.1.2.2.2.2.1 F.1.2.2.2.2.2.1
    clear ef0 et0 eb0 mE mR hw
    obtain ⟨⟨f0, f1, t0', t1', w0, w1, tf, wf⟩, ⟨m1, m2, m3, m4, m5⟩, hw, ⟨k1, k2, k3⟩, k4, k5, k6, k7, k8⟩ := F
    have mf : W.2.1 62 f = q.1 f := mA f f0 f1
    have z0 : zMs 61 W W q.1 := ⟨zFy_0, bA, bI⟩
    have m3e : ∀ j, rM3 q (cMm x) j = if j = t then (if 0 < bb then bb + 8 * q.2.1 else q.1 f) else if j = f then 0 else if j = w then 0 else q.1 j := by
      intro j
      unfold rM3 rM2 rM1 rUp
      rw [ef, et, eb, ← e6]
    have h211 : ∀ (K : Nat) (V : zW) (tk : Int) (ud : Int64) (u10 : Option zv), 60 ≤ K → tk = q.1 w → (cUd ud (q.1 w) q.2.2.1 q.2.2.2 ∧ cUk ud (W.1 61 5)) → zMs 61 W V (rM4 q (cMm x)) → zwp jtb zsh n zm_BOmak61 po K (lGo ak_ZBOmak61 211) 211 [some (.inr (.inr (some (.inl 61)))), some (.inl x), some (.inl f), some (.inl t), some (.inl bb), some (.inl mm), some (.inl kd), some (.inl w), some (.inl (tk)), some (.inr (.inl ud)), u10] [] V := by
      intro K V tk ud u10 hK etk hud hV
      have v2 : V.1 61 2 = q.2.1 := (zFy_f hV.1 61 2).trans b2
      have v3 : V.1 61 3 = q.2.2.1 := (zFy_f hV.1 61 3).trans b3
      have v6 : V.1 61 6 = W.1 61 6 := zFy_f hV.1 61 6
      have v5 : V.1 61 5 = W.1 61 5 := zFy_f hV.1 61 5
      have rE : (lI (V.1 61 3) &&& lI ((lI ((tv_4.getD f.toNat 0).toInt) &&& lI ((tv_4.getD t.toNat 0).toInt)).toInt)).toInt = rAn (rAn q.2.2.1 (rLo (rFr (cMm x)))) (rLo (rTo (cMm x))) := by
        rw [v3, ef, et]; exact cKp hRt ⟨f0, f1⟩ ⟨t0', t1'⟩
      have pbE : kd = 1 → cPb (V.2.1 62) (V.1 61 2) f t = rNp q (cMm x) := by
        intro k
        rw [v2, ← ef, ← et]
        exact cPb_e hV.2.1 (by rw [ef]; omega)
      have fin : ∀ R' P' c' n' s' : Int, R' = rAn (rAn q.2.2.1 (rLo (rFr (cMm x)))) (rLo (rTo (cMm x))) → P' = rNp q (cMm x) → n' = W.1 61 6 + q.2.1 → s' = 1 - q.2.1 → (0 ≤ c' ∧ c' ≤ W.1 61 5 + 1) → zMx 61 W (zuF (zuF (zuF (zuF (zuF V 61 3 R') 61 4 P') 61 5 c') 61 6 n') 61 2 s') ∧ zBo (zuF (zuF (zuF (zuF (zuF V 61 3 R') 61 4 P') 61 5 c') 61 6 n') 61 2 s') 61 (rMk q (cMm x)) ∧ (zuF (zuF (zuF (zuF (zuF V 61 3 R') 61 4 P') 61 5 c') 61 6 n') 61 2 s').1 61 6 = W.1 61 6 + q.2.1 ∧ cUd ud (q.1 (rWh q (cMm x))) q.2.2.1 q.2.2.2 ∧ (0 ≤ (zuF (zuF (zuF (zuF (zuF V 61 3 R') 61 4 P') 61 5 c') 61 6 n') 61 2 s').1 61 5 ∧ (zuF (zuF (zuF (zuF (zuF V 61 3 R') 61 4 P') 61 5 c') 61 6 n') 61 2 s').1 61 5 ≤ W.1 61 5 + 1) ∧ cUk ud (W.1 61 5) := by
        intro R' P' c' n' s' hR hP hN hS hC
        refine ⟨zFy_F (zFy_F (zFy_F (zFy_F (zFy_F (zFy_w hV.1 (fun _ z => by cases z) (fun _ z => z) (fun _ z => z)) (by decide)) (by decide)) (by decide)) (by decide)) (by decide), ⟨?_, hV.2.1, hS, hR, hP, hV.2.2⟩, hN, by rw [← e6]; exact hud.1, hC, hud.2⟩
        have r8 := zFy_r hV.1 69
        have r9 := zFy_r hV.1 70
        exact zBt_x bT r8 r9
      exact zp_BOmak61_211 (by omega) hn ⟨(by omega), ⟨(by omega), ⟨fun c235 => ⟨fun c255 => ⟨(by omega), ⟨(by omega), fun t0 e0 => (hp _ _ (fin _ _ _ _ _ rE (rNp_n (by rw [ef]; omega)).symm (by omega) (by omega) (by omega)))⟩⟩, fun c255 => ⟨fun c260 => ⟨(by omega), ⟨(by omega), ⟨(by omega), fun t1 e1 => (hp _ _ (fin _ _ _ _ _ rE (rNp_n (by rw [ef]; omega)).symm (by omega) (by omega) (by omega)))⟩⟩⟩, fun c260 => ⟨(by omega), ⟨(by omega), fun t2 e2 => (hp _ _ (fin _ _ _ _ _ rE (rNp_n (by rw [ef]; omega)).symm (by omega) (by omega) (by omega)))⟩⟩⟩⟩, fun c235 => ⟨⟨by omega, by omega, (show 0 ≤ V.1 61 2 ∧ V.1 61 2 ≤ 1 by omega)⟩, fun r241 hr241 => ⟨fun c255 => ⟨(by omega), ⟨(by omega), fun t3 e3 => (hp _ _ (fin _ _ _ _ _ rE (by rw [hr241]; exact pbE (by omega)) (by omega) (by omega) (by omega)))⟩⟩, fun c255 => ⟨fun c260 => ⟨(by omega), ⟨(by omega), ⟨(by omega), fun t4 e4 => (hp _ _ (fin _ _ _ _ _ rE (by rw [hr241]; exact pbE (by omega)) (by omega) (by omega) (by omega)))⟩⟩⟩, fun c260 => ⟨(by omega), ⟨(by omega), fun t5 e5 => (hp _ _ (fin _ _ _ _ _ rE (by rw [hr241]; exact pbE (by omega)) (by omega) (by omega) (by omega)))⟩⟩⟩⟩⟩⟩⟩⟩
    have h136 : ∀ (K : Nat) (V : zW) (tk : Int) (ud : Int64) (u10 : Option zv), 140 ≤ K → tk = q.1 w → (cUd ud (q.1 w) q.2.2.1 q.2.2.2 ∧ cUk ud (W.1 61 5)) → zMs 61 W V (rM3 q (cMm x)) → zwp jtb zsh n zm_BOmak61 po K (lGo ak_ZBOmak61 136) 136 [some (.inr (.inr (some (.inl 61)))), some (.inl x), some (.inl f), some (.inl t), some (.inl bb), some (.inl mm), some (.inl kd), some (.inl w), some (.inl (tk)), some (.inr (.inl ud)), u10] [] V := by
      intro K V tk ud u10 hK etk hud hV
      have v2 : V.1 61 2 = q.2.1 := (zFy_f hV.1 61 2).trans b2
      have sd2 : ∀ {s : Int} (U : zW), zLi 61 V U s → U.1 61 2 = q.2.1 := fun U z => (zFy_f z.1 61 2).trans v2
      have wt : kd = 6 → w = t := fun k => by rw [hw, if_neg (by omega)]
      have nc : ¬ (kd = 6 ∧ (t - f = 2 ∨ f - t = 2)) → zMs 61 W V (rM4 q (cMm x)) := by
        intro z
        rw [rM4_n (fun c => z ⟨by have := c.1; rw [ef] at this; omega, by have := c.2; rw [ef, et] at this; exact this⟩)]
        exact hV
      have s1 : (kd = 6 ∧ t - f = 2) → V.2.1 62 (f + 3) = 8 * q.2.1 + 4 := by
        rintro ⟨z, z2⟩
        have h7 := k7 (by omega) z2
        have hw2 := wt z
        refine (hV.2.1 _ (by omega) (by omega)).trans ?_
        rw [m3e, if_neg (by omega), if_neg (by omega), if_neg (by omega)]
        exact h7.2.2.2
      have l1 : (kd = 6 ∧ f - t = 2) → V.2.1 62 (f - 4) = 8 * q.2.1 + 4 := by
        rintro ⟨z, z2⟩
        have h7 := k8 (by omega) z2
        have hw2 := wt z
        refine (hV.2.1 _ (by omega) (by omega)).trans ?_
        rw [m3e, if_neg (by omega), if_neg (by omega), if_neg (by omega)]
        exact h7.2.2.2.2
      have s2 : ∀ U : zW, (kd = 6 ∧ t - f = 2) → zLi 61 V U (f + 3) → zMs 61 W U (fun j => if j = f + 3 then 0 else rM3 q (cMm x) j) := by
        intro U z hl
        have h7 := k7 (by omega) z.2
        exact zMs_l hV hl (by omega) (by rw [← hV.2.1 _ (by omega) (by omega)]; have := s1 z; show 1 ≤ V.2.1 62 (f + 3); omega)
      have l2 : ∀ U : zW, (kd = 6 ∧ f - t = 2) → zLi 61 V U (f - 4) → zMs 61 W U (fun j => if j = f - 4 then 0 else rM3 q (cMm x) j) := by
        intro U z hl
        have h7 := k8 (by omega) z.2
        exact zMs_l hV hl (by omega) (by rw [← hV.2.1 _ (by omega) (by omega)]; have := l1 z; show 1 ≤ V.2.1 62 (f - 4); omega)
      have s3 : ∀ (U X : zW) (v : Int), (kd = 6 ∧ t - f = 2) → v = 8 * q.2.1 + 4 → zLi 61 V U (f + 3) → zPu 61 U X (f + 1) v → zMs 61 W X (rM4 q (cMm x)) := by
        intro U X v z ev hl hpp
        have h7 := k7 (by omega) z.2
        have hw2 := wt z.1
        have ic : rIsC q (cMm x) := ⟨by rw [ef]; omega, by rw [ef, et]; exact Or.inl z.2⟩
        have co : rM3 q (cMm x) (f + 3) = 8 * q.2.1 + 4 := by rw [m3e, if_neg (by omega), if_neg (by omega), if_neg (by omega)]; exact h7.2.2.2
        refine zMs_c (zMs_p (s2 U z hl) hpp (by omega) (by rw [if_neg (by omega), m3e, if_neg (by omega), if_neg (by omega), if_neg (by omega)]; exact h7.2.1) (by omega) (by omega)) (fun j j0 j1 => ?_)
        rw [rM4_c ic]
        unfold rM4c rUp rCo rOv
        rw [ef, et, if_pos (show f < t by omega), show (f + t) / 2 = f + 1 by omega, co, ev]
        by_cases c : j = f + 3
        · rw [if_neg (by omega), if_pos c, if_pos c]
        · rw [if_neg c, if_neg c]
      have l3 : ∀ (U X : zW) (v : Int), (kd = 6 ∧ f - t = 2) → v = 8 * q.2.1 + 4 → zLi 61 V U (f - 4) → zPu 61 U X (f - 1) v → zMs 61 W X (rM4 q (cMm x)) := by
        intro U X v z ev hl hpp
        have h7 := k8 (by omega) z.2
        have hw2 := wt z.1
        have ic : rIsC q (cMm x) := ⟨by rw [ef]; omega, by rw [ef, et]; exact Or.inr z.2⟩
        have co : rM3 q (cMm x) (f - 4) = 8 * q.2.1 + 4 := by rw [m3e, if_neg (by omega), if_neg (by omega), if_neg (by omega)]; exact h7.2.2.2.2
        refine zMs_c (zMs_p (l2 U z hl) hpp (by omega) (by rw [if_neg (by omega), m3e, if_neg (by omega), if_neg (by omega), if_neg (by omega)]; exact h7.2.1) (by omega) (by omega)) (fun j j0 j1 => ?_)
        rw [rM4_c ic]
        unfold rM4c rUp rCo rOv
        rw [ef, et, if_neg (show ¬ f < t by omega), show (f + t) / 2 = f - 1 by omega, co, ev]
        by_cases c : j = f - 4
        · rw [if_neg (by omega), if_pos c, if_pos c]
        · rw [if_neg c, if_neg c]
      have h7' : (kd = 6 ∧ t - f = 2) → f = 56 * q.2.1 + 4 := fun z => (k7 (by omega) z.2).1
      have h8' : (kd = 6 ∧ f - t = 2) → f = 56 * q.2.1 + 4 := fun z => (k8 (by omega) z.2).1
      clear k7 k8 k5 hw
      exact zp_BOmak61_136 (by omega) hn ⟨fun c140 => ⟨fun c179 => (h211 _ _ _ _ _ (by omega) etk hud (nc (by omega))), fun c179 => ⟨(by omega), ⟨fun c186 => (h211 _ _ _ _ _ (by omega) etk hud (nc (by omega))), fun c186 => ⟨(by omega), ⟨⟨by omega, by have := l1 (by omega); omega, by rw [l1 (by omega)]; exact zMs_n hV (by omega)⟩, fun W193 hr193 => ⟨(by omega), ⟨(by have := sd2 _ hr193; omega), fun t0 e0 => ⟨(by have := sd2 _ hr193; omega), fun t1 e1 => ⟨⟨by omega, by have := sd2 _ hr193; omega, zMs_n (l2 _ (by omega) hr193) (by have := sd2 _ hr193; omega)⟩, fun W208 hr208 => (h211 _ _ _ _ _ (by omega) etk hud (l3 _ _ _ (by omega) (by have := sd2 _ hr193; omega) hr193 hr208))⟩⟩⟩⟩⟩⟩⟩⟩⟩, fun c140 => ⟨(by omega), ⟨fun c147 => ⟨fun c179 => (h211 _ _ _ _ _ (by omega) etk hud (nc (by omega))), fun c179 => ⟨(by omega), ⟨fun c186 => (h211 _ _ _ _ _ (by omega) etk hud (nc (by omega))), fun c186 => ⟨(by omega), ⟨⟨by omega, by have := l1 (by omega); omega, by rw [l1 (by omega)]; exact zMs_n hV (by omega)⟩, fun W193 hr193 => ⟨(by omega), ⟨(by have := sd2 _ hr193; omega), fun t2 e2 => ⟨(by have := sd2 _ hr193; omega), fun t3 e3 => ⟨⟨by omega, by have := sd2 _ hr193; omega, zMs_n (l2 _ (by omega) hr193) (by have := sd2 _ hr193; omega)⟩, fun W208 hr208 => (h211 _ _ _ _ _ (by omega) etk hud (l3 _ _ _ (by omega) (by have := sd2 _ hr193; omega) hr193 hr208))⟩⟩⟩⟩⟩⟩⟩⟩⟩, fun c147 => ⟨(by omega), ⟨⟨by omega, by have := s1 (by omega); omega, by rw [s1 (by omega)]; exact zMs_n hV (by omega)⟩, fun W154 hr154 => ⟨(by omega), ⟨(by have := sd2 _ hr154; omega), fun t4 e4 => ⟨(by have := sd2 _ hr154; omega), fun t5 e5 => ⟨⟨by omega, by have := sd2 _ hr154; omega, zMs_n (s2 _ (by omega) hr154) (by have := sd2 _ hr154; omega)⟩, fun W169 hr169 => (h211 _ _ _ _ _ (by omega) etk hud (s3 _ _ _ (by omega) (by have := sd2 _ hr154; omega) hr154 hr169))⟩⟩⟩⟩⟩⟩⟩⟩⟩
    have h113 : ∀ (K : Nat) (V : zW) (tk : Int) (ud : Int64) (u10 : Option zv), 200 ≤ K → tk = q.1 w → (cUd ud (q.1 w) q.2.2.1 q.2.2.2 ∧ cUk ud (W.1 61 5)) → zMs 61 W V (fun j => if j = f then 0 else if j = w then 0 else q.1 j) → zwp jtb zsh n zm_BOmak61 po K (lGo ak_ZBOmak61 113) 113 [some (.inr (.inr (some (.inl 61)))), some (.inl x), some (.inl f), some (.inl t), some (.inl bb), some (.inl mm), some (.inl kd), some (.inl w), some (.inl (tk)), some (.inr (.inl ud)), u10] [] V := by
      intro K V tk ud u10 hK etk hud hV
      have a8 : (lI mm &&& lI 8).toInt = 8 * (mm / 8) := cA8 (by omega)
      have pt : ∀ (U : zW) (v : Int), zPu 61 V U t v → v = (if 0 < bb then bb + 8 * q.2.1 else q.1 f) → zMs 61 W U (rM3 q (cMm x)) := by
        intro U v hpp ev
        refine zMs_c (zMs_p hV hpp ⟨t0', t1'⟩ ?_ ?_ (fun z j j0 j1 => ?_)) (fun j j0 j1 => ?_)
        · rw [if_neg tf]
          by_cases c : t = w
          · rw [if_pos c]
          · rw [if_neg c]; exact k4.resolve_left c
        · rw [ev]; split <;> omega
        · have e7 : q.1 f % 8 = 6 ∧ v = q.1 f := by
            rw [ev] at z ⊢
            by_cases c : 0 < bb
            · rw [if_pos c] at z; omega
            · rw [if_neg c] at z ⊢; exact ⟨z, rfl⟩
          intro ee
          by_cases c : j = f
          · rw [if_pos c] at ee; omega
          · rw [if_neg c] at ee
            by_cases d : j = w
            · rw [if_pos d] at ee; omega
            · rw [if_neg d] at ee
              exact c (k5 e7.1 j (by omega))
        · rw [m3e j, ← ev]
      exact zp_BOmak61_113 (by omega) hn ⟨fun c117 => ⟨(by omega), fun t0 e0 => ⟨⟨by omega, by omega, zMs_n hV (by omega)⟩, fun W133 hr133 => (h136 _ _ _ _ _ (by omega) etk hud (pt _ _ hr133 (by first | (rw [if_pos (by omega)]; omega) | (rw [if_neg (by omega)]; omega))))⟩⟩, fun c117 => ⟨⟨by omega, by omega, zMs_n hV (by omega)⟩, fun W133 hr133 => (h136 _ _ _ _ _ (by omega) etk hud (pt _ _ hr133 (by first | (rw [if_pos (by omega)]; omega) | (rw [if_neg (by omega)]; omega))))⟩⟩
    have mw : W.2.1 62 w = q.1 w := mw0
    have st1 : ∀ U : zW, zLi 61 W U f → zMs 61 W U (fun j => if j = f then 0 else q.1 j) := fun U h => zMs_l z0 h ⟨f0, f1⟩ m1
    have st4 : ∀ U : zW, zLi 61 W U f → W.2.1 62 w = 0 → zMs 61 W U (fun j => if j = f then 0 else if j = w then 0 else q.1 j) := by
      intro U h z
      refine zMs_c (st1 U h) (fun j j0 j1 => ?_)
      by_cases c : j = f
      · rw [if_pos c, if_pos c]
      · rw [if_neg c, if_neg c]
        by_cases d : j = w
        · rw [if_pos d, d, ← mw]; exact z
        · rw [if_neg d]
    have uw : ∀ U : zW, zLi 61 W U f → U.2.1 62 w = q.1 w := by
      intro U h
      refine ((st1 U h).2.1 w w0 w1).trans ?_
      show (if w = f then 0 else q.1 w) = q.1 w
      rw [if_neg wf]
    have st2 : ∀ U : zW, zLi 61 W U f → ¬ W.2.1 62 w = 0 → (0 ≤ w ∧ w < 64) ∧ (0 ≤ U.2.1 62 w ∧ U.2.1 62 w < 16) ∧ (-1000 ≤ U.2.1 66 (U.2.1 62 w) ∧ U.2.1 66 (U.2.1 62 w) ≤ 1000) := by
      intro U h z
      rw [uw U h]
      exact ⟨⟨w0, w1⟩, by omega, zMs_n (st1 U h) (by omega)⟩
    have st3 : ∀ U X : zW, zLi 61 W U f → zLi 61 U X w → ¬ W.2.1 62 w = 0 → zMs 61 W X (fun j => if j = f then 0 else if j = w then 0 else q.1 j) := by
      intro U X h h2 z
      refine zMs_c (zMs_l (st1 U h) h2 ⟨w0, w1⟩ (by rw [if_neg wf]; omega)) (fun j j0 j1 => ?_)
      by_cases c : j = f
      · rw [if_pos c, if_neg (by omega), if_pos c]
      · rw [if_neg c, if_neg c]
    have cu : ∀ a b' : Int, a = W.1 61 3 * 16 → b' = (W.1 61 4 + 1) * 256 → (cUd (((lI ((lI ((lI (W.2.1 62 w) ||| lI a).toInt) ||| lI b').toInt)).toInt64) ||| (((lI (W.1 61 5)).toInt64) <<< ((lI 16).toInt64 &&& 63))) (q.1 w) q.2.2.1 q.2.2.2 ∧ cUk (((lI ((lI ((lI (W.2.1 62 w) ||| lI a).toInt) ||| lI b').toInt)).toInt64) ||| (((lI (W.1 61 5)).toInt64) <<< ((lI 16).toInt64 &&& 63))) (W.1 61 5)) := by
      intro a b' h1 h2
      rw [← mw, ← b3, ← b4]
      exact ⟨cUd_m (by omega) (by omega) (by omega) h1 h2, cUk_m (by omega) (by omega) (by omega) (by unfold lRg; omega) h1 h2⟩
    clear k5 k7 k8 hw k6
    exact zp_BOmak61_57 (by omega) hn ⟨(by omega), ⟨(by omega), fun t0 e0 => ⟨(by omega), ⟨(by omega), fun t1 e1 => ⟨⟨by omega, by omega, by rw [mf]; exact zMs_n z0 (by omega)⟩, fun W99 hr99 => ⟨fun c104 => (h113 _ _ _ _ _ (by omega) mw (cu _ _ e0 e1) (st4 _ hr99 (by omega))), fun c104 => ⟨(st2 _ hr99 (by omega)), fun W110 hr110 => (h113 _ _ _ _ _ (by omega) mw (cu _ _ e0 e1) (st3 _ _ hr99 hr110 (by omega)))⟩⟩⟩⟩⟩⟩⟩
  have h18 : ∀ (K : Nat) (f t bb : Int) (u5 u6 u7 u8 u9 u10 : Option zv), 440 ≤ K → (f = x / 512 ∧ t = x / 8 % 64 ∧ bb = x % 8) → zwp jtb zsh n zm_BOmak61 po K (lGo ak_ZBOmak61 18) 18 [some (.inr (.inr (some (.inl 61)))), some (.inl x), some (.inl f), some (.inl t), some (.inl bb), u5, u6, u7, u8, u9, u10] [] W := by
    intro K f t bb u5 u6 u7 u8 u9 u10 hK he
    exact zp_BOmak61_18 (by omega) hn ⟨(by omega), ⟨(by have := mR f (by omega); omega), fun t0 e0 => ⟨fun c36 => (main _ _ _ _ _ _ ⟨by omega, by omega, by omega, mE _ (by omega), by rw [← mE f (by omega)]; omega, by rw [hw, ← mE f (by omega), ← b4, if_neg (by omega)]; omega⟩ _ _ _ _ (by omega)), fun c36 => ⟨fun c44 => (main _ _ _ _ _ _ ⟨by omega, by omega, by omega, mE _ (by omega), by rw [← mE f (by omega)]; omega, by rw [hw, ← mE f (by omega), ← b4, if_neg (by omega)]; omega⟩ _ _ _ _ (by omega)), fun c44 => ⟨(by omega), fun r48 hr48 => (main _ _ _ _ _ _ ⟨by omega, by omega, by omega, mE _ (by omega), by rw [← mE f (by omega)]; omega, by rw [hw, ← mE f (by omega), ← b4, ← b2, if_pos (by omega)]; omega⟩ _ _ _ _ (by omega))⟩⟩⟩⟩⟩
  exact zp_BOmak61_0 (by omega) hn ⟨(by omega), fun t0 e0 => ⟨(by omega), fun t1 e1 => ⟨(by omega), fun t2 e2 => ⟨(by omega), fun t3 e3 => (h18 _ _ _ _ _ _ _ _ _ _ (by omega) (by omega))⟩⟩⟩⟩
end
section
/-! the men behind a legal move, square by square -/
theorem cM4_j {q : rQ} {x f t w bb : Int} (ef : rFr (cMm x) = f) (et : rTo (cMm x) = t) (eb : rBc (cMm x) = bb) (ew : rWh q (cMm x) = w) (F : cMf q f t w bb) : rM4 q (cMm x) t = (if 0 < bb then bb + 8 * q.2.1 else q.1 f) ∧ rM4 q (cMm x) f = 0 ∧ (¬ w = t → rM4 q (cMm x) w = 0) ∧ (¬ (q.1 f % 8 = 6 ∧ (t - f = 2 ∨ f - t = 2)) → ∀ j, ¬ j = f → ¬ j = t → ¬ j = w → rM4 q (cMm x) j = q.1 j) ∧ (q.1 f % 8 = 6 → t - f = 2 → w = t ∧ rM4 q (cMm x) (f + 1) = 8 * q.2.1 + 4 ∧ rM4 q (cMm x) (f + 3) = 0 ∧ ∀ j, ¬ j = f → ¬ j = t → ¬ j = f + 1 → ¬ j = f + 3 → rM4 q (cMm x) j = q.1 j) ∧ (q.1 f % 8 = 6 → f - t = 2 → w = t ∧ rM4 q (cMm x) (f - 1) = 8 * q.2.1 + 4 ∧ rM4 q (cMm x) (f - 4) = 0 ∧ ∀ j, ¬ j = f → ¬ j = t → ¬ j = f - 1 → ¬ j = f - 4 → rM4 q (cMm x) j = q.1 j) := by
  obtain ⟨⟨f0, f1, t0, t1, w0, w1, tf, wf⟩, ⟨m1, m2, m3, m4, m5⟩, hw, ⟨k1, k2, k3⟩, k4, k5, k6, k7, k8⟩ := F
  clear k5 k6
  have m3e : ∀ j, rM3 q (cMm x) j = if j = t then (if 0 < bb then bb + 8 * q.2.1 else q.1 f) else if j = f then 0 else if j = w then 0 else q.1 j := by
    intro j
    unfold rM3 rM2 rM1 rUp
    rw [ef, et, eb, ew]
  have wt : q.1 f % 8 = 6 → w = t := fun k => by rw [hw, if_neg (by omega)]
  have ic : rIsC q (cMm x) ↔ (q.1 f % 8 = 6 ∧ (t - f = 2 ∨ f - t = 2)) := by
    unfold rIsC; rw [ef, et]
  have nc : ¬ (q.1 f % 8 = 6 ∧ (t - f = 2 ∨ f - t = 2)) → rM4 q (cMm x) = rM3 q (cMm x) := fun z => rM4_n (fun c => z (ic.mp c))
  have S : q.1 f % 8 = 6 → t - f = 2 → ∀ j, rM4 q (cMm x) j = if j = f + 3 then 0 else if j = f + 1 then 8 * q.2.1 + 4 else rM3 q (cMm x) j := by
    intro k e j
    have h7 := k7 k e
    have hw2 := wt k
    have co : rM3 q (cMm x) (f + 3) = 8 * q.2.1 + 4 := by rw [m3e, if_neg (by omega), if_neg (by omega), if_neg (by omega)]; exact h7.2.2.2
    rw [rM4_c (ic.mpr ⟨k, Or.inl e⟩)]
    unfold rM4c rUp rCo rOv
    rw [ef, et, if_pos (show f < t by omega), show (f + t) / 2 = f + 1 by omega, co]
  have L : q.1 f % 8 = 6 → f - t = 2 → ∀ j, rM4 q (cMm x) j = if j = f - 4 then 0 else if j = f - 1 then 8 * q.2.1 + 4 else rM3 q (cMm x) j := by
    intro k e j
    have h7 := k8 k e
    have hw2 := wt k
    have co : rM3 q (cMm x) (f - 4) = 8 * q.2.1 + 4 := by rw [m3e, if_neg (by omega), if_neg (by omega), if_neg (by omega)]; exact h7.2.2.2.2
    rw [rM4_c (ic.mpr ⟨k, Or.inr e⟩)]
    unfold rM4c rUp rCo rOv
    rw [ef, et, if_neg (show ¬ f < t by omega), show (f + t) / 2 = f - 1 by omega, co]
  clear hw
  refine ⟨?_, ?_, fun z => ?_, fun z j j0 j1 j2 => ?_, fun k e => ⟨wt k, ?_, ?_, fun j j0 j1 j2 j3 => ?_⟩, fun k e => ⟨wt k, ?_, ?_, fun j j0 j1 j2 j3 => ?_⟩⟩
  · by_cases c : q.1 f % 8 = 6 ∧ (t - f = 2 ∨ f - t = 2)
    · rcases c.2 with d | d
      · rw [S c.1 d, if_neg (by omega), if_neg (by omega), m3e, if_pos rfl]
      · rw [L c.1 d, if_neg (by omega), if_neg (by omega), m3e, if_pos rfl]
    · rw [nc c, m3e, if_pos rfl]
  · by_cases c : q.1 f % 8 = 6 ∧ (t - f = 2 ∨ f - t = 2)
    · rcases c.2 with d | d
      · rw [S c.1 d, if_neg (by omega), if_neg (by omega), m3e, if_neg (by omega), if_pos rfl]
      · rw [L c.1 d, if_neg (by omega), if_neg (by omega), m3e, if_neg (by omega), if_pos rfl]
    · rw [nc c, m3e, if_neg (by omega), if_pos rfl]
  · rw [nc (fun c => z (wt c.1)), m3e, if_neg z, if_neg wf, if_pos rfl]
  · rw [nc z, m3e, if_neg j1, if_neg j0, if_neg j2]
  · rw [S k e, if_neg (by omega), if_pos rfl]
  · rw [S k e, if_pos rfl]
  · rw [S k e, if_neg j3, if_neg j2, m3e, if_neg j1, if_neg j0, if_neg (by have := wt k; omega)]
  · rw [L k e, if_neg (by omega), if_pos rfl]
  · rw [L k e, if_pos rfl]
  · rw [L k e, if_neg j3, if_neg j2, m3e, if_neg j1, if_neg j0, if_neg (by have := wt k; omega)]
/-- no second king comes onto the Board when a move is taken back -/
theorem cM4_k {q : rQ} {x f t w bb c j : Int} (ef : rFr (cMm x) = f) (et : rTo (cMm x) = t) (eb : rBc (cMm x) = bb) (ew : rWh q (cMm x) = w) (F : cMf q f t w bb) (hc : c = 6 ∨ c = 14) (hj : ¬ j = t) (h : rM4 q (cMm x) j = c) : q.1 j = c ∧ ¬ j = f := by
  obtain ⟨a1, a2, a3, a4, a5, a6⟩ := cM4_j ef et eb ew F
  have hs : q.2.1 = q.1 f / 8 := F.2.1.2.2.1.symm
  have m1 := F.2.1.1
  have m2 := F.2.1.2.1
  have jf : ¬ j = f := fun z => by rw [z, a2] at h; omega
  refine ⟨?_, jf⟩
  by_cases k : q.1 f % 8 = 6 ∧ (t - f = 2 ∨ f - t = 2)
  · rcases k.2 with d | d
    · obtain ⟨_, b1, b2, b3⟩ := a5 k.1 d
      by_cases c1 : j = f + 1
      · rw [c1, b1] at h; omega
      · by_cases c2 : j = f + 3
        · rw [c2, b2] at h; omega
        · rw [← b3 j jf hj c1 c2]; exact h
    · obtain ⟨_, b1, b2, b3⟩ := a6 k.1 d
      by_cases c1 : j = f - 1
      · rw [c1, b1] at h; omega
      · by_cases c2 : j = f - 4
        · rw [c2, b2] at h; omega
        · rw [← b3 j jf hj c1 c2]; exact h
  · by_cases jw : j = w
    · rw [jw, a3 (by omega)] at h; omega
    · rw [← a4 k j jf hj jw]; exact h
/-- what unmake finds -/
noncomputable def cUf (q : rQ) (x f t w bb : Int) : Prop := (1 ≤ rM4 q (cMm x) t ∧ rM4 q (cMm x) t ≤ 14) ∧ (bb = 0 → rM4 q (cMm x) t = q.1 f) ∧ rM4 q (cMm x) f = 0 ∧ (q.1 f % 8 = 6 → ∀ j, ¬ (if j = t then 0 else rM4 q (cMm x) j) = q.1 f) ∧ (if w = f then q.1 f else if w = t then 0 else rM4 q (cMm x) w) = 0 ∧ (¬ q.1 w = 0 → q.1 w % 8 = 6 → ∀ j, ¬ (if j = f then q.1 f else if j = t then 0 else rM4 q (cMm x) j) = q.1 w) ∧ (q.1 w = 0 → w = t)
/-- the men before castling is undone -/
noncomputable def cU2 (q : rQ) (x f t w : Int) : Int → Int := fun j => if j = f then q.1 f else if j = w then q.1 w else if j = t then 0 else rM4 q (cMm x) j
noncomputable def cUc (q : rQ) (x f t w : Int) : Prop := (¬ (q.1 f % 8 = 6 ∧ (t - f = 2 ∨ f - t = 2)) → ∀ j, cU2 q x f t w j = q.1 j) ∧ (q.1 f % 8 = 6 ∧ t - f = 2 → f = 56 * q.2.1 + 4 ∧ cU2 q x f t w (f + 1) = 8 * q.2.1 + 4 ∧ cU2 q x f t w (f + 3) = 0 ∧ ∀ j, (if j = f + 3 then 8 * q.2.1 + 4 else if j = f + 1 then 0 else cU2 q x f t w j) = q.1 j) ∧ (q.1 f % 8 = 6 ∧ f - t = 2 → f = 56 * q.2.1 + 4 ∧ cU2 q x f t w (f - 1) = 8 * q.2.1 + 4 ∧ cU2 q x f t w (f - 4) = 0 ∧ ∀ j, (if j = f - 4 then 8 * q.2.1 + 4 else if j = f - 1 then 0 else cU2 q x f t w j) = q.1 j)
theorem cUc_i {q : rQ} {x f t w bb : Int} (ef : rFr (cMm x) = f) (et : rTo (cMm x) = t) (eb : rBc (cMm x) = bb) (ew : rWh q (cMm x) = w) (F : cMf q f t w bb) : cUc q x f t w := by
  obtain ⟨a1, a2, a3, a4, a5, a6⟩ := cM4_j ef et eb ew F
  obtain ⟨⟨f0, f1, t0, t1, w0, w1, tf, wf⟩, _, _, _, k4, _, _, k7, k8⟩ := F
  clear a1 a2 a3
  refine ⟨fun z j => ?_, fun ⟨k, e⟩ => ?_, fun ⟨k, e⟩ => ?_⟩
  · clear a5 a6 k7 k8
    unfold cU2
    by_cases d1 : j = f
    · rw [if_pos d1, d1]
    · rw [if_neg d1]
      by_cases d2 : j = w
      · rw [if_pos d2, d2]
      · rw [if_neg d2]
        by_cases d3 : j = t
        · rw [if_pos d3, d3]; exact (k4.resolve_left (fun z => d2 (d3.trans z))).symm
        · rw [if_neg d3]; exact a4 z j d1 d3 d2
  · have h7 := k7 k e
    obtain ⟨h5, h6, h8, h9⟩ := a5 k e
    clear a4 a5 a6 k7 k8 k4
    unfold cU2
    refine ⟨h7.1, ?_, ?_, fun j => ?_⟩
    · rw [if_neg (by omega), if_neg (by omega), if_neg (by omega)]; exact h6
    · rw [if_neg (by omega), if_neg (by omega), if_neg (by omega)]; exact h8
    · by_cases d1 : j = f + 3
      · rw [if_pos d1, d1, h7.2.2.2]
      · rw [if_neg d1]
        by_cases d2 : j = f + 1
        · rw [if_pos d2, d2, h7.2.1]
        · rw [if_neg d2]
          by_cases d3 : j = f
          · rw [if_pos d3, d3]
          · rw [if_neg d3]
            by_cases d4 : j = w
            · rw [if_pos d4, d4]
            · rw [if_neg d4, if_neg (fun z => d4 (z.trans h5.symm))]
              exact h9 j d3 (fun z => d4 (z.trans h5.symm)) d2 d1
  · have h7 := k8 k e
    obtain ⟨h5, h6, h8, h9⟩ := a6 k e
    clear a4 a5 a6 k7 k8 k4
    unfold cU2
    refine ⟨h7.1, ?_, ?_, fun j => ?_⟩
    · rw [if_neg (by omega), if_neg (by omega), if_neg (by omega)]; exact h6
    · rw [if_neg (by omega), if_neg (by omega), if_neg (by omega)]; exact h8
    · by_cases d1 : j = f - 4
      · rw [if_pos d1, d1, h7.2.2.2.2]
      · rw [if_neg d1]
        by_cases d2 : j = f - 1
        · rw [if_pos d2, d2, h7.2.1]
        · rw [if_neg d2]
          by_cases d3 : j = f
          · rw [if_pos d3, d3]
          · rw [if_neg d3]
            by_cases d4 : j = w
            · rw [if_pos d4, d4]
            · rw [if_neg d4, if_neg (fun z => d4 (z.trans h5.symm))]
              exact h9 j d3 (fun z => d4 (z.trans h5.symm)) d2 d1
theorem cUf_i {q : rQ} {x f t w bb : Int} (hz : zGd q) (ef : rFr (cMm x) = f) (et : rTo (cMm x) = t) (eb : rBc (cMm x) = bb) (ew : rWh q (cMm x) = w) (F : cMf q f t w bb) : cUf q x f t w bb := by
  have ak := fun c j => cM4_k (c := c) (j := j) ef et eb ew F
  obtain ⟨a1, a2, a3, _, _, _⟩ := cM4_j ef et eb ew F
  obtain ⟨⟨f0, f1, t0, t1, w0, w1, tf, wf⟩, ⟨m1, m2, m3, m4, m5⟩, hw, ⟨k1, k2, k3⟩, _, k5, k6, _, _⟩ := F
  have hs : q.2.1 = 0 ∨ q.2.1 = 1 := by have := hz.1.1; have := hz.1.2.1; clear hw a1 a3 k3 k6; omega
  have hks := hz.1.2.2.2.1
  have tw : q.1 w = 0 → w = t := fun z => by
    by_cases d : q.1 f % 8 = 1 ∧ t = q.2.2.2
    · rw [if_pos d] at hw
      exfalso
      rcases hz.1.2.2.2.2.1 with g4 | ⟨p0, p1, p2, p3⟩
      · clear a1 a3 k3 k6 hs; omega
      · clear a1 a3 k3 k6
        rcases p3 with ⟨p3, p4, p5⟩ | ⟨p3, p4, p5⟩
        · rw [show q.2.2.2 - 8 = w by omega] at p5; omega
        · rw [show q.2.2.2 + 8 = w by omega] at p5; omega
    · rw [if_neg d] at hw; exact hw
  clear hw
  refine ⟨?_, fun z => by rw [a1, if_neg (by omega)], a2, fun z6 j ee => ?_, ?_, fun z z6 j ee => ?_, tw⟩
  · rw [a1]; clear a1 a3 k3 tw; split <;> omega
  · by_cases d : j = t
    · rw [if_pos d] at ee; clear a1 a3 k3 tw k6; omega
    · rw [if_neg d] at ee
      have g := ak (q.1 f) j (by clear a1 a3 k3 tw k6; omega) d ee
      exact g.2 (k5 z6 j (by rw [g.1]; clear a1 a3 k3 tw k6; omega))
  · rw [if_neg wf]
    by_cases d : w = t
    · rw [if_pos d]
    · rw [if_neg d]; exact a3 d
  · have k3' := k3 z
    by_cases d1 : j = f
    · rw [if_pos d1] at ee; rw [ee] at m3; exact k3' m3
    · rw [if_neg d1] at ee
      by_cases d2 : j = t
      · rw [if_pos d2] at ee; exact z ee.symm
      · rw [if_neg d2] at ee
        have g := (ak (q.1 w) j (by clear a1 a3 k3 tw k6; omega) d2 ee).1
        obtain ⟨s, s0, s1, s2, s3⟩ := hks (q.1 w / 8) (by clear a1 a3 k3 tw k6; omega) (by clear a1 a3 k3 tw k6; omega)
        have e8 : q.1 w = 8 * (q.1 w / 8) + 6 := by clear a1 a3 k3 tw k6; omega
        have hj := s3 j (g.trans e8)
        have hw' := s3 w e8
        by_cases d : w = t
        · exact d2 (hj.trans (hw'.symm.trans d))
        · have ee2 := a3 d
          rw [hj, ← hw', ee2] at ee
          exact z ee.symm
end
