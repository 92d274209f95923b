/-! the start: what the claim's premises give -/
theorem jin_rng {fl : List Jvm.Cond} {N : Nat} {f : Nat → Jvm.Cond} (is : List Nat) (h : is.map (fun i => fl[i]?) = (List.range N).map (fun j => some (f j))) (j : Nat) (hj : j < N) : f j ∈ fl := by
  have h1 : some (f j) ∈ is.map (fun i => fl[i]?) := by rw [h]; exact List.mem_map.mpr ⟨j, List.mem_range.mpr hj, rfl⟩
  obtain ⟨i, -, hi⟩ := List.mem_map.mp h1
  exact List.mem_of_getElem? hi
def st_fl : List Jvm.Cond := flatC (Jvm.Cond.and given_1 narrow_1)
section STT
variable {args : Array Value} {s : State} {A : Nat → Prop}
theorem st_t0 (hs : ∀ c ∈ st_fl, c.before args s = true) (hts : ∀ w ∈ lw_tbl, w.before args s = true) (hA : ∀ a : Nat, a < s.heap.size → ¬ A a) : ∃ t : Nat, va_Z "ChessHouse$Board" "STEPS" "[I" (.ref t) A s s.heap ∧ va_T .int t 8 (fun i => .int (tv_0.getD i 0)) A s s.heap := by
  obtain ⟨t, ht, hT⟩ := va_Tof (tm := (.static "ChessHouse$Board" "STEPS" "[I")) (ty := .int) (N := 8) (f := fun i => .int (tv_0.getD i 0)) (A := A) (by decide) (hs _ (List.mem_of_getElem? (i := 5) (by decide +kernel))) (va_eqt (hs _ (List.mem_of_getElem? (i := 6) (by decide +kernel)))) (fun j hj => va_eqt (hs _ (jin_rng (f := fun j => .eq (.elem (.static "ChessHouse$Board" "STEPS" "[I") (.int (Int32.ofNat j))) (.int (tv_0.getD j 0))) [7, 8, 9, 10, 11, 12, 13, 14] (by decide +kernel) j hj))) hA
  exact ⟨t, va_Zof (hts _ (List.mem_of_getElem? (i := 620) (by decide +kernel))) (hts _ (List.mem_of_getElem? (i := 312) (by decide +kernel))) ht hA, hT⟩
theorem st_t1 (hs : ∀ c ∈ st_fl, c.before args s = true) (hts : ∀ w ∈ lw_tbl, w.before args s = true) (hA : ∀ a : Nat, a < s.heap.size → ¬ A a) : ∃ t : Nat, va_Z "ChessHouse$Board" "FIRST_RANK" "[I" (.ref t) A s s.heap ∧ va_T .int t 8 (fun i => .int (tv_1.getD i 0)) A s s.heap := by
  obtain ⟨t, ht, hT⟩ := va_Tof (tm := (.static "ChessHouse$Board" "FIRST_RANK" "[I")) (ty := .int) (N := 8) (f := fun i => .int (tv_1.getD i 0)) (A := A) (by decide) (hs _ (List.mem_of_getElem? (i := 16) (by decide +kernel))) (va_eqt (hs _ (List.mem_of_getElem? (i := 17) (by decide +kernel)))) (fun j hj => va_eqt (hs _ (jin_rng (f := fun j => .eq (.elem (.static "ChessHouse$Board" "FIRST_RANK" "[I") (.int (Int32.ofNat j))) (.int (tv_1.getD j 0))) [18, 19, 20, 21, 22, 23, 24, 25] (by decide +kernel) j hj))) hA
  exact ⟨t, va_Zof (hts _ (List.mem_of_getElem? (i := 655) (by decide +kernel))) (hts _ (List.mem_of_getElem? (i := 312) (by decide +kernel))) ht hA, hT⟩
theorem st_t2 (hs : ∀ c ∈ st_fl, c.before args s = true) (hts : ∀ w ∈ lw_tbl, w.before args s = true) (hA : ∀ a : Nat, a < s.heap.size → ¬ A a) : ∃ t : Nat, va_Z "ChessHouse$1" "$SwitchMap$ChessHouse$Command" "[I" (.ref t) A s s.heap ∧ va_T .int t 28 (fun i => .int (tv_2.getD i 0)) A s s.heap := by
  obtain ⟨t, ht, hT⟩ := va_Tof (tm := (.static "ChessHouse$1" "$SwitchMap$ChessHouse$Command" "[I")) (ty := .int) (N := 28) (f := fun i => .int (tv_2.getD i 0)) (A := A) (by decide) (hs _ (List.mem_of_getElem? (i := 73) (by decide +kernel))) (va_eqt (hs _ (List.mem_of_getElem? (i := 74) (by decide +kernel)))) (fun j hj => va_eqt (hs _ (jin_rng (f := fun j => .eq (.elem (.static "ChessHouse$1" "$SwitchMap$ChessHouse$Command" "[I") (.int (Int32.ofNat j))) (.int (tv_2.getD j 0))) [75, 76, 77, 78, 79, 80, 81, 82, 83, 84, 85, 86, 87, 88, 89, 90, 91, 92, 93, 94, 95, 96, 97, 98, 99, 100, 101, 102] (by decide +kernel) j hj))) hA
  exact ⟨t, va_Zof (hts _ (List.mem_of_getElem? (i := 1042) (by decide +kernel))) (hts _ (List.mem_of_getElem? (i := 328) (by decide +kernel))) ht hA, hT⟩
theorem st_t3 (hs : ∀ c ∈ st_fl, c.before args s = true) (hts : ∀ w ∈ lw_tbl, w.before args s = true) (hA : ∀ a : Nat, a < s.heap.size → ¬ A a) : ∃ t : Nat, va_Z "ChessHouse$Game" "FEN" "[B" (.ref t) A s s.heap ∧ va_T .byte t 3 (fun i => .int (tv_3.getD i 0)) A s s.heap := by
  obtain ⟨t, ht, hT⟩ := va_Tof (tm := (.static "ChessHouse$Game" "FEN" "[B")) (ty := .byte) (N := 3) (f := fun i => .int (tv_3.getD i 0)) (A := A) (by decide) (hs _ (List.mem_of_getElem? (i := 104) (by decide +kernel))) (va_eqt (hs _ (List.mem_of_getElem? (i := 105) (by decide +kernel)))) (fun j hj => va_eqt (hs _ (jin_rng (f := fun j => .eq (.elem (.static "ChessHouse$Game" "FEN" "[B") (.int (Int32.ofNat j))) (.int (tv_3.getD j 0))) [106, 107, 108] (by decide +kernel) j hj))) hA
  exact ⟨t, va_Zof (hts _ (List.mem_of_getElem? (i := 1188) (by decide +kernel))) (hts _ (List.mem_of_getElem? (i := 311) (by decide +kernel))) ht hA, hT⟩
theorem st_t4 (hs : ∀ c ∈ st_fl, c.before args s = true) (hts : ∀ w ∈ lw_tbl, w.before args s = true) (hA : ∀ a : Nat, a < s.heap.size → ¬ A a) : ∃ t : Nat, va_Z "ChessHouse$Board" "KEPT" "[I" (.ref t) A s s.heap ∧ va_T .int t 64 (fun i => .int (tv_4.getD i 0)) A s s.heap := by
  obtain ⟨t, ht, hT⟩ := va_Tof (tm := (.static "ChessHouse$Board" "KEPT" "[I")) (ty := .int) (N := 64) (f := fun i => .int (tv_4.getD i 0)) (A := A) (by decide) (hs _ (List.mem_of_getElem? (i := 110) (by decide +kernel))) (va_eqt (hs _ (List.mem_of_getElem? (i := 111) (by decide +kernel)))) (fun j hj => va_eqt (hs _ (jin_rng (f := fun j => .eq (.elem (.static "ChessHouse$Board" "KEPT" "[I") (.int (Int32.ofNat j))) (.int (tv_4.getD j 0))) [112, 113, 114, 115, 116, 117, 118, 119, 120, 121, 122, 123, 124, 125, 126, 127, 128, 129, 130, 131, 132, 133, 134, 135, 136, 137, 138, 139, 140, 141, 142, 143, 144, 145, 146, 147, 148, 149, 150, 151, 152, 153, 154, 155, 156, 157, 158, 159, 160, 161, 162, 163, 164, 165, 166, 167, 168, 169, 170, 171, 172, 173, 174, 175] (by decide +kernel) j hj))) hA
  exact ⟨t, va_Zof (hts _ (List.mem_of_getElem? (i := 1308) (by decide +kernel))) (hts _ (List.mem_of_getElem? (i := 312) (by decide +kernel))) ht hA, hT⟩
theorem st_t5 (hs : ∀ c ∈ st_fl, c.before args s = true) (hts : ∀ w ∈ lw_tbl, w.before args s = true) (hA : ∀ a : Nat, a < s.heap.size → ¬ A a) : ∃ t : Nat, va_Z "ChessHouse$Game" "RESULT" "[B" (.ref t) A s s.heap ∧ va_T .byte t 6 (fun i => .int (tv_5.getD i 0)) A s s.heap := by
  obtain ⟨t, ht, hT⟩ := va_Tof (tm := (.static "ChessHouse$Game" "RESULT" "[B")) (ty := .byte) (N := 6) (f := fun i => .int (tv_5.getD i 0)) (A := A) (by decide) (hs _ (List.mem_of_getElem? (i := 177) (by decide +kernel))) (va_eqt (hs _ (List.mem_of_getElem? (i := 178) (by decide +kernel)))) (fun j hj => va_eqt (hs _ (jin_rng (f := fun j => .eq (.elem (.static "ChessHouse$Game" "RESULT" "[B") (.int (Int32.ofNat j))) (.int (tv_5.getD j 0))) [179, 180, 181, 182, 183, 184] (by decide +kernel) j hj))) hA
  exact ⟨t, va_Zof (hts _ (List.mem_of_getElem? (i := 1336) (by decide +kernel))) (hts _ (List.mem_of_getElem? (i := 311) (by decide +kernel))) ht hA, hT⟩
theorem st_t6 (hs : ∀ c ∈ st_fl, c.before args s = true) (hts : ∀ w ∈ lw_tbl, w.before args s = true) (hA : ∀ a : Nat, a < s.heap.size → ¬ A a) : ∃ t : Nat, va_Z "ChessHouse$Board" "FORCES" "[I" (.ref t) A s s.heap ∧ va_T .int t 8 (fun i => .int (tv_6.getD i 0)) A s s.heap := by
  obtain ⟨t, ht, hT⟩ := va_Tof (tm := (.static "ChessHouse$Board" "FORCES" "[I")) (ty := .int) (N := 8) (f := fun i => .int (tv_6.getD i 0)) (A := A) (by decide) (hs _ (List.mem_of_getElem? (i := 186) (by decide +kernel))) (va_eqt (hs _ (List.mem_of_getElem? (i := 187) (by decide +kernel)))) (fun j hj => va_eqt (hs _ (jin_rng (f := fun j => .eq (.elem (.static "ChessHouse$Board" "FORCES" "[I") (.int (Int32.ofNat j))) (.int (tv_6.getD j 0))) [188, 189, 190, 191, 192, 193, 194, 195] (by decide +kernel) j hj))) hA
  exact ⟨t, va_Zof (hts _ (List.mem_of_getElem? (i := 1637) (by decide +kernel))) (hts _ (List.mem_of_getElem? (i := 312) (by decide +kernel))) ht hA, hT⟩
theorem st_t7 (hs : ∀ c ∈ st_fl, c.before args s = true) (hts : ∀ w ∈ lw_tbl, w.before args s = true) (hA : ∀ a : Nat, a < s.heap.size → ¬ A a) : ∃ t : Nat, va_Z "ChessHouse$Endings" "CORNER" "[I" (.ref t) A s s.heap ∧ va_T .int t 10 (fun i => .int (tv_7.getD i 0)) A s s.heap := by
  obtain ⟨t, ht, hT⟩ := va_Tof (tm := (.static "ChessHouse$Endings" "CORNER" "[I")) (ty := .int) (N := 10) (f := fun i => .int (tv_7.getD i 0)) (A := A) (by decide) (hs _ (List.mem_of_getElem? (i := 197) (by decide +kernel))) (va_eqt (hs _ (List.mem_of_getElem? (i := 198) (by decide +kernel)))) (fun j hj => va_eqt (hs _ (jin_rng (f := fun j => .eq (.elem (.static "ChessHouse$Endings" "CORNER" "[I") (.int (Int32.ofNat j))) (.int (tv_7.getD j 0))) [199, 200, 201, 202, 203, 204, 205, 206, 207, 208] (by decide +kernel) j hj))) hA
  exact ⟨t, va_Zof (hts _ (List.mem_of_getElem? (i := 1817) (by decide +kernel))) (hts _ (List.mem_of_getElem? (i := 310) (by decide +kernel))) ht hA, hT⟩
theorem st_t8 (hs : ∀ c ∈ st_fl, c.before args s = true) (hts : ∀ w ∈ lw_tbl, w.before args s = true) (hA : ∀ a : Nat, a < s.heap.size → ¬ A a) : ∃ t : Nat, va_Z "ChessHouse$Endings" "STEPS" "[I" (.ref t) A s s.heap ∧ va_T .int t 8 (fun i => .int (tv_8.getD i 0)) A s s.heap := by
  obtain ⟨t, ht, hT⟩ := va_Tof (tm := (.static "ChessHouse$Endings" "STEPS" "[I")) (ty := .int) (N := 8) (f := fun i => .int (tv_8.getD i 0)) (A := A) (by decide) (hs _ (List.mem_of_getElem? (i := 210) (by decide +kernel))) (va_eqt (hs _ (List.mem_of_getElem? (i := 211) (by decide +kernel)))) (fun j hj => va_eqt (hs _ (jin_rng (f := fun j => .eq (.elem (.static "ChessHouse$Endings" "STEPS" "[I") (.int (Int32.ofNat j))) (.int (tv_8.getD j 0))) [212, 213, 214, 215, 216, 217, 218, 219] (by decide +kernel) j hj))) hA
  exact ⟨t, va_Zof (hts _ (List.mem_of_getElem? (i := 1834) (by decide +kernel))) (hts _ (List.mem_of_getElem? (i := 310) (by decide +kernel))) ht hA, hT⟩
theorem st_tab (hs : ∀ c ∈ st_fl, c.before args s = true) (hts : ∀ w ∈ lw_tbl, w.before args s = true) (hA : ∀ a : Nat, a < s.heap.size → ¬ A a) (j : Nat) : ∃ t : Nat, ∀ x, jtb j = some x → va_Z x.1 x.2.1 x.2.2.1 (.ref t) A s s.heap ∧ va_T x.2.2.2.1 t x.2.2.2.2.1 (fun i => .int (x.2.2.2.2.2 i)) A s s.heap := by
  match j with
  | 0 => obtain ⟨t, h1, h2⟩ := st_t0 hs hts hA; exact ⟨t, fun x hx => by obtain rfl := Option.some.inj hx; exact ⟨h1, h2⟩⟩
  | 1 => obtain ⟨t, h1, h2⟩ := st_t1 hs hts hA; exact ⟨t, fun x hx => by obtain rfl := Option.some.inj hx; exact ⟨h1, h2⟩⟩
  | 2 => obtain ⟨t, h1, h2⟩ := st_t2 hs hts hA; exact ⟨t, fun x hx => by obtain rfl := Option.some.inj hx; exact ⟨h1, h2⟩⟩
  | 3 => obtain ⟨t, h1, h2⟩ := st_t3 hs hts hA; exact ⟨t, fun x hx => by obtain rfl := Option.some.inj hx; exact ⟨h1, h2⟩⟩
  | 4 => obtain ⟨t, h1, h2⟩ := st_t4 hs hts hA; exact ⟨t, fun x hx => by obtain rfl := Option.some.inj hx; exact ⟨h1, h2⟩⟩
  | 5 => obtain ⟨t, h1, h2⟩ := st_t5 hs hts hA; exact ⟨t, fun x hx => by obtain rfl := Option.some.inj hx; exact ⟨h1, h2⟩⟩
  | 6 => obtain ⟨t, h1, h2⟩ := st_t6 hs hts hA; exact ⟨t, fun x hx => by obtain rfl := Option.some.inj hx; exact ⟨h1, h2⟩⟩
  | 7 => obtain ⟨t, h1, h2⟩ := st_t7 hs hts hA; exact ⟨t, fun x hx => by obtain rfl := Option.some.inj hx; exact ⟨h1, h2⟩⟩
  | 8 => obtain ⟨t, h1, h2⟩ := st_t8 hs hts hA; exact ⟨t, fun x hx => by obtain rfl := Option.some.inj hx; exact ⟨h1, h2⟩⟩
  | n + 9 => exact ⟨0, fun x hx => by cases hx⟩
theorem st_in : ∀ q ∈ jcl, Jvm.Cond.instantiable q.1 q.2.2 ∈ lw_tbl := by
  have h : ([335, 344, 363, 389, 429, 475, 496, 526, 569, 608, 614, 1902, 1909, 2164, 3047] : List Nat).map (fun i => lw_tbl[i]?) = jcl.map (fun q => some (Jvm.Cond.instantiable q.1 q.2.2)) := by decide +kernel
  intro q hq
  have h1 : some (Jvm.Cond.instantiable q.1 q.2.2) ∈ ([335, 344, 363, 389, 429, 475, 496, 526, 569, 608, 614, 1902, 1909, 2164, 3047] : List Nat).map (fun i => lw_tbl[i]?) := by rw [h]; exact List.mem_map.mpr ⟨q, hq, rfl⟩
  obtain ⟨i, -, hi⟩ := List.mem_map.mp h1
  exact List.mem_of_getElem? hi
theorem st_cls (hts : ∀ w ∈ lw_tbl, w.before args s = true) (ci : Nat) : ∃ d : ClassId × (Nat → Nat), ∀ q, jcl[ci]? = some q → u_Kn s q.1 q.2.1 q.2.2 d.1 d.2 := by
  cases h : jcl[ci]? with
  | none => exact ⟨(0, fun _ => 0), fun q hq => by cases hq⟩
  | some q0 =>
    obtain ⟨cC, iS, hk⟩ := u_known (ws := lw_tbl) hts (fun w hw => (List.mem_filter.mp ((jC ci q0 h).1 w hw)).1) (hts _ (st_in q0 (List.mem_of_getElem? h)))
    exact ⟨(cC, iS), fun q hq => by obtain rfl := Option.some.inj hq; exact hk⟩
theorem st_ar1 {ty : FieldType} (h : (Jvm.Cond.arrayClass ty).before args s = true) : ∃ cA, ArrOfT s cA ty ∧ s.vm.findClass ("[" ++ ty.toString) = some cA := by
  obtain ⟨c, k, comp, h1, h2, h3⟩ := Cond.arrayClass_spec h
  exact ⟨c, fun N z => ⟨(fun k h => by cases h), k, h2, comp, h3⟩, h1⟩
theorem st_arr (hts : ∀ w ∈ lw_tbl, w.before args s = true) (t : FieldType) : ∃ cA : ClassId, t ∈ jtys → ArrOfT s cA t ∧ va_RA s cA t := by
  by_cases ht : t ∈ jtys
  · have h := ht
    simp only [jtys, List.mem_cons, List.not_mem_nil, or_false] at h
    rcases h with rfl | rfl | rfl | rfl | rfl
    · obtain ⟨cA, h1, h2⟩ := st_ar1 (hts _ (List.mem_of_getElem? (i := 387) (by decide +kernel)) : (Jvm.Cond.arrayClass .int).before args s = true); exact ⟨cA, fun _ => ⟨h1, h2⟩⟩
    · obtain ⟨cA, h1, h2⟩ := st_ar1 (hts _ (List.mem_of_getElem? (i := 361) (by decide +kernel)) : (Jvm.Cond.arrayClass .byte).before args s = true); exact ⟨cA, fun _ => ⟨h1, h2⟩⟩
    · obtain ⟨cA, h1, h2⟩ := st_ar1 (hts _ (List.mem_of_getElem? (i := 2162) (by decide +kernel)) : (Jvm.Cond.arrayClass .char).before args s = true); exact ⟨cA, fun _ => ⟨h1, h2⟩⟩
    · obtain ⟨cA, h1, h2⟩ := st_ar1 (hts _ (List.mem_of_getElem? (i := 524) (by decide +kernel)) : (Jvm.Cond.arrayClass .long).before args s = true); exact ⟨cA, fun _ => ⟨h1, h2⟩⟩
    · obtain ⟨cA, h1, h2⟩ := st_ar1 (hts _ (List.mem_of_getElem? (i := 3096) (by decide +kernel)) : (Jvm.Cond.arrayClass .boolean).before args s = true); exact ⟨cA, fun _ => ⟨h1, h2⟩⟩
  · exact ⟨0, fun h => absurd h ht⟩
theorem st_E (b : Nat) (hs : ∀ c ∈ st_fl, c.before args s = true) (hts : ∀ w ∈ lw_tbl, w.before args s = true) : ∃ E : jE, E.2.2.2 = s.heap.size ∧ E.2.2.1 99 = b ∧ jK E jcl jtb lw_tbl s ∧ jTh E s := by
  have hA : ∀ a : Nat, a < s.heap.size → ¬ (s.heap.size ≤ a) := fun a h1 h2 => absurd h1 (Nat.not_lt.mpr h2)
  obtain ⟨dc, hdc⟩ := Classical.axiomOfChoice (st_cls hts)
  obtain ⟨ca, hca⟩ := Classical.axiomOfChoice (st_arr hts)
  obtain ⟨ta, hta⟩ := Classical.axiomOfChoice (st_tab (A := fun q => s.heap.size ≤ q) hs hts hA)
  refine ⟨((fun c => (dc c).1, fun c => (dc c).2), ca, fun j => if j = 99 then b else ta j, s.heap.size), rfl, by show (if (99 : Nat) = 99 then b else ta 99) = b; exact if_pos rfl, ⟨⟨fun c q hq => hdc c q hq, fun k q hk => ?_⟩, fun j x hx => ?_, Nat.le_refl _, fun w hw => va_Nw.of (jnest_tb (List.mem_filter.mp hw).2) (hts w (List.mem_filter.mp hw).1)⟩, ?_, ?_, fun w hw => ?_⟩
  · obtain ⟨t, ht, rfl⟩ := List.mem_map.mp (List.mem_of_getElem? hk)
    exact hca t ht
  · have hj : j ≠ 99 := by
      rintro rfl
      cases hx
    show va_Z x.1 x.2.1 x.2.2.1 (.ref (if j = 99 then b else ta j)) _ s s.heap ∧ va_T x.2.2.2.1 (if j = 99 then b else ta j) x.2.2.2.2.1 _ _ s s.heap
    rw [if_neg hj]
    exact hta j x hx
  · exact jLs_of (hts _ (List.mem_of_getElem? (i := 898) (by decide +kernel))) (hs _ (List.mem_of_getElem? (i := 26) (by decide +kernel))) hA
  · exact jLs_of (hts _ (List.mem_of_getElem? (i := 900) (by decide +kernel))) (hs _ (List.mem_of_getElem? (i := 27) (by decide +kernel))) hA
  · have h : ([874, 876, 878, 948, 1888] : List Nat).map (fun i => lw_tbl[i]?) = jtw.map some := by decide +kernel
    have h1 : some w ∈ ([874, 876, 878, 948, 1888] : List Nat).map (fun i => lw_tbl[i]?) := by rw [h]; exact List.mem_map.mpr ⟨w, hw, rfl⟩
    obtain ⟨i, -, hi⟩ := List.mem_map.mp h1
    exact va_any (jtw_tab w hw) (hts w (List.mem_of_getElem? hi))
end STT

