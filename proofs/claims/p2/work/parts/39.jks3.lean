section JAC
variable {E : jE} {own : String} {Ts : List Jvm.Cond} {cl : List vw_C} {tb : jTb} {nL : Nat} {ini : Bool} {cc : ByteArray} {M : jM} {Q : State → Prop} {n cells slots : Nat}
theorem jac_nn (z : Int32) (hz : ¬ z < 0) : z.toInt = (z.toNatClampNeg : Int) := by
  have h0 : (0 : Int) ≤ z.toInt := by
    have := Int32.not_lt.mp hz
    simpa using Int32.le_iff_toInt_le.mp this
  show z.toInt = ((z.toInt.toNat : Nat) : Int)
  omega
/-- longs are copied from row to row -/
theorem jk_acl (X : jX E own Ts cl tb nL ini cc M) {rm : Room} (hR : M.2.2.2.1 = rm) {pc i : Nat} (hd : decode cc pc = .ok (.invokestatic i, 3)) (hli : Jvm.Cond.methodLink own i arraycopyName ∈ jTA Ts) (hna : Jvm.Cond.native arraycopyName ∈ jTA Ts) (hst : Jvm.Cond.static arraycopyName ∈ jTA Ts) (hin : Jvm.Cond.initialized "java/lang/System" ∈ jTA Ts) {lv : List (Option jv)} {r : List jv} {σ : Nat → jcell} {b0 b1 n0 n1 : Nat} {f g : Nat → Int64} (ha0 : b0 < n) (he0 : σ b0 = .inl (.long, n0, .inr (.inl f))) (ha1 : b1 < n) (he1 : σ b1 = .inl (.long, n1, .inr (.inl g))) {sp dp k : Int32} (h1 : ¬ sp < 0) (h2 : ¬ dp < 0) (h3 : ¬ k < 0) (h4 : sp.toNatClampNeg + k.toNatClampNeg ≤ n0) (h5 : dp.toNatClampNeg + k.toNatClampNeg ≤ n1) (hf : 1 ≤ rm.frames) (hz : (r.map jcat).sum ≤ 8) (hl : 8 + (nativeFrameWords "java/lang/System" "arraycopy" 5 + 11) ≤ rm.locals)
    (kk : jJ E cl nL M Q n cells slots (pc + 3) lv r (jup σ b1 (.inl (.long, n1, .inr (.inl (va_cpy f g sp.toNatClampNeg dp.toNatClampNeg k.toNatClampNeg)))))) : jJ E cl nL M Q n cells slots pc lv (.inl k :: .inl dp :: .inr (.inr (some (.inl b1))) :: .inl sp :: .inr (.inr (some (.inl b0))) :: r) σ := by
  obtain ⟨p, l, e, R, s, m, args, below, meth, c⟩ := M
  dsimp only at hR
  subst hR
  obtain ⟨hx, hb, hml, ho, hts, ⟨hK, hK2⟩, -⟩ := X
  intro H locs ls hW hS hL
  have hP0 := jW_one hW ha0 (by rw [he0]; simp only [jkn]; first | done | decide | assumption)
  have hP1 := jW_one hW ha1 (by rw [he1]; simp only [jkn]; first | done | decide | assumption)
  rw [he0] at hP0
  rw [he1] at hP1
  obtain ⟨t0, ht0⟩ := jty_in (E := E) (t := .long) (by decide)
  have hc0 : H[E.2.2.2 + b0]? = some (vp_cell (E.2.1 .long) (n0, .inr (.inl f))) := hP0 0 _ rfl
  have hc1 : H[E.2.2.2 + b1]? = some (vp_cell (E.2.1 .long) (n1, .inr (.inl g))) := hP1 0 _ rfl
  intro T hT X9
  obtain ⟨-, q0, hq0, cm0, hqq0⟩ := (hK.2 t0 _ ht0).1 n0 (fun j => .long (f j))
  obtain ⟨-, q1, hq1, cm1, hqq1⟩ := (hK.2 t0 _ ht0).1 n1 (fun j => .long (g j))
  have hsz : c.maxLocals = ls.size := by rw [hL.1]; exact hml
  obtain ⟨vm', X', step⟩ := X9.arraycopy hx ho (hts _ hli) (hts _ hna) (hts _ hst) (hts _ hin) (src := E.2.2.2 + b0) (dst := E.2.2.2 + b1) (cs := vp_cell (E.2.1 .long) (n0, .inr (.inl f))) (cd := vp_cell (E.2.1 .long) (n1, .inr (.inl g))) (srcPos := sp) (destPos := dp) (n := k) (by rw [hT]; exact hc0) (by rw [hT]; exact hc1)
    (fun _ h => by cases h) (fun _ h => by cases h) (fun h => by cases h) (fun h => by cases h) hq0 hq1 hqq0 hqq1 (by simp) h1 h2 h3
    (by rw [jac_nn sp h1, jac_nn k h3]; show ¬ _ > ((arrV (E.2.1 .long) n0 (fun j => .long (f j))).slots.size : Int); rw [arrV_size]; omega)
    (by rw [jac_nn dp h2, jac_nn k h3]; show ¬ _ > ((arrV (E.2.1 .long) n1 (fun j => .long (g j))).slots.size : Int); rw [arrV_size]; omega)
    (fun vm1 _ j hj => by
      have e1 : (vp_cell (E.2.1 .long) (n0, .inr (.inl f))).slots.getD (sp.toNatClampNeg + j) .null = .long (f (sp.toNatClampNeg + j)) := by
        show (arrV (E.2.1 .long) n0 (fun j => .long (f j))).slots.getD _ _ = _
        rw [Array.getD_eq_getD_getElem?, arrV_read _ _ (by omega)]
        rfl
      rw [e1]
      exact ⟨rfl, trivial⟩)
    (g := F0 m pc ls (.int k :: .int dp :: .ref (E.2.2.2 + b1) :: .int sp :: .ref (E.2.2.2 + b0) :: r.map (jc E))) rfl (by rw [hsz]) (rest := r.map (jc E)) rfl (by rw [hb]; exact hd) hf (show 2 * 0 + ((r.map (jc E)).map fun v => v.category).sum + (nativeFrameWords "java/lang/System" "arraycopy" 5 + 11) ≤ R.locals from by have := jcat_sum E r; omega)
  have e1 : copied (vp_cell (E.2.1 .long) (n0, .inr (.inl f))) (vp_cell (E.2.1 .long) (n1, .inr (.inl g))) sp dp k = vp_cell (E.2.1 .long) (n1, .inr (.inl (va_cpy f g sp.toNatClampNeg dp.toNatClampNeg k.toNatClampNeg))) := va_copied (fun z => .long z) _ _ f g h4
  rw [e1] at X' step
  have hlt : E.2.2.2 + b1 < H.size := (Array.getElem?_eq_some_iff.mp hc1).1
  have hheap : ((T.setVm vm').setCell (E.2.2.2 + b1) (vp_cell (E.2.1 .long) (n1, .inr (.inl (va_cpy f g sp.toNatClampNeg dp.toNatClampNeg k.toNatClampNeg))))).heap = H.setIfInBounds (E.2.2.2 + b1) (vp_cell (E.2.1 .long) (n1, .inr (.inl (va_cpy f g sp.toNatClampNeg dp.toNatClampNeg k.toNatClampNeg)))) := by rw [← hT]; rfl
  have oq : ∀ q : Nat, q ≠ E.2.2.2 + b1 → (H.setIfInBounds (E.2.2.2 + b1) (vp_cell (E.2.1 .long) (n1, .inr (.inl (va_cpy f g sp.toNatClampNeg dp.toNatClampNeg k.toNatClampNeg)))))[q]? = H[q]? := fun q hq => by simp [Array.getElem?_setIfInBounds, Ne.symm hq]
  have hA : jA E (E.2.2.2 + b1) := Nat.le_add_right _ _
  obtain ⟨t, a1, a2⟩ := kk _ _ ls (jW_set hW (by simp) oq (by show (H.setIfInBounds _ _)[E.2.2.2 + b1]? = some _; simp [Array.getElem?_setIfInBounds, hlt])) ⟨by simp; exact hS.1, fun q y1 y2 => by
      rw [oq q (fun e9 => y2 (by rw [e9]; exact hA))]
      exact hS.2.1 q y1 y2, fun q hq => by
      rcases List.mem_append.mp hq with h | h
      · exact hS.2.2 q h
      · obtain ⟨z, -, hz9⟩ := List.mem_map.mp h
        rw [← hz9]
        exact hA⟩ hL _ hheap X'
  exact ⟨t, step t a1, a2⟩
/-- bytes are copied from row to row -/
theorem jk_acb (X : jX E own Ts cl tb nL ini cc M) {rm : Room} (hR : M.2.2.2.1 = rm) {pc i : Nat} (hd : decode cc pc = .ok (.invokestatic i, 3)) (hli : Jvm.Cond.methodLink own i arraycopyName ∈ jTA Ts) (hna : Jvm.Cond.native arraycopyName ∈ jTA Ts) (hst : Jvm.Cond.static arraycopyName ∈ jTA Ts) (hin : Jvm.Cond.initialized "java/lang/System" ∈ jTA Ts) {lv : List (Option jv)} {r : List jv} {σ : Nat → jcell} {b0 b1 n0 n1 : Nat} {f g : Nat → Int32} (ha0 : b0 < n) (he0 : σ b0 = .inl (.byte, n0, .inl f)) (ha1 : b1 < n) (he1 : σ b1 = .inl (.byte, n1, .inl g)) {sp dp k : Int32} (h1 : ¬ sp < 0) (h2 : ¬ dp < 0) (h3 : ¬ k < 0) (h4 : sp.toNatClampNeg + k.toNatClampNeg ≤ n0) (h5 : dp.toNatClampNeg + k.toNatClampNeg ≤ n1) (hfit : ∀ j, j < k.toNatClampNeg → -128 ≤ (f (sp.toNatClampNeg + j)).toInt ∧ (f (sp.toNatClampNeg + j)).toInt ≤ 127) (hf : 1 ≤ rm.frames) (hz : (r.map jcat).sum ≤ 8) (hl : 8 + (nativeFrameWords "java/lang/System" "arraycopy" 5 + 11) ≤ rm.locals)
    (kk : jJ E cl nL M Q n cells slots (pc + 3) lv r (jup σ b1 (.inl (.byte, n1, .inl (va_cpy f g sp.toNatClampNeg dp.toNatClampNeg k.toNatClampNeg))))) : jJ E cl nL M Q n cells slots pc lv (.inl k :: .inl dp :: .inr (.inr (some (.inl b1))) :: .inl sp :: .inr (.inr (some (.inl b0))) :: r) σ := by
  obtain ⟨p, l, e, R, s, m, args, below, meth, c⟩ := M
  dsimp only at hR
  subst hR
  obtain ⟨hx, hb, hml, ho, hts, ⟨hK, hK2⟩, -⟩ := X
  intro H locs ls hW hS hL
  have hP0 := jW_one hW ha0 (by rw [he0]; simp only [jkn]; first | done | decide | assumption)
  have hP1 := jW_one hW ha1 (by rw [he1]; simp only [jkn]; first | done | decide | assumption)
  rw [he0] at hP0
  rw [he1] at hP1
  obtain ⟨t0, ht0⟩ := jty_in (E := E) (t := .byte) (by decide)
  have hc0 : H[E.2.2.2 + b0]? = some (vp_cell (E.2.1 .byte) (n0, .inl f)) := hP0 0 _ rfl
  have hc1 : H[E.2.2.2 + b1]? = some (vp_cell (E.2.1 .byte) (n1, .inl g)) := hP1 0 _ rfl
  intro T hT X9
  obtain ⟨-, q0, hq0, cm0, hqq0⟩ := (hK.2 t0 _ ht0).1 n0 (fun j => .int (f j))
  obtain ⟨-, q1, hq1, cm1, hqq1⟩ := (hK.2 t0 _ ht0).1 n1 (fun j => .int (g j))
  have hsz : c.maxLocals = ls.size := by rw [hL.1]; exact hml
  obtain ⟨vm', X', step⟩ := X9.arraycopy hx ho (hts _ hli) (hts _ hna) (hts _ hst) (hts _ hin) (src := E.2.2.2 + b0) (dst := E.2.2.2 + b1) (cs := vp_cell (E.2.1 .byte) (n0, .inl f)) (cd := vp_cell (E.2.1 .byte) (n1, .inl g)) (srcPos := sp) (destPos := dp) (n := k) (by rw [hT]; exact hc0) (by rw [hT]; exact hc1)
    (fun _ h => by cases h) (fun _ h => by cases h) (fun h => by cases h) (fun h => by cases h) hq0 hq1 hqq0 hqq1 (by simp) h1 h2 h3
    (by rw [jac_nn sp h1, jac_nn k h3]; show ¬ _ > ((arrV (E.2.1 .byte) n0 (fun j => .int (f j))).slots.size : Int); rw [arrV_size]; omega)
    (by rw [jac_nn dp h2, jac_nn k h3]; show ¬ _ > ((arrV (E.2.1 .byte) n1 (fun j => .int (g j))).slots.size : Int); rw [arrV_size]; omega)
    (fun vm1 _ j hj => by
      have e1 : (vp_cell (E.2.1 .byte) (n0, .inl f)).slots.getD (sp.toNatClampNeg + j) .null = .int (f (sp.toNatClampNeg + j)) := by
        show (arrV (E.2.1 .byte) n0 (fun j => .int (f j))).slots.getD _ _ = _
        rw [Array.getD_eq_getD_getElem?, arrV_read _ _ (by omega)]
        rfl
      rw [e1]
      refine ⟨?_, trivial⟩
      have h9 := hfit j hj
      have y1 : (-128 : Int32) ≤ f (sp.toNatClampNeg + j) := Int32.le_iff_toInt_le.mpr (by show (-128 : Int) ≤ _; exact h9.1)
      have y2 : f (sp.toNatClampNeg + j) ≤ (127 : Int32) := Int32.le_iff_toInt_le.mpr (by show _ ≤ (127 : Int); exact h9.2)
      show (decide _ && decide _) = true
      rw [Bool.and_eq_true, decide_eq_true_eq, decide_eq_true_eq]
      exact ⟨y1, y2⟩)
    (g := F0 m pc ls (.int k :: .int dp :: .ref (E.2.2.2 + b1) :: .int sp :: .ref (E.2.2.2 + b0) :: r.map (jc E))) rfl (by rw [hsz]) (rest := r.map (jc E)) rfl (by rw [hb]; exact hd) hf (show 2 * 0 + ((r.map (jc E)).map fun v => v.category).sum + (nativeFrameWords "java/lang/System" "arraycopy" 5 + 11) ≤ R.locals from by have := jcat_sum E r; omega)
  have e1 : copied (vp_cell (E.2.1 .byte) (n0, .inl f)) (vp_cell (E.2.1 .byte) (n1, .inl g)) sp dp k = vp_cell (E.2.1 .byte) (n1, .inl (va_cpy f g sp.toNatClampNeg dp.toNatClampNeg k.toNatClampNeg)) := va_copied (fun z => .int z) _ _ f g h4
  rw [e1] at X' step
  have hlt : E.2.2.2 + b1 < H.size := (Array.getElem?_eq_some_iff.mp hc1).1
  have hheap : ((T.setVm vm').setCell (E.2.2.2 + b1) (vp_cell (E.2.1 .byte) (n1, .inl (va_cpy f g sp.toNatClampNeg dp.toNatClampNeg k.toNatClampNeg)))).heap = H.setIfInBounds (E.2.2.2 + b1) (vp_cell (E.2.1 .byte) (n1, .inl (va_cpy f g sp.toNatClampNeg dp.toNatClampNeg k.toNatClampNeg))) := by rw [← hT]; rfl
  have oq : ∀ q : Nat, q ≠ E.2.2.2 + b1 → (H.setIfInBounds (E.2.2.2 + b1) (vp_cell (E.2.1 .byte) (n1, .inl (va_cpy f g sp.toNatClampNeg dp.toNatClampNeg k.toNatClampNeg))))[q]? = H[q]? := fun q hq => by simp [Array.getElem?_setIfInBounds, Ne.symm hq]
  have hA : jA E (E.2.2.2 + b1) := Nat.le_add_right _ _
  obtain ⟨t, a1, a2⟩ := kk _ _ ls (jW_set hW (by simp) oq (by show (H.setIfInBounds _ _)[E.2.2.2 + b1]? = some _; simp [Array.getElem?_setIfInBounds, hlt])) ⟨by simp; exact hS.1, fun q y1 y2 => by
      rw [oq q (fun e9 => y2 (by rw [e9]; exact hA))]
      exact hS.2.1 q y1 y2, fun q hq => by
      rcases List.mem_append.mp hq with h | h
      · exact hS.2.2 q h
      · obtain ⟨z, -, hz9⟩ := List.mem_map.mp h
        rw [← hz9]
        exact hA⟩ hL _ hheap X'
  exact ⟨t, step t a1, a2⟩
end JAC
