/-! the run is sound; a method's contract from its check -/
section JAC
variable {E : jE} {own : String} {Ts : List Jvm.Cond} {cl : List vw_C} {tb : jTb} {nL : Nat} {ini : Bool} {cc : ByteArray} {M : jM} {Q : State → Prop} {n cells slots : Nat}
theorem jac_nn (z : Int32) (hz : ¬ z < 0) : z.toInt = (z.toNatClampNeg : Int) := by
  have h0 : (0 : Int) ≤ z.toInt := by
    have := Int32.not_lt.mp hz
    simpa using Int32.le_iff_toInt_le.mp this
  show z.toInt = ((z.toInt.toNat : Nat) : Int)
  omega
/-- longs are copied from row to row -/
theorem jk_acl (X : jX E own Ts cl tb nL ini cc M) {rm : Room} (hR : M.2.2.2.1 = rm) {pc i : Nat} (hd : decode cc pc = .ok (.invokestatic i, 3)) (hli : Jvm.Cond.methodLink own i arraycopyName ∈ jTA Ts) (hna : Jvm.Cond.native arraycopyName ∈ jTA Ts) (hst : Jvm.Cond.static arraycopyName ∈ jTA Ts) (hin : Jvm.Cond.initialized "java/lang/System" ∈ jTA Ts) {lv : List (Option jv)} {r : List jv} {σ : Nat → jcell} {b0 b1 n0 n1 : Nat} {f g : Nat → Int64} (ha0 : b0 < n) (he0 : σ b0 = .inl (.long, n0, .inr (.inl f))) (ha1 : b1 < n) (he1 : σ b1 = .inl (.long, n1, .inr (.inl g))) {sp dp k : Int32} (h1 : ¬ sp < 0) (h2 : ¬ dp < 0) (h3 : ¬ k < 0) (h4 : sp.toNatClampNeg + k.toNatClampNeg ≤ n0) (h5 : dp.toNatClampNeg + k.toNatClampNeg ≤ n1) (hf : 1 ≤ rm.frames) (hz : (r.map jcat).sum ≤ 8) (hl : 8 + (nativeFrameWords "java/lang/System" "arraycopy" 5 + 11) ≤ rm.locals)
    (kk : jJ E cl nL M Q n cells slots (pc + 3) lv r (jup σ b1 (.inl (.long, n1, .inr (.inl (va_cpy f g sp.toNatClampNeg dp.toNatClampNeg k.toNatClampNeg)))))) : jJ E cl nL M Q n cells slots pc lv (.inl k :: .inl dp :: .inr (.inr (some (.inl b1))) :: .inl sp :: .inr (.inr (some (.inl b0))) :: r) σ := by
  obtain ⟨p, l, e, R, s, m, args, below, meth, c⟩ := M
  dsimp only at hR
  subst hR
  obtain ⟨hx, hb, hml, ho, hts, ⟨hK, hK2⟩, -⟩ := X
  intro H locs ls hW hS hL
  have hP0 := jW_one hW ha0 (by rw [he0]; simp only [jkn]; first | done | decide | assumption)
  have hP1 := jW_one hW ha1 (by rw [he1]; simp only [jkn]; first | done | decide | assumption)
  rw [he0] at hP0
  rw [he1] at hP1
  obtain ⟨t0, ht0⟩ := jty_in (E := E) (t := .long) (by decide)
  have hc0 : H[E.2.2.2 + b0]? = some (vp_cell (E.2.1 .long) (n0, .inr (.inl f))) := hP0 0 _ rfl
  have hc1 : H[E.2.2.2 + b1]? = some (vp_cell (E.2.1 .long) (n1, .inr (.inl g))) := hP1 0 _ rfl
  intro T hT X9
  obtain ⟨-, q0, hq0, cm0, hqq0⟩ := (hK.2 t0 _ ht0).1 n0 (fun j => .long (f j))
  obtain ⟨-, q1, hq1, cm1, hqq1⟩ := (hK.2 t0 _ ht0).1 n1 (fun j => .long (g j))
  have hsz : c.maxLocals = ls.size := by rw [hL.1]; exact hml
  obtain ⟨vm', X', step⟩ := X9.arraycopy hx ho (hts _ hli) (hts _ hna) (hts _ hst) (hts _ hin) (src := E.2.2.2 + b0) (dst := E.2.2.2 + b1) (cs := vp_cell (E.2.1 .long) (n0, .inr (.inl f))) (cd := vp_cell (E.2.1 .long) (n1, .inr (.inl g))) (srcPos := sp) (destPos := dp) (n := k) (by rw [hT]; exact hc0) (by rw [hT]; exact hc1)
    (fun _ h => by cases h) (fun _ h => by cases h) (fun h => by cases h) (fun h => by cases h) hq0 hq1 hqq0 hqq1 (by simp) h1 h2 h3
    (by rw [jac_nn sp h1, jac_nn k h3]; show ¬ _ > ((arrV (E.2.1 .long) n0 (fun j => .long (f j))).slots.size : Int); rw [arrV_size]; omega)
    (by rw [jac_nn dp h2, jac_nn k h3]; show ¬ _ > ((arrV (E.2.1 .long) n1 (fun j => .long (g j))).slots.size : Int); rw [arrV_size]; omega)
    (fun vm1 _ j hj => by
      have e1 : (vp_cell (E.2.1 .long) (n0, .inr (.inl f))).slots.getD (sp.toNatClampNeg + j) .null = .long (f (sp.toNatClampNeg + j)) := by
        show (arrV (E.2.1 .long) n0 (fun j => .long (f j))).slots.getD _ _ = _
        rw [Array.getD_eq_getD_getElem?, arrV_read _ _ (by omega)]
        rfl
      rw [e1]
      exact ⟨rfl, trivial⟩)
    (g := F0 m pc ls (.int k :: .int dp :: .ref (E.2.2.2 + b1) :: .int sp :: .ref (E.2.2.2 + b0) :: r.map (jc E))) rfl (by rw [hsz]) (rest := r.map (jc E)) rfl (by rw [hb]; exact hd) hf (show 2 * 0 + ((r.map (jc E)).map fun v => v.category).sum + (nativeFrameWords "java/lang/System" "arraycopy" 5 + 11) ≤ R.locals from by have := jcat_sum E r; omega)
  have e1 : copied (vp_cell (E.2.1 .long) (n0, .inr (.inl f))) (vp_cell (E.2.1 .long) (n1, .inr (.inl g))) sp dp k = vp_cell (E.2.1 .long) (n1, .inr (.inl (va_cpy f g sp.toNatClampNeg dp.toNatClampNeg k.toNatClampNeg))) := va_copied (fun z => .long z) _ _ f g h4
  rw [e1] at X' step
  have hlt : E.2.2.2 + b1 < H.size := (Array.getElem?_eq_some_iff.mp hc1).1
  have hheap : ((T.setVm vm').setCell (E.2.2.2 + b1) (vp_cell (E.2.1 .long) (n1, .inr (.inl (va_cpy f g sp.toNatClampNeg dp.toNatClampNeg k.toNatClampNeg))))).heap = H.setIfInBounds (E.2.2.2 + b1) (vp_cell (E.2.1 .long) (n1, .inr (.inl (va_cpy f g sp.toNatClampNeg dp.toNatClampNeg k.toNatClampNeg)))) := by rw [← hT]; rfl
  have oq : ∀ q : Nat, q ≠ E.2.2.2 + b1 → (H.setIfInBounds (E.2.2.2 + b1) (vp_cell (E.2.1 .long) (n1, .inr (.inl (va_cpy f g sp.toNatClampNeg dp.toNatClampNeg k.toNatClampNeg)))))[q]? = H[q]? := fun q hq => by simp [Array.getElem?_setIfInBounds, Ne.symm hq]
  have hA : jA E (E.2.2.2 + b1) := Nat.le_add_right _ _
  obtain ⟨t, a1, a2⟩ := kk _ _ ls (jW_set hW (by simp) oq (by show (H.setIfInBounds _ _)[E.2.2.2 + b1]? = some _; simp [Array.getElem?_setIfInBounds, hlt])) ⟨by simp; exact hS.1, fun q y1 y2 => by
      rw [oq q (fun e9 => y2 (by rw [e9]; exact hA))]
      exact hS.2.1 q y1 y2, fun q hq => by
      rcases List.mem_append.mp hq with h | h
      · exact hS.2.2 q h
      · obtain ⟨z, -, hz9⟩ := List.mem_map.mp h
        rw [← hz9]
        exact hA⟩ hL _ hheap X'
  exact ⟨t, step t a1, a2⟩
/-- bytes are copied from row to row -/
theorem jk_acb (X : jX E own Ts cl tb nL ini cc M) {rm : Room} (hR : M.2.2.2.1 = rm) {pc i : Nat} (hd : decode cc pc = .ok (.invokestatic i, 3)) (hli : Jvm.Cond.methodLink own i arraycopyName ∈ jTA Ts) (hna : Jvm.Cond.native arraycopyName ∈ jTA Ts) (hst : Jvm.Cond.static arraycopyName ∈ jTA Ts) (hin : Jvm.Cond.initialized "java/lang/System" ∈ jTA Ts) {lv : List (Option jv)} {r : List jv} {σ : Nat → jcell} {b0 b1 n0 n1 : Nat} {f g : Nat → Int32} (ha0 : b0 < n) (he0 : σ b0 = .inl (.byte, n0, .inl f)) (ha1 : b1 < n) (he1 : σ b1 = .inl (.byte, n1, .inl g)) {sp dp k : Int32} (h1 : ¬ sp < 0) (h2 : ¬ dp < 0) (h3 : ¬ k < 0) (h4 : sp.toNatClampNeg + k.toNatClampNeg ≤ n0) (h5 : dp.toNatClampNeg + k.toNatClampNeg ≤ n1) (hfit : ∀ j, j < k.toNatClampNeg → -128 ≤ (f (sp.toNatClampNeg + j)).toInt ∧ (f (sp.toNatClampNeg + j)).toInt ≤ 127) (hf : 1 ≤ rm.frames) (hz : (r.map jcat).sum ≤ 8) (hl : 8 + (nativeFrameWords "java/lang/System" "arraycopy" 5 + 11) ≤ rm.locals)
    (kk : jJ E cl nL M Q n cells slots (pc + 3) lv r (jup σ b1 (.inl (.byte, n1, .inl (va_cpy f g sp.toNatClampNeg dp.toNatClampNeg k.toNatClampNeg))))) : jJ E cl nL M Q n cells slots pc lv (.inl k :: .inl dp :: .inr (.inr (some (.inl b1))) :: .inl sp :: .inr (.inr (some (.inl b0))) :: r) σ := by
  obtain ⟨p, l, e, R, s, m, args, below, meth, c⟩ := M
  dsimp only at hR
  subst hR
  obtain ⟨hx, hb, hml, ho, hts, ⟨hK, hK2⟩, -⟩ := X
  intro H locs ls hW hS hL
  have hP0 := jW_one hW ha0 (by rw [he0]; simp only [jkn]; first | done | decide | assumption)
  have hP1 := jW_one hW ha1 (by rw [he1]; simp only [jkn]; first | done | decide | assumption)
  rw [he0] at hP0
  rw [he1] at hP1
  obtain ⟨t0, ht0⟩ := jty_in (E := E) (t := .byte) (by decide)
  have hc0 : H[E.2.2.2 + b0]? = some (vp_cell (E.2.1 .byte) (n0, .inl f)) := hP0 0 _ rfl
  have hc1 : H[E.2.2.2 + b1]? = some (vp_cell (E.2.1 .byte) (n1, .inl g)) := hP1 0 _ rfl
  intro T hT X9
  obtain ⟨-, q0, hq0, cm0, hqq0⟩ := (hK.2 t0 _ ht0).1 n0 (fun j => .int (f j))
  obtain ⟨-, q1, hq1, cm1, hqq1⟩ := (hK.2 t0 _ ht0).1 n1 (fun j => .int (g j))
  have hsz : c.maxLocals = ls.size := by rw [hL.1]; exact hml
  obtain ⟨vm', X', step⟩ := X9.arraycopy hx ho (hts _ hli) (hts _ hna) (hts _ hst) (hts _ hin) (src := E.2.2.2 + b0) (dst := E.2.2.2 + b1) (cs := vp_cell (E.2.1 .byte) (n0, .inl f)) (cd := vp_cell (E.2.1 .byte) (n1, .inl g)) (srcPos := sp) (destPos := dp) (n := k) (by rw [hT]; exact hc0) (by rw [hT]; exact hc1)
    (fun _ h => by cases h) (fun _ h => by cases h) (fun h => by cases h) (fun h => by cases h) hq0 hq1 hqq0 hqq1 (by simp) h1 h2 h3
    (by rw [jac_nn sp h1, jac_nn k h3]; show ¬ _ > ((arrV (E.2.1 .byte) n0 (fun j => .int (f j))).slots.size : Int); rw [arrV_size]; omega)
    (by rw [jac_nn dp h2, jac_nn k h3]; show ¬ _ > ((arrV (E.2.1 .byte) n1 (fun j => .int (g j))).slots.size : Int); rw [arrV_size]; omega)
    (fun vm1 _ j hj => by
      have e1 : (vp_cell (E.2.1 .byte) (n0, .inl f)).slots.getD (sp.toNatClampNeg + j) .null = .int (f (sp.toNatClampNeg + j)) := by
        show (arrV (E.2.1 .byte) n0 (fun j => .int (f j))).slots.getD _ _ = _
        rw [Array.getD_eq_getD_getElem?, arrV_read _ _ (by omega)]
        rfl
      rw [e1]
      refine ⟨?_, trivial⟩
      have h9 := hfit j hj
      have y1 : (-128 : Int32) ≤ f (sp.toNatClampNeg + j) := Int32.le_iff_toInt_le.mpr (by show (-128 : Int) ≤ _; exact h9.1)
      have y2 : f (sp.toNatClampNeg + j) ≤ (127 : Int32) := Int32.le_iff_toInt_le.mpr (by show _ ≤ (127 : Int); exact h9.2)
      show (decide _ && decide _) = true
      rw [Bool.and_eq_true, decide_eq_true_eq, decide_eq_true_eq]
      exact ⟨y1, y2⟩)
    (g := F0 m pc ls (.int k :: .int dp :: .ref (E.2.2.2 + b1) :: .int sp :: .ref (E.2.2.2 + b0) :: r.map (jc E))) rfl (by rw [hsz]) (rest := r.map (jc E)) rfl (by rw [hb]; exact hd) hf (show 2 * 0 + ((r.map (jc E)).map fun v => v.category).sum + (nativeFrameWords "java/lang/System" "arraycopy" 5 + 11) ≤ R.locals from by have := jcat_sum E r; omega)
  have e1 : copied (vp_cell (E.2.1 .byte) (n0, .inl f)) (vp_cell (E.2.1 .byte) (n1, .inl g)) sp dp k = vp_cell (E.2.1 .byte) (n1, .inl (va_cpy f g sp.toNatClampNeg dp.toNatClampNeg k.toNatClampNeg)) := va_copied (fun z => .int z) _ _ f g h4
  rw [e1] at X' step
  have hlt : E.2.2.2 + b1 < H.size := (Array.getElem?_eq_some_iff.mp hc1).1
  have hheap : ((T.setVm vm').setCell (E.2.2.2 + b1) (vp_cell (E.2.1 .byte) (n1, .inl (va_cpy f g sp.toNatClampNeg dp.toNatClampNeg k.toNatClampNeg)))).heap = H.setIfInBounds (E.2.2.2 + b1) (vp_cell (E.2.1 .byte) (n1, .inl (va_cpy f g sp.toNatClampNeg dp.toNatClampNeg k.toNatClampNeg))) := by rw [← hT]; rfl
  have oq : ∀ q : Nat, q ≠ E.2.2.2 + b1 → (H.setIfInBounds (E.2.2.2 + b1) (vp_cell (E.2.1 .byte) (n1, .inl (va_cpy f g sp.toNatClampNeg dp.toNatClampNeg k.toNatClampNeg))))[q]? = H[q]? := fun q hq => by simp [Array.getElem?_setIfInBounds, Ne.symm hq]
  have hA : jA E (E.2.2.2 + b1) := Nat.le_add_right _ _
  obtain ⟨t, a1, a2⟩ := kk _ _ ls (jW_set hW (by simp) oq (by show (H.setIfInBounds _ _)[E.2.2.2 + b1]? = some _; simp [Array.getElem?_setIfInBounds, hlt])) ⟨by simp; exact hS.1, fun q y1 y2 => by
      rw [oq q (fun e9 => y2 (by rw [e9]; exact hA))]
      exact hS.2.1 q y1 y2, fun q hq => by
      rcases List.mem_append.mp hq with h | h
      · exact hS.2.2 q h
      · obtain ⟨z, -, hz9⟩ := List.mem_map.mp h
        rw [← hz9]
        exact hA⟩ hL _ hheap X'
  exact ⟨t, step t a1, a2⟩
end JAC
def aAG (K : Nat → Nat) (n : Nat) : List aT → List jv → Prop
  | [], [] => True
  | t :: ts, v :: vs => aG K n t v ∧ aAG K n ts vs
  | _, _ => False
section ASR
variable {K : Nat → Nat} {n : Nat} {P : Type} {F : aFt P} {l : Launch} {E : jE} {tb : jTb} {nL : Nat} {ini : Bool} {cc : ByteArray} {M : jM} {JX : (Nat → jcell) → Prop} {ρ0 : List jv} {σ0 : Nat → jcell} {m : aMi} {pe : P} {sh : P → List jv → P}
theorem aCall_no {C : aCf} {S : aS} {G : aCon} {p : Nat} {L : List (Nat × aS)} (hb : aCall C S G p = some L) : aNo0 G.2.2.2.1.2.2.2.2 = true ∧ aNo0 G.2.2.2.2.1.2.2.1.2.2.2 = true := by
  unfold aCall at hb
  split at hb
  · split at hb
    · split at hb
      · split at hb
        next hq =>
          simp only [Bool.and_eq_true, aOkp] at hq
          obtain ⟨q1, q2, q3, q4, q5, q6, q7, q8, q9, q10⟩ := hq
          refine ⟨List.all_eq_true.mpr (fun q hq => ?_), List.all_eq_true.mpr (fun q hq => ?_)⟩
          · have := List.all_eq_true.mp q5 q hq
            rw [Bool.and_eq_true] at this
            exact this.1
          · have := List.all_eq_true.mp q10 q hq
            rw [Bool.and_eq_true] at this
            exact this.1
        next => cases hb
      · cases hb
    · cases hb
  · cases hb
theorem aStq_ok {J : jN} {C : aCf} (hT : aTB C.2.1 tb) (hJ : aJx K n C.2.2.1 JX) (hD : aDp F K n C.2.2.2.2.2.1) (hE : C.2.2.2.2.2.2 = ρ0.length) {I : Instr} {ln : Nat} {py : jP} {pc : Nat} {S : aS} {L : List (Nat × aS)} (hb : aStq C I ln py pc S = some L) {ρ : List jv} (hx0 : aX ρ0 ρ) {lv : List (Option jv)} {st : List jv} {σ : Nat → jcell} (hc : aCx F (aHp C K n JX ρ0 σ0) K n S ρ lv st σ) (h : aNx F (aHp C K n JX ρ0 σ0) K n J ρ L) : jstep tb n I ln py pc lv st σ J J := by
  unfold aStq at hb
  split at hb
  next => exact aStp_ok hT hJ hD hE hb hx0 hc h
  next o ho =>
    split at hb
    next => exact aStp_ok hT hJ hD hE hb hx0 hc h
    next =>
      split at hb
      next hm =>
        split at hb
        next q he =>
          split at hb
          next y x r c t hs hs' =>
            cases hb
            obtain ⟨w, v, s, rfl, h1, h2, h3⟩ := aSk_2 (hs ▸ hc.2.2.1)
            refine aJo ho (aStp_ok hT hJ hD hE he hx0 hc ?_)
            intro q' hq' ρ' lv' st' σ' hx hc' ⟨x1, y1, r1, c1, e1, e2, e3, e4⟩
            rw [List.mem_singleton] at hq'
            subst hq'
            obtain ⟨rfl, e5⟩ := List.cons.inj e1
            obtain ⟨rfl, -⟩ := List.cons.inj e5
            obtain ⟨v9, s9, e9, k1, -⟩ := aSk_1 (hs' ▸ hc'.2.2.1)
            rw [e2] at e9
            obtain ⟨rfl, -⟩ := List.cons.inj e9
            obtain ⟨p9, m1, m2, m3, m4⟩ := hc'.2.2.2.1
            refine h (q'.1, _) (List.mem_singleton.mpr rfl) ρ' lv' st' σ' hx ⟨hc'.1, hc'.2.1, hc'.2.2.1, ⟨p9, m1, m2, m3, fun f hf => ?_⟩, hc'.2.2.2.2⟩
            rcases List.mem_cons.mp hf with rfl | hf
            · refine ⟨_, ?_, hD.2.2 hm p9 o _ _ _ _ e3⟩
              simp only [aVs, hx _ _ h2, hx _ _ h1, k1]
            · exact m4 f hf
          next => cases hb
        next => cases hb
      next => cases hb
theorem aNe_ok {Q : State → Prop} {ca sl : Nat} {rm9 : Room} (hcs : ca ≤ rm9.cells ∧ sl ≤ rm9.slots) (hfl : m.2.2.2.1.2.2.2.2.2.2.frames ≤ rm9.frames ∧ m.2.2.2.1.2.2.2.2.2.2.locals ≤ rm9.locals) (hg : ∀ q ∈ m.1.2.2.2.2.1, ∀ G, m.2.2.1[q.2.2]? = some G → jlm m.1.2.1 q.2.1 m.1.1 q.1 G.1.1 = true) (hC : jCl m.1.2.1 m.1.2.2.1) (X : jX E m.1.1 m.1.2.1 m.1.2.2.1 tb nL ini cc M) (hl : M.2.1 = l) (hR : M.2.2.2.1 = rm9) (hG : ∀ G ∈ m.2.2.1, aGd m.1.2.1 G ∧ aMe F l E m.1.2.2.1 tb m.1.2.1 m.2.1.1 K n JX G) (hT : aTB m.2.1.2.1 tb) (hJ : aJx K n m.2.1.2.2.1 JX) (hS : aShf F sh) (hD : aDp F K n m.2.1.2.2.2.2.2.1) (hDT : aDT m.2.1.2.2.2.2.2.1 m.2.1.1 = true) (hE : m.2.1.2.2.2.2.2.2 = ρ0.length) {x : jI} {pc : Nat} (hk : jok m.1.1 m.1.2.1 m.1.2.2.1 tb nL ini cc pc x = true) {S : aS} {L : List (Nat × aS)} (hb : aNe m x pc S = some L) {ρ : List jv} (hx0 : aX ρ0 ρ) {lv : List (Option jv)} {st : List jv} {σ : Nat → jcell} (hc : aCx (aFq F pe) (aHp m.2.1 K n JX ρ0 σ0) K n S ρ lv st σ) (h : aNx (aFq F pe) (aHp m.2.1 K n JX ρ0 σ0) K n (jJ E m.1.2.2.1 nL M Q n ca sl) ρ L) : jJ E m.1.2.2.1 nL M Q n ca sl pc lv st σ := by
  have hk0 := hk
  have hgg := hg
  subst hl
  obtain ⟨I, ln, py⟩ := x
  simp only [jok, Bool.and_eq_true, decide_eq_true_eq] at hk
  obtain ⟨hd, -⟩ := hk
  unfold aNe at hb
  split at hb
  next i hI =>
    dsimp only at hI
    subst hI
    split at hb
    next G hg =>
      split at hb
      next hz =>
        obtain ⟨z0, z1, z2, z3, z4⟩ := hz
        dsimp only at z0
        subst z0
        obtain ⟨⟨g1, g2, g3⟩, g4⟩ := hG G (List.mem_of_getElem? hg)
        rw [if_pos z1] at g3
        obtain ⟨vs, s, ρ1, mm, pc1, rfl, v1, v2, v3, v4, v5, v6⟩ := aCall_ok (aFq_sh hS pe) (aFq_dp hD pe) hDT hE hb hx0 hc
        obtain ⟨n1, n2⟩ := aCall_no hb
        simp only [aRoom, Bool.and_eq_true, decide_eq_true_eq] at z3; replace z3 := And.intro (Nat.le_trans z3.1 hfl.1) (Nat.le_trans z3.2 hfl.2)
        have hM := g4 pc1 σ (aVal ρ1 mm) hc.2.2.2.2.1 hc.2.2.2.2.2.1 v3 ((aFq_mm n1).mp v4)
        rw [v5] at hM
        refine jk_callS (vals := vs.reverse) X hR hd (hgg _ (jin3_ok z2) _ hg) g3.1 g3.2 hM (by rw [List.reverse_reverse]) (by rw [List.length_reverse]; exact v1) z3 (by rw [g1, g2]; exact hcs) (by have q1 := jcat_le s; omega) (fun v σ' n' hp => ?_)
        obtain ⟨rfl, p1, p2, p3, p4, p5, xs, p6, p7, p8⟩ := hp
        rw [g1, g2]
        exact v6 _ v σ' xs h p1 p2 p3 p4 p5 p6 ((aFq_mm n2).mpr p7) p8
      next => cases hb
    next => cases hb
  next i hI =>
    dsimp only at hI
    subst hI
    split at hb
    next G hg =>
      split at hb
      next hz =>
        obtain ⟨z0, z1, z2, z3, z4, z5, z6⟩ := hz
        dsimp only at z0
        subst z0
        obtain ⟨⟨g1, g2, g3⟩, g4⟩ := hG G (List.mem_of_getElem? hg)
        rw [if_neg (by rw [z1]; decide)] at g3
        obtain ⟨vs, s, ρ1, mm, pc1, rfl, v1, v2, v3, v4, v5, v6⟩ := aCall_ok (aFq_sh hS pe) (aFq_dp hD pe) hDT hE hb hx0 hc
        obtain ⟨n1, n2⟩ := aCall_no hb
        simp only [aRoom, Bool.and_eq_true, decide_eq_true_eq] at z3; replace z3 := And.intro (Nat.le_trans z3.1 hfl.1) (Nat.le_trans z3.2 hfl.2)
        have hM := g4 pc1 σ (aVal ρ1 mm) hc.2.2.2.2.1 hc.2.2.2.2.2.1 v3 ((aFq_mm n1).mp v4)
        rw [v5] at hM
        unfold aCs at z5
        split at z5
        next k o es hes =>
          split at z5
          next q hq =>
            split at z5
            next w hw =>
              rw [Bool.and_eq_true, decide_eq_true_eq, decide_eq_true_eq] at z5
              obtain ⟨z5, z9⟩ := z5
              have hln : vs.reverse.length = G.2.2.1 := by rw [List.length_reverse]; exact v1
              cases hv : vs.reverse with
              | nil =>
                rw [hv] at hln
                simp at hln
                omega
              | cons v0 vr =>
                rw [hv] at hM hln v5
                have h0 : (aVal ρ1 mm)[0]? = some v0 := by
                  have : ((aVal ρ1 mm).take G.2.2.1)[0]? = some v0 := by rw [v5]; rfl
                  rw [List.getElem?_take_of_lt (by omega)] at this
                  exact this
                obtain ⟨a, rfl, b1, b2⟩ := aG_obj z9 (v3.2 0 (.inr (some (.inl (false, k))), o) v0 (by rw [hes]; rfl) h0).1
                obtain ⟨fs, e1, -⟩ := aCe_obj (hc.2.2.2.2.1 a b1 _ (by rw [b2]; exact hq))
                refine jk_callV (vals := vr) (k := G.2.2.1 - 1) X hR hd (hgg _ (jin3_ok z2) _ hg) g3.1 g3.2.1 g3.2.2 hw z5 b1 e1 hM ?_ (by simp at hln; omega) z3 (by rw [g1, g2]; exact hcs) (r := s) (by have q1 := jcat_le s; omega) (fun v σ' n' hp => ?_)
                · have e9 : vs = (.inr (.inr (some (.inl a))) :: vr).reverse := by rw [← hv, List.reverse_reverse]
                  rw [e9, List.reverse_cons, List.append_assoc]
                  rfl
                · obtain ⟨rfl, p1, p2, p3, p4, p5, xs, p6, p7, p8⟩ := hp
                  rw [g1, g2]
                  exact v6 _ v σ' xs h p1 p2 p3 p4 p5 p6 ((aFq_mm n2).mpr p7) p8
            next => cases z5
          next => cases z5
        next => cases z5
      next => cases hb
    next => cases hb
  next dflt lo hi offs hI =>
    dsimp only at hI
    subst hI
    split at hb
    next y r hs =>
      obtain ⟨v, s, rfl, h1, h3⟩ := aSk_1 (hs ▸ hc.2.2.1)
      split at hb
      next A hA =>
        obtain ⟨x0, rfl, hx⟩ := aG_int (aTy_ok hc.1 hA h1)
        split at hb
        next hz =>
          cases hb
          obtain ⟨z1, z2, z3⟩ := hz
          have hl := aLi_ok hc.1 h1
          replace hl : aVa ρ (aLi S.2.2.1 y) x0.toInt := hl
          refine jk_tab X hd (offs.toList.map (fun o => ((pc : Int) + o).toNat)) (by rw [List.length_map, Array.length_toList]; exact z1) ?_ (td := ((pc : Int) + dflt).toNat) (by omega) (fun q => ?_) (fun i t ht e => ?_)
          · rw [List.map_map]
            apply List.map_congr_left
            intro o ho
            have := of_decide_eq_true (List.all_eq_true.mp z2 o ho)
            show _ = (((pc : Int) + o).toNat : Int)
            omega
          · rcases q with q | q
            · refine aBs_ok hc h3 (fun f hf => ?_) (aNx_l h)
              rw [List.mem_singleton] at hf
              subst hf
              exact aHd_va.mpr ⟨_, aVa_p (aVa_k _) (aVa_m (-1) hl), by omega⟩
            · refine aBs_ok hc h3 (fun f hf => ?_) (aNx_l (aNx_r h))
              rw [List.mem_singleton] at hf
              subst hf
              exact aHd_va.mpr ⟨_, aVa_p (aVa_k _) hl, by omega⟩
          · exact aTab_ok hc h3 h1 (aNx_r (aNx_r h)) i t ht e
        next => cases hb
      next => cases hb
    next => cases hb
  next dflt ps hI =>
    dsimp only at hI
    subst hI
    split at hb
    next y r hs =>
      obtain ⟨v, s, rfl, h1, h3⟩ := aSk_1 (hs ▸ hc.2.2.1)
      split at hb
      next A hA =>
        obtain ⟨x0, rfl, hx⟩ := aG_int (aTy_ok hc.1 hA h1)
        split at hb
        next hz =>
          cases hb
          obtain ⟨z1, z2, z3⟩ := hz
          refine jk_look X hd z1 (td := ((pc : Int) + dflt).toNat) (by omega) (fun hn => by
            by_cases hk : aKe A ps.toList = true
            · obtain ⟨q, q1, q2⟩ := aKe_ok hk hx
              exact absurd q2 (hn q q1)
            · rw [if_neg hk] at h
              exact aBs_ok hc h3 (fun f hf => by cases hf) (aNx_l h)) (fun q hq e => ⟨((pc : Int) + q.2).toNat, ?_, aLok_ok hc h3 h1 (aNx_r h) q hq e⟩)
          have := of_decide_eq_true (List.all_eq_true.mp z2 q hq)
          omega
        next => cases hb
      next => cases hb
    next => cases hb
  next => exact jstep_ok hC X hk0 (aStq_ok hT hJ (aFq_dp hD pe) hE hb hx0 hc h) (fun _ _ _ h' => h') (fun _ _ _ _ h' => h')
/-- a row of static things -/
theorem aSvp_ok {C : aCf} {J : jN} {S : aS} {r : List Nat} {v : jSv} {p : Nat} {L : List (Nat × aS)} (hb : aSvp S r v p = some L) {ρ : List jv} {lv : List (Option jv)} {st st0 : List jv} {σ : Nat → jcell} (hc : aCx F (aHp C K n JX ρ0 σ0) K n S ρ lv st0 σ) (hs : aSk ρ r st) (h : aNx F (aHp C K n JX ρ0 σ0) K n J ρ L) : J p lv (jSw v :: st) σ := by
  unfold aSvp at hb
  split at hb
  next x =>
    cases hb
    exact aPu_ok (t := .inl (x.toInt, x.toInt)) (r := some ([], x.toInt)) (v := .inl x) hc hs ⟨Int.le_refl _, Int.le_refl _⟩ (aVa_k _) h
  next j =>
    split at hb
    next hj =>
      cases hb
      exact aPu_ok (t := .inr (some (.inr j))) (r := none) (v := .inr (.inr (some (.inr j)))) hc hs (aG_st hj) trivial h
    next => cases hb
theorem aSpv_ok {Q : State → Prop} {ca sl : Nat} {rm9 : Room} (hcs : ca ≤ rm9.cells ∧ sl ≤ rm9.slots) (hfl : m.2.2.2.1.2.2.2.2.2.2.frames ≤ rm9.frames ∧ m.2.2.2.1.2.2.2.2.2.2.locals ≤ rm9.locals) (hg : ∀ q ∈ m.1.2.2.2.2.1, ∀ G, m.2.2.1[q.2.2]? = some G → jlm m.1.2.1 q.2.1 m.1.1 q.1 G.1.1 = true) (X : jX E m.1.1 m.1.2.1 m.1.2.2.1 tb nL ini cc M) (hl : M.2.1 = l) (hR : M.2.2.2.1 = rm9) (hG : ∀ G ∈ m.2.2.1, aGd m.1.2.1 G ∧ aMe F l E m.1.2.2.1 tb m.1.2.1 m.2.1.1 K n JX G) (hS : aShf F sh) (hD : aDp F K n m.2.1.2.2.2.2.2.1) (hDT : aDT m.2.1.2.2.2.2.2.1 m.2.1.1 = true) (hE : m.2.1.2.2.2.2.2.2 = ρ0.length) {x : jI} {pc i kk : Nat} (hd : decode cc pc = .ok (.invokevirtual i, x.2.1)) {S : aS} {L : List (Nat × aS)} (hb : aSpv m x pc S i kk = some L) {ρ : List jv} (hx0 : aX ρ0 ρ) {lv : List (Option jv)} {st : List jv} {σ : Nat → jcell} (hc : aCx (aFq F pe) (aHp m.2.1 K n JX ρ0 σ0) K n S ρ lv st σ) (h : aNx (aFq F pe) (aHp m.2.1 K n JX ρ0 σ0) K n (jJ E m.1.2.2.1 nL M Q n ca sl) ρ L) : jJ E m.1.2.2.1 nL M Q n ca sl pc lv st σ := by
  subst hl
  obtain ⟨I, ln, py⟩ := x
  unfold aSpv at hb
  split at hb
  next G hg1 =>
    split at hb
    next hz =>
      obtain ⟨z0, z1, z2, z3, z4, z5, z6⟩ := hz
      dsimp only at z0
      subst z0
      obtain ⟨⟨g1, g2, g3⟩, g4⟩ := hG G (List.mem_of_getElem? hg1)
      rw [if_neg (by rw [z1]; decide)] at g3
      obtain ⟨vs, s, ρ1, mm, pc1, rfl, v1, v2, v3, v4, v5, v6⟩ := aCall_ok (aFq_sh hS pe) (aFq_dp hD pe) hDT hE hb hx0 hc
      obtain ⟨n1, n2⟩ := aCall_no hb
      simp only [aRoom, Bool.and_eq_true, decide_eq_true_eq] at z3; replace z3 := And.intro (Nat.le_trans z3.1 hfl.1) (Nat.le_trans z3.2 hfl.2)
      have hM := g4 pc1 σ (aVal ρ1 mm) hc.2.2.2.2.1 hc.2.2.2.2.2.1 v3 ((aFq_mm n1).mp v4)
      rw [v5] at hM
      unfold aSrc at z5
      split at z5
      next k o es hes =>
        have hln : vs.reverse.length = G.2.2.1 := by rw [List.length_reverse]; exact v1
        cases hv : vs.reverse with
        | nil =>
          rw [hv] at hln
          simp at hln
          omega
        | cons v0 vr =>
          rw [hv] at hM hln v5
          have h0 : (aVal ρ1 mm)[0]? = some v0 := by
            have : ((aVal ρ1 mm).take G.2.2.1)[0]? = some v0 := by rw [v5]; rfl
            rw [List.getElem?_take_of_lt (by omega)] at this
            exact this
          obtain ⟨a, rfl, b1, b2⟩ := aG_rng (v3.2 0 (.inr (some (.inr k)), o) v0 (by rw [hes]; rfl) h0).1
          obtain ⟨ob, ob1, rfl, ob3⟩ : ∃ ob ∈ js0.1, ob.1 = a ∧ ob.2.1 = G.1.1.cls := by
            simp only [Bool.or_eq_true, Bool.and_eq_true, decide_eq_true_eq] at z5
            rcases z5 with ⟨y1, y2, y3⟩ | ⟨y1, y2, y3⟩
            · rw [y3]; exact js_cl_ok js_s (by omega) (by omega)
            · rw [y3]; exact js_cl_ok js_c (by omega) (by omega)
          refine jk_callVs (vals := vr) (k := G.2.2.1 - 1) X hR hd (hg _ (jin3_ok z2) _ hg1) g3.1 g3.2.1 g3.2.2 ob1 ob3 hM ?_ (by simp at hln; omega) z3 (by rw [g1, g2]; exact hcs) (r := s) (by have q1 := jcat_le s; omega) (fun v σ' n' hp => ?_)
          · have e9 : vs = (.inr (.inr (some (.inr ob.1))) :: vr).reverse := by rw [← hv, List.reverse_reverse]
            rw [e9, List.reverse_cons, List.append_assoc]
            rfl
          · obtain ⟨rfl, p1, p2, p3, p4, p5, xs, p6, p7, p8⟩ := hp
            rw [g1, g2]
            exact v6 _ v σ' xs h p1 p2 p3 p4 p5 p6 ((aFq_mm n2).mpr p7) p8
      next => cases z5
    next => cases hb
  next => cases hb
theorem aFw_mo {mk : List (Nat × aF)} {ρ1 : List jv} {a i j : Nat} (h : aFw K mk ρ1 a i) (hj : j ≤ i) : aFw K mk ρ1 a j := fun q hq hk => by
  obtain ⟨z, h1, h2⟩ := h q hq hk
  exact ⟨z, h1, by omega⟩
theorem aFa_lgs {mk : List (Nat × aF)} {σ : Nat → jcell} (h : aFa K n mk ρ0 σ0 σ) {a : Nat} {ty : FieldType} {m : Nat} {g g2 : Nat → Int64} (hy : σ a = .inl (ty, m, .inr (.inl g))) (hw : ∀ i, aFw K mk ρ0 a i → g2 i = g i) : aFa K n mk ρ0 σ0 (jup σ a (.inl (ty, m, .inr (.inl g2)))) := by
  intro b hb
  obtain ⟨h1, h2⟩ := h b hb
  by_cases e : b = a
  · subst e
    refine ⟨fun ty9 m9 g9 h0 => ?_, fun ty9 m9 g9 h0 => ?_⟩
    · obtain ⟨g', e1, e2⟩ := h1 ty9 m9 g9 h0
      rw [hy] at e1
      cases e1
    · obtain ⟨g', e1, e2⟩ := h2 ty9 m9 g9 h0
      rw [hy] at e1
      cases e1
      exact ⟨_, jup_s, fun j hj => by rw [hw j hj]; exact e2 j hj⟩
  · rw [jup_n e]
    exact ⟨h1, h2⟩
theorem aCpy_ok {Q : State → Prop} {ca sl : Nat} {own : String} {Ts : List Jvm.Cond} {cl : List vw_C} {C : aCf} {rm rm9 : Room} (hfl : rm.frames ≤ rm9.frames ∧ rm.locals ≤ rm9.locals) (X : jX E own Ts cl tb nL ini cc M) (hR : M.2.2.2.1 = rm9) (hJ : aJx K n C.2.2.1 JX) (hD : aDp F K n C.2.2.2.2.2.1) (hE : C.2.2.2.2.2.2 = ρ0.length) {pc i : Nat} (hd : decode cc pc = .ok (.invokestatic i, 3)) (hq : Jvm.Cond.methodLink own i arraycopyName ∈ jTA Ts ∧ Jvm.Cond.native arraycopyName ∈ jTA Ts ∧ Jvm.Cond.static arraycopyName ∈ jTA Ts ∧ Jvm.Cond.initialized "java/lang/System" ∈ jTA Ts) {S : aS} {L : List (Nat × aS)} (hb : aCpy C rm S (pc + 3) = some L) {ρ : List jv} (hx0 : aX ρ0 ρ) {lv : List (Option jv)} {st : List jv} {σ : Nat → jcell} (hc : aCx F (aHp C K n JX ρ0 σ0) K n S ρ lv st σ) (h : aNx F (aHp C K n JX ρ0 σ0) K n (jJ E cl nL M Q n ca sl) ρ L) : jJ E cl nL M Q n ca sl pc lv st σ := by
  unfold aCpy at hb
  split at hb
  next k dp d sp a r hs =>
    obtain ⟨v1, v2, s1, rfl, h1, h2, h3⟩ := aSk_2 (hs ▸ hc.2.2.1)
    obtain ⟨v3, v4, s2, rfl, h4, h5, h6⟩ := aSk_2 h3
    obtain ⟨v5, s3, rfl, h7, h8⟩ := aSk_1 h6
    split at hb
    next A B D qd qa hA hB hDD hqd hqa =>
      split at hb
      next hz =>
        cases hb
        obtain ⟨z1, z2, z3, z4, z5, z6, z7, z8, z9, z10, z11, z12⟩ := hz
        rw [decide_eq_true_eq] at z1 z2
        obtain ⟨k0, rfl, hk0⟩ := aIv_ok hc.1 hA h1
        obtain ⟨d0, rfl, hd0⟩ := aIv_ok hc.1 hB h2
        obtain ⟨s0, rfl, hs0⟩ := aIv_ok hc.1 hDD h5
        obtain ⟨bd, rfl, l1, l2, l3, l4⟩ := aAr_ok hc.1 hc.2.2.2.2.1 hqd h4
        obtain ⟨ba, rfl, l5, l6, l7, l8⟩ := aAr_ok hc.1 hc.2.2.2.2.1 hqa h7
        obtain ⟨g, e1⟩ := aCe_larr l4 z1
        obtain ⟨f, e2⟩ := aCe_larr l8 z2
        rw [z1] at e1
        rw [z2] at e2
        obtain ⟨p9, m1, m2, m3, m4⟩ := hc.2.2.2.1
        have i1 := aLi_ok hc.1 h1
        have i2 := aLi_ok hc.1 h2
        have i3 := aLi_ok hc.1 h5
        have u1 := aPr_ok hc.1 m3 z6 (aVa_p (aVa_k _) (aVa_p (aVa_m (-1) i3) (aVa_m (-1) i1)))
        have u2 := aPr_ok hc.1 m3 z7 (aVa_p (aVa_k _) (aVa_p (aVa_m (-1) i2) (aVa_m (-1) i1)))
        replace u1 : 0 ≤ (qa.2.2.1 : Int) + (-1 * s0.toInt + -1 * k0.toInt) := u1
        replace u2 : 0 ≤ (qd.2.2.1 : Int) + (-1 * d0.toInt + -1 * k0.toInt) := u2
        have y1 := hk0.1
        have y2 := hd0.1
        have y3 := hs0.1
        have n1 : k0.toInt = (k0.toNatClampNeg : Int) := by show k0.toInt = ((k0.toInt.toNat : Nat) : Int); omega
        have n2 : d0.toInt = (d0.toNatClampNeg : Int) := by show d0.toInt = ((d0.toInt.toNat : Nat) : Int); omega
        have n3 : s0.toInt = (s0.toNatClampNeg : Int) := by show s0.toInt = ((s0.toInt.toNat : Nat) : Int); omega
        obtain ⟨p1, p2, p3, p4⟩ := hc.2.2.2.2
        have hi2 : aVa ρ (aLi S.2.2.1 dp) (d0.toNatClampNeg : Int) := by rw [← n2]; exact i2
        have hw := aWr_ok hc.1 hx0 hE m3 (by rw [← l2] at z9; exact z9) hi2
        have lt : ∀ z : Int32, 0 ≤ z.toInt → ¬ z < 0 := fun z hz => by
          intro h9
          have := Int32.lt_iff_toInt_lt.mp h9
          have e0 : (0 : Int32).toInt = 0 := rfl
          omega
        refine jk_acl X hR hd hq.1 hq.2.1 hq.2.2.1 hq.2.2.2 l5 e2 l1 e1 (lt _ (by omega)) (lt _ (by omega)) (lt _ (by omega)) (by omega) (by omega) (Nat.le_trans z11 hfl.1) (by have q1 := jcat_le s3; have q2 := aSk_len h8; omega) (Nat.le_trans z12 hfl.2) ?_
        refine aNx_in h List.mem_cons_self aX_rf ⟨hc.1, hc.2.1, h8, ⟨p9, aCa_arr m1 e1, by rw [← l2]; exact aCk_ok hc.1 m2, m3, by rw [← l2]; exact aFkl_ok hD m4⟩, aH_up p1 (fun dd hdd => ?_), (hJ _ _ l1 p2).1 _ (by rw [l2]; exact z8), aFr_arr p3 e1, aFa_lgs p4 e1 (fun j hj => ?_)⟩
        · rw [l3] at hdd
          cases hdd
          exact ⟨z1.symm, rfl, z1⟩
        · unfold va_cpy
          rw [if_neg (fun hh => hw (aFw_mo hj hh.1))]
      next => cases hb
    next => cases hb
  next => cases hb
theorem aFa_igs {mk : List (Nat × aF)} {σ : Nat → jcell} (h : aFa K n mk ρ0 σ0 σ) {a : Nat} {ty : FieldType} {m : Nat} {g g2 : Nat → Int32} (hy : σ a = .inl (ty, m, .inl g)) (hw : ∀ i, aFw K mk ρ0 a i → g2 i = g i) : aFa K n mk ρ0 σ0 (jup σ a (.inl (ty, m, .inl g2))) := by
  intro b hb
  obtain ⟨h1, h2⟩ := h b hb
  by_cases e : b = a
  · subst e
    refine ⟨fun ty9 m9 g9 h0 => ?_, fun ty9 m9 g9 h0 => ?_⟩
    · obtain ⟨g', e1, e2⟩ := h1 ty9 m9 g9 h0
      rw [hy] at e1
      cases e1
      exact ⟨_, jup_s, fun j hj => by rw [hw j hj]; exact e2 j hj⟩
    · obtain ⟨g', e1, e2⟩ := h2 ty9 m9 g9 h0
      rw [hy] at e1
      cases e1
  · rw [jup_n e]
    exact ⟨h1, h2⟩
theorem aCpb_ok {Q : State → Prop} {ca sl : Nat} {own : String} {Ts : List Jvm.Cond} {cl : List vw_C} {C : aCf} {rm rm9 : Room} (hfl : rm.frames ≤ rm9.frames ∧ rm.locals ≤ rm9.locals) (X : jX E own Ts cl tb nL ini cc M) (hR : M.2.2.2.1 = rm9) (hJ : aJx K n C.2.2.1 JX) (hD : aDp F K n C.2.2.2.2.2.1) (hE : C.2.2.2.2.2.2 = ρ0.length) {pc i : Nat} (hd : decode cc pc = .ok (.invokestatic i, 3)) (hq : Jvm.Cond.methodLink own i arraycopyName ∈ jTA Ts ∧ Jvm.Cond.native arraycopyName ∈ jTA Ts ∧ Jvm.Cond.static arraycopyName ∈ jTA Ts ∧ Jvm.Cond.initialized "java/lang/System" ∈ jTA Ts) {S : aS} {L : List (Nat × aS)} (hb : aCpb C rm S (pc + 3) = some L) {ρ : List jv} (hx0 : aX ρ0 ρ) {lv : List (Option jv)} {st : List jv} {σ : Nat → jcell} (hc : aCx F (aHp C K n JX ρ0 σ0) K n S ρ lv st σ) (h : aNx F (aHp C K n JX ρ0 σ0) K n (jJ E cl nL M Q n ca sl) ρ L) : jJ E cl nL M Q n ca sl pc lv st σ := by
  unfold aCpb at hb
  split at hb
  next k dp d sp a r hs =>
    obtain ⟨v1, v2, s1, rfl, h1, h2, h3⟩ := aSk_2 (hs ▸ hc.2.2.1)
    obtain ⟨v3, v4, s2, rfl, h4, h5, h6⟩ := aSk_2 h3
    obtain ⟨v5, s3, rfl, h7, h8⟩ := aSk_1 h6
    split at hb
    next A B D qd qa hA hB hDD hqd hqa =>
      split at hb
      next hz =>
        cases hb
        obtain ⟨z1, z2, za, zb, zc, z3, z4, z5, z6, z7, z8, z9, z10, z11, z12⟩ := hz
        rw [decide_eq_true_eq] at z1 z2
        obtain ⟨k0, rfl, hk0⟩ := aIv_ok hc.1 hA h1
        obtain ⟨d0, rfl, hd0⟩ := aIv_ok hc.1 hB h2
        obtain ⟨s0, rfl, hs0⟩ := aIv_ok hc.1 hDD h5
        obtain ⟨bd, rfl, l1, l2, l3, l4⟩ := aAr_ok hc.1 hc.2.2.2.2.1 hqd h4
        obtain ⟨ba, rfl, l5, l6, l7, l8⟩ := aAr_ok hc.1 hc.2.2.2.2.1 hqa h7
        obtain ⟨g, e1, w1⟩ := aCe_arr l4 (by rw [z1]; intro h; cases h)
        obtain ⟨f, e2, w2⟩ := aCe_arr l8 (by rw [z2]; intro h; cases h)
        rw [z1] at e1
        rw [z2] at e2
        obtain ⟨p9, m1, m2, m3, m4⟩ := hc.2.2.2.1
        have i1 := aLi_ok hc.1 h1
        have i2 := aLi_ok hc.1 h2
        have i3 := aLi_ok hc.1 h5
        have u1 := aPr_ok hc.1 m3 z6 (aVa_p (aVa_k _) (aVa_p (aVa_m (-1) i3) (aVa_m (-1) i1)))
        have u2 := aPr_ok hc.1 m3 z7 (aVa_p (aVa_k _) (aVa_p (aVa_m (-1) i2) (aVa_m (-1) i1)))
        replace u1 : 0 ≤ (qa.2.2.1 : Int) + (-1 * s0.toInt + -1 * k0.toInt) := u1
        replace u2 : 0 ≤ (qd.2.2.1 : Int) + (-1 * d0.toInt + -1 * k0.toInt) := u2
        have y1 := hk0.1
        have y2 := hd0.1
        have y3 := hs0.1
        have n1 : k0.toInt = (k0.toNatClampNeg : Int) := by show k0.toInt = ((k0.toInt.toNat : Nat) : Int); omega
        have n2 : d0.toInt = (d0.toNatClampNeg : Int) := by show d0.toInt = ((d0.toInt.toNat : Nat) : Int); omega
        have n3 : s0.toInt = (s0.toNatClampNeg : Int) := by show s0.toInt = ((s0.toInt.toNat : Nat) : Int); omega
        obtain ⟨p1, p2, p3, p4⟩ := hc.2.2.2.2
        have hi2 : aVa ρ (aLi S.2.2.1 dp) (d0.toNatClampNeg : Int) := by rw [← n2]; exact i2
        have hw := aWr_ok hc.1 hx0 hE m3 (by rw [← l2] at z9; exact z9) hi2
        have lt : ∀ z : Int32, 0 ≤ z.toInt → ¬ z < 0 := fun z hz => by
          intro h9
          have := Int32.lt_iff_toInt_lt.mp h9
          have e0 : (0 : Int32).toInt = 0 := rfl
          omega
        refine jk_acb X hR hd hq.1 hq.2.1 hq.2.2.1 hq.2.2.2 l5 e2 l1 e1 (lt _ (by omega)) (lt _ (by omega)) (lt _ (by omega)) (by omega) (by omega) (fun j hj => aSb_ok za (w2 _ (by omega)).1) (Nat.le_trans z11 hfl.1) (by have q1 := jcat_le s3; have q2 := aSk_len h8; omega) (Nat.le_trans z12 hfl.2) ?_
        refine aNx_in h List.mem_cons_self aX_rf ⟨hc.1, hc.2.1, h8, ⟨p9, aCa_arr m1 e1, by rw [← l2]; exact aCk_ok hc.1 m2, m3, by rw [← l2]; exact aFkl_ok hD m4⟩, aH_up p1 (fun dd hdd => ?_), (hJ _ _ l1 p2).1 _ (by rw [l2]; exact z8), aFr_arr p3 e1, aFa_igs p4 e1 (fun j hj => ?_)⟩
        · rw [l3] at hdd
          cases hdd
          refine ⟨z1.symm, rfl, (by intro h9; rw [z1] at h9; cases h9), fun j hj => ⟨?_, fun q9 hq9 => ?_⟩⟩
          · unfold va_cpy
            split
            next hh => exact aSb_ok zb (w2 _ (by omega)).1
            next => exact (w1 j hj).1
          · have e9 := List.isEmpty_iff.mp zc
            rw [e9] at hq9
            cases hq9
        · unfold va_cpy
          rw [if_neg (fun hh => hw (aFw_mo hj hh.1))]
      next => cases hb
    next => cases hb
  next => cases hb
theorem aSpe_ok {Q : State → Prop} {ca sl : Nat} {rm9 : Room} (hcs : ca ≤ rm9.cells ∧ sl ≤ rm9.slots) (hfl : m.2.2.2.1.2.2.2.2.2.2.frames ≤ rm9.frames ∧ m.2.2.2.1.2.2.2.2.2.2.locals ≤ rm9.locals) (hsp : ∀ q ∈ m.1.2.2.2.2.2.1, aSpP m.1.1 m.1.2.1 q) (hg : ∀ q ∈ m.1.2.2.2.2.1, ∀ G, m.2.2.1[q.2.2]? = some G → jlm m.1.2.1 q.2.1 m.1.1 q.1 G.1.1 = true) (hC : jCl m.1.2.1 m.1.2.2.1) (X : jX E m.1.1 m.1.2.1 m.1.2.2.1 tb nL ini cc M) (hl : M.2.1 = l) (hR : M.2.2.2.1 = rm9) (hG : ∀ G ∈ m.2.2.1, aGd m.1.2.1 G ∧ aMe F l E m.1.2.2.1 tb m.1.2.1 m.2.1.1 K n JX G) (hT : aTB m.2.1.2.1 tb) (hJ : aJx K n m.2.1.2.2.1 JX) (hS : aShf F sh) (hD : aDp F K n m.2.1.2.2.2.2.2.1) (hDT : aDT m.2.1.2.2.2.2.2.1 m.2.1.1 = true) (hE : m.2.1.2.2.2.2.2.2 = ρ0.length) {x : jI} {pc : Nat} (hd : decode cc pc = .ok (x.1, x.2.1)) {S : aS} {L : List (Nat × aS)} (hb : aSpe m x pc S = some L) {ρ : List jv} (hx0 : aX ρ0 ρ) {lv : List (Option jv)} {st : List jv} {σ : Nat → jcell} (hc : aCx (aFq F pe) (aHp m.2.1 K n JX ρ0 σ0) K n S ρ lv st σ) (h : aNx (aFq F pe) (aHp m.2.1 K n JX ρ0 σ0) K n (jJ E m.1.2.2.1 nL M Q n ca sl) ρ L) : jJ E m.1.2.2.1 nL M Q n ca sl pc lv st σ := by
  subst hl
  obtain ⟨I, ln, py⟩ := x
  unfold aSpe at hb
  split at hb
  next i hI =>
    dsimp only at hI
    subst hI
    split at hb
    next v hv =>
      split at hb
      next e =>
        dsimp only at e
        subst e
        obtain ⟨tx, j, e1, e2⟩ := (hsp _ (aSpf_ok hv)).1 rfl
        dsimp only at e1
        subst e1
        exact jk_lds X hd e2 (aSvp_ok hb hc hc.2.2.1 h)
      next => cases hb
    next => cases hb
  next i hI =>
    dsimp only at hI
    subst hI
    split at hb
    next e =>
      dsimp only at e
      subst e
      split at hb
      next v hv =>
        obtain ⟨tx, j, e1, e2⟩ := (hsp _ (aSpf_ok hv)).2.1 rfl
        dsimp only at e1
        subst e1
        exact jk_ldx X hd e2 (aSvp_ok hb hc hc.2.2.1 h)
      next =>
        split at hb
        next v hv =>
          obtain ⟨w, e1, e2⟩ := (hsp _ (aSpf_ok hv)).2.2.1 rfl
          dsimp only at e1
          subst e1
          exact jk_ldw X hd e2 (aSvp_ok hb hc hc.2.2.1 h)
        next => cases hb
    next => cases hb
  next i hI =>
    dsimp only at hI
    subst hI
    split at hb
    next v hv =>
      split at hb
      next e =>
        dsimp only at e
        subst e
        obtain ⟨z, z1, z2, z3⟩ := (hsp _ (aSpf_ok hv)).2.2.2.1 rfl
        dsimp only at z2 z3
        subst z2
        exact jk_gsv X hd z1 z3 (aSvp_ok hb hc hc.2.2.1 h)
      next => cases hb
    next => cases hb
  next i hI =>
    dsimp only at hI
    subst hI
    split at hb
    next e =>
      dsimp only at e
      subst e
      split at hb
      next a r hs =>
        obtain ⟨w, s, rfl, h1, h2⟩ := aSk_1 (hs ▸ hc.2.2.1)
        split at hb
        next j hA =>
          split at hb
          next hj =>
            split at hb
            next v hv =>
              obtain rfl := aG_tab hj (aTy_ok hc.1 hA h1)
              obtain ⟨o, o1, f, f1, f2, f3, f4⟩ := (hsp _ (aSpf_ok hv)).2.2.2.2.1 rfl
              dsimp only at f2 f3 f4
              subst f2
              subst f3
              exact jk_gfo X hd o1 f1 f4 (aSvp_ok hb hc h2 h)
            next => cases hb
          next => cases hb
        next => cases hb
      next => cases hb
    next => cases hb
  next hI =>
    dsimp only at hI
    subst hI
    split at hb
    next e =>
      dsimp only at e
      subst e
      split at hb
      next i a r hs =>
        obtain ⟨v1, s1, rfl, h1, h2⟩ := aSk_1 (hs ▸ hc.2.2.1)
        obtain ⟨v2, s2, rfl, h3, h4⟩ := aSk_1 h2
        split at hb
        next A j hA hB =>
          split at hb
          next hj =>
            split at hb
            next q hq =>
              split at hb
              next hz =>
                obtain rfl := aG_tab hj (aTy_ok hc.1 hB h3)
                obtain ⟨y, rfl, hy⟩ := aG_int (aTy_ok hc.1 hA h1)
                obtain ⟨q1, rfl⟩ := aSrf_ok hq
                obtain ⟨k1, k2⟩ := aIx_ok hy hz.1 hz.2
                split at hb
                next ee =>
                  have e9 : A.1.toNat = y.toNatClampNeg := by
                    obtain ⟨y1, y2⟩ := hy
                    show _ = y.toInt.toNat
                    omega
                  rw [e9] at hb
                  exact jk_aal X hd q1 k1 (aSvp_ok hb hc h4 h)
                next =>
                  split at hb
                  next ha =>
                    cases hb
                    have h9 := List.all_eq_true.mp ha _ (List.mem_range.mpr k2)
                    rw [Bool.and_eq_true, decide_eq_true_eq, decide_eq_true_eq] at h9
                    exact jk_aal X hd q1 k1 (aPu_ok (t := .inr (some (.inr py.2.1))) (r := none) (v := .inr (.inr (some (.inr (q.2.2.2 y.toNatClampNeg))))) hc h4 h9 trivial h)
                  next => cases hb
              next => cases hb
            next => cases hb
          next => cases hb
        next => cases hb
      next => cases hb
    next => cases hb
  next hI =>
    dsimp only at hI
    subst hI
    split at hb
    next e =>
      dsimp only at e
      subst e
      split at hb
      next a r hs =>
        obtain ⟨w, s, rfl, h1, h2⟩ := aSk_1 (hs ▸ hc.2.2.1)
        split at hb
        next j hA =>
          split at hb
          next hj =>
            split at hb
            next q hq =>
              obtain rfl := aG_tab hj (aTy_ok hc.1 hA h1)
              obtain ⟨q1, rfl⟩ := aSrf_ok hq
              exact jk_alr X hd q1 (aSvp_ok hb hc h2 h)
            next =>
              split at hb
              next q hq =>
                obtain rfl := aG_tab hj (aTy_ok hc.1 hA h1)
                obtain ⟨q1, rfl⟩ := aSro_ok hq
                exact jk_aln X hd q1 (aSvp_ok hb hc h2 h)
              next => cases hb
          next => cases hb
        next => cases hb
      next => cases hb
    next => cases hb
  next hI =>
    dsimp only at hI
    subst hI
    split at hb
    next e =>
      dsimp only at e
      subst e
      split at hb
      next i a r hs =>
        obtain ⟨v1, s1, rfl, h1, h2⟩ := aSk_1 (hs ▸ hc.2.2.1)
        obtain ⟨v2, s2, rfl, h3, h4⟩ := aSk_1 h2
        split at hb
        next A j hA hB =>
          split at hb
          next hj =>
            split at hb
            next q hq =>
              split at hb
              next hz =>
                obtain rfl := aG_tab hj (aTy_ok hc.1 hB h3)
                obtain ⟨y, rfl, hy⟩ := aG_int (aTy_ok hc.1 hA h1)
                obtain ⟨q1, rfl⟩ := aSro_ok hq
                obtain ⟨p9, m1, m2, m3, m4⟩ := hc.2.2.2.1
                obtain ⟨k1, k2, -⟩ := aBd_ok hc.1 m3 hz (aLi_ok hc.1 h1)
                have b1 := of_decide_eq_true (List.all_eq_true.mp js_by _ q1)
                split at hb
                next ee =>
                  have e9 : A.1.toNat = y.toNatClampNeg := by
                    obtain ⟨y1, y2⟩ := hy
                    show _ = y.toInt.toNat
                    omega
                  rw [e9] at hb
                  exact jk_bal X hd q1 b1 k1 (aSvp_ok hb hc h4 h)
                cases hb
                have b2 := List.all_eq_true.mp (List.all_eq_true.mp js_bt _ q1) _ (List.mem_range.mpr k2)
                rw [Bool.and_eq_true, decide_eq_true_eq, decide_eq_true_eq] at b2
                exact jk_bal X hd q1 b1 k1 (aPu_ok (t := .inl (0, 127)) (r := none) (v := .inl (q.2.2.2 y.toNatClampNeg)) hc h4 b2 trivial h)
              next => cases hb
            next => cases hb
          next => cases hb
        next => cases hb
      next => cases hb
    next => cases hb
  next i hI =>
    dsimp only at hI
    subst hI
    split at hb
    next v hv =>
      split at hb
      next e =>
        dsimp only at e
        subst e
        split at hb
        next L9 hL9 =>
          cases hb
          exact aCpy_ok hfl X hR hJ (aFq_dp hD pe) hE hd ((hsp _ (aSpf_ok hv)).2.2.2.2.2 rfl) hL9 hx0 hc h
        next => exact aCpb_ok hfl X hR hJ (aFq_dp hD pe) hE hd ((hsp _ (aSpf_ok hv)).2.2.2.2.2 rfl) hb hx0 hc h
      next => cases hb
    next =>
      obtain ⟨k, hb⟩ := aTry_ok hb
      exact aNe_ok hcs hfl hg hC X rfl hR hG hT hJ hS hD hDT hE (by unfold jok; rw [Bool.and_eq_true]; exact ⟨decide_eq_true hd, rfl⟩) hb hx0 hc h
  next i hI =>
    dsimp only at hI
    subst hI
    obtain ⟨k, hb⟩ := aTry_ok hb
    split at hb
    next L9 hL9 =>
      cases hb
      exact aNe_ok hcs hfl hg hC X rfl hR hG hT hJ hS hD hDT hE (by unfold jok; rw [Bool.and_eq_true]; exact ⟨decide_eq_true hd, rfl⟩) hL9 hx0 hc h
    next => exact aSpv_ok hcs hfl hg X rfl hR hG hS hD hDT hE hd hb hx0 hc h
  next => cases hb
theorem aPcs_ok {C : aCf} {J : jN} {S : aS} {x pc : Nat} {ρ : List jv} {lv : List (Option jv)} {st : List jv} {σ : Nat → jcell} (hc : aCx F (aHp C K n JX ρ0 σ0) K n S ρ lv st σ) {y : Int32} (hy : ρ[x]? = some (.inl y)) : ∀ {pts : List Int} {lo : Option Int}, (∀ l, lo = some l → l ≤ y.toInt) → aNx F (aHp C K n JX ρ0 σ0) K n J ρ (aPcs S x pc pts lo) → J pc lv st σ := by
  have hl := aLi_ok hc.1 hy
  replace hl : aVa ρ (aLi S.2.2.1 x) y.toInt := hl
  have low : ∀ {lo : Option Int}, (∀ l, lo = some l → l ≤ y.toInt) → ∀ f ∈ aLow S.2.2.1 x lo, aHd ρ f := by
    intro lo h f hf
    unfold aLow at hf
    split at hf
    next => cases hf
    next l =>
      rw [List.mem_singleton] at hf
      subst hf
      have := h l rfl
      exact aHd_va.mpr ⟨_, aVa_p (aVa_k _) hl, by omega⟩
  intro pts
  induction pts with
  | nil => exact fun h1 h2 => aBs_ok hc hc.2.2.1 (low h1) h2
  | cons p r ih =>
    intro lo h1 h2
    unfold aPcs at h2
    by_cases hp : p ≤ y.toInt
    · exact ih (fun l e => by cases e; exact hp) (aNx_r h2)
    · refine aBs_ok hc hc.2.2.1 (fun f hf => ?_) (aNx_l h2)
      rcases List.mem_cons.mp hf with rfl | hf
      · exact aHd_va.mpr ⟨_, aVa_p (aVa_k _) (aVa_m (-1) hl), by omega⟩
      · exact low h1 f hf
theorem aNe3_ok {C : aCf} {J : jN} {x : jI} {pc : Nat} (hst : ∀ (S : aS) (L : List (Nat × aS)) (ρ : List jv) (lv : List (Option jv)) (st : List jv) (σ : Nat → jcell), aNe2 m x pc S = some L → aX ρ0 ρ → aCx F (aHp C K n JX ρ0 σ0) K n S ρ lv st σ → aNx F (aHp C K n JX ρ0 σ0) K n J ρ L → J pc lv st σ) {S : aS} {L : List (Nat × aS)} (hb : aNe3 m x pc S = some L) {ρ : List jv} (hx0 : aX ρ0 ρ) {lv : List (Option jv)} {st : List jv} {σ : Nat → jcell} (hc : aCx F (aHp C K n JX ρ0 σ0) K n S ρ lv st σ) (h : aNx F (aHp C K n JX ρ0 σ0) K n J ρ L) : J pc lv st σ := by
  unfold aNe3 at hb
  split at hb
  next => exact hst S L ρ lv st σ hb hx0 hc h
  next w hw =>
    split at hb
    next k hk =>
      split at hb
      next A hA =>
        have hkl : k < ρ.length := by
          unfold aTy at hA
          split at hA
          next e1 he1 => rw [hc.1.1]; exact (List.getElem?_eq_some_iff.mp he1).1
          next => cases hA
        have hv : ρ[k]? = some (ρ[k]'hkl) := List.getElem?_eq_getElem hkl
        obtain ⟨y, hy, -⟩ := aG_int (aTy_ok hc.1 hA hv)
        rw [hy] at hv
        refine aPcs_ok hc hv (pts := w.2) (lo := none) (fun l e => by cases e) (fun q hq ρ' lv' st' σ' hx hc' => ?_)
        obtain ⟨Lq, e1, e2⟩ := aCat_ok hb q hq
        rw [aPcs_pc q hq]
        exact hst q.2 Lq ρ' lv' st' σ' e1 (hx0.tr hx) hc' (fun z hz ρ2 lv2 st2 σ2 hx2 hc2 => h z (e2 z hz) ρ2 lv2 st2 σ2 (hx.tr hx2) hc2)
      next => cases hb
    next => cases hb
/-- a rule of what is known; it may bring new names (xs) -/
def aGho {P : Type} (F : aFt P) (T : List aKd) (K : Nat → Nat) (n : Nat) (JX : (Nat → jcell) → Prop) (G : aCon) : Prop := ∀ (p : P) (σ : Nat → jcell) (ρ : List jv), aH T K n σ → JX σ → aR K n G.2.2.2.1.1 ρ → aMm F p ρ σ G.2.2.2.1.2 → ∃ (p' : P) (xs : List jv), (G.2.2.2.2.2.1.1.isEmpty = true → p' = p) ∧ aR K n (aPe G) (ρ ++ xs) ∧ aMm F p' (ρ ++ xs) σ G.2.2.2.2.1.2.2.1 ∧ ∃ A ∈ G.2.2.2.2.1.2.2.2, ∀ f ∈ A, aHd (ρ ++ xs) f
theorem aGho_of {P : Type} {F : aFt P} {T : List aKd} {K : Nat → Nat} {n : Nat} {JX : (Nat → jcell) → Prop} {G : aCon} (h1 : G.2.2.2.2.1.1 = none ∧ G.2.2.2.2.1.2.1 = []) (h : ∀ (p : P) (σ : Nat → jcell) (ρ : List jv), aH T K n σ → JX σ → aR K n G.2.2.2.1.1 ρ → aMm F p ρ σ G.2.2.2.1.2 → ∃ p' : P, (G.2.2.2.2.2.1.1.isEmpty = true → p' = p) ∧ aMm F p' ρ σ G.2.2.2.2.1.2.2.1 ∧ ∃ A ∈ G.2.2.2.2.1.2.2.2, ∀ f ∈ A, aHd ρ f) : aGho F T K n JX G := by
  intro p σ ρ hH hX hA hM
  obtain ⟨p', f1, f2, A, f3, f4⟩ := h p σ ρ hH hX hA hM
  have e2 : aPe G = G.2.2.2.1.1 := by unfold aPe; rw [h1.1, h1.2]; simp
  refine ⟨p', [], f1, ?_, ?_, A, f3, ?_⟩
  · rw [e2, List.append_nil]; exact hA
  · rw [List.append_nil]; exact f2
  · rw [List.append_nil]; exact f4
theorem aSk_app {ρ : List jv} : ∀ {a b : List Nat} {s t : List jv}, aSk ρ a s → aSk ρ b t → aSk ρ (a ++ b) (s ++ t)
  | [], _, [], _, _, h => h
  | _ :: _, _, _ :: _, _, h1, h2 => ⟨h1.1, aSk_app h1.2 h2⟩
  | [], _, _ :: _, _, h, _ => h.elim
  | _ :: _, _, [], _, h, _ => h.elim
theorem aSk_of {ρ : List jv} : ∀ {a : List Nat}, (∀ i ∈ a, i < ρ.length) → ∃ s, aSk ρ a s ∧ s.length = a.length
  | [], _ => ⟨[], trivial, rfl⟩
  | i :: r, h => by
    obtain ⟨s, h1, h2⟩ := aSk_of (a := r) (fun j hj => h j (List.mem_cons_of_mem _ hj))
    have hi := h i List.mem_cons_self
    exact ⟨ρ[i] :: s, ⟨List.getElem?_eq_getElem hi, h1⟩, by simp [h2]⟩
theorem aGh1_ok {J : jN} {RU : List aCon} (hU : ∀ G ∈ RU, aGho F m.2.1.1 K n JX G) (hS : aShf F sh) (hD : aDp F K n m.2.1.2.2.2.2.2.1) (hDT : aDT m.2.1.2.2.2.2.2.1 m.2.1.1 = true) (hE : m.2.1.2.2.2.2.2.2 = ρ0.length) {g : Nat × Nat × List aSc2 × List Nat} {pc : Nat} {S : aS} {L : List (Nat × aS)} (hb : aGh1 m.2.1 RU g pc S = some L) {ρ : List jv} (hx0 : aX ρ0 ρ) {lv : List (Option jv)} {st : List jv} {σ : Nat → jcell} (hc : aCx (aFq F pe) (aHp m.2.1 K n JX ρ0 σ0) K n S ρ lv st σ) (h : aNx (aFq F pe) (aHp m.2.1 K n JX ρ0 σ0) K n J ρ L) : J pc lv st σ := by
  unfold aGh1 at hb
  split at hb
  next G hG =>
    split at hb
    next hz =>
      obtain ⟨z1, z3, z4⟩ := hz
      split at hb
      next z hz =>
        split at hb
        next hl =>
          obtain ⟨l1, l2⟩ := hl
          obtain ⟨⟨ex, hm⟩, ρ1, x1, c1⟩ := aMp_ok hz hc
          have hin : ∀ i ∈ (g.2.2.2.map (fun i => z.2.getD i 0)).reverse, i < ρ1.length := fun i hi => by
            rw [List.mem_reverse] at hi
            obtain ⟨k, k1, rfl⟩ := List.mem_map.mp hi
            have k2 : k < z.2.length := of_decide_eq_true (List.all_eq_true.mp l1 k k1)
            have k3 : z.2.getD k 0 = z.2[k] := by simp [List.getD, List.getElem?_eq_getElem k2]
            rw [k3, c1.1.1]
            exact of_decide_eq_true (List.all_eq_true.mp l2 _ (List.getElem_mem k2))
          obtain ⟨sv, s1, s2⟩ := aSk_of hin
          obtain ⟨vs, s, ρ2, mm, pc1, e0, v1, v2, v3, v4, v5, v6⟩ := aCall_ok (aFq_sh hS pe) (aFq_dp hD pe) hDT hE hb (hx0.tr x1) (S := (z.1.1, (g.2.2.2.map (fun i => z.2.getD i 0)).reverse ++ z.1.2.1, z.1.2.2.1, z.1.2.2.2)) (ρ := ρ1) (lv := lv) (st := sv ++ st) (σ := σ) ⟨c1.1, c1.2.1, aSk_app s1 c1.2.2.1, c1.2.2.2⟩
          obtain ⟨n1, n2⟩ := aCall_no hb
          have hlen : sv.length = vs.length := by rw [s2, v1, z3]; simp
          obtain ⟨rfl, rfl⟩ := List.append_inj e0 hlen
          obtain ⟨p8, xs, hp8, gR, g1, A, g2, g3⟩ := hU G (List.mem_of_getElem? hG) pc1 σ (aVal ρ2 mm) hc.2.2.2.2.1 hc.2.2.2.2.2.1 v3 ((aFq_mm n1).mp v4)
          obtain rfl := hp8 z4
          have e1 : G.2.2.2.2.1.1 = none := by
            cases e9 : G.2.2.2.2.1.1 with
            | none => rfl
            | some t => rw [e9] at z1; cases z1
          have h9 := v6 J none σ xs (fun q hq ρ3 lv3 st3 σ3 hx3 hc3 => h q hq ρ3 lv3 st3 σ3 (x1.tr hx3) hc3) hc.2.2.2.2.1 hc.2.2.2.2.2.1 aFr_rf aFa_rf (by rw [e1]; rfl) (by simpa using gR) (by have q9 := (aFq_mm (pe := pe) n2).mpr g1; simpa using q9) ⟨A, g2, by simpa using g3⟩
          simpa using h9
        next => cases hb
      next => cases hb
    next => cases hb
  next => cases hb
theorem aSk_vl {ρ : List jv} : ∀ {a : List Nat} {s : List jv}, aSk ρ a s → s = aVal ρ a
  | [], [], _ => rfl
  | i :: r, v :: s, h => by
    unfold aVal
    rw [List.map_cons, aSk_vl h.2]
    unfold aVal
    congr 1
    simp [List.getD, h.1]
  | [], _ :: _, h => h.elim
  | _ :: _, [], h => h.elim
theorem aVs_tk {ρ ρ' : List jv} {ids : List Nat} (hi : ∀ i ∈ ids, i < ρ.length) (h : ρ'.take ids.length = aVal ρ ids) : ∀ {is : List Nat} {vs : List jv}, is.all (fun i => decide (i < ids.length)) = true → aVs ρ' is = some vs → aVs ρ (is.map (fun i => ids.getD i 0)) = some vs
  | [], vs, _, hv => hv
  | i :: r, vs, ha, hv => by
    rw [List.all_cons, Bool.and_eq_true] at ha
    have hl : i < ids.length := of_decide_eq_true ha.1
    obtain ⟨v, s, e1, e2, rfl⟩ := aVs_cons hv
    have h1 := aVs_tk hi h ha.2 e2
    have e3 : ids.getD i 0 = ids[i] := by simp [List.getD, List.getElem?_eq_getElem hl]
    have h2 : (ρ'.take ids.length)[i]? = some v := by rw [List.getElem?_take_of_lt hl]; exact e1
    rw [h] at h2
    unfold aVal at h2
    rw [List.getElem?_map, List.getElem?_eq_getElem hl] at h2
    have hb : ids[i] < ρ.length := hi _ (List.getElem_mem hl)
    have e4 : ρ[ids[i]]? = some v := by
      rw [List.getElem?_eq_getElem hb]
      simpa [List.getD, List.getElem?_eq_getElem hb] using h2
    rw [List.map_cons, e3]
    unfold aVs
    rw [e4, h1]
theorem aGh4_ok {J : jN} {RU : List aCon} (hU : ∀ G ∈ RU, aGho F m.2.1.1 K n JX G) (hS : aShf F sh) (hD : aDp F K n m.2.1.2.2.2.2.2.1) (hDT : aDT m.2.1.2.2.2.2.2.1 m.2.1.1 = true) (hE : m.2.1.2.2.2.2.2.2 = ρ0.length) {g : Nat × Nat × List aSc2 × List Nat} {pc : Nat} {S : aS} {L : List (Nat × aS)} (hb : aGh4 m.2.1 RU g pc S = some L) {ρ : List jv} (hx0 : aX ρ0 ρ) {lv : List (Option jv)} {st : List jv} {σ : Nat → jcell} (hc : aCx (aFq F pe) (aHp m.2.1 K n JX ρ0 σ0) K n S ρ lv st σ) (h : aNx (aFq F pe) (aHp m.2.1 K n JX ρ0 σ0) K n J ρ L) : J pc lv st σ := by
  unfold aGh4 at hb
  split at hb
  next G hG =>
    split at hb
    next z3 =>
      split at hb
      next z hz =>
        split at hb
        next hl =>
          obtain ⟨l1, l2, l3, l4, l5⟩ := hl
          cases hb
          obtain ⟨⟨ex, hm⟩, ρ1, x1, c1⟩ := aMp_ok hz hc
          obtain ⟨L5, hL5⟩ := Option.isSome_iff_exists.mp l5
          have hin0 : ∀ i ∈ g.2.2.2.map (fun i => z.2.getD i 0), i < ρ1.length := fun i hi => by
            obtain ⟨k, k1, rfl⟩ := List.mem_map.mp hi
            have k2 : k < z.2.length := of_decide_eq_true (List.all_eq_true.mp l1 k k1)
            have k3 : z.2.getD k 0 = z.2[k] := by simp [List.getD, List.getElem?_eq_getElem k2]
            rw [k3, c1.1.1]
            exact of_decide_eq_true (List.all_eq_true.mp l2 _ (List.getElem_mem k2))
          have hin : ∀ i ∈ (g.2.2.2.map (fun i => z.2.getD i 0)).reverse, i < ρ1.length := fun i hi => hin0 i (List.mem_reverse.mp hi)
          obtain ⟨sv, s1, s2⟩ := aSk_of hin
          obtain ⟨vs, s, ρ2, mm, pc1, e0, v1, v2, v3, v4, v5, v6⟩ := aCall_ok (aFq_sh hS pe) (aFq_dp hD pe) hDT hE hL5 (hx0.tr x1) (S := (z.1.1, (g.2.2.2.map (fun i => z.2.getD i 0)).reverse ++ z.1.2.1, z.1.2.2.1, z.1.2.2.2)) (ρ := ρ1) (lv := lv) (st := sv ++ st) (σ := σ) ⟨c1.1, c1.2.1, aSk_app s1 c1.2.2.1, c1.2.2.2⟩
          obtain ⟨n1, n2⟩ := aCall_no hL5
          have hlen : sv.length = vs.length := by rw [s2, v1]; show _ = G.2.2.1; rw [z3]; simp
          obtain ⟨rfl, rfl⟩ := List.append_inj e0 hlen
          obtain ⟨p8, xs, -, -, ⟨-, -, -, g1⟩, -⟩ := hU G (List.mem_of_getElem? hG) pc1 σ (aVal ρ2 mm) hc.2.2.2.2.1 hc.2.2.2.2.2.1 v3 ((aFq_mm n1).mp v4)
          obtain ⟨p9, m1, m2, m3, m4⟩ := c1.2.2.2.1
          have htk : (aVal ρ2 mm).take (g.2.2.2.map (fun i => z.2.getD i 0)).length = aVal ρ1 (g.2.2.2.map (fun i => z.2.getD i 0)) := by
            replace v5 : (aVal ρ2 mm).take G.2.2.1 = sv.reverse := v5
            rw [List.length_map, ← z3, v5, aSk_vl s1]
            unfold aVal
            rw [← List.map_reverse, List.reverse_reverse]
          have hle : (g.2.2.2.map (fun i => z.2.getD i 0)).length ≤ (aVal ρ2 mm).length := by
            have h7 := congrArg List.length htk
            rw [List.length_take] at h7
            have h8 : (aVal ρ1 (g.2.2.2.map (fun i => z.2.getD i 0))).length = (g.2.2.2.map (fun i => z.2.getD i 0)).length := by unfold aVal; rw [List.length_map]
            omega
          have htk2 : (aVal ρ2 mm ++ xs).take (g.2.2.2.map (fun i => z.2.getD i 0)).length = aVal ρ1 (g.2.2.2.map (fun i => z.2.getD i 0)) := by rw [List.take_append_of_le_length hle]; exact htk
          refine h (pc, _) List.mem_cons_self ρ1 lv st σ x1 ⟨c1.1, c1.2.1, c1.2.2.1, ⟨p8, m1, m2, m3, fun q hq => ?_⟩, c1.2.2.2.2⟩
          rcases List.mem_append.mp hq with hq | hq
          · obtain ⟨q0, hq0, rfl⟩ := List.mem_map.mp hq
            obtain ⟨ws, w1, w2⟩ := g1 q0 hq0
            refine ⟨ws, aVs_tk hin0 htk2 (by have h7 := List.all_eq_true.mp l3 q0 hq0; simpa using h7) w1, ?_⟩
            have h0 : ¬ q0.1 = 0 := (by have h7 := List.all_eq_true.mp l4 q0 hq0; unfold aGr at h7; rw [Bool.and_eq_true] at h7; exact of_decide_eq_true h7.1)
            unfold aFq
            rw [if_neg h0]
            exact w2
          · obtain ⟨h1, h2⟩ := List.mem_filter.mp hq
            obtain ⟨ws, w1, w2⟩ := m4 q h1
            exact ⟨ws, w1, (aFq_sh hS pe).2 p9 p8 q.1 ws σ h2 w2⟩
        next => cases hb
      next => cases hb
    next => cases hb
  next => cases hb
theorem aGh4_pc {C : aCf} {RU : List aCon} {g : Nat × Nat × List aSc2 × List Nat} {pc : Nat} {S : aS} {L : List (Nat × aS)} (hb : aGh4 C RU g pc S = some L) : ∀ q ∈ L, q.1 = pc := by
  intro q hq
  unfold aGh4 at hb
  split at hb
  next =>
    split at hb
    next =>
      split at hb
      next =>
        split at hb
        next => cases hb; rw [List.mem_singleton] at hq; subst hq; rfl
        next => cases hb
      next => cases hb
    next => cases hb
  next => cases hb
theorem aGh1_pc {C : aCf} {RU : List aCon} {g : Nat × Nat × List aSc2 × List Nat} {pc : Nat} {S : aS} {L : List (Nat × aS)} (hb : aGh1 C RU g pc S = some L) : ∀ q ∈ L, q.1 = pc := by
  intro q hq
  unfold aGh1 at hb
  split at hb
  next =>
    split at hb
    next =>
      split at hb
      next =>
        split at hb
        next =>
          unfold aCall at hb
          split at hb
          next =>
            split at hb
            next =>
              split at hb
              next =>
                split at hb
                next =>
                  cases hb
                  obtain ⟨A, -, h2⟩ := List.mem_flatMap.mp hq
                  exact aBs_pc q h2
                next => cases hb
              next => cases hb
            next => cases hb
          next => cases hb
        next => cases hb
      next => cases hb
    next => cases hb
  next => cases hb
theorem aGh2_pc {C : aCf} {RU : List aCon} {g : Nat × Nat × List aSc2 × List Nat} {pc : Nat} {S : aS} {L : List (Nat × aS)} (hb : aGh2 C RU g pc S = some L) : ∀ q ∈ L, q.1 = pc := by
  unfold aGh2 at hb
  split at hb
  next => exact aGh1_pc hb
  next =>
    split at hb
    next =>
      split at hb
      next L' h =>
        cases hb
        split at h
        · exact aGh1_pc h
        · cases h
      next =>
        cases hb
        intro q hq
        rw [List.mem_singleton] at hq
        subst hq
        rfl
    next =>
      split at hb
      next => exact aGh1_pc hb
      next => exact aGh4_pc hb
theorem aGh2_ok {J : jN} {RU : List aCon} (hU : ∀ G ∈ RU, aGho F m.2.1.1 K n JX G) (hS : aShf F sh) (hD : aDp F K n m.2.1.2.2.2.2.2.1) (hDT : aDT m.2.1.2.2.2.2.2.1 m.2.1.1 = true) (hE : m.2.1.2.2.2.2.2.2 = ρ0.length) {g : Nat × Nat × List aSc2 × List Nat} {pc : Nat} {S : aS} {L : List (Nat × aS)} (hb : aGh2 m.2.1 RU g pc S = some L) {ρ : List jv} (hx0 : aX ρ0 ρ) {lv : List (Option jv)} {st : List jv} {σ : Nat → jcell} (hc : aCx (aFq F pe) (aHp m.2.1 K n JX ρ0 σ0) K n S ρ lv st σ) (h : aNx (aFq F pe) (aHp m.2.1 K n JX ρ0 σ0) K n J ρ L) : J pc lv st σ := by
  unfold aGh2 at hb
  split at hb
  next => exact aGh1_ok hU hS hD hDT hE hb hx0 hc h
  next =>
    split at hb
    next =>
      split at hb
      next L' h' =>
        cases hb
        split at h'
        · exact aGh1_ok hU hS hD hDT hE h' hx0 hc h
        · cases h'
      next =>
        cases hb
        exact h (pc, S) List.mem_cons_self ρ lv st σ aX_rf hc
    next =>
      split at hb
      next => exact aGh1_ok hU hS hD hDT hE hb hx0 hc h
      next => exact aGh4_ok hU hS hD hDT hE hb hx0 hc h
theorem aCat_in {f : aS → Option (List (Nat × aS))} : ∀ {L0 L : List (Nat × aS)}, aCat f L0 = some L → ∀ z ∈ L, ∃ q ∈ L0, ∃ Lq, f q.2 = some Lq ∧ z ∈ Lq
  | [], L, h, z, hz => by unfold aCat at h; cases h; cases hz
  | q0 :: r, L, h, z, hz => by
    unfold aCat at h
    split at h
    next a b ha hb =>
      cases h
      rcases List.mem_append.mp hz with hz | hz
      · exact ⟨q0, List.mem_cons_self, a, ha, hz⟩
      · obtain ⟨q, q1, Lq, q2, q3⟩ := aCat_in hb z hz
        exact ⟨q, List.mem_cons_of_mem _ q1, Lq, q2, q3⟩
    next => cases h
theorem aGhs_ok {J : jN} {RU : List aCon} (hU : ∀ G ∈ RU, aGho F m.2.1.1 K n JX G) (hS : aShf F sh) (hD : aDp F K n m.2.1.2.2.2.2.2.1) (hDT : aDT m.2.1.2.2.2.2.2.1 m.2.1.1 = true) (hE : m.2.1.2.2.2.2.2.2 = ρ0.length) {pc : Nat} {lv : List (Option jv)} {st : List jv} {σ : Nat → jcell} {ρb : List jv} (hxb : aX ρ0 ρb) : ∀ {gs : List (Nat × Nat × List aSc2 × List Nat)} {L0 L : List (Nat × aS)}, aGhs m.2.1 RU pc gs L0 = some L → (∀ q ∈ L0, q.1 = pc) → aNx (aFq F pe) (aHp m.2.1 K n JX ρ0 σ0) K n J ρb L → aNx (aFq F pe) (aHp m.2.1 K n JX ρ0 σ0) K n J ρb L0
  | [], L0, L, h, _, hj => by unfold aGhs at h; cases h; exact hj
  | g :: r, L0, L, h, h0, hj => by
    unfold aGhs at h
    split at h
    next =>
      split at h
      next L' hL' =>
        have hpc : ∀ q ∈ L', q.1 = pc := fun z hz => by
          obtain ⟨q, q1, Lq, q2, q3⟩ := aCat_in hL' z hz
          exact aGh2_pc q2 z q3
        have ih := aGhs_ok (lv := lv) (st := st) (σ := σ) hU hS hD hDT hE hxb h hpc hj
        intro q hq ρ' lv' st' σ' hx hc'
        obtain ⟨Lq, e1, e2⟩ := aCat_ok hL' q hq
        rw [h0 q hq]
        exact aGh2_ok hU hS hD hDT hE e1 (hxb.tr hx) hc' (fun z hz ρ2 lv2 st2 σ2 hx2 hc2 => ih z (e2 z hz) ρ2 lv2 st2 σ2 (hx.tr hx2) hc2)
      next => cases h
    next => exact aGhs_ok (lv := lv) (st := st) (σ := σ) hU hS hD hDT hE hxb h h0 hj
theorem aGhs_pc {C : aCf} {RU : List aCon} {pc : Nat} : ∀ {gs : List (Nat × Nat × List aSc2 × List Nat)} {L0 L : List (Nat × aS)}, aGhs C RU pc gs L0 = some L → (∀ q ∈ L0, q.1 = pc) → ∀ q ∈ L, q.1 = pc := by
  intro gs
  induction gs with
  | nil => intro L0 L h h0; unfold aGhs at h; cases h; exact h0
  | cons g r ih =>
    intro L0 L h h0
    unfold aGhs at h
    split at h
    next =>
      split at h
      next L' hL' =>
        refine ih h (fun z hz => ?_)
        obtain ⟨q, q1, Lq, q2, q3⟩ := aCat_in hL' z hz
        exact aGh2_pc q2 z q3
      next => cases h
    next => exact ih h h0
theorem aGk_ok {J : jN} (hU : ∀ G ∈ m.1.2.2.2.2.2.2.2.1, aGho F m.2.1.1 K n JX G) (hS : aShf F sh) (hD : aDp F K n m.2.1.2.2.2.2.2.1) (hDT : aDT m.2.1.2.2.2.2.2.1 m.2.1.1 = true) (hE : m.2.1.2.2.2.2.2.2 = ρ0.length) {pc : Nat} {S : aS} {k : aS → Bool} (hb : aGk m pc S k = true) {ρ : List jv} (hx0 : aX ρ0 ρ) {lv : List (Option jv)} {st : List jv} {σ : Nat → jcell} (hc : aCx (aFq F pe) (aHp m.2.1 K n JX ρ0 σ0) K n S ρ lv st σ) (h : ∀ (S' : aS), k S' = true → ∀ (ρ' : List jv) (lv' : List (Option jv)) (st' : List jv) (σ' : Nat → jcell), aX ρ ρ' → aCx (aFq F pe) (aHp m.2.1 K n JX ρ0 σ0) K n S' ρ' lv' st' σ' → J pc lv' st' σ') : J pc lv st σ := by
  unfold aGk at hb
  split at hb
  next =>
    split at hb
    next L hL =>
      have h9 := aGhs_ok (J := J) (lv := lv) (st := st) (σ := σ) hU hS hD hDT hE hx0 hL (fun q hq => by rw [List.mem_singleton] at hq; subst hq; rfl) (fun q hq ρ' lv' st' σ' hx hc' => by
        rw [aGhs_pc hL (fun q hq => by rw [List.mem_singleton] at hq; subst hq; rfl) q hq]
        have h8 := List.all_eq_true.mp hb q hq
        rw [aNS_e] at h8
        exact h q.2 h8 ρ' lv' st' σ' hx hc')
      exact h9 (pc, S) List.mem_cons_self ρ lv st σ aX_rf hc
    next => cases hb
  next => exact h S hb ρ lv st σ aX_rf hc
def aDef (ρ : List jv) (rk : List aF) : Prop := ∀ f ∈ rk, ∃ z, aEv ρ f.1 = some z
theorem aRn_mo {ρ ρ' : List jv} (hx : aX ρ ρ') {rk : List aF} (hd : aDef ρ rk) : rk.map (aRn ρ') = rk.map (aRn ρ) := by
  apply List.map_congr_left
  intro f hf
  obtain ⟨z, hz⟩ := hd f hf
  unfold aRn
  rw [hz, aEv_mo hx hz]
theorem aDef_mo {ρ ρ' : List jv} (hx : aX ρ ρ') {rk : List aF} (hd : aDef ρ rk) : aDef ρ' rk := fun f hf => by
  obtain ⟨z, hz⟩ := hd f hf
  exact ⟨z, aEv_mo hx hz⟩
theorem aEv_df {ρ : List jv} : ∀ {F : List (Nat × Int)}, F.all (fun q => decide (q.1 < ρ.length)) = true → ∃ z, aEv ρ F = some z
  | [], _ => ⟨0, rfl⟩
  | q :: r, h => by
    rw [List.all_cons, Bool.and_eq_true] at h
    obtain ⟨z, hz⟩ := aEv_df h.2
    have hi : q.1 < ρ.length := of_decide_eq_true h.1
    exact ⟨_, aEv_i (List.getElem?_eq_getElem hi) hz⟩
theorem aTo_ok {C : aCf} (hE : C.2.2.2.2.2.2 = ρ0.length) {rk0 : List aF} {c : aCu} {S : aS} (h : aTo C rk0 c S = true) {ρ : List jv} (hx0 : aX ρ0 ρ) (hd : aDef ρ rk0) {lv : List (Option jv)} {st : List jv} {σ : Nat → jcell} (hc : aCx F (aHp C K n JX ρ0 σ0) K n S ρ lv st σ) : ∃ ρ' : List jv, aX ρ0 ρ' ∧ aCx F (aHp C K n JX ρ0 σ0) K n c.2.1 ρ' lv st σ ∧ aLt (c.2.2.2.map (aRn ρ')) (rk0.map (aRn ρ)) := by
  unfold aTo at h
  split at h
  next z hz =>
    rw [Bool.and_eq_true] at h
    obtain ⟨⟨ex, hm⟩, ρ1, x1, c1⟩ := aMp_ok hz hc
    obtain ⟨c2, w2⟩ := aInB_ok h.1 c1
    obtain ⟨p9, m1, m2, m3, m4⟩ := c1.2.2.2.1
    have hr := aRs_ok c1.1 m3 w2 h.2
    rw [aRn_mo x1 hd] at hr
    refine ⟨aVal ρ1 z.2, fun i v hv => ?_, c2, hr⟩
    have hi := (List.getElem?_eq_some_iff.mp hv).1
    refine aVal_at (k := i) ?_ (x1 _ _ (hx0 _ _ hv))
    rw [hm, hE, List.getElem?_append_left (by simpa using hi), List.getElem?_range hi]
  next => cases h
theorem aRun_ok (hsp : ∀ q ∈ m.1.2.2.2.2.2.1, aSpP m.1.1 m.1.2.1 q) (hg : ∀ q ∈ m.1.2.2.2.2.1, ∀ G, m.2.2.1[q.2.2]? = some G → jlm m.1.2.1 q.2.1 m.1.1 q.1 G.1.1 = true) (hC : jCl m.1.2.1 m.1.2.2.1) (X : jX E m.1.1 m.1.2.1 m.1.2.2.1 tb nL ini cc M) (hl : M.2.1 = l) (hR : M.2.2.2.1 = m.2.2.2.1.2.2.2.2.2.2) (hrt : M.2.2.2.2.2.2.2.2.1.sig.returnType = m.1.2.2.2.1) (hG : ∀ G ∈ m.2.2.1, aGd m.1.2.1 G ∧ aMe F l E m.1.2.2.1 tb m.1.2.1 m.2.1.1 K n JX G) (hU : ∀ G ∈ m.1.2.2.2.2.2.2.2.1, aGho F m.2.1.1 K n JX G) (hT : aTB m.2.1.2.1 tb) (hJ : aJx K n m.2.1.2.2.1 JX) (hS : aShf F sh) (hD : aDp F K n m.2.1.2.2.2.2.2.1) (hDT : aDT m.2.1.2.2.2.2.2.1 m.2.1.1 = true) (hE : m.2.1.2.2.2.2.2.2 = ρ0.length) (hok : jokLQ m.1.1 m.1.2.1 m.1.2.2.1 tb nL ini cc 0 m.2.2.2.2.1 = true) {rk0 : List aF} {R0 : List Nat}
    (hI : ∀ c ∈ m.2.2.2.2.2, ∀ (ρ' : List jv) (lv' : List (Option jv)) (st' : List jv) (σ' : Nat → jcell), aLt (c.2.2.2.map (aRn ρ')) R0 → aX ρ0 ρ' → aCx (aFq F pe) (aHp m.2.1 K n JX ρ0 σ0) K n c.2.1 ρ' lv' st' σ' → jJ E m.1.2.2.1 nL M (jQ E m.1.2.2.1 M (aPo m.2.1 K n JX F pe ρ0 σ0 m.2.2.2.1) 0 0) n 0 0 c.1 lv' st' σ') : ∀ (f : Nat) (is : List jI) (pc : Nat) (S : aS) (ρ : List jv) (lv : List (Option jv)) (st : List jv) (σ : Nat → jcell), aRun m rk0 f is pc S = true → jokLQ m.1.1 m.1.2.1 m.1.2.2.1 tb nL ini cc pc is = true → aX ρ0 ρ → aDef ρ rk0 → rk0.map (aRn ρ) = R0 → aCx (aFq F pe) (aHp m.2.1 K n JX ρ0 σ0) K n S ρ lv st σ → jJ E m.1.2.2.1 nL M (jQ E m.1.2.2.1 M (aPo m.2.1 K n JX F pe ρ0 σ0 m.2.2.2.1) 0 0) n 0 0 pc lv st σ
  | 0, _, _, _, _, _, _, _, h, _, _, _, _, _ => by unfold aRun at h; cases h
  | _ + 1, [], _, _, _, _, _, _, h, _, _, _, _, _ => by unfold aRun at h; cases h
  | f + 1, x :: r, pc, S, ρ, lv, st, σ, h, hk, hx0, hdf, hr0, hc => by
    have hk2 : jokQ m.1.1 m.1.2.1 m.1.2.2.1 tb nL ini cc pc x = true ∧ jokLQ m.1.1 m.1.2.1 m.1.2.2.1 tb nL ini cc (pc + x.2.1) r = true := by
      have h9 := hk
      unfold jokLQ at h9
      rwa [Bool.and_eq_true] at h9
    unfold aRun at h
    refine aGk_ok hU hS hD hDT hE h hx0 hc (fun S9 h ρ9 lv9 st9 σ9 hx9 hc9 => ?_)
    have hdf := aDef_mo hx9 hdf
    have hr0 : rk0.map (aRn ρ9) = R0 := (aRn_mo hx9 ‹aDef ρ rk0›).trans hr0
    have hx0 := hx0.tr hx9
    have hc := hc9
    rw [Bool.or_eq_true] at h
    rcases h with h | h
    · rw [Bool.and_eq_true] at h
      exact aRet_ok hS.2 hE X hrt (jokQ_n hk2.1 (by have := h.1; simpa using this)) h.2 hx0 hc
    · split at h
      next L hL =>
        have hstep : ∀ (S : aS) (L : List (Nat × aS)) (ρ : List jv) (lv : List (Option jv)) (st : List jv) (σ : Nat → jcell), aNe2 m x pc S = some L → aX ρ0 ρ → aCx (aFq F pe) (aHp m.2.1 K n JX ρ0 σ0) K n S ρ lv st σ → aNx (aFq F pe) (aHp m.2.1 K n JX ρ0 σ0) K n (jJ E m.1.2.2.1 nL M (jQ E m.1.2.2.1 M (aPo m.2.1 K n JX F pe ρ0 σ0 m.2.2.2.1) 0 0) n 0 0) ρ L → jJ E m.1.2.2.1 nL M (jQ E m.1.2.2.1 M (aPo m.2.1 K n JX F pe ρ0 σ0 m.2.2.2.1) 0 0) n 0 0 pc lv st σ := by
          intro S L ρ lv st σ hL hx0 hc
          unfold aNe2 at hL
          split at hL
          next =>
            have hd9 := hk2.1
            unfold jokQ at hd9
            rw [Bool.and_eq_true, decide_eq_true_eq] at hd9
            exact aSpe_ok ⟨Nat.zero_le _, Nat.zero_le _⟩ ⟨Nat.le_refl _, Nat.le_refl _⟩ hsp hg hC X hl hR hG hT hJ hS hD hDT hE hd9.1 hL hx0 hc
          next hn => exact aNe_ok ⟨Nat.zero_le _, Nat.zero_le _⟩ ⟨Nat.le_refl _, Nat.le_refl _⟩ hg hC X hl hR hG hT hJ hS hD hDT hE (jokQ_n hk2.1 hn) hL hx0 hc
        refine aNe3_ok hstep hL hx0 hc (fun q hq ρ' lv' st' σ' hx hc' => ?_)
        have h1 := List.all_eq_true.mp h q hq
        rw [aNn_e, aNy_e] at h1
        have hdf' := aDef_mo hx hdf
        have hr0' : rk0.map (aRn ρ') = R0 := (aRn_mo hx hdf).trans hr0
        have hx0' := hx0.tr hx
        split at h1
        next =>
          obtain ⟨c, k1, k3⟩ := List.any_eq_true.mp h1
          rw [Bool.and_eq_true] at k3
          have k2 := Nat.eq_of_beq_eq_true k3.1
          obtain ⟨ρ2, g0, g1, g2⟩ := aTo_ok hE k3.2 hx0' hdf' hc'
          rw [hr0'] at g2
          rw [← k2]
          exact hI c k1 ρ2 lv' st' σ' g2 g0 g1
        next =>
          split at h1
          next e =>
            rw [e] at h1 ⊢
            exact aRun_ok hsp hg hC X hl hR hrt hG hU hT hJ hS hD hDT hE hok hI f r _ _ ρ' lv' st' σ' h1 hk2.2 hx0' hdf' hr0' hc'
          next =>
            split at h1
            next is2 hs2 => exact aRun_ok hsp hg hC X hl hR hrt hG hU hT hJ hS hD hDT hE hok hI f is2 _ _ ρ' lv' st' σ' h1 (aSuf_ok hok hs2) hx0' hdf' hr0' hc'
            next => cases h1
      next => cases h
theorem aChk_ok {f : Nat} (hsp : ∀ q ∈ m.1.2.2.2.2.2.1, aSpP m.1.1 m.1.2.1 q) (hg : ∀ q ∈ m.1.2.2.2.2.1, ∀ G, m.2.2.1[q.2.2]? = some G → jlm m.1.2.1 q.2.1 m.1.1 q.1 G.1.1 = true) (hC : jCl m.1.2.1 m.1.2.2.1) (X : jX E m.1.1 m.1.2.1 m.1.2.2.1 tb nL ini cc M) (hl : M.2.1 = l) (hR : M.2.2.2.1 = m.2.2.2.1.2.2.2.2.2.2) (hrt : M.2.2.2.2.2.2.2.2.1.sig.returnType = m.1.2.2.2.1) (hG : ∀ G ∈ m.2.2.1, aGd m.1.2.1 G ∧ aMe F l E m.1.2.2.1 tb m.1.2.1 m.2.1.1 K n JX G) (hU : ∀ G ∈ m.1.2.2.2.2.2.2.2.1, aGho F m.2.1.1 K n JX G) (hT : aTB m.2.1.2.1 tb) (hJ : aJx K n m.2.1.2.2.1 JX) (hS : aShf F sh) (hD : aDp F K n m.2.1.2.2.2.2.2.1) (hDT : aDT m.2.1.2.2.2.2.2.1 m.2.1.1 = true) (hE : m.2.1.2.2.2.2.2.2 = ρ0.length) (hok : jokLQ m.1.1 m.1.2.1 m.1.2.2.1 tb nL ini cc 0 m.2.2.2.2.1 = true) (hch : m.2.2.2.2.2.all (fun c => aRo c.2.1.2.2.1.length c.2.2.2 && (match aSuf m.2.2.2.2.1 0 c.1 with
  | some is => aRun m c.2.2.2 f is c.1 c.2.1
  | none => false)) = true) : ∀ (R : List Nat), ∀ c ∈ m.2.2.2.2.2, ∀ (ρ : List jv) (lv : List (Option jv)) (st : List jv) (σ : Nat → jcell), c.2.2.2.map (aRn ρ) = R → aX ρ0 ρ → aCx (aFq F pe) (aHp m.2.1 K n JX ρ0 σ0) K n c.2.1 ρ lv st σ → jJ E m.1.2.2.1 nL M (jQ E m.1.2.2.1 M (aPo m.2.1 K n JX F pe ρ0 σ0 m.2.2.2.1) 0 0) n 0 0 c.1 lv st σ := by
  intro R
  induction aLt_acc R.length R rfl with
  | intro R _ ih =>
    intro c hcm ρ lv st σ hR0 hx0 hc
    have h1 := List.all_eq_true.mp hch c hcm
    rw [Bool.and_eq_true] at h1
    obtain ⟨h1, h2⟩ := h1
    split at h2
    next is hs =>
      refine aRun_ok hsp hg hC X hl hR hrt hG hU hT hJ hS hD hDT hE hok (R0 := R) (fun c2 hc2 ρ' lv' st' σ' hlt hx hcx => ih _ hlt c2 hc2 ρ' lv' st' σ' rfl hx hcx) f is c.1 c.2.1 ρ lv st σ h2 (aSuf_ok hok hs) hx0 (fun g hg => ?_) hR0 hc
      exact aEv_df (by rw [hc.1.1]; exact List.all_eq_true.mp h1 g hg)
    next => cases h2
theorem aIsL_cat {t : aT} {v : jv} (h : aG K n t v) : aIsL t = true ↔ jcat v = 2 := by
  rcases t with q | _ | q
  · obtain ⟨x, rfl, -⟩ := aG_int h; simp [aIsL, jcat]
  · obtain ⟨x, rfl⟩ := aG_lng h; simp [aIsL, jcat]
  · rcases v with x | x | x
    · rcases q with q | q <;> exact h.elim
    · rcases q with q | q <;> exact h.elim
    · simp [aIsL, jcat]
theorem aEnt_ok {E : jE} : ∀ {ts : List aT} {vs : List jv} (i : Nat), aAG K n ts vs → (aEnt ts i).length = (jar vs).length ∧ (lg_sl (vs.map (jc E))).length = (aEnt ts i).length ∧ ∀ (j k : Nat), (aEnt ts i)[j]? = some (some k) → ∃ v : jv, i ≤ k ∧ vs[k - i]? = some v ∧ (jar vs)[j]? = some (some v)
  | [], [], _, _ => ⟨rfl, by simp [lg_sl, aEnt], fun j k h => by simp [aEnt] at h⟩
  | [], _ :: _, _, h => h.elim
  | _ :: _, [], _, h => h.elim
  | t :: ts, v :: vs, i, h => by
    obtain ⟨i1, i2, i3⟩ := aEnt_ok (E := E) (i + 1) h.2
    have hc := aIsL_cat h.1
    have step : ∀ (j k : Nat), (aEnt ts (i + 1))[j]? = some (some k) → ∃ w : jv, i ≤ k ∧ (v :: vs)[k - i]? = some w ∧ (jar vs)[j]? = some (some w) := fun j k hk => by
      obtain ⟨w, w1, w2, w3⟩ := i3 j k hk
      refine ⟨w, by omega, ?_, w3⟩
      rw [show k - i = (k - (i + 1)) + 1 by omega]
      simpa using w2
    have hcat := jc_cat E v
    by_cases hl : aIsL t = true
    · have h2 := hc.mp hl
      rw [h2] at hcat
      unfold aEnt jar
      rw [if_pos hl, if_pos h2]
      refine ⟨by simp [i1], ?_, fun j k hk => ?_⟩
      · have e : lg_sl ((v :: vs).map (jc E)) = [.val (jc E v), .second] ++ lg_sl (vs.map (jc E)) := by simp [lg_sl, hcat]
        rw [e]
        simp only [List.length_append, List.length_cons, List.length_nil]
        omega
      · match j, hk with
        | 0, hk => cases hk; exact ⟨v, Nat.le_refl _, by simp, rfl⟩
        | 1, hk => simp at hk
        | j + 2, hk =>
          obtain ⟨w, w1, w2, w3⟩ := step j k (by simpa using hk)
          exact ⟨w, w1, w2, by simpa using w3⟩
    · have h2 : ¬ jcat v = 2 := fun q => hl (hc.mpr q)
      have hcat2 : ¬ (jc E v).category = 2 := by rw [hcat]; exact h2
      unfold aEnt jar
      rw [if_neg hl, if_neg h2]
      refine ⟨by simp [i1], ?_, fun j k hk => ?_⟩
      · have e : lg_sl ((v :: vs).map (jc E)) = [.val (jc E v)] ++ lg_sl (vs.map (jc E)) := by simp [lg_sl, hcat2]
        rw [e]
        simp only [List.length_append, List.length_cons, List.length_nil]
        omega
      · match j, hk with
        | 0, hk => cases hk; exact ⟨v, Nat.le_refl _, by simp, rfl⟩
        | j + 1, hk =>
          obtain ⟨w, w1, w2, w3⟩ := step j k (by simpa using hk)
          exact ⟨w, w1, w2, by simpa using w3⟩
theorem aAG_at : ∀ {ts : List aT} {vs : List jv}, aAG K n ts vs → ∀ (i : Nat) (t : aT) (v : jv), ts[i]? = some t → vs[i]? = some v → aG K n t v
  | [], [], _, i, t, v, h, _ => by simp at h
  | _ :: _, _ :: _, h, 0, _, _, h1, h2 => by cases h1; cases h2; exact h.1
  | _ :: _, _ :: _, h, i + 1, t, v, h1, h2 => aAG_at h.2 i t v (by simpa using h1) (by simpa using h2)
  | [], _ :: _, h, _, _, _, _, _ => h.elim
  | _ :: _, [], h, _, _, _, _, _ => h.elim
theorem aAG_of : ∀ {es : List aE} {ρ : List jv}, ρ.length = es.length → (∀ (i : Nat) (e : aE) (v : jv), es[i]? = some e → ρ[i]? = some v → aG K n e.1 v) → aAG K n (es.map (·.1)) ρ
  | [], [], _, _ => trivial
  | [], _ :: _, h, _ => by simp at h
  | _ :: _, [], h, _ => by simp at h
  | e :: es, v :: ρ, h, hh => ⟨hh 0 e v rfl rfl, aAG_of (by simpa using h) (fun i e1 v1 h1 h2 => hh (i + 1) e1 v1 (by simpa using h1) (by simpa using h2))⟩
/-- a method of the check keeps its contract -/
theorem aMe_of {f : Nat} {g : Nat → Option Jvm.Cond} {L : jLk} {own nm ds : String} {ret : Option FieldType} (hY : m.2.2.2.1.1 = (⟨own, nm, ds⟩, cc, nL, ret)) (hm1 : m.1.1 = own) (hm2 : m.1.2.2.2.1 = ret) (hrc : m.2.2.2.1.2.2.2.2.2.2.cells = 0) (hrs : m.2.2.2.1.2.2.2.2.2.2.slots = 0) (hy : plainName own = true)
    (hgg : ∀ i w, g i = some w → m.1.2.1[i]? = some w) (hL : jLkOk m.1.1 m.1.2.1 m.1.2.2.1 tb L) (hsp : ∀ q ∈ m.1.2.2.2.2.2.1, aSpP m.1.1 m.1.2.1 q) (hg : ∀ q ∈ m.1.2.2.2.2.1, ∀ G, m.2.2.1[q.2.2]? = some G → jlm m.1.2.1 q.2.1 m.1.1 q.1 G.1.1 = true) (hC : jCl m.1.2.1 m.1.2.2.1) (hG : ∀ G ∈ m.2.2.1, aGd m.1.2.1 G ∧ aMe F l E m.1.2.2.1 tb m.1.2.1 m.2.1.1 K n JX G) (hU : ∀ G ∈ m.1.2.2.2.2.2.2.2.1, aGho F m.2.1.1 K n JX G) (hT : aTB m.2.1.2.1 tb) (hJ : aJx K n m.2.1.2.2.1 JX) (hS : aShf F sh) (hD : aDp F K n m.2.1.2.2.2.2.2.1) (hok : jokLG g L m.1.1 m.1.2.2.1 tb nL cc 0 m.2.2.2.2.1 = true) (hch : aChk m f = true) {rk : List aF} (hc0 : (0, aEn m.2.2.2.1, [], rk) ∈ m.2.2.2.2.2) : aMe F l E m.1.2.2.1 tb m.1.2.1 m.2.1.1 K n JX m.2.2.2.1 := by
  intro p σ ρ hH hX hA hM
  unfold aChk at hch
  rw [Bool.and_eq_true] at hch
  obtain ⟨h0, h1⟩ := hch
  simp only [aOkc, Bool.and_eq_true, decide_eq_true_eq] at h0
  obtain ⟨o1, o2, o3, o4, o5, o6, o7, o8⟩ := h0
  have hlr : ρ.length = m.2.2.2.1.2.2.2.1.1.length := hA.1
  have hAG : aAG K n ((m.2.2.2.1.2.2.2.1.1.take m.2.2.2.1.2.2.1).map (·.1)) (ρ.take m.2.2.2.1.2.2.1) := by
    refine aAG_of (by rw [List.length_take, List.length_take, hlr]) (fun i e v he hv => ?_)
    have hi : i < m.2.2.2.1.2.2.1 := by
      have := (List.getElem?_eq_some_iff.mp he).1
      rw [List.length_take] at this
      omega
    rw [List.getElem?_take_of_lt hi] at he hv
    exact (hA.2 i e v he hv).1
  obtain ⟨e1, e2, e3⟩ := aEnt_ok (E := E) 0 hAG
  have hnl : m.2.2.2.1.1.2.2.1 = nL := by rw [hY]
  have hcx : aCx (aFq F p) (aHp m.2.1 K n JX ρ σ) K n (aEn m.2.2.2.1) ρ (jent (ρ.take m.2.2.2.1.2.2.1) nL) [] σ := by
    refine ⟨hA, ⟨?_, fun i k hk => ?_⟩, trivial, ⟨p, hM.1, fun q hq => (by cases hq), hM.2.2.1, fun q hq => ?_⟩, hH, hX, aFr_rf, aFa_rf⟩
    · unfold aEn jent
      simp only [List.length_append, List.length_replicate]
      rw [e1, hnl]
    · unfold aEn at hk
      dsimp only at hk
      by_cases hi : i < (aEnt ((m.2.2.2.1.2.2.2.1.1.take m.2.2.2.1.2.2.1).map (·.1)) 0).length
      · rw [List.getElem?_append_left hi] at hk
        obtain ⟨v, -, v2, v3⟩ := e3 i k hk
        have hk2 : k - 0 < m.2.2.2.1.2.2.1 := by
          have := (List.getElem?_eq_some_iff.mp v2).1
          rw [List.length_take] at this
          omega
        rw [List.getElem?_take_of_lt hk2] at v2
        refine ⟨v, by simpa using v2, ?_⟩
        unfold jent
        rw [List.getElem?_append_left (by rw [← e1]; exact hi)]
        exact v3
      · rw [List.getElem?_append_right (by omega), List.getElem?_replicate] at hk
        split at hk <;> simp at hk
    · rcases List.mem_cons.mp hq with rfl | hq
      · exact ⟨[], rfl, rfl⟩
      · exact ((aFq_mm o6).mpr hM).2.2.2 q hq
  have hln : (lg_sl ((ρ.take m.2.2.2.1.2.2.1).map (jc E))).length ≤ nL := by rw [e2, ← hnl]; exact o8
  refine jMet_of hY false (fun h => (by cases h)) hy hln (jent (ρ.take m.2.2.2.1.2.2.1) nL) rfl ?_
  intro M hl hR X hr
  rw [← hm1] at X
  have h9 := aChk_ok (σ0 := σ) (K := K) (n := n) (JX := JX) (pe := p) hsp hg hC X hl hR (hr.trans hm2.symm) hG hU hT hJ hS hD o4 (o3.trans hlr.symm) (jokLG_ok hgg hL hok) h1 _ _ hc0 ρ (jent (ρ.take m.2.2.2.1.2.2.1) nL) [] σ rfl aX_rf hcx
  rw [hrc, hrs]
  unfold aPo at h9
  rw [o1, o2] at h9
  exact h9
end ASR
/-! rows of static things, for the print -/
theorem aSp_1 {own : String} {Ts : List Jvm.Cond} {i j : Nat} {tx : String} (h : (own, i, tx, j) ∈ js0.2.2.2.2) : aSpP own Ts (1, i, 0, .inr j) := ⟨fun _ => ⟨tx, j, rfl, h⟩, fun h => (by cases h), fun h => (by cases h), fun h => (by cases h), fun h => (by cases h), fun h => (by cases h)⟩
theorem aSp_2 {own : String} {Ts : List Jvm.Cond} {i j : Nat} {tx : String} (h : (own, i, tx, j) ∈ js0.2.2.2.2) : aSpP own Ts (2, i, 0, .inr j) := ⟨fun h => (by cases h), fun _ => ⟨tx, j, rfl, h⟩, fun h => (by cases h), fun h => (by cases h), fun h => (by cases h), fun h => (by cases h)⟩
theorem aSp_3 {own : String} {Ts : List Jvm.Cond} {i : Nat} {v : Int32} (h : Jvm.Cond.constant own i v ∈ jTA Ts) : aSpP own Ts (3, i, 0, .inl v) := ⟨fun h => (by cases h), fun h => (by cases h), fun _ => ⟨v, rfl, h⟩, fun h => (by cases h), fun h => (by cases h), fun h => (by cases h)⟩
theorem aSp_4 {own : String} {Ts : List Jvm.Cond} {i : Nat} {a b c : String} {v : jSv} (hz : (a, b, c, v) ∈ js0.2.1) (h : Jvm.Cond.fieldLink own i a b c ∈ jTA Ts) : aSpP own Ts (4, i, 0, v) := ⟨fun h => (by cases h), fun h => (by cases h), fun h => (by cases h), fun _ => ⟨_, hz, rfl, h⟩, fun h => (by cases h), fun h => (by cases h)⟩
theorem aSp_5 {own : String} {Ts : List Jvm.Cond} {i o : Nat} {cn a b c : String} {fs : List (String × String × String × jSv)} {v : jSv} (ho : (o, cn, fs) ∈ js0.1) (hf : (a, b, c, v) ∈ fs) (h : Jvm.Cond.fieldLink own i a b c ∈ jTA Ts) : aSpP own Ts (5, i, o, v) := ⟨fun h => (by cases h), fun h => (by cases h), fun h => (by cases h), fun h => (by cases h), fun _ => ⟨_, ho, _, hf, rfl, rfl, h⟩, fun h => (by cases h)⟩
theorem aSp_6 {own : String} {Ts : List Jvm.Cond} {i : Nat} {v : jSv} (h1 : Jvm.Cond.methodLink own i arraycopyName ∈ jTA Ts) (h2 : Jvm.Cond.native arraycopyName ∈ jTA Ts) (h3 : Jvm.Cond.static arraycopyName ∈ jTA Ts) (h4 : Jvm.Cond.initialized "java/lang/System" ∈ jTA Ts) : aSpP own Ts (6, i, 0, v) := ⟨fun h => (by cases h), fun h => (by cases h), fun h => (by cases h), fun h => (by cases h), fun h => (by cases h), fun _ => ⟨h1, h2, h3, h4⟩⟩
def aCk1 (m : aMi) (f : Nat) (c : aCu) : Bool := aRo c.2.1.2.2.1.length c.2.2.2 && (match aSuf m.2.2.2.2.1 0 c.1 with
  | some is => aRun m c.2.2.2 f is c.1 c.2.1
  | none => false)
theorem aChk_1 {m : aMi} {f : Nat} (h0 : aOkc m.2.1 m.2.2.2.1 = true) (h : m.2.2.2.2.2.all (aCk1 m f) = true) : aChk m f = true := by
  unfold aChk
  rw [Bool.and_eq_true]
  exact ⟨h0, h⟩
theorem all_cat {α : Type} {p : α → Bool} {l : List α} (k : Nat) (h1 : (l.take k).all p = true) (h2 : (l.drop k).all p = true) : l.all p = true := by
  rw [← List.take_append_drop k l, List.all_append, h1, h2]
  rfl
theorem all_dr {α : Type} {p : α → Bool} {l : List α} (a b c : Nat) (hc : a + b = c) (h1 : ((l.drop a).take b).all p = true) (h2 : (l.drop c).all p = true) : (l.drop a).all p = true := by
  refine all_cat b h1 ?_
  rw [List.drop_drop, hc]
  exact h2
