/-! bytes copied from a static row -/
def aCpt (C : aCf) (rm : Room) (j0 n0 : Nat) (S : aS) (p : Nat) : Option (List (Nat × aS)) := match S.2.1 with
  | k :: dp :: d :: sp :: a :: r => (match aIv S.2.2.1 k, aIv S.2.2.1 dp, aIv S.2.2.1 sp, aAr C.1 S.2.2.1 d with
    | some A, some B, some D, some qd => if aTy S.2.2.1 a = some (.inr (some (.inr j0))) ∧ decide (qd.2.1 = .byte) = true ∧ aSb (-128, 127) qd.2.2.2.1 = true ∧ qd.2.2.2.2.isEmpty = true ∧ 0 ≤ A.1 ∧ 0 ≤ B.1 ∧ 0 ≤ D.1 ∧ aPr S.2.2.1 S.2.2.2.2.2.1 2 (aFp ([], (n0 : Int)) (aFp (aFm (-1) (aLi S.2.2.1 sp)) (aFm (-1) (aLi S.2.2.1 k)))) = true ∧ aPr S.2.2.1 S.2.2.2.2.2.1 2 (aFp ([], (qd.2.2.1 : Int)) (aFp (aFm (-1) (aLi S.2.2.1 dp)) (aFm (-1) (aLi S.2.2.1 k)))) = true ∧ ¬ qd.1 ∈ C.2.2.1 ∧ aWr C S.2.2.1 S.2.2.2.2.2.1 qd.1 (aLi S.2.2.1 dp) = true ∧ r.length ≤ 4 ∧ 1 ≤ rm.frames ∧ 8 + (nativeFrameWords "java/lang/System" "arraycopy" 5 + 11) ≤ rm.locals then some [(p, (S.1, r, S.2.2.1, (S.2.2.2.1, S.2.2.2.2.1.filter (aCk S.2.2.1 qd.1), S.2.2.2.2.2.1, S.2.2.2.2.2.2.filter (aFkl C.2.2.2.2.2.1 qd.1))))] else none
    | _, _, _, _ => none)
  | _ => none
section JAT
variable {E : jE} {own : String} {Ts : List Jvm.Cond} {cl : List vw_C} {tb : jTb} {nL : Nat} {ini : Bool} {cc : ByteArray} {M : jM} {Q : State → Prop} {n cells slots : Nat}
theorem jk_act (X : jX E own Ts cl tb nL ini cc M) {rm : Room} (hR : M.2.2.2.1 = rm) {pc i : Nat} (hd : decode cc pc = .ok (.invokestatic i, 3)) (hli : Jvm.Cond.methodLink own i arraycopyName ∈ jTA Ts) (hna : Jvm.Cond.native arraycopyName ∈ jTA Ts) (hst : Jvm.Cond.static arraycopyName ∈ jTA Ts) (hin : Jvm.Cond.initialized "java/lang/System" ∈ jTA Ts) {lv : List (Option jv)} {r : List jv} {σ : Nat → jcell} {j0 b1 n0 n1 : Nat} {f g : Nat → Int32} {s1 s2 s3 : String} (he0 : tb j0 = some (s1, s2, s3, .byte, n0, f)) (ha1 : b1 < n) (he1 : σ b1 = .inl (.byte, n1, .inl g)) {sp dp k : Int32} (h1 : ¬ sp < 0) (h2 : ¬ dp < 0) (h3 : ¬ k < 0) (h4 : sp.toNatClampNeg + k.toNatClampNeg ≤ n0) (h5 : dp.toNatClampNeg + k.toNatClampNeg ≤ n1) (hfit : ∀ j, j < k.toNatClampNeg → -128 ≤ (f (sp.toNatClampNeg + j)).toInt ∧ (f (sp.toNatClampNeg + j)).toInt ≤ 127) (hf : 1 ≤ rm.frames) (hz : (r.map jcat).sum ≤ 8) (hl : 8 + (nativeFrameWords "java/lang/System" "arraycopy" 5 + 11) ≤ rm.locals)
    (kk : jJ E cl nL M Q n cells slots (pc + 3) lv r (jup σ b1 (.inl (.byte, n1, .inl (va_cpy f g sp.toNatClampNeg dp.toNatClampNeg k.toNatClampNeg))))) : jJ E cl nL M Q n cells slots pc lv (.inl k :: .inl dp :: .inr (.inr (some (.inl b1))) :: .inl sp :: .inr (.inr (some (.inr j0))) :: r) σ := by
  obtain ⟨p, l, e, R, s, m, args, below, meth, c⟩ := M
  dsimp only at hR
  subst hR
  obtain ⟨hx, hb, hml, ho, hts, ⟨hK, hK2⟩, -⟩ := X
  intro H locs ls hW hS hL
  have hP1 := jW_one hW ha1 (by rw [he1]; simp only [jkn]; first | done | decide | assumption)
  rw [he1] at hP1
  obtain ⟨t0, ht0⟩ := jty_in (E := E) (t := .byte) (by decide)
  obtain ⟨cs, hc0, ⟨hns, q0, hq0, cm0, hqq0⟩, hun, hN, -, hsl, -⟩ := (hK2.1.1 j0 _ he0).2.kept hS.2.1
  dsimp only at hN hsl hqq0
  have hc1 : H[E.2.2.2 + b1]? = some (vp_cell (E.2.1 .byte) (n1, .inl g)) := hP1 0 _ rfl
  intro T hT X9
  obtain ⟨-, q1, hq1, cm1, hqq1⟩ := (hK.2 t0 _ ht0).1 n1 (fun j => .int (g j))
  have hsz : c.maxLocals = ls.size := by rw [hL.1]; exact hml
  obtain ⟨vm', X', step⟩ := X9.arraycopy hx ho (hts _ hli) (hts _ hna) (hts _ hst) (hts _ hin) (src := E.2.2.1 j0) (dst := E.2.2.2 + b1) (cs := cs) (cd := vp_cell (E.2.1 .byte) (n1, .inl g)) (srcPos := sp) (destPos := dp) (n := k) (by rw [hT]; exact hc0) (by rw [hT]; exact hc1)
    hns (fun _ h => by cases h) hun (fun h => by cases h) hq0 hq1 hqq0 hqq1 (by simp) h1 h2 h3
    (by rw [jac_nn sp h1, jac_nn k h3]; omega)
    (by rw [jac_nn dp h2, jac_nn k h3]; show ¬ _ > ((arrV (E.2.1 .byte) n1 (fun j => .int (g j))).slots.size : Int); rw [arrV_size]; omega)
    (fun vm1 _ j hj => by
      have e1 : cs.slots.getD (sp.toNatClampNeg + j) .null = .int (f (sp.toNatClampNeg + j)) := by
        rw [Array.getD_eq_getD_getElem?, hsl _ (by omega)]
        rfl
      rw [e1]
      refine ⟨?_, trivial⟩
      have h9 := hfit j hj
      have y1 : (-128 : Int32) ≤ f (sp.toNatClampNeg + j) := Int32.le_iff_toInt_le.mpr (by show (-128 : Int) ≤ _; exact h9.1)
      have y2 : f (sp.toNatClampNeg + j) ≤ (127 : Int32) := Int32.le_iff_toInt_le.mpr (by show _ ≤ (127 : Int); exact h9.2)
      show (decide _ && decide _) = true
      rw [Bool.and_eq_true, decide_eq_true_eq, decide_eq_true_eq]
      exact ⟨y1, y2⟩)
    (g := F0 m pc ls (.int k :: .int dp :: .ref (E.2.2.2 + b1) :: .int sp :: .ref (E.2.2.1 j0) :: r.map (jc E))) rfl (by rw [hsz]) (rest := r.map (jc E)) rfl (by rw [hb]; exact hd) hf (show 2 * 0 + ((r.map (jc E)).map fun v => v.category).sum + (nativeFrameWords "java/lang/System" "arraycopy" 5 + 11) ≤ R.locals from by have := jcat_sum E r; omega)
  have e1 : copied cs (vp_cell (E.2.1 .byte) (n1, .inl g)) sp dp k = vp_cell (E.2.1 .byte) (n1, .inl (va_cpy f g sp.toNatClampNeg dp.toNatClampNeg k.toNatClampNeg)) := va_copiedX (fun z => .int z) cs _ f g hsl h4
  rw [e1] at X' step
  have hlt : E.2.2.2 + b1 < H.size := (Array.getElem?_eq_some_iff.mp hc1).1
  have hheap : ((T.setVm vm').setCell (E.2.2.2 + b1) (vp_cell (E.2.1 .byte) (n1, .inl (va_cpy f g sp.toNatClampNeg dp.toNatClampNeg k.toNatClampNeg)))).heap = H.setIfInBounds (E.2.2.2 + b1) (vp_cell (E.2.1 .byte) (n1, .inl (va_cpy f g sp.toNatClampNeg dp.toNatClampNeg k.toNatClampNeg))) := by rw [← hT]; rfl
  have oq : ∀ q : Nat, q ≠ E.2.2.2 + b1 → (H.setIfInBounds (E.2.2.2 + b1) (vp_cell (E.2.1 .byte) (n1, .inl (va_cpy f g sp.toNatClampNeg dp.toNatClampNeg k.toNatClampNeg))))[q]? = H[q]? := fun q hq => by simp [Array.getElem?_setIfInBounds, Ne.symm hq]
  have hA : jA E (E.2.2.2 + b1) := Nat.le_add_right _ _
  obtain ⟨t, a1, a2⟩ := kk _ _ ls (jW_set hW (by simp) oq (by show (H.setIfInBounds _ _)[E.2.2.2 + b1]? = some _; simp [Array.getElem?_setIfInBounds, hlt])) ⟨by simp; exact hS.1, fun q y1 y2 => by
      rw [oq q (fun e9 => y2 (by rw [e9]; exact hA))]
      exact hS.2.1 q y1 y2, fun q hq => by
      rcases List.mem_append.mp hq with h | h
      · exact hS.2.2 q h
      · obtain ⟨z, -, hz9⟩ := List.mem_map.mp h
        rw [← hz9]
        exact hA⟩ hL _ hheap X'
  exact ⟨t, step t a1, a2⟩
end JAT
section CPT
variable {K : Nat → Nat} {n : Nat} {P : Type} {F : aFt P} {l : Launch} {E : jE} {tb : jTb} {nL : Nat} {ini : Bool} {cc : ByteArray} {M : jM} {JX : (Nat → jcell) → Prop} {ρ0 : List jv} {σ0 : Nat → jcell} {m : aMi} {pe : P} {sh : P → List jv → P}
theorem aCpt_ok {Q : State → Prop} {ca sl : Nat} {own : String} {Ts : List Jvm.Cond} {cl : List vw_C} {C : aCf} {rm rm9 : Room} (hfl : rm.frames ≤ rm9.frames ∧ rm.locals ≤ rm9.locals) (X : jX E own Ts cl tb nL ini cc M) (hR : M.2.2.2.1 = rm9) (hJ : aJx K n C.2.2.1 JX) (hD : aDp F K n C.2.2.2.2.2.1) (hE : C.2.2.2.2.2.2 = ρ0.length) {pc i : Nat} (hd : decode cc pc = .ok (.invokestatic i, 3)) (hq : Jvm.Cond.methodLink own i arraycopyName ∈ jTA Ts ∧ Jvm.Cond.native arraycopyName ∈ jTA Ts ∧ Jvm.Cond.static arraycopyName ∈ jTA Ts ∧ Jvm.Cond.initialized "java/lang/System" ∈ jTA Ts) {S : aS} {L : List (Nat × aS)} {j0 n0 : Nat} {f : Nat → Int32} {s1 s2 s3 : String} (he0 : tb j0 = some (s1, s2, s3, .byte, n0, f)) (hj0 : j0 < 1000000) (hft : ∀ i, i < n0 → -128 ≤ (f i).toInt ∧ (f i).toInt ≤ 127) (hb : aCpt C rm j0 n0 S (pc + 3) = some L) {ρ : List jv} (hx0 : aX ρ0 ρ) {lv : List (Option jv)} {st : List jv} {σ : Nat → jcell} (hc : aCx F (aHp C K n JX ρ0 σ0) K n S ρ lv st σ) (h : aNx F (aHp C K n JX ρ0 σ0) K n (jJ E cl nL M Q n ca sl) ρ L) : jJ E cl nL M Q n ca sl pc lv st σ := by
  unfold aCpt at hb
  split at hb
  next k dp d sp a r hs =>
    obtain ⟨v1, v2, s1, rfl, h1, h2, h3⟩ := aSk_2 (hs ▸ hc.2.2.1)
    obtain ⟨v3, v4, s2, rfl, h4, h5, h6⟩ := aSk_2 h3
    obtain ⟨v5, s3, rfl, h7, h8⟩ := aSk_1 h6
    split at hb
    next A B D qd hA hB hDD hqd =>
      split at hb
      next hz =>
        cases hb
        obtain ⟨z2, z1, zb, zc, z3, z4, z5, z6, z7, z8, z9, z10, z11, z12⟩ := hz
        rw [decide_eq_true_eq] at z1
        obtain ⟨k0, rfl, hk0⟩ := aIv_ok hc.1 hA h1
        obtain ⟨d0, rfl, hd0⟩ := aIv_ok hc.1 hB h2
        obtain ⟨s0, rfl, hs0⟩ := aIv_ok hc.1 hDD h5
        obtain ⟨bd, rfl, l1, l2, l3, l4⟩ := aAr_ok hc.1 hc.2.2.2.2.1 hqd h4
        obtain rfl := aG_tab hj0 (aTy_ok hc.1 z2 h7)
        obtain ⟨g, e1, w1⟩ := aCe_arr l4 (by rw [z1]; intro h; cases h)
        rw [z1] at e1
        obtain ⟨p9, m1, m2, m3, m4⟩ := hc.2.2.2.1
        have i1 := aLi_ok hc.1 h1
        have i2 := aLi_ok hc.1 h2
        have i3 := aLi_ok hc.1 h5
        have u1 := aPr_ok hc.1 m3 z6 (aVa_p (aVa_k _) (aVa_p (aVa_m (-1) i3) (aVa_m (-1) i1)))
        have u2 := aPr_ok hc.1 m3 z7 (aVa_p (aVa_k _) (aVa_p (aVa_m (-1) i2) (aVa_m (-1) i1)))
        replace u1 : 0 ≤ (n0 : Int) + (-1 * s0.toInt + -1 * k0.toInt) := u1
        replace u2 : 0 ≤ (qd.2.2.1 : Int) + (-1 * d0.toInt + -1 * k0.toInt) := u2
        have y1 := hk0.1
        have y2 := hd0.1
        have y3 := hs0.1
        have n1 : k0.toInt = (k0.toNatClampNeg : Int) := by show k0.toInt = ((k0.toInt.toNat : Nat) : Int); omega
        have n2 : d0.toInt = (d0.toNatClampNeg : Int) := by show d0.toInt = ((d0.toInt.toNat : Nat) : Int); omega
        have n3 : s0.toInt = (s0.toNatClampNeg : Int) := by show s0.toInt = ((s0.toInt.toNat : Nat) : Int); omega
        obtain ⟨p1, p2, p3, p4⟩ := hc.2.2.2.2
        have hi2 : aVa ρ (aLi S.2.2.1 dp) (d0.toNatClampNeg : Int) := by rw [← n2]; exact i2
        have hw := aWr_ok hc.1 hx0 hE m3 (by rw [← l2] at z9; exact z9) hi2
        have lt : ∀ z : Int32, 0 ≤ z.toInt → ¬ z < 0 := fun z hz => by
          intro h9
          have := Int32.lt_iff_toInt_lt.mp h9
          have e0 : (0 : Int32).toInt = 0 := rfl
          omega
        refine jk_act X hR hd hq.1 hq.2.1 hq.2.2.1 hq.2.2.2 he0 l1 e1 (lt _ (by omega)) (lt _ (by omega)) (lt _ (by omega)) (by omega) (by omega) (fun j hj => hft _ (by omega)) (Nat.le_trans z11 hfl.1) (by have q1 := jcat_le s3; have q2 := aSk_len h8; omega) (Nat.le_trans z12 hfl.2) ?_
        refine aNx_in h List.mem_cons_self aX_rf ⟨hc.1, hc.2.1, h8, ⟨p9, aCa_arr m1 e1, by rw [← l2]; exact aCk_ok hc.1 m2, m3, by rw [← l2]; exact aFkl_ok hD m4⟩, aH_up p1 (fun dd hdd => ?_), (hJ _ _ l1 p2).1 _ (by rw [l2]; exact z8), aFr_arr p3 e1, aFa_igs p4 e1 (fun j hj => ?_)⟩
        · rw [l3] at hdd
          cases hdd
          refine ⟨z1.symm, rfl, (by intro h9; rw [z1] at h9; cases h9), fun j hj => ⟨?_, fun q9 hq9 => ?_⟩⟩
          · unfold va_cpy
            split
            next hh => exact aSb_ok zb (show aIn (-128, 127) _ from hft _ (by omega))
            next => exact (w1 j hj).1
          · have e9 := List.isEmpty_iff.mp zc
            rw [e9] at hq9
            cases hq9
        · unfold va_cpy
          rw [if_neg (fun hh => hw (aFw_mo hj hh.1))]
      next => cases hb
    next => cases hb
  next => cases hb
end CPT
