section
/-! the reference: uP -/
noncomputable def ag_rqE : aCon := (y_BO_inCheck, false, 2, ([(.inr none, none), (.inl (1, 18), none)], ([], [], [], [(7938, [0, 1])])), (none, [], ([], [], [([(0, 1)], -1)], []), [[]]), ([], []), { frames := 0, cells := 0, slots := 0, locals := 0 })
section FA
variable {l : Launch} {E : jE} {K : Nat → Nat} {n : Nat} {P : Type} {F : aFt P} {sh : P → List jv → P} {JX : (Nat → jcell) → Prop}
noncomputable def ak_BYnumCa : List jI := [(.lload_n 1, 1, (1, 0, 0, 0, 0)), (.lstore_n 3, 1, (3, 0, 0, 0, 0)), (.lload_n 3, 1, (3, 0, 0, 0, 0)), (.lconst 0, 1, (0, 0, 0, 0, 0)), (.lcmp, 1, (0, 0, 0, 0, 0)), (.ifCond .ge 12, 3, (17, 0, 0, 0, 0)), (.aload_n 0, 1, (0, 0, 0, 0, 0)), (.bipush 45, 2, (0, 0, 0, 45, 0)), (.invokevirtual 28, 3, (0, 0, 1082, 0, 0)), (.lload_n 3, 1, (3, 0, 0, 0, 0)), (.lneg, 1, (0, 0, 0, 0, 0)), (.lstore_n 3, 1, (3, 0, 0, 0, 0)), (.lconst 1, 1, (0, 0, 0, 0, 1)), (.lstore 5, 2, (5, 0, 0, 0, 0)), (.iconst 1, 1, (0, 0, 0, 1, 0)), (.istore 7, 2, (7, 0, 0, 0, 0)), (.iload 7, 2, (7, 0, 0, 0, 0)), (.bipush 18, 2, (0, 0, 0, 18, 0)), (.if_icmp .ge 28, 3, (55, 0, 0, 0, 0)), (.lload_n 3, 1, (3, 0, 0, 0, 0)), (.lload 5, 2, (5, 0, 0, 0, 0)), (.ldiv, 1, (0, 0, 0, 0, 0)), (.ldc2_w 32, 3, (0, 0, 1083, 0, 10)), (.lcmp, 1, (0, 0, 0, 0, 0)), (.ifCond .lt 17, 3, (55, 0, 0, 0, 0)), (.lload 5, 2, (5, 0, 0, 0, 0)), (.ldc2_w 32, 3, (0, 0, 1083, 0, 10)), (.lmul, 1, (1, 0, 0, 0, 0)), (.lstore 5, 2, (5, 0, 0, 0, 0)), (.iinc 7 1, 3, (0, 0, 0, 1, 0)), (.goto (-29), 3, (23, 0, 0, 0, 0)), (.lload 5, 2, (5, 0, 0, 0, 0)), (.lconst 0, 1, (0, 0, 0, 0, 0)), (.lcmp, 1, (1, 0, 0, 0, 0)), (.ifCond .le 31, 3, (90, 0, 0, 0, 0)), (.aload_n 0, 1, (0, 0, 0, 0, 0)), (.ldc2_w 34, 3, (0, 0, 1084, 0, 48)), (.lload_n 3, 1, (3, 0, 0, 0, 0)), (.lload 5, 2, (5, 0, 0, 0, 0)), (.ldiv, 1, (0, 0, 0, 0, 0)), (.ldc2_w 32, 3, (0, 0, 1083, 0, 10)), (.lrem, 1, (0, 0, 0, 0, 0)), (.ladd, 1, (0, 0, 0, 0, 0)), (.l2i, 1, (0, 0, 0, 0, 0)), (.invokevirtual 28, 3, (0, 0, 1082, 0, 0)), (.lload 5, 2, (5, 0, 0, 0, 0)), (.ldc2_w 32, 3, (0, 0, 1083, 0, 10)), (.ldiv, 1, (1, 0, 0, 0, 0)), (.lstore 5, 2, (5, 0, 0, 0, 0)), (.goto (-32), 3, (55, 0, 0, 0, 0)), (.return_, 1, (0, 0, 0, 0, 0))]
theorem ao_BYnumCa : jokLG jtF lk_BY "ChessHouse$Bytes" jcl jtb 8 prog_4_method_6_code 0 ak_BYnumCa = true := by decide +kernel
noncomputable def ag_BYnumCa : aCon := (y_BY_number, false, 2, ([(.inr (some (.inl (false, 2))), none), (.inr none, none)], ([], [], [], [])), (none, [], ([], [], [], []), [[]]), ([(2, 1)], [(3, ([], 0))]), { frames := 1, cells := 0, slots := 0, locals := 21 })
noncomputable def am_BYnumCa : aMi := (("ChessHouse$Bytes", lw_tbl, jcl, none, [(28, 1082, 0)], [], [], [ag_rqW0, ag_rqE, ag_rqB, ag_rqC, ag_rqD], [(18, 0, [.inr (.inl 0)], [2]), (33, 1, [.inl 5, .inr (.inl 128009)], [2, 3]), (47, 2, [.inl 5, .inr (.inl 27929), .inr (.inl 0), .inr (.inl 128009)], [2, 3, 4, 5]), (62, 3, [.inl 5, .inr (.inl 27673), .inr (.inl 27674), .inr (.inl 128009)], [2, 3, 4, 5]), (85, 4, [.inl 5, .inr (.inl 28185), .inr (.inl 0), .inr (.inl 128009)], [2, 3, 4, 5])]), (fa_T, fa_TB, fa_Pk, [(2, 1)], [(3, ([], 0))], rm_dep, 2), [ag_BYadda], ag_BYnumCa, ak_BYnumCa, [(23, ([some 0, none, none, some 2, none, some 3, none, some 4], [], [(.inr (some (.inl (false, 2))), none), (.inr none, none), (.inr none, none), (.inr none, none), (.inl (1, 18), none), (.inl (1, 18), none)], ([], [], [([(5, -1), (4, 1)], 0)], [(7938, [3, 5]), (0, [])])), [.inl 3, .inl 5, .inl 7, .inr (.inl 128009)], [([], 1), ([(5, -1)], 18), ([], 0)]), (55, ([some 0, none, none, some 2, none, some 3, none, none], [], [(.inr (some (.inl (false, 2))), none), (.inr none, none), (.inr none, none), (.inr none, none), (.inl (0, 18), none)], ([], [], [], [(7938, [3, 4]), (0, [])])), [.inl 3, .inl 5, .inr (.inl 128009)], [([], 0), ([(4, 1)], 0), ([], 0)]), (0, aEn ag_BYnumCa, [], [([], 2), ([], 0), ([], 0)])])
theorem ac_BYnumCa_o : aOkc am_BYnumCa.2.1 am_BYnumCa.2.2.2.1 = true := by decide +kernel
theorem ac_BYnumCa_0 : ((am_BYnumCa.2.2.2.2.2.drop 0).take 1).all (aCk1 am_BYnumCa 21) = true := by rw [fs_Ck1]; decide +kernel
theorem ac_BYnumCa_1 : ((am_BYnumCa.2.2.2.2.2.drop 1).take 1).all (aCk1 am_BYnumCa 21) = true := by rw [fs_Ck1]; decide +kernel
theorem ac_BYnumCa_2 : ((am_BYnumCa.2.2.2.2.2.drop 2).take 1).all (aCk1 am_BYnumCa 21) = true := by rw [fs_Ck1]; decide +kernel
theorem ac_BYnumCa : aChk am_BYnumCa 21 = true := aChk_1 ac_BYnumCa_o (all_dr 0 1 1 rfl ac_BYnumCa_0 (all_dr 1 1 2 rfl ac_BYnumCa_1 (all_dr 2 1 3 rfl ac_BYnumCa_2 (show (am_BYnumCa.2.2.2.2.2.drop 3).all (aCk1 am_BYnumCa 21) = true from rfl))))
theorem ae_BYnumCa (hJ : aJx K n fa_Pk JX) (hS : aShf F sh) (hD : aDp F K n fa_dep) (hD1 : aDp F K n ra_dep) (hD2 : aDp F K n rm_dep) (hh_BYadda : aMe F l E jcl jtb lw_tbl fa_T K n JX ag_BYadda) (hh_rqB : aGho F fa_T K n JX ag_rqB) (hh_rqC : aGho F fa_T K n JX ag_rqC) (hh_rqD : aGho F fa_T K n JX ag_rqD) (hh_rqE : aGho F fa_T K n JX ag_rqE) (hh_rqW0 : aGho F fa_T K n JX ag_rqW0) : aMe F l E jcl jtb lw_tbl fa_T K n JX ag_BYnumCa := aMe_of (m := am_BYnumCa) (f := 21) rfl rfl rfl rfl rfl (by decide) (fun _ _ => jtF_ok) lo_BY (fun q h => by cases h) (aAllc (fun G h => by obtain rfl := Option.some.inj h; exact ql_BY_28) (fun q h => by cases h)) jC (aAllc ⟨ad_BYadda,  hh_BYadda⟩ (fun G h => by cases h)) (aAllc hh_rqW0 (aAllc hh_rqE (aAllc hh_rqB (aAllc hh_rqC (aAllc hh_rqD (fun G h => by cases h)))))) fa_tb hJ hS hD2 ao_BYnumCa ac_BYnumCa (List.mem_of_getElem? (i := 2) rfl)
noncomputable def ag_BYnumCw : aCon := (y_BY_number, false, 2, ([(.inr (some (.inl (false, 4))), none), (.inr none, none)], ([], [], [], [])), (none, [], ([], [], [], []), [[]]), ([(4, 1)], [(5, ([], 0))]), { frames := 1, cells := 0, slots := 0, locals := 21 })
noncomputable def am_BYnumCw : aMi := (("ChessHouse$Bytes", lw_tbl, jcl, none, [(28, 1082, 0)], [], [], [ag_rqW0, ag_rqE, ag_rqB, ag_rqC, ag_rqD], [(18, 0, [.inr (.inl 0)], [2]), (33, 1, [.inl 5, .inr (.inl 128009)], [2, 3]), (47, 2, [.inl 5, .inr (.inl 27929), .inr (.inl 0), .inr (.inl 128009)], [2, 3, 4, 5]), (62, 3, [.inl 5, .inr (.inl 27673), .inr (.inl 27674), .inr (.inl 128009)], [2, 3, 4, 5]), (85, 4, [.inl 5, .inr (.inl 28185), .inr (.inl 0), .inr (.inl 128009)], [2, 3, 4, 5])]), (fa_T, fa_TB, fa_Pk, [(4, 1)], [(5, ([], 0))], rm_dep, 2), [ag_BYaddw], ag_BYnumCw, ak_BYnumCa, [(23, ([some 0, none, none, some 2, none, some 3, none, some 4], [], [(.inr (some (.inl (false, 4))), none), (.inr none, none), (.inr none, none), (.inr none, none), (.inl (1, 18), none), (.inl (1, 18), none)], ([], [], [([(5, -1), (4, 1)], 0)], [(7938, [3, 5]), (0, [])])), [.inl 3, .inl 5, .inl 7, .inr (.inl 128009)], [([], 1), ([(5, -1)], 18), ([], 0)]), (55, ([some 0, none, none, some 2, none, some 3, none, none], [], [(.inr (some (.inl (false, 4))), none), (.inr none, none), (.inr none, none), (.inr none, none), (.inl (0, 18), none)], ([], [], [], [(7938, [3, 4]), (0, [])])), [.inl 3, .inl 5, .inr (.inl 128009)], [([], 0), ([(4, 1)], 0), ([], 0)]), (0, aEn ag_BYnumCw, [], [([], 2), ([], 0), ([], 0)])])
theorem ac_BYnumCw_o : aOkc am_BYnumCw.2.1 am_BYnumCw.2.2.2.1 = true := by decide +kernel
theorem ac_BYnumCw_0 : ((am_BYnumCw.2.2.2.2.2.drop 0).take 1).all (aCk1 am_BYnumCw 21) = true := by rw [fs_Ck1]; decide +kernel
theorem ac_BYnumCw_1 : ((am_BYnumCw.2.2.2.2.2.drop 1).take 1).all (aCk1 am_BYnumCw 21) = true := by rw [fs_Ck1]; decide +kernel
theorem ac_BYnumCw_2 : ((am_BYnumCw.2.2.2.2.2.drop 2).take 1).all (aCk1 am_BYnumCw 21) = true := by rw [fs_Ck1]; decide +kernel
theorem ac_BYnumCw : aChk am_BYnumCw 21 = true := aChk_1 ac_BYnumCw_o (all_dr 0 1 1 rfl ac_BYnumCw_0 (all_dr 1 1 2 rfl ac_BYnumCw_1 (all_dr 2 1 3 rfl ac_BYnumCw_2 (show (am_BYnumCw.2.2.2.2.2.drop 3).all (aCk1 am_BYnumCw 21) = true from rfl))))
theorem ae_BYnumCw (hJ : aJx K n fa_Pk JX) (hS : aShf F sh) (hD : aDp F K n fa_dep) (hD1 : aDp F K n ra_dep) (hD2 : aDp F K n rm_dep) (hh_BYaddw : aMe F l E jcl jtb lw_tbl fa_T K n JX ag_BYaddw) (hh_rqB : aGho F fa_T K n JX ag_rqB) (hh_rqC : aGho F fa_T K n JX ag_rqC) (hh_rqD : aGho F fa_T K n JX ag_rqD) (hh_rqE : aGho F fa_T K n JX ag_rqE) (hh_rqW0 : aGho F fa_T K n JX ag_rqW0) : aMe F l E jcl jtb lw_tbl fa_T K n JX ag_BYnumCw := aMe_of (m := am_BYnumCw) (f := 21) rfl rfl rfl rfl rfl (by decide) (fun _ _ => jtF_ok) lo_BY (fun q h => by cases h) (aAllc (fun G h => by obtain rfl := Option.some.inj h; exact ql_BY_28) (fun q h => by cases h)) jC (aAllc ⟨ad_BYaddw,  hh_BYaddw⟩ (fun G h => by cases h)) (aAllc hh_rqW0 (aAllc hh_rqE (aAllc hh_rqB (aAllc hh_rqC (aAllc hh_rqD (fun G h => by cases h)))))) fa_tb hJ hS hD2 ao_BYnumCa ac_BYnumCw (List.mem_of_getElem? (i := 2) rfl)
end FA
end
section
/-! rules of uP -/
theorem rw_rqE {N : Int} {K : Nat → Nat} {n : Nat} {JX : (Nat → jcell) → Prop} : aGho (rH N K n) fa_T K n JX ag_rqE := by
  refine aGho_of ⟨rfl, rfl⟩ ?_
  intro p σ ρ hH hX hA hM0
  have hG := aAG_of hA.1 (fun i e v he hv => (hA.2 i e v he hv).1)
  clear hA
  obtain ⟨v0, v1, rfl, g0, g1⟩ := rA_2 hG
  clear hG
  obtain ⟨x0, rfl⟩ := aG_lng g0
  obtain ⟨x1, rfl, b1, d1⟩ := aG_int g1
  dsimp only at b1 d1
  obtain ⟨m1, m2, m3, m4⟩ := hM0
  have f0 : rB3 N K n p 496 [rL x0, rI x1] σ := by
    obtain ⟨w, e6, e7⟩ := m4 (7938, [0, 1]) (List.mem_of_getElem? (i := 0) rfl)
    obtain rfl : [rL x0, rI x1] = w := Option.some.inj (show some [rL x0, rI x1] = some w from e6)
    exact (rF_b (r := 7938) (by decide) rfl).mp e7
  have f0 := ro3_496.mp f0
  clear m1 m2 m3 m4
  have r0 : 0 ≤ (1 * x0.toInt + 0) + -1 := by
    rcases f0 with f0 | ⟨-, -, f0⟩
    · omega
    · have h1 := rqT (x1.toInt - 1).toNat (by omega)
      omega
  exact ⟨p, fun _ => rfl, ⟨(fun q h => by cases h), fun q h => (by cases h), (aAllc ⟨_, rfl, r0⟩ (fun f h => by cases h)), (fun f h => by cases h)⟩, [], List.mem_cons_self, fun f h => (by cases h)⟩
end
section
/-! numbers written: the contract names no fact, so any table of facts serves -/
theorem aMe_nf {P P' : Type} {F : aFt P} {F' : aFt P'} {l : Launch} {E : jE} {cl : List vw_C} {tb : jTb} {Ts : List Jvm.Cond} {T : List aKd} {K : Nat → Nat} {n : Nat} {JX : (Nat → jcell) → Prop} {G : aCon} (h1 : G.2.2.2.1.2.2.2.2 = []) (h2 : G.2.2.2.2.1.2.2.1.2.2.2 = []) (p0 : P) (h : aMe F l E cl tb Ts T K n JX G) : aMe F' l E cl tb Ts T K n JX G := by
  intro p σ ρ hH hX hA hM
  refine jMet_post (h p0 σ ρ hH hX hA ⟨hM.1, hM.2.1, hM.2.2.1, by rw [h1]; intro q hq; cases hq⟩) ?_
  rintro r σ' n' ⟨q1, q2, q3, q4, q5, q6, xs, q7, q8, q9⟩
  exact ⟨q1, q2, q3, q4, q5, q6, xs, q7, ⟨q8.1, q8.2.1, q8.2.2.1, by rw [h2]; intro q hq; cases hq⟩, q9⟩
section BYN
variable {l : Launch} {E : jE} {K : Nat → Nat} {n : Nat}
theorem az_BYnumbera (h : aMe (fF K n) l E jcl jtb lw_tbl fa_T K n (fJX K n) ag_BYadda) : aMe (fF K n) l E jcl jtb lw_tbl fa_T K n (fJX K n) ag_BYnumbera := aMe_nf rfl rfl ((fun _ => 0, 0, 0, 0), none) (ae_BYnumCa (F := rH 0 K n) (JX := fJX K n) fJX_jx (rH_shf 0 K n) rH_dpa rH_dpr rH_dpm (aMe_nf rfl rfl (Sum.inl (fun _ => 0, fun _ => 0)) h) rw_rqB rw_rqC rw_rqD rw_rqE rw_rqW0)
theorem az_BYnumberw (h : aMe (fF K n) l E jcl jtb lw_tbl fa_T K n (fJX K n) ag_BYaddw) : aMe (fF K n) l E jcl jtb lw_tbl fa_T K n (fJX K n) ag_BYnumberw := aMe_nf rfl rfl ((fun _ => 0, 0, 0, 0), none) (ae_BYnumCw (F := rH 0 K n) (JX := fJX K n) fJX_jx (rH_shf 0 K n) rH_dpa rH_dpr rH_dpm (aMe_nf rfl rfl (Sum.inl (fun _ => 0, fun _ => 0)) h) rw_rqB rw_rqC rw_rqD rw_rqE rw_rqW0)
end BYN
end
section
/-! bytes copied from a static row -/
noncomputable def aCpt (C : aCf) (rm : Room) (j0 n0 : Nat) (S : aS) (p : Nat) : Option (List (Nat × aS)) := match S.2.1 with
  | k :: dp :: d :: sp :: a :: r => (match aIv S.2.2.1 k, aIv S.2.2.1 dp, aIv S.2.2.1 sp, aAr C.1 S.2.2.1 d with
    | some A, some B, some D, some qd => if aTy S.2.2.1 a = some (.inr (some (.inr j0))) ∧ decide (qd.2.1 = .byte) = true ∧ aSb (-128, 127) qd.2.2.2.1 = true ∧ qd.2.2.2.2.isEmpty = true ∧ 0 ≤ A.1 ∧ 0 ≤ B.1 ∧ 0 ≤ D.1 ∧ aPr S.2.2.1 S.2.2.2.2.2.1 2 (aFp ([], (n0 : Int)) (aFp (aFm (-1) (aLi S.2.2.1 sp)) (aFm (-1) (aLi S.2.2.1 k)))) = true ∧ aPr S.2.2.1 S.2.2.2.2.2.1 2 (aFp ([], (qd.2.2.1 : Int)) (aFp (aFm (-1) (aLi S.2.2.1 dp)) (aFm (-1) (aLi S.2.2.1 k)))) = true ∧ ¬ qd.1 ∈ C.2.2.1 ∧ aWr C S.2.2.1 S.2.2.2.2.2.1 qd.1 (aLi S.2.2.1 dp) = true ∧ r.length ≤ 4 ∧ 1 ≤ rm.frames ∧ 8 + (nativeFrameWords "java/lang/System" "arraycopy" 5 + 11) ≤ rm.locals then some [(p, (S.1, r, S.2.2.1, (S.2.2.2.1, S.2.2.2.2.1.filter (aCk S.2.2.1 qd.1), S.2.2.2.2.2.1, S.2.2.2.2.2.2.filter (aFkl C.2.2.2.2.2.1 qd.1))))] else none
    | _, _, _, _ => none)
  | _ => none
section JAT
variable {E : jE} {own : String} {Ts : List Jvm.Cond} {cl : List vw_C} {tb : jTb} {nL : Nat} {ini : Bool} {cc : ByteArray} {M : jM} {Q : State → Prop} {n cells slots : Nat}
theorem jk_act (X : jX E own Ts cl tb nL ini cc M) {rm : Room} (hR : M.2.2.2.1 = rm) {pc i : Nat} (hd : decode cc pc = .ok (.invokestatic i, 3)) (hli : Jvm.Cond.methodLink own i arraycopyName ∈ jTA Ts) (hna : Jvm.Cond.native arraycopyName ∈ jTA Ts) (hst : Jvm.Cond.static arraycopyName ∈ jTA Ts) (hin : Jvm.Cond.initialized "java/lang/System" ∈ jTA Ts) {lv : List (Option jv)} {r : List jv} {σ : Nat → jcell} {j0 b1 n0 n1 : Nat} {f g : Nat → Int32} {s1 s2 s3 : String} (he0 : tb j0 = some (s1, s2, s3, .byte, n0, f)) (ha1 : b1 < n) (he1 : σ b1 = .inl (.byte, n1, .inl g)) {sp dp k : Int32} (h1 : ¬ sp < 0) (h2 : ¬ dp < 0) (h3 : ¬ k < 0) (h4 : sp.toNatClampNeg + k.toNatClampNeg ≤ n0) (h5 : dp.toNatClampNeg + k.toNatClampNeg ≤ n1) (hfit : ∀ j, j < k.toNatClampNeg → -128 ≤ (f (sp.toNatClampNeg + j)).toInt ∧ (f (sp.toNatClampNeg + j)).toInt ≤ 127) (hf : 1 ≤ rm.frames) (hz : (r.map jcat).sum ≤ 8) (hl : 8 + (nativeFrameWords "java/lang/System" "arraycopy" 5 + 11) ≤ rm.locals)
    (kk : jJ E cl nL M Q n cells slots (pc + 3) lv r (jup σ b1 (.inl (.byte, n1, .inl (va_cpy f g sp.toNatClampNeg dp.toNatClampNeg k.toNatClampNeg))))) : jJ E cl nL M Q n cells slots pc lv (.inl k :: .inl dp :: .inr (.inr (some (.inl b1))) :: .inl sp :: .inr (.inr (some (.inr j0))) :: r) σ := by
  obtain ⟨p, l, e, R, s, m, args, below, meth, c⟩ := M
  dsimp only at hR
  subst hR
  obtain ⟨hx, hb, hml, ho, hts, ⟨hK, hK2⟩, -⟩ := X
  intro H locs ls hW hS hL
  have hP1 := jW_one hW ha1 (by rw [he1]; simp only [jkn]; first | done | decide | assumption)
  rw [he1] at hP1
  obtain ⟨t0, ht0⟩ := jty_in (E := E) (t := .byte) (by decide)
  obtain ⟨cs, hc0, ⟨hns, q0, hq0, cm0, hqq0⟩, hun, hN, -, hsl, -⟩ := (hK2.1.1 j0 _ he0).2.kept hS.2.1
  dsimp only at hN hsl hqq0
  have hc1 : H[E.2.2.2 + b1]? = some (vp_cell (E.2.1 .byte) (n1, .inl g)) := hP1 0 _ rfl
  intro T hT X9
  obtain ⟨-, q1, hq1, cm1, hqq1⟩ := (hK.2 t0 _ ht0).1 n1 (fun j => .int (g j))
  have hsz : c.maxLocals = ls.size := by rw [hL.1]; exact hml
  obtain ⟨vm', X', step⟩ := X9.arraycopy hx ho (hts _ hli) (hts _ hna) (hts _ hst) (hts _ hin) (src := E.2.2.1 j0) (dst := E.2.2.2 + b1) (cs := cs) (cd := vp_cell (E.2.1 .byte) (n1, .inl g)) (srcPos := sp) (destPos := dp) (n := k) (by rw [hT]; exact hc0) (by rw [hT]; exact hc1)
    hns (fun _ h => by cases h) hun (fun h => by cases h) hq0 hq1 hqq0 hqq1 (by simp) h1 h2 h3
    (by rw [jac_nn sp h1, jac_nn k h3]; omega)
    (by rw [jac_nn dp h2, jac_nn k h3]; show ¬ _ > ((arrV (E.2.1 .byte) n1 (fun j => .int (g j))).slots.size : Int); rw [arrV_size]; omega)
    (fun vm1 _ j hj => by
      have e1 : cs.slots.getD (sp.toNatClampNeg + j) .null = .int (f (sp.toNatClampNeg + j)) := by
        rw [Array.getD_eq_getD_getElem?, hsl _ (by omega)]
        rfl
      rw [e1]
      refine ⟨?_, trivial⟩
      have h9 := hfit j hj
      have y1 : (-128 : Int32) ≤ f (sp.toNatClampNeg + j) := Int32.le_iff_toInt_le.mpr (by show (-128 : Int) ≤ _; exact h9.1)
      have y2 : f (sp.toNatClampNeg + j) ≤ (127 : Int32) := Int32.le_iff_toInt_le.mpr (by show _ ≤ (127 : Int); exact h9.2)
      show (decide _ && decide _) = true
      rw [Bool.and_eq_true, decide_eq_true_eq, decide_eq_true_eq]
      exact ⟨y1, y2⟩)
    (g := F0 m pc ls (.int k :: .int dp :: .ref (E.2.2.2 + b1) :: .int sp :: .ref (E.2.2.1 j0) :: r.map (jc E))) rfl (by rw [hsz]) (rest := r.map (jc E)) rfl (by rw [hb]; exact hd) hf (show 2 * 0 + ((r.map (jc E)).map fun v => v.category).sum + (nativeFrameWords "java/lang/System" "arraycopy" 5 + 11) ≤ R.locals from by have := jcat_sum E r; omega)
  have e1 : copied cs (vp_cell (E.2.1 .byte) (n1, .inl g)) sp dp k = vp_cell (E.2.1 .byte) (n1, .inl (va_cpy f g sp.toNatClampNeg dp.toNatClampNeg k.toNatClampNeg)) := va_copiedX (fun z => .int z) cs _ f g hsl h4
  rw [e1] at X' step
  have hlt : E.2.2.2 + b1 < H.size := (Array.getElem?_eq_some_iff.mp hc1).1
  have hheap : ((T.setVm vm').setCell (E.2.2.2 + b1) (vp_cell (E.2.1 .byte) (n1, .inl (va_cpy f g sp.toNatClampNeg dp.toNatClampNeg k.toNatClampNeg)))).heap = H.setIfInBounds (E.2.2.2 + b1) (vp_cell (E.2.1 .byte) (n1, .inl (va_cpy f g sp.toNatClampNeg dp.toNatClampNeg k.toNatClampNeg))) := by rw [← hT]; rfl
  have oq : ∀ q : Nat, q ≠ E.2.2.2 + b1 → (H.setIfInBounds (E.2.2.2 + b1) (vp_cell (E.2.1 .byte) (n1, .inl (va_cpy f g sp.toNatClampNeg dp.toNatClampNeg k.toNatClampNeg))))[q]? = H[q]? := fun q hq => by simp [Array.getElem?_setIfInBounds, Ne.symm hq]
  have hA : jA E (E.2.2.2 + b1) := Nat.le_add_right _ _
  obtain ⟨t, a1, a2⟩ := kk _ _ ls (jW_set hW (by simp) oq (by show (H.setIfInBounds _ _)[E.2.2.2 + b1]? = some _; simp [Array.getElem?_setIfInBounds, hlt])) ⟨by simp; exact hS.1, fun q y1 y2 => by
      rw [oq q (fun e9 => y2 (by rw [e9]; exact hA))]
      exact hS.2.1 q y1 y2, fun q hq => by
      rcases List.mem_append.mp hq with h | h
      · exact hS.2.2 q h
      · obtain ⟨z, -, hz9⟩ := List.mem_map.mp h
        rw [← hz9]
        exact hA⟩ hL _ hheap X'
  exact ⟨t, step t a1, a2⟩
end JAT
section CPT
variable {K : Nat → Nat} {n : Nat} {P : Type} {F : aFt P} {l : Launch} {E : jE} {tb : jTb} {nL : Nat} {ini : Bool} {cc : ByteArray} {M : jM} {JX : (Nat → jcell) → Prop} {ρ0 : List jv} {σ0 : Nat → jcell} {m : aMi} {pe : P} {sh : P → List jv → P}
theorem aCpt_ok {Q : State → Prop} {ca sl : Nat} {own : String} {Ts : List Jvm.Cond} {cl : List vw_C} {C : aCf} {rm rm9 : Room} (hfl : rm.frames ≤ rm9.frames ∧ rm.locals ≤ rm9.locals) (X : jX E own Ts cl tb nL ini cc M) (hR : M.2.2.2.1 = rm9) (hJ : aJx K n C.2.2.1 JX) (hD : aDp F K n C.2.2.2.2.2.1) (hE : C.2.2.2.2.2.2 = ρ0.length) {pc i : Nat} (hd : decode cc pc = .ok (.invokestatic i, 3)) (hq : Jvm.Cond.methodLink own i arraycopyName ∈ jTA Ts ∧ Jvm.Cond.native arraycopyName ∈ jTA Ts ∧ Jvm.Cond.static arraycopyName ∈ jTA Ts ∧ Jvm.Cond.initialized "java/lang/System" ∈ jTA Ts) {S : aS} {L : List (Nat × aS)} {j0 n0 : Nat} {f : Nat → Int32} {s1 s2 s3 : String} (he0 : tb j0 = some (s1, s2, s3, .byte, n0, f)) (hj0 : j0 < 1000000) (hft : ∀ i, i < n0 → -128 ≤ (f i).toInt ∧ (f i).toInt ≤ 127) (hb : aCpt C rm j0 n0 S (pc + 3) = some L) {ρ : List jv} (hx0 : aX ρ0 ρ) {lv : List (Option jv)} {st : List jv} {σ : Nat → jcell} (hc : aCx F (aHp C K n JX ρ0 σ0) K n S ρ lv st σ) (h : aNx F (aHp C K n JX ρ0 σ0) K n (jJ E cl nL M Q n ca sl) ρ L) : jJ E cl nL M Q n ca sl pc lv st σ := by
  unfold aCpt at hb
  split at hb
  next k dp d sp a r hs =>
    obtain ⟨v1, v2, s1, rfl, h1, h2, h3⟩ := aSk_2 (hs ▸ hc.2.2.1)
    obtain ⟨v3, v4, s2, rfl, h4, h5, h6⟩ := aSk_2 h3
    obtain ⟨v5, s3, rfl, h7, h8⟩ := aSk_1 h6
    split at hb
    next A B D qd hA hB hDD hqd =>
      split at hb
      next hz =>
        cases hb
        obtain ⟨z2, z1, zb, zc, z3, z4, z5, z6, z7, z8, z9, z10, z11, z12⟩ := hz
        rw [decide_eq_true_eq] at z1
        obtain ⟨k0, rfl, hk0⟩ := aIv_ok hc.1 hA h1
        obtain ⟨d0, rfl, hd0⟩ := aIv_ok hc.1 hB h2
        obtain ⟨s0, rfl, hs0⟩ := aIv_ok hc.1 hDD h5
        obtain ⟨bd, rfl, l1, l2, l3, l4⟩ := aAr_ok hc.1 hc.2.2.2.2.1 hqd h4
        obtain rfl := aG_tab hj0 (aTy_ok hc.1 z2 h7)
        obtain ⟨g, e1, w1⟩ := aCe_arr l4 (by rw [z1]; intro h; cases h)
        rw [z1] at e1
        obtain ⟨p9, m1, m2, m3, m4⟩ := hc.2.2.2.1
        have i1 := aLi_ok hc.1 h1
        have i2 := aLi_ok hc.1 h2
        have i3 := aLi_ok hc.1 h5
        have u1 := aPr_ok hc.1 m3 z6 (aVa_p (aVa_k _) (aVa_p (aVa_m (-1) i3) (aVa_m (-1) i1)))
        have u2 := aPr_ok hc.1 m3 z7 (aVa_p (aVa_k _) (aVa_p (aVa_m (-1) i2) (aVa_m (-1) i1)))
        replace u1 : 0 ≤ (n0 : Int) + (-1 * s0.toInt + -1 * k0.toInt) := u1
        replace u2 : 0 ≤ (qd.2.2.1 : Int) + (-1 * d0.toInt + -1 * k0.toInt) := u2
        have y1 := hk0.1
        have y2 := hd0.1
        have y3 := hs0.1
        have n1 : k0.toInt = (k0.toNatClampNeg : Int) := by show k0.toInt = ((k0.toInt.toNat : Nat) : Int); omega
        have n2 : d0.toInt = (d0.toNatClampNeg : Int) := by show d0.toInt = ((d0.toInt.toNat : Nat) : Int); omega
        have n3 : s0.toInt = (s0.toNatClampNeg : Int) := by show s0.toInt = ((s0.toInt.toNat : Nat) : Int); omega
        obtain ⟨p1, p2, p3, p4⟩ := hc.2.2.2.2
        have hi2 : aVa ρ (aLi S.2.2.1 dp) (d0.toNatClampNeg : Int) := by rw [← n2]; exact i2
        have hw := aWr_ok hc.1 hx0 hE m3 (by rw [← l2] at z9; exact z9) hi2
        have lt : ∀ z : Int32, 0 ≤ z.toInt → ¬ z < 0 := fun z hz => by
          intro h9
          have := Int32.lt_iff_toInt_lt.mp h9
          have e0 : (0 : Int32).toInt = 0 := rfl
          omega
        refine jk_act X hR hd hq.1 hq.2.1 hq.2.2.1 hq.2.2.2 he0 l1 e1 (lt _ (by omega)) (lt _ (by omega)) (lt _ (by omega)) (by omega) (by omega) (fun j hj => hft _ (by omega)) (Nat.le_trans z11 hfl.1) (by have q1 := jcat_le s3; have q2 := aSk_len h8; omega) (Nat.le_trans z12 hfl.2) ?_
        refine aNx_in h List.mem_cons_self aX_rf ⟨hc.1, hc.2.1, h8, ⟨p9, aCa_arr m1 e1, by rw [← l2]; exact aCk_ok hc.1 m2, m3, by rw [← l2]; exact aFkl_ok hD m4⟩, aH_up p1 (fun dd hdd => ?_), (hJ _ _ l1 p2).1 _ (by rw [l2]; exact z8), aFr_arr p3 e1, aFa_igs p4 e1 (fun j hj => ?_)⟩
        · rw [l3] at hdd
          cases hdd
          refine ⟨z1.symm, rfl, (by intro h9; rw [z1] at h9; cases h9), fun j hj => ⟨?_, fun q9 hq9 => ?_⟩⟩
          · unfold va_cpy
            split
            next hh => exact aSb_ok zb (show aIn (-128, 127) _ from hft _ (by omega))
            next => exact (w1 j hj).1
          · have e9 := List.isEmpty_iff.mp zc
            rw [e9] at hq9
            cases hq9
        · unfold va_cpy
          rw [if_neg (fun hh => hw (aFw_mo hj hh.1))]
      next => cases hb
    next => cases hb
  next => cases hb
end CPT
end
section
/-! a tag whose name is a static row, by the check and one step by hand -/
theorem ck_GAsetTagX3 : am_GAsetTagX3.2.2.2.2.2.all (fun c => !([64].any (fun k => Nat.beq k c.1)) || (aRo c.2.1.2.2.1.length c.2.2.2 && (match aCpt am_GAsetTagX3.2.1 ag_GAsetTagf3.2.2.2.2.2.2 3 3 c.2.1 67 with
  | some L => L.all (fun q => am_GAsetTagX3.2.2.2.2.2.any (fun c2 => Nat.beq c2.1 q.1 && aTo am_GAsetTagX3.2.1 c.2.2.2 c2 q.2))
  | none => false))) = true := by decide +kernel
theorem dk_GAsetTagX3 : decode prog_7_method_19_code 64 = .ok (.invokestatic 130, 3) := by decide +kernel
theorem tk_3 : (List.range 3).all (fun i => decide (-128 ≤ (tv_3.getD i 0).toInt) && decide ((tv_3.getD i 0).toInt ≤ 127)) = true := by decide +kernel
section STG
variable {P : Type} {F : (Nat → Nat) → Nat → aFt P} {JX : (Nat → Nat) → Nat → (Nat → jcell) → Prop} {l : Launch} {E : jE}
theorem az_GAsetTagf3 (hJ : ∀ (K : Nat → Nat) (n : Nat), aJx K n fa_Pk (JX K n)) (hD : ∀ (K : Nat → Nat) (n : Nat), aDp (F K n) K n fi_dep) (h : gMe F JX l E jtb am_GAsetTagX3 an_GAsetTagX3 [64] 8 prog_7_method_19_code false) (K : Nat → Nat) (n : Nat) : aMe (F K n) l E jcl jtb lw_tbl fa_T K n (JX K n) ag_GAsetTagf3 := by
  intro p σ ρ hH hX hA hM
  refine h _ ag_GAsetTagf3.2.2.2.2.2.2 ⟨by decide, by decide⟩ K n p σ ρ hH hX hA hM (fun w => w = (K, n, σ, 0, 0)) rfl (fun G hG => by cases hG) ?_ ?_
  · intro K1 n1 σ0 ca sl hw
    cases hw
    exact ⟨⟨Nat.zero_le _, Nat.zero_le _⟩, fun r σ' hp => hp⟩
  · intro M hl hR hsz X hok c hc hx K1 n1 σ0 ca sl hw ρ' lv st σ1 hx0 hcx IH
    cases hw
    have hk := List.all_eq_true.mp ck_GAsetTagX3 c hc
    rw [Bool.or_eq_true, hx] at hk
    have hk := hk.resolve_left (fun h9 => by cases h9)
    rw [Bool.and_eq_true] at hk
    obtain ⟨hro, hk⟩ := hk
    have X : jX E "ChessHouse$Game" lw_tbl jcl jtb 8 false prog_7_method_19_code M := X
    obtain ⟨k, hk1, hk2⟩ := List.any_eq_true.mp hx
    have hk2 := Nat.eq_of_beq_eq_true hk2
    rcases List.mem_cons.mp hk1 with rfl | hk1
    · split at hk
      next L hL =>
        rw [← hk2]
        refine aCpt_ok (C := am_GAsetTagX3.2.1) (rm := ag_GAsetTagf3.2.2.2.2.2.2) (f := fun i => tv_3.getD i 0) ⟨Nat.le_refl _, Nat.le_refl _⟩ X hR (hJ K n) (aFq_dp (hD K n) p) hA.1.symm dk_GAsetTagX3 ⟨jTA_in (wi := 1197) (jtF_ok rfl) rfl, jTA_in (wi := 1199) (jtF_ok rfl) rfl, jTA_in (wi := 1198) (jtF_ok rfl) rfl, jTA_in (wi := 331) (jtF_ok rfl) rfl⟩ rfl (by decide) (fun i hi => ?_) hL hx0 hcx (gArr (m := am_GAsetTagX3) hA.1.symm hk hx0 (gDf hro hcx) (IH K n σ 0 0 rfl))
        have ht := List.all_eq_true.mp tk_3 i (List.mem_range.mpr hi)
        rw [Bool.and_eq_true, decide_eq_true_eq, decide_eq_true_eq] at ht
        exact ht
      next => cases hk
    · cases hk1
end STG
end
section
/-! Math.max, Math.min -/
section MMX
variable {E : jE} {own : String} {Ts : List Jvm.Cond} {cl : List vw_C} {tb : jTb} {nL : Nat} {ini : Bool} {cc : ByteArray} {M : jM} {Q : State → Prop} {n cells slots : Nat}
theorem jk_mmax (X : jX E own Ts cl tb nL ini cc M) {rm : Room} (hR : M.2.2.2.1 = rm) {pc i : Nat} (hd : decode cc pc = .ok (.invokestatic i, 3)) (hli : Jvm.Cond.methodLink own i Lib.Math.max.name ∈ jTA Ts) (hst : Jvm.Cond.static Lib.Math.max.name ∈ jTA Ts) (hin : Jvm.Cond.initialized "java/lang/Math" ∈ jTA Ts) (hco : Jvm.Cond.code Lib.Math.max.name Lib.Math.max.code 2 (some .int) ∈ jTA Ts) {lv : List (Option jv)} {r : List jv} {σ : Nat → jcell} (hf : 1 ≤ rm.frames) (hz : (r.map jcat).sum ≤ 8) (hl : 21 ≤ rm.locals) (hc : cells ≤ rm.cells ∧ slots ≤ rm.slots) {x y : Int32} (k : jJ E cl nL M Q n cells slots (pc + 3) lv (.inl (if x < y then y else x) :: r) σ) : jJ E cl nL M Q n cells slots pc lv (.inl y :: .inl x :: r) σ := by
  obtain ⟨p, l, e, R, s, m, args, below, meth, c⟩ := M
  dsimp only at hR
  subst hR
  obtain ⟨hx, hb, hml, ho, hts, hK, -, -⟩ := X
  intro H locs ls hW hS hL
  refine va_mmax hx hb (by rw [hL.1]; exact hml) ho (hts _ hli) (hts _ hst) (hts _ hin) (hts _ hco) hf (by have := jcat_sum E r; omega) hc.1 hc.2 hd ?_
  exact k H locs ls hW hS hL
theorem jk_mmin (X : jX E own Ts cl tb nL ini cc M) {rm : Room} (hR : M.2.2.2.1 = rm) {pc i : Nat} (hd : decode cc pc = .ok (.invokestatic i, 3)) (hli : Jvm.Cond.methodLink own i Lib.Math.min.name ∈ jTA Ts) (hst : Jvm.Cond.static Lib.Math.min.name ∈ jTA Ts) (hin : Jvm.Cond.initialized "java/lang/Math" ∈ jTA Ts) (hco : Jvm.Cond.code Lib.Math.min.name Lib.Math.min.code 2 (some .int) ∈ jTA Ts) {lv : List (Option jv)} {r : List jv} {σ : Nat → jcell} (hf : 1 ≤ rm.frames) (hz : (r.map jcat).sum ≤ 8) (hl : 21 ≤ rm.locals) (hc : cells ≤ rm.cells ∧ slots ≤ rm.slots) {x y : Int32} (k : jJ E cl nL M Q n cells slots (pc + 3) lv (.inl (if y < x then y else x) :: r) σ) : jJ E cl nL M Q n cells slots pc lv (.inl y :: .inl x :: r) σ := by
  obtain ⟨p, l, e, R, s, m, args, below, meth, c⟩ := M
  dsimp only at hR
  subst hR
  obtain ⟨hx, hb, hml, ho, hts, hK, -, -⟩ := X
  intro H locs ls hW hS hL
  refine va_mmin hx hb (by rw [hL.1]; exact hml) ho (hts _ hli) (hts _ hst) (hts _ hin) (hts _ hco) hf (by have := jcat_sum E r; omega) hc.1 hc.2 hd ?_
  exact k H locs ls hW hS hL
end MMX
/-- two equal numbers give way to one -/
noncomputable def gP2 (m : aMi) (a : Int) (c : aCu) : Bool := (match c.2.1.2.1 with
  | y :: x :: r => decide (aIv c.2.1.2.2.1 y = some (a, a)) && decide (aIv c.2.1.2.2.1 x = some (a, a)) && decide (r.length ≤ 4)
  | _ => false) && aRo c.2.1.2.2.1.length c.2.2.2 && [(c.1 + 3, aPu c.2.1 (c.2.1.2.1.drop 2) (.inl (a, a)) none)].all (fun q => m.2.2.2.2.2.any (fun c2 => Nat.beq c2.1 q.1 && aTo m.2.1 c.2.2.2 c2 q.2))
theorem gP2_ok {P : Type} {F : aFt P} {K : Nat → Nat} {n : Nat} {JX : (Nat → jcell) → Prop} {ρ0 ρ' : List jv} {σ0 : Nat → jcell} {J : jN} {m : aMi} {a : Int} {c : aCu} (h : gP2 m a c = true) (hE : m.2.1.2.2.2.2.2.2 = ρ0.length) (hx0 : aX ρ0 ρ') {lv : List (Option jv)} {st : List jv} {σ : Nat → jcell} (hc : aCx F (aHp m.2.1 K n JX ρ0 σ0) K n c.2.1 ρ' lv st σ) (IH : ∀ c2 ∈ m.2.2.2.2.2, ∀ (ρ2 : List jv) (lv : List (Option jv)) (st : List jv) (σ : Nat → jcell), aLt (c2.2.2.2.map (aRn ρ2)) (c.2.2.2.map (aRn ρ')) → aX ρ0 ρ2 → aCx F (aHp m.2.1 K n JX ρ0 σ0) K n c2.2.1 ρ2 lv st σ → J c2.1 lv st σ) : ∃ (x : Int32) (r : List jv), st = .inl x :: .inl x :: r ∧ (r.map jcat).sum ≤ 8 ∧ J (c.1 + 3) lv (.inl x :: r) σ := by
  unfold gP2 at h
  rw [Bool.and_eq_true, Bool.and_eq_true] at h
  obtain ⟨⟨h1, h2⟩, h3⟩ := h
  split at h1
  next y x r hs =>
    rw [Bool.and_eq_true, Bool.and_eq_true, decide_eq_true_eq, decide_eq_true_eq, decide_eq_true_eq] at h1
    obtain ⟨⟨i1, i2⟩, i3⟩ := h1
    obtain ⟨v1, v2, s1, rfl, k1, k2, k3⟩ := aSk_2 (hs ▸ hc.2.2.1)
    obtain ⟨y0, rfl, hy⟩ := aIv_ok hc.1 i1 k1
    obtain ⟨x0, rfl, hx⟩ := aIv_ok hc.1 i2 k2
    have e : x0 = y0 := Int32.toInt_inj.mp (by
      have a1 : a ≤ x0.toInt := hx.1
      have a2 : x0.toInt ≤ a := hx.2
      have a3 : a ≤ y0.toInt := hy.1
      have a4 : y0.toInt ≤ a := hy.2
      omega)
    subst e
    refine ⟨x0, s1, rfl, by have q1 := jcat_le s1; have q2 := aSk_len k3; omega, ?_⟩
    rw [hs] at h3
    exact aPu_ok (r := none) hc k3 (show aG K n (.inl (a, a)) (.inl x0) from hx) trivial (gArr hE h3 hx0 (gDf h2 hc) IH)
  next => cases h1
theorem ek_max : prog_24_method_65_code = Lib.Math.max.code := by decide +kernel
theorem ek_min : prog_24_method_69_code = Lib.Math.min.code := by decide +kernel
section IXO
variable {P : Type} {F : (Nat → Nat) → Nat → aFt P} {JX : (Nat → Nat) → Nat → (Nat → jcell) → Prop} {l : Launch} {E : jE}
theorem dk_ix11 : decode prog_27_method_22_code 11 = .ok (.invokestatic 92, 3) := by decide +kernel
theorem dk_ix18 : decode prog_27_method_22_code 18 = .ok (.invokestatic 38, 3) := by decide +kernel
theorem ck_ixSLindexOfL : am_SLindexOfXL.2.2.2.2.2.all (fun c => (!(Nat.beq c.1 11) || gP2 am_SLindexOfXL 0 c) && (!(Nat.beq c.1 18) || gP2 am_SLindexOfXL 7 c)) = true := by decide +kernel
theorem az_SLindexOfL (h : gMe F JX l E jtb am_SLindexOfXL an_SLindexOfXL [11, 18] 4 prog_27_method_22_code false) (K : Nat → Nat) (n : Nat) : aMe (F K n) l E jcl jtb lw_tbl fa_T K n (JX K n) ag_SLindexOfL := by
  intro p σ ρ hH hX hA hM
  refine h _ ag_SLindexOfL.2.2.2.2.2.2 ⟨by decide, by decide⟩ K n p σ ρ hH hX hA hM (fun w => w = (K, n, σ, 0, 0)) rfl (fun G hG => by cases hG) ?_ ?_
  · intro K1 n1 σ0 ca sl hw
    cases hw
    exact ⟨⟨Nat.zero_le _, Nat.zero_le _⟩, fun r σ' hp => hp⟩
  · intro M hl hR hsz X hok c hc hx K1 n1 σ0 ca sl hw ρ' lv st σ1 hx0 hcx IH
    cases hw
    have hk := List.all_eq_true.mp ck_ixSLindexOfL c hc
    rw [Bool.and_eq_true, Bool.or_eq_true, Bool.or_eq_true] at hk
    have X : jX E "java/lang/StringLatin1" lw_tbl jcl jtb 4 false prog_27_method_22_code M := X
    obtain ⟨k, hk1, hk2⟩ := List.any_eq_true.mp hx
    have hk2 := Nat.eq_of_beq_eq_true hk2
    rcases List.mem_cons.mp hk1 with rfl | hk1
    · have h1 : gP2 am_SLindexOfXL 0 c = true := hk.1.resolve_left (fun h9 => by rw [← hk2] at h9; cases h9)
      obtain ⟨x, r, rfl, hr, hj⟩ := gP2_ok h1 (ρ0 := ρ) hA.1.symm hx0 hcx (IH K n σ 0 0 rfl)
      rw [← hk2] at hj ⊢
      refine jk_mmax X hR dk_ix11 (jTA_in (wi := 1109) (jtF_ok rfl) rfl) (jTA_in (wi := 1110) (jtF_ok rfl) rfl) (jTA_in (wi := 329) (jtF_ok rfl) rfl) (by rw [← ek_max]; exact jTA_in (wi := 1111) (jtF_ok rfl) rfl) (by decide) hr (by decide) ⟨Nat.zero_le _, Nat.zero_le _⟩ ?_
      rw [ite_self]
      exact hj
    · rcases List.mem_cons.mp hk1 with rfl | hk1
      · have h1 : gP2 am_SLindexOfXL 7 c = true := hk.2.resolve_left (fun h9 => by rw [← hk2] at h9; cases h9)
        obtain ⟨x, r, rfl, hr, hj⟩ := gP2_ok h1 (ρ0 := ρ) hA.1.symm hx0 hcx (IH K n σ 0 0 rfl)
        rw [← hk2] at hj ⊢
        refine jk_mmin X hR dk_ix18 (jTA_in (wi := 1112) (jtF_ok rfl) rfl) (jTA_in (wi := 1113) (jtF_ok rfl) rfl) (jTA_in (wi := 329) (jtF_ok rfl) rfl) (by rw [← ek_min]; exact jTA_in (wi := 1114) (jtF_ok rfl) rfl) (by decide) hr (by decide) ⟨Nat.zero_le _, Nat.zero_le _⟩ ?_
        rw [ite_self]
        exact hj
      · cases hk1
theorem ck_ixSLiOL : am_SLiOXL.2.2.2.2.2.all (fun c => (!(Nat.beq c.1 11) || gP2 am_SLiOXL 0 c) && (!(Nat.beq c.1 18) || gP2 am_SLiOXL 15 c)) = true := by decide +kernel
theorem az_SLiOL (h : gMe F JX l E jtb am_SLiOXL an_SLiOXL [11, 18] 4 prog_27_method_22_code false) (K : Nat → Nat) (n : Nat) : aMe (F K n) l E jcl jtb lw_tbl fa_T K n (JX K n) ag_SLiOL := by
  intro p σ ρ hH hX hA hM
  refine h _ ag_SLiOL.2.2.2.2.2.2 ⟨by decide, by decide⟩ K n p σ ρ hH hX hA hM (fun w => w = (K, n, σ, 0, 0)) rfl (fun G hG => by cases hG) ?_ ?_
  · intro K1 n1 σ0 ca sl hw
    cases hw
    exact ⟨⟨Nat.zero_le _, Nat.zero_le _⟩, fun r σ' hp => hp⟩
  · intro M hl hR hsz X hok c hc hx K1 n1 σ0 ca sl hw ρ' lv st σ1 hx0 hcx IH
    cases hw
    have hk := List.all_eq_true.mp ck_ixSLiOL c hc
    rw [Bool.and_eq_true, Bool.or_eq_true, Bool.or_eq_true] at hk
    have X : jX E "java/lang/StringLatin1" lw_tbl jcl jtb 4 false prog_27_method_22_code M := X
    obtain ⟨k, hk1, hk2⟩ := List.any_eq_true.mp hx
    have hk2 := Nat.eq_of_beq_eq_true hk2
    rcases List.mem_cons.mp hk1 with rfl | hk1
    · have h1 : gP2 am_SLiOXL 0 c = true := hk.1.resolve_left (fun h9 => by rw [← hk2] at h9; cases h9)
      obtain ⟨x, r, rfl, hr, hj⟩ := gP2_ok h1 (ρ0 := ρ) hA.1.symm hx0 hcx (IH K n σ 0 0 rfl)
      rw [← hk2] at hj ⊢
      refine jk_mmax X hR dk_ix11 (jTA_in (wi := 1109) (jtF_ok rfl) rfl) (jTA_in (wi := 1110) (jtF_ok rfl) rfl) (jTA_in (wi := 329) (jtF_ok rfl) rfl) (by rw [← ek_max]; exact jTA_in (wi := 1111) (jtF_ok rfl) rfl) (by decide) hr (by decide) ⟨Nat.zero_le _, Nat.zero_le _⟩ ?_
      rw [ite_self]
      exact hj
    · rcases List.mem_cons.mp hk1 with rfl | hk1
      · have h1 : gP2 am_SLiOXL 15 c = true := hk.2.resolve_left (fun h9 => by rw [← hk2] at h9; cases h9)
        obtain ⟨x, r, rfl, hr, hj⟩ := gP2_ok h1 (ρ0 := ρ) hA.1.symm hx0 hcx (IH K n σ 0 0 rfl)
        rw [← hk2] at hj ⊢
        refine jk_mmin X hR dk_ix18 (jTA_in (wi := 1112) (jtF_ok rfl) rfl) (jTA_in (wi := 1113) (jtF_ok rfl) rfl) (jTA_in (wi := 329) (jtF_ok rfl) rfl) (by rw [← ek_min]; exact jTA_in (wi := 1114) (jtF_ok rfl) rfl) (by decide) hr (by decide) ⟨Nat.zero_le _, Nat.zero_le _⟩ ?_
        rw [ite_self]
        exact hj
      · cases hk1
theorem ck_ixSLiOS : am_SLiOXS.2.2.2.2.2.all (fun c => (!(Nat.beq c.1 11) || gP2 am_SLiOXS 0 c) && (!(Nat.beq c.1 18) || gP2 am_SLiOXS 15 c)) = true := by decide +kernel
theorem az_SLiOS (h : gMe F JX l E jtb am_SLiOXS an_SLiOXS [11, 18] 4 prog_27_method_22_code false) (K : Nat → Nat) (n : Nat) : aMe (F K n) l E jcl jtb lw_tbl fa_T K n (JX K n) ag_SLiOS := by
  intro p σ ρ hH hX hA hM
  refine h _ ag_SLiOS.2.2.2.2.2.2 ⟨by decide, by decide⟩ K n p σ ρ hH hX hA hM (fun w => w = (K, n, σ, 0, 0)) rfl (fun G hG => by cases hG) ?_ ?_
  · intro K1 n1 σ0 ca sl hw
    cases hw
    exact ⟨⟨Nat.zero_le _, Nat.zero_le _⟩, fun r σ' hp => hp⟩
  · intro M hl hR hsz X hok c hc hx K1 n1 σ0 ca sl hw ρ' lv st σ1 hx0 hcx IH
    cases hw
    have hk := List.all_eq_true.mp ck_ixSLiOS c hc
    rw [Bool.and_eq_true, Bool.or_eq_true, Bool.or_eq_true] at hk
    have X : jX E "java/lang/StringLatin1" lw_tbl jcl jtb 4 false prog_27_method_22_code M := X
    obtain ⟨k, hk1, hk2⟩ := List.any_eq_true.mp hx
    have hk2 := Nat.eq_of_beq_eq_true hk2
    rcases List.mem_cons.mp hk1 with rfl | hk1
    · have h1 : gP2 am_SLiOXS 0 c = true := hk.1.resolve_left (fun h9 => by rw [← hk2] at h9; cases h9)
      obtain ⟨x, r, rfl, hr, hj⟩ := gP2_ok h1 (ρ0 := ρ) hA.1.symm hx0 hcx (IH K n σ 0 0 rfl)
      rw [← hk2] at hj ⊢
      refine jk_mmax X hR dk_ix11 (jTA_in (wi := 1109) (jtF_ok rfl) rfl) (jTA_in (wi := 1110) (jtF_ok rfl) rfl) (jTA_in (wi := 329) (jtF_ok rfl) rfl) (by rw [← ek_max]; exact jTA_in (wi := 1111) (jtF_ok rfl) rfl) (by decide) hr (by decide) ⟨Nat.zero_le _, Nat.zero_le _⟩ ?_
      rw [ite_self]
      exact hj
    · rcases List.mem_cons.mp hk1 with rfl | hk1
      · have h1 : gP2 am_SLiOXS 15 c = true := hk.2.resolve_left (fun h9 => by rw [← hk2] at h9; cases h9)
        obtain ⟨x, r, rfl, hr, hj⟩ := gP2_ok h1 (ρ0 := ρ) hA.1.symm hx0 hcx (IH K n σ 0 0 rfl)
        rw [← hk2] at hj ⊢
        refine jk_mmin X hR dk_ix18 (jTA_in (wi := 1112) (jtF_ok rfl) rfl) (jTA_in (wi := 1113) (jtF_ok rfl) rfl) (jTA_in (wi := 329) (jtF_ok rfl) rfl) (by rw [← ek_min]; exact jTA_in (wi := 1114) (jtF_ok rfl) rfl) (by decide) hr (by decide) ⟨Nat.zero_le _, Nat.zero_le _⟩ ?_
        rw [ite_self]
        exact hj
      · cases hk1
theorem ck_ixSLiOH : am_SLiOXH.2.2.2.2.2.all (fun c => (!(Nat.beq c.1 11) || gP2 am_SLiOXH 0 c) && (!(Nat.beq c.1 18) || gP2 am_SLiOXH 15 c)) = true := by decide +kernel
theorem az_SLiOH (h : gMe F JX l E jtb am_SLiOXH an_SLiOXH [11, 18] 4 prog_27_method_22_code false) (K : Nat → Nat) (n : Nat) : aMe (F K n) l E jcl jtb lw_tbl fa_T K n (JX K n) ag_SLiOH := by
  intro p σ ρ hH hX hA hM
  refine h _ ag_SLiOH.2.2.2.2.2.2 ⟨by decide, by decide⟩ K n p σ ρ hH hX hA hM (fun w => w = (K, n, σ, 0, 0)) rfl (fun G hG => by cases hG) ?_ ?_
  · intro K1 n1 σ0 ca sl hw
    cases hw
    exact ⟨⟨Nat.zero_le _, Nat.zero_le _⟩, fun r σ' hp => hp⟩
  · intro M hl hR hsz X hok c hc hx K1 n1 σ0 ca sl hw ρ' lv st σ1 hx0 hcx IH
    cases hw
    have hk := List.all_eq_true.mp ck_ixSLiOH c hc
    rw [Bool.and_eq_true, Bool.or_eq_true, Bool.or_eq_true] at hk
    have X : jX E "java/lang/StringLatin1" lw_tbl jcl jtb 4 false prog_27_method_22_code M := X
    obtain ⟨k, hk1, hk2⟩ := List.any_eq_true.mp hx
    have hk2 := Nat.eq_of_beq_eq_true hk2
    rcases List.mem_cons.mp hk1 with rfl | hk1
    · have h1 : gP2 am_SLiOXH 0 c = true := hk.1.resolve_left (fun h9 => by rw [← hk2] at h9; cases h9)
      obtain ⟨x, r, rfl, hr, hj⟩ := gP2_ok h1 (ρ0 := ρ) hA.1.symm hx0 hcx (IH K n σ 0 0 rfl)
      rw [← hk2] at hj ⊢
      refine jk_mmax X hR dk_ix11 (jTA_in (wi := 1109) (jtF_ok rfl) rfl) (jTA_in (wi := 1110) (jtF_ok rfl) rfl) (jTA_in (wi := 329) (jtF_ok rfl) rfl) (by rw [← ek_max]; exact jTA_in (wi := 1111) (jtF_ok rfl) rfl) (by decide) hr (by decide) ⟨Nat.zero_le _, Nat.zero_le _⟩ ?_
      rw [ite_self]
      exact hj
    · rcases List.mem_cons.mp hk1 with rfl | hk1
      · have h1 : gP2 am_SLiOXH 15 c = true := hk.2.resolve_left (fun h9 => by rw [← hk2] at h9; cases h9)
        obtain ⟨x, r, rfl, hr, hj⟩ := gP2_ok h1 (ρ0 := ρ) hA.1.symm hx0 hcx (IH K n σ 0 0 rfl)
        rw [← hk2] at hj ⊢
        refine jk_mmin X hR dk_ix18 (jTA_in (wi := 1112) (jtF_ok rfl) rfl) (jTA_in (wi := 1113) (jtF_ok rfl) rfl) (jTA_in (wi := 329) (jtF_ok rfl) rfl) (by rw [← ek_min]; exact jTA_in (wi := 1114) (jtF_ok rfl) rfl) (by decide) hr (by decide) ⟨Nat.zero_le _, Nat.zero_le _⟩ ?_
        rw [ite_self]
        exact hj
      · cases hk1
theorem ck_ixSLiOX : am_SLiOXX.2.2.2.2.2.all (fun c => (!(Nat.beq c.1 11) || gP2 am_SLiOXX 0 c) && (!(Nat.beq c.1 18) || gP2 am_SLiOXX 15 c)) = true := by decide +kernel
theorem az_SLiOX (h : gMe F JX l E jtb am_SLiOXX an_SLiOXX [11, 18] 4 prog_27_method_22_code false) (K : Nat → Nat) (n : Nat) : aMe (F K n) l E jcl jtb lw_tbl fa_T K n (JX K n) ag_SLiOX := by
  intro p σ ρ hH hX hA hM
  refine h _ ag_SLiOX.2.2.2.2.2.2 ⟨by decide, by decide⟩ K n p σ ρ hH hX hA hM (fun w => w = (K, n, σ, 0, 0)) rfl (fun G hG => by cases hG) ?_ ?_
  · intro K1 n1 σ0 ca sl hw
    cases hw
    exact ⟨⟨Nat.zero_le _, Nat.zero_le _⟩, fun r σ' hp => hp⟩
  · intro M hl hR hsz X hok c hc hx K1 n1 σ0 ca sl hw ρ' lv st σ1 hx0 hcx IH
    cases hw
    have hk := List.all_eq_true.mp ck_ixSLiOX c hc
    rw [Bool.and_eq_true, Bool.or_eq_true, Bool.or_eq_true] at hk
    have X : jX E "java/lang/StringLatin1" lw_tbl jcl jtb 4 false prog_27_method_22_code M := X
    obtain ⟨k, hk1, hk2⟩ := List.any_eq_true.mp hx
    have hk2 := Nat.eq_of_beq_eq_true hk2
    rcases List.mem_cons.mp hk1 with rfl | hk1
    · have h1 : gP2 am_SLiOXX 0 c = true := hk.1.resolve_left (fun h9 => by rw [← hk2] at h9; cases h9)
      obtain ⟨x, r, rfl, hr, hj⟩ := gP2_ok h1 (ρ0 := ρ) hA.1.symm hx0 hcx (IH K n σ 0 0 rfl)
      rw [← hk2] at hj ⊢
      refine jk_mmax X hR dk_ix11 (jTA_in (wi := 1109) (jtF_ok rfl) rfl) (jTA_in (wi := 1110) (jtF_ok rfl) rfl) (jTA_in (wi := 329) (jtF_ok rfl) rfl) (by rw [← ek_max]; exact jTA_in (wi := 1111) (jtF_ok rfl) rfl) (by decide) hr (by decide) ⟨Nat.zero_le _, Nat.zero_le _⟩ ?_
      rw [ite_self]
      exact hj
    · rcases List.mem_cons.mp hk1 with rfl | hk1
      · have h1 : gP2 am_SLiOXX 15 c = true := hk.2.resolve_left (fun h9 => by rw [← hk2] at h9; cases h9)
        obtain ⟨x, r, rfl, hr, hj⟩ := gP2_ok h1 (ρ0 := ρ) hA.1.symm hx0 hcx (IH K n σ 0 0 rfl)
        rw [← hk2] at hj ⊢
        refine jk_mmin X hR dk_ix18 (jTA_in (wi := 1112) (jtF_ok rfl) rfl) (jTA_in (wi := 1113) (jtF_ok rfl) rfl) (jTA_in (wi := 329) (jtF_ok rfl) rfl) (by rw [← ek_min]; exact jTA_in (wi := 1114) (jtF_ok rfl) rfl) (by decide) hr (by decide) ⟨Nat.zero_le _, Nat.zero_le _⟩ ?_
        rw [ite_self]
        exact hj
      · cases hk1
end IXO
end
section
/-! the class: all its contracts closed -/
section ZC
variable {l : Launch} {E : jE}
set_option maxRecDepth 100000 in
theorem zc_CHfeed (K : Nat → Nat) (n : Nat) : aMe (fF K n) l E jcl jtb lw_tbl fa_T K n (fJX K n) ag_CHfeed := ae_CHfeed fJX_jx (fF_sh K n) fF_dpa fF_dp fF_dpc fF_dpd fF_dpe fF_dpf fF_dpg fF_dph fF_dpi rw_ruFd2 rw_ruFd3 rw_ruFd4 rw_ruFd5
set_option maxRecDepth 100000 in
theorem zc_CHout (K : Nat → Nat) (n : Nat) : aMe (fF K n) l E jcl jtb lw_tbl fa_T K n (fJX K n) ag_CHout := ae_CHout fJX_jx (fF_sh K n) fF_dpa fF_dp fF_dpc fF_dpd fF_dpe fF_dpf fF_dpg fF_dph fF_dpi
set_option maxRecDepth 100000 in
theorem zc_CHsize (K : Nat → Nat) (n : Nat) : aMe (fF K n) l E jcl jtb lw_tbl fa_T K n (fJX K n) ag_CHsize := ae_CHsize fJX_jx (fF_sh K n) fF_dpa fF_dp fF_dpc fF_dpd fF_dpe fF_dpf fF_dpg fF_dph fF_dpi
set_option maxRecDepth 100000 in
theorem zc_WOtake : gMe (fun K n => fF K n) (fun K n => fJX K n) l E jtb am_WOtake an_WOtake [63, 70] 8 prog_13_method_2_code false := ae_WOtake (F := fun K n => fF K n) (JX := fun K n => fJX K n) (fun K n => fJX_jx) (fun K n => (fF_sh K n)) (fun K n => fF_dpa) (fun K n => fF_dp) (fun K n => fF_dpc) (fun K n => fF_dpd) (fun K n => fF_dpe) (fun K n => fF_dpf) (fun K n => fF_dpg) (fun K n => fF_dph) (fun K n => fF_dpi) rMn_nil
set_option maxRecDepth 100000 in
theorem zc_ENbuildQ5 : gCut (fun K n => fF K n) (fun K n => fJX K n) l E jtb am_ENbuildQ5 11 prog_6_method_8_code := ae_ENbuildQ5 (F := fun K n => fF K n) (JX := fun K n => fJX K n) (fun K n => fJX_jx) (fun K n => (fF_sh K n)) (fun K n => fF_dpa) (fun K n => fF_dp) (fun K n => fF_dpc) (fun K n => fF_dpd) (fun K n => fF_dpe) (fun K n => fF_dpf) (fun K n => fF_dpg) (fun K n => fF_dph) (fun K n => fF_dpi)
set_option maxRecDepth 100000 in
theorem zc_ENbuildQ4 : gCut (fun K n => fF K n) (fun K n => fJX K n) l E jtb am_ENbuildQ4 11 prog_6_method_8_code := ae_ENbuildQ4 (F := fun K n => fF K n) (JX := fun K n => fJX K n) (fun K n => fJX_jx) (fun K n => (fF_sh K n)) (fun K n => fF_dpa) (fun K n => fF_dp) (fun K n => fF_dpc) (fun K n => fF_dpd) (fun K n => fF_dpe) (fun K n => fF_dpf) (fun K n => fF_dpg) (fun K n => fF_dph) (fun K n => fF_dpi)
set_option maxRecDepth 100000 in
theorem zc_ENbuildP : gCut (fun K n => fF K n) (fun K n => fJX K n) l E jtb am_ENbuildP 11 prog_6_method_8_code := ae_ENbuildP (F := fun K n => fF K n) (JX := fun K n => fJX K n) (fun K n => fJX_jx) (fun K n => (fF_sh K n)) (fun K n => fF_dpa) (fun K n => fF_dp) (fun K n => fF_dpc) (fun K n => fF_dpd) (fun K n => fF_dpe) (fun K n => fF_dpf) (fun K n => fF_dpg) (fun K n => fF_dph) (fun K n => fF_dpi)
set_option maxRecDepth 100000 in
theorem zc_ENprepareG : gMr (fun K n => fF K n) (fun K n => fJX K n) l E jtb am_ENprepareG an_ENprepareG [13] 3 prog_6_method_2_code false := ae_ENprepareG (F := fun K n => fF K n) (JX := fun K n => fJX K n) (fun K n => fJX_jx) (fun K n => (fF_sh K n)) (fun K n => fF_dpa) (fun K n => fF_dp) (fun K n => fF_dpc) (fun K n => fF_dpd) (fun K n => fF_dpe) (fun K n => fF_dpf) (fun K n => fF_dpg) (fun K n => fF_dph) (fun K n => fF_dpi) rMn_nil
set_option maxRecDepth 100000 in
theorem zc_BOmake (K : Nat → Nat) (n : Nat) : aMe (fF K n) l E jcl jtb lw_tbl fa_T K n (fJX K n) ag_BOmake := ae_BOmake 
set_option maxRecDepth 100000 in
theorem zc_BOunmake (K : Nat → Nat) (n : Nat) : aMe (fF K n) l E jcl jtb lw_tbl fa_T K n (fJX K n) ag_BOunmake := ae_BOunmake 
set_option maxRecDepth 100000 in
theorem zc_BYadda (K : Nat → Nat) (n : Nat) : aMe (fF K n) l E jcl jtb lw_tbl fa_T K n (fJX K n) ag_BYadda := ae_BYadda fJX_jx (fF_sh K n) fF_dpa
set_option maxRecDepth 100000 in
theorem zc_CHanswerEndsG : gMr (fun K n => fF K n) (fun K n => fJX K n) l E jtb am_CHanswerEndsG an_CHanswerEndsG [30] 1 prog_1_method_46_code false := ae_CHanswerEndsG (F := fun K n => fF K n) (JX := fun K n => fJX K n) (fun K n => fJX_jx) (fun K n => (fF_sh K n)) (fun K n => fF_dpa) (fun K n => fF_dp) (fun K n => fF_dpc) (fun K n => fF_dpd) (fun K n => fF_dpe) (fun K n => fF_dpf) (fun K n => fF_dpg) (fun K n => fF_dph) (fun K n => fF_dpi) (fun K n => (zc_BOmake K n)) (fun K n => (zc_BOunmake K n)) (fun K n => (az_BYnumbera (zc_BYadda K n))) (fun K n => rw_ruAH0) (fun K n => rw_ruAHV) (fun K n => rw_ruAHd) (fun K n => rw_ruAHe) (fun K n => rw_ruAHg) (fun K n => rw_ruAHl) (fun K n => rw_ruAHn) (fun K n => rw_ruAHy) (fun K n => rw_ruAHz) (fun K n => rw_ruAR0) (fun K n => rw_ruARe) (fun K n => rw_ruARn) (fun K n => rw_ruARq) (fun K n => rw_ruARx) (fun K n => rw_ruB1) (fun K n => rw_ruB2) (fun K n => rw_ruB3) (fun K n => rw_ruB4) (fun K n => rw_ruB5a) (fun K n => rw_ruB5b) (fun K n => rw_ruB6) (fun K n => rw_ruBec) (fun K n => rw_ruC1) (fun K n => rw_ruC2) (fun K n => rw_ruCEL) (fun K n => rw_ruCK) (fun K n => rw_ruCKr) (fun K n => rw_ruD1) (fun K n => rw_ruD2) (fun K n => rw_ruD3) (fun K n => rw_ruEN0) (fun K n => rw_ruENa) (fun K n => rw_ruENb) (fun K n => rw_ruFR1) (fun K n => rw_ruFRa) (fun K n => rw_ruFRb) (fun K n => rw_ruFRc) (fun K n => rw_ruFRd) (fun K n => rw_ruFRe) (fun K n => rw_ruGC0EN) (fun K n => rw_ruGC1EN) (fun K n => rw_ruGC2EN) (fun K n => rw_ruGClEN) (fun K n => rw_ruGClSI) (fun K n => rw_ruGCnEN) (fun K n => rw_ruGCsEN) (fun K n => rw_ruGCsSI) (fun K n => rw_ruGCvEN) (fun K n => rw_ruGCwEN) (fun K n => rw_ruGD0EN) (fun K n => rw_ruGD1EN) (fun K n => rw_ruGD2EN) (fun K n => rw_ruGD3EN) (fun K n => rw_ruGDEN) (fun K n => rw_ruGDSI) (fun K n => rw_ruGDnEN) (fun K n => rw_ruGHEN) (fun K n => rw_ruGHSI) (fun K n => rw_ruGHaEN) (fun K n => rw_ruGHdEN) (fun K n => rw_ruGHeEN) (fun K n => rw_ruGHnEN) (fun K n => rw_ruGHoEN) (fun K n => rw_ruGHqEN) (fun K n => rw_ruGHsEN) (fun K n => rw_ruGKEN) (fun K n => rw_ruGKSI) (fun K n => rw_ruGKaEN) (fun K n => rw_ruGKahEN) (fun K n => rw_ruGKbhEN) (fun K n => rw_ruGKchEN) (fun K n => rw_ruGKdEN) (fun K n => rw_ruGKdhEN) (fun K n => rw_ruGKeEN) (fun K n => rw_ruGKnEN) (fun K n => rw_ruGKoEN) (fun K n => rw_ruGKqEN) (fun K n => rw_ruGKsEN) (fun K n => rw_ruGKzEN) (fun K n => rw_ruGPdEN) (fun K n => rw_ruGPdSI) (fun K n => rw_ruGPuEN) (fun K n => rw_ruGPuSI) (fun K n => rw_ruGQ0EN) (fun K n => rw_ruGQ8EN) (fun K n => rw_ruGQ9EN) (fun K n => rw_ruGQdEN) (fun K n => rw_ruGQmEN) (fun K n => rw_ruGQnEN) (fun K n => rw_ruGQqEN) (fun K n => rw_ruGQsEN) (fun K n => rw_ruGQzEN) (fun K n => rw_ruGR1EN) (fun K n => rw_ruGR2EN) (fun K n => rw_ruGRnEN) (fun K n => rw_ruGRrEN) (fun K n => rw_ruGRsEN) (fun K n => rw_ruGSEN) (fun K n => rw_ruGSSI) (fun K n => rw_ruGSaEN) (fun K n => rw_ruGSbEN) (fun K n => rw_ruGScEN) (fun K n => rw_ruGSeEN) (fun K n => rw_ruGSfEN) (fun K n => rw_ruGSgEN) (fun K n => rw_ruGSk3EN) (fun K n => rw_ruGSk4EN) (fun K n => rw_ruGSk5EN) (fun K n => rw_ruGSnEN) (fun K n => rw_ruGSoEN) (fun K n => rw_ruGSqEN) (fun K n => rw_ruGSsEN) (fun K n => rw_ruGUEN) (fun K n => rw_ruHEfEN) (fun K n => rw_ruHEkEN) (fun K n => rw_ruHI0EN) (fun K n => rw_ruHIkEN) (fun K n => rw_ruHInEN) (fun K n => rw_ruHIsEN) (fun K n => rw_ruHOP) (fun K n => rw_ruHQ0EN) (fun K n => rw_ruHQeEN) (fun K n => rw_ruHQnEN) (fun K n => rw_ruICa) (fun K n => rw_ruICb) (fun K n => rw_ruICc) (fun K n => rw_ruICd) (fun K n => rw_ruICe) (fun K n => rw_ruK7) (fun K n => rw_ruKD) (fun K n => rw_ruKH) (fun K n => rw_ruKSEN) (fun K n => rw_ruKSSI) (fun K n => rw_ruKST) (fun K n => rw_ruKT0) (fun K n => rw_ruKT1) (fun K n => rw_ruKT2) (fun K n => rw_ruKTO) (fun K n => rw_ruKnEN) (fun K n => rw_ruKnSI) (fun K n => rw_ruLL0EN) (fun K n => rw_ruLL0SI) (fun K n => rw_ruLLeEN) (fun K n => rw_ruLLeSI) (fun K n => rw_ruLLoEN) (fun K n => rw_ruLLsEN) (fun K n => rw_ruLMlEN) (fun K n => rw_ruLMpEN) (fun K n => rw_ruLMrEN) (fun K n => rw_ruLMrSI) (fun K n => rw_ruLO0b) (fun K n => rw_ruLO1) (fun K n => rw_ruLO2) (fun K n => rw_ruLOx) (fun K n => rw_ruLS0) (fun K n => rw_ruLS1) (fun K n => rw_ruLS2) (fun K n => rw_ruLTa) (fun K n => rw_ruLTn) (fun K n => rw_ruLTs) (fun K n => rw_ruLTt) (fun K n => rw_ruLTw) (fun K n => rw_ruLXnEN) (fun K n => rw_ruLXnSI) (fun K n => rw_ruLwEN) (fun K n => rw_ruLwSI) (fun K n => rw_ruM0a) (fun K n => rw_ruM0l) (fun K n => rw_ruM0m) (fun K n => rw_ruM0s) (fun K n => rw_ruMK) (fun K n => rw_ruMT) (fun K n => rw_ruMan) (fun K n => rw_ruN13) (fun K n => rw_ruN7) (fun K n => rw_ruN8) (fun K n => rw_ruNC0) (fun K n => rw_ruNC1) (fun K n => rw_ruNEa) (fun K n => rw_ruNEb) (fun K n => rw_ruNF0) (fun K n => rw_ruNF1) (fun K n => rw_ruNF2) (fun K n => rw_ruNK) (fun K n => rw_ruNMa) (fun K n => rw_ruNMb) (fun K n => rw_ruNR0) (fun K n => rw_ruNR1a) (fun K n => rw_ruNR1b) (fun K n => rw_ruNR1c) (fun K n => rw_ruNR1d) (fun K n => rw_ruNR2) (fun K n => rw_ruNR3) (fun K n => rw_ruNR4) (fun K n => rw_ruNR6) (fun K n => rw_ruNR7) (fun K n => rw_ruNZa) (fun K n => rw_ruNZb) (fun K n => rw_ruOA1) (fun K n => rw_ruOA2) (fun K n => rw_ruOSa) (fun K n => rw_ruOSb) (fun K n => rw_ruOW1) (fun K n => rw_ruOW2) (fun K n => rw_ruOW6) (fun K n => rw_ruP1) (fun K n => rw_ruP8) (fun K n => rw_ruPE) (fun K n => rw_ruPG1) (fun K n => rw_ruPG2) (fun K n => rw_ruPG3a) (fun K n => rw_ruPG3b) (fun K n => rw_ruPN1) (fun K n => rw_ruPN2) (fun K n => rw_ruPN3) (fun K n => rw_ruPN4) (fun K n => rw_ruPN5) (fun K n => rw_ruPN6a) (fun K n => rw_ruPN6b) (fun K n => rw_ruPO) (fun K n => rw_ruPP) (fun K n => rw_ruPTW) (fun K n => rw_ruQF) (fun K n => rw_ruRAY0) (fun K n => rw_ruRAYn) (fun K n => rw_ruRAYs) (fun K n => rw_ruREA) (fun K n => rw_ruRKa) (fun K n => rw_ruRKb) (fun K n => rw_ruRKc) (fun K n => rw_ruRKd) (fun K n => rw_ruRT0) (fun K n => rw_ruRT1) (fun K n => rw_ruRTS) (fun K n => rw_ruRl10) (fun K n => rw_ruRl11) (fun K n => rw_ruRl12) (fun K n => rw_ruRl13) (fun K n => rw_ruRl14) (fun K n => rw_ruRs0) (fun K n => rw_ruRs1) (fun K n => rw_ruRs2) (fun K n => rw_ruRs3) (fun K n => rw_ruRs4) (fun K n => rw_ruRs5) (fun K n => rw_ruRs6) (fun K n => rw_ruRs7) (fun K n => rw_ruRs8) (fun K n => rw_ruRs9) (fun K n => rw_ruSFLEN) (fun K n => rw_ruSG1) (fun K n => rw_ruSGa5) (fun K n => rw_ruSGb) (fun K n => rw_ruSGc) (fun K n => rw_ruSGd5) (fun K n => rw_ruSGe) (fun K n => rw_ruSGf) (fun K n => rw_ruSLB) (fun K n => rw_ruSLC0) (fun K n => rw_ruSLCa) (fun K n => rw_ruSLCb) (fun K n => rw_ruSLF) (fun K n => rw_ruSLI0) (fun K n => rw_ruSLIn) (fun K n => rw_ruSQ) (fun K n => rw_ruSQD) (fun K n => rw_ruSQE) (fun K n => rw_ruSTP0) (fun K n => rw_ruSTP1) (fun K n => rw_ruSTP2) (fun K n => rw_ruSTP3) (fun K n => rw_ruSTP4) (fun K n => rw_ruSTP5) (fun K n => rw_ruSTP6) (fun K n => rw_ruSTP7) (fun K n => rw_ruTG) (fun K n => rw_ruTGr) (fun K n => rw_ruTRI) (fun K n => rw_ruTVc) (fun K n => rw_ruWHa) (fun K n => rw_ruWHb) (fun K n => rw_ruWHc) (fun K n => rw_ruWHd) (fun K n => rw_ruWPa) (fun K n => rw_ruWPb) (fun K n => rw_ruXMl) (fun K n => rw_ruXMm) (fun K n => rw_ruXMp) (fun K n => rw_ruXl10) (fun K n => rw_ruXl11) (fun K n => rw_ruXl12) (fun K n => rw_ruXl13) (fun K n => rw_ruXl14) (fun K n => rw_ruXs0) (fun K n => rw_ruXs1) (fun K n => rw_ruXs2) (fun K n => rw_ruXs3) (fun K n => rw_ruXs4) (fun K n => rw_ruXs5) (fun K n => rw_ruXs6) (fun K n => rw_ruXs7) (fun K n => rw_ruXs8) (fun K n => rw_ruXs9) (fun K n => rw_ruYR1a) (fun K n => rw_ruYR1b) (fun K n => rw_ruYR3) (fun K n => rw_ruYR4) (fun K n => rw_ruYR5) (fun K n => rw_ruYR6) (fun K n => rw_ruYl10) (fun K n => rw_ruYl11) (fun K n => rw_ruYl12) (fun K n => rw_ruYl13) (fun K n => rw_ruYl14) (fun K n => rw_ruYs0) (fun K n => rw_ruYs1) (fun K n => rw_ruYs2) (fun K n => rw_ruYs3) (fun K n => rw_ruYs4) (fun K n => rw_ruYs5) (fun K n => rw_ruYs6) (fun K n => rw_ruYs7) (fun K n => rw_ruYs8) (fun K n => rw_ruYs9) (fun K n => rw_ruZnEN) (fun K n => rw_ruZnSI) rMn_nil
set_option maxRecDepth 100000 in
theorem zc_BOputS0 (K : Nat → Nat) (n : Nat) : aMe (fF K n) l E jcl jtb lw_tbl fa_T K n (fJX K n) ag_BOputS0 := ae_BOputS0 
set_option maxRecDepth 100000 in
theorem zc_BOputS1 (K : Nat → Nat) (n : Nat) : aMe (fF K n) l E jcl jtb lw_tbl fa_T K n (fJX K n) ag_BOputS1 := ae_BOputS1 
set_option maxRecDepth 100000 in
theorem zc_BOputS10 (K : Nat → Nat) (n : Nat) : aMe (fF K n) l E jcl jtb lw_tbl fa_T K n (fJX K n) ag_BOputS10 := ae_BOputS10 
set_option maxRecDepth 100000 in
theorem zc_BOputS11 (K : Nat → Nat) (n : Nat) : aMe (fF K n) l E jcl jtb lw_tbl fa_T K n (fJX K n) ag_BOputS11 := ae_BOputS11 
set_option maxRecDepth 100000 in
theorem zc_BOputS12 (K : Nat → Nat) (n : Nat) : aMe (fF K n) l E jcl jtb lw_tbl fa_T K n (fJX K n) ag_BOputS12 := ae_BOputS12 
set_option maxRecDepth 100000 in
theorem zc_BOputS13 (K : Nat → Nat) (n : Nat) : aMe (fF K n) l E jcl jtb lw_tbl fa_T K n (fJX K n) ag_BOputS13 := ae_BOputS13 
set_option maxRecDepth 100000 in
theorem zc_BOputS14 (K : Nat → Nat) (n : Nat) : aMe (fF K n) l E jcl jtb lw_tbl fa_T K n (fJX K n) ag_BOputS14 := ae_BOputS14 
set_option maxRecDepth 100000 in
theorem zc_BOputS15 (K : Nat → Nat) (n : Nat) : aMe (fF K n) l E jcl jtb lw_tbl fa_T K n (fJX K n) ag_BOputS15 := ae_BOputS15 
set_option maxRecDepth 100000 in
theorem zc_BOputS16 (K : Nat → Nat) (n : Nat) : aMe (fF K n) l E jcl jtb lw_tbl fa_T K n (fJX K n) ag_BOputS16 := ae_BOputS16 
set_option maxRecDepth 100000 in
theorem zc_BOputS17 (K : Nat → Nat) (n : Nat) : aMe (fF K n) l E jcl jtb lw_tbl fa_T K n (fJX K n) ag_BOputS17 := ae_BOputS17 
set_option maxRecDepth 100000 in
theorem zc_BOputS18 (K : Nat → Nat) (n : Nat) : aMe (fF K n) l E jcl jtb lw_tbl fa_T K n (fJX K n) ag_BOputS18 := ae_BOputS18 
set_option maxRecDepth 100000 in
theorem zc_BOputS19 (K : Nat → Nat) (n : Nat) : aMe (fF K n) l E jcl jtb lw_tbl fa_T K n (fJX K n) ag_BOputS19 := ae_BOputS19 
set_option maxRecDepth 100000 in
theorem zc_BOputS2 (K : Nat → Nat) (n : Nat) : aMe (fF K n) l E jcl jtb lw_tbl fa_T K n (fJX K n) ag_BOputS2 := ae_BOputS2 
set_option maxRecDepth 100000 in
theorem zc_BOputS20 (K : Nat → Nat) (n : Nat) : aMe (fF K n) l E jcl jtb lw_tbl fa_T K n (fJX K n) ag_BOputS20 := ae_BOputS20 
set_option maxRecDepth 100000 in
theorem zc_BOputS21 (K : Nat → Nat) (n : Nat) : aMe (fF K n) l E jcl jtb lw_tbl fa_T K n (fJX K n) ag_BOputS21 := ae_BOputS21 
set_option maxRecDepth 100000 in
theorem zc_BOputS22 (K : Nat → Nat) (n : Nat) : aMe (fF K n) l E jcl jtb lw_tbl fa_T K n (fJX K n) ag_BOputS22 := ae_BOputS22 
set_option maxRecDepth 100000 in
theorem zc_BOputS23 (K : Nat → Nat) (n : Nat) : aMe (fF K n) l E jcl jtb lw_tbl fa_T K n (fJX K n) ag_BOputS23 := ae_BOputS23 
set_option maxRecDepth 100000 in
theorem zc_BOputS24 (K : Nat → Nat) (n : Nat) : aMe (fF K n) l E jcl jtb lw_tbl fa_T K n (fJX K n) ag_BOputS24 := ae_BOputS24 
set_option maxRecDepth 100000 in
theorem zc_BOputS25 (K : Nat → Nat) (n : Nat) : aMe (fF K n) l E jcl jtb lw_tbl fa_T K n (fJX K n) ag_BOputS25 := ae_BOputS25 
set_option maxRecDepth 100000 in
theorem zc_BOputS26 (K : Nat → Nat) (n : Nat) : aMe (fF K n) l E jcl jtb lw_tbl fa_T K n (fJX K n) ag_BOputS26 := ae_BOputS26 
set_option maxRecDepth 100000 in
theorem zc_BOputS27 (K : Nat → Nat) (n : Nat) : aMe (fF K n) l E jcl jtb lw_tbl fa_T K n (fJX K n) ag_BOputS27 := ae_BOputS27 
set_option maxRecDepth 100000 in
theorem zc_BOputS28 (K : Nat → Nat) (n : Nat) : aMe (fF K n) l E jcl jtb lw_tbl fa_T K n (fJX K n) ag_BOputS28 := ae_BOputS28 
set_option maxRecDepth 100000 in
theorem zc_BOputS29 (K : Nat → Nat) (n : Nat) : aMe (fF K n) l E jcl jtb lw_tbl fa_T K n (fJX K n) ag_BOputS29 := ae_BOputS29 
set_option maxRecDepth 100000 in
theorem zc_BOputS3 (K : Nat → Nat) (n : Nat) : aMe (fF K n) l E jcl jtb lw_tbl fa_T K n (fJX K n) ag_BOputS3 := ae_BOputS3 
set_option maxRecDepth 100000 in
theorem zc_BOputS30 (K : Nat → Nat) (n : Nat) : aMe (fF K n) l E jcl jtb lw_tbl fa_T K n (fJX K n) ag_BOputS30 := ae_BOputS30 
set_option maxRecDepth 100000 in
theorem zc_BOputS31 (K : Nat → Nat) (n : Nat) : aMe (fF K n) l E jcl jtb lw_tbl fa_T K n (fJX K n) ag_BOputS31 := ae_BOputS31 
set_option maxRecDepth 100000 in
theorem zc_BOputS4 (K : Nat → Nat) (n : Nat) : aMe (fF K n) l E jcl jtb lw_tbl fa_T K n (fJX K n) ag_BOputS4 := ae_BOputS4 
set_option maxRecDepth 100000 in
theorem zc_BOputS5 (K : Nat → Nat) (n : Nat) : aMe (fF K n) l E jcl jtb lw_tbl fa_T K n (fJX K n) ag_BOputS5 := ae_BOputS5 
set_option maxRecDepth 100000 in
theorem zc_BOputS6 (K : Nat → Nat) (n : Nat) : aMe (fF K n) l E jcl jtb lw_tbl fa_T K n (fJX K n) ag_BOputS6 := ae_BOputS6 
set_option maxRecDepth 100000 in
theorem zc_BOputS7 (K : Nat → Nat) (n : Nat) : aMe (fF K n) l E jcl jtb lw_tbl fa_T K n (fJX K n) ag_BOputS7 := ae_BOputS7 
set_option maxRecDepth 100000 in
theorem zc_BOputS8 (K : Nat → Nat) (n : Nat) : aMe (fF K n) l E jcl jtb lw_tbl fa_T K n (fJX K n) ag_BOputS8 := ae_BOputS8 
set_option maxRecDepth 100000 in
theorem zc_BOputS9 (K : Nat → Nat) (n : Nat) : aMe (fF K n) l E jcl jtb lw_tbl fa_T K n (fJX K n) ag_BOputS9 := ae_BOputS9 
set_option maxRecDepth 100000 in
theorem zc_BOsetFirstF (K : Nat → Nat) (n : Nat) : aMe (fF K n) l E jcl jtb lw_tbl fa_T K n (fJX K n) ag_BOsetFirstF := ae_BOsetFirstF fJX_jx (fF_sh K n) fF_dpa fF_dp fF_dpc fF_dpd fF_dpe fF_dpf fF_dpg (zc_BOputS0 K n) (zc_BOputS1 K n) (zc_BOputS10 K n) (zc_BOputS11 K n) (zc_BOputS12 K n) (zc_BOputS13 K n) (zc_BOputS14 K n) (zc_BOputS15 K n) (zc_BOputS16 K n) (zc_BOputS17 K n) (zc_BOputS18 K n) (zc_BOputS19 K n) (zc_BOputS2 K n) (zc_BOputS20 K n) (zc_BOputS21 K n) (zc_BOputS22 K n) (zc_BOputS23 K n) (zc_BOputS24 K n) (zc_BOputS25 K n) (zc_BOputS26 K n) (zc_BOputS27 K n) (zc_BOputS28 K n) (zc_BOputS29 K n) (zc_BOputS3 K n) (zc_BOputS30 K n) (zc_BOputS31 K n) (zc_BOputS4 K n) (zc_BOputS5 K n) (zc_BOputS6 K n) (zc_BOputS7 K n) (zc_BOputS8 K n) (zc_BOputS9 K n) rw_ruFL0 rw_ruFLn rw_ruFLp rw_ruFLz rw_ruMN0 rw_ruSFe rw_ruSFz rw_ruWS0 rw_ruZW0 rw_ruZW1
set_option maxRecDepth 100000 in
theorem zc_BYaddw (K : Nat → Nat) (n : Nat) : aMe (fF K n) l E jcl jtb lw_tbl fa_T K n (fJX K n) ag_BYaddw := ae_BYaddw fJX_jx (fF_sh K n) fF_dpa
set_option maxRecDepth 100000 in
theorem zc_SLindexOfXL : gMe (fun K n => fF K n) (fun K n => fJX K n) l E jtb am_SLindexOfXL an_SLindexOfXL [11, 18] 4 prog_27_method_22_code false := ae_SLindexOfXL (F := fun K n => fF K n) (JX := fun K n => fJX K n) (fun K n => fJX_jx) (fun K n => (fF_sh K n)) (fun K n => fF_dpa) (fun K n => fF_dp) rMn_nil
set_option maxRecDepth 100000 in
theorem zc_CHperformA : gMr (fun K n => fF K n) (fun K n => fJX K n) l E jtb am_CHperformA an_CHperformA [0, 147, 165, 374] 5 prog_1_method_8_code false := ae_CHperformA (F := fun K n => fF K n) (JX := fun K n => fJX K n) (fun K n => fJX_jx) (fun K n => (fF_sh K n)) (fun K n => fF_dpa) (fun K n => fF_dp) (fun K n => fF_dpc) (fun K n => fF_dpd) (fun K n => fF_dpe) (fun K n => fF_dpf) (fun K n => fF_dpg) (fun K n => fF_dph) (fun K n => fF_dpi) (fun K n => (zc_BOmake K n)) (fun K n => (zc_BOsetFirstF K n)) (fun K n => (zc_BOunmake K n)) (fun K n => (az_BYnumbera (zc_BYadda K n))) (fun K n => (az_BYnumberw (zc_BYaddw K n))) (fun K n => (az_SLindexOfL zc_SLindexOfXL K n)) (fun K n => rw_ruAD1) (fun K n => rw_ruAD2) (fun K n => rw_ruAF) (fun K n => rw_ruAH0) (fun K n => rw_ruAHV) (fun K n => rw_ruAHd) (fun K n => rw_ruAHe) (fun K n => rw_ruAHg) (fun K n => rw_ruAHl) (fun K n => rw_ruAHn) (fun K n => rw_ruAHy) (fun K n => rw_ruAHz) (fun K n => rw_ruAR0) (fun K n => rw_ruARe) (fun K n => rw_ruARn) (fun K n => rw_ruARq) (fun K n => rw_ruARx) (fun K n => rw_ruB1) (fun K n => rw_ruB2) (fun K n => rw_ruB3) (fun K n => rw_ruB4) (fun K n => rw_ruB5a) (fun K n => rw_ruB5b) (fun K n => rw_ruB6) (fun K n => rw_ruBec) (fun K n => rw_ruC0) (fun K n => rw_ruC1) (fun K n => rw_ruC2) (fun K n => rw_ruCEL) (fun K n => rw_ruCHc) (fun K n => rw_ruCK) (fun K n => rw_ruCKr) (fun K n => rw_ruCL0) (fun K n => rw_ruCL0l) (fun K n => rw_ruCLc) (fun K n => rw_ruCLe) (fun K n => rw_ruCLs) (fun K n => rw_ruCLx) (fun K n => rw_ruCMa) (fun K n => rw_ruCMh) (fun K n => rw_ruCMn) (fun K n => rw_ruCN0) (fun K n => rw_ruCNa) (fun K n => rw_ruCNb) (fun K n => rw_ruCNc) (fun K n => rw_ruCm) (fun K n => rw_ruD1) (fun K n => rw_ruD2) (fun K n => rw_ruD3) (fun K n => rw_ruEN0) (fun K n => rw_ruENa) (fun K n => rw_ruENb) (fun K n => rw_ruEQ10) (fun K n => rw_ruEQ20) (fun K n => rw_ruEQ30) (fun K n => rw_ruFL) (fun K n => rw_ruFR1) (fun K n => rw_ruFRa) (fun K n => rw_ruFRb) (fun K n => rw_ruFRc) (fun K n => rw_ruFRd) (fun K n => rw_ruFRe) (fun K n => rw_ruFZc) (fun K n => rw_ruGC0EN) (fun K n => rw_ruGC0SE) (fun K n => rw_ruGC1EN) (fun K n => rw_ruGC1SE) (fun K n => rw_ruGC2EN) (fun K n => rw_ruGC2SE) (fun K n => rw_ruGClEN) (fun K n => rw_ruGClPR) (fun K n => rw_ruGClSE) (fun K n => rw_ruGClSI) (fun K n => rw_ruGCnEN) (fun K n => rw_ruGCnSE) (fun K n => rw_ruGCsEN) (fun K n => rw_ruGCsPR) (fun K n => rw_ruGCsSE) (fun K n => rw_ruGCsSI) (fun K n => rw_ruGCvEN) (fun K n => rw_ruGCvSE) (fun K n => rw_ruGCwEN) (fun K n => rw_ruGCwSE) (fun K n => rw_ruGD0EN) (fun K n => rw_ruGD0SE) (fun K n => rw_ruGD1EN) (fun K n => rw_ruGD1SE) (fun K n => rw_ruGD2EN) (fun K n => rw_ruGD2SE) (fun K n => rw_ruGD3EN) (fun K n => rw_ruGD3SE) (fun K n => rw_ruGDEN) (fun K n => rw_ruGDPR) (fun K n => rw_ruGDSE) (fun K n => rw_ruGDSI) (fun K n => rw_ruGDnEN) (fun K n => rw_ruGDnSE) (fun K n => rw_ruGHEN) (fun K n => rw_ruGHPR) (fun K n => rw_ruGHSE) (fun K n => rw_ruGHSI) (fun K n => rw_ruGHaEN) (fun K n => rw_ruGHaSE) (fun K n => rw_ruGHdEN) (fun K n => rw_ruGHdSE) (fun K n => rw_ruGHeEN) (fun K n => rw_ruGHeSE) (fun K n => rw_ruGHnEN) (fun K n => rw_ruGHnSE) (fun K n => rw_ruGHoEN) (fun K n => rw_ruGHoSE) (fun K n => rw_ruGHqEN) (fun K n => rw_ruGHqSE) (fun K n => rw_ruGHsEN) (fun K n => rw_ruGHsSE) (fun K n => rw_ruGKEN) (fun K n => rw_ruGKPR) (fun K n => rw_ruGKSE) (fun K n => rw_ruGKSI) (fun K n => rw_ruGKaEN) (fun K n => rw_ruGKaSE) (fun K n => rw_ruGKahEN) (fun K n => rw_ruGKahSE) (fun K n => rw_ruGKbhEN) (fun K n => rw_ruGKbhSE) (fun K n => rw_ruGKchEN) (fun K n => rw_ruGKchSE) (fun K n => rw_ruGKdEN) (fun K n => rw_ruGKdSE) (fun K n => rw_ruGKdhEN) (fun K n => rw_ruGKdhSE) (fun K n => rw_ruGKeEN) (fun K n => rw_ruGKeSE) (fun K n => rw_ruGKnEN) (fun K n => rw_ruGKnSE) (fun K n => rw_ruGKoEN) (fun K n => rw_ruGKoSE) (fun K n => rw_ruGKqEN) (fun K n => rw_ruGKqSE) (fun K n => rw_ruGKsEN) (fun K n => rw_ruGKsSE) (fun K n => rw_ruGKzEN) (fun K n => rw_ruGKzSE) (fun K n => rw_ruGO0) (fun K n => rw_ruGO1) (fun K n => rw_ruGO2) (fun K n => rw_ruGPdEN) (fun K n => rw_ruGPdPR) (fun K n => rw_ruGPdSE) (fun K n => rw_ruGPdSI) (fun K n => rw_ruGPuEN) (fun K n => rw_ruGPuPR) (fun K n => rw_ruGPuSE) (fun K n => rw_ruGPuSI) (fun K n => rw_ruGQ0EN) (fun K n => rw_ruGQ0SE) (fun K n => rw_ruGQ8EN) (fun K n => rw_ruGQ8SE) (fun K n => rw_ruGQ9EN) (fun K n => rw_ruGQ9SE) (fun K n => rw_ruGQdEN) (fun K n => rw_ruGQdSE) (fun K n => rw_ruGQmEN) (fun K n => rw_ruGQmSE) (fun K n => rw_ruGQnEN) (fun K n => rw_ruGQnSE) (fun K n => rw_ruGQqEN) (fun K n => rw_ruGQqSE) (fun K n => rw_ruGQsEN) (fun K n => rw_ruGQsSE) (fun K n => rw_ruGQzEN) (fun K n => rw_ruGQzSE) (fun K n => rw_ruGR1EN) (fun K n => rw_ruGR1SE) (fun K n => rw_ruGR2EN) (fun K n => rw_ruGR2SE) (fun K n => rw_ruGRnEN) (fun K n => rw_ruGRnSE) (fun K n => rw_ruGRrEN) (fun K n => rw_ruGRrSE) (fun K n => rw_ruGRsEN) (fun K n => rw_ruGRsSE) (fun K n => rw_ruGSEN) (fun K n => rw_ruGSPR) (fun K n => rw_ruGSSE) (fun K n => rw_ruGSSI) (fun K n => rw_ruGSaEN) (fun K n => rw_ruGSaSE) (fun K n => rw_ruGSbEN) (fun K n => rw_ruGSbSE) (fun K n => rw_ruGScEN) (fun K n => rw_ruGScSE) (fun K n => rw_ruGSeEN) (fun K n => rw_ruGSeSE) (fun K n => rw_ruGSfEN) (fun K n => rw_ruGSfSE) (fun K n => rw_ruGSgEN) (fun K n => rw_ruGSgSE) (fun K n => rw_ruGSk3EN) (fun K n => rw_ruGSk3SE) (fun K n => rw_ruGSk4EN) (fun K n => rw_ruGSk4SE) (fun K n => rw_ruGSk5EN) (fun K n => rw_ruGSk5SE) (fun K n => rw_ruGSnEN) (fun K n => rw_ruGSnSE) (fun K n => rw_ruGSoEN) (fun K n => rw_ruGSoSE) (fun K n => rw_ruGSqEN) (fun K n => rw_ruGSqSE) (fun K n => rw_ruGSsEN) (fun K n => rw_ruGSsSE) (fun K n => rw_ruGUEN) (fun K n => rw_ruGUSE) (fun K n => rw_ruHEfEN) (fun K n => rw_ruHEfSE) (fun K n => rw_ruHEkEN) (fun K n => rw_ruHEkSE) (fun K n => rw_ruHI0EN) (fun K n => rw_ruHI0SE) (fun K n => rw_ruHIkEN) (fun K n => rw_ruHIkSE) (fun K n => rw_ruHInEN) (fun K n => rw_ruHInSE) (fun K n => rw_ruHIsEN) (fun K n => rw_ruHIsSE) (fun K n => rw_ruHK) (fun K n => rw_ruHK2) (fun K n => rw_ruHKa) (fun K n => rw_ruHKb) (fun K n => rw_ruHKc) (fun K n => rw_ruHL0) (fun K n => rw_ruHLm) (fun K n => rw_ruHLn) (fun K n => rw_ruHLs1) (fun K n => rw_ruHLs2) (fun K n => rw_ruHLx) (fun K n => rw_ruHLz) (fun K n => rw_ruHOP) (fun K n => rw_ruHQ0EN) (fun K n => rw_ruHQ0SE) (fun K n => rw_ruHQeEN) (fun K n => rw_ruHQeSE) (fun K n => rw_ruHQnEN) (fun K n => rw_ruHQnSE) (fun K n => rw_ruICa) (fun K n => rw_ruICb) (fun K n => rw_ruICc) (fun K n => rw_ruICd) (fun K n => rw_ruICe) (fun K n => rw_ruKD) (fun K n => rw_ruKH) (fun K n => rw_ruKSEN) (fun K n => rw_ruKSPR) (fun K n => rw_ruKSSE) (fun K n => rw_ruKSSI) (fun K n => rw_ruKST) (fun K n => rw_ruKTO) (fun K n => rw_ruKnEN) (fun K n => rw_ruKnPR) (fun K n => rw_ruKnSE) (fun K n => rw_ruKnSI) (fun K n => rw_ruL00) (fun K n => rw_ruL0EN) (fun K n => rw_ruL0SI) (fun K n => rw_ruL0n) (fun K n => rw_ruL0p) (fun K n => rw_ruL0s) (fun K n => rw_ruL0w) (fun K n => rw_ruLD1) (fun K n => rw_ruLD2) (fun K n => rw_ruLD3) (fun K n => rw_ruLE) (fun K n => rw_ruLL0EN) (fun K n => rw_ruLL0PR) (fun K n => rw_ruLL0SE) (fun K n => rw_ruLL0SI) (fun K n => rw_ruLLeEN) (fun K n => rw_ruLLePR) (fun K n => rw_ruLLeSE) (fun K n => rw_ruLLeSI) (fun K n => rw_ruLLfPR) (fun K n => rw_ruLLoEN) (fun K n => rw_ruLLoSE) (fun K n => rw_ruLLsEN) (fun K n => rw_ruLLsPR) (fun K n => rw_ruLLsSE) (fun K n => rw_ruLLw) (fun K n => rw_ruLM0SI) (fun K n => rw_ruLME) (fun K n => rw_ruLMc) (fun K n => rw_ruLMlEN) (fun K n => rw_ruLMlPR) (fun K n => rw_ruLMlSE) (fun K n => rw_ruLMpEN) (fun K n => rw_ruLMpPR) (fun K n => rw_ruLMpSE) (fun K n => rw_ruLMrEN) (fun K n => rw_ruLMrPR) (fun K n => rw_ruLMrSE) (fun K n => rw_ruLMrSI) (fun K n => rw_ruLNb0) (fun K n => rw_ruLNb1) (fun K n => rw_ruLNb2) (fun K n => rw_ruLNp0) (fun K n => rw_ruLNp1) (fun K n => rw_ruLNp2) (fun K n => rw_ruLNp3) (fun K n => rw_ruLNu0) (fun K n => rw_ruLNu1) (fun K n => rw_ruLNu2) (fun K n => rw_ruLNu3) (fun K n => rw_ruLNv0) (fun K n => rw_ruLNv1) (fun K n => rw_ruLNv2) (fun K n => rw_ruLO0) (fun K n => rw_ruLO0b) (fun K n => rw_ruLO1) (fun K n => rw_ruLO2) (fun K n => rw_ruLS0) (fun K n => rw_ruLS1) (fun K n => rw_ruLS2) (fun K n => rw_ruLXnEN) (fun K n => rw_ruLXnPR) (fun K n => rw_ruLXnSE) (fun K n => rw_ruLXnSI) (fun K n => rw_ruLwEN) (fun K n => rw_ruLwPR) (fun K n => rw_ruLwSE) (fun K n => rw_ruLwSI) (fun K n => rw_ruM14) (fun K n => rw_ruMDs0) (fun K n => rw_ruMDs1) (fun K n => rw_ruMDs2) (fun K n => rw_ruMK) (fun K n => rw_ruMT) (fun K n => rw_ruMVc) (fun K n => rw_ruMan) (fun K n => rw_ruN13) (fun K n => rw_ruN7) (fun K n => rw_ruN8) (fun K n => rw_ruNC0) (fun K n => rw_ruNC1) (fun K n => rw_ruNEW) (fun K n => rw_ruNEa) (fun K n => rw_ruNEb) (fun K n => rw_ruNF0) (fun K n => rw_ruNF1) (fun K n => rw_ruNF2) (fun K n => rw_ruNK) (fun K n => rw_ruNMa) (fun K n => rw_ruNMb) (fun K n => rw_ruNR0) (fun K n => rw_ruNR1a) (fun K n => rw_ruNR1b) (fun K n => rw_ruNR1c) (fun K n => rw_ruNR1d) (fun K n => rw_ruNR2) (fun K n => rw_ruNR3) (fun K n => rw_ruNR4) (fun K n => rw_ruNR6) (fun K n => rw_ruNR7) (fun K n => rw_ruNW) (fun K n => rw_ruNZa) (fun K n => rw_ruNZb) (fun K n => rw_ruOA1) (fun K n => rw_ruOA2) (fun K n => rw_ruOSa) (fun K n => rw_ruOSb) (fun K n => rw_ruOW1) (fun K n => rw_ruOW2) (fun K n => rw_ruOW6) (fun K n => rw_ruPAl) (fun K n => rw_ruPC0) (fun K n => rw_ruPC2) (fun K n => rw_ruPCs) (fun K n => rw_ruPD) (fun K n => rw_ruPD0) (fun K n => rw_ruPDc) (fun K n => rw_ruPDs) (fun K n => rw_ruPE) (fun K n => rw_ruPG1) (fun K n => rw_ruPG2) (fun K n => rw_ruPG3a) (fun K n => rw_ruPG3b) (fun K n => rw_ruPN1) (fun K n => rw_ruPN2) (fun K n => rw_ruPN3) (fun K n => rw_ruPN4) (fun K n => rw_ruPN5) (fun K n => rw_ruPN6a) (fun K n => rw_ruPN6b) (fun K n => rw_ruPO) (fun K n => rw_ruPP) (fun K n => rw_ruPTW) (fun K n => rw_ruQF) (fun K n => rw_ruRAY0) (fun K n => rw_ruRAYn) (fun K n => rw_ruRAYs) (fun K n => rw_ruREA) (fun K n => rw_ruRKa) (fun K n => rw_ruRKb) (fun K n => rw_ruRKc) (fun K n => rw_ruRKd) (fun K n => rw_ruRl10) (fun K n => rw_ruRl11) (fun K n => rw_ruRl12) (fun K n => rw_ruRl13) (fun K n => rw_ruRl14) (fun K n => rw_ruRs0) (fun K n => rw_ruRs1) (fun K n => rw_ruRs2) (fun K n => rw_ruRs3) (fun K n => rw_ruRs4) (fun K n => rw_ruRs5) (fun K n => rw_ruRs6) (fun K n => rw_ruRs7) (fun K n => rw_ruRs8) (fun K n => rw_ruRs9) (fun K n => rw_ruSB) (fun K n => rw_ruSB0) (fun K n => rw_ruSB1) (fun K n => rw_ruSB2) (fun K n => rw_ruSBc) (fun K n => rw_ruSFLEN) (fun K n => rw_ruSFLSE) (fun K n => rw_ruSG1) (fun K n => rw_ruSGa5) (fun K n => rw_ruSGb) (fun K n => rw_ruSGc) (fun K n => rw_ruSGd5) (fun K n => rw_ruSGe) (fun K n => rw_ruSGf) (fun K n => rw_ruSI0) (fun K n => rw_ruSI1) (fun K n => rw_ruSI2) (fun K n => rw_ruSLB) (fun K n => rw_ruSLC0) (fun K n => rw_ruSLCa) (fun K n => rw_ruSLCb) (fun K n => rw_ruSLF) (fun K n => rw_ruSLI0) (fun K n => rw_ruSLIn) (fun K n => rw_ruSPn1) (fun K n => rw_ruSPn2) (fun K n => rw_ruSPr1) (fun K n => rw_ruSPr2) (fun K n => rw_ruSPx) (fun K n => rw_ruSQ) (fun K n => rw_ruSQD) (fun K n => rw_ruSQE) (fun K n => rw_ruSTP0) (fun K n => rw_ruSTP1) (fun K n => rw_ruSTP2) (fun K n => rw_ruSTP3) (fun K n => rw_ruSTP4) (fun K n => rw_ruSTP5) (fun K n => rw_ruSTP6) (fun K n => rw_ruSTP7) (fun K n => rw_ruSUk0) (fun K n => rw_ruSUk1) (fun K n => rw_ruSUs0) (fun K n => rw_ruSUs1) (fun K n => rw_ruSUs2) (fun K n => rw_ruSUu10) (fun K n => rw_ruSUu20) (fun K n => rw_ruSUu30) (fun K n => rw_ruTC) (fun K n => rw_ruTG) (fun K n => rw_ruTGr) (fun K n => rw_ruTRI) (fun K n => rw_ruTVc) (fun K n => rw_ruTVe) (fun K n => rw_ruTW) (fun K n => rw_ruTX) (fun K n => rw_ruUK0) (fun K n => rw_ruUK1) (fun K n => rw_ruUK2) (fun K n => rw_ruUN0) (fun K n => rw_ruUN1) (fun K n => rw_ruUN2) (fun K n => rw_ruUN3) (fun K n => rw_ruUP) (fun K n => rw_ruUP2) (fun K n => rw_ruUU0) (fun K n => rw_ruUU1) (fun K n => rw_ruUU2) (fun K n => rw_ruUU3) (fun K n => rw_ruW1) (fun K n => rw_ruWB) (fun K n => rw_ruWD) (fun K n => rw_ruWE) (fun K n => rw_ruWF) (fun K n => rw_ruWHa) (fun K n => rw_ruWHb) (fun K n => rw_ruWHc) (fun K n => rw_ruWHd) (fun K n => rw_ruWN) (fun K n => rw_ruWPa) (fun K n => rw_ruWPb) (fun K n => rw_ruWRT) (fun K n => rw_ruWRc) (fun K n => rw_ruWRm) (fun K n => rw_ruWS) (fun K n => rw_ruWT) (fun K n => rw_ruWU) (fun K n => rw_ruWV) (fun K n => rw_ruWX) (fun K n => rw_ruXl10) (fun K n => rw_ruXl11) (fun K n => rw_ruXl12) (fun K n => rw_ruXl13) (fun K n => rw_ruXl14) (fun K n => rw_ruXs0) (fun K n => rw_ruXs1) (fun K n => rw_ruXs2) (fun K n => rw_ruXs3) (fun K n => rw_ruXs4) (fun K n => rw_ruXs5) (fun K n => rw_ruXs6) (fun K n => rw_ruXs7) (fun K n => rw_ruXs8) (fun K n => rw_ruXs9) (fun K n => rw_ruYR1a) (fun K n => rw_ruYR1b) (fun K n => rw_ruYR3) (fun K n => rw_ruYR4) (fun K n => rw_ruYR5) (fun K n => rw_ruYR6) (fun K n => rw_ruYl10) (fun K n => rw_ruYl11) (fun K n => rw_ruYl12) (fun K n => rw_ruYl13) (fun K n => rw_ruYl14) (fun K n => rw_ruYs0) (fun K n => rw_ruYs1) (fun K n => rw_ruYs2) (fun K n => rw_ruYs3) (fun K n => rw_ruYs4) (fun K n => rw_ruYs5) (fun K n => rw_ruYs6) (fun K n => rw_ruYs7) (fun K n => rw_ruYs8) (fun K n => rw_ruYs9) (fun K n => rw_ruZ1) (fun K n => rw_ruZ2) (fun K n => rw_ruZnEN) (fun K n => rw_ruZnPR) (fun K n => rw_ruZnSE) (fun K n => rw_ruZnSI) rMn_nil
set_option maxRecDepth 100000 in
theorem zc_BOputW1 (K : Nat → Nat) (n : Nat) : aMe (fF K n) l E jcl jtb lw_tbl fa_T K n (fJX K n) ag_BOputW1 := ae_BOputW1 
set_option maxRecDepth 100000 in
theorem zc_BOputW9 (K : Nat → Nat) (n : Nat) : aMe (fF K n) l E jcl jtb lw_tbl fa_T K n (fJX K n) ag_BOputW9 := ae_BOputW9 
set_option maxRecDepth 100000 in
theorem zc_SLiOXH : gMe (fun K n => fF K n) (fun K n => fJX K n) l E jtb am_SLiOXH an_SLiOXH [11, 18] 4 prog_27_method_22_code false := ae_SLiOXH (F := fun K n => fF K n) (JX := fun K n => fJX K n) (fun K n => fJX_jx) (fun K n => (fF_sh K n)) (fun K n => fF_dpa) (fun K n => fF_dp) (fun K n => fF_dpc) (fun K n => fF_dpd) (fun K n => fF_dpe) (fun K n => fF_dpf) (fun K n => fF_dpg) rMn_nil
set_option maxRecDepth 100000 in
theorem zc_SLiOXL : gMe (fun K n => fF K n) (fun K n => fJX K n) l E jtb am_SLiOXL an_SLiOXL [11, 18] 4 prog_27_method_22_code false := ae_SLiOXL (F := fun K n => fF K n) (JX := fun K n => fJX K n) (fun K n => fJX_jx) (fun K n => (fF_sh K n)) (fun K n => fF_dpa) (fun K n => fF_dp) (fun K n => fF_dpc) (fun K n => fF_dpd) (fun K n => fF_dpe) (fun K n => fF_dpf) (fun K n => fF_dpg) rMn_nil
set_option maxRecDepth 100000 in
theorem zc_SLiOXS : gMe (fun K n => fF K n) (fun K n => fJX K n) l E jtb am_SLiOXS an_SLiOXS [11, 18] 4 prog_27_method_22_code false := ae_SLiOXS (F := fun K n => fF K n) (JX := fun K n => fJX K n) (fun K n => fJX_jx) (fun K n => (fF_sh K n)) (fun K n => fF_dpa) (fun K n => fF_dp) (fun K n => fF_dpc) (fun K n => fF_dpd) (fun K n => fF_dpe) (fun K n => fF_dpf) (fun K n => fF_dpg) rMn_nil
set_option maxRecDepth 100000 in
theorem zc_SLiOXX : gMe (fun K n => fF K n) (fun K n => fJX K n) l E jtb am_SLiOXX an_SLiOXX [11, 18] 4 prog_27_method_22_code false := ae_SLiOXX (F := fun K n => fF K n) (JX := fun K n => fJX K n) (fun K n => fJX_jx) (fun K n => (fF_sh K n)) (fun K n => fF_dpa) (fun K n => fF_dp) (fun K n => fF_dpc) (fun K n => fF_dpd) (fun K n => fF_dpe) (fun K n => fF_dpf) (fun K n => fF_dpg) rMn_nil
set_option maxRecDepth 100000 in
theorem zc_BOreadTexttF (K : Nat → Nat) (n : Nat) : aMe (fF K n) l E jcl jtb lw_tbl fa_T K n (fJX K n) ag_BOreadTexttF := ae_BOreadTexttF fJX_jx (fF_sh K n) fF_dpa fF_dp fF_dpc fF_dpd fF_dpe fF_dpf fF_dpg (zc_BOputW1 K n) (zc_BOputW9 K n) (az_SLiOH zc_SLiOXH K n) (az_SLiOL zc_SLiOXL K n) (az_SLiOS zc_SLiOXS K n) (az_SLiOX zc_SLiOXX K n) rw_ruBF1 rw_ruBF2 rw_ruBG0 rw_ruBG1 rw_ruBT0 rw_ruBT1 rw_ruBT2 rw_ruBT3 rw_ruEQ0 rw_ruEQm rw_ruEQn rw_ruEQs rw_ruEQt rw_ruFL0 rw_ruFLn rw_ruFLp rw_ruFLz rw_ruMC1 rw_ruMC2 rw_ruMN0 rw_ruMQ rw_ruPA0 rw_ruPA2 rw_ruPB0 rw_ruPB2 rw_ruPS0 rw_ruPS1 rw_ruPW0 rw_ruPWn rw_ruPX rw_ruPX0 rw_ruPX1 rw_ruRA0 rw_ruRA1 rw_ruRA2 rw_ruRA3 rw_ruRAY0 rw_ruRAYn rw_ruRAYs rw_ruRB0 rw_ruRB1 rw_ruRB2 rw_ruRB3 rw_ruREA rw_ruRG0 rw_ruRG1 rw_ruRGT rw_ruSFz rw_ruSTP0 rw_ruSTP1 rw_ruSTP2 rw_ruSTP3 rw_ruSTP4 rw_ruSTP5 rw_ruSTP6 rw_ruSTP7 rw_ruWS0 rw_ruZW0 rw_ruZW1
set_option maxRecDepth 100000 in
theorem zc_BOreadTextvF (K : Nat → Nat) (n : Nat) : aMe (fF K n) l E jcl jtb lw_tbl fa_T K n (fJX K n) ag_BOreadTextvF := ae_BOreadTextvF fJX_jx (fF_sh K n) fF_dpa fF_dp fF_dpc fF_dpd fF_dpe fF_dpf fF_dpg (zc_BOputW1 K n) (zc_BOputW9 K n) (az_SLiOH zc_SLiOXH K n) (az_SLiOL zc_SLiOXL K n) (az_SLiOS zc_SLiOXS K n) (az_SLiOX zc_SLiOXX K n) rw_ruBF1 rw_ruBF2 rw_ruBG0 rw_ruBG1 rw_ruBT0 rw_ruBT1 rw_ruBT2 rw_ruBT3 rw_ruEQ0 rw_ruEQm rw_ruEQn rw_ruEQs rw_ruEQt rw_ruFL0 rw_ruFLn rw_ruFLp rw_ruFLz rw_ruMC1 rw_ruMC2 rw_ruMN0 rw_ruMQ rw_ruPA0 rw_ruPA2 rw_ruPB0 rw_ruPB2 rw_ruPS0 rw_ruPS1 rw_ruPW0 rw_ruPWn rw_ruPX rw_ruPX0 rw_ruPX1 rw_ruRA0 rw_ruRA1 rw_ruRA2 rw_ruRA3 rw_ruRAY0 rw_ruRAYn rw_ruRAYs rw_ruRB0 rw_ruRB1 rw_ruRB2 rw_ruRB3 rw_ruREA rw_ruRG0 rw_ruRG1 rw_ruRGT rw_ruSFz rw_ruSTP0 rw_ruSTP1 rw_ruSTP2 rw_ruSTP3 rw_ruSTP4 rw_ruSTP5 rw_ruSTP6 rw_ruSTP7 rw_ruWS0 rw_ruZW0 rw_ruZW1
set_option maxRecDepth 100000 in
theorem zc_GAsetTagX3 : gMe (fun K n => fF K n) (fun K n => fJX K n) l E jtb am_GAsetTagX3 an_GAsetTagX3 [64] 8 prog_7_method_19_code false := ae_GAsetTagX3 (F := fun K n => fF K n) (JX := fun K n => fJX K n) (fun K n => fJX_jx) (fun K n => (fF_sh K n)) (fun K n => fF_dpa) (fun K n => fF_dp) (fun K n => fF_dpc) (fun K n => fF_dpd) (fun K n => fF_dpe) (fun K n => fF_dpf) (fun K n => fF_dpg) (fun K n => fF_dph) (fun K n => fF_dpi) rMn_nil
set_option maxRecDepth 100000 in
theorem zc_CHperformB : gCut (fun K n => fF K n) (fun K n => fJX K n) l E jtb am_CHperformB 5 prog_1_method_8_code := ae_CHperformB (F := fun K n => fF K n) (JX := fun K n => fJX K n) (fun K n => fJX_jx) (fun K n => (fF_sh K n)) (fun K n => fF_dpa) (fun K n => fF_dp) (fun K n => fF_dpc) (fun K n => fF_dpd) (fun K n => fF_dpe) (fun K n => fF_dpf) (fun K n => fF_dpg) (fun K n => fF_dph) (fun K n => fF_dpi) (fun K n => (zc_BOmake K n)) (fun K n => (zc_BOreadTexttF K n)) (fun K n => (zc_BOreadTextvF K n)) (fun K n => (zc_BOsetFirstF K n)) (fun K n => (zc_BOunmake K n)) (fun K n => (az_BYnumbera (zc_BYadda K n))) (fun K n => (az_GAsetTagf3 (fun K n => fJX_jx) (fun K n => fF_dpi) zc_GAsetTagX3 K n)) (fun K n => (az_SLindexOfL zc_SLindexOfXL K n)) (fun K n => rw_ruAD1) (fun K n => rw_ruAD2) (fun K n => rw_ruAF) (fun K n => rw_ruB1) (fun K n => rw_ruB2) (fun K n => rw_ruB3) (fun K n => rw_ruB4) (fun K n => rw_ruB5a) (fun K n => rw_ruB5b) (fun K n => rw_ruB6) (fun K n => rw_ruBF) (fun K n => rw_ruC0) (fun K n => rw_ruC1) (fun K n => rw_ruC2) (fun K n => rw_ruCEL) (fun K n => rw_ruCK) (fun K n => rw_ruCKr) (fun K n => rw_ruCL0) (fun K n => rw_ruCLe) (fun K n => rw_ruCLs) (fun K n => rw_ruCLx) (fun K n => rw_ruCMa) (fun K n => rw_ruCMh) (fun K n => rw_ruCm) (fun K n => rw_ruD1) (fun K n => rw_ruD2) (fun K n => rw_ruFL) (fun K n => rw_ruFZ) (fun K n => rw_ruFZc) (fun K n => rw_ruGClSI) (fun K n => rw_ruGCsSI) (fun K n => rw_ruGDSI) (fun K n => rw_ruGHSI) (fun K n => rw_ruGKSI) (fun K n => rw_ruGPdSI) (fun K n => rw_ruGPuSI) (fun K n => rw_ruGSSI) (fun K n => rw_ruHOP) (fun K n => rw_ruKD) (fun K n => rw_ruKSSI) (fun K n => rw_ruKST) (fun K n => rw_ruKnSI) (fun K n => rw_ruL0SI) (fun K n => rw_ruLL0SI) (fun K n => rw_ruLLeSI) (fun K n => rw_ruLM0SI) (fun K n => rw_ruLMc) (fun K n => rw_ruLMrSI) (fun K n => rw_ruLO0) (fun K n => rw_ruLO1) (fun K n => rw_ruLO2) (fun K n => rw_ruLXnSI) (fun K n => rw_ruLwSI) (fun K n => rw_ruMK) (fun K n => rw_ruMVc) (fun K n => rw_ruN13) (fun K n => rw_ruN7) (fun K n => rw_ruN8) (fun K n => rw_ruNEW) (fun K n => rw_ruNK) (fun K n => rw_ruNW) (fun K n => rw_ruOW1) (fun K n => rw_ruOW2) (fun K n => rw_ruOW6) (fun K n => rw_ruPC0) (fun K n => rw_ruPC2) (fun K n => rw_ruPCs) (fun K n => rw_ruPD) (fun K n => rw_ruPD0) (fun K n => rw_ruPDc) (fun K n => rw_ruPDs) (fun K n => rw_ruPE) (fun K n => rw_ruPP) (fun K n => rw_ruRAY0) (fun K n => rw_ruRAYn) (fun K n => rw_ruRAYs) (fun K n => rw_ruRDc) (fun K n => rw_ruRDf) (fun K n => rw_ruRDo) (fun K n => rw_ruREA) (fun K n => rw_ruRl10) (fun K n => rw_ruRl11) (fun K n => rw_ruRl12) (fun K n => rw_ruRl13) (fun K n => rw_ruRl14) (fun K n => rw_ruRs0) (fun K n => rw_ruRs1) (fun K n => rw_ruRs2) (fun K n => rw_ruRs3) (fun K n => rw_ruRs4) (fun K n => rw_ruRs5) (fun K n => rw_ruRs6) (fun K n => rw_ruRs7) (fun K n => rw_ruRs8) (fun K n => rw_ruRs9) (fun K n => rw_ruSH0) (fun K n => rw_ruSH1) (fun K n => rw_ruSH5) (fun K n => rw_ruSHh) (fun K n => rw_ruSHk) (fun K n => rw_ruSLB) (fun K n => rw_ruSLC0) (fun K n => rw_ruSLCa) (fun K n => rw_ruSLCb) (fun K n => rw_ruSLF) (fun K n => rw_ruSLI0) (fun K n => rw_ruSLIn) (fun K n => rw_ruSQ) (fun K n => rw_ruST0) (fun K n => rw_ruSTP0) (fun K n => rw_ruSTP1) (fun K n => rw_ruSTP2) (fun K n => rw_ruSTP3) (fun K n => rw_ruSTP4) (fun K n => rw_ruSTP5) (fun K n => rw_ruSTP6) (fun K n => rw_ruSTP7) (fun K n => rw_ruSTp) (fun K n => rw_ruSTx) (fun K n => rw_ruSTy) (fun K n => rw_ruSWn) (fun K n => rw_ruSWy) (fun K n => rw_ruT0) (fun K n => rw_ruT0f) (fun K n => rw_ruT0z) (fun K n => rw_ruTG) (fun K n => rw_ruTGr) (fun K n => rw_ruTVc) (fun K n => rw_ruTVe) (fun K n => rw_ruUP) (fun K n => rw_ruUP2) (fun K n => rw_ruZ1) (fun K n => rw_ruZ2) (fun K n => rw_ruZnSI)
set_option maxRecDepth 100000 in
theorem zc_CHendA : gMr (fun K n => fF K n) (fun K n => fJX K n) l E jtb am_CHendA an_CHendA [0, 102] 5 prog_1_method_3_code false := ae_CHendA (F := fun K n => fF K n) (JX := fun K n => fJX K n) (fun K n => fJX_jx) (fun K n => (fF_sh K n)) (fun K n => fF_dpa) (fun K n => fF_dp) (fun K n => fF_dpc) (fun K n => fF_dpd) (fun K n => fF_dpe) (fun K n => fF_dpf) (fun K n => fF_dpg) (fun K n => fF_dph) (fun K n => fF_dpi) (fun K n => (az_WOtake zc_WOtake K n)) rMn_nil
end ZC
end
section
/-! the two games: kinds as they are seen from the other one -/
noncomputable def sK (k : Nat) : Nat := if 25 ≤ k ∧ k ≤ 51 then k + 1000 else if 1025 ≤ k ∧ k ≤ 1051 then k - 1000 else k
noncomputable def cK (K : Nat → Nat) : Nat → Nat := fun a => sK (K a)
theorem sK_id {k : Nat} (h1 : ¬ (25 ≤ k ∧ k ≤ 51)) (h2 : ¬ (1025 ≤ k ∧ k ≤ 1051)) : sK k = k := by
  unfold sK
  rw [if_neg h1, if_neg h2]
theorem sK_up {k : Nat} (h1 : 25 ≤ k ∧ k ≤ 51) : sK k = k + 1000 := if_pos h1
theorem sK_dn {k : Nat} (h1 : 1025 ≤ k ∧ k ≤ 1051) : sK k = k - 1000 := by
  unfold sK
  rw [if_neg (by omega), if_pos h1]
theorem sK_sK (k : Nat) : sK (sK k) = k := by
  by_cases h1 : 25 ≤ k ∧ k ≤ 51
  · rw [sK_up h1, sK_dn (by omega)]
    omega
  · by_cases h2 : 1025 ≤ k ∧ k ≤ 1051
    · rw [sK_dn h2, sK_up (by omega)]
      omega
    · rw [sK_id h1 h2, sK_id h1 h2]
theorem cK_cK (K : Nat → Nat) : cK (cK K) = K := funext fun a => sK_sK (K a)
/-- a type that names no kind of a game -/
noncomputable def tOk (t : aT) : Bool := match t with
  | .inr (some (.inl q)) => !(decide (25 ≤ q.2) && decide (q.2 ≤ 51)) && !(decide (1025 ≤ q.2) && decide (q.2 ≤ 1051))
  | _ => true
noncomputable def kOk (d : aKd) : Bool := match d with
  | .inl _ => true
  | .inr q => q.2.all tOk
section TWI
variable {K : Nat → Nat} {n : Nat}
theorem aG_cK {t : aT} {v : jv} (ht : tOk t = true) (h : aG K n t v) : aG (cK K) n t v := by
  rcases t with q | _ | q | j
  · obtain ⟨x, rfl, hx⟩ := aG_int h
    exact hx
  · obtain ⟨x, rfl⟩ := aG_lng h
    exact trivial
  · obtain ⟨b, k⟩ := q
    rcases aG_ref h with ⟨rfl, rfl⟩ | ⟨a, rfl, h1, h2⟩
    · exact rfl
    · refine ⟨h1, h2.imp (fun e => ?_) id⟩
      show sK (K a) = k
      have ht : (!(decide (25 ≤ k) && decide (k ≤ 51)) && !(decide (1025 ≤ k) && decide (k ≤ 1051))) = true := ht
      rw [e]
      exact sK_id (fun h9 => by simp [h9.1, h9.2] at ht) (fun h9 => by simp [h9.1, h9.2] at ht)
  · obtain ⟨i, rfl, hi⟩ := aG_rng h
    exact hi
theorem aCe_cK {d : aKd} {c : jcell} (hd : kOk d = true) (hc : aCe K n d c) : aCe (cK K) n d c := by
  rcases d with q | q
  · rcases c with ⟨t, m, g | g | g⟩ | y
    · exact hc
    · exact hc
    · exact hc
    · exact hc.elim
  · obtain ⟨fs, rfl, h1, h2⟩ := aCe_obj hc
    exact ⟨rfl, h1, fun f t v ht hv => aG_cK (List.all_eq_true.mp hd t (List.mem_of_getElem? ht)) (h2 f t v ht hv)⟩
theorem kT_ok : (List.range fa_T.length).all (fun k => (decide (25 ≤ k) && decide (k ≤ 51)) || (match fa_T[k]? with
  | some d => kOk d
  | none => true)) = true := by decide +kernel
theorem kT_len : fa_T.length = 115 := rfl
theorem kT_at {k : Nat} {d : aKd} (h : fa_T[k]? = some d) (hk : ¬ (25 ≤ k ∧ k ≤ 51)) : kOk d = true := by
  have h1 := List.all_eq_true.mp kT_ok k (List.mem_range.mpr (List.getElem?_eq_some_iff.mp h).1)
  rw [Bool.or_eq_true, h] at h1
  rcases h1 with h1 | h1
  · rw [Bool.and_eq_true, decide_eq_true_eq, decide_eq_true_eq] at h1
    exact absurd h1 hk
  · exact h1
/-- what lies of the other game has not been touched -/
theorem aH_tw {σ σ' : Nat → jcell} (h1 : aH fa_T K n σ') (h2 : aH fa_T (cK K) n σ) (hs : ∀ a, a < n → 1025 ≤ K a → K a ≤ 1051 → σ' a = σ a) : aH fa_T (cK K) n σ' := by
  intro a ha d hd
  by_cases g1 : 25 ≤ K a ∧ K a ≤ 51
  · have e : cK K a = K a + 1000 := sK_up g1
    rw [e, List.getElem?_eq_none (by rw [kT_len]; omega)] at hd
    cases hd
  · by_cases g2 : 1025 ≤ K a ∧ K a ≤ 1051
    · rw [hs a ha g2.1 g2.2]
      exact h2 a ha d hd
    · have e : cK K a = K a := sK_id g1 g2
      rw [e] at hd
      exact aCe_cK (kT_at hd g1) (h1 a ha d hd)
theorem fJX_eq {σ σ' : Nat → jcell} (h : fJX K n σ) (hs : ∀ a, a < n → 25 ≤ K a → K a ≤ 51 → σ' a = σ a) : fJX K n σ' := by
  obtain ⟨h1, h2, h3, h4⟩ := h
  refine ⟨fun a ha hk => ?_, fun a ha hk => ?_, fun a ha hk => ?_, fun a ha hk => ?_⟩
  · rw [hs a ha (by omega) (by omega)]
    exact h1 a ha hk
  · rw [hs a ha (by omega) (by omega)]
    exact h2 a ha hk
  · obtain ⟨n0, l1, l2, l3, fs, l4⟩ := h3 a ha hk
    exact ⟨n0, l1, l2, l3, fs, by rw [hs a ha (by omega) (by omega)]; exact l4⟩
  · rw [hs a ha (by omega) (by omega)]
    exact h4 a ha hk
theorem cK_sp {a : Nat} : (25 ≤ cK K a ∧ cK K a ≤ 51) ↔ (1025 ≤ K a ∧ K a ≤ 1051) := by
  show (25 ≤ sK (K a) ∧ sK (K a) ≤ 51) ↔ _
  by_cases g1 : 25 ≤ K a ∧ K a ≤ 51
  · rw [sK_up g1]
    omega
  · by_cases g2 : 1025 ≤ K a ∧ K a ≤ 1051
    · rw [sK_dn g2]
      omega
    · rw [sK_id g1 g2]
      omega
theorem fJX_tw {σ σ' : Nat → jcell} (h : fJX (cK K) n σ) (hs : ∀ a, a < n → 1025 ≤ K a → K a ≤ 1051 → σ' a = σ a) : fJX (cK K) n σ' := fJX_eq h (fun a ha h1 h2 => hs a ha (cK_sp.mp ⟨h1, h2⟩).1 (cK_sp.mp ⟨h1, h2⟩).2)
end TWI
end
section
/-! CLASS: a cell is made -/
noncomputable def gK (K : Nat → Nat) (n k : Nat) : Nat → Nat := fun a => if a < n then K a else k
section GKN
variable {K : Nat → Nat} {n k : Nat} {σ : Nat → jcell} {c : jcell}
theorem gK_lo {a : Nat} (h : a < n) : gK K n k a = K a := if_pos h
theorem gK_at : gK K n k n = k := if_neg (Nat.lt_irrefl _)
theorem gK_gw : gW K n (gK K n k) (n + 1) := ⟨Nat.le_succ _, fun _ h => gK_lo h⟩
theorem aH_gK (h : aH fa_T K n σ) (hc : ∀ d, fa_T[k]? = some d → aCe (gK K n k) (n + 1) d c) : aH fa_T (gK K n k) (n + 1) (jup σ n c) := by
  intro a ha d hd
  by_cases hn : a < n
  · rw [gK_lo hn] at hd
    rw [jup_n (by omega)]
    exact aCe_gw gK_gw (h a hn d hd)
  · obtain rfl : a = n := by omega
    rw [gK_at] at hd
    rw [jup_s]
    exact hc d hd
theorem fJX_gK (h : fJX K n σ) (hk : ¬ (25 ≤ k ∧ k ≤ 51)) : fJX (gK K n k) (n + 1) (jup σ n c) := by
  obtain ⟨h1, h2, h3, h4⟩ := h
  have lo : ∀ a q, a < n + 1 → gK K n k a = q → 25 ≤ q → q ≤ 51 → a < n ∧ K a = q := by
    intro a q ha hq g1 g2
    by_cases hn : a < n
    · rw [gK_lo hn] at hq
      exact ⟨hn, hq⟩
    · obtain rfl : a = n := by omega
      rw [gK_at] at hq
      omega
  refine ⟨fun a ha hq => ?_, fun a ha hq => ?_, fun a ha hq => ?_, fun a ha hq => ?_⟩
  · obtain ⟨l1, l2⟩ := lo a _ ha hq (by omega) (by omega)
    rw [jup_n (by omega)]
    exact h1 a l1 l2
  · obtain ⟨l1, l2⟩ := lo a _ ha hq (by omega) (by omega)
    rw [jup_n (by omega)]
    exact h2 a l1 l2
  · obtain ⟨l1, l2⟩ := lo a _ ha hq (by omega) (by omega)
    obtain ⟨n0, g1, g2, g3, fs, g4, g5⟩ := h3 a l1 l2
    exact ⟨n0, g1, by omega, fun j hj => by rw [gK_lo (by omega)]; exact g3 j hj, fs, by rw [jup_n (by omega)]; exact g4, g5⟩
  · obtain ⟨l1, l2⟩ := lo a _ ha hq (by omega) (by omega)
    rw [jup_n (by omega)]
    exact h4 a l1 l2
end GKN
/-- a new row of zeros -/
theorem aCe_z {K : Nat → Nat} {n m : Nat} {ty : FieldType} {q : Int × Int} (hty : ¬ ty = .long) (h1 : q.1 ≤ 0) (h2 : 0 ≤ q.2) : aCe K n (.inl (ty, m, q, [])) (.inl (ty, m, .inl fun _ => 0)) := ⟨rfl, rfl, hty, fun i _ => ⟨(show aIn q 0 from ⟨h1, h2⟩), fun q hq => by cases hq⟩⟩
/-- how many cells of a kind there are -/
noncomputable def kN (K : Nat → Nat) (k : Nat) : Nat → Nat
  | 0 => 0
  | n + 1 => kN K k n + (if K n = k then 1 else 0)
theorem kN_eq {K K' : Nat → Nat} {k : Nat} : ∀ (n : Nat), (∀ a, a < n → K' a = K a) → kN K' k n = kN K k n
  | 0, _ => rfl
  | n + 1, h => by
    unfold kN
    rw [kN_eq n (fun a ha => h a (by omega)), h n (by omega)]
theorem kN_gK {K : Nat → Nat} {n k j : Nat} : kN (gK K n j) k (n + 1) = kN K k n + (if j = k then 1 else 0) := by
  show kN (gK K n j) k n + (if gK K n j n = k then 1 else 0) = _
  rw [kN_eq n (fun a ha => gK_lo ha), gK_at]
/-- cells and slots of tables -/
noncomputable def tC (K : Nat → Nat) (n : Nat) : Nat := kN K 114 n + kN K 52 n + kN K 53 n + kN K 54 n
noncomputable def tS (K : Nat → Nat) (n : Nat) : Nat := 81920 * kN K 114 n + 196608 * kN K 52 n + 81920 * kN K 53 n + 196608 * kN K 54 n
end
section
/-! Endings.build: what comes before the check -/
noncomputable def kk_EN_build_0 : List jI := [(.aload_n 0, 1, (0, 0, 0, 0, 0)), (.iload_n 1, 1, (1, 0, 0, 0, 0)), (.putfield 82, 3, (8, 9, 585, 0, 0)), (.aload_n 0, 1, (0, 0, 0, 0, 0)), (.iload_n 1, 1, (1, 0, 0, 0, 0)), (.iconst 1, 1, (0, 0, 0, 1, 0)), (.if_icmp .ne 8, 3, (16, 0, 0, 0, 0)), (.bipush 24, 2, (0, 0, 0, 24, 0)), (.goto 7, 3, (20, 0, 0, 0, 0)), (.getstatic 85, 3, (7, 0, 1816, 0, 0)), (.arraylength, 1, (0, 0, 0, 0, 0)), (.sipush 8192, 3, (0, 0, 0, 8192, 0)), (.imul, 1, (0, 0, 0, 0, 0)), (.newarray .byte, 2, (0, 0, 0, 0, 0)), (.putfield 88, 3, (8, 6, 582, 3, 0)), (.aload_n 0, 1, (0, 0, 0, 0, 0)), (.getfield 15, 3, (8, 7, 583, 0, 0)), (.arraylength, 1, (0, 0, 0, 0, 0)), (.aload_n 0, 1, (0, 0, 0, 0, 0)), (.getfield 88, 3, (8, 6, 582, 0, 0)), (.arraylength, 1, (0, 0, 0, 0, 0)), (.if_icmp .ge 14, 3, (53, 0, 0, 0, 0)), (.aload_n 0, 1, (0, 0, 0, 0, 0)), (.aload_n 0, 1, (0, 0, 0, 0, 0)), (.getfield 88, 3, (8, 6, 582, 0, 0)), (.arraylength, 1, (0, 0, 0, 0, 0)), (.newarray .int, 2, (0, 0, 0, 0, 0)), (.putfield 15, 3, (8, 7, 583, 3, 0)), (.aload_n 0, 1, (0, 0, 0, 0, 0)), (.iconst 0, 1, (0, 0, 0, 0, 0)), (.putfield 91, 3, (8, 8, 584, 0, 0)), (.aload_n 0, 1, (0, 0, 0, 0, 0)), (.invokevirtual 94, 3, (0, 0, 0, 0, 0)), (.iconst 0, 1, (0, 0, 0, 0, 0)), (.istore_n 2, 1, (2, 0, 0, 0, 0)), (.iconst 0, 1, (0, 0, 0, 0, 0)), (.istore_n 3, 1, (3, 0, 0, 0, 0)), (.iload_n 3, 1, (3, 0, 0, 0, 0)), (.bipush 120, 2, (0, 0, 0, 120, 0)), (.if_icmp .ge 165, 3, (234, 0, 0, 0, 0)), (.iload_n 1, 1, (1, 0, 0, 0, 0)), (.iconst 1, 1, (0, 0, 0, 1, 0)), (.if_icmp .ne 8, 3, (82, 0, 0, 0, 0)), (.aload_n 0, 1, (0, 0, 0, 0, 0)), (.iload_n 3, 1, (3, 0, 0, 0, 0)), (.invokevirtual 97, 3, (0, 0, 0, 0, 0)), (.aload_n 0, 1, (0, 0, 0, 0, 0)), (.getfield 91, 3, (8, 8, 584, 0, 0)), (.istore 4, 2, (4, 0, 0, 0, 0)), (.iload_n 2, 1, (2, 0, 0, 0, 0)), (.iload 4, 2, (4, 0, 0, 0, 0)), (.if_icmp .ge 137, 3, (228, 0, 0, 0, 0)), (.aload_n 0, 1, (0, 0, 0, 0, 0)), (.getfield 15, 3, (8, 7, 583, 0, 0)), (.iload_n 2, 1, (2, 0, 0, 0, 0)), (.iaload, 1, (0, 0, 0, 0, 0)), (.istore 5, 2, (5, 0, 0, 0, 0)), (.iload 5, 2, (5, 0, 0, 0, 0)), (.bipush 13, 2, (0, 0, 0, 13, 0)), (.ishr, 1, (0, 0, 0, 0, 0)), (.istore 6, 2, (6, 0, 0, 0, 0)), (.iload 5, 2, (5, 0, 0, 0, 0)), (.iconst 1, 1, (0, 0, 0, 1, 0)), (.ishr, 1, (0, 0, 0, 0, 0)), (.bipush 63, 2, (0, 0, 0, 63, 0)), (.iand, 1, (0, 0, 0, 0, 0)), (.istore 7, 2, (7, 0, 0, 0, 0)), (.iload 5, 2, (5, 0, 0, 0, 0)), (.bipush 7, 2, (0, 0, 0, 7, 0)), (.ishr, 1, (0, 0, 0, 0, 0)), (.bipush 63, 2, (0, 0, 0, 63, 0)), (.iand, 1, (0, 0, 0, 0, 0)), (.istore 8, 2, (8, 0, 0, 0, 0)), (.iload_n 1, 1, (1, 0, 0, 0, 0)), (.iconst 1, 1, (0, 0, 0, 1, 0)), (.if_icmp .ne 21, 3, (151, 0, 0, 0, 0)), (.iload 6, 2, (6, 0, 0, 0, 0)), (.iconst 2, 1, (0, 0, 0, 2, 0)), (.ishr, 1, (0, 0, 0, 0, 0)), (.bipush 8, 2, (0, 0, 0, 8, 0)), (.imul, 1, (0, 0, 0, 0, 0)), (.bipush 8, 2, (0, 0, 0, 8, 0)), (.iadd, 1, (0, 0, 0, 0, 0)), (.iload 6, 2, (6, 0, 0, 0, 0)), (.iconst 3, 1, (0, 0, 0, 3, 0)), (.iand, 1, (0, 0, 0, 0, 0)), (.iadd, 1, (0, 0, 0, 0, 0)), (.goto 5, 3, (153, 0, 0, 0, 0)), (.iload 7, 2, (7, 0, 0, 0, 0)), (.istore 9, 2, (9, 0, 0, 0, 0)), (.iload_n 1, 1, (1, 0, 0, 0, 0)), (.iconst 1, 1, (0, 0, 0, 1, 0)), (.if_icmp .ne 8, 3, (165, 0, 0, 0, 0)), (.iload 7, 2, (7, 0, 0, 0, 0)), (.goto 9, 3, (171, 0, 0, 0, 0)), (.getstatic 85, 3, (7, 0, 1816, 0, 0)), (.iload 6, 2, (6, 0, 0, 0, 0)), (.iaload, 1, (0, 0, 0, 0, 0)), (.istore 10, 2, (10, 0, 0, 0, 0)), (.iload 5, 2, (5, 0, 0, 0, 0)), (.iconst 1, 1, (0, 0, 0, 1, 0)), (.iand, 1, (0, 0, 0, 0, 0)), (.ifCond .ne 19, 3, (196, 0, 0, 0, 0)), (.aload_n 0, 1, (0, 0, 0, 0, 0)), (.iload 8, 2, (8, 0, 0, 0, 0)), (.iload 9, 2, (9, 0, 0, 0, 0)), (.iload 10, 2, (10, 0, 0, 0, 0)), (.iload_n 3, 1, (3, 0, 0, 0, 0)), (.iconst 1, 1, (0, 0, 0, 1, 0)), (.iadd, 1, (0, 0, 0, 0, 0)), (.invokevirtual 101, 3, (0, 0, 0, 0, 0))]
theorem oo_EN_build_0 : jokL "ChessHouse$Endings" lw_tbl jcl jtb 11 false prog_6_method_8_code 0 kk_EN_build_0 = true := jokLF_ok (fun _ _ => jtF_ok) lo_EN (by decide +kernel)
noncomputable def k_EN_build_0 : List jI := [(.aload_n 0, 1, (0, 0, 0, 0, 0)), (.iload_n 1, 1, (1, 0, 0, 0, 0)), (.putfield 82, 3, (8, 9, 585, 0, 0)), (.aload_n 0, 1, (0, 0, 0, 0, 0)), (.iload_n 1, 1, (1, 0, 0, 0, 0)), (.iconst 1, 1, (0, 0, 0, 1, 0)), (.if_icmp .ne 8, 3, (16, 0, 0, 0, 0)), (.bipush 24, 2, (0, 0, 0, 24, 0)), (.goto 7, 3, (20, 0, 0, 0, 0))]
theorem o_EN_build_0 : jokL "ChessHouse$Endings" lw_tbl jcl jtb 11 false prog_6_method_8_code 0 k_EN_build_0 = true := jok_sub oo_EN_build_0 0 9 rfl rfl
noncomputable def k_EN_build_16 : List jI := [(.getstatic 85, 3, (7, 0, 1816, 0, 0)), (.arraylength, 1, (0, 0, 0, 0, 0))]
theorem o_EN_build_16 : jokL "ChessHouse$Endings" lw_tbl jcl jtb 11 false prog_6_method_8_code 16 k_EN_build_16 = true := jok_sub oo_EN_build_0 9 2 rfl rfl
noncomputable def k_EN_build_20 : List jI := [(.sipush 8192, 3, (0, 0, 0, 8192, 0)), (.imul, 1, (0, 0, 0, 0, 0))]
theorem o_EN_build_20 : jokL "ChessHouse$Endings" lw_tbl jcl jtb 11 false prog_6_method_8_code 20 k_EN_build_20 = true := jok_sub oo_EN_build_0 11 2 rfl rfl
noncomputable def k_EN_build_26 : List jI := [(.putfield 88, 3, (8, 6, 582, 3, 0)), (.aload_n 0, 1, (0, 0, 0, 0, 0)), (.getfield 15, 3, (8, 7, 583, 0, 0)), (.arraylength, 1, (0, 0, 0, 0, 0)), (.aload_n 0, 1, (0, 0, 0, 0, 0)), (.getfield 88, 3, (8, 6, 582, 0, 0)), (.arraylength, 1, (0, 0, 0, 0, 0)), (.if_icmp .ge 14, 3, (53, 0, 0, 0, 0)), (.aload_n 0, 1, (0, 0, 0, 0, 0)), (.aload_n 0, 1, (0, 0, 0, 0, 0)), (.getfield 88, 3, (8, 6, 582, 0, 0)), (.arraylength, 1, (0, 0, 0, 0, 0))]
theorem o_EN_build_26 : jokL "ChessHouse$Endings" lw_tbl jcl jtb 11 false prog_6_method_8_code 26 k_EN_build_26 = true := jok_sub oo_EN_build_0 14 12 rfl rfl
noncomputable def k_EN_build_50 : List jI := [(.putfield 15, 3, (8, 7, 583, 3, 0))]
theorem o_EN_build_50 : jokL "ChessHouse$Endings" lw_tbl jcl jtb 11 false prog_6_method_8_code 50 k_EN_build_50 = true := jok_sub oo_EN_build_0 27 1 rfl rfl
theorem d_EN_build_24 : decode prog_6_method_8_code 24 = .ok (.newarray .byte, 2) := by decide +kernel
theorem d_EN_build_48 : decode prog_6_method_8_code 48 = .ok (.newarray .int, 2) := by decide +kernel

noncomputable def bdA (σ : Nat → jcell) (en n qr L : Nat) (d b : Int32) (vl v3 v4 v5 v6 : jv) (tl man : Int32) : Nat → jcell := jup (jup (jup σ en (.inr (8, [.inl d, .inl b, vl, v3, v4, v5, v6, .inr (.inr (some (.inl qr))), .inl tl, .inl man]))) n (.inl (.byte, L, .inl fun _ => 0))) en (.inr (8, [.inl d, .inl b, vl, v3, v4, v5, .inr (.inr (some (.inl n))), .inr (.inr (some (.inl qr))), .inl tl, .inl man]))
noncomputable def bdN (σ : Nat → jcell) (en n qr L : Nat) (d b : Int32) (vl v3 v4 v5 v6 : jv) (tl man : Int32) : Nat → jcell := jup (jup (bdA σ en n qr L d b vl v3 v4 v5 v6 tl man) (n + 1) (.inl (.int, L, .inl fun _ => 0))) en (.inr (8, [.inl d, .inl b, vl, v3, v4, v5, .inr (.inr (some (.inl n))), .inr (.inr (some (.inl (n + 1)))), .inl tl, .inl man]))
set_option maxRecDepth 100000 in
set_option maxHeartbeats 4000000 in
theorem bd_Q5n {E : jE} {M : jM} {Q : State → Prop} {n : Nat} {rm : Room} (X : jX E "ChessHouse$Endings" lw_tbl jcl jtb 11 false prog_6_method_8_code M) (hR : M.2.2.2.1 = rm) (hc1 : 2 ≤ rm.cells) (hc2 : 163840 ≤ rm.slots) {σ : Nat → jcell} {en qr : Nat} {d b tl kd : Int32} {vl v3 v4 v5 v6 : jv} {g : Nat → Int32} (ha : en < n) (hs : σ en = .inr (8, [.inl d, .inl b, vl, v3, v4, v5, v6, .inr (.inr (some (.inl qr))), .inl tl, .inl kd])) (hqr : qr < n) (hne : qr ≠ en) (hqs : σ qr = .inl (.int, 0, .inl g))
    (kk : jJ E jcl 11 M Q (n + 2) 2 163840 53 [some (.inr (.inr (some (.inl en)))), some (.inl 5), none, none, none, none, none, none, none, none, none] [] (bdN σ en n qr 81920 d b vl v3 v4 v5 v6 tl 5)) : jJ E jcl 11 M Q n 0 0 0 [some (.inr (.inr (some (.inl en)))), some (.inl 5), none, none, none, none, none, none, none, none, none] [] σ := by
  have hak : (en < n) = True := eq_true ha
  have hak1 : (en < n + 1) = True := eq_true (by omega)
  have hqr1 : (qr < n + 1) = True := eq_true (by omega)
  have hnn : (n < n + 1) = True := eq_true (by omega)
  have hak2 : (en < n + 1 + 1) = True := eq_true (by omega)
  have hnn2 : (n < n + 1 + 1) = True := eq_true (by omega)
  have hm1 : ((5 : Int32) = 1) = False := eq_false (by decide)
  have hty1 : (FieldType.int ∈ jtys) = True := eq_true (by decide)
  have hty2 : (FieldType.byte ∈ jtys) = True := eq_true (by decide)
  have hq1 : qr ≠ en := hne
  have hq2 : qr ≠ n := by omega
  have hq3 : en ≠ n := by omega
  have hq4 : n ≠ en := by omega
  have hq5 : en ≠ n + 1 := by omega
  refine jrun_ok jC X k_EN_build_0 0 _ _ _ o_EN_build_0 ?_
  simp only [k_EN_build_0, jrun, jstep, jldi, jldl, jlda, j1, j2, jl1, jl2, jli, ja1, jbr, jald, jast, jlald, jlast, jalen, jget, jput, jfit, jdup, jdupx, jdupx2, jdup2, jcat, jset1, jset2, jkill, List.getElem?_cons_zero, List.getElem?_cons_succ, List.set_cons_zero, List.set_cons_succ, List.length_cons, List.length_nil, Nat.reduceAdd, Nat.reduceLT, Int32.reduceToNatClampNeg, true_and, and_true, and_self, reduceCtorEq, not_false_eq_true, false_and, and_false, or_false, false_or, true_or, or_true, hs, hqs, hak, hak1, hqr1, hnn, jup_s, jup_n hq1, jup_n hq2, jup_n hq3, jup_n hq4, false_implies, true_implies, not_true_eq_false, Int32.reduceLT, Int32.reduceLE, Int32.reduceMul, Int32.le_refl, Int32.lt_irrefl, not_false_eq_true, and_true, true_and, hm1, hty1, hty2, Int32.reduceOfNat, Nat.add_one_ne_zero, ne_eq, not_true_eq_false, jtb]
  refine jrun_ok jC X k_EN_build_16 16 _ _ _ o_EN_build_16 ?_
  simp only [k_EN_build_16, jrun, jstep, jldi, jldl, jlda, j1, j2, jl1, jl2, jli, ja1, jbr, jald, jast, jlald, jlast, jalen, jget, jput, jfit, jdup, jdupx, jdupx2, jdup2, jcat, jset1, jset2, jkill, List.getElem?_cons_zero, List.getElem?_cons_succ, List.set_cons_zero, List.set_cons_succ, List.length_cons, List.length_nil, Nat.reduceAdd, Nat.reduceLT, Int32.reduceToNatClampNeg, true_and, and_true, and_self, reduceCtorEq, not_false_eq_true, false_and, and_false, or_false, false_or, true_or, or_true, hs, hqs, hak, hak1, hqr1, hnn, jup_s, jup_n hq1, jup_n hq2, jup_n hq3, jup_n hq4, false_implies, true_implies, not_true_eq_false, Int32.reduceLT, Int32.reduceLE, Int32.reduceMul, Int32.le_refl, Int32.lt_irrefl, not_false_eq_true, and_true, true_and, hm1, hty1, hty2, Int32.reduceOfNat, Nat.add_one_ne_zero, ne_eq, not_true_eq_false, jtb]
  refine jrun_ok jC X k_EN_build_20 20 _ _ _ o_EN_build_20 ?_
  simp only [k_EN_build_20, jrun, jstep, jldi, jldl, jlda, j1, j2, jl1, jl2, jli, ja1, jbr, jald, jast, jlald, jlast, jalen, jget, jput, jfit, jdup, jdupx, jdupx2, jdup2, jcat, jset1, jset2, jkill, List.getElem?_cons_zero, List.getElem?_cons_succ, List.set_cons_zero, List.set_cons_succ, List.length_cons, List.length_nil, Nat.reduceAdd, Nat.reduceLT, Int32.reduceToNatClampNeg, true_and, and_true, and_self, reduceCtorEq, not_false_eq_true, false_and, and_false, or_false, false_or, true_or, or_true, hs, hqs, hak, hak1, hqr1, hnn, jup_s, jup_n hq1, jup_n hq2, jup_n hq3, jup_n hq4, false_implies, true_implies, not_true_eq_false, Int32.reduceLT, Int32.reduceLE, Int32.reduceMul, Int32.le_refl, Int32.lt_irrefl, not_false_eq_true, and_true, true_and, hm1, hty1, hty2, Int32.reduceOfNat, Nat.add_one_ne_zero, ne_eq, not_true_eq_false, jtb]
  refine jk_na X hR d_EN_build_24 (ty := .byte) rfl (w1 := 361) (jtF_ok rfl) (by decide) (by decide) 81920 rfl (by decide) (z := (81920, .inl fun _ => 0)) rfl (n' := n + 1) rfl (c' := 1) rfl (s' := 81920) (Nat.zero_add _) ⟨by omega, by omega⟩ (pc' := 26) rfl ?_
  refine jrun_ok jC X k_EN_build_26 26 _ _ _ o_EN_build_26 ?_
  simp only [k_EN_build_26, jrun, jstep, jldi, jldl, jlda, j1, j2, jl1, jl2, jli, ja1, jbr, jald, jast, jlald, jlast, jalen, jget, jput, jfit, jdup, jdupx, jdupx2, jdup2, jcat, jset1, jset2, jkill, List.getElem?_cons_zero, List.getElem?_cons_succ, List.set_cons_zero, List.set_cons_succ, List.length_cons, List.length_nil, Nat.reduceAdd, Nat.reduceLT, Int32.reduceToNatClampNeg, true_and, and_true, and_self, reduceCtorEq, not_false_eq_true, false_and, and_false, or_false, false_or, true_or, or_true, hs, hqs, hak, hak1, hqr1, hnn, jup_s, jup_n hq1, jup_n hq2, jup_n hq3, jup_n hq4, false_implies, true_implies, not_true_eq_false, Int32.reduceLT, Int32.reduceLE, Int32.reduceMul, Int32.le_refl, Int32.lt_irrefl, not_false_eq_true, and_true, true_and, hm1, hty1, hty2, Int32.reduceOfNat, Nat.add_one_ne_zero, ne_eq, not_true_eq_false, jtb]
  refine jk_na X hR d_EN_build_48 (ty := .int) rfl (w1 := 387) (jtF_ok rfl) (by decide) (by decide) 81920 rfl (by decide) (z := (81920, .inl fun _ => 0)) rfl (n' := n + 2) rfl (c' := 2) rfl (s' := 163840) rfl ⟨by omega, by omega⟩ (pc' := 50) rfl ?_
  refine jrun_ok jC X k_EN_build_50 50 _ _ _ o_EN_build_50 ?_
  simp only [k_EN_build_50, jrun, jstep, jldi, jldl, jlda, j1, j2, jl1, jl2, jli, ja1, jbr, jald, jast, jlald, jlast, jalen, jget, jput, jfit, jdup, jdupx, jdupx2, jdup2, jcat, jset1, jset2, jkill, List.getElem?_cons_zero, List.getElem?_cons_succ, List.set_cons_zero, List.set_cons_succ, List.length_cons, List.length_nil, Nat.reduceAdd, Nat.reduceLT, Int32.reduceToNatClampNeg, true_and, and_true, and_self, reduceCtorEq, not_false_eq_true, false_and, and_false, or_false, false_or, true_or, or_true, hs, hqs, hak, hak1, hqr1, hnn, jup_s, jup_n hq1, jup_n hq2, jup_n hq3, jup_n hq4, false_implies, true_implies, not_true_eq_false, Int32.reduceLT, Int32.reduceLE, Int32.reduceMul, Int32.le_refl, Int32.lt_irrefl, not_false_eq_true, and_true, true_and, hm1, hty1, hty2, Int32.reduceOfNat, Nat.add_one_ne_zero, ne_eq, not_true_eq_false, jtb, jup_n hq5, hak2, hnn2]
  exact kk
set_option maxRecDepth 100000 in
set_option maxHeartbeats 4000000 in
theorem bd_Q4n {E : jE} {M : jM} {Q : State → Prop} {n : Nat} {rm : Room} (X : jX E "ChessHouse$Endings" lw_tbl jcl jtb 11 false prog_6_method_8_code M) (hR : M.2.2.2.1 = rm) (hc1 : 2 ≤ rm.cells) (hc2 : 163840 ≤ rm.slots) {σ : Nat → jcell} {en qr : Nat} {d b tl kd : Int32} {vl v3 v4 v5 v6 : jv} {g : Nat → Int32} (ha : en < n) (hs : σ en = .inr (8, [.inl d, .inl b, vl, v3, v4, v5, v6, .inr (.inr (some (.inl qr))), .inl tl, .inl kd])) (hqr : qr < n) (hne : qr ≠ en) (hqs : σ qr = .inl (.int, 0, .inl g))
    (kk : jJ E jcl 11 M Q (n + 2) 2 163840 53 [some (.inr (.inr (some (.inl en)))), some (.inl 4), none, none, none, none, none, none, none, none, none] [] (bdN σ en n qr 81920 d b vl v3 v4 v5 v6 tl 4)) : jJ E jcl 11 M Q n 0 0 0 [some (.inr (.inr (some (.inl en)))), some (.inl 4), none, none, none, none, none, none, none, none, none] [] σ := by
  have hak : (en < n) = True := eq_true ha
  have hak1 : (en < n + 1) = True := eq_true (by omega)
  have hqr1 : (qr < n + 1) = True := eq_true (by omega)
  have hnn : (n < n + 1) = True := eq_true (by omega)
  have hak2 : (en < n + 1 + 1) = True := eq_true (by omega)
  have hnn2 : (n < n + 1 + 1) = True := eq_true (by omega)
  have hm1 : ((4 : Int32) = 1) = False := eq_false (by decide)
  have hty1 : (FieldType.int ∈ jtys) = True := eq_true (by decide)
  have hty2 : (FieldType.byte ∈ jtys) = True := eq_true (by decide)
  have hq1 : qr ≠ en := hne
  have hq2 : qr ≠ n := by omega
  have hq3 : en ≠ n := by omega
  have hq4 : n ≠ en := by omega
  have hq5 : en ≠ n + 1 := by omega
  refine jrun_ok jC X k_EN_build_0 0 _ _ _ o_EN_build_0 ?_
  simp only [k_EN_build_0, jrun, jstep, jldi, jldl, jlda, j1, j2, jl1, jl2, jli, ja1, jbr, jald, jast, jlald, jlast, jalen, jget, jput, jfit, jdup, jdupx, jdupx2, jdup2, jcat, jset1, jset2, jkill, List.getElem?_cons_zero, List.getElem?_cons_succ, List.set_cons_zero, List.set_cons_succ, List.length_cons, List.length_nil, Nat.reduceAdd, Nat.reduceLT, Int32.reduceToNatClampNeg, true_and, and_true, and_self, reduceCtorEq, not_false_eq_true, false_and, and_false, or_false, false_or, true_or, or_true, hs, hqs, hak, hak1, hqr1, hnn, jup_s, jup_n hq1, jup_n hq2, jup_n hq3, jup_n hq4, false_implies, true_implies, not_true_eq_false, Int32.reduceLT, Int32.reduceLE, Int32.reduceMul, Int32.le_refl, Int32.lt_irrefl, not_false_eq_true, and_true, true_and, hm1, hty1, hty2, Int32.reduceOfNat, Nat.add_one_ne_zero, ne_eq, not_true_eq_false, jtb]
  refine jrun_ok jC X k_EN_build_16 16 _ _ _ o_EN_build_16 ?_
  simp only [k_EN_build_16, jrun, jstep, jldi, jldl, jlda, j1, j2, jl1, jl2, jli, ja1, jbr, jald, jast, jlald, jlast, jalen, jget, jput, jfit, jdup, jdupx, jdupx2, jdup2, jcat, jset1, jset2, jkill, List.getElem?_cons_zero, List.getElem?_cons_succ, List.set_cons_zero, List.set_cons_succ, List.length_cons, List.length_nil, Nat.reduceAdd, Nat.reduceLT, Int32.reduceToNatClampNeg, true_and, and_true, and_self, reduceCtorEq, not_false_eq_true, false_and, and_false, or_false, false_or, true_or, or_true, hs, hqs, hak, hak1, hqr1, hnn, jup_s, jup_n hq1, jup_n hq2, jup_n hq3, jup_n hq4, false_implies, true_implies, not_true_eq_false, Int32.reduceLT, Int32.reduceLE, Int32.reduceMul, Int32.le_refl, Int32.lt_irrefl, not_false_eq_true, and_true, true_and, hm1, hty1, hty2, Int32.reduceOfNat, Nat.add_one_ne_zero, ne_eq, not_true_eq_false, jtb]
  refine jrun_ok jC X k_EN_build_20 20 _ _ _ o_EN_build_20 ?_
  simp only [k_EN_build_20, jrun, jstep, jldi, jldl, jlda, j1, j2, jl1, jl2, jli, ja1, jbr, jald, jast, jlald, jlast, jalen, jget, jput, jfit, jdup, jdupx, jdupx2, jdup2, jcat, jset1, jset2, jkill, List.getElem?_cons_zero, List.getElem?_cons_succ, List.set_cons_zero, List.set_cons_succ, List.length_cons, List.length_nil, Nat.reduceAdd, Nat.reduceLT, Int32.reduceToNatClampNeg, true_and, and_true, and_self, reduceCtorEq, not_false_eq_true, false_and, and_false, or_false, false_or, true_or, or_true, hs, hqs, hak, hak1, hqr1, hnn, jup_s, jup_n hq1, jup_n hq2, jup_n hq3, jup_n hq4, false_implies, true_implies, not_true_eq_false, Int32.reduceLT, Int32.reduceLE, Int32.reduceMul, Int32.le_refl, Int32.lt_irrefl, not_false_eq_true, and_true, true_and, hm1, hty1, hty2, Int32.reduceOfNat, Nat.add_one_ne_zero, ne_eq, not_true_eq_false, jtb]
  refine jk_na X hR d_EN_build_24 (ty := .byte) rfl (w1 := 361) (jtF_ok rfl) (by decide) (by decide) 81920 rfl (by decide) (z := (81920, .inl fun _ => 0)) rfl (n' := n + 1) rfl (c' := 1) rfl (s' := 81920) (Nat.zero_add _) ⟨by omega, by omega⟩ (pc' := 26) rfl ?_
  refine jrun_ok jC X k_EN_build_26 26 _ _ _ o_EN_build_26 ?_
  simp only [k_EN_build_26, jrun, jstep, jldi, jldl, jlda, j1, j2, jl1, jl2, jli, ja1, jbr, jald, jast, jlald, jlast, jalen, jget, jput, jfit, jdup, jdupx, jdupx2, jdup2, jcat, jset1, jset2, jkill, List.getElem?_cons_zero, List.getElem?_cons_succ, List.set_cons_zero, List.set_cons_succ, List.length_cons, List.length_nil, Nat.reduceAdd, Nat.reduceLT, Int32.reduceToNatClampNeg, true_and, and_true, and_self, reduceCtorEq, not_false_eq_true, false_and, and_false, or_false, false_or, true_or, or_true, hs, hqs, hak, hak1, hqr1, hnn, jup_s, jup_n hq1, jup_n hq2, jup_n hq3, jup_n hq4, false_implies, true_implies, not_true_eq_false, Int32.reduceLT, Int32.reduceLE, Int32.reduceMul, Int32.le_refl, Int32.lt_irrefl, not_false_eq_true, and_true, true_and, hm1, hty1, hty2, Int32.reduceOfNat, Nat.add_one_ne_zero, ne_eq, not_true_eq_false, jtb]
  refine jk_na X hR d_EN_build_48 (ty := .int) rfl (w1 := 387) (jtF_ok rfl) (by decide) (by decide) 81920 rfl (by decide) (z := (81920, .inl fun _ => 0)) rfl (n' := n + 2) rfl (c' := 2) rfl (s' := 163840) rfl ⟨by omega, by omega⟩ (pc' := 50) rfl ?_
  refine jrun_ok jC X k_EN_build_50 50 _ _ _ o_EN_build_50 ?_
  simp only [k_EN_build_50, jrun, jstep, jldi, jldl, jlda, j1, j2, jl1, jl2, jli, ja1, jbr, jald, jast, jlald, jlast, jalen, jget, jput, jfit, jdup, jdupx, jdupx2, jdup2, jcat, jset1, jset2, jkill, List.getElem?_cons_zero, List.getElem?_cons_succ, List.set_cons_zero, List.set_cons_succ, List.length_cons, List.length_nil, Nat.reduceAdd, Nat.reduceLT, Int32.reduceToNatClampNeg, true_and, and_true, and_self, reduceCtorEq, not_false_eq_true, false_and, and_false, or_false, false_or, true_or, or_true, hs, hqs, hak, hak1, hqr1, hnn, jup_s, jup_n hq1, jup_n hq2, jup_n hq3, jup_n hq4, false_implies, true_implies, not_true_eq_false, Int32.reduceLT, Int32.reduceLE, Int32.reduceMul, Int32.le_refl, Int32.lt_irrefl, not_false_eq_true, and_true, true_and, hm1, hty1, hty2, Int32.reduceOfNat, Nat.add_one_ne_zero, ne_eq, not_true_eq_false, jtb, jup_n hq5, hak2, hnn2]
  exact kk
set_option maxRecDepth 100000 in
set_option maxHeartbeats 4000000 in
theorem bd_Q5k {E : jE} {M : jM} {Q : State → Prop} {n : Nat} {rm : Room} (X : jX E "ChessHouse$Endings" lw_tbl jcl jtb 11 false prog_6_method_8_code M) (hR : M.2.2.2.1 = rm) (hc1 : 1 ≤ rm.cells) (hc2 : 81920 ≤ rm.slots) {σ : Nat → jcell} {en qr : Nat} {d b tl kd : Int32} {vl v3 v4 v5 v6 : jv} {g : Nat → Int32} (ha : en < n) (hs : σ en = .inr (8, [.inl d, .inl b, vl, v3, v4, v5, v6, .inr (.inr (some (.inl qr))), .inl tl, .inl kd])) (hqr : qr < n) (hne : qr ≠ en) (hqs : σ qr = .inl (.int, 81920, .inl g))
    (kk : jJ E jcl 11 M Q (n + 1) 1 81920 53 [some (.inr (.inr (some (.inl en)))), some (.inl 5), none, none, none, none, none, none, none, none, none] [] (bdA σ en n qr 81920 d b vl v3 v4 v5 v6 tl 5)) : jJ E jcl 11 M Q n 0 0 0 [some (.inr (.inr (some (.inl en)))), some (.inl 5), none, none, none, none, none, none, none, none, none] [] σ := by
  have hak : (en < n) = True := eq_true ha
  have hak1 : (en < n + 1) = True := eq_true (by omega)
  have hqr1 : (qr < n + 1) = True := eq_true (by omega)
  have hnn : (n < n + 1) = True := eq_true (by omega)
  have hak2 : (en < n + 1 + 1) = True := eq_true (by omega)
  have hnn2 : (n < n + 1 + 1) = True := eq_true (by omega)
  have hm1 : ((5 : Int32) = 1) = False := eq_false (by decide)
  have hty1 : (FieldType.int ∈ jtys) = True := eq_true (by decide)
  have hty2 : (FieldType.byte ∈ jtys) = True := eq_true (by decide)
  have hq1 : qr ≠ en := hne
  have hq2 : qr ≠ n := by omega
  have hq3 : en ≠ n := by omega
  have hq4 : n ≠ en := by omega
  have hq5 : en ≠ n + 1 := by omega
  refine jrun_ok jC X k_EN_build_0 0 _ _ _ o_EN_build_0 ?_
  simp only [k_EN_build_0, jrun, jstep, jldi, jldl, jlda, j1, j2, jl1, jl2, jli, ja1, jbr, jald, jast, jlald, jlast, jalen, jget, jput, jfit, jdup, jdupx, jdupx2, jdup2, jcat, jset1, jset2, jkill, List.getElem?_cons_zero, List.getElem?_cons_succ, List.set_cons_zero, List.set_cons_succ, List.length_cons, List.length_nil, Nat.reduceAdd, Nat.reduceLT, Int32.reduceToNatClampNeg, true_and, and_true, and_self, reduceCtorEq, not_false_eq_true, false_and, and_false, or_false, false_or, true_or, or_true, hs, hqs, hak, hak1, hqr1, hnn, jup_s, jup_n hq1, jup_n hq2, jup_n hq3, jup_n hq4, false_implies, true_implies, not_true_eq_false, Int32.reduceLT, Int32.reduceLE, Int32.reduceMul, Int32.le_refl, Int32.lt_irrefl, not_false_eq_true, and_true, true_and, hm1, hty1, hty2, Int32.reduceOfNat, Nat.add_one_ne_zero, ne_eq, not_true_eq_false, jtb]
  refine jrun_ok jC X k_EN_build_16 16 _ _ _ o_EN_build_16 ?_
  simp only [k_EN_build_16, jrun, jstep, jldi, jldl, jlda, j1, j2, jl1, jl2, jli, ja1, jbr, jald, jast, jlald, jlast, jalen, jget, jput, jfit, jdup, jdupx, jdupx2, jdup2, jcat, jset1, jset2, jkill, List.getElem?_cons_zero, List.getElem?_cons_succ, List.set_cons_zero, List.set_cons_succ, List.length_cons, List.length_nil, Nat.reduceAdd, Nat.reduceLT, Int32.reduceToNatClampNeg, true_and, and_true, and_self, reduceCtorEq, not_false_eq_true, false_and, and_false, or_false, false_or, true_or, or_true, hs, hqs, hak, hak1, hqr1, hnn, jup_s, jup_n hq1, jup_n hq2, jup_n hq3, jup_n hq4, false_implies, true_implies, not_true_eq_false, Int32.reduceLT, Int32.reduceLE, Int32.reduceMul, Int32.le_refl, Int32.lt_irrefl, not_false_eq_true, and_true, true_and, hm1, hty1, hty2, Int32.reduceOfNat, Nat.add_one_ne_zero, ne_eq, not_true_eq_false, jtb]
  refine jrun_ok jC X k_EN_build_20 20 _ _ _ o_EN_build_20 ?_
  simp only [k_EN_build_20, jrun, jstep, jldi, jldl, jlda, j1, j2, jl1, jl2, jli, ja1, jbr, jald, jast, jlald, jlast, jalen, jget, jput, jfit, jdup, jdupx, jdupx2, jdup2, jcat, jset1, jset2, jkill, List.getElem?_cons_zero, List.getElem?_cons_succ, List.set_cons_zero, List.set_cons_succ, List.length_cons, List.length_nil, Nat.reduceAdd, Nat.reduceLT, Int32.reduceToNatClampNeg, true_and, and_true, and_self, reduceCtorEq, not_false_eq_true, false_and, and_false, or_false, false_or, true_or, or_true, hs, hqs, hak, hak1, hqr1, hnn, jup_s, jup_n hq1, jup_n hq2, jup_n hq3, jup_n hq4, false_implies, true_implies, not_true_eq_false, Int32.reduceLT, Int32.reduceLE, Int32.reduceMul, Int32.le_refl, Int32.lt_irrefl, not_false_eq_true, and_true, true_and, hm1, hty1, hty2, Int32.reduceOfNat, Nat.add_one_ne_zero, ne_eq, not_true_eq_false, jtb]
  refine jk_na X hR d_EN_build_24 (ty := .byte) rfl (w1 := 361) (jtF_ok rfl) (by decide) (by decide) 81920 rfl (by decide) (z := (81920, .inl fun _ => 0)) rfl (n' := n + 1) rfl (c' := 1) rfl (s' := 81920) (Nat.zero_add _) ⟨by omega, by omega⟩ (pc' := 26) rfl ?_
  refine jrun_ok jC X k_EN_build_26 26 _ _ _ o_EN_build_26 ?_
  simp only [k_EN_build_26, jrun, jstep, jldi, jldl, jlda, j1, j2, jl1, jl2, jli, ja1, jbr, jald, jast, jlald, jlast, jalen, jget, jput, jfit, jdup, jdupx, jdupx2, jdup2, jcat, jset1, jset2, jkill, List.getElem?_cons_zero, List.getElem?_cons_succ, List.set_cons_zero, List.set_cons_succ, List.length_cons, List.length_nil, Nat.reduceAdd, Nat.reduceLT, Int32.reduceToNatClampNeg, true_and, and_true, and_self, reduceCtorEq, not_false_eq_true, false_and, and_false, or_false, false_or, true_or, or_true, hs, hqs, hak, hak1, hqr1, hnn, jup_s, jup_n hq1, jup_n hq2, jup_n hq3, jup_n hq4, false_implies, true_implies, not_true_eq_false, Int32.reduceLT, Int32.reduceLE, Int32.reduceMul, Int32.le_refl, Int32.lt_irrefl, not_false_eq_true, and_true, true_and, hm1, hty1, hty2, Int32.reduceOfNat, Nat.add_one_ne_zero, ne_eq, not_true_eq_false, jtb]
  exact kk
set_option maxRecDepth 100000 in
set_option maxHeartbeats 4000000 in
theorem bd_Q4k {E : jE} {M : jM} {Q : State → Prop} {n : Nat} {rm : Room} (X : jX E "ChessHouse$Endings" lw_tbl jcl jtb 11 false prog_6_method_8_code M) (hR : M.2.2.2.1 = rm) (hc1 : 1 ≤ rm.cells) (hc2 : 81920 ≤ rm.slots) {σ : Nat → jcell} {en qr : Nat} {d b tl kd : Int32} {vl v3 v4 v5 v6 : jv} {g : Nat → Int32} (ha : en < n) (hs : σ en = .inr (8, [.inl d, .inl b, vl, v3, v4, v5, v6, .inr (.inr (some (.inl qr))), .inl tl, .inl kd])) (hqr : qr < n) (hne : qr ≠ en) (hqs : σ qr = .inl (.int, 81920, .inl g))
    (kk : jJ E jcl 11 M Q (n + 1) 1 81920 53 [some (.inr (.inr (some (.inl en)))), some (.inl 4), none, none, none, none, none, none, none, none, none] [] (bdA σ en n qr 81920 d b vl v3 v4 v5 v6 tl 4)) : jJ E jcl 11 M Q n 0 0 0 [some (.inr (.inr (some (.inl en)))), some (.inl 4), none, none, none, none, none, none, none, none, none] [] σ := by
  have hak : (en < n) = True := eq_true ha
  have hak1 : (en < n + 1) = True := eq_true (by omega)
  have hqr1 : (qr < n + 1) = True := eq_true (by omega)
  have hnn : (n < n + 1) = True := eq_true (by omega)
  have hak2 : (en < n + 1 + 1) = True := eq_true (by omega)
  have hnn2 : (n < n + 1 + 1) = True := eq_true (by omega)
  have hm1 : ((4 : Int32) = 1) = False := eq_false (by decide)
  have hty1 : (FieldType.int ∈ jtys) = True := eq_true (by decide)
  have hty2 : (FieldType.byte ∈ jtys) = True := eq_true (by decide)
  have hq1 : qr ≠ en := hne
  have hq2 : qr ≠ n := by omega
  have hq3 : en ≠ n := by omega
  have hq4 : n ≠ en := by omega
  have hq5 : en ≠ n + 1 := by omega
  refine jrun_ok jC X k_EN_build_0 0 _ _ _ o_EN_build_0 ?_
  simp only [k_EN_build_0, jrun, jstep, jldi, jldl, jlda, j1, j2, jl1, jl2, jli, ja1, jbr, jald, jast, jlald, jlast, jalen, jget, jput, jfit, jdup, jdupx, jdupx2, jdup2, jcat, jset1, jset2, jkill, List.getElem?_cons_zero, List.getElem?_cons_succ, List.set_cons_zero, List.set_cons_succ, List.length_cons, List.length_nil, Nat.reduceAdd, Nat.reduceLT, Int32.reduceToNatClampNeg, true_and, and_true, and_self, reduceCtorEq, not_false_eq_true, false_and, and_false, or_false, false_or, true_or, or_true, hs, hqs, hak, hak1, hqr1, hnn, jup_s, jup_n hq1, jup_n hq2, jup_n hq3, jup_n hq4, false_implies, true_implies, not_true_eq_false, Int32.reduceLT, Int32.reduceLE, Int32.reduceMul, Int32.le_refl, Int32.lt_irrefl, not_false_eq_true, and_true, true_and, hm1, hty1, hty2, Int32.reduceOfNat, Nat.add_one_ne_zero, ne_eq, not_true_eq_false, jtb]
  refine jrun_ok jC X k_EN_build_16 16 _ _ _ o_EN_build_16 ?_
  simp only [k_EN_build_16, jrun, jstep, jldi, jldl, jlda, j1, j2, jl1, jl2, jli, ja1, jbr, jald, jast, jlald, jlast, jalen, jget, jput, jfit, jdup, jdupx, jdupx2, jdup2, jcat, jset1, jset2, jkill, List.getElem?_cons_zero, List.getElem?_cons_succ, List.set_cons_zero, List.set_cons_succ, List.length_cons, List.length_nil, Nat.reduceAdd, Nat.reduceLT, Int32.reduceToNatClampNeg, true_and, and_true, and_self, reduceCtorEq, not_false_eq_true, false_and, and_false, or_false, false_or, true_or, or_true, hs, hqs, hak, hak1, hqr1, hnn, jup_s, jup_n hq1, jup_n hq2, jup_n hq3, jup_n hq4, false_implies, true_implies, not_true_eq_false, Int32.reduceLT, Int32.reduceLE, Int32.reduceMul, Int32.le_refl, Int32.lt_irrefl, not_false_eq_true, and_true, true_and, hm1, hty1, hty2, Int32.reduceOfNat, Nat.add_one_ne_zero, ne_eq, not_true_eq_false, jtb]
  refine jrun_ok jC X k_EN_build_20 20 _ _ _ o_EN_build_20 ?_
  simp only [k_EN_build_20, jrun, jstep, jldi, jldl, jlda, j1, j2, jl1, jl2, jli, ja1, jbr, jald, jast, jlald, jlast, jalen, jget, jput, jfit, jdup, jdupx, jdupx2, jdup2, jcat, jset1, jset2, jkill, List.getElem?_cons_zero, List.getElem?_cons_succ, List.set_cons_zero, List.set_cons_succ, List.length_cons, List.length_nil, Nat.reduceAdd, Nat.reduceLT, Int32.reduceToNatClampNeg, true_and, and_true, and_self, reduceCtorEq, not_false_eq_true, false_and, and_false, or_false, false_or, true_or, or_true, hs, hqs, hak, hak1, hqr1, hnn, jup_s, jup_n hq1, jup_n hq2, jup_n hq3, jup_n hq4, false_implies, true_implies, not_true_eq_false, Int32.reduceLT, Int32.reduceLE, Int32.reduceMul, Int32.le_refl, Int32.lt_irrefl, not_false_eq_true, and_true, true_and, hm1, hty1, hty2, Int32.reduceOfNat, Nat.add_one_ne_zero, ne_eq, not_true_eq_false, jtb]
  refine jk_na X hR d_EN_build_24 (ty := .byte) rfl (w1 := 361) (jtF_ok rfl) (by decide) (by decide) 81920 rfl (by decide) (z := (81920, .inl fun _ => 0)) rfl (n' := n + 1) rfl (c' := 1) rfl (s' := 81920) (Nat.zero_add _) ⟨by omega, by omega⟩ (pc' := 26) rfl ?_
  refine jrun_ok jC X k_EN_build_26 26 _ _ _ o_EN_build_26 ?_
  simp only [k_EN_build_26, jrun, jstep, jldi, jldl, jlda, j1, j2, jl1, jl2, jli, ja1, jbr, jald, jast, jlald, jlast, jalen, jget, jput, jfit, jdup, jdupx, jdupx2, jdup2, jcat, jset1, jset2, jkill, List.getElem?_cons_zero, List.getElem?_cons_succ, List.set_cons_zero, List.set_cons_succ, List.length_cons, List.length_nil, Nat.reduceAdd, Nat.reduceLT, Int32.reduceToNatClampNeg, true_and, and_true, and_self, reduceCtorEq, not_false_eq_true, false_and, and_false, or_false, false_or, true_or, or_true, hs, hqs, hak, hak1, hqr1, hnn, jup_s, jup_n hq1, jup_n hq2, jup_n hq3, jup_n hq4, false_implies, true_implies, not_true_eq_false, Int32.reduceLT, Int32.reduceLE, Int32.reduceMul, Int32.le_refl, Int32.lt_irrefl, not_false_eq_true, and_true, true_and, hm1, hty1, hty2, Int32.reduceOfNat, Nat.add_one_ne_zero, ne_eq, not_true_eq_false, jtb]
  exact kk
set_option maxRecDepth 100000 in
set_option maxHeartbeats 4000000 in
theorem bd_Pn {E : jE} {M : jM} {Q : State → Prop} {n : Nat} {rm : Room} (X : jX E "ChessHouse$Endings" lw_tbl jcl jtb 11 false prog_6_method_8_code M) (hR : M.2.2.2.1 = rm) (hc1 : 2 ≤ rm.cells) (hc2 : 393216 ≤ rm.slots) {σ : Nat → jcell} {en qr : Nat} {d b tl kd : Int32} {vl v3 v4 v5 v6 : jv} {g : Nat → Int32} (ha : en < n) (hs : σ en = .inr (8, [.inl d, .inl b, vl, v3, v4, v5, v6, .inr (.inr (some (.inl qr))), .inl tl, .inl kd])) (hqr : qr < n) (hne : qr ≠ en) (hqs : σ qr = .inl (.int, 0, .inl g))
    (kk : jJ E jcl 11 M Q (n + 2) 2 393216 53 [some (.inr (.inr (some (.inl en)))), some (.inl 1), none, none, none, none, none, none, none, none, none] [] (bdN σ en n qr 196608 d b vl v3 v4 v5 v6 tl 1)) : jJ E jcl 11 M Q n 0 0 0 [some (.inr (.inr (some (.inl en)))), some (.inl 1), none, none, none, none, none, none, none, none, none] [] σ := by
  have hak : (en < n) = True := eq_true ha
  have hak1 : (en < n + 1) = True := eq_true (by omega)
  have hqr1 : (qr < n + 1) = True := eq_true (by omega)
  have hnn : (n < n + 1) = True := eq_true (by omega)
  have hak2 : (en < n + 1 + 1) = True := eq_true (by omega)
  have hnn2 : (n < n + 1 + 1) = True := eq_true (by omega)
  have hm1 : ((1 : Int32) = 1) = True := eq_true rfl
  have hty1 : (FieldType.int ∈ jtys) = True := eq_true (by decide)
  have hty2 : (FieldType.byte ∈ jtys) = True := eq_true (by decide)
  have hq1 : qr ≠ en := hne
  have hq2 : qr ≠ n := by omega
  have hq3 : en ≠ n := by omega
  have hq4 : n ≠ en := by omega
  have hq5 : en ≠ n + 1 := by omega
  refine jrun_ok jC X k_EN_build_0 0 _ _ _ o_EN_build_0 ?_
  simp only [k_EN_build_0, jrun, jstep, jldi, jldl, jlda, j1, j2, jl1, jl2, jli, ja1, jbr, jald, jast, jlald, jlast, jalen, jget, jput, jfit, jdup, jdupx, jdupx2, jdup2, jcat, jset1, jset2, jkill, List.getElem?_cons_zero, List.getElem?_cons_succ, List.set_cons_zero, List.set_cons_succ, List.length_cons, List.length_nil, Nat.reduceAdd, Nat.reduceLT, Int32.reduceToNatClampNeg, true_and, and_true, and_self, reduceCtorEq, not_false_eq_true, false_and, and_false, or_false, false_or, true_or, or_true, hs, hqs, hak, hak1, hqr1, hnn, jup_s, jup_n hq1, jup_n hq2, jup_n hq3, jup_n hq4, false_implies, true_implies, not_true_eq_false, Int32.reduceLT, Int32.reduceLE, Int32.reduceMul, Int32.le_refl, Int32.lt_irrefl, not_false_eq_true, and_true, true_and, hm1, hty1, hty2, Int32.reduceOfNat, Nat.add_one_ne_zero, ne_eq, not_true_eq_false, jtb]
  refine jrun_ok jC X k_EN_build_20 20 _ _ _ o_EN_build_20 ?_
  simp only [k_EN_build_20, jrun, jstep, jldi, jldl, jlda, j1, j2, jl1, jl2, jli, ja1, jbr, jald, jast, jlald, jlast, jalen, jget, jput, jfit, jdup, jdupx, jdupx2, jdup2, jcat, jset1, jset2, jkill, List.getElem?_cons_zero, List.getElem?_cons_succ, List.set_cons_zero, List.set_cons_succ, List.length_cons, List.length_nil, Nat.reduceAdd, Nat.reduceLT, Int32.reduceToNatClampNeg, true_and, and_true, and_self, reduceCtorEq, not_false_eq_true, false_and, and_false, or_false, false_or, true_or, or_true, hs, hqs, hak, hak1, hqr1, hnn, jup_s, jup_n hq1, jup_n hq2, jup_n hq3, jup_n hq4, false_implies, true_implies, not_true_eq_false, Int32.reduceLT, Int32.reduceLE, Int32.reduceMul, Int32.le_refl, Int32.lt_irrefl, not_false_eq_true, and_true, true_and, hm1, hty1, hty2, Int32.reduceOfNat, Nat.add_one_ne_zero, ne_eq, not_true_eq_false, jtb]
  refine jk_na X hR d_EN_build_24 (ty := .byte) rfl (w1 := 361) (jtF_ok rfl) (by decide) (by decide) 196608 rfl (by decide) (z := (196608, .inl fun _ => 0)) rfl (n' := n + 1) rfl (c' := 1) rfl (s' := 196608) (Nat.zero_add _) ⟨by omega, by omega⟩ (pc' := 26) rfl ?_
  refine jrun_ok jC X k_EN_build_26 26 _ _ _ o_EN_build_26 ?_
  simp only [k_EN_build_26, jrun, jstep, jldi, jldl, jlda, j1, j2, jl1, jl2, jli, ja1, jbr, jald, jast, jlald, jlast, jalen, jget, jput, jfit, jdup, jdupx, jdupx2, jdup2, jcat, jset1, jset2, jkill, List.getElem?_cons_zero, List.getElem?_cons_succ, List.set_cons_zero, List.set_cons_succ, List.length_cons, List.length_nil, Nat.reduceAdd, Nat.reduceLT, Int32.reduceToNatClampNeg, true_and, and_true, and_self, reduceCtorEq, not_false_eq_true, false_and, and_false, or_false, false_or, true_or, or_true, hs, hqs, hak, hak1, hqr1, hnn, jup_s, jup_n hq1, jup_n hq2, jup_n hq3, jup_n hq4, false_implies, true_implies, not_true_eq_false, Int32.reduceLT, Int32.reduceLE, Int32.reduceMul, Int32.le_refl, Int32.lt_irrefl, not_false_eq_true, and_true, true_and, hm1, hty1, hty2, Int32.reduceOfNat, Nat.add_one_ne_zero, ne_eq, not_true_eq_false, jtb]
  refine jk_na X hR d_EN_build_48 (ty := .int) rfl (w1 := 387) (jtF_ok rfl) (by decide) (by decide) 196608 rfl (by decide) (z := (196608, .inl fun _ => 0)) rfl (n' := n + 2) rfl (c' := 2) rfl (s' := 393216) rfl ⟨by omega, by omega⟩ (pc' := 50) rfl ?_
  refine jrun_ok jC X k_EN_build_50 50 _ _ _ o_EN_build_50 ?_
  simp only [k_EN_build_50, jrun, jstep, jldi, jldl, jlda, j1, j2, jl1, jl2, jli, ja1, jbr, jald, jast, jlald, jlast, jalen, jget, jput, jfit, jdup, jdupx, jdupx2, jdup2, jcat, jset1, jset2, jkill, List.getElem?_cons_zero, List.getElem?_cons_succ, List.set_cons_zero, List.set_cons_succ, List.length_cons, List.length_nil, Nat.reduceAdd, Nat.reduceLT, Int32.reduceToNatClampNeg, true_and, and_true, and_self, reduceCtorEq, not_false_eq_true, false_and, and_false, or_false, false_or, true_or, or_true, hs, hqs, hak, hak1, hqr1, hnn, jup_s, jup_n hq1, jup_n hq2, jup_n hq3, jup_n hq4, false_implies, true_implies, not_true_eq_false, Int32.reduceLT, Int32.reduceLE, Int32.reduceMul, Int32.le_refl, Int32.lt_irrefl, not_false_eq_true, and_true, true_and, hm1, hty1, hty2, Int32.reduceOfNat, Nat.add_one_ne_zero, ne_eq, not_true_eq_false, jtb, jup_n hq5, hak2, hnn2]
  exact kk
set_option maxRecDepth 100000 in
set_option maxHeartbeats 4000000 in
theorem bd_Pq {E : jE} {M : jM} {Q : State → Prop} {n : Nat} {rm : Room} (X : jX E "ChessHouse$Endings" lw_tbl jcl jtb 11 false prog_6_method_8_code M) (hR : M.2.2.2.1 = rm) (hc1 : 2 ≤ rm.cells) (hc2 : 393216 ≤ rm.slots) {σ : Nat → jcell} {en qr : Nat} {d b tl kd : Int32} {vl v3 v4 v5 v6 : jv} {g : Nat → Int32} (ha : en < n) (hs : σ en = .inr (8, [.inl d, .inl b, vl, v3, v4, v5, v6, .inr (.inr (some (.inl qr))), .inl tl, .inl kd])) (hqr : qr < n) (hne : qr ≠ en) (hqs : σ qr = .inl (.int, 81920, .inl g))
    (kk : jJ E jcl 11 M Q (n + 2) 2 393216 53 [some (.inr (.inr (some (.inl en)))), some (.inl 1), none, none, none, none, none, none, none, none, none] [] (bdN σ en n qr 196608 d b vl v3 v4 v5 v6 tl 1)) : jJ E jcl 11 M Q n 0 0 0 [some (.inr (.inr (some (.inl en)))), some (.inl 1), none, none, none, none, none, none, none, none, none] [] σ := by
  have hak : (en < n) = True := eq_true ha
  have hak1 : (en < n + 1) = True := eq_true (by omega)
  have hqr1 : (qr < n + 1) = True := eq_true (by omega)
  have hnn : (n < n + 1) = True := eq_true (by omega)
  have hak2 : (en < n + 1 + 1) = True := eq_true (by omega)
  have hnn2 : (n < n + 1 + 1) = True := eq_true (by omega)
  have hm1 : ((1 : Int32) = 1) = True := eq_true rfl
  have hty1 : (FieldType.int ∈ jtys) = True := eq_true (by decide)
  have hty2 : (FieldType.byte ∈ jtys) = True := eq_true (by decide)
  have hq1 : qr ≠ en := hne
  have hq2 : qr ≠ n := by omega
  have hq3 : en ≠ n := by omega
  have hq4 : n ≠ en := by omega
  have hq5 : en ≠ n + 1 := by omega
  refine jrun_ok jC X k_EN_build_0 0 _ _ _ o_EN_build_0 ?_
  simp only [k_EN_build_0, jrun, jstep, jldi, jldl, jlda, j1, j2, jl1, jl2, jli, ja1, jbr, jald, jast, jlald, jlast, jalen, jget, jput, jfit, jdup, jdupx, jdupx2, jdup2, jcat, jset1, jset2, jkill, List.getElem?_cons_zero, List.getElem?_cons_succ, List.set_cons_zero, List.set_cons_succ, List.length_cons, List.length_nil, Nat.reduceAdd, Nat.reduceLT, Int32.reduceToNatClampNeg, true_and, and_true, and_self, reduceCtorEq, not_false_eq_true, false_and, and_false, or_false, false_or, true_or, or_true, hs, hqs, hak, hak1, hqr1, hnn, jup_s, jup_n hq1, jup_n hq2, jup_n hq3, jup_n hq4, false_implies, true_implies, not_true_eq_false, Int32.reduceLT, Int32.reduceLE, Int32.reduceMul, Int32.le_refl, Int32.lt_irrefl, not_false_eq_true, and_true, true_and, hm1, hty1, hty2, Int32.reduceOfNat, Nat.add_one_ne_zero, ne_eq, not_true_eq_false, jtb]
  refine jrun_ok jC X k_EN_build_20 20 _ _ _ o_EN_build_20 ?_
  simp only [k_EN_build_20, jrun, jstep, jldi, jldl, jlda, j1, j2, jl1, jl2, jli, ja1, jbr, jald, jast, jlald, jlast, jalen, jget, jput, jfit, jdup, jdupx, jdupx2, jdup2, jcat, jset1, jset2, jkill, List.getElem?_cons_zero, List.getElem?_cons_succ, List.set_cons_zero, List.set_cons_succ, List.length_cons, List.length_nil, Nat.reduceAdd, Nat.reduceLT, Int32.reduceToNatClampNeg, true_and, and_true, and_self, reduceCtorEq, not_false_eq_true, false_and, and_false, or_false, false_or, true_or, or_true, hs, hqs, hak, hak1, hqr1, hnn, jup_s, jup_n hq1, jup_n hq2, jup_n hq3, jup_n hq4, false_implies, true_implies, not_true_eq_false, Int32.reduceLT, Int32.reduceLE, Int32.reduceMul, Int32.le_refl, Int32.lt_irrefl, not_false_eq_true, and_true, true_and, hm1, hty1, hty2, Int32.reduceOfNat, Nat.add_one_ne_zero, ne_eq, not_true_eq_false, jtb]
  refine jk_na X hR d_EN_build_24 (ty := .byte) rfl (w1 := 361) (jtF_ok rfl) (by decide) (by decide) 196608 rfl (by decide) (z := (196608, .inl fun _ => 0)) rfl (n' := n + 1) rfl (c' := 1) rfl (s' := 196608) (Nat.zero_add _) ⟨by omega, by omega⟩ (pc' := 26) rfl ?_
  refine jrun_ok jC X k_EN_build_26 26 _ _ _ o_EN_build_26 ?_
  simp only [k_EN_build_26, jrun, jstep, jldi, jldl, jlda, j1, j2, jl1, jl2, jli, ja1, jbr, jald, jast, jlald, jlast, jalen, jget, jput, jfit, jdup, jdupx, jdupx2, jdup2, jcat, jset1, jset2, jkill, List.getElem?_cons_zero, List.getElem?_cons_succ, List.set_cons_zero, List.set_cons_succ, List.length_cons, List.length_nil, Nat.reduceAdd, Nat.reduceLT, Int32.reduceToNatClampNeg, true_and, and_true, and_self, reduceCtorEq, not_false_eq_true, false_and, and_false, or_false, false_or, true_or, or_true, hs, hqs, hak, hak1, hqr1, hnn, jup_s, jup_n hq1, jup_n hq2, jup_n hq3, jup_n hq4, false_implies, true_implies, not_true_eq_false, Int32.reduceLT, Int32.reduceLE, Int32.reduceMul, Int32.le_refl, Int32.lt_irrefl, not_false_eq_true, and_true, true_and, hm1, hty1, hty2, Int32.reduceOfNat, Nat.add_one_ne_zero, ne_eq, not_true_eq_false, jtb]
  refine jk_na X hR d_EN_build_48 (ty := .int) rfl (w1 := 387) (jtF_ok rfl) (by decide) (by decide) 196608 rfl (by decide) (z := (196608, .inl fun _ => 0)) rfl (n' := n + 2) rfl (c' := 2) rfl (s' := 393216) rfl ⟨by omega, by omega⟩ (pc' := 50) rfl ?_
  refine jrun_ok jC X k_EN_build_50 50 _ _ _ o_EN_build_50 ?_
  simp only [k_EN_build_50, jrun, jstep, jldi, jldl, jlda, j1, j2, jl1, jl2, jli, ja1, jbr, jald, jast, jlald, jlast, jalen, jget, jput, jfit, jdup, jdupx, jdupx2, jdup2, jcat, jset1, jset2, jkill, List.getElem?_cons_zero, List.getElem?_cons_succ, List.set_cons_zero, List.set_cons_succ, List.length_cons, List.length_nil, Nat.reduceAdd, Nat.reduceLT, Int32.reduceToNatClampNeg, true_and, and_true, and_self, reduceCtorEq, not_false_eq_true, false_and, and_false, or_false, false_or, true_or, or_true, hs, hqs, hak, hak1, hqr1, hnn, jup_s, jup_n hq1, jup_n hq2, jup_n hq3, jup_n hq4, false_implies, true_implies, not_true_eq_false, Int32.reduceLT, Int32.reduceLE, Int32.reduceMul, Int32.le_refl, Int32.lt_irrefl, not_false_eq_true, and_true, true_and, hm1, hty1, hty2, Int32.reduceOfNat, Nat.add_one_ne_zero, ne_eq, not_true_eq_false, jtb, jup_n hq5, hak2, hnn2]
  exact kk
noncomputable def tEN : List aT := [.inl (-2147483648, 2147483647), .inl (-2147483648, 2147483647), .inr (some (.inl (false, 24))), .inr (some (.inl (true, 114))), .inr (some (.inl (true, 114))), .inr (some (.inl (true, 52))), .inr (some (.inl (true, 99999))), .inr (some (.inl (false, 99999))), .inl (0, 196608), .inl (0, 5)]
theorem tEN_T : fa_T[23]? = some (.inr (8, tEN)) := rfl
theorem en_ce {K : Nat → Nat} {n : Nat} {d b tl kd : Int32} {vl v3 v4 v5 v6 v7 : jv} (h2 : aG K n (.inr (some (.inl (false, 24)))) vl) (h3 : aG K n (.inr (some (.inl (true, 114)))) v3) (h4 : aG K n (.inr (some (.inl (true, 114)))) v4) (h5 : aG K n (.inr (some (.inl (true, 52)))) v5) (h6 : aG K n (.inr (some (.inl (true, 99999)))) v6) (h7 : aG K n (.inr (some (.inl (false, 99999)))) v7) (h8 : aIn (0, 196608) tl) (h9 : aIn (0, 5) kd) : aCe K n (.inr (8, tEN)) (.inr (8, [.inl d, .inl b, vl, v3, v4, v5, v6, v7, .inl tl, .inl kd])) := by
  refine ⟨rfl, rfl, fun f t v ht hv => ?_⟩
  match f, ht, hv with
  | 0, ht, hv => cases ht; cases hv; exact aIn_32 d
  | 1, ht, hv => cases ht; cases hv; exact aIn_32 b
  | 2, ht, hv => cases ht; cases hv; exact h2
  | 3, ht, hv => cases ht; cases hv; exact h3
  | 4, ht, hv => cases ht; cases hv; exact h4
  | 5, ht, hv => cases ht; cases hv; exact h5
  | 6, ht, hv => cases ht; cases hv; exact h6
  | 7, ht, hv => cases ht; cases hv; exact h7
  | 8, ht, hv => cases ht; cases hv; exact h8
  | 9, ht, hv => cases ht; cases hv; exact h9
  | f + 10, ht, _ => cases ht
/-- the fields of the tables' object -/
theorem en_fs {K : Nat → Nat} {n en : Nat} {σ : Nat → jcell} (h : aH fa_T K n σ) (he : en < n) (hk : K en = 23) : ∃ (d b tl kd : Int32) (vl v3 v4 v5 v6 : jv) (qr : Nat), σ en = .inr (8, [.inl d, .inl b, vl, v3, v4, v5, v6, .inr (.inr (some (.inl qr))), .inl tl, .inl kd]) ∧ aG K n (.inr (some (.inl (false, 24)))) vl ∧ aG K n (.inr (some (.inl (true, 114)))) v3 ∧ aG K n (.inr (some (.inl (true, 114)))) v4 ∧ aG K n (.inr (some (.inl (true, 52)))) v5 ∧ aG K n (.inr (some (.inl (true, 99999)))) v6 ∧ qr < n ∧ aIn (0, 196608) tl ∧ aIn (0, 5) kd := by
  obtain ⟨fs, e1, e2, e3⟩ := aCe_obj (h en he _ (by rw [hk]; exact tEN_T))
  match fs, e2 with
  | [x0, x1, x2, x3, x4, x5, x6, x7, x8, x9], _ =>
    obtain ⟨d, rfl, -⟩ := aG_int (e3 0 _ _ rfl rfl)
    obtain ⟨b, rfl, -⟩ := aG_int (e3 1 _ _ rfl rfl)
    obtain ⟨tl, rfl, t8⟩ := aG_int (e3 8 _ _ rfl rfl)
    obtain ⟨kd, rfl, t9⟩ := aG_int (e3 9 _ _ rfl rfl)
    obtain ⟨qr, rfl, t7⟩ := rG_any (e3 7 _ _ rfl rfl)
    exact ⟨d, b, tl, kd, x2, x3, x4, x5, x6, qr, e1, e3 2 _ _ rfl rfl, e3 3 _ _ rfl rfl, e3 4 _ _ rfl rfl, e3 5 _ _ rfl rfl, e3 6 _ _ rfl rfl, t7, t8, t9⟩
theorem aIn_mo {q q2 : Int × Int} {x : Int32} (h : aIn q x) (h1 : q2.1 ≤ q.1) (h2 : q.2 ≤ q2.2) : aIn q2 x := ⟨Int.le_trans h1 h.1, Int.le_trans h.2 h2⟩
noncomputable def bK1 (K : Nat → Nat) (n tk : Nat) : Nat → Nat := gK K n tk
noncomputable def bK2 (K : Nat → Nat) (n tk qk : Nat) : Nat → Nat := gK (gK K n tk) (n + 1) qk
section BDH
variable {K : Nat → Nat} {n : Nat} {σ : Nat → jcell} {en qr L tk qk : Nat} {d b tl kd man : Int32} {vl v3 v4 v5 v6 : jv} {q1 q2 : Int × Int}
theorem bdA_H (h : aH fa_T K n σ) (he : en < n) (hk : K en = 23) (hs : σ en = .inr (8, [.inl d, .inl b, vl, v3, v4, v5, v6, .inr (.inr (some (.inl qr))), .inl tl, .inl kd])) (h2 : aG K n (.inr (some (.inl (false, 24)))) vl) (h3 : aG K n (.inr (some (.inl (true, 114)))) v3) (h4 : aG K n (.inr (some (.inl (true, 114)))) v4) (h5 : aG K n (.inr (some (.inl (true, 52)))) v5) (h6 : aG K n (.inr (some (.inl (true, 99999)))) v6) (hqr : qr < n) (h8 : aIn (0, 196608) tl) (hm : aIn (0, 5) man) (hT : fa_T[tk]? = some (.inl (.byte, L, (-128, 127), []))) : aH fa_T (bK1 K n tk) (n + 1) (bdA σ en n qr L d b vl v3 v4 v5 v6 tl man) := by
  have hd : ∀ d0, fa_T[K en]? = some d0 → d0 = .inr (8, tEN) := fun d0 h9 => by
    rw [hk, tEN_T] at h9
    exact (Option.some.inj h9).symm
  have a1 := aH_up (a := en) (x := .inr (8, [.inl d, .inl b, vl, v3, v4, v5, v6, .inr (.inr (some (.inl qr))), .inl tl, .inl man])) h (fun d0 h9 => by rw [hd d0 h9]; exact en_ce h2 h3 h4 h5 h6 ⟨hqr, Or.inr rfl⟩ h8 hm)
  have a2 := aH_gK (k := tk) (c := .inl (.byte, L, .inl fun _ => 0)) a1 (fun d0 h9 => by
    rw [hT] at h9
    obtain rfl := Option.some.inj h9
    exact aCe_z (by decide) (by decide) (by decide))
  have w : gW K n (gK K n tk) (n + 1) := gK_gw
  refine aH_up a2 (fun d0 h9 => ?_)
  rw [gK_lo he] at h9
  rw [hd d0 h9]
  exact en_ce (aG_gw w h2) (aG_gw w h3) (aG_gw w h4) (aG_gw w h5) ⟨Nat.lt_succ_self n, Or.inr rfl⟩ ⟨Nat.lt_succ_of_lt hqr, Or.inr rfl⟩ h8 hm
theorem bdA_en : bdA σ en n qr L d b vl v3 v4 v5 v6 tl man en = .inr (8, [.inl d, .inl b, vl, v3, v4, v5, .inr (.inr (some (.inl n))), .inr (.inr (some (.inl qr))), .inl tl, .inl man]) := jup_s
theorem bdN_en : bdN σ en n qr L d b vl v3 v4 v5 v6 tl man en = .inr (8, [.inl d, .inl b, vl, v3, v4, v5, .inr (.inr (some (.inl n))), .inr (.inr (some (.inl (n + 1)))), .inl tl, .inl man]) := jup_s
theorem bdA_o {a : Nat} (h1 : a ≠ en) (h2 : a ≠ n) : bdA σ en n qr L d b vl v3 v4 v5 v6 tl man a = σ a := by
  unfold bdA
  rw [jup_n h1, jup_n h2, jup_n h1]
theorem bdN_o {a : Nat} (h1 : a ≠ en) (h2 : a ≠ n) (h3 : a ≠ n + 1) : bdN σ en n qr L d b vl v3 v4 v5 v6 tl man a = σ a := by
  unfold bdN
  rw [jup_n h1, jup_n h3, bdA_o h1 h2]
theorem bdN_H (h : aH fa_T K n σ) (he : en < n) (hk : K en = 23) (hs : σ en = .inr (8, [.inl d, .inl b, vl, v3, v4, v5, v6, .inr (.inr (some (.inl qr))), .inl tl, .inl kd])) (h2 : aG K n (.inr (some (.inl (false, 24)))) vl) (h3 : aG K n (.inr (some (.inl (true, 114)))) v3) (h4 : aG K n (.inr (some (.inl (true, 114)))) v4) (h5 : aG K n (.inr (some (.inl (true, 52)))) v5) (h6 : aG K n (.inr (some (.inl (true, 99999)))) v6) (hqr : qr < n) (h8 : aIn (0, 196608) tl) (hm : aIn (0, 5) man) (hT : fa_T[tk]? = some (.inl (.byte, L, (-128, 127), []))) (hQ : fa_T[qk]? = some (.inl (.int, L, q2, []))) (hq2 : q2.1 ≤ 0) (hq3 : 0 ≤ q2.2) : aH fa_T (bK2 K n tk qk) (n + 2) (bdN σ en n qr L d b vl v3 v4 v5 v6 tl man) := by
  have a1 := bdA_H (L := L) (tk := tk) h he hk hs h2 h3 h4 h5 h6 hqr h8 hm hT
  have a2 := aH_gK (k := qk) (c := .inl (.int, L, .inl fun _ => 0)) a1 (fun d0 h9 => by
    rw [hQ] at h9
    obtain rfl := Option.some.inj h9
    exact aCe_z (by decide) hq2 hq3)
  have w : gW K n (bK2 K n tk qk) (n + 2) := gW_tr gK_gw gK_gw
  refine aH_up a2 (fun d0 h9 => ?_)
  rw [show gK (bK1 K n tk) (n + 1) qk en = K en from (gK_lo (by omega)).trans (gK_lo he), hk, tEN_T] at h9
  obtain rfl := Option.some.inj h9
  exact en_ce (aG_gw w h2) (aG_gw w h3) (aG_gw w h4) (aG_gw w h5) ⟨by omega, Or.inr rfl⟩ ⟨by omega, Or.inr rfl⟩ h8 hm
theorem fJX_up {a : Nat} {c : jcell} (h : fJX K n σ) (hk : ¬ (25 ≤ K a ∧ K a ≤ 51)) : fJX K n (jup σ a c) := fJX_eq h (fun x _ h1 h2 => jup_n (fun e => hk (by rw [← e]; exact ⟨h1, h2⟩)))
theorem bdA_X (h : fJX K n σ) (he : en < n) (hk : K en = 23) (ht : ¬ (25 ≤ tk ∧ tk ≤ 51)) : fJX (bK1 K n tk) (n + 1) (bdA σ en n qr L d b vl v3 v4 v5 v6 tl man) := fJX_up (fJX_gK (fJX_up h (by rw [hk]; decide)) ht) (by rw [show bK1 K n tk en = K en from gK_lo he, hk]; decide)
theorem bdN_X (h : fJX K n σ) (he : en < n) (hk : K en = 23) (ht : ¬ (25 ≤ tk ∧ tk ≤ 51)) (hq : ¬ (25 ≤ qk ∧ qk ≤ 51)) : fJX (bK2 K n tk qk) (n + 2) (bdN σ en n qr L d b vl v3 v4 v5 v6 tl man) := fJX_up (fJX_gK (bdA_X h he hk ht) hq) (by rw [show bK2 K n tk qk en = K en from (gK_lo (by omega)).trans (gK_lo he), hk]; decide)
end BDH
noncomputable def bP0 : fP := .inl (fun _ => 0, fun _ => 0)
section BDZ
variable {l : Launch} {E : jE}
set_option maxRecDepth 100000 in
set_option maxHeartbeats 4000000 in
theorem bz_Q5n {K : Nat → Nat} {n : Nat} {σ : Nat → jcell} {en qr : Nat} {d b tl kd : Int32} {vl v3 v4 v5 v6 : jv} {g : Nat → Int32} (h : aH fa_T K n σ) (hX : fJX K n σ) (he : en < n) (hk : K en = 23) (hs : σ en = .inr (8, [.inl d, .inl b, vl, v3, v4, v5, v6, .inr (.inr (some (.inl qr))), .inl tl, .inl kd])) (h2 : aG K n (.inr (some (.inl (false, 24)))) vl) (h3 : aG K n (.inr (some (.inl (true, 114)))) v3) (h4 : aG K n (.inr (some (.inl (true, 114)))) v4) (h5 : aG K n (.inr (some (.inl (true, 52)))) v5) (h6 : aG K n (.inr (some (.inl (true, 99999)))) v6) (hqr : qr < n) (h8 : aIn (0, 196608) tl) (hqs : σ qr = .inl (.int, 0, .inl g)) : jMet l E jcl jtb lw_tbl y_EN_build { frames := 3, cells := 2, slots := 163840, locals := 85 } [.inr (.inr (some (.inl en))), .inl 5] σ n (fun r σ' n' => n' = n + 2 ∧ ∃ t, r = some (.inr (.inr (some (.inl t)))) ∧ t < n + 2 ∧ (bK2 K n 114 53) t = 114 ∧ aH fa_T (bK2 K n 114 53) (n + 2) σ' ∧ fJX (bK2 K n 114 53) (n + 2) σ' ∧ aFr (bK2 K n 114 53) (n + 2) [(23, 8)] (bdN σ en n qr 81920 d b vl v3 v4 v5 v6 tl 5) σ' ∧ aFa (bK2 K n 114 53) (n + 2) [(114, ([], 0)), (53, ([], 0))] [.inr (.inr (some (.inl en))), .inl 5] (bdN σ en n qr 81920 d b vl v3 v4 v5 v6 tl 5) σ') := by
  have hne : qr ≠ en := fun e => by
    rw [e, hs] at hqs
    cases hqs
  have hH : aH fa_T (bK2 K n 114 53) (n + 2) (bdN σ en n qr 81920 d b vl v3 v4 v5 v6 tl 5) := bdN_H h he hk hs h2 h3 h4 h5 h6 hqr h8 ⟨by decide, by decide⟩ rfl rfl (by decide) (by decide)
  have hJ : fJX (bK2 K n 114 53) (n + 2) (bdN σ en n qr 81920 d b vl v3 v4 v5 v6 tl 5) := bdN_X hX he hk (by decide) (by decide)
  have hke : (bK2 K n 114 53) en = 23 := by
    rw [← hk]
    exact (gK_lo (by omega)).trans (gK_lo he)
  refine jMet_ofG (hY := rfl) false (fun h => by cases h) (by decide) (Nat.le_of_ble_eq_true rfl) [some (.inr (.inr (some (.inl en)))), some (.inl 5), none, none, none, none, none, none, none, none, none] rfl ?_
  intro M hl hR X hr hsz
  refine bd_Q5n X hR (Nat.le_refl _) (Nat.le_refl _) he hs hqr hne hqs ?_
  refine zc_ENbuildQ5 (l := l) (E := E) _ { frames := 3, cells := 2, slots := 163840, locals := 85 } ⟨Nat.le_of_ble_eq_true rfl, Nat.le_of_ble_eq_true rfl⟩ n bP0 [.inr (.inr (some (.inl en))), .inl 5] (fun w => w = ((bK2 K n 114 53), n + 2, (bdN σ en n qr 81920 d b vl v3 v4 v5 v6 tl 5), 2, 163840)) rfl ?_ M hl hR hsz X hr (bK2 K n 114 53) (n + 2) (bdN σ en n qr 81920 d b vl v3 v4 v5 v6 tl 5) 2 163840 rfl _ (List.mem_of_getElem? (i := 0) rfl) [.inr (.inr (some (.inl en))), .inl 5, .inr (.inr (some (.inl n))), .inr (.inr (some (.inl (n + 1)))), .inl tl] [some (.inr (.inr (some (.inl en)))), some (.inl 5), none, none, none, none, none, none, none, none, none] [] (bdN σ en n qr 81920 d b vl v3 v4 v5 v6 tl 5) (fun i v hv => ?_) ?_
  · intro K1 n1 σ0 ca sl hw
    cases hw
    refine ⟨⟨Nat.le_refl _, Nat.le_refl _⟩, fun r σ' hp => ?_⟩
    obtain ⟨-, p1, p2, p3, p4, p5, xs, p6, -⟩ := hp
    cases r with
    | none => cases p5
    | some v =>
      obtain ⟨t, rfl, t1, t2⟩ := aG_obj (by decide) (p6.2 2 _ v rfl rfl).1
      exact ⟨rfl, t, rfl, t1, t2, p1, p2, p3, p4⟩
  · match i, hv with
    | 0, hv => exact hv
    | 1, hv => exact hv
    | i + 2, hv => cases hv
  · refine ⟨⟨rfl, fun i e v he9 hv => ?_⟩, ⟨rfl, fun i k hk9 => ?_⟩, trivial, ⟨bP0, ?_, fun q hq => (by cases hq), fun q hq => (by cases hq), aAllc ⟨[], rfl, rfl⟩ (fun f hf => by cases hf)⟩, hH, hJ, aFr_rf, aFa_rf⟩
    · match i, he9, hv with
      | 0, he9, hv => cases he9; cases hv; exact ⟨⟨by omega, Or.inl hke⟩, trivial⟩
      | 1, he9, hv => cases he9; cases hv; exact ⟨⟨by decide, by decide⟩, trivial⟩
      | 2, he9, hv => cases he9; cases hv; exact ⟨⟨by omega, Or.inl ((gK_lo (Nat.lt_succ_self n)).trans gK_at)⟩, trivial⟩
      | 3, he9, hv => cases he9; cases hv; exact ⟨⟨by omega, Or.inl (gK_at)⟩, trivial⟩
      | 4, he9, hv => cases he9; cases hv; exact ⟨h8, trivial⟩
      | i + 5, he9, _ => cases he9
    · match i, hk9 with
      | 0, hk9 => cases hk9; exact ⟨_, rfl, rfl⟩
      | 1, hk9 => cases hk9; exact ⟨_, rfl, rfl⟩
      | i + 2, hk9 => exact absurd hk9 (by
          match i with
          | 0 | 1 | 2 | 3 | 4 | 5 | 6 | 7 | 8 => intro h9; cases h9
          | i + 9 => intro h9; cases h9)
    · exact aAllc ⟨en, 8, _, .inr (.inr (some (.inl n))), rfl, bdN_en, rfl, rfl⟩ (aAllc ⟨en, 8, _, .inr (.inr (some (.inl (n + 1)))), rfl, bdN_en, rfl, rfl⟩ (aAllc ⟨en, 8, _, .inl 5, rfl, bdN_en, rfl, rfl⟩ (aAllc ⟨en, 8, _, .inl tl, rfl, bdN_en, rfl, rfl⟩ (fun f hf => by cases hf))))
set_option maxRecDepth 100000 in
set_option maxHeartbeats 4000000 in
theorem bz_Q4n {K : Nat → Nat} {n : Nat} {σ : Nat → jcell} {en qr : Nat} {d b tl kd : Int32} {vl v3 v4 v5 v6 : jv} {g : Nat → Int32} (h : aH fa_T K n σ) (hX : fJX K n σ) (he : en < n) (hk : K en = 23) (hs : σ en = .inr (8, [.inl d, .inl b, vl, v3, v4, v5, v6, .inr (.inr (some (.inl qr))), .inl tl, .inl kd])) (h2 : aG K n (.inr (some (.inl (false, 24)))) vl) (h3 : aG K n (.inr (some (.inl (true, 114)))) v3) (h4 : aG K n (.inr (some (.inl (true, 114)))) v4) (h5 : aG K n (.inr (some (.inl (true, 52)))) v5) (h6 : aG K n (.inr (some (.inl (true, 99999)))) v6) (hqr : qr < n) (h8 : aIn (0, 196608) tl) (hqs : σ qr = .inl (.int, 0, .inl g)) : jMet l E jcl jtb lw_tbl y_EN_build { frames := 3, cells := 2, slots := 163840, locals := 85 } [.inr (.inr (some (.inl en))), .inl 4] σ n (fun r σ' n' => n' = n + 2 ∧ ∃ t, r = some (.inr (.inr (some (.inl t)))) ∧ t < n + 2 ∧ (bK2 K n 114 53) t = 114 ∧ aH fa_T (bK2 K n 114 53) (n + 2) σ' ∧ fJX (bK2 K n 114 53) (n + 2) σ' ∧ aFr (bK2 K n 114 53) (n + 2) [(23, 8)] (bdN σ en n qr 81920 d b vl v3 v4 v5 v6 tl 4) σ' ∧ aFa (bK2 K n 114 53) (n + 2) [(114, ([], 0)), (53, ([], 0))] [.inr (.inr (some (.inl en))), .inl 4] (bdN σ en n qr 81920 d b vl v3 v4 v5 v6 tl 4) σ') := by
  have hne : qr ≠ en := fun e => by
    rw [e, hs] at hqs
    cases hqs
  have hH : aH fa_T (bK2 K n 114 53) (n + 2) (bdN σ en n qr 81920 d b vl v3 v4 v5 v6 tl 4) := bdN_H h he hk hs h2 h3 h4 h5 h6 hqr h8 ⟨by decide, by decide⟩ rfl rfl (by decide) (by decide)
  have hJ : fJX (bK2 K n 114 53) (n + 2) (bdN σ en n qr 81920 d b vl v3 v4 v5 v6 tl 4) := bdN_X hX he hk (by decide) (by decide)
  have hke : (bK2 K n 114 53) en = 23 := by
    rw [← hk]
    exact (gK_lo (by omega)).trans (gK_lo he)
  refine jMet_ofG (hY := rfl) false (fun h => by cases h) (by decide) (Nat.le_of_ble_eq_true rfl) [some (.inr (.inr (some (.inl en)))), some (.inl 4), none, none, none, none, none, none, none, none, none] rfl ?_
  intro M hl hR X hr hsz
  refine bd_Q4n X hR (Nat.le_refl _) (Nat.le_refl _) he hs hqr hne hqs ?_
  refine zc_ENbuildQ4 (l := l) (E := E) _ { frames := 3, cells := 2, slots := 163840, locals := 85 } ⟨Nat.le_of_ble_eq_true rfl, Nat.le_of_ble_eq_true rfl⟩ n bP0 [.inr (.inr (some (.inl en))), .inl 4] (fun w => w = ((bK2 K n 114 53), n + 2, (bdN σ en n qr 81920 d b vl v3 v4 v5 v6 tl 4), 2, 163840)) rfl ?_ M hl hR hsz X hr (bK2 K n 114 53) (n + 2) (bdN σ en n qr 81920 d b vl v3 v4 v5 v6 tl 4) 2 163840 rfl _ (List.mem_of_getElem? (i := 0) rfl) [.inr (.inr (some (.inl en))), .inl 4, .inr (.inr (some (.inl n))), .inr (.inr (some (.inl (n + 1)))), .inl tl] [some (.inr (.inr (some (.inl en)))), some (.inl 4), none, none, none, none, none, none, none, none, none] [] (bdN σ en n qr 81920 d b vl v3 v4 v5 v6 tl 4) (fun i v hv => ?_) ?_
  · intro K1 n1 σ0 ca sl hw
    cases hw
    refine ⟨⟨Nat.le_refl _, Nat.le_refl _⟩, fun r σ' hp => ?_⟩
    obtain ⟨-, p1, p2, p3, p4, p5, xs, p6, -⟩ := hp
    cases r with
    | none => cases p5
    | some v =>
      obtain ⟨t, rfl, t1, t2⟩ := aG_obj (by decide) (p6.2 2 _ v rfl rfl).1
      exact ⟨rfl, t, rfl, t1, t2, p1, p2, p3, p4⟩
  · match i, hv with
    | 0, hv => exact hv
    | 1, hv => exact hv
    | i + 2, hv => cases hv
  · refine ⟨⟨rfl, fun i e v he9 hv => ?_⟩, ⟨rfl, fun i k hk9 => ?_⟩, trivial, ⟨bP0, ?_, fun q hq => (by cases hq), fun q hq => (by cases hq), aAllc ⟨[], rfl, rfl⟩ (fun f hf => by cases hf)⟩, hH, hJ, aFr_rf, aFa_rf⟩
    · match i, he9, hv with
      | 0, he9, hv => cases he9; cases hv; exact ⟨⟨by omega, Or.inl hke⟩, trivial⟩
      | 1, he9, hv => cases he9; cases hv; exact ⟨⟨by decide, by decide⟩, trivial⟩
      | 2, he9, hv => cases he9; cases hv; exact ⟨⟨by omega, Or.inl ((gK_lo (Nat.lt_succ_self n)).trans gK_at)⟩, trivial⟩
      | 3, he9, hv => cases he9; cases hv; exact ⟨⟨by omega, Or.inl (gK_at)⟩, trivial⟩
      | 4, he9, hv => cases he9; cases hv; exact ⟨h8, trivial⟩
      | i + 5, he9, _ => cases he9
    · match i, hk9 with
      | 0, hk9 => cases hk9; exact ⟨_, rfl, rfl⟩
      | 1, hk9 => cases hk9; exact ⟨_, rfl, rfl⟩
      | i + 2, hk9 => exact absurd hk9 (by
          match i with
          | 0 | 1 | 2 | 3 | 4 | 5 | 6 | 7 | 8 => intro h9; cases h9
          | i + 9 => intro h9; cases h9)
    · exact aAllc ⟨en, 8, _, .inr (.inr (some (.inl n))), rfl, bdN_en, rfl, rfl⟩ (aAllc ⟨en, 8, _, .inr (.inr (some (.inl (n + 1)))), rfl, bdN_en, rfl, rfl⟩ (aAllc ⟨en, 8, _, .inl 4, rfl, bdN_en, rfl, rfl⟩ (aAllc ⟨en, 8, _, .inl tl, rfl, bdN_en, rfl, rfl⟩ (fun f hf => by cases hf))))
set_option maxRecDepth 100000 in
set_option maxHeartbeats 4000000 in
theorem bz_Q5k {K : Nat → Nat} {n : Nat} {σ : Nat → jcell} {en qr : Nat} {d b tl kd : Int32} {vl v3 v4 v5 v6 : jv} {g : Nat → Int32} (h : aH fa_T K n σ) (hX : fJX K n σ) (he : en < n) (hk : K en = 23) (hs : σ en = .inr (8, [.inl d, .inl b, vl, v3, v4, v5, v6, .inr (.inr (some (.inl qr))), .inl tl, .inl kd])) (h2 : aG K n (.inr (some (.inl (false, 24)))) vl) (h3 : aG K n (.inr (some (.inl (true, 114)))) v3) (h4 : aG K n (.inr (some (.inl (true, 114)))) v4) (h5 : aG K n (.inr (some (.inl (true, 52)))) v5) (h6 : aG K n (.inr (some (.inl (true, 99999)))) v6) (hqr : qr < n) (h8 : aIn (0, 196608) tl) (hqs : σ qr = .inl (.int, 81920, .inl g)) (hqk : K qr = 53) : jMet l E jcl jtb lw_tbl y_EN_build { frames := 3, cells := 1, slots := 81920, locals := 85 } [.inr (.inr (some (.inl en))), .inl 5] σ n (fun r σ' n' => n' = n + 1 ∧ ∃ t, r = some (.inr (.inr (some (.inl t)))) ∧ t < n + 1 ∧ (bK1 K n 114) t = 114 ∧ aH fa_T (bK1 K n 114) (n + 1) σ' ∧ fJX (bK1 K n 114) (n + 1) σ' ∧ aFr (bK1 K n 114) (n + 1) [(23, 8)] (bdA σ en n qr 81920 d b vl v3 v4 v5 v6 tl 5) σ' ∧ aFa (bK1 K n 114) (n + 1) [(114, ([], 0)), (53, ([], 0))] [.inr (.inr (some (.inl en))), .inl 5] (bdA σ en n qr 81920 d b vl v3 v4 v5 v6 tl 5) σ') := by
  have hne : qr ≠ en := fun e => by
    rw [e, hs] at hqs
    cases hqs
  have hH : aH fa_T (bK1 K n 114) (n + 1) (bdA σ en n qr 81920 d b vl v3 v4 v5 v6 tl 5) := bdA_H h he hk hs h2 h3 h4 h5 h6 hqr h8 ⟨by decide, by decide⟩ rfl
  have hJ : fJX (bK1 K n 114) (n + 1) (bdA σ en n qr 81920 d b vl v3 v4 v5 v6 tl 5) := bdA_X hX he hk (by decide)
  have hke : (bK1 K n 114) en = 23 := by
    rw [← hk]
    exact gK_lo he
  refine jMet_ofG (hY := rfl) false (fun h => by cases h) (by decide) (Nat.le_of_ble_eq_true rfl) [some (.inr (.inr (some (.inl en)))), some (.inl 5), none, none, none, none, none, none, none, none, none] rfl ?_
  intro M hl hR X hr hsz
  refine bd_Q5k X hR (Nat.le_refl _) (Nat.le_refl _) he hs hqr hne hqs ?_
  refine zc_ENbuildQ5 (l := l) (E := E) _ { frames := 3, cells := 1, slots := 81920, locals := 85 } ⟨Nat.le_of_ble_eq_true rfl, Nat.le_of_ble_eq_true rfl⟩ n bP0 [.inr (.inr (some (.inl en))), .inl 5] (fun w => w = ((bK1 K n 114), n + 1, (bdA σ en n qr 81920 d b vl v3 v4 v5 v6 tl 5), 1, 81920)) rfl ?_ M hl hR hsz X hr (bK1 K n 114) (n + 1) (bdA σ en n qr 81920 d b vl v3 v4 v5 v6 tl 5) 1 81920 rfl _ (List.mem_of_getElem? (i := 0) rfl) [.inr (.inr (some (.inl en))), .inl 5, .inr (.inr (some (.inl n))), .inr (.inr (some (.inl qr))), .inl tl] [some (.inr (.inr (some (.inl en)))), some (.inl 5), none, none, none, none, none, none, none, none, none] [] (bdA σ en n qr 81920 d b vl v3 v4 v5 v6 tl 5) (fun i v hv => ?_) ?_
  · intro K1 n1 σ0 ca sl hw
    cases hw
    refine ⟨⟨Nat.le_refl _, Nat.le_refl _⟩, fun r σ' hp => ?_⟩
    obtain ⟨-, p1, p2, p3, p4, p5, xs, p6, -⟩ := hp
    cases r with
    | none => cases p5
    | some v =>
      obtain ⟨t, rfl, t1, t2⟩ := aG_obj (by decide) (p6.2 2 _ v rfl rfl).1
      exact ⟨rfl, t, rfl, t1, t2, p1, p2, p3, p4⟩
  · match i, hv with
    | 0, hv => exact hv
    | 1, hv => exact hv
    | i + 2, hv => cases hv
  · refine ⟨⟨rfl, fun i e v he9 hv => ?_⟩, ⟨rfl, fun i k hk9 => ?_⟩, trivial, ⟨bP0, ?_, fun q hq => (by cases hq), fun q hq => (by cases hq), aAllc ⟨[], rfl, rfl⟩ (fun f hf => by cases hf)⟩, hH, hJ, aFr_rf, aFa_rf⟩
    · match i, he9, hv with
      | 0, he9, hv => cases he9; cases hv; exact ⟨⟨by omega, Or.inl hke⟩, trivial⟩
      | 1, he9, hv => cases he9; cases hv; exact ⟨⟨by decide, by decide⟩, trivial⟩
      | 2, he9, hv => cases he9; cases hv; exact ⟨⟨by omega, Or.inl (gK_at)⟩, trivial⟩
      | 3, he9, hv => cases he9; cases hv; exact ⟨⟨by omega, Or.inl ((gK_lo hqr).trans hqk)⟩, trivial⟩
      | 4, he9, hv => cases he9; cases hv; exact ⟨h8, trivial⟩
      | i + 5, he9, _ => cases he9
    · match i, hk9 with
      | 0, hk9 => cases hk9; exact ⟨_, rfl, rfl⟩
      | 1, hk9 => cases hk9; exact ⟨_, rfl, rfl⟩
      | i + 2, hk9 => exact absurd hk9 (by
          match i with
          | 0 | 1 | 2 | 3 | 4 | 5 | 6 | 7 | 8 => intro h9; cases h9
          | i + 9 => intro h9; cases h9)
    · exact aAllc ⟨en, 8, _, .inr (.inr (some (.inl n))), rfl, bdA_en, rfl, rfl⟩ (aAllc ⟨en, 8, _, .inr (.inr (some (.inl qr))), rfl, bdA_en, rfl, rfl⟩ (aAllc ⟨en, 8, _, .inl 5, rfl, bdA_en, rfl, rfl⟩ (aAllc ⟨en, 8, _, .inl tl, rfl, bdA_en, rfl, rfl⟩ (fun f hf => by cases hf))))
set_option maxRecDepth 100000 in
set_option maxHeartbeats 4000000 in
theorem bz_Q4k {K : Nat → Nat} {n : Nat} {σ : Nat → jcell} {en qr : Nat} {d b tl kd : Int32} {vl v3 v4 v5 v6 : jv} {g : Nat → Int32} (h : aH fa_T K n σ) (hX : fJX K n σ) (he : en < n) (hk : K en = 23) (hs : σ en = .inr (8, [.inl d, .inl b, vl, v3, v4, v5, v6, .inr (.inr (some (.inl qr))), .inl tl, .inl kd])) (h2 : aG K n (.inr (some (.inl (false, 24)))) vl) (h3 : aG K n (.inr (some (.inl (true, 114)))) v3) (h4 : aG K n (.inr (some (.inl (true, 114)))) v4) (h5 : aG K n (.inr (some (.inl (true, 52)))) v5) (h6 : aG K n (.inr (some (.inl (true, 99999)))) v6) (hqr : qr < n) (h8 : aIn (0, 196608) tl) (hqs : σ qr = .inl (.int, 81920, .inl g)) (hqk : K qr = 53) : jMet l E jcl jtb lw_tbl y_EN_build { frames := 3, cells := 1, slots := 81920, locals := 85 } [.inr (.inr (some (.inl en))), .inl 4] σ n (fun r σ' n' => n' = n + 1 ∧ ∃ t, r = some (.inr (.inr (some (.inl t)))) ∧ t < n + 1 ∧ (bK1 K n 114) t = 114 ∧ aH fa_T (bK1 K n 114) (n + 1) σ' ∧ fJX (bK1 K n 114) (n + 1) σ' ∧ aFr (bK1 K n 114) (n + 1) [(23, 8)] (bdA σ en n qr 81920 d b vl v3 v4 v5 v6 tl 4) σ' ∧ aFa (bK1 K n 114) (n + 1) [(114, ([], 0)), (53, ([], 0))] [.inr (.inr (some (.inl en))), .inl 4] (bdA σ en n qr 81920 d b vl v3 v4 v5 v6 tl 4) σ') := by
  have hne : qr ≠ en := fun e => by
    rw [e, hs] at hqs
    cases hqs
  have hH : aH fa_T (bK1 K n 114) (n + 1) (bdA σ en n qr 81920 d b vl v3 v4 v5 v6 tl 4) := bdA_H h he hk hs h2 h3 h4 h5 h6 hqr h8 ⟨by decide, by decide⟩ rfl
  have hJ : fJX (bK1 K n 114) (n + 1) (bdA σ en n qr 81920 d b vl v3 v4 v5 v6 tl 4) := bdA_X hX he hk (by decide)
  have hke : (bK1 K n 114) en = 23 := by
    rw [← hk]
    exact gK_lo he
  refine jMet_ofG (hY := rfl) false (fun h => by cases h) (by decide) (Nat.le_of_ble_eq_true rfl) [some (.inr (.inr (some (.inl en)))), some (.inl 4), none, none, none, none, none, none, none, none, none] rfl ?_
  intro M hl hR X hr hsz
  refine bd_Q4k X hR (Nat.le_refl _) (Nat.le_refl _) he hs hqr hne hqs ?_
  refine zc_ENbuildQ4 (l := l) (E := E) _ { frames := 3, cells := 1, slots := 81920, locals := 85 } ⟨Nat.le_of_ble_eq_true rfl, Nat.le_of_ble_eq_true rfl⟩ n bP0 [.inr (.inr (some (.inl en))), .inl 4] (fun w => w = ((bK1 K n 114), n + 1, (bdA σ en n qr 81920 d b vl v3 v4 v5 v6 tl 4), 1, 81920)) rfl ?_ M hl hR hsz X hr (bK1 K n 114) (n + 1) (bdA σ en n qr 81920 d b vl v3 v4 v5 v6 tl 4) 1 81920 rfl _ (List.mem_of_getElem? (i := 0) rfl) [.inr (.inr (some (.inl en))), .inl 4, .inr (.inr (some (.inl n))), .inr (.inr (some (.inl qr))), .inl tl] [some (.inr (.inr (some (.inl en)))), some (.inl 4), none, none, none, none, none, none, none, none, none] [] (bdA σ en n qr 81920 d b vl v3 v4 v5 v6 tl 4) (fun i v hv => ?_) ?_
  · intro K1 n1 σ0 ca sl hw
    cases hw
    refine ⟨⟨Nat.le_refl _, Nat.le_refl _⟩, fun r σ' hp => ?_⟩
    obtain ⟨-, p1, p2, p3, p4, p5, xs, p6, -⟩ := hp
    cases r with
    | none => cases p5
    | some v =>
      obtain ⟨t, rfl, t1, t2⟩ := aG_obj (by decide) (p6.2 2 _ v rfl rfl).1
      exact ⟨rfl, t, rfl, t1, t2, p1, p2, p3, p4⟩
  · match i, hv with
    | 0, hv => exact hv
    | 1, hv => exact hv
    | i + 2, hv => cases hv
  · refine ⟨⟨rfl, fun i e v he9 hv => ?_⟩, ⟨rfl, fun i k hk9 => ?_⟩, trivial, ⟨bP0, ?_, fun q hq => (by cases hq), fun q hq => (by cases hq), aAllc ⟨[], rfl, rfl⟩ (fun f hf => by cases hf)⟩, hH, hJ, aFr_rf, aFa_rf⟩
    · match i, he9, hv with
      | 0, he9, hv => cases he9; cases hv; exact ⟨⟨by omega, Or.inl hke⟩, trivial⟩
      | 1, he9, hv => cases he9; cases hv; exact ⟨⟨by decide, by decide⟩, trivial⟩
      | 2, he9, hv => cases he9; cases hv; exact ⟨⟨by omega, Or.inl (gK_at)⟩, trivial⟩
      | 3, he9, hv => cases he9; cases hv; exact ⟨⟨by omega, Or.inl ((gK_lo hqr).trans hqk)⟩, trivial⟩
      | 4, he9, hv => cases he9; cases hv; exact ⟨h8, trivial⟩
      | i + 5, he9, _ => cases he9
    · match i, hk9 with
      | 0, hk9 => cases hk9; exact ⟨_, rfl, rfl⟩
      | 1, hk9 => cases hk9; exact ⟨_, rfl, rfl⟩
      | i + 2, hk9 => exact absurd hk9 (by
          match i with
          | 0 | 1 | 2 | 3 | 4 | 5 | 6 | 7 | 8 => intro h9; cases h9
          | i + 9 => intro h9; cases h9)
    · exact aAllc ⟨en, 8, _, .inr (.inr (some (.inl n))), rfl, bdA_en, rfl, rfl⟩ (aAllc ⟨en, 8, _, .inr (.inr (some (.inl qr))), rfl, bdA_en, rfl, rfl⟩ (aAllc ⟨en, 8, _, .inl 4, rfl, bdA_en, rfl, rfl⟩ (aAllc ⟨en, 8, _, .inl tl, rfl, bdA_en, rfl, rfl⟩ (fun f hf => by cases hf))))
set_option maxRecDepth 100000 in
set_option maxHeartbeats 4000000 in
theorem bz_Pn {K : Nat → Nat} {n : Nat} {σ : Nat → jcell} {en qr : Nat} {d b tl kd : Int32} {vl v3 v4 v5 v6 : jv} {g : Nat → Int32} (h : aH fa_T K n σ) (hX : fJX K n σ) (he : en < n) (hk : K en = 23) (hs : σ en = .inr (8, [.inl d, .inl b, vl, v3, v4, v5, v6, .inr (.inr (some (.inl qr))), .inl tl, .inl kd])) (h2 : aG K n (.inr (some (.inl (false, 24)))) vl) (h3 : aG K n (.inr (some (.inl (true, 114)))) v3) (h4 : aG K n (.inr (some (.inl (true, 114)))) v4) (h5 : aG K n (.inr (some (.inl (true, 52)))) v5) (h6 : aG K n (.inr (some (.inl (true, 99999)))) v6) (hqr : qr < n) (h8 : aIn (0, 196608) tl) (hqs : σ qr = .inl (.int, 0, .inl g)) : jMet l E jcl jtb lw_tbl y_EN_build { frames := 3, cells := 2, slots := 393216, locals := 86 } [.inr (.inr (some (.inl en))), .inl 1] σ n (fun r σ' n' => n' = n + 2 ∧ ∃ t, r = some (.inr (.inr (some (.inl t)))) ∧ t < n + 2 ∧ (bK2 K n 52 54) t = 52 ∧ aH fa_T (bK2 K n 52 54) (n + 2) σ' ∧ fJX (bK2 K n 52 54) (n + 2) σ' ∧ aFr (bK2 K n 52 54) (n + 2) [(23, 8)] (bdN σ en n qr 196608 d b vl v3 v4 v5 v6 tl 1) σ' ∧ aFa (bK2 K n 52 54) (n + 2) [(52, ([], 0)), (54, ([], 0))] [.inr (.inr (some (.inl en))), .inl 1] (bdN σ en n qr 196608 d b vl v3 v4 v5 v6 tl 1) σ') := by
  have hne : qr ≠ en := fun e => by
    rw [e, hs] at hqs
    cases hqs
  have hH : aH fa_T (bK2 K n 52 54) (n + 2) (bdN σ en n qr 196608 d b vl v3 v4 v5 v6 tl 1) := bdN_H h he hk hs h2 h3 h4 h5 h6 hqr h8 ⟨by decide, by decide⟩ rfl rfl (by decide) (by decide)
  have hJ : fJX (bK2 K n 52 54) (n + 2) (bdN σ en n qr 196608 d b vl v3 v4 v5 v6 tl 1) := bdN_X hX he hk (by decide) (by decide)
  have hke : (bK2 K n 52 54) en = 23 := by
    rw [← hk]
    exact (gK_lo (by omega)).trans (gK_lo he)
  refine jMet_ofG (hY := rfl) false (fun h => by cases h) (by decide) (Nat.le_of_ble_eq_true rfl) [some (.inr (.inr (some (.inl en)))), some (.inl 1), none, none, none, none, none, none, none, none, none] rfl ?_
  intro M hl hR X hr hsz
  refine bd_Pn X hR (Nat.le_refl _) (Nat.le_refl _) he hs hqr hne hqs ?_
  refine zc_ENbuildP (l := l) (E := E) _ { frames := 3, cells := 2, slots := 393216, locals := 86 } ⟨Nat.le_of_ble_eq_true rfl, Nat.le_of_ble_eq_true rfl⟩ n bP0 [.inr (.inr (some (.inl en))), .inl 1] (fun w => w = ((bK2 K n 52 54), n + 2, (bdN σ en n qr 196608 d b vl v3 v4 v5 v6 tl 1), 2, 393216)) rfl ?_ M hl hR hsz X hr (bK2 K n 52 54) (n + 2) (bdN σ en n qr 196608 d b vl v3 v4 v5 v6 tl 1) 2 393216 rfl _ (List.mem_of_getElem? (i := 0) rfl) [.inr (.inr (some (.inl en))), .inl 1, .inr (.inr (some (.inl n))), .inr (.inr (some (.inl (n + 1))))] [some (.inr (.inr (some (.inl en)))), some (.inl 1), none, none, none, none, none, none, none, none, none] [] (bdN σ en n qr 196608 d b vl v3 v4 v5 v6 tl 1) (fun i v hv => ?_) ?_
  · intro K1 n1 σ0 ca sl hw
    cases hw
    refine ⟨⟨Nat.le_refl _, Nat.le_refl _⟩, fun r σ' hp => ?_⟩
    obtain ⟨-, p1, p2, p3, p4, p5, xs, p6, -⟩ := hp
    cases r with
    | none => cases p5
    | some v =>
      obtain ⟨t, rfl, t1, t2⟩ := aG_obj (by decide) (p6.2 2 _ v rfl rfl).1
      exact ⟨rfl, t, rfl, t1, t2, p1, p2, p3, p4⟩
  · match i, hv with
    | 0, hv => exact hv
    | 1, hv => exact hv
    | i + 2, hv => cases hv
  · refine ⟨⟨rfl, fun i e v he9 hv => ?_⟩, ⟨rfl, fun i k hk9 => ?_⟩, trivial, ⟨bP0, ?_, fun q hq => (by cases hq), fun q hq => (by cases hq), aAllc ⟨[], rfl, rfl⟩ (fun f hf => by cases hf)⟩, hH, hJ, aFr_rf, aFa_rf⟩
    · match i, he9, hv with
      | 0, he9, hv => cases he9; cases hv; exact ⟨⟨by omega, Or.inl hke⟩, trivial⟩
      | 1, he9, hv => cases he9; cases hv; exact ⟨⟨by decide, by decide⟩, trivial⟩
      | 2, he9, hv => cases he9; cases hv; exact ⟨⟨by omega, Or.inl ((gK_lo (Nat.lt_succ_self n)).trans gK_at)⟩, trivial⟩
      | 3, he9, hv => cases he9; cases hv; exact ⟨⟨by omega, Or.inl (gK_at)⟩, trivial⟩
      | i + 4, he9, _ => cases he9
    · match i, hk9 with
      | 0, hk9 => cases hk9; exact ⟨_, rfl, rfl⟩
      | 1, hk9 => cases hk9; exact ⟨_, rfl, rfl⟩
      | i + 2, hk9 => exact absurd hk9 (by
          match i with
          | 0 | 1 | 2 | 3 | 4 | 5 | 6 | 7 | 8 => intro h9; cases h9
          | i + 9 => intro h9; cases h9)
    · exact aAllc ⟨en, 8, _, .inr (.inr (some (.inl n))), rfl, bdN_en, rfl, rfl⟩ (aAllc ⟨en, 8, _, .inr (.inr (some (.inl (n + 1)))), rfl, bdN_en, rfl, rfl⟩ (aAllc ⟨en, 8, _, .inl 1, rfl, bdN_en, rfl, rfl⟩ ((fun f hf => by cases hf))))
set_option maxRecDepth 100000 in
set_option maxHeartbeats 4000000 in
theorem bz_Pq {K : Nat → Nat} {n : Nat} {σ : Nat → jcell} {en qr : Nat} {d b tl kd : Int32} {vl v3 v4 v5 v6 : jv} {g : Nat → Int32} (h : aH fa_T K n σ) (hX : fJX K n σ) (he : en < n) (hk : K en = 23) (hs : σ en = .inr (8, [.inl d, .inl b, vl, v3, v4, v5, v6, .inr (.inr (some (.inl qr))), .inl tl, .inl kd])) (h2 : aG K n (.inr (some (.inl (false, 24)))) vl) (h3 : aG K n (.inr (some (.inl (true, 114)))) v3) (h4 : aG K n (.inr (some (.inl (true, 114)))) v4) (h5 : aG K n (.inr (some (.inl (true, 52)))) v5) (h6 : aG K n (.inr (some (.inl (true, 99999)))) v6) (hqr : qr < n) (h8 : aIn (0, 196608) tl) (hqs : σ qr = .inl (.int, 81920, .inl g)) : jMet l E jcl jtb lw_tbl y_EN_build { frames := 3, cells := 2, slots := 393216, locals := 86 } [.inr (.inr (some (.inl en))), .inl 1] σ n (fun r σ' n' => n' = n + 2 ∧ ∃ t, r = some (.inr (.inr (some (.inl t)))) ∧ t < n + 2 ∧ (bK2 K n 52 54) t = 52 ∧ aH fa_T (bK2 K n 52 54) (n + 2) σ' ∧ fJX (bK2 K n 52 54) (n + 2) σ' ∧ aFr (bK2 K n 52 54) (n + 2) [(23, 8)] (bdN σ en n qr 196608 d b vl v3 v4 v5 v6 tl 1) σ' ∧ aFa (bK2 K n 52 54) (n + 2) [(52, ([], 0)), (54, ([], 0))] [.inr (.inr (some (.inl en))), .inl 1] (bdN σ en n qr 196608 d b vl v3 v4 v5 v6 tl 1) σ') := by
  have hne : qr ≠ en := fun e => by
    rw [e, hs] at hqs
    cases hqs
  have hH : aH fa_T (bK2 K n 52 54) (n + 2) (bdN σ en n qr 196608 d b vl v3 v4 v5 v6 tl 1) := bdN_H h he hk hs h2 h3 h4 h5 h6 hqr h8 ⟨by decide, by decide⟩ rfl rfl (by decide) (by decide)
  have hJ : fJX (bK2 K n 52 54) (n + 2) (bdN σ en n qr 196608 d b vl v3 v4 v5 v6 tl 1) := bdN_X hX he hk (by decide) (by decide)
  have hke : (bK2 K n 52 54) en = 23 := by
    rw [← hk]
    exact (gK_lo (by omega)).trans (gK_lo he)
  refine jMet_ofG (hY := rfl) false (fun h => by cases h) (by decide) (Nat.le_of_ble_eq_true rfl) [some (.inr (.inr (some (.inl en)))), some (.inl 1), none, none, none, none, none, none, none, none, none] rfl ?_
  intro M hl hR X hr hsz
  refine bd_Pq X hR (Nat.le_refl _) (Nat.le_refl _) he hs hqr hne hqs ?_
  refine zc_ENbuildP (l := l) (E := E) _ { frames := 3, cells := 2, slots := 393216, locals := 86 } ⟨Nat.le_of_ble_eq_true rfl, Nat.le_of_ble_eq_true rfl⟩ n bP0 [.inr (.inr (some (.inl en))), .inl 1] (fun w => w = ((bK2 K n 52 54), n + 2, (bdN σ en n qr 196608 d b vl v3 v4 v5 v6 tl 1), 2, 393216)) rfl ?_ M hl hR hsz X hr (bK2 K n 52 54) (n + 2) (bdN σ en n qr 196608 d b vl v3 v4 v5 v6 tl 1) 2 393216 rfl _ (List.mem_of_getElem? (i := 0) rfl) [.inr (.inr (some (.inl en))), .inl 1, .inr (.inr (some (.inl n))), .inr (.inr (some (.inl (n + 1))))] [some (.inr (.inr (some (.inl en)))), some (.inl 1), none, none, none, none, none, none, none, none, none] [] (bdN σ en n qr 196608 d b vl v3 v4 v5 v6 tl 1) (fun i v hv => ?_) ?_
  · intro K1 n1 σ0 ca sl hw
    cases hw
    refine ⟨⟨Nat.le_refl _, Nat.le_refl _⟩, fun r σ' hp => ?_⟩
    obtain ⟨-, p1, p2, p3, p4, p5, xs, p6, -⟩ := hp
    cases r with
    | none => cases p5
    | some v =>
      obtain ⟨t, rfl, t1, t2⟩ := aG_obj (by decide) (p6.2 2 _ v rfl rfl).1
      exact ⟨rfl, t, rfl, t1, t2, p1, p2, p3, p4⟩
  · match i, hv with
    | 0, hv => exact hv
    | 1, hv => exact hv
    | i + 2, hv => cases hv
  · refine ⟨⟨rfl, fun i e v he9 hv => ?_⟩, ⟨rfl, fun i k hk9 => ?_⟩, trivial, ⟨bP0, ?_, fun q hq => (by cases hq), fun q hq => (by cases hq), aAllc ⟨[], rfl, rfl⟩ (fun f hf => by cases hf)⟩, hH, hJ, aFr_rf, aFa_rf⟩
    · match i, he9, hv with
      | 0, he9, hv => cases he9; cases hv; exact ⟨⟨by omega, Or.inl hke⟩, trivial⟩
      | 1, he9, hv => cases he9; cases hv; exact ⟨⟨by decide, by decide⟩, trivial⟩
      | 2, he9, hv => cases he9; cases hv; exact ⟨⟨by omega, Or.inl ((gK_lo (Nat.lt_succ_self n)).trans gK_at)⟩, trivial⟩
      | 3, he9, hv => cases he9; cases hv; exact ⟨⟨by omega, Or.inl (gK_at)⟩, trivial⟩
      | i + 4, he9, _ => cases he9
    · match i, hk9 with
      | 0, hk9 => cases hk9; exact ⟨_, rfl, rfl⟩
      | 1, hk9 => cases hk9; exact ⟨_, rfl, rfl⟩
      | i + 2, hk9 => exact absurd hk9 (by
          match i with
          | 0 | 1 | 2 | 3 | 4 | 5 | 6 | 7 | 8 => intro h9; cases h9
          | i + 9 => intro h9; cases h9)
    · exact aAllc ⟨en, 8, _, .inr (.inr (some (.inl n))), rfl, bdN_en, rfl, rfl⟩ (aAllc ⟨en, 8, _, .inr (.inr (some (.inl (n + 1)))), rfl, bdN_en, rfl, rfl⟩ (aAllc ⟨en, 8, _, .inl 1, rfl, bdN_en, rfl, rfl⟩ ((fun f hf => by cases hf))))
end BDZ
end
section
/-! CLASS: worlds, what is kept in them, how many tables there are -/
noncomputable def gk (k : Nat) : Prop := (25 ≤ k ∧ k ≤ 51) ∨ (1025 ≤ k ∧ k ≤ 1051)
noncomputable def tb4 (k : Nat) : Prop := k = 114 ∨ k = 52 ∨ k = 53 ∨ k = 54
noncomputable def fo1 (k : Nat) : Prop := (55 ≤ k ∧ k ≤ 113) ∨ 115 ≤ k
noncomputable def nl (v : jv) : Nat := match v with
  | .inr (.inr none) => 1
  | _ => 0
theorem nl_le (v : jv) : nl v ≤ 1 := by
  rcases v with x | x | _ | x
  · exact Nat.zero_le _
  · exact Nat.zero_le _
  · exact Nat.le_refl _
  · exact Nat.zero_le _
/-- the rows of the tables and of the queue: how many there may be -/
noncomputable def cQ (K : Nat → Nat) (n : Nat) (σ : Nat → jcell) (qr : Nat) (v3 v4 v5 : jv) : Prop := kN K 114 n + nl v3 + nl v4 ≤ 2 ∧ kN K 52 n + nl v5 ≤ 1 ∧ ((K qr = 998 ∧ (∃ g, σ qr = .inl (.int, 0, .inl g)) ∧ kN K 53 n = 0 ∧ kN K 54 n = 0) ∨ (K qr = 53 ∧ kN K 53 n ≤ 1 ∧ kN K 54 n = 0) ∨ (K qr = 54 ∧ kN K 53 n ≤ 1 ∧ kN K 54 n ≤ 1 ∧ nl v3 = 0 ∧ nl v4 = 0 ∧ nl v5 = 0))
noncomputable def cJ (K : Nat → Nat) (n : Nat) (σ : Nat → jcell) (en : Nat) : Prop := en < n ∧ K en = 23 ∧ (∀ a, a < n → K a = 23 → a = en) ∧ ∃ (qr : Nat) (fs : List jv) (v3 v4 v5 : jv), σ en = .inr (8, fs) ∧ fs[3]? = some v3 ∧ fs[4]? = some v4 ∧ fs[5]? = some v5 ∧ fs[7]? = some (fR qr) ∧ qr < n ∧ cQ K n σ qr v3 v4 v5
section CJS
variable {K K' : Nat → Nat} {n n' en : Nat} {σ σ' : Nat → jcell}
theorem cJ_rm (h : cJ K n σ en) : tC K n ≤ 5 ∧ tS K n ≤ 638976 := by
  obtain ⟨-, -, -, qr, fs, v3, v4, v5, -, -, -, -, -, -, h1, h2, h3⟩ := h
  unfold tC tS
  have e3 := nl_le v3
  have e4 := nl_le v4
  have e5 := nl_le v5
  rcases h3 with ⟨-, -, q1, q2⟩ | ⟨-, q1, q2⟩ | ⟨-, q1, q2, -⟩ <;> omega
theorem cJ_fr {md : List (Nat × Nat)} {mk : List (Nat × aF)} {ρ : List jv} (h : cJ K n σ en) (h1 : aFr K n md σ σ') (h2 : aFa K n mk ρ σ σ') (hm : md.all (fun q => !(Nat.beq q.1 23 && (Nat.beq q.2 3 || (Nat.beq q.2 4 || (Nat.beq q.2 5 || Nat.beq q.2 7))))) = true) : cJ K n σ' en := by
  obtain ⟨g1, g2, g3, qr, fs, v3, v4, v5, e0, e3, e4, e5, e7, g4, q1, q2, q3⟩ := h
  obtain ⟨fs', k1, k2, k3⟩ := h1 en g1 8 fs e0
  have hn : ∀ f, (f = 3 ∨ f = 4 ∨ f = 5 ∨ f = 7) → ¬ (K en, f) ∈ md := fun f hf hq => by
    have h9 := List.all_eq_true.mp hm _ hq
    dsimp only at h9
    rw [g2] at h9
    rcases hf with rfl | rfl | rfl | rfl
    all_goals exact absurd h9 (by decide)
  refine ⟨g1, g2, g3, qr, fs', v3, v4, v5, k1, k3 3 _ e3 (hn 3 (by simp)), k3 4 _ e4 (hn 4 (by simp)), k3 5 _ e5 (hn 5 (by simp)), k3 7 _ e7 (hn 7 (by simp)), g4, q1, q2, ?_⟩
  rcases q3 with ⟨a1, ⟨g, a2⟩, a3⟩ | q3
  · obtain ⟨g', b1, -⟩ := (h2 qr g4).1 .int 0 g a2
    exact Or.inl ⟨a1, ⟨g', b1⟩, a3⟩
  · exact Or.inr q3
theorem sK_eq {k j : Nat} (hj : ¬ gk j) : sK k = j ↔ k = j := by
  unfold gk at hj
  by_cases h1 : 25 ≤ k ∧ k ≤ 51
  · rw [sK_up h1]
    omega
  · by_cases h2 : 1025 ≤ k ∧ k ≤ 1051
    · rw [sK_dn h2]
      omega
    · rw [sK_id h1 h2]
theorem kN_cK {j : Nat} (hj : ¬ gk j) : ∀ (n : Nat), kN (cK K) j n = kN K j n
  | 0 => rfl
  | n + 1 => by
    show kN (cK K) j n + (if sK (K n) = j then 1 else 0) = kN K j n + (if K n = j then 1 else 0)
    rw [kN_cK hj n]
    by_cases h : K n = j
    · rw [if_pos h, if_pos ((sK_eq hj).mpr h)]
    · rw [if_neg h, if_neg (fun h9 => h ((sK_eq hj).mp h9))]
theorem cJ_cK (h : cJ K n σ en) : cJ (cK K) n σ en := by
  obtain ⟨g1, g2, g3, qr, fs, v3, v4, v5, e0, e3, e4, e5, e7, g4, q1, q2, q3⟩ := h
  have z : ∀ (a j : Nat), ¬ gk j → (cK K a = j ↔ K a = j) := fun a j hj => sK_eq hj
  refine ⟨g1, (z en 23 (by unfold gk; decide)).mpr g2, fun a ha hk => g3 a ha ((z a 23 (by unfold gk; decide)).mp hk), qr, fs, v3, v4, v5, e0, e3, e4, e5, e7, g4, ?_⟩
  unfold cQ
  rw [kN_cK (by unfold gk; decide), kN_cK (by unfold gk; decide), kN_cK (by unfold gk; decide), kN_cK (by unfold gk; decide), z qr 998 (by unfold gk; decide), z qr 53 (by unfold gk; decide), z qr 54 (by unfold gk; decide)]
  exact ⟨q1, q2, q3⟩
/-- a world that comes from another one: games may have been swapped, tables made -/
noncomputable def wR (K : Nat → Nat) (n : Nat) (K' : Nat → Nat) (n' : Nat) : Prop := n ≤ n' ∧ (∀ a, a < n → ¬ gk (K a) → K' a = K a) ∧ (∀ a, a < n → gk (K a) → gk (K' a)) ∧ ∀ a, n ≤ a → a < n' → tb4 (K' a)
theorem wR_rf : wR K n K n := ⟨Nat.le_refl _, fun _ _ _ => rfl, fun _ _ h => h, fun a h1 h2 => absurd h2 (Nat.not_lt.mpr h1)⟩
theorem tb4_gk {k : Nat} (h : tb4 k) : ¬ gk k := by
  unfold tb4 at h
  unfold gk
  omega
theorem wR_tr {K2 : Nat → Nat} {n2 : Nat} (h : wR K n K' n') (h2 : wR K' n' K2 n2) : wR K n K2 n2 := by
  refine ⟨Nat.le_trans h.1 h2.1, fun a ha hk => ?_, fun a ha hk => h2.2.2.1 a (Nat.lt_of_lt_of_le ha h.1) (h.2.2.1 a ha hk), fun a h1 h3 => ?_⟩
  · have e := h.2.1 a ha hk
    rw [h2.2.1 a (Nat.lt_of_lt_of_le ha h.1) (by rw [e]; exact hk), e]
  · by_cases h4 : a < n'
    · have h5 := h.2.2.2 a h1 h4
      rw [h2.2.1 a h4 (tb4_gk h5)]
      exact h5
    · exact h2.2.2.2 a (Nat.le_of_not_lt h4) h3
theorem wR_cK : wR K n (cK K) n := ⟨Nat.le_refl _, fun a _ hk => sK_id (fun h => hk (Or.inl h)) (fun h => hk (Or.inr h)), fun a _ hk => by
  show gk (sK (K a))
  rcases hk with hk | hk
  · rw [sK_up hk]
    unfold gk
    omega
  · rw [sK_dn hk]
    unfold gk
    omega, fun a h1 h2 => absurd h2 (Nat.not_lt.mpr h1)⟩
theorem wR_gw (h : gW K n K' n') (ht : ∀ a, n ≤ a → a < n' → tb4 (K' a)) : wR K n K' n' := ⟨h.1, fun a ha _ => h.2 a ha, fun a ha hk => by rw [h.2 a ha]; exact hk, ht⟩
theorem wR_kN (h : wR K n K' n') {j : Nat} (hj : ¬ gk j) : kN K' j n = kN K j n := by
  have key : ∀ m, m ≤ n → kN K' j m = kN K j m := by
    intro m
    induction m with
    | zero => intro _; rfl
    | succ m ih =>
      intro hm
      show kN K' j m + (if K' m = j then 1 else 0) = kN K j m + (if K m = j then 1 else 0)
      rw [ih (by omega)]
      by_cases hg : gk (K m)
      · have h1 := h.2.2.1 m (by omega) hg
        rw [if_neg (fun e => hj (by rw [← e]; exact h1)), if_neg (fun e => hj (by rw [← e]; exact hg))]
      · rw [h.2.1 m (by omega) hg]
  exact key n (Nat.le_refl _)
theorem tb_ce {a k L : Nat} {ty : FieldType} {q : Int × Int} {r : List (Nat × Nat × Int × Int × Int)} (hH : aH fa_T K n σ) (ha : a < n) (hk : K a = k) (hT : fa_T[k]? = some (.inl (ty, L, q, r))) (hty : ¬ ty = .long) : ∃ g, σ a = .inl (ty, L, .inl g) := by
  have h := hH a ha _ (by rw [hk]; exact hT)
  rcases hc : σ a with ⟨t, m, g | g | g⟩ | y
  · rw [hc] at h
    obtain ⟨rfl, rfl, -⟩ := h
    exact ⟨g, rfl⟩
  · rw [hc] at h
    exact absurd h.2.2 hty
  · rw [hc] at h
    exact h.elim
  · rw [hc] at h
    exact h.elim
theorem gTi_w (hw : wR K n K' n') (hH : aH fa_T K' n' σ') : gTi n n' σ' (tC K' n' - tC K n) (tS K' n' - tS K n) := by
  have hc : tC K' n = tC K n := by
    unfold tC
    rw [wR_kN hw (by unfold gk; decide), wR_kN hw (by unfold gk; decide), wR_kN hw (by unfold gk; decide), wR_kN hw (by unfold gk; decide)]
  have hs : tS K' n = tS K n := by
    unfold tS
    rw [wR_kN hw (by unfold gk; decide), wR_kN hw (by unfold gk; decide), wR_kN hw (by unfold gk; decide), wR_kN hw (by unfold gk; decide)]
  have one : ∀ a, n ≤ a → a < n' → gAr (σ' a) ∧ tC K' (a + 1) = tC K' a + 1 ∧ tS K' (a + 1) = tS K' a + gLen (σ' a) := by
    intro a h1 h2
    unfold tC tS
    simp only [kN]
    rcases hw.2.2.2 a h1 h2 with e | e | e | e
    · obtain ⟨g, hg⟩ := tb_ce hH h2 e (L := 81920) rfl (by decide)
      rw [hg, e]
      refine ⟨⟨_, _, _, rfl, by decide⟩, by simp <;> omega, ?_⟩
      show _ = _ + 81920
      simp
      omega
    · obtain ⟨g, hg⟩ := tb_ce hH h2 e (L := 196608) rfl (by decide)
      rw [hg, e]
      refine ⟨⟨_, _, _, rfl, by decide⟩, by simp; omega, ?_⟩
      show _ = _ + 196608
      simp
      omega
    · obtain ⟨g, hg⟩ := tb_ce hH h2 e (L := 81920) rfl (by decide)
      rw [hg, e]
      refine ⟨⟨_, _, _, rfl, by decide⟩, by simp; omega, ?_⟩
      show _ = _ + 81920
      simp
      omega
    · obtain ⟨g, hg⟩ := tb_ce hH h2 e (L := 196608) rfl (by decide)
      rw [hg, e]
      refine ⟨⟨_, _, _, rfl, by decide⟩, by simp; omega, ?_⟩
      show _ = _ + 196608
      simp
      omega
  have key : ∀ j, n + j ≤ n' → tC K' (n + j) = tC K' n + j ∧ tS K' (n + j) = tS K' n + ((List.range j).map (fun i => gLen (σ' (n + i)))).sum := by
    intro j
    induction j with
    | zero => intro _; exact ⟨rfl, rfl⟩
    | succ j ih =>
      intro hj
      obtain ⟨i1, i2⟩ := ih (by omega)
      obtain ⟨-, o1, o2⟩ := one (n + j) (by omega) (by omega)
      refine ⟨?_, ?_⟩
      · show tC K' (n + j + 1) = _
        rw [o1, i1]
        omega
      · show tS K' (n + j + 1) = _
        rw [o2, i2, List.range_succ, List.map_append, List.sum_append]
        simp
        omega
  obtain ⟨k1, k2⟩ := key (n' - n) (by have := hw.1; omega)
  have e : n + (n' - n) = n' := by have := hw.1; omega
  rw [e] at k1 k2
  refine ⟨hw.1, by omega, fun a h1 h2 => (one a h1 h2).1, by omega⟩
/-- cells of kinds that the class does not touch -/
noncomputable def fS (K : Nat → Nat) (n : Nat) (σ σ' : Nat → jcell) : Prop := ∀ a, a < n → fo1 (K a) → σ' a = σ a
theorem fS_of {md : List (Nat × Nat)} {mk : List (Nat × aF)} {ρ : List jv} (h1 : aFr K n md σ σ') (h2 : aFa K n mk ρ σ σ') (hz : ∀ a, a < n → zPl (σ a)) (hm : md.all (fun q => Nat.blt q.1 55 || Nat.beq q.1 114) = true) (hk : mk.all (fun q => Nat.blt q.1 55 || Nat.beq q.1 114) = true) : fS K n σ σ' := by
  intro a ha hf
  have z : ∀ k : Nat, fo1 k → (Nat.blt k 55 || Nat.beq k 114) = true → False := fun k h3 h4 => by
    rw [Bool.or_eq_true] at h4
    unfold fo1 at h3
    rcases h4 with h4 | h4
    · have := Nat.le_of_ble_eq_true h4
      omega
    · have := Nat.eq_of_beq_eq_true h4
      omega
  exact zPl_eq h1 h2 ha (hz a ha) (fun q hq e => z _ hf (by rw [← e]; exact List.all_eq_true.mp hm q hq)) (fun q hq e => z _ hf (by rw [← e]; exact List.all_eq_true.mp hk q hq))
theorem zP_of (hH : aH fa_T K n σ') (hs : ∀ a, a < n → 115 ≤ K a → zPl (σ' a)) : ∀ a, a < n → zPl (σ' a) := by
  intro a ha
  by_cases h : K a < 115
  · have h1 := hH a ha _ (List.getElem?_eq_getElem (by rw [kT_len]; exact h))
    rcases hc : σ' a with ⟨t, m, g | g | g⟩ | y
    · exact trivial
    · exact trivial
    · rw [hc] at h1
      unfold aCe at h1
      split at h1 <;> first | exact h1.elim | (rename_i he; cases he) | skip
    · exact trivial
  · exact hs a ha (by omega)
/-- a game stands also in a world where its cells are the same -/
theorem fTG_gy (h : ∀ a, a < n → 25 ≤ K a → K a ≤ 51 → a < n' ∧ K' a = K a ∧ σ' a = σ a) {a : Nat} (t : fTG K n σ a) : fTG K' n' σ' a := by
  have ro : ∀ {a f k : Nat} {g : Nat → Int32}, 25 ≤ k → k ≤ 51 → fRo K n σ a f k g → fRo K' n' σ' a f k g := by
    rintro a f k g k1 k2 ⟨h1, h2, fs, r, h3, h4, h5, h6, h7⟩
    obtain ⟨q1, q2, q3⟩ := h a h1 (by omega) (by omega)
    obtain ⟨r1, r2, r3⟩ := h r h5 (by omega) (by omega)
    exact ⟨q1, q2.trans h2, fs, r, q3.trans h3, h4, r1, r2.trans h6, r3.trans h7⟩
  have rl : ∀ {a : Nat} {g : Nat → Int64}, fRl K n σ a g → fRl K' n' σ' a g := by
    rintro a g ⟨h1, h2, fs, r, h3, h4, h5, h6, h7⟩
    obtain ⟨q1, q2, q3⟩ := h a h1 (by omega) (by omega)
    obtain ⟨r1, r2, r3⟩ := h r h5 (by omega) (by omega)
    exact ⟨q1, q2.trans h2, fs, r, q3.trans h3, h4, r1, r2.trans h6, r3.trans h7⟩
  have fi : ∀ {a f : Nat} {v : jv}, fFi K n σ a f v → fFi K' n' σ' a f v := by
    rintro a f v ⟨h1, h2, fs, h3, h4⟩
    obtain ⟨q1, q2, q3⟩ := h a h1 (by omega) (by omega)
    exact ⟨q1, q2.trans h2, fs, q3.trans h3, h4⟩
  have at9 : ∀ {b : Nat} {men F : Nat → Int32}, fAt K n σ b men F → fAt K' n' σ' b men F := by
    rintro b men F ⟨h1, h2, fs, r, g, h3, h4, h5, h6, h7, h8, h9, h10, h11, h12, rw, gw, h13, h14, h15, h16, h17⟩
    obtain ⟨q1, q2, q3⟩ := h b h1 (by omega) (by omega)
    obtain ⟨r1, r2, r3⟩ := h r h5 (by omega) (by omega)
    obtain ⟨s1, s2, s3⟩ := h rw h14 (by omega) (by omega)
    exact ⟨q1, q2.trans h2, fs, r, g, q3.trans h3, h4, r1, r2.trans h6, r3.trans h7, h8, h9, h10, h11, h12, rw, gw, h13, s1, s2.trans h15, s3.trans h16, h17⟩
  obtain ⟨b, h0, N, t, q, ⟨t1, t2, t3, t4, t5⟩, f0, f1, f2, n1, n2, k, at0⟩ := t
  exact ⟨b, h0, N, t, q, ⟨ro (by decide) (by decide) t1, ro (by decide) (by decide) t2, ro (by decide) (by decide) t3, ro (by decide) (by decide) t4, rl t5⟩, fi f0, fi f1, fi f2, n1, n2, k, at9 at0⟩
end CJS
end
section
/-! Endings.prepare -/
noncomputable def kk_EN_prepare_0 : List jI := [(.aload_n 1, 1, (1, 0, 0, 0, 0)), (.getfield 18, 3, (10, 0, 661, 0, 0)), (.aload_n 1, 1, (1, 0, 0, 0, 0)), (.invokestatic 21, 3, (0, 0, 0, 0, 0)), (.iaload, 1, (0, 0, 0, 0, 0)), (.bipush 7, 2, (0, 0, 0, 7, 0)), (.iand, 1, (0, 0, 0, 0, 0)), (.istore_n 2, 1, (2, 0, 0, 0, 0)), (.aload_n 0, 1, (0, 0, 0, 0, 0)), (.getfield 25, 3, (8, 3, 579, 0, 0)), (.ifnonnull 22, 3, (39, 0, 0, 0, 0)), (.iload_n 2, 1, (2, 0, 0, 0, 0)), (.iconst 5, 1, (0, 0, 0, 5, 0)), (.if_icmp .eq 8, 3, (30, 0, 0, 0, 0)), (.iload_n 2, 1, (2, 0, 0, 0, 0)), (.iconst 1, 1, (0, 0, 0, 1, 0)), (.if_icmp .ne 12, 3, (39, 0, 0, 0, 0)), (.aload_n 0, 1, (0, 0, 0, 0, 0)), (.aload_n 0, 1, (0, 0, 0, 0, 0)), (.iconst 5, 1, (0, 0, 0, 5, 0)), (.invokevirtual 29, 3, (0, 0, 0, 0, 0)), (.putfield 25, 3, (8, 3, 579, 3, 0)), (.aload_n 0, 1, (0, 0, 0, 0, 0)), (.getfield 33, 3, (8, 4, 580, 0, 0)), (.ifnonnull 22, 3, (65, 0, 0, 0, 0)), (.iload_n 2, 1, (2, 0, 0, 0, 0)), (.iconst 4, 1, (0, 0, 0, 4, 0)), (.if_icmp .eq 8, 3, (56, 0, 0, 0, 0)), (.iload_n 2, 1, (2, 0, 0, 0, 0)), (.iconst 1, 1, (0, 0, 0, 1, 0)), (.if_icmp .ne 12, 3, (65, 0, 0, 0, 0)), (.aload_n 0, 1, (0, 0, 0, 0, 0)), (.aload_n 0, 1, (0, 0, 0, 0, 0)), (.iconst 4, 1, (0, 0, 0, 4, 0)), (.invokevirtual 29, 3, (0, 0, 0, 0, 0)), (.putfield 33, 3, (8, 4, 580, 3, 0)), (.aload_n 0, 1, (0, 0, 0, 0, 0)), (.getfield 36, 3, (8, 5, 581, 0, 0)), (.ifnonnull 17, 3, (86, 0, 0, 0, 0)), (.iload_n 2, 1, (2, 0, 0, 0, 0)), (.iconst 1, 1, (0, 0, 0, 1, 0)), (.if_icmp .ne 12, 3, (86, 0, 0, 0, 0)), (.aload_n 0, 1, (0, 0, 0, 0, 0)), (.aload_n 0, 1, (0, 0, 0, 0, 0)), (.iconst 1, 1, (0, 0, 0, 1, 0)), (.invokevirtual 29, 3, (0, 0, 0, 0, 0)), (.putfield 36, 3, (8, 5, 581, 3, 0)), (.return_, 1, (0, 0, 0, 0, 0))]
theorem oo_EN_prepare_0 : jokL "ChessHouse$Endings" lw_tbl jcl jtb 3 false prog_6_method_2_code 0 kk_EN_prepare_0 = true := jokLF_ok (fun _ _ => jtF_ok) lo_EN (by decide +kernel)
noncomputable def k_EN_prepare_13 : List jI := [(.aload_n 0, 1, (0, 0, 0, 0, 0)), (.getfield 25, 3, (8, 3, 579, 0, 0)), (.ifnonnull 22, 3, (39, 0, 0, 0, 0)), (.iload_n 2, 1, (2, 0, 0, 0, 0)), (.iconst 5, 1, (0, 0, 0, 5, 0)), (.if_icmp .eq 8, 3, (30, 0, 0, 0, 0)), (.iload_n 2, 1, (2, 0, 0, 0, 0)), (.iconst 1, 1, (0, 0, 0, 1, 0)), (.if_icmp .ne 12, 3, (39, 0, 0, 0, 0))]
theorem o_EN_prepare_13 : jokL "ChessHouse$Endings" lw_tbl jcl jtb 3 false prog_6_method_2_code 13 k_EN_prepare_13 = true := jok_sub oo_EN_prepare_0 8 9 rfl rfl
noncomputable def k_EN_prepare_30 : List jI := [(.aload_n 0, 1, (0, 0, 0, 0, 0)), (.aload_n 0, 1, (0, 0, 0, 0, 0)), (.iconst 5, 1, (0, 0, 0, 5, 0))]
theorem o_EN_prepare_30 : jokL "ChessHouse$Endings" lw_tbl jcl jtb 3 false prog_6_method_2_code 30 k_EN_prepare_30 = true := jok_sub oo_EN_prepare_0 17 3 rfl rfl
noncomputable def k_EN_prepare_36 : List jI := [(.putfield 25, 3, (8, 3, 579, 3, 0))]
theorem o_EN_prepare_36 : jokL "ChessHouse$Endings" lw_tbl jcl jtb 3 false prog_6_method_2_code 36 k_EN_prepare_36 = true := jok_sub oo_EN_prepare_0 21 1 rfl rfl
noncomputable def k_EN_prepare_39 : List jI := [(.aload_n 0, 1, (0, 0, 0, 0, 0)), (.getfield 33, 3, (8, 4, 580, 0, 0)), (.ifnonnull 22, 3, (65, 0, 0, 0, 0)), (.iload_n 2, 1, (2, 0, 0, 0, 0)), (.iconst 4, 1, (0, 0, 0, 4, 0)), (.if_icmp .eq 8, 3, (56, 0, 0, 0, 0)), (.iload_n 2, 1, (2, 0, 0, 0, 0)), (.iconst 1, 1, (0, 0, 0, 1, 0)), (.if_icmp .ne 12, 3, (65, 0, 0, 0, 0))]
theorem o_EN_prepare_39 : jokL "ChessHouse$Endings" lw_tbl jcl jtb 3 false prog_6_method_2_code 39 k_EN_prepare_39 = true := jok_sub oo_EN_prepare_0 22 9 rfl rfl
noncomputable def k_EN_prepare_56 : List jI := [(.aload_n 0, 1, (0, 0, 0, 0, 0)), (.aload_n 0, 1, (0, 0, 0, 0, 0)), (.iconst 4, 1, (0, 0, 0, 4, 0))]
theorem o_EN_prepare_56 : jokL "ChessHouse$Endings" lw_tbl jcl jtb 3 false prog_6_method_2_code 56 k_EN_prepare_56 = true := jok_sub oo_EN_prepare_0 31 3 rfl rfl
noncomputable def k_EN_prepare_62 : List jI := [(.putfield 33, 3, (8, 4, 580, 3, 0))]
theorem o_EN_prepare_62 : jokL "ChessHouse$Endings" lw_tbl jcl jtb 3 false prog_6_method_2_code 62 k_EN_prepare_62 = true := jok_sub oo_EN_prepare_0 35 1 rfl rfl
noncomputable def k_EN_prepare_65 : List jI := [(.aload_n 0, 1, (0, 0, 0, 0, 0)), (.getfield 36, 3, (8, 5, 581, 0, 0)), (.ifnonnull 17, 3, (86, 0, 0, 0, 0)), (.iload_n 2, 1, (2, 0, 0, 0, 0)), (.iconst 1, 1, (0, 0, 0, 1, 0)), (.if_icmp .ne 12, 3, (86, 0, 0, 0, 0)), (.aload_n 0, 1, (0, 0, 0, 0, 0)), (.aload_n 0, 1, (0, 0, 0, 0, 0)), (.iconst 1, 1, (0, 0, 0, 1, 0))]
theorem o_EN_prepare_65 : jokL "ChessHouse$Endings" lw_tbl jcl jtb 3 false prog_6_method_2_code 65 k_EN_prepare_65 = true := jok_sub oo_EN_prepare_0 36 9 rfl rfl
noncomputable def k_EN_prepare_83 : List jI := [(.putfield 36, 3, (8, 5, 581, 3, 0))]
theorem o_EN_prepare_83 : jokL "ChessHouse$Endings" lw_tbl jcl jtb 3 false prog_6_method_2_code 83 k_EN_prepare_83 = true := jok_sub oo_EN_prepare_0 46 1 rfl rfl
theorem d_EN_prepare_33 : decode prog_6_method_2_code 33 = .ok (.invokevirtual 29, 3) := by decide +kernel
theorem q_EN_prepare_33 : jlm lw_tbl 1812 "ChessHouse$Endings" 29 ⟨"ChessHouse$Endings", "build", "(I)[B"⟩ = true := jlm_of (Or.inl (jtF_ok rfl))
theorem d_EN_prepare_59 : decode prog_6_method_2_code 59 = .ok (.invokevirtual 29, 3) := by decide +kernel
theorem q_EN_prepare_59 : jlm lw_tbl 1812 "ChessHouse$Endings" 29 ⟨"ChessHouse$Endings", "build", "(I)[B"⟩ = true := jlm_of (Or.inl (jtF_ok rfl))
theorem d_EN_prepare_80 : decode prog_6_method_2_code 80 = .ok (.invokevirtual 29, 3) := by decide +kernel
theorem q_EN_prepare_80 : jlm lw_tbl 1812 "ChessHouse$Endings" 29 ⟨"ChessHouse$Endings", "build", "(I)[B"⟩ = true := jlm_of (Or.inl (jtF_ok rfl))
noncomputable def pI (K0 : Nat → Nat) (n0 : Nat) (σ0 : Nat → jcell) (en : Nat) (K : Nat → Nat) (n : Nat) (σ : Nat → jcell) : Prop := aH fa_T K n σ ∧ fJX K n σ ∧ cJ K n σ en ∧ gW K0 n0 K n ∧ (∀ a, n0 ≤ a → a < n → tb4 (K a)) ∧ (∀ a, a < n → zPl (σ a)) ∧ (∀ a, a < n0 → a ≠ en → ¬ tb4 (K0 a) → σ a = σ0 a) ∧ tC K0 n0 ≤ tC K n ∧ tS K0 n0 ≤ tS K n
noncomputable def pN (σ : Nat → jcell) (en j : Nat) (man : Int32) : Prop := man = 1 → ∀ fs v, σ en = .inr (8, fs) → fs[j]? = some v → nl v = 0
noncomputable def cQ2 (K : Nat → Nat) (n qr : Nat) (v3 v4 v5 : jv) : Prop := kN K 114 n + nl v3 + nl v4 ≤ 2 ∧ kN K 52 n + nl v5 ≤ 1 ∧ ((K qr = 53 ∧ kN K 53 n ≤ 1 ∧ kN K 54 n = 0) ∨ (K qr = 54 ∧ kN K 53 n ≤ 1 ∧ kN K 54 n ≤ 1 ∧ nl v3 = 0 ∧ nl v4 = 0 ∧ nl v5 = 0))
theorem pI_mk {K0 K K' : Nat → Nat} {n0 n n' en qv : Nat} {σ0 σ sg σ' : Nat → jcell} {mk : List (Nat × aF)} {ρ : List jv} {d b tl man : Int32} {vl v3 v4 v5 v6 : jv} (h : pI K0 n0 σ0 en K n σ) (w : gW K n K' n') (hn : ∀ a, n ≤ a → a < n' → tb4 (K' a)) (e1 : sg en = .inr (8, [.inl d, .inl b, vl, v3, v4, v5, v6, .inr (.inr (some (.inl qv))), .inl tl, .inl man])) (e2 : ∀ a, a < n → a ≠ en → sg a = σ a) (h1 : aH fa_T K' n' σ') (h2 : fJX K' n' σ') (h3 : aFr K' n' [(23, 8)] sg σ') (h4 : aFa K' n' mk ρ sg σ') (hm : ∀ q ∈ mk, tb4 q.1) (ht1 : tC K n ≤ tC K' n') (ht2 : tS K n ≤ tS K' n') : ∃ tl', σ' en = .inr (8, [.inl d, .inl b, vl, v3, v4, v5, v6, .inr (.inr (some (.inl qv))), .inl tl', .inl man]) ∧ en < n' ∧ ∀ (w3 w4 w5 : jv), aG K' n' (.inr (some (.inl (true, 114)))) w3 → aG K' n' (.inr (some (.inl (true, 114)))) w4 → aG K' n' (.inr (some (.inl (true, 52)))) w5 → cQ2 K' n' qv w3 w4 w5 → pI K0 n0 σ0 en K' n' (jup σ' en (.inr (8, [.inl d, .inl b, vl, w3, w4, w5, v6, .inr (.inr (some (.inl qv))), .inl tl', .inl man]))) := by
  obtain ⟨i1, i2, i3, i4, i5, i6, i7, i8, i9⟩ := h
  have hen : en < n := i3.1
  have hen' : en < n' := Nat.lt_of_lt_of_le hen w.1
  have hk : K' en = 23 := (w.2 en hen).trans i3.2.1
  have hu : ∀ a, a < n' → K' a = 23 → a = en := fun a ha hk9 => by
    by_cases h9 : a < n
    · exact i3.2.2.1 a h9 ((w.2 a h9).symm.trans hk9)
    · have h8 := hn a (Nat.le_of_not_lt h9) ha
      rw [hk9] at h8
      exact absurd h8 (by unfold tb4; decide)
  have hsame : ∀ a, a < n → a ≠ en → ¬ tb4 (K a) → σ' a = σ a := fun a ha hne ht => by
    have ha' : a < n' := Nat.lt_of_lt_of_le ha w.1
    rw [← e2 a ha hne]
    refine zPl_eq h3 h4 ha' (by rw [e2 a ha hne]; exact i6 a ha) (fun q hq e => ?_) (fun q hq e => ?_)
    · rcases List.mem_cons.mp hq with rfl | hq
      · exact hne (hu a ha' e.symm)
      · cases hq
    · have h8 := hm q hq
      rw [e, w.2 a ha] at h8
      exact ht h8
  obtain ⟨fs', f1, f2, f3⟩ := h3 en hen' 8 _ e1
  obtain ⟨d', b', tl', kd', vl', x3, x4, x5, x6, qr', s1, s2, s3, s4, s5, s6, s7, s8, s9⟩ := en_fs h1 hen' hk
  rw [s1] at f1
  obtain rfl := (Prod.mk.inj (Sum.inr.inj f1)).2
  have nm : ∀ f, f ≠ 8 → ¬ (K' en, f) ∈ [(23, 8)] := fun f hf hq => by
    rcases List.mem_cons.mp hq with hq | hq
    · exact hf (Prod.mk.inj hq).2
    · cases hq
  have y0 := f3 0 _ rfl (nm 0 (by decide))
  have y1 := f3 1 _ rfl (nm 1 (by decide))
  have y2 := f3 2 _ rfl (nm 2 (by decide))
  have y3 := f3 3 _ rfl (nm 3 (by decide))
  have y4 := f3 4 _ rfl (nm 4 (by decide))
  have y5 := f3 5 _ rfl (nm 5 (by decide))
  have y6 := f3 6 _ rfl (nm 6 (by decide))
  have y7 := f3 7 _ rfl (nm 7 (by decide))
  have y9 := f3 9 _ rfl (nm 9 (by decide))
  cases y0; cases y1; cases y2; cases y3; cases y4; cases y5; cases y6; cases y7; cases y9
  refine ⟨tl', s1, hen', fun w3 w4 w5 g3 g4 g5 ⟨c1, c2, c3⟩ => ⟨aH_up h1 (fun d0 h9 => ?_), fJX_up h2 (by rw [hk]; decide), ⟨hen', hk, hu, qv, _, w3, w4, w5, jup_s, rfl, rfl, rfl, rfl, s7, c1, c2, Or.inr c3⟩, gW_tr i4 w, fun a ha ha' => ?_, fun a ha => ?_, fun a ha hne ht => ?_, Nat.le_trans i8 ht1, Nat.le_trans i9 ht2⟩⟩
  · rw [hk, tEN_T] at h9
    obtain rfl := Option.some.inj h9
    exact en_ce s2 g3 g4 g5 s6 ⟨s7, Or.inr rfl⟩ s8 s9
  · by_cases h9 : a < n
    · rw [w.2 a h9]
      exact i5 a ha h9
    · exact hn a (Nat.le_of_not_lt h9) ha'
  · by_cases e : a = en
    · subst e
      rw [jup_s]
      exact trivial
    · rw [jup_n e]
      refine zP_of h1 (fun c hc hkc => ?_) a ha
      by_cases h9 : c < n
      · rw [hsame c h9 (fun e => by rw [e, hk] at hkc; omega) (fun ht => by rw [w.2 c h9] at hkc; unfold tb4 at ht; omega)]
        exact i6 c h9
      · have h8 := hn c (Nat.le_of_not_lt h9) hc
        unfold tb4 at h8
        omega
  · have ha2 : a < n := Nat.lt_of_lt_of_le ha i4.1
    rw [jup_n hne, hsame a ha2 hne (by rw [i4.2 a ha]; exact ht)]
    exact i7 a ha hne ht
set_option maxRecDepth 100000 in
theorem sg1_a {E : jE} {M : jM} {Q : State → Prop} {n ca sl : Nat} (X : jX E "ChessHouse$Endings" lw_tbl jcl jtb 3 false prog_6_method_2_code M) {σ : Nat → jcell} {en : Nat} {d b tl kd man : Int32} {vl v4 v5 v6 v7 : jv} (ha : en < n) {t : Nat} (hs : σ en = .inr (8, [.inl d, .inl b, vl, .inr (.inr (some (.inl t))), v4, v5, v6, v7, .inl tl, .inl kd])) (kk : jJ E jcl 3 M Q n ca sl 39 [some (.inr (.inr (some (.inl en)))), none, some (.inl man)] [] σ) : jJ E jcl 3 M Q n ca sl 13 [some (.inr (.inr (some (.inl en)))), none, some (.inl man)] [] σ := by
  have hak : (en < n) = True := eq_true ha
  refine jrun_ok jC X k_EN_prepare_13 13 _ _ _ o_EN_prepare_13 ?_
  simp only [k_EN_prepare_13, jrun, jstep, jldi, jldl, jlda, j1, j2, jl1, jl2, jli, ja1, jbr, jald, jast, jlald, jlast, jalen, jget, jput, jfit, jdup, jdupx, jdupx2, jdup2, jcat, jset1, jset2, jkill, List.getElem?_cons_zero, List.getElem?_cons_succ, List.set_cons_zero, List.set_cons_succ, List.length_cons, List.length_nil, Nat.reduceAdd, Nat.reduceLT, Int32.reduceToNatClampNeg, true_and, and_true, and_self, reduceCtorEq, not_false_eq_true, false_and, and_false, or_false, false_or, true_or, or_true, hs, hak, jup_s, false_implies, true_implies, not_true_eq_false, not_false_eq_true, and_true, true_and, ne_eq]
  exact kk
set_option maxRecDepth 100000 in
theorem sg1_b {E : jE} {M : jM} {Q : State → Prop} {n ca sl : Nat} (X : jX E "ChessHouse$Endings" lw_tbl jcl jtb 3 false prog_6_method_2_code M) {σ : Nat → jcell} {en : Nat} {d b tl kd man : Int32} {vl v4 v5 v6 v7 : jv} (ha : en < n) (hs : σ en = .inr (8, [.inl d, .inl b, vl, .inr (.inr none), v4, v5, v6, v7, .inl tl, .inl kd])) (hm : ¬ (man = 5 ∨ man = 1)) (kk : jJ E jcl 3 M Q n ca sl 39 [some (.inr (.inr (some (.inl en)))), none, some (.inl man)] [] σ) : jJ E jcl 3 M Q n ca sl 13 [some (.inr (.inr (some (.inl en)))), none, some (.inl man)] [] σ := by
  have hak : (en < n) = True := eq_true ha
  have hm5 : (man = 5) = False := eq_false (fun e => hm (Or.inl e))
  have hm1 : (man = 1) = False := eq_false (fun e => hm (Or.inr e))
  refine jrun_ok jC X k_EN_prepare_13 13 _ _ _ o_EN_prepare_13 ?_
  simp only [k_EN_prepare_13, jrun, jstep, jldi, jldl, jlda, j1, j2, jl1, jl2, jli, ja1, jbr, jald, jast, jlald, jlast, jalen, jget, jput, jfit, jdup, jdupx, jdupx2, jdup2, jcat, jset1, jset2, jkill, List.getElem?_cons_zero, List.getElem?_cons_succ, List.set_cons_zero, List.set_cons_succ, List.length_cons, List.length_nil, Nat.reduceAdd, Nat.reduceLT, Int32.reduceToNatClampNeg, true_and, and_true, and_self, reduceCtorEq, not_false_eq_true, false_and, and_false, or_false, false_or, true_or, or_true, hs, hak, jup_s, false_implies, true_implies, not_true_eq_false, not_false_eq_true, and_true, true_and, ne_eq, hm5, hm1]
  exact kk
set_option maxRecDepth 100000 in
theorem sg1_c {E : jE} {M : jM} {Q : State → Prop} {n ca sl : Nat} (X : jX E "ChessHouse$Endings" lw_tbl jcl jtb 3 false prog_6_method_2_code M) {σ : Nat → jcell} {en : Nat} {d b tl kd man : Int32} {vl v4 v5 v6 v7 : jv} (ha : en < n) (hs : σ en = .inr (8, [.inl d, .inl b, vl, .inr (.inr none), v4, v5, v6, v7, .inl tl, .inl kd])) (hm : man = 5 ∨ man = 1) (kk : jJ E jcl 3 M Q n ca sl 33 [some (.inr (.inr (some (.inl en)))), none, some (.inl man)] [.inl 5, .inr (.inr (some (.inl en))), .inr (.inr (some (.inl en)))] σ) : jJ E jcl 3 M Q n ca sl 13 [some (.inr (.inr (some (.inl en)))), none, some (.inl man)] [] σ := by
  have hak : (en < n) = True := eq_true ha
  rcases hm with rfl | rfl
  · refine jrun_ok jC X k_EN_prepare_13 13 _ _ _ o_EN_prepare_13 ?_
    simp only [k_EN_prepare_13, jrun, jstep, jldi, jldl, jlda, j1, j2, jl1, jl2, jli, ja1, jbr, jald, jast, jlald, jlast, jalen, jget, jput, jfit, jdup, jdupx, jdupx2, jdup2, jcat, jset1, jset2, jkill, List.getElem?_cons_zero, List.getElem?_cons_succ, List.set_cons_zero, List.set_cons_succ, List.length_cons, List.length_nil, Nat.reduceAdd, Nat.reduceLT, Int32.reduceToNatClampNeg, true_and, and_true, and_self, reduceCtorEq, not_false_eq_true, false_and, and_false, or_false, false_or, true_or, or_true, hs, hak, jup_s, false_implies, true_implies, not_true_eq_false, not_false_eq_true, and_true, true_and, ne_eq]
    refine jrun_ok jC X k_EN_prepare_30 30 _ _ _ o_EN_prepare_30 ?_
    simp only [k_EN_prepare_30, jrun, jstep, jldi, jldl, jlda, j1, j2, jl1, jl2, jli, ja1, jbr, jald, jast, jlald, jlast, jalen, jget, jput, jfit, jdup, jdupx, jdupx2, jdup2, jcat, jset1, jset2, jkill, List.getElem?_cons_zero, List.getElem?_cons_succ, List.set_cons_zero, List.set_cons_succ, List.length_cons, List.length_nil, Nat.reduceAdd, Nat.reduceLT, Int32.reduceToNatClampNeg, true_and, and_true, and_self, reduceCtorEq, not_false_eq_true, false_and, and_false, or_false, false_or, true_or, or_true, hs, hak, jup_s, false_implies, true_implies, not_true_eq_false, not_false_eq_true, and_true, true_and, ne_eq]
    exact kk
  · have hm5 : ((1 : Int32) = 5) = False := eq_false (by decide)
    refine jrun_ok jC X k_EN_prepare_13 13 _ _ _ o_EN_prepare_13 ?_
    simp only [k_EN_prepare_13, jrun, jstep, jldi, jldl, jlda, j1, j2, jl1, jl2, jli, ja1, jbr, jald, jast, jlald, jlast, jalen, jget, jput, jfit, jdup, jdupx, jdupx2, jdup2, jcat, jset1, jset2, jkill, List.getElem?_cons_zero, List.getElem?_cons_succ, List.set_cons_zero, List.set_cons_succ, List.length_cons, List.length_nil, Nat.reduceAdd, Nat.reduceLT, Int32.reduceToNatClampNeg, true_and, and_true, and_self, reduceCtorEq, not_false_eq_true, false_and, and_false, or_false, false_or, true_or, or_true, hs, hak, jup_s, false_implies, true_implies, not_true_eq_false, not_false_eq_true, and_true, true_and, ne_eq, hm5]
    refine jrun_ok jC X k_EN_prepare_30 30 _ _ _ o_EN_prepare_30 ?_
    simp only [k_EN_prepare_30, jrun, jstep, jldi, jldl, jlda, j1, j2, jl1, jl2, jli, ja1, jbr, jald, jast, jlald, jlast, jalen, jget, jput, jfit, jdup, jdupx, jdupx2, jdup2, jcat, jset1, jset2, jkill, List.getElem?_cons_zero, List.getElem?_cons_succ, List.set_cons_zero, List.set_cons_succ, List.length_cons, List.length_nil, Nat.reduceAdd, Nat.reduceLT, Int32.reduceToNatClampNeg, true_and, and_true, and_self, reduceCtorEq, not_false_eq_true, false_and, and_false, or_false, false_or, true_or, or_true, hs, hak, jup_s, false_implies, true_implies, not_true_eq_false, not_false_eq_true, and_true, true_and, ne_eq]
    exact kk
set_option maxRecDepth 100000 in
theorem sg1_d {E : jE} {M : jM} {Q : State → Prop} {n ca sl : Nat} (X : jX E "ChessHouse$Endings" lw_tbl jcl jtb 3 false prog_6_method_2_code M) {σ : Nat → jcell} {en : Nat} {d b tl kd man : Int32} {vl v3 v4 v5 v6 v7 : jv} (ha : en < n) {t : Nat} (hs : σ en = .inr (8, [.inl d, .inl b, vl, v3, v4, v5, v6, v7, .inl tl, .inl kd])) (kk : jJ E jcl 3 M Q n ca sl 39 [some (.inr (.inr (some (.inl en)))), none, some (.inl man)] [] (jup σ en (.inr (8, [.inl d, .inl b, vl, .inr (.inr (some (.inl t))), v4, v5, v6, v7, .inl tl, .inl kd])))) : jJ E jcl 3 M Q n ca sl 36 [some (.inr (.inr (some (.inl en)))), none, some (.inl man)] [.inr (.inr (some (.inl t))), .inr (.inr (some (.inl en)))] σ := by
  have hak : (en < n) = True := eq_true ha
  refine jrun_ok jC X k_EN_prepare_36 36 _ _ _ o_EN_prepare_36 ?_
  simp only [k_EN_prepare_36, jrun, jstep, jldi, jldl, jlda, j1, j2, jl1, jl2, jli, ja1, jbr, jald, jast, jlald, jlast, jalen, jget, jput, jfit, jdup, jdupx, jdupx2, jdup2, jcat, jset1, jset2, jkill, List.getElem?_cons_zero, List.getElem?_cons_succ, List.set_cons_zero, List.set_cons_succ, List.length_cons, List.length_nil, Nat.reduceAdd, Nat.reduceLT, Int32.reduceToNatClampNeg, true_and, and_true, and_self, reduceCtorEq, not_false_eq_true, false_and, and_false, or_false, false_or, true_or, or_true, hs, hak, jup_s, false_implies, true_implies, not_true_eq_false, not_false_eq_true, and_true, true_and, ne_eq]
  exact kk
set_option maxRecDepth 100000 in
theorem sg2_a {E : jE} {M : jM} {Q : State → Prop} {n ca sl : Nat} (X : jX E "ChessHouse$Endings" lw_tbl jcl jtb 3 false prog_6_method_2_code M) {σ : Nat → jcell} {en : Nat} {d b tl kd man : Int32} {vl v3 v5 v6 v7 : jv} (ha : en < n) {t : Nat} (hs : σ en = .inr (8, [.inl d, .inl b, vl, v3, .inr (.inr (some (.inl t))), v5, v6, v7, .inl tl, .inl kd])) (kk : jJ E jcl 3 M Q n ca sl 65 [some (.inr (.inr (some (.inl en)))), none, some (.inl man)] [] σ) : jJ E jcl 3 M Q n ca sl 39 [some (.inr (.inr (some (.inl en)))), none, some (.inl man)] [] σ := by
  have hak : (en < n) = True := eq_true ha
  refine jrun_ok jC X k_EN_prepare_39 39 _ _ _ o_EN_prepare_39 ?_
  simp only [k_EN_prepare_39, jrun, jstep, jldi, jldl, jlda, j1, j2, jl1, jl2, jli, ja1, jbr, jald, jast, jlald, jlast, jalen, jget, jput, jfit, jdup, jdupx, jdupx2, jdup2, jcat, jset1, jset2, jkill, List.getElem?_cons_zero, List.getElem?_cons_succ, List.set_cons_zero, List.set_cons_succ, List.length_cons, List.length_nil, Nat.reduceAdd, Nat.reduceLT, Int32.reduceToNatClampNeg, true_and, and_true, and_self, reduceCtorEq, not_false_eq_true, false_and, and_false, or_false, false_or, true_or, or_true, hs, hak, jup_s, false_implies, true_implies, not_true_eq_false, not_false_eq_true, and_true, true_and, ne_eq]
  exact kk
set_option maxRecDepth 100000 in
theorem sg2_b {E : jE} {M : jM} {Q : State → Prop} {n ca sl : Nat} (X : jX E "ChessHouse$Endings" lw_tbl jcl jtb 3 false prog_6_method_2_code M) {σ : Nat → jcell} {en : Nat} {d b tl kd man : Int32} {vl v3 v5 v6 v7 : jv} (ha : en < n) (hs : σ en = .inr (8, [.inl d, .inl b, vl, v3, .inr (.inr none), v5, v6, v7, .inl tl, .inl kd])) (hm : ¬ (man = 4 ∨ man = 1)) (kk : jJ E jcl 3 M Q n ca sl 65 [some (.inr (.inr (some (.inl en)))), none, some (.inl man)] [] σ) : jJ E jcl 3 M Q n ca sl 39 [some (.inr (.inr (some (.inl en)))), none, some (.inl man)] [] σ := by
  have hak : (en < n) = True := eq_true ha
  have hm5 : (man = 4) = False := eq_false (fun e => hm (Or.inl e))
  have hm1 : (man = 1) = False := eq_false (fun e => hm (Or.inr e))
  refine jrun_ok jC X k_EN_prepare_39 39 _ _ _ o_EN_prepare_39 ?_
  simp only [k_EN_prepare_39, jrun, jstep, jldi, jldl, jlda, j1, j2, jl1, jl2, jli, ja1, jbr, jald, jast, jlald, jlast, jalen, jget, jput, jfit, jdup, jdupx, jdupx2, jdup2, jcat, jset1, jset2, jkill, List.getElem?_cons_zero, List.getElem?_cons_succ, List.set_cons_zero, List.set_cons_succ, List.length_cons, List.length_nil, Nat.reduceAdd, Nat.reduceLT, Int32.reduceToNatClampNeg, true_and, and_true, and_self, reduceCtorEq, not_false_eq_true, false_and, and_false, or_false, false_or, true_or, or_true, hs, hak, jup_s, false_implies, true_implies, not_true_eq_false, not_false_eq_true, and_true, true_and, ne_eq, hm5, hm1]
  exact kk
set_option maxRecDepth 100000 in
theorem sg2_c {E : jE} {M : jM} {Q : State → Prop} {n ca sl : Nat} (X : jX E "ChessHouse$Endings" lw_tbl jcl jtb 3 false prog_6_method_2_code M) {σ : Nat → jcell} {en : Nat} {d b tl kd man : Int32} {vl v3 v5 v6 v7 : jv} (ha : en < n) (hs : σ en = .inr (8, [.inl d, .inl b, vl, v3, .inr (.inr none), v5, v6, v7, .inl tl, .inl kd])) (hm : man = 4 ∨ man = 1) (kk : jJ E jcl 3 M Q n ca sl 59 [some (.inr (.inr (some (.inl en)))), none, some (.inl man)] [.inl 4, .inr (.inr (some (.inl en))), .inr (.inr (some (.inl en)))] σ) : jJ E jcl 3 M Q n ca sl 39 [some (.inr (.inr (some (.inl en)))), none, some (.inl man)] [] σ := by
  have hak : (en < n) = True := eq_true ha
  rcases hm with rfl | rfl
  · refine jrun_ok jC X k_EN_prepare_39 39 _ _ _ o_EN_prepare_39 ?_
    simp only [k_EN_prepare_39, jrun, jstep, jldi, jldl, jlda, j1, j2, jl1, jl2, jli, ja1, jbr, jald, jast, jlald, jlast, jalen, jget, jput, jfit, jdup, jdupx, jdupx2, jdup2, jcat, jset1, jset2, jkill, List.getElem?_cons_zero, List.getElem?_cons_succ, List.set_cons_zero, List.set_cons_succ, List.length_cons, List.length_nil, Nat.reduceAdd, Nat.reduceLT, Int32.reduceToNatClampNeg, true_and, and_true, and_self, reduceCtorEq, not_false_eq_true, false_and, and_false, or_false, false_or, true_or, or_true, hs, hak, jup_s, false_implies, true_implies, not_true_eq_false, not_false_eq_true, and_true, true_and, ne_eq]
    refine jrun_ok jC X k_EN_prepare_56 56 _ _ _ o_EN_prepare_56 ?_
    simp only [k_EN_prepare_56, jrun, jstep, jldi, jldl, jlda, j1, j2, jl1, jl2, jli, ja1, jbr, jald, jast, jlald, jlast, jalen, jget, jput, jfit, jdup, jdupx, jdupx2, jdup2, jcat, jset1, jset2, jkill, List.getElem?_cons_zero, List.getElem?_cons_succ, List.set_cons_zero, List.set_cons_succ, List.length_cons, List.length_nil, Nat.reduceAdd, Nat.reduceLT, Int32.reduceToNatClampNeg, true_and, and_true, and_self, reduceCtorEq, not_false_eq_true, false_and, and_false, or_false, false_or, true_or, or_true, hs, hak, jup_s, false_implies, true_implies, not_true_eq_false, not_false_eq_true, and_true, true_and, ne_eq]
    exact kk
  · have hm5 : ((1 : Int32) = 4) = False := eq_false (by decide)
    refine jrun_ok jC X k_EN_prepare_39 39 _ _ _ o_EN_prepare_39 ?_
    simp only [k_EN_prepare_39, jrun, jstep, jldi, jldl, jlda, j1, j2, jl1, jl2, jli, ja1, jbr, jald, jast, jlald, jlast, jalen, jget, jput, jfit, jdup, jdupx, jdupx2, jdup2, jcat, jset1, jset2, jkill, List.getElem?_cons_zero, List.getElem?_cons_succ, List.set_cons_zero, List.set_cons_succ, List.length_cons, List.length_nil, Nat.reduceAdd, Nat.reduceLT, Int32.reduceToNatClampNeg, true_and, and_true, and_self, reduceCtorEq, not_false_eq_true, false_and, and_false, or_false, false_or, true_or, or_true, hs, hak, jup_s, false_implies, true_implies, not_true_eq_false, not_false_eq_true, and_true, true_and, ne_eq, hm5]
    refine jrun_ok jC X k_EN_prepare_56 56 _ _ _ o_EN_prepare_56 ?_
    simp only [k_EN_prepare_56, jrun, jstep, jldi, jldl, jlda, j1, j2, jl1, jl2, jli, ja1, jbr, jald, jast, jlald, jlast, jalen, jget, jput, jfit, jdup, jdupx, jdupx2, jdup2, jcat, jset1, jset2, jkill, List.getElem?_cons_zero, List.getElem?_cons_succ, List.set_cons_zero, List.set_cons_succ, List.length_cons, List.length_nil, Nat.reduceAdd, Nat.reduceLT, Int32.reduceToNatClampNeg, true_and, and_true, and_self, reduceCtorEq, not_false_eq_true, false_and, and_false, or_false, false_or, true_or, or_true, hs, hak, jup_s, false_implies, true_implies, not_true_eq_false, not_false_eq_true, and_true, true_and, ne_eq]
    exact kk
set_option maxRecDepth 100000 in
theorem sg2_d {E : jE} {M : jM} {Q : State → Prop} {n ca sl : Nat} (X : jX E "ChessHouse$Endings" lw_tbl jcl jtb 3 false prog_6_method_2_code M) {σ : Nat → jcell} {en : Nat} {d b tl kd man : Int32} {vl v3 v4 v5 v6 v7 : jv} (ha : en < n) {t : Nat} (hs : σ en = .inr (8, [.inl d, .inl b, vl, v3, v4, v5, v6, v7, .inl tl, .inl kd])) (kk : jJ E jcl 3 M Q n ca sl 65 [some (.inr (.inr (some (.inl en)))), none, some (.inl man)] [] (jup σ en (.inr (8, [.inl d, .inl b, vl, v3, .inr (.inr (some (.inl t))), v5, v6, v7, .inl tl, .inl kd])))) : jJ E jcl 3 M Q n ca sl 62 [some (.inr (.inr (some (.inl en)))), none, some (.inl man)] [.inr (.inr (some (.inl t))), .inr (.inr (some (.inl en)))] σ := by
  have hak : (en < n) = True := eq_true ha
  refine jrun_ok jC X k_EN_prepare_62 62 _ _ _ o_EN_prepare_62 ?_
  simp only [k_EN_prepare_62, jrun, jstep, jldi, jldl, jlda, j1, j2, jl1, jl2, jli, ja1, jbr, jald, jast, jlald, jlast, jalen, jget, jput, jfit, jdup, jdupx, jdupx2, jdup2, jcat, jset1, jset2, jkill, List.getElem?_cons_zero, List.getElem?_cons_succ, List.set_cons_zero, List.set_cons_succ, List.length_cons, List.length_nil, Nat.reduceAdd, Nat.reduceLT, Int32.reduceToNatClampNeg, true_and, and_true, and_self, reduceCtorEq, not_false_eq_true, false_and, and_false, or_false, false_or, true_or, or_true, hs, hak, jup_s, false_implies, true_implies, not_true_eq_false, not_false_eq_true, and_true, true_and, ne_eq]
  exact kk
set_option maxRecDepth 100000 in
theorem sg3_a {E : jE} {M : jM} {Q : State → Prop} {n ca sl : Nat} (X : jX E "ChessHouse$Endings" lw_tbl jcl jtb 3 false prog_6_method_2_code M) {σ : Nat → jcell} {en : Nat} {d b tl kd man : Int32} {vl v3 v4 v6 v7 : jv} (ha : en < n) {t : Nat} (hs : σ en = .inr (8, [.inl d, .inl b, vl, v3, v4, .inr (.inr (some (.inl t))), v6, v7, .inl tl, .inl kd])) (kk : jJ E jcl 3 M Q n ca sl 86 [some (.inr (.inr (some (.inl en)))), none, some (.inl man)] [] σ) : jJ E jcl 3 M Q n ca sl 65 [some (.inr (.inr (some (.inl en)))), none, some (.inl man)] [] σ := by
  have hak : (en < n) = True := eq_true ha
  refine jrun_ok jC X k_EN_prepare_65 65 _ _ _ o_EN_prepare_65 ?_
  simp only [k_EN_prepare_65, jrun, jstep, jldi, jldl, jlda, j1, j2, jl1, jl2, jli, ja1, jbr, jald, jast, jlald, jlast, jalen, jget, jput, jfit, jdup, jdupx, jdupx2, jdup2, jcat, jset1, jset2, jkill, List.getElem?_cons_zero, List.getElem?_cons_succ, List.set_cons_zero, List.set_cons_succ, List.length_cons, List.length_nil, Nat.reduceAdd, Nat.reduceLT, Int32.reduceToNatClampNeg, true_and, and_true, and_self, reduceCtorEq, not_false_eq_true, false_and, and_false, or_false, false_or, true_or, or_true, hs, hak, jup_s, false_implies, true_implies, not_true_eq_false, not_false_eq_true, and_true, true_and, ne_eq]
  exact kk
set_option maxRecDepth 100000 in
theorem sg3_b {E : jE} {M : jM} {Q : State → Prop} {n ca sl : Nat} (X : jX E "ChessHouse$Endings" lw_tbl jcl jtb 3 false prog_6_method_2_code M) {σ : Nat → jcell} {en : Nat} {d b tl kd man : Int32} {vl v3 v4 v6 v7 : jv} (ha : en < n) (hs : σ en = .inr (8, [.inl d, .inl b, vl, v3, v4, .inr (.inr none), v6, v7, .inl tl, .inl kd])) (hm : ¬ (man = 1)) (kk : jJ E jcl 3 M Q n ca sl 86 [some (.inr (.inr (some (.inl en)))), none, some (.inl man)] [] σ) : jJ E jcl 3 M Q n ca sl 65 [some (.inr (.inr (some (.inl en)))), none, some (.inl man)] [] σ := by
  have hak : (en < n) = True := eq_true ha
  have hm1 : (man = 1) = False := eq_false hm
  refine jrun_ok jC X k_EN_prepare_65 65 _ _ _ o_EN_prepare_65 ?_
  simp only [k_EN_prepare_65, jrun, jstep, jldi, jldl, jlda, j1, j2, jl1, jl2, jli, ja1, jbr, jald, jast, jlald, jlast, jalen, jget, jput, jfit, jdup, jdupx, jdupx2, jdup2, jcat, jset1, jset2, jkill, List.getElem?_cons_zero, List.getElem?_cons_succ, List.set_cons_zero, List.set_cons_succ, List.length_cons, List.length_nil, Nat.reduceAdd, Nat.reduceLT, Int32.reduceToNatClampNeg, true_and, and_true, and_self, reduceCtorEq, not_false_eq_true, false_and, and_false, or_false, false_or, true_or, or_true, hs, hak, jup_s, false_implies, true_implies, not_true_eq_false, not_false_eq_true, and_true, true_and, ne_eq, hm1]
  exact kk
set_option maxRecDepth 100000 in
theorem sg3_c {E : jE} {M : jM} {Q : State → Prop} {n ca sl : Nat} (X : jX E "ChessHouse$Endings" lw_tbl jcl jtb 3 false prog_6_method_2_code M) {σ : Nat → jcell} {en : Nat} {d b tl kd man : Int32} {vl v3 v4 v6 v7 : jv} (ha : en < n) (hs : σ en = .inr (8, [.inl d, .inl b, vl, v3, v4, .inr (.inr none), v6, v7, .inl tl, .inl kd])) (hm : man = 1) (kk : jJ E jcl 3 M Q n ca sl 80 [some (.inr (.inr (some (.inl en)))), none, some (.inl man)] [.inl 1, .inr (.inr (some (.inl en))), .inr (.inr (some (.inl en)))] σ) : jJ E jcl 3 M Q n ca sl 65 [some (.inr (.inr (some (.inl en)))), none, some (.inl man)] [] σ := by
  have hak : (en < n) = True := eq_true ha
  subst hm
  refine jrun_ok jC X k_EN_prepare_65 65 _ _ _ o_EN_prepare_65 ?_
  simp only [k_EN_prepare_65, jrun, jstep, jldi, jldl, jlda, j1, j2, jl1, jl2, jli, ja1, jbr, jald, jast, jlald, jlast, jalen, jget, jput, jfit, jdup, jdupx, jdupx2, jdup2, jcat, jset1, jset2, jkill, List.getElem?_cons_zero, List.getElem?_cons_succ, List.set_cons_zero, List.set_cons_succ, List.length_cons, List.length_nil, Nat.reduceAdd, Nat.reduceLT, Int32.reduceToNatClampNeg, true_and, and_true, and_self, reduceCtorEq, not_false_eq_true, false_and, and_false, or_false, false_or, true_or, or_true, hs, hak, jup_s, false_implies, true_implies, not_true_eq_false, not_false_eq_true, and_true, true_and, ne_eq]
  exact kk
set_option maxRecDepth 100000 in
theorem sg3_d {E : jE} {M : jM} {Q : State → Prop} {n ca sl : Nat} (X : jX E "ChessHouse$Endings" lw_tbl jcl jtb 3 false prog_6_method_2_code M) {σ : Nat → jcell} {en : Nat} {d b tl kd man : Int32} {vl v3 v4 v5 v6 v7 : jv} (ha : en < n) {t : Nat} (hs : σ en = .inr (8, [.inl d, .inl b, vl, v3, v4, v5, v6, v7, .inl tl, .inl kd])) (kk : jJ E jcl 3 M Q n ca sl 86 [some (.inr (.inr (some (.inl en)))), none, some (.inl man)] [] (jup σ en (.inr (8, [.inl d, .inl b, vl, v3, v4, .inr (.inr (some (.inl t))), v6, v7, .inl tl, .inl kd])))) : jJ E jcl 3 M Q n ca sl 83 [some (.inr (.inr (some (.inl en)))), none, some (.inl man)] [.inr (.inr (some (.inl t))), .inr (.inr (some (.inl en)))] σ := by
  have hak : (en < n) = True := eq_true ha
  refine jrun_ok jC X k_EN_prepare_83 83 _ _ _ o_EN_prepare_83 ?_
  simp only [k_EN_prepare_83, jrun, jstep, jldi, jldl, jlda, j1, j2, jl1, jl2, jli, ja1, jbr, jald, jast, jlald, jlast, jalen, jget, jput, jfit, jdup, jdupx, jdupx2, jdup2, jcat, jset1, jset2, jkill, List.getElem?_cons_zero, List.getElem?_cons_succ, List.set_cons_zero, List.set_cons_succ, List.length_cons, List.length_nil, Nat.reduceAdd, Nat.reduceLT, Int32.reduceToNatClampNeg, true_and, and_true, and_self, reduceCtorEq, not_false_eq_true, false_and, and_false, or_false, false_or, true_or, or_true, hs, hak, jup_s, false_implies, true_implies, not_true_eq_false, not_false_eq_true, and_true, true_and, ne_eq]
  exact kk
theorem kN_1 {K : Nat → Nat} {n tk k : Nat} : kN (bK1 K n tk) k (n + 1) = kN K k n + (if tk = k then 1 else 0) := kN_gK
theorem kN_2 {K : Nat → Nat} {n tk qk k : Nat} : kN (bK2 K n tk qk) k (n + 2) = kN K k n + (if tk = k then 1 else 0) + (if qk = k then 1 else 0) := by
  show kN (gK (gK K n tk) (n + 1) qk) k (n + 1 + 1) = _
  rw [kN_gK, kN_gK]
theorem tb_1 {K : Nat → Nat} {n tk : Nat} (h : tb4 tk) : ∀ a, n ≤ a → a < n + 1 → tb4 (bK1 K n tk a) := fun a h1 h2 => by
  obtain rfl : a = n := by omega
  rw [show bK1 K a tk a = tk from gK_at]
  exact h
theorem tb_2 {K : Nat → Nat} {n tk qk : Nat} (h : tb4 tk) (h9 : tb4 qk) : ∀ a, n ≤ a → a < n + 2 → tb4 (bK2 K n tk qk a) := fun a h1 h2 => by
  by_cases e : a = n
  · subst e
    rw [show bK2 K a tk qk a = tk from (gK_lo (Nat.lt_succ_self a)).trans gK_at]
    exact h
  · obtain rfl : a = n + 1 := by omega
    rw [show bK2 K n tk qk (n + 1) = qk from gK_at]
    exact h9
section PRS
variable {l : Launch} {E : jE}
set_option maxRecDepth 100000 in
set_option maxHeartbeats 4000000 in
theorem pr_1 {M : jM} {Q : State → Prop} {rm : Room} {K0 : Nat → Nat} {n0 : Nat} {σ0 : Nat → jcell} {en : Nat} {man : Int32} (X : jX E "ChessHouse$Endings" lw_tbl jcl jtb 3 false prog_6_method_2_code M) (hl : M.2.1 = l) (hR : M.2.2.2.1 = rm) (hf1 : 4 ≤ rm.frames) (hf2 : 116 ≤ rm.locals) (hc1 : rm.cells = 5 - tC K0 n0) (hc2 : rm.slots = 638976 - tS K0 n0) (kk : ∀ (K : Nat → Nat) (n : Nat) (σ : Nat → jcell), pI K0 n0 σ0 en K n σ → pN σ en 3 man → jJ E jcl 3 M Q n (tC K n - tC K0 n0) (tS K n - tS K0 n0) 39 [some (.inr (.inr (some (.inl en)))), none, some (.inl man)] [] σ) {K : Nat → Nat} {n : Nat} {σ : Nat → jcell} (h : pI K0 n0 σ0 en K n σ) : jJ E jcl 3 M Q n (tC K n - tC K0 n0) (tS K n - tS K0 n0) 13 [some (.inr (.inr (some (.inl en)))), none, some (.inl man)] [] σ := by
  subst hl
  have hh := h
  obtain ⟨i1, i2, i3, i4, i5, i6, i7, i8, i9⟩ := hh
  obtain ⟨d, b, tl, kd, vl, v3, v4, v5, v6, qr, hs, t2, t3, t4, t5, t6, t7, t8, t9⟩ := en_fs i1 i3.1 i3.2.1
  have hen := i3.1
  have hken := i3.2.1
  obtain ⟨-, -, -, qr', fs, u3, u4, u5, z0, z3, z4, z5, z7, zq, q1, q2, q3⟩ := i3
  rw [hs] at z0
  obtain rfl := (Prod.mk.inj (Sum.inr.inj z0)).2
  cases z3; cases z4; cases z5; cases z7
  rcases aG_ref t3 with ⟨-, rfl⟩ | ⟨t, rfl, -, -⟩
  · by_cases hm : man = 5 ∨ man = 1
    · refine sg1_c X hen hs hm ?_
      have nz : nl (.inr (.inr none) : jv) = 1 := rfl
      have b3 := nl_le v4
      have b4 := nl_le v5
      have cont : ∀ (c s : Nat) (K' : Nat → Nat) (n' : Nat) (σ' : Nat → jcell) (t qv : Nat) (tl' : Int32) (v6' : jv), tC K' n' = tC K n + c → tS K' n' = tS K n + s → en < n' → σ' en = .inr (8, [.inl d, .inl b, vl, .inr (.inr none), v4, v5, v6', .inr (.inr (some (.inl qv))), .inl tl', .inl 5]) → pI K0 n0 σ0 en K' n' (jup σ' en (.inr (8, [.inl d, .inl b, vl, .inr (.inr (some (.inl t))), v4, v5, v6', .inr (.inr (some (.inl qv))), .inl tl', .inl 5]))) → jJ E jcl 3 M Q n' (tC K n - tC K0 n0 + c) (tS K n - tS K0 n0 + s) 36 [some (.inr (.inr (some (.inl en)))), none, some (.inl man)] ((some (.inr (.inr (some (.inl t))))).toList ++ [.inr (.inr (some (.inl en)))]) σ' := by
        intro c s K' n' σ' t qv tl' v6' k1 k2 k3 k4 k5
        refine sg1_d X k3 k4 ?_
        refine jJ_widen (c2 := tC K' n' - tC K0 n0) (s2 := tS K' n' - tS K0 n0) (by omega) (by omega) (kk K' n' _ k5 (fun hm9 fs v e hv => by rw [jup_s] at e; obtain rfl := (Prod.mk.inj (Sum.inr.inj e)).2; cases hv; exact rfl))
      rcases q3 with ⟨a1, ⟨g, hqs⟩, a3, a4⟩ | ⟨a1, a3, a4⟩ | ⟨-, -, -, a5, a6, a7⟩
      · skip
        have w : gW K n (bK2 K n 114 53) (n + 2) := gW_tr gK_gw gK_gw
        have c114 : kN (bK2 K n 114 53) 114 (n + 2) = kN K 114 n + 1 := kN_2
        have c52 : kN (bK2 K n 114 53) 52 (n + 2) = kN K 52 n + 0 := kN_2
        have c53 : kN (bK2 K n 114 53) 53 (n + 2) = kN K 53 n + 1 := kN_2
        have c54 : kN (bK2 K n 114 53) 54 (n + 2) = kN K 54 n + 0 := kN_2
        have k1 : tC (bK2 K n 114 53) (n + 2) = tC K n + 2 := by
          unfold tC
          omega
        have k2 : tS (bK2 K n 114 53) (n + 2) = tS K n + 163840 := by
          unfold tS
          omega
        have r1 : tC K n + 2 ≤ 5 := by
          unfold tC
          omega
        have r2 : tS K n + 163840 ≤ 638976 := by
          unfold tS
          omega
        refine jk_Vg X hR d_EN_prepare_33 q_EN_prepare_33 m_EN_build i_EN_build e_EN_build (ci := 8) rfl rfl hen hs (bz_Q5n i1 i2 hen hken hs t2 t3 t4 t5 t6 t7 t8 hqs) rfl rfl ⟨hf1, Nat.le_trans (Nat.le_of_ble_eq_true rfl) hf2⟩ rfl rfl ⟨by rw [hc1]; show _ + 2 ≤ _; omega, by rw [hc2]; show _ + 163840 ≤ _; omega⟩ (Nat.le_of_ble_eq_true rfl) (pc' := 36) rfl ?_
        rintro _ σ' _ ⟨rfl, t, rfl, t1, t2', g1, g2, g3, g4⟩
        obtain ⟨tl', s1, s2, s3⟩ := pI_mk h w (tb_2 (by unfold tb4; decide) (by unfold tb4; decide)) bdN_en (fun a ha hne => bdN_o hne (by omega) (by omega)) g1 g2 g3 g4 (aAllc (by unfold tb4; decide) (aAllc (by unfold tb4; decide) (fun q hq => by cases hq))) (by omega) (by omega)
        exact cont 2 163840 _ _ σ' t (n + 1) tl' _ k1 k2 s2 s1 (s3 _ _ _ ⟨t1, Or.inl t2'⟩ (aG_gw w t4) (aG_gw w t5) ⟨by rw [c114]; have : nl (.inr (.inr (some (.inl t))) : jv) = 0 := rfl; omega, by rw [c52]; have : nl (.inr (.inr (some (.inl t))) : jv) = 0 := rfl; omega, Or.inl ⟨gK_at, by omega, by omega⟩⟩)
      · obtain ⟨g, hqs⟩ := tb_ce i1 t7 a1 (L := 81920) rfl (by decide)
        have w : gW K n (bK1 K n 114) (n + 1) := gK_gw
        have c114 : kN (bK1 K n 114) 114 (n + 1) = kN K 114 n + 1 := kN_1
        have c52 : kN (bK1 K n 114) 52 (n + 1) = kN K 52 n + 0 := kN_1
        have c53 : kN (bK1 K n 114) 53 (n + 1) = kN K 53 n + 0 := kN_1
        have c54 : kN (bK1 K n 114) 54 (n + 1) = kN K 54 n + 0 := kN_1
        have k1 : tC (bK1 K n 114) (n + 1) = tC K n + 1 := by
          unfold tC
          omega
        have k2 : tS (bK1 K n 114) (n + 1) = tS K n + 81920 := by
          unfold tS
          omega
        have r1 : tC K n + 1 ≤ 5 := by
          unfold tC
          omega
        have r2 : tS K n + 81920 ≤ 638976 := by
          unfold tS
          omega
        refine jk_Vg X hR d_EN_prepare_33 q_EN_prepare_33 m_EN_build i_EN_build e_EN_build (ci := 8) rfl rfl hen hs (bz_Q5k i1 i2 hen hken hs t2 t3 t4 t5 t6 t7 t8 hqs a1) rfl rfl ⟨hf1, Nat.le_trans (Nat.le_of_ble_eq_true rfl) hf2⟩ rfl rfl ⟨by rw [hc1]; show _ + 1 ≤ _; omega, by rw [hc2]; show _ + 81920 ≤ _; omega⟩ (Nat.le_of_ble_eq_true rfl) (pc' := 36) rfl ?_
        rintro _ σ' _ ⟨rfl, t, rfl, t1, t2', g1, g2, g3, g4⟩
        obtain ⟨tl', s1, s2, s3⟩ := pI_mk h w (tb_1 (by unfold tb4; decide)) bdA_en (fun a ha hne => bdA_o hne (by omega)) g1 g2 g3 g4 (aAllc (by unfold tb4; decide) (aAllc (by unfold tb4; decide) (fun q hq => by cases hq))) (by omega) (by omega)
        exact cont 1 81920 _ _ σ' t qr tl' _ k1 k2 s2 s1 (s3 _ _ _ ⟨t1, Or.inl t2'⟩ (aG_gw w t4) (aG_gw w t5) ⟨by rw [c114]; have : nl (.inr (.inr (some (.inl t))) : jv) = 0 := rfl; omega, by rw [c52]; have : nl (.inr (.inr (some (.inl t))) : jv) = 0 := rfl; omega, Or.inl ⟨(gK_lo t7).trans a1, by omega, by omega⟩⟩)
      · exact absurd a5 (by decide)
    · exact sg1_b X hen hs hm (kk K n σ h (fun hm9 fs v e hv => by rw [hs] at e; obtain rfl := (Prod.mk.inj (Sum.inr.inj e)).2; cases hv; exact absurd hm9 (by simp at hm; exact hm.2)))
  · exact sg1_a X hen hs (kk K n σ h (fun hm fs v e hv => by rw [hs] at e; obtain rfl := (Prod.mk.inj (Sum.inr.inj e)).2; cases hv; exact rfl))
set_option maxRecDepth 100000 in
set_option maxHeartbeats 4000000 in
theorem pr_2 {M : jM} {Q : State → Prop} {rm : Room} {K0 : Nat → Nat} {n0 : Nat} {σ0 : Nat → jcell} {en : Nat} {man : Int32} (X : jX E "ChessHouse$Endings" lw_tbl jcl jtb 3 false prog_6_method_2_code M) (hl : M.2.1 = l) (hR : M.2.2.2.1 = rm) (hf1 : 4 ≤ rm.frames) (hf2 : 116 ≤ rm.locals) (hc1 : rm.cells = 5 - tC K0 n0) (hc2 : rm.slots = 638976 - tS K0 n0) (kk : ∀ (K : Nat → Nat) (n : Nat) (σ : Nat → jcell), pI K0 n0 σ0 en K n σ → pN σ en 3 man → pN σ en 4 man → jJ E jcl 3 M Q n (tC K n - tC K0 n0) (tS K n - tS K0 n0) 65 [some (.inr (.inr (some (.inl en)))), none, some (.inl man)] [] σ) {K : Nat → Nat} {n : Nat} {σ : Nat → jcell} (h : pI K0 n0 σ0 en K n σ) (p3 : pN σ en 3 man) : jJ E jcl 3 M Q n (tC K n - tC K0 n0) (tS K n - tS K0 n0) 39 [some (.inr (.inr (some (.inl en)))), none, some (.inl man)] [] σ := by
  subst hl
  have hh := h
  obtain ⟨i1, i2, i3, i4, i5, i6, i7, i8, i9⟩ := hh
  obtain ⟨d, b, tl, kd, vl, v3, v4, v5, v6, qr, hs, t2, t3, t4, t5, t6, t7, t8, t9⟩ := en_fs i1 i3.1 i3.2.1
  have hen := i3.1
  have hken := i3.2.1
  obtain ⟨-, -, -, qr', fs, u3, u4, u5, z0, z3, z4, z5, z7, zq, q1, q2, q3⟩ := i3
  rw [hs] at z0
  obtain rfl := (Prod.mk.inj (Sum.inr.inj z0)).2
  cases z3; cases z4; cases z5; cases z7
  have m3 : man = 1 → nl v3 = 0 := fun hm => p3 hm _ _ hs rfl
  rcases aG_ref t4 with ⟨-, rfl⟩ | ⟨t, rfl, -, -⟩
  · by_cases hm : man = 4 ∨ man = 1
    · refine sg2_c X hen hs hm ?_
      have nz : nl (.inr (.inr none) : jv) = 1 := rfl
      have b3 := nl_le v3
      have b4 := nl_le v5
      have cont : ∀ (c s : Nat) (K' : Nat → Nat) (n' : Nat) (σ' : Nat → jcell) (t qv : Nat) (tl' : Int32) (v6' : jv), tC K' n' = tC K n + c → tS K' n' = tS K n + s → en < n' → σ' en = .inr (8, [.inl d, .inl b, vl, v3, .inr (.inr none), v5, v6', .inr (.inr (some (.inl qv))), .inl tl', .inl 4]) → pI K0 n0 σ0 en K' n' (jup σ' en (.inr (8, [.inl d, .inl b, vl, v3, .inr (.inr (some (.inl t))), v5, v6', .inr (.inr (some (.inl qv))), .inl tl', .inl 4]))) → jJ E jcl 3 M Q n' (tC K n - tC K0 n0 + c) (tS K n - tS K0 n0 + s) 62 [some (.inr (.inr (some (.inl en)))), none, some (.inl man)] ((some (.inr (.inr (some (.inl t))))).toList ++ [.inr (.inr (some (.inl en)))]) σ' := by
        intro c s K' n' σ' t qv tl' v6' k1 k2 k3 k4 k5
        refine sg2_d X k3 k4 ?_
        refine jJ_widen (c2 := tC K' n' - tC K0 n0) (s2 := tS K' n' - tS K0 n0) (by omega) (by omega) (kk K' n' _ k5 (fun hm9 fs v e hv => by rw [jup_s] at e; obtain rfl := (Prod.mk.inj (Sum.inr.inj e)).2; cases hv; exact m3 hm9) (fun hm9 fs v e hv => by rw [jup_s] at e; obtain rfl := (Prod.mk.inj (Sum.inr.inj e)).2; cases hv; exact rfl))
      rcases q3 with ⟨a1, ⟨g, hqs⟩, a3, a4⟩ | ⟨a1, a3, a4⟩ | ⟨-, -, -, a5, a6, a7⟩
      · skip
        have w : gW K n (bK2 K n 114 53) (n + 2) := gW_tr gK_gw gK_gw
        have c114 : kN (bK2 K n 114 53) 114 (n + 2) = kN K 114 n + 1 := kN_2
        have c52 : kN (bK2 K n 114 53) 52 (n + 2) = kN K 52 n + 0 := kN_2
        have c53 : kN (bK2 K n 114 53) 53 (n + 2) = kN K 53 n + 1 := kN_2
        have c54 : kN (bK2 K n 114 53) 54 (n + 2) = kN K 54 n + 0 := kN_2
        have k1 : tC (bK2 K n 114 53) (n + 2) = tC K n + 2 := by
          unfold tC
          omega
        have k2 : tS (bK2 K n 114 53) (n + 2) = tS K n + 163840 := by
          unfold tS
          omega
        have r1 : tC K n + 2 ≤ 5 := by
          unfold tC
          omega
        have r2 : tS K n + 163840 ≤ 638976 := by
          unfold tS
          omega
        refine jk_Vg X hR d_EN_prepare_59 q_EN_prepare_59 m_EN_build i_EN_build e_EN_build (ci := 8) rfl rfl hen hs (bz_Q4n i1 i2 hen hken hs t2 t3 t4 t5 t6 t7 t8 hqs) rfl rfl ⟨hf1, Nat.le_trans (Nat.le_of_ble_eq_true rfl) hf2⟩ rfl rfl ⟨by rw [hc1]; show _ + 2 ≤ _; omega, by rw [hc2]; show _ + 163840 ≤ _; omega⟩ (Nat.le_of_ble_eq_true rfl) (pc' := 62) rfl ?_
        rintro _ σ' _ ⟨rfl, t, rfl, t1, t2', g1, g2, g3, g4⟩
        obtain ⟨tl', s1, s2, s3⟩ := pI_mk h w (tb_2 (by unfold tb4; decide) (by unfold tb4; decide)) bdN_en (fun a ha hne => bdN_o hne (by omega) (by omega)) g1 g2 g3 g4 (aAllc (by unfold tb4; decide) (aAllc (by unfold tb4; decide) (fun q hq => by cases hq))) (by omega) (by omega)
        exact cont 2 163840 _ _ σ' t (n + 1) tl' _ k1 k2 s2 s1 (s3 _ _ _ (aG_gw w t3) ⟨t1, Or.inl t2'⟩ (aG_gw w t5) ⟨by rw [c114]; have : nl (.inr (.inr (some (.inl t))) : jv) = 0 := rfl; omega, by rw [c52]; have : nl (.inr (.inr (some (.inl t))) : jv) = 0 := rfl; omega, Or.inl ⟨gK_at, by omega, by omega⟩⟩)
      · obtain ⟨g, hqs⟩ := tb_ce i1 t7 a1 (L := 81920) rfl (by decide)
        have w : gW K n (bK1 K n 114) (n + 1) := gK_gw
        have c114 : kN (bK1 K n 114) 114 (n + 1) = kN K 114 n + 1 := kN_1
        have c52 : kN (bK1 K n 114) 52 (n + 1) = kN K 52 n + 0 := kN_1
        have c53 : kN (bK1 K n 114) 53 (n + 1) = kN K 53 n + 0 := kN_1
        have c54 : kN (bK1 K n 114) 54 (n + 1) = kN K 54 n + 0 := kN_1
        have k1 : tC (bK1 K n 114) (n + 1) = tC K n + 1 := by
          unfold tC
          omega
        have k2 : tS (bK1 K n 114) (n + 1) = tS K n + 81920 := by
          unfold tS
          omega
        have r1 : tC K n + 1 ≤ 5 := by
          unfold tC
          omega
        have r2 : tS K n + 81920 ≤ 638976 := by
          unfold tS
          omega
        refine jk_Vg X hR d_EN_prepare_59 q_EN_prepare_59 m_EN_build i_EN_build e_EN_build (ci := 8) rfl rfl hen hs (bz_Q4k i1 i2 hen hken hs t2 t3 t4 t5 t6 t7 t8 hqs a1) rfl rfl ⟨hf1, Nat.le_trans (Nat.le_of_ble_eq_true rfl) hf2⟩ rfl rfl ⟨by rw [hc1]; show _ + 1 ≤ _; omega, by rw [hc2]; show _ + 81920 ≤ _; omega⟩ (Nat.le_of_ble_eq_true rfl) (pc' := 62) rfl ?_
        rintro _ σ' _ ⟨rfl, t, rfl, t1, t2', g1, g2, g3, g4⟩
        obtain ⟨tl', s1, s2, s3⟩ := pI_mk h w (tb_1 (by unfold tb4; decide)) bdA_en (fun a ha hne => bdA_o hne (by omega)) g1 g2 g3 g4 (aAllc (by unfold tb4; decide) (aAllc (by unfold tb4; decide) (fun q hq => by cases hq))) (by omega) (by omega)
        exact cont 1 81920 _ _ σ' t qr tl' _ k1 k2 s2 s1 (s3 _ _ _ (aG_gw w t3) ⟨t1, Or.inl t2'⟩ (aG_gw w t5) ⟨by rw [c114]; have : nl (.inr (.inr (some (.inl t))) : jv) = 0 := rfl; omega, by rw [c52]; have : nl (.inr (.inr (some (.inl t))) : jv) = 0 := rfl; omega, Or.inl ⟨(gK_lo t7).trans a1, by omega, by omega⟩⟩)
      · exact absurd a6 (by decide)
    · exact sg2_b X hen hs hm (kk K n σ h (fun hm9 fs v e hv => by rw [hs] at e; obtain rfl := (Prod.mk.inj (Sum.inr.inj e)).2; cases hv; exact m3 hm9) (fun hm9 fs v e hv => by rw [hs] at e; obtain rfl := (Prod.mk.inj (Sum.inr.inj e)).2; cases hv; exact absurd hm9 (by simp at hm; exact hm.2)))
  · exact sg2_a X hen hs (kk K n σ h (fun hm fs v e hv => by rw [hs] at e; obtain rfl := (Prod.mk.inj (Sum.inr.inj e)).2; cases hv; exact m3 hm) (fun hm fs v e hv => by rw [hs] at e; obtain rfl := (Prod.mk.inj (Sum.inr.inj e)).2; cases hv; exact rfl))
set_option maxRecDepth 100000 in
set_option maxHeartbeats 4000000 in
theorem pr_3 {M : jM} {Q : State → Prop} {rm : Room} {K0 : Nat → Nat} {n0 : Nat} {σ0 : Nat → jcell} {en : Nat} {man : Int32} (X : jX E "ChessHouse$Endings" lw_tbl jcl jtb 3 false prog_6_method_2_code M) (hl : M.2.1 = l) (hR : M.2.2.2.1 = rm) (hf1 : 4 ≤ rm.frames) (hf2 : 116 ≤ rm.locals) (hc1 : rm.cells = 5 - tC K0 n0) (hc2 : rm.slots = 638976 - tS K0 n0) (kk : ∀ (K : Nat → Nat) (n : Nat) (σ : Nat → jcell), pI K0 n0 σ0 en K n σ → jJ E jcl 3 M Q n (tC K n - tC K0 n0) (tS K n - tS K0 n0) 86 [some (.inr (.inr (some (.inl en)))), none, some (.inl man)] [] σ) {K : Nat → Nat} {n : Nat} {σ : Nat → jcell} (h : pI K0 n0 σ0 en K n σ) (p3 : pN σ en 3 man) (p4 : pN σ en 4 man) : jJ E jcl 3 M Q n (tC K n - tC K0 n0) (tS K n - tS K0 n0) 65 [some (.inr (.inr (some (.inl en)))), none, some (.inl man)] [] σ := by
  subst hl
  have hh := h
  obtain ⟨i1, i2, i3, i4, i5, i6, i7, i8, i9⟩ := hh
  obtain ⟨d, b, tl, kd, vl, v3, v4, v5, v6, qr, hs, t2, t3, t4, t5, t6, t7, t8, t9⟩ := en_fs i1 i3.1 i3.2.1
  have hen := i3.1
  have hken := i3.2.1
  obtain ⟨-, -, -, qr', fs, u3, u4, u5, z0, z3, z4, z5, z7, zq, q1, q2, q3⟩ := i3
  rw [hs] at z0
  obtain rfl := (Prod.mk.inj (Sum.inr.inj z0)).2
  cases z3; cases z4; cases z5; cases z7
  have m3 : man = 1 → nl v3 = 0 := fun hm => p3 hm _ _ hs rfl
  have m4 : man = 1 → nl v4 = 0 := fun hm => p4 hm _ _ hs rfl
  rcases aG_ref t5 with ⟨-, rfl⟩ | ⟨t, rfl, -, -⟩
  · by_cases hm : man = 1
    · refine sg3_c X hen hs hm ?_
      have nz : nl (.inr (.inr none) : jv) = 1 := rfl
      have b3 := nl_le v3
      have b4 := nl_le v4
      have cont : ∀ (c s : Nat) (K' : Nat → Nat) (n' : Nat) (σ' : Nat → jcell) (t qv : Nat) (tl' : Int32) (v6' : jv), tC K' n' = tC K n + c → tS K' n' = tS K n + s → en < n' → σ' en = .inr (8, [.inl d, .inl b, vl, v3, v4, .inr (.inr none), v6', .inr (.inr (some (.inl qv))), .inl tl', .inl 1]) → pI K0 n0 σ0 en K' n' (jup σ' en (.inr (8, [.inl d, .inl b, vl, v3, v4, .inr (.inr (some (.inl t))), v6', .inr (.inr (some (.inl qv))), .inl tl', .inl 1]))) → jJ E jcl 3 M Q n' (tC K n - tC K0 n0 + c) (tS K n - tS K0 n0 + s) 83 [some (.inr (.inr (some (.inl en)))), none, some (.inl man)] ((some (.inr (.inr (some (.inl t))))).toList ++ [.inr (.inr (some (.inl en)))]) σ' := by
        intro c s K' n' σ' t qv tl' v6' k1 k2 k3 k4 k5
        refine sg3_d X k3 k4 ?_
        refine jJ_widen (c2 := tC K' n' - tC K0 n0) (s2 := tS K' n' - tS K0 n0) (by omega) (by omega) (kk K' n' _ k5)
      rcases q3 with ⟨a1, ⟨g, hqs⟩, a3, a4⟩ | ⟨a1, a3, a4⟩ | ⟨-, -, -, a5, a6, a7⟩
      · skip
        have w : gW K n (bK2 K n 52 54) (n + 2) := gW_tr gK_gw gK_gw
        have c114 : kN (bK2 K n 52 54) 114 (n + 2) = kN K 114 n + 0 := kN_2
        have c52 : kN (bK2 K n 52 54) 52 (n + 2) = kN K 52 n + 1 := kN_2
        have c53 : kN (bK2 K n 52 54) 53 (n + 2) = kN K 53 n + 0 := kN_2
        have c54 : kN (bK2 K n 52 54) 54 (n + 2) = kN K 54 n + 1 := kN_2
        have k1 : tC (bK2 K n 52 54) (n + 2) = tC K n + 2 := by
          unfold tC
          omega
        have k2 : tS (bK2 K n 52 54) (n + 2) = tS K n + 393216 := by
          unfold tS
          omega
        have r1 : tC K n + 2 ≤ 5 := by
          unfold tC
          omega
        have r2 : tS K n + 393216 ≤ 638976 := by
          unfold tS
          omega
        refine jk_Vg X hR d_EN_prepare_80 q_EN_prepare_80 m_EN_build i_EN_build e_EN_build (ci := 8) rfl rfl hen hs (bz_Pn i1 i2 hen hken hs t2 t3 t4 t5 t6 t7 t8 hqs) rfl rfl ⟨hf1, Nat.le_trans (Nat.le_of_ble_eq_true rfl) hf2⟩ rfl rfl ⟨by rw [hc1]; show _ + 2 ≤ _; omega, by rw [hc2]; show _ + 393216 ≤ _; omega⟩ (Nat.le_of_ble_eq_true rfl) (pc' := 83) rfl ?_
        rintro _ σ' _ ⟨rfl, t, rfl, t1, t2', g1, g2, g3, g4⟩
        obtain ⟨tl', s1, s2, s3⟩ := pI_mk h w (tb_2 (by unfold tb4; decide) (by unfold tb4; decide)) bdN_en (fun a ha hne => bdN_o hne (by omega) (by omega)) g1 g2 g3 g4 (aAllc (by unfold tb4; decide) (aAllc (by unfold tb4; decide) (fun q hq => by cases hq))) (by omega) (by omega)
        exact cont 2 393216 _ _ σ' t (n + 1) tl' _ k1 k2 s2 s1 (s3 _ _ _ (aG_gw w t3) (aG_gw w t4) ⟨t1, Or.inl t2'⟩ ⟨by rw [c114]; have : nl (.inr (.inr (some (.inl t))) : jv) = 0 := rfl; omega, by rw [c52]; have : nl (.inr (.inr (some (.inl t))) : jv) = 0 := rfl; omega, Or.inr ⟨gK_at, by omega, by omega, m3 hm, m4 hm, rfl⟩⟩)
      · obtain ⟨g, hqs⟩ := tb_ce i1 t7 a1 (L := 81920) rfl (by decide)
        have w : gW K n (bK2 K n 52 54) (n + 2) := gW_tr gK_gw gK_gw
        have c114 : kN (bK2 K n 52 54) 114 (n + 2) = kN K 114 n + 0 := kN_2
        have c52 : kN (bK2 K n 52 54) 52 (n + 2) = kN K 52 n + 1 := kN_2
        have c53 : kN (bK2 K n 52 54) 53 (n + 2) = kN K 53 n + 0 := kN_2
        have c54 : kN (bK2 K n 52 54) 54 (n + 2) = kN K 54 n + 1 := kN_2
        have k1 : tC (bK2 K n 52 54) (n + 2) = tC K n + 2 := by
          unfold tC
          omega
        have k2 : tS (bK2 K n 52 54) (n + 2) = tS K n + 393216 := by
          unfold tS
          omega
        have r1 : tC K n + 2 ≤ 5 := by
          unfold tC
          omega
        have r2 : tS K n + 393216 ≤ 638976 := by
          unfold tS
          omega
        refine jk_Vg X hR d_EN_prepare_80 q_EN_prepare_80 m_EN_build i_EN_build e_EN_build (ci := 8) rfl rfl hen hs (bz_Pq i1 i2 hen hken hs t2 t3 t4 t5 t6 t7 t8 hqs) rfl rfl ⟨hf1, Nat.le_trans (Nat.le_of_ble_eq_true rfl) hf2⟩ rfl rfl ⟨by rw [hc1]; show _ + 2 ≤ _; omega, by rw [hc2]; show _ + 393216 ≤ _; omega⟩ (Nat.le_of_ble_eq_true rfl) (pc' := 83) rfl ?_
        rintro _ σ' _ ⟨rfl, t, rfl, t1, t2', g1, g2, g3, g4⟩
        obtain ⟨tl', s1, s2, s3⟩ := pI_mk h w (tb_2 (by unfold tb4; decide) (by unfold tb4; decide)) bdN_en (fun a ha hne => bdN_o hne (by omega) (by omega)) g1 g2 g3 g4 (aAllc (by unfold tb4; decide) (aAllc (by unfold tb4; decide) (fun q hq => by cases hq))) (by omega) (by omega)
        exact cont 2 393216 _ _ σ' t (n + 1) tl' _ k1 k2 s2 s1 (s3 _ _ _ (aG_gw w t3) (aG_gw w t4) ⟨t1, Or.inl t2'⟩ ⟨by rw [c114]; have : nl (.inr (.inr (some (.inl t))) : jv) = 0 := rfl; omega, by rw [c52]; have : nl (.inr (.inr (some (.inl t))) : jv) = 0 := rfl; omega, Or.inr ⟨gK_at, by omega, by omega, m3 hm, m4 hm, rfl⟩⟩)
      · exact absurd a7 (by decide)
    · exact sg3_b X hen hs hm (kk K n σ h)
  · exact sg3_a X hen hs (kk K n σ h)
end PRS
end
section
/-! Endings.prepare, ChessHouse.answerEnds: the whole -/
theorem pI_0 {K : Nat → Nat} {n en : Nat} {σ σ' : Nat → jcell} {ρ : List jv} (hJ : cJ K n σ en) (hz : ∀ a, a < n → zPl (σ a)) (h1 : aH fa_T K n σ') (h2 : fJX K n σ') (h3 : aFr K n [] σ σ') (h4 : aFa K n [] ρ σ σ') : pI K n σ en K n σ' := by
  have e : ∀ a, a < n → σ' a = σ a := fun a ha => zPl_eq h3 h4 ha (hz a ha) (fun q hq => by cases hq) (fun q hq => by cases hq)
  exact ⟨h1, h2, cJ_fr hJ h3 h4 rfl, gW_rf, fun a g1 g2 => absurd g2 (Nat.not_lt.mpr g1), fun a ha => by rw [e a ha]; exact hz a ha, fun a ha _ _ => e a ha, Nat.le_refl _, Nat.le_refl _⟩
theorem pI_fr {K0 K : Nat → Nat} {n0 n en : Nat} {σ0 σ σ' : Nat → jcell} {ρ : List jv} (h : pI K0 n0 σ0 en K n σ) (h1 : aH fa_T K n σ') (h2 : fJX K n σ') (h3 : aFr K n [] σ σ') (h4 : aFa K n [] ρ σ σ') : pI K0 n0 σ0 en K n σ' := by
  obtain ⟨-, -, i3, i4, i5, i6, i7, i8, i9⟩ := h
  have e : ∀ a, a < n → σ' a = σ a := fun a ha => zPl_eq h3 h4 ha (i6 a ha) (fun q hq => by cases hq) (fun q hq => by cases hq)
  exact ⟨h1, h2, cJ_fr i3 h3 h4 rfl, i4, i5, fun a ha => by rw [e a ha]; exact i6 a ha, fun a ha hne ht => (e a (Nat.lt_of_lt_of_le ha i4.1)).trans (i7 a ha hne ht), i8, i9⟩
section PRZ
variable {l : Launch} {E : jE}
noncomputable def pRm (K : Nat → Nat) (n : Nat) : Room := { frames := 4, cells := 5 - tC K n, slots := 638976 - tS K n, locals := 116 }
set_option maxRecDepth 100000 in
set_option maxHeartbeats 4000000 in
theorem cz_prepare {K : Nat → Nat} {n : Nat} {σ : Nat → jcell} {en bo : Nat} (h : aH fa_T K n σ) (hX : fJX K n σ) (hJ : cJ K n σ en) (hz : ∀ a, a < n → zPl (σ a)) (hb : bo < n) (hkb : K bo = 26) : jMet l E jcl jtb lw_tbl y_EN_prepare (pRm K n) [.inr (.inr (some (.inl en))), .inr (.inr (some (.inl bo)))] σ n (fun r σ' n' => r = none ∧ ∃ K', pI K n σ en K' n' σ') := by
  refine zc_ENprepareG (l := l) (E := E) _ (pRm K n) ⟨Nat.le_of_ble_eq_true rfl, Nat.le_of_ble_eq_true rfl⟩ K n bP0 σ [.inr (.inr (some (.inl en))), .inr (.inr (some (.inl bo)))] h hX ⟨rfl, fun i e v he hv => ?_⟩ ⟨fun q hq => (by cases hq), fun q hq => (by cases hq), fun q hq => (by cases hq), fun q hq => (by cases hq)⟩ (fun w => ∃ K' n' σ', w = (K', n', σ', tC K' n' - tC K n, tS K' n' - tS K n) ∧ pI K n σ en K' n' σ') ⟨K, n, σ, by rw [Nat.sub_self, Nat.sub_self], pI_0 (ρ := []) hJ hz h hX aFr_rf aFa_rf⟩ (fun G hG => by cases hG) ?_ ?_
  · match i, he, hv with
    | 0, he, hv => cases he; cases hv; exact ⟨⟨hJ.1, Or.inl hJ.2.1⟩, trivial⟩
    | 1, he, hv => cases he; cases hv; exact ⟨⟨hb, Or.inl hkb⟩, trivial⟩
    | i + 2, he, _ => cases he
  · rintro K1 n1 σ1 ca sl ⟨K', n', σ', hw, hp⟩
    cases hw
    have r := cJ_rm hp.2.2.1
    refine ⟨⟨?_, ?_⟩, fun r σ2 hpo => ?_⟩
    · show _ ≤ 5 - tC K n
      omega
    · show _ ≤ 638976 - tS K n
      omega
    · obtain ⟨-, p1, p2, p3, p4, p5, -⟩ := hpo
      refine ⟨?_, K1, pI_fr hp p1 p2 p3 p4⟩
      cases r with
      | none => rfl
      | some v => cases p5
  · intro M hl hR hsz X hr hok c hc hce K1 n1 σ1 ca sl hw ρ' lv st σ2 hx hcx IH
    have h13 : c = ((13, ([some 0, none, some 2], [], [(.inr (some (.inl (false, 23))), none), (.inr (some (.inl (false, 26))), none), (.inl (0, 7), none)], ([], [], [], [(0, [])])), [.inl 2], [([], 1)]) : aCu) := by
      rcases List.mem_cons.mp hc with rfl | hc
      · rfl
      · rcases List.mem_cons.mp hc with rfl | hc
        · exact absurd hce (by decide)
        · rcases List.mem_cons.mp hc with rfl | hc
          · exact absurd hce (by decide)
          · cases hc
    subst h13
    obtain ⟨K', n', σ', hw, hp⟩ := hw
    cases hw
    obtain ⟨r1, r2, r3, -, g1, g2, g3, g4⟩ := hcx
    cases st with
    | cons _ _ => exact r3.elim
    | nil =>
      have hp2 := pI_fr hp g1 g2 g3 g4
      have x0 : ρ'[0]? = some (.inr (.inr (some (.inl en)))) := hx 0 _ rfl
      obtain ⟨u0, y0, y1⟩ := r2.2 0 0 rfl
      rw [x0] at y0
      obtain rfl := Option.some.inj y0
      obtain ⟨u2, y2, y3⟩ := r2.2 2 2 rfl
      obtain ⟨man, rfl, -⟩ := aG_int (r1.2 2 _ u2 rfl y2).1
      refine jJ_lv (lv' := [some (.inr (.inr (some (.inl en)))), none, some (.inl man)]) (fun i v hv => ?_) ?_
      · match i, hv with
        | 0, hv => cases hv; exact y1
        | 1, hv => cases hv
        | 2, hv => cases hv; exact y3
        | i + 3, hv => cases hv
      · refine pr_1 (rm := pRm K n) X hl hR (Nat.le_refl _) (Nat.le_refl _) rfl rfl (fun K n σ h p3 => pr_2 X hl hR (Nat.le_refl _) (Nat.le_refl _) rfl rfl (fun K n σ h p3 p4 => pr_3 X hl hR (Nat.le_refl _) (Nat.le_refl _) rfl rfl (fun K9 n9 σ9 h9 => ?_) h p3 p4) h p3) hp2
        refine IH K9 n9 σ9 _ _ ⟨K9, n9, σ9, rfl, h9⟩ ((86, ([none, none, none], [], [(.inr (some (.inl (false, 23))), none), (.inr (some (.inl (false, 26))), none)], ([], [], [], [])), [], [([], 0)]) : aCu) (List.mem_of_getElem? (i := 1) rfl) [.inr (.inr (some (.inl en))), .inr (.inr (some (.inl bo)))] _ [] σ9 ?_ aX_rf ⟨⟨rfl, fun i e v he hv => ?_⟩, ⟨rfl, fun i k hk => ?_⟩, trivial, ⟨bP0, fun q hq => (by cases hq), fun q hq => (by cases hq), fun q hq => (by cases hq), fun q hq => (by cases hq)⟩, h9.1, h9.2.1, aFr_rf, aFa_rf⟩
        · exact ⟨rfl, Or.inl Nat.zero_lt_one⟩
        · have w := h9.2.2.2.1
          match i, he, hv with
          | 0, he, hv => cases he; cases hv; exact ⟨⟨h9.2.2.1.1, Or.inl h9.2.2.1.2.1⟩, trivial⟩
          | 1, he, hv => cases he; cases hv; exact ⟨⟨Nat.lt_of_lt_of_le hb w.1, Or.inl ((w.2 bo hb).trans hkb)⟩, trivial⟩
          | i + 2, he, _ => cases he
        · match i, hk with
          | 0, hk => cases hk
          | 1, hk => cases hk
          | 2, hk => cases hk
          | i + 3, hk => cases hk
end PRZ
end
section
/-! ChessHouse.answerEnds -/
theorem d_CH_answerEnds_30 : decode prog_1_method_46_code 30 = .ok (.invokevirtual 503, 3) := by decide +kernel
theorem q_CH_answerEnds_30 : jlm lw_tbl 1805 "ChessHouse" 503 ⟨"ChessHouse$Endings", "prepare", "(LChessHouse$Board;)V"⟩ = true := jlm_of (Or.inl (jtF_ok rfl))
noncomputable def okm (q : Nat × Nat) : Bool := (Nat.blt q.1 55 || Nat.beq q.1 114) && (!(Nat.beq q.1 23 && (Nat.beq q.2 3 || (Nat.beq q.2 4 || (Nat.beq q.2 5 || Nat.beq q.2 7)))) && !(Nat.beq q.1 0 && (Nat.beq q.2 10 || Nat.beq q.2 11)))
noncomputable def okk (q : Nat × aF) : Bool := Nat.blt q.1 55 || Nat.beq q.1 114
/-- the two games of the house are those that they were -/
noncomputable def cG (σ0 σ : Nat → jcell) (ch : Nat) : Prop := ∀ c fs, σ0 ch = .inr (c, fs) → ∃ fs', σ ch = .inr (c, fs') ∧ fs'[10]? = fs[10]? ∧ fs'[11]? = fs[11]?
theorem cG_tr {σ0 σ σ' : Nat → jcell} {ch : Nat} (h : cG σ0 σ ch) (h2 : cG σ σ' ch) : cG σ0 σ' ch := fun c fs e => by
  obtain ⟨f1, e1, a1, b1⟩ := h c fs e
  obtain ⟨f2, e2, a2, b2⟩ := h2 c f1 e1
  exact ⟨f2, e2, a2.trans a1, b2.trans b1⟩
theorem cG_eq {σ σ' : Nat → jcell} {ch : Nat} (h : σ' ch = σ ch) : cG σ σ' ch := fun c fs e => ⟨fs, h.trans e, rfl, rfl⟩
theorem cG_fr {K : Nat → Nat} {n : Nat} {md : List (Nat × Nat)} {σ σ' : Nat → jcell} {ch : Nat} (h : aFr K n md σ σ') (hc : ch < n) (hk : K ch = 0) (hm : md.all okm = true) : cG σ σ' ch := fun c fs e => by
  obtain ⟨fs', e1, e2, e3⟩ := h ch hc c fs e
  have nm : ∀ f, (f = 10 ∨ f = 11) → ¬ (K ch, f) ∈ md := fun f hf hq => by
    have h9 := List.all_eq_true.mp hm _ hq
    rw [hk] at h9
    rcases hf with rfl | rfl
    all_goals exact absurd h9 (by decide)
  have g : ∀ f, (f = 10 ∨ f = 11) → fs'[f]? = fs[f]? := fun f hf => by
    cases hv : fs[f]? with
    | none => exact List.getElem?_eq_none (by rw [e2]; exact List.getElem?_eq_none_iff.mp hv)
    | some v => exact e3 f v hv (nm f hf)
  exact ⟨fs', e1, g 10 (Or.inl rfl), g 11 (Or.inr rfl)⟩
noncomputable def aEI (K0 : Nat → Nat) (n0 : Nat) (σ0 : Nat → jcell) (ch en ga : Nat) (K : Nat → Nat) (n : Nat) (σ : Nat → jcell) : Prop := aH fa_T K n σ ∧ fJX K n σ ∧ cJ K n σ en ∧ gW K0 n0 K n ∧ (∀ a, n0 ≤ a → a < n → tb4 (K a)) ∧ (∀ a, a < n → zPl (σ a)) ∧ fTG K n σ ga ∧ fS K0 n0 σ0 σ ∧ cG σ0 σ ch ∧ tC K0 n0 ≤ tC K n ∧ tS K0 n0 ≤ tS K n
section AIS
variable {K0 K K' : Nat → Nat} {n0 n n' ch en ga : Nat} {σ0 σ σ' : Nat → jcell}
theorem aEI_0 (h : aH fa_T K n σ) (hX : fJX K n σ) (hJ : cJ K n σ en) (hz : ∀ a, a < n → zPl (σ a)) (ht : fTG K n σ ga) : aEI K n σ ch en ga K n σ := ⟨h, hX, hJ, gW_rf, fun a g1 g2 => absurd g2 (Nat.not_lt.mpr g1), hz, ht, fun _ _ _ => rfl, cG_eq rfl, Nat.le_refl _, Nat.le_refl _⟩
theorem aEI_fr {md : List (Nat × Nat)} {mk : List (Nat × aF)} {ρ : List jv} (h : aEI K0 n0 σ0 ch en ga K n σ) (hc : ch < n0) (hk : K0 ch = 0) (h1 : aH fa_T K n σ') (h2 : fJX K n σ') (h3 : aFr K n md σ σ') (h4 : aFa K n mk ρ σ σ') (ht : fTG K n σ' ga) (hm : md.all okm = true) (hk2 : mk.all okk = true) : aEI K0 n0 σ0 ch en ga K n σ' := by
  obtain ⟨-, -, i3, i4, i5, i6, -, i8, i9, ia, ib⟩ := h
  have m1 : md.all (fun q => Nat.blt q.1 55 || Nat.beq q.1 114) = true := List.all_eq_true.mpr (fun q hq => by
    have h9 := List.all_eq_true.mp hm q hq
    unfold okm at h9
    rw [Bool.and_eq_true] at h9
    exact h9.1)
  have m2 : md.all (fun q => !(Nat.beq q.1 23 && (Nat.beq q.2 3 || (Nat.beq q.2 4 || (Nat.beq q.2 5 || Nat.beq q.2 7))))) = true := List.all_eq_true.mpr (fun q hq => by
    have h9 := List.all_eq_true.mp hm q hq
    unfold okm at h9
    rw [Bool.and_eq_true, Bool.and_eq_true] at h9
    exact h9.2.1)
  have hs := fS_of h3 h4 i6 m1 hk2
  refine ⟨h1, h2, cJ_fr i3 h3 h4 m2, i4, i5, zP_of h1 (fun a ha hk9 => ?_), ht, fun a ha hf => ?_, cG_tr i9 (cG_fr h3 (Nat.lt_of_lt_of_le hc i4.1) ((i4.2 ch hc).trans hk) hm), ia, ib⟩
  · rw [hs a ha (Or.inr hk9)]
    exact i6 a ha
  · rw [hs a (Nat.lt_of_lt_of_le ha i4.1) (by rw [i4.2 a ha]; exact hf)]
    exact i8 a ha hf
theorem aEI_pI (h : aEI K0 n0 σ0 ch en ga K n σ) (hc : ch < n0) (hk : K0 ch = 0) (h2 : pI K n σ en K' n' σ') : aEI K0 n0 σ0 ch en ga K' n' σ' := by
  obtain ⟨i1, i2, i3, i4, i5, i6, i7, i8, i9, ia, ib⟩ := h
  obtain ⟨j1, j2, j3, j4, j5, j6, j7, j8, j9⟩ := h2
  have hne : ∀ a, a < n → ¬ K a = 23 → a ≠ en := fun a ha hk9 e => hk9 (by rw [e]; exact i3.2.1)
  refine ⟨j1, j2, j3, gW_tr i4 j4, fun a g1 g2 => ?_, j6, fTG_gy (fun a ha g1 g2 => ⟨Nat.lt_of_lt_of_le ha j4.1, j4.2 a ha, j7 a ha (hne a ha (by omega)) (by unfold tb4; omega)⟩) i7, fun a ha hf => ?_, cG_tr i9 (cG_eq (j7 ch (Nat.lt_of_lt_of_le hc i4.1) ?_ ?_)), Nat.le_trans ia j8, Nat.le_trans ib j9⟩
  · by_cases h9 : a < n
    · rw [j4.2 a h9]
      exact i5 a g1 h9
    · exact j5 a (Nat.le_of_not_lt h9) g2
  · have ha2 := Nat.lt_of_lt_of_le ha i4.1
    have hk9 : K a = K0 a := i4.2 a ha
    unfold fo1 at hf
    rw [j7 a ha2 (hne a ha2 (by omega)) (by unfold tb4; omega)]
    exact i8 a ha (by unfold fo1; exact hf)
  · exact hne ch (Nat.lt_of_lt_of_le hc i4.1) (by rw [i4.2 ch hc, hk]; decide)
  · rw [i4.2 ch hc, hk]
    unfold tb4
    decide
theorem fTG_F {p : fP} (h : fTG K n σ ga) : fF K n p 1601 [fR ga] σ := (fF_b (r := 1601) (by decide) rfl).mpr (fTG_to h)
theorem F_fTG {p : fP} (h : fF K n p 1601 [fR ga] σ) : fTG K n σ ga := fTG_of ((fF_b (r := 1601) (by decide) rfl).mp h)
end AIS
/-- a field of the house, of a game -/
theorem ob_f {K : Nat → Nat} {n a f k c : Nat} {σ : Nat → jcell} {ts : List aT} {j : Nat} (h : aH fa_T K n σ) (ha : a < n) (hk : K a = k) (hT : fa_T[k]? = some (.inr (c, ts))) (ht : ts[f]? = some (.inr (some (.inl (false, j))))) (hj : ¬ j = 99999) : ∃ fs b, σ a = .inr (c, fs) ∧ fs[f]? = some (.inr (.inr (some (.inl b)))) ∧ b < n ∧ K b = j := by
  obtain ⟨fs, e1, e2, e3⟩ := aCe_obj (h a ha _ (by rw [hk]; exact hT))
  have hl : f < fs.length := by rw [e2]; exact (List.getElem?_eq_some_iff.mp ht).1
  obtain ⟨b, b1, b2, b3⟩ := aG_obj hj (e3 f _ _ ht (List.getElem?_eq_getElem hl))
  exact ⟨fs, b, e1, by rw [List.getElem?_eq_getElem hl, b1], b2, b3⟩
section AEZ
variable {l : Launch} {E : jE}
noncomputable def eRm (K : Nat → Nat) (n : Nat) : Room := { frames := 7, cells := 5 - tC K n, slots := 638976 - tS K n, locals := 155 }
set_option maxRecDepth 100000 in
set_option maxHeartbeats 4000000 in
theorem cz_answerEnds {K : Nat → Nat} {n : Nat} {σ : Nat → jcell} {ch en ga : Nat} {fs : List jv} (h : aH fa_T K n σ) (hX : fJX K n σ) (hJ : cJ K n σ en) (hz : ∀ a, a < n → zPl (σ a)) (hc : ch < n) (hk : K ch = 0) (hs : σ ch = .inr (0, fs)) (hg : fs[10]? = some (.inr (.inr (some (.inl ga))))) (hg1 : ga < n) (hg2 : K ga = 25) (ht : fTG K n σ ga) : jMet l E jcl jtb lw_tbl y_CH_answerEnds (eRm K n) [.inr (.inr (some (.inl ch)))] σ n (fun r σ' n' => r = none ∧ ∃ K', aEI K n σ ch en ga K' n' σ') := by
  obtain ⟨fg, bo, b1, b2, b3, b4⟩ := ob_f h hg1 hg2 (f := 0) rfl rfl (by decide)
  refine zc_CHanswerEndsG (l := l) (E := E) _ (eRm K n) ⟨Nat.le_of_ble_eq_true rfl, Nat.le_of_ble_eq_true rfl⟩ K n bP0 σ [.inr (.inr (some (.inl ch))), .inr (.inr (some (.inl ga))), .inr (.inr (some (.inl bo)))] h hX ⟨rfl, fun i e v he hv => ?_⟩ ⟨aAllc ⟨ch, 0, fs, _, rfl, hs, hg, rfl⟩ (aAllc ⟨ga, _, fg, _, rfl, b1, b2, rfl⟩ (fun q hq => by cases hq)), fun q hq => (by cases hq), fun q hq => (by cases hq), aAllc ⟨_, rfl, fTG_F ht⟩ (fun q hq => by cases hq)⟩ (fun w => ∃ K' n' σ', w = (K', n', σ', tC K' n' - tC K n, tS K' n' - tS K n) ∧ aEI K n σ ch en ga K' n' σ') ⟨K, n, σ, by rw [Nat.sub_self, Nat.sub_self], aEI_0 h hX hJ hz ht⟩ (fun G hG => by cases hG) ?_ ?_
  · match i, he, hv with
    | 0, he, hv => cases he; cases hv; exact ⟨⟨hc, Or.inl hk⟩, trivial⟩
    | 1, he, hv => cases he; cases hv; exact ⟨⟨hg1, Or.inl hg2⟩, trivial⟩
    | 2, he, hv => cases he; cases hv; exact ⟨⟨b3, Or.inl b4⟩, trivial⟩
    | i + 3, he, _ => cases he
  · rintro K1 n1 σ1 ca sl ⟨K', n', σ', hw, hp⟩
    cases hw
    have r := cJ_rm hp.2.2.1
    refine ⟨⟨?_, ?_⟩, fun r σ2 hpo => ?_⟩
    · show _ ≤ 5 - tC K n
      omega
    · show _ ≤ 638976 - tS K n
      omega
    · obtain ⟨-, p1, p2, p3, p4, p5, xs, p6, p7, -⟩ := hpo
      obtain ⟨vs, v1, v2⟩ := p7.2.2.2 (1601, [1]) (List.mem_of_getElem? (i := 0) rfl)
      obtain rfl : [fR ga] = vs := Option.some.inj v1
      refine ⟨?_, K1, aEI_fr hp hc hk p1 p2 p3 p4 (F_fTG v2) (by decide +kernel) (by decide +kernel)⟩
      cases r with
      | none => rfl
      | some v => cases p5
  · intro M hl hR hsz X hr hok c hcm hce K1 n1 σ1 ca sl hw ρ' lv st σ2 hx hcx IH
    have h30 : c = ((30, ([some 0], [2, 3], [(.inr (some (.inl (false, 0))), none), (.inr (some (.inl (false, 25))), none), (.inr (some (.inl (false, 26))), none), (.inr (some (.inl (false, 23))), none)], ([(0, 10, 1), (1, 0, 2)], [], [], [(0, []), (1601, [1])])), [.inr (.inl 1)], [([], 1)]) : aCu) := by
      rcases List.mem_cons.mp hcm with rfl | hcm
      · rfl
      · rcases List.mem_cons.mp hcm with rfl | hcm
        · exact absurd hce (by decide)
        · rcases List.mem_cons.mp hcm with rfl | hcm
          · exact absurd hce (by decide)
          · cases hcm
    subst h30
    obtain ⟨K', n', σ', hw, hp⟩ := hw
    cases hw
    obtain ⟨r1, r2, r3, ⟨pp, m1, -, -, m4⟩, g1, g2, g3, g4⟩ := hcx
    have x0 : ρ'[0]? = some (.inr (.inr (some (.inl ch)))) := hx 0 _ rfl
    have x1 : ρ'[1]? = some (.inr (.inr (some (.inl ga)))) := hx 1 _ rfl
    have x2 : ρ'[2]? = some (.inr (.inr (some (.inl bo)))) := hx 2 _ rfl
    obtain ⟨vs, v1, v2⟩ := m4 (1601, [1]) (List.mem_of_getElem? (i := 1) rfl)
    have hvs : vs = [fR ga] := by
      unfold aVs at v1
      rw [x1] at v1
      exact (Option.some.inj v1).symm
    subst hvs
    have hp2 := aEI_fr hp hc hk g1 g2 g3 g4 (F_fTG (show fF K1 n1 pp 1601 [fR ga] σ2 from v2)) (by decide +kernel) (by decide +kernel)
    cases st with
    | nil => exact r3.elim
    | cons w0 st =>
      cases st with
      | nil => exact r3.2.elim
      | cons w1 st =>
        cases st with
        | cons _ _ => exact r3.2.2.elim
        | nil =>
          have y2 := r3.1
          rw [x2] at y2
          obtain rfl := Option.some.inj y2
          obtain ⟨e9, rfl, e1, e2⟩ := aG_obj (by decide) (r1.2 3 _ w1 rfl r3.2.1).1
          obtain rfl := hp2.2.2.1.2.2.1 e9 e1 e2
          obtain ⟨fe, s1, -⟩ := aCe_obj (g1 e9 e1 _ (by rw [e2]; exact tEN_T))
          have w := hp2.2.2.2.1
          have rr := cJ_rm hp2.2.2.1
          have hib := hp2.2.2.2.2.2.2.2.2.2
          refine jk_Vg (show jX E "ChessHouse" lw_tbl jcl jtb _ _ _ M from X) hR d_CH_answerEnds_30 q_CH_answerEnds_30 m_EN_prepare i_EN_prepare e_EN_prepare (ci := 8) rfl rfl e1 s1 (cz_prepare (l := M.2.1) g1 g2 hp2.2.2.1 hp2.2.2.2.2.2.1 (Nat.lt_of_lt_of_le b3 w.1) ((w.2 bo b3).trans b4)) rfl rfl ⟨Nat.le_of_ble_eq_true rfl, Nat.le_of_ble_eq_true rfl⟩ rfl rfl ⟨?_, ?_⟩ (Nat.le_of_ble_eq_true rfl) (pc' := 33) rfl ?_
          · show _ + (5 - _) ≤ 5 - _
            omega
          · show _ + (638976 - _) ≤ 638976 - _
            omega
          · rintro _ σ3 n3 ⟨rfl, K3, h3⟩
            have hp3 := aEI_pI hp2 hc hk h3
            have w3 := hp3.2.2.2.1
            refine jJ_ti hsz (gTi_w (wR_gw w3 hp3.2.2.2.2.1) hp3.1) ?_
            obtain ⟨f3, q1, q2, -⟩ := hp3.2.2.2.2.2.2.2.2.1 0 fs hs
            have hga : ga < n1 := Nat.lt_of_lt_of_le hg1 w.1
            have hka : K1 ga = 25 := (w.2 ga hg1).trans hg2
            have c0 : σ3 ga = σ2 ga := h3.2.2.2.2.2.2.1 ga hga (fun e => by rw [e, e2] at hka; exact absurd hka (by decide)) (by rw [hka]; unfold tb4; decide)
            obtain ⟨a9, c9, fg3, v9, z1, z2, z3, z4⟩ := m1 (1, 0, 2) (List.mem_of_getElem? (i := 1) rfl)
            rw [show ρ'[(1, 0, 2).1]? = some (.inr (.inr (some (.inl ga)))) from x1] at z1
            rw [show ρ'[(1, 0, 2).2.2]? = some (.inr (.inr (some (.inl bo)))) from x2] at z4
            cases z1
            cases z4
            refine IH K3 n3 σ3 _ _ ⟨K3, n3, σ3, rfl, hp3⟩ ((33, ([some 0], [], [(.inr (some (.inl (false, 0))), none), (.inr (some (.inl (false, 25))), none), (.inr (some (.inl (false, 26))), none)], ([(0, 10, 1), (1, 0, 2)], [], [], [(1601, [1])])), [], [([], 0)]) : aCu) (List.mem_of_getElem? (i := 1) rfl) [.inr (.inr (some (.inl ch))), .inr (.inr (some (.inl ga))), .inr (.inr (some (.inl bo)))] _ [] σ3 ⟨rfl, Or.inl Nat.zero_lt_one⟩ aX_rf ⟨⟨rfl, fun i e v he hv => ?_⟩, ⟨?_, fun i k hk => ?_⟩, trivial, ⟨bP0, aAllc ⟨ch, 0, f3, _, rfl, q1, q2.trans hg, rfl⟩ (aAllc ⟨ga, _, fg3, _, rfl, c0.trans z2, z3, rfl⟩ (fun q hq => by cases hq)), fun q hq => (by cases hq), fun q hq => (by cases hq), aAllc ⟨_, rfl, fTG_F (p := bP0) hp3.2.2.2.2.2.2.1⟩ (fun q hq => by cases hq)⟩, hp3.1, hp3.2.1, aFr_rf, aFa_rf⟩
            · match i, he, hv with
              | 0, he, hv => cases he; cases hv; exact ⟨⟨Nat.lt_of_lt_of_le hc w3.1, Or.inl ((w3.2 ch hc).trans hk)⟩, trivial⟩
              | 1, he, hv => cases he; cases hv; exact ⟨⟨Nat.lt_of_lt_of_le hg1 w3.1, Or.inl ((w3.2 ga hg1).trans hg2)⟩, trivial⟩
              | 2, he, hv => cases he; cases hv; exact ⟨⟨Nat.lt_of_lt_of_le b3 w3.1, Or.inl ((w3.2 bo b3).trans b4)⟩, trivial⟩
              | i + 3, he, _ => cases he
            · exact r2.1
            · match i, hk with
              | 0, hk =>
                cases hk
                obtain ⟨u, u1, u2⟩ := r2.2 0 0 rfl
                rw [x0] at u1
                obtain rfl := Option.some.inj u1
                exact ⟨_, rfl, u2⟩
              | i + 1, hk => cases hk
end AEZ
end
