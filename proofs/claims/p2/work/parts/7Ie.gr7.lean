def kn_0 : List jI := [(.iload_n 1, 1, (1, 0, 0, 0, 0)), (.iload_n 2, 1, (2, 0, 0, 0, 0)), (.iload_n 3, 1, (3, 0, 0, 0, 0)), (.iload 4, 2, (4, 0, 0, 0, 0)), (.iload 5, 2, (5, 0, 0, 0, 0))]
theorem on_0 : jokL "ChessHouseModel$Ends" lw_tbl jcl jtb 7 false prog_17_method_11_code 0 kn_0 = true := jokLF_ok (fun _ _ => jtF_ok) lo_ME (by decide +kernel)
def kn_10 : List jI := [(.istore 6, 2, (6, 0, 0, 0, 0)), (.aload_n 0, 1, (0, 0, 0, 0, 0)), (.getfield 8, 3, (14, 3, 3056, 0, 0)), (.iload 6, 2, (6, 0, 0, 0, 0)), (.iconst 3, 1, (0, 0, 0, 3, 0)), (.ishr, 1, (0, 0, 0, 0, 0))]
theorem on_10 : jokL "ChessHouseModel$Ends" lw_tbl jcl jtb 7 false prog_17_method_11_code 10 kn_10 = true := jokLF_ok (fun _ _ => jtF_ok) lo_ME (by decide +kernel)
def kn_20 : List jI := [(.laload, 1, (0, 0, 0, 0, 0)), (.bipush 8, 2, (0, 0, 0, 8, 0)), (.iload 6, 2, (6, 0, 0, 0, 0)), (.bipush 7, 2, (0, 0, 0, 7, 0)), (.iand, 1, (0, 0, 0, 0, 0)), (.imul, 1, (0, 0, 0, 0, 0)), (.lshr, 1, (0, 0, 0, 0, 0)), (.ldc2_w 64, 3, (0, 0, 3158, 0, 255)), (.land, 1, (0, 0, 0, 0, 0)), (.l2i, 1, (0, 0, 0, 0, 0)), (.iconst 1, 1, (0, 0, 0, 1, 0)), (.isub, 1, (0, 0, 0, 0, 0))]
theorem on_20 : jokL "ChessHouseModel$Ends" lw_tbl jcl jtb 7 false prog_17_method_11_code 20 kn_20 = true := jokLF_ok (fun _ _ => jtF_ok) lo_ME (by decide +kernel)
theorem dn_7 : decode prog_17_method_11_code 7 = .ok (.invokestatic 60, 3) := by decide +kernel
theorem dn_37 : decode prog_17_method_11_code 37 = .ok (.ireturn, 1) := by decide +kernel
theorem qn_7 : jlm lw_tbl 3154 "ChessHouseModel$Ends" 60 ⟨"ChessHouseModel$Ends", "cell", "(IIIII)I"⟩ = true := jlm_of (Or.inl (jtF_ok rfl))
theorem kn_a (L : Int64) : (L &&& 255).toInt = ((L.toBitVec.toNat % 2 ^ 8 : Nat) : Int) := by
  have h1 : (L &&& 255).toBitVec.toNat = L.toBitVec.toNat % 2 ^ 8 := by
    rw [Int64.toBitVec_and, BitVec.toNat_and, show ((255 : Int64).toBitVec.toNat) = 2 ^ 8 - 1 from rfl, Nat.and_two_pow_sub_one_eq_mod]
  have h2 := Nat.mod_lt L.toBitVec.toNat (show 0 < 2 ^ 8 by decide)
  show (L &&& 255).toBitVec.toInt = _
  rw [BitVec.toInt_eq_toNat_of_lt (by rw [h1]; omega), h1]
theorem kn_z {L : Int64} (h : ((L &&& 255).toInt32 - 1).toInt < 0) : ∀ i, i < 8 → L.toBitVec.getLsbD i = false := by
  have h1 := kn_a L
  have h2 := Nat.mod_lt L.toBitVec.toNat (show 0 < 2 ^ 8 by decide)
  have h3 : (L &&& 255).toInt32.toInt = ((L.toBitVec.toNat % 2 ^ 8 : Nat) : Int) := by
    rw [Int64.toInt_toInt32, h1, Int.bmod_eq_of_le (by omega) (by omega)]
  rw [Int32.toInt_sub, h3, show (1 : Int32).toInt = 1 from rfl, Int.bmod_eq_of_le (by omega) (by omega)] at h
  have h4 : L.toBitVec.toNat % 2 ^ 8 = 0 := by omega
  intro i hi
  have h5 : (L.toBitVec.toNat % 2 ^ 8).testBit i = false := by rw [h4]; exact Nat.zero_testBit i
  rw [Nat.testBit_mod_two_pow] at h5
  rw [← BitVec.testBit_toNat]
  simpa [hi] using h5
theorem kn_s {a : Int32} (h0 : 0 ≤ a.toInt) : (8 * (a &&& 7)).toInt = 8 * (a.toInt % 8) := by
  have e : (a &&& 7).toInt = a.toInt % 8 := aAnd_m (y := 7) h0 (by decide) (by decide)
  rw [Int32.toInt_mul, e, show (8 : Int32).toInt = 8 from rfl, Int.bmod_eq_of_le (by omega) (by omega)]
theorem kn_b {a : Int32} {w : Int64} (h0 : 0 ≤ a.toInt) (h : ((w >>> ((8 * (a &&& 7)).toInt64 &&& 63) &&& 255).toInt32 - 1).toInt < 0) : ∀ i, i < 8 → w.toBitVec.getLsbD (8 * (a.toInt % 8).toNat + i) = false := by
  have e := kn_s h0
  have h1 := kn_z h
  intro i hi
  have h2 := h1 i hi
  have e1 : 8 * (a &&& 7) = Int32.ofInt (8 * (a.toInt % 8)) := by
    apply Int32.toInt_inj.mp
    rw [e, Int32.toInt_ofInt_of_le (by omega) (by omega)]
  have h3 := rShb (L := w) (t := 8 * (a.toInt % 8)) rfl (by omega) (by omega) (i := (i : Int)) (by omega) (by omega)
  rw [← e1] at h3
  have e2 : (8 * (a.toInt % 8) + (i : Int)).toNat = 8 * (a.toInt % 8).toNat + i := by omega
  unfold rBt at h3
  rw [e2, show ((i : Int)).toNat = i from rfl] at h3
  cases h4 : w.toBitVec.getLsbD (8 * (a.toInt % 8).toNat + i) with
  | false => rfl
  | true =>
    have h5 := h3.mpr h4
    rw [h2] at h5
    cases h5
theorem kn_i {a : Int32} (h0 : 0 ≤ a.toInt) (h1 : a.toInt ≤ 2621439) : vp_in (a >>> (3 &&& 31)) 327680 ∧ (a >>> (3 &&& 31)).toNatClampNeg = (a.toInt / 8).toNat := by
  obtain ⟨c, c1, c2⟩ := aShr_l a 3
  obtain rfl := c2 3 (by decide) rfl
  have e : (a >>> (3 &&& 31)).toInt = a.toInt / 8 := c1
  refine ⟨fun h => ?_, ?_⟩
  · rcases h with h | h
    · have h9 := Int32.lt_iff_toInt_lt.mp h
      rw [e, show (0 : Int32).toInt = 0 from rfl] at h9
      omega
    · have h9 : 327680 ≤ (a >>> (3 &&& 31)).toInt.toNat := h
      rw [e] at h9
      omega
  · show (a >>> (3 &&& 31)).toInt.toNat = _
    rw [e]
section KNX
variable {l : Launch} {E : jE} {K : Nat → Nat} {n : Nat} {JX : (Nat → jcell) → Prop} {N : Int}
set_option maxRecDepth 100000 in
set_option maxHeartbeats 4000000 in
theorem az_MEknownX (hc : aMe (rH N K n) l E jcl jtb lw_tbl fa_T K n JX ag_MEcellX) : aMe (rH N K n) l E jcl jtb lw_tbl fa_T K n JX ag_MEknownX := by
  intro p σ ρ hH hX hA hM
  have hG := aAG_of hA.1 (fun i e v he hv => (hA.2 i e v he hv).1)
  obtain ⟨v0, v1, v2, v3, v4, v5, rfl, g0, g1, g2, g3, g4, g5⟩ := rA_6 hG
  clear hG
  obtain ⟨x0, rfl, b0, d0⟩ := rG_ref (by decide) g0
  obtain ⟨x1, rfl, b1⟩ := aG_int g1
  obtain ⟨x2, rfl, b2⟩ := aG_int g2
  obtain ⟨x3, rfl, b3⟩ := aG_int g3
  obtain ⟨x4, rfl, b4⟩ := aG_int g4
  obtain ⟨x5, rfl, b5⟩ := aG_int g5
  refine jMet_of (hY := rfl) false (fun h => by cases h) (by decide) (Nat.le_of_ble_eq_true rfl) [some (rR x0), some (rI x1), some (rI x2), some (rI x3), some (rI x4), some (rI x5), none] rfl ?_
  intro M hl hR X hr
  subst hl
  refine jrun_ok jC X kn_0 0 _ _ _ on_0 ?_
  simp only [kn_0, jrun, jstep, jldi, jldl, jlda, j1, j2, jl1, jl2, jli, ja1, jbr, jald, jast, jlald, jlast, jalen, jget, jput, jfit, jdup, jdupx, jdupx2, jdup2, jcat, jset1, jset2, jkill, List.getElem?_cons_zero, List.getElem?_cons_succ, List.set_cons_zero, List.set_cons_succ, List.length_cons, List.length_nil, Nat.reduceAdd, Nat.reduceLT, Int32.reduceToNatClampNeg, true_and, and_true, and_self, reduceCtorEq, not_false_eq_true, false_and, and_false, or_false, false_or, true_or, or_true]
  have hAc : aR K n ag_MEcellX.2.2.2.1.1 [rI x1, rI x2, rI x3, rI x4, rI x5] := by
    refine ⟨rfl, fun i e v he hv => ?_⟩
    match i, he, hv with
    | 0, he, hv => cases he; cases hv; exact ⟨b1, trivial⟩
    | 1, he, hv => cases he; cases hv; exact ⟨b2, trivial⟩
    | 2, he, hv => cases he; cases hv; exact ⟨b3, trivial⟩
    | 3, he, hv => cases he; cases hv; exact ⟨b4, trivial⟩
    | 4, he, hv => cases he; cases hv; exact ⟨b5, trivial⟩
    | i + 5, he, _ => cases he
  have hMc := hc p σ [rI x1, rI x2, rI x3, rI x4, rI x5] hH hX hAc ⟨fun q h => (by cases h), fun q h => (by cases h), fun q h => (by cases h), fun q h => (by cases h)⟩
  refine jk_Sg X hR dn_7 qn_7 m_ME_cell s_ME_cell (vals := [rI x1, rI x2, rI x3, rI x4, rI x5]) (r := []) hMc rfl rfl ⟨Nat.le_of_ble_eq_true rfl, Nat.le_of_ble_eq_true rfl⟩ (c' := 0) rfl (s' := 0) rfl ⟨Nat.le_refl _, Nat.le_refl _⟩ (by decide) (pc' := 10) rfl ?_
  rintro v σ' n' ⟨rfl, p1, p2, p3, p4, p5, xs, p6, p7, -⟩
  obtain ⟨w, rfl⟩ : ∃ w, v = some w := by
    cases v with
    | none => cases p5
    | some w => exact ⟨w, rfl⟩
  obtain ⟨a, rfl, ha⟩ := aG_int (p6.2 5 (.inl (0, 2621439), none) w rfl rfl).1
  obtain ⟨z1, k1, k2⟩ := p7.2.2.1 ([(5, 1), (0, -524288), (1, -262144), (2, -4096), (3, -64), (4, -1)], 524288) (List.mem_of_getElem? (i := 0) rfl)
  obtain ⟨z2, k3, k4⟩ := p7.2.2.1 ([(5, -1), (0, 524288), (1, 262144), (2, 4096), (3, 64), (4, 1)], -524288) (List.mem_of_getElem? (i := 1) rfl)
  obtain rfl : (1 * a.toInt + (-524288 * x1.toInt + (-262144 * x2.toInt + (-4096 * x3.toInt + (-64 * x4.toInt + (-1 * x5.toInt + 0)))))) = z1 := Option.some.inj k1
  obtain rfl : (-1 * a.toInt + (524288 * x1.toInt + (262144 * x2.toInt + (4096 * x3.toInt + (64 * x4.toInt + (1 * x5.toInt + 0)))))) = z2 := Option.some.inj k3
  dsimp only at k2 k4
  have ea : a.toInt = 524288 * x1.toInt + 262144 * x2.toInt + 4096 * x3.toInt + 64 * x4.toInt + x5.toInt - 524288 := by omega
  have a1 : 0 ≤ a.toInt := ha.1
  have a2 : a.toInt ≤ 2621439 := ha.2
  obtain ⟨fs, hs, hf0, hf⟩ := aCe_obj (p1 x0 b0 _ (by rw [d0]; rfl))
  replace hs : σ' x0 = .inr (14, fs) := hs
  have hlen : fs.length = 14 := hf0
  have h3 : fs[3]? = some fs[3] := List.getElem?_eq_getElem (by omega)
  obtain ⟨t, ht, t1, t2⟩ := rG_ref (by decide) (hf 3 (.inr (some (.inl (false, 110)))) _ rfl h3)
  rw [ht] at h3
  have hrow := p1 t t1 (.inl (.long, 327680, (0, 0), [])) (by rw [t2]; rfl)
  obtain ⟨g, hg⟩ : ∃ g, σ' t = .inl (.long, 327680, .inr (.inl g)) := by
    revert hrow
    cases σ' t with
    | inr y => exact fun h => h.elim
    | inl y =>
      obtain ⟨ty, m, g⟩ := y
      rcases g with g | g | g
      · exact fun h => absurd rfl h.2.2.1
      · exact fun h => ⟨g, by rw [h.1, h.2.1]⟩
      · exact fun h => h.elim
  have hk0 : (x0 < n') = True := eq_true b0
  have hk1 : (t < n') = True := eq_true t1
  obtain ⟨i1, i2⟩ := kn_i a1 a2
  have hin : vp_in (a >>> (3 &&& 31)) 327680 = True := eq_true i1
  refine jrun_ok jC X kn_10 10 _ _ _ on_10 ?_
  simp only [kn_10, jrun, jstep, jldi, jldl, jlda, j1, j2, jl1, jl2, jli, ja1, jbr, jald, jast, jlald, jlast, jalen, jget, jput, jfit, jdup, jdupx, jdupx2, jdup2, jcat, jset1, jset2, jkill, List.getElem?_cons_zero, List.getElem?_cons_succ, List.set_cons_zero, List.set_cons_succ, List.length_cons, List.length_nil, Nat.reduceAdd, Nat.reduceLT, Int32.reduceToNatClampNeg, true_and, and_true, and_self, reduceCtorEq, not_false_eq_true, false_and, and_false, or_false, false_or, true_or, or_true, Option.toList, List.cons_append, List.nil_append, hs, h3, hk0]
  refine jrun_ok jC X kn_20 20 _ _ _ on_20 ?_
  simp only [kn_20, jrun, jstep, jldi, jldl, jlda, j1, j2, jl1, jl2, jli, ja1, jbr, jald, jast, jlald, jlast, jalen, jget, jput, jfit, jdup, jdupx, jdupx2, jdup2, jcat, jset1, jset2, jkill, List.getElem?_cons_zero, List.getElem?_cons_succ, List.set_cons_zero, List.set_cons_succ, List.length_cons, List.length_nil, Nat.reduceAdd, Nat.reduceLT, Int32.reduceToNatClampNeg, true_and, and_true, and_self, reduceCtorEq, not_false_eq_true, false_and, and_false, or_false, false_or, true_or, or_true, hg, hk1, hin]
  refine jk_iret X dn_37 hr rfl (Nat.le_refl _) (Nat.le_refl _) ⟨rfl, p1, p2, p3, ?_, rfl, [], ?_, ⟨fun q h => (by cases h), fun q h => (by cases h), fun q h => (by cases h), ?_⟩, [], List.mem_cons_self, fun f h => (by cases h)⟩
  · intro a9 ha9
    obtain ⟨q1, q2⟩ := p4 a9 ha9
    exact ⟨fun ty m g h => (by
      obtain ⟨g', e1, e2⟩ := q1 ty m g h
      exact ⟨g', e1, fun i _ => e2 i (fun q hq => by cases hq)⟩), fun ty m g h => (by
      obtain ⟨g', e1, e2⟩ := q2 ty m g h
      exact ⟨g', e1, fun i _ => e2 i (fun q hq => by cases hq)⟩)⟩
  · refine ⟨rfl, fun i e v he hv => ?_⟩
    match i, he, hv with
    | 0, he, hv => cases he; cases hv; exact ⟨g0, trivial⟩
    | 1, he, hv => cases he; cases hv; exact ⟨b1, trivial⟩
    | 2, he, hv => cases he; cases hv; exact ⟨b2, trivial⟩
    | 3, he, hv => cases he; cases hv; exact ⟨b3, trivial⟩
    | 4, he, hv => cases he; cases hv; exact ⟨b4, trivial⟩
    | 5, he, hv => cases he; cases hv; exact ⟨b5, trivial⟩
    | 6, he, hv => cases he; cases hv; exact ⟨⟨Int32.le_toInt _, by have := Int32.toInt_lt (((g (a >>> (3 &&& 31)).toNatClampNeg >>> ((8 * (a &&& 7)).toInt64 &&& 63)) &&& 255).toInt32 - 1); omega⟩, trivial⟩
    | i + 7, he, _ => cases he
  · refine aAllc ⟨_, rfl, (rF_b (r := 7607) (by decide) rfl).mpr (ro3_475.mpr (fun h => ?_))⟩ (fun f h => by cases h)
    rw [← ea]
    refine ⟨a1, by omega, g, ⟨t, ⟨b0, d0, 14, fs, hs, h3⟩, t1, t2, hg⟩, fun i hi => ?_⟩
    rw [← i2]
    exact kn_b a1 h i hi
end KNX
