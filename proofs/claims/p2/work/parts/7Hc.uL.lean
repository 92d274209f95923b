section
/-! the reference: uL -/
noncomputable def y_MM_ends : jY := (⟨"ChessHouseModel", "ends", "()V"⟩, prog_15_method_53_code, 9, none)
theorem m_MM_ends : jmth lw_tbl y_MM_ends 0 := ⟨jTA_in (wi := 3045) (jtF_ok rfl) rfl, jTA_in (wi := 314) (jtF_ok rfl) rfl, by decide, by decide, by decide +kernel⟩
theorem i_MM_ends : Jvm.Cond.instanceMethod y_MM_ends.1 ∈ jTA lw_tbl := jTA_in (wi := 3044) (jtF_ok rfl) rfl
theorem e_MM_ends : Jvm.Cond.selects y_MM_ends.1.cls y_MM_ends.1 y_MM_ends.1 ∈ jTA lw_tbl := jTA_in (wi := 263) (jtF_ok rfl) rfl
noncomputable def y_MM_asked : jY := (⟨"ChessHouseModel", "asked", "()Z"⟩, prog_15_method_46_code, 3, (some .boolean))
theorem m_MM_asked : jmth lw_tbl y_MM_asked 0 := ⟨jTA_in (wi := 2850) (jtF_ok rfl) rfl, jTA_in (wi := 314) (jtF_ok rfl) rfl, by decide, by decide, by decide +kernel⟩
theorem i_MM_asked : Jvm.Cond.instanceMethod y_MM_asked.1 ∈ jTA lw_tbl := jTA_in (wi := 2849) (jtF_ok rfl) rfl
theorem e_MM_asked : Jvm.Cond.selects y_MM_asked.1.cls y_MM_asked.1 y_MM_asked.1 ∈ jTA lw_tbl := jTA_in (wi := 222) (jtF_ok rfl) rfl
noncomputable def y_MM_command : jY := (⟨"ChessHouseModel", "command", "()V"⟩, prog_15_method_26_code, 2, none)
theorem m_MM_command : jmth lw_tbl y_MM_command 0 := ⟨jTA_in (wi := 2383) (jtF_ok rfl) rfl, jTA_in (wi := 314) (jtF_ok rfl) rfl, by decide, by decide, by decide +kernel⟩
theorem i_MM_command : Jvm.Cond.instanceMethod y_MM_command.1 ∈ jTA lw_tbl := jTA_in (wi := 2382) (jtF_ok rfl) rfl
theorem e_MM_command : Jvm.Cond.selects y_MM_command.1.cls y_MM_command.1 y_MM_command.1 ∈ jTA lw_tbl := jTA_in (wi := 129) (jtF_ok rfl) rfl
noncomputable def ag_rkT0 : aCon := (y_BO_inCheck, false, 1, ([(.inl (0, 15), none)], ([], [], [], [])), (none, [], ([], [], [], []), [[([(0, 1)], 0), ([(0, -1)], 0)], [([(0, 1)], -1)]]), ([], []), { frames := 0, cells := 0, slots := 0, locals := 0 })
noncomputable def ag_rkE0 : aCon := (y_BO_inCheck, false, 3, ([(.inl (0, 0), none), (.inl (0, 0), none), (.inl (-1, -1), none)], ([], [], [], [])), (none, [], ([], [], [], [(7651, [0, 1, 2]), (7665, [2])]), [[]]), ([], []), { frames := 0, cells := 0, slots := 0, locals := 0 })
noncomputable def ag_rkEa : aCon := (y_BO_inCheck, false, 6, ([(.inr (some (.inl (false, 62))), none), (.inr (some (.inl (false, 82))), none), (.inl (0, 63), none), (.inl (0, 0), none), (.inl (0, 64), none), (.inl (-1, 63), none)], ([(0, 24, 1)], [(1, ([(2, 1)], 0), 3)], [], [(7651, [2, 4, 5])])), (none, [], ([], [], [], [(7876, [2, 4, 5, 5])]), [[]]), ([], []), { frames := 0, cells := 0, slots := 0, locals := 0 })
noncomputable def ag_rkEb6 : aCon := (y_BO_inCheck, false, 7, ([(.inr (some (.inl (false, 62))), none), (.inr (some (.inl (false, 82))), none), (.inl (0, 63), none), (.inl (6, 6), none), (.inl (0, 64), none), (.inl (0, 64), none), (.inl (-1, 63), none)], ([(0, 24, 1)], [(1, ([(2, 1)], 0), 3)], [([(5, 1), (4, -1)], -1), ([(5, -1), (4, 1)], 1)], [(6401, [0]), (7651, [2, 4, 6])])), (none, [], ([], [], [], [(7876, [2, 5, 6, 6])]), [[]]), ([], []), { frames := 0, cells := 0, slots := 0, locals := 0 })
noncomputable def ag_rkEb14 : aCon := (y_BO_inCheck, false, 7, ([(.inr (some (.inl (false, 62))), none), (.inr (some (.inl (false, 82))), none), (.inl (0, 63), none), (.inl (14, 14), none), (.inl (0, 64), none), (.inl (0, 64), none), (.inl (-1, 63), none)], ([(0, 24, 1)], [(1, ([(2, 1)], 0), 3)], [([(5, 1), (4, -1)], -1), ([(5, -1), (4, 1)], 1)], [(6401, [0]), (7651, [2, 4, 6])])), (none, [], ([], [], [], [(7876, [2, 5, 6, 6])]), [[]]), ([], []), { frames := 0, cells := 0, slots := 0, locals := 0 })
noncomputable def ag_rkEc1 : aCon := (y_BO_inCheck, false, 5, ([(.inr (some (.inl (false, 62))), none), (.inr (some (.inl (false, 82))), none), (.inl (0, 63), none), (.inl (1, 5), none), (.inl (0, 64), none)], ([(0, 24, 1)], [(1, ([(2, 1)], 0), 3)], [], [(6401, [0])])), (none, [], ([], [], [], [(7876, [2, 4, 2, 2]), (7665, [2])]), [[]]), ([], []), { frames := 0, cells := 0, slots := 0, locals := 0 })
noncomputable def ag_rkEc2 : aCon := (y_BO_inCheck, false, 5, ([(.inr (some (.inl (false, 62))), none), (.inr (some (.inl (false, 82))), none), (.inl (0, 63), none), (.inl (7, 13), none), (.inl (0, 64), none)], ([(0, 24, 1)], [(1, ([(2, 1)], 0), 3)], [], [(6401, [0])])), (none, [], ([], [], [], [(7876, [2, 4, 2, 2]), (7665, [2])]), [[]]), ([], []), { frames := 0, cells := 0, slots := 0, locals := 0 })
noncomputable def ag_rkEc3 : aCon := (y_BO_inCheck, false, 5, ([(.inr (some (.inl (false, 62))), none), (.inr (some (.inl (false, 82))), none), (.inl (0, 63), none), (.inl (15, 15), none), (.inl (0, 64), none)], ([(0, 24, 1)], [(1, ([(2, 1)], 0), 3)], [], [(6401, [0])])), (none, [], ([], [], [], [(7876, [2, 4, 2, 2]), (7665, [2])]), [[]]), ([], []), { frames := 0, cells := 0, slots := 0, locals := 0 })
noncomputable def ag_rkEn : aCon := (y_BO_inCheck, false, 4, ([(.inl (0, 63), none), (.inl (0, 64), none), (.inl (0, 64), none), (.inl (-1, 63), none)], ([], [], [([(1, 1), (0, -1)], -1), ([(1, -1), (0, 1)], 1)], [(7876, [0, 2, 3, 3])])), (none, [], ([], [], [], [(7651, [1, 2, 3])]), [[]]), ([], []), { frames := 0, cells := 0, slots := 0, locals := 0 })
noncomputable def ag_rkEz : aCon := (y_BO_inCheck, false, 4, ([(.inr (some (.inl (false, 62))), none), (.inl (64, 64), none), (.inl (3, 3), none), (.inl (-1, 63), none)], ([], [], [], [(7651, [1, 2, 3]), (7665, [3]), (6401, [0]), (384, [])])), (none, [], ([], [], [([(3, 1)], 0)], [(6370, [0, 3])]), [[]]), ([], []), { frames := 0, cells := 0, slots := 0, locals := 0 })
noncomputable def ag_rkEv : aCon := (y_BO_inCheck, false, 4, ([(.inr (some (.inl (false, 62))), none), (.inr (some (.inl (false, 82))), none), (.inl (0, 63), none), (.inl (0, 15), none)], ([(0, 24, 1)], [(1, ([(2, 1)], 0), 3)], [], [(6370, [0, 2])])), (none, [], ([], [], [], []), [[([(3, 1)], -1), ([(3, -1)], 5)], [([(3, 1)], -9), ([(3, -1)], 13)]]), ([], []), { frames := 0, cells := 0, slots := 0, locals := 0 })
noncomputable def ag_rkG5 : aCon := (y_BO_inCheck, false, 2, ([(.inr (some (.inl (false, 55))), none), (.inr (some (.inl (false, 109))), none)], ([(0, 7, 1)], [], [], [(5649, [1])])), (none, [], ([], [], [], [(6385, [0])]), [[]]), ([], []), { frames := 0, cells := 0, slots := 0, locals := 0 })
noncomputable def ag_rkX0 : aCon := (y_BO_inCheck, false, 3, ([(.inl (0, 24575), none), (.inl (0, 0), none), (.inl (-2147483648, 2147483647), none)], ([], [], [], [(1875, [0, 1, 2])])), (none, [], ([], [], [([(2, 1)], 0), ([(2, -1)], 24575)], []), [[]]), ([], []), { frames := 0, cells := 0, slots := 0, locals := 0 })
noncomputable def ag_rkX56 : aCon := (y_BO_inCheck, false, 3, ([(.inl (0, 24575), none), (.inl (56, 56), none), (.inl (-2147483648, 2147483647), none)], ([], [], [], [(1875, [0, 1, 2])])), (none, [], ([], [], [([(2, 1)], 0), ([(2, -1)], 24575)], []), [[]]), ([], []), { frames := 0, cells := 0, slots := 0, locals := 0 })
noncomputable def ag_rkX3584 : aCon := (y_BO_inCheck, false, 3, ([(.inl (0, 24575), none), (.inl (3584, 3584), none), (.inl (-2147483648, 2147483647), none)], ([], [], [], [(1875, [0, 1, 2])])), (none, [], ([], [], [([(2, 1)], 0), ([(2, -1)], 24575)], []), [[]]), ([], []), { frames := 0, cells := 0, slots := 0, locals := 0 })
noncomputable def ag_rjK4 : aCon := (y_BO_inCheck, false, 1, ([(.inl (1, 4), none)], ([], [], [], [])), (none, [], ([], [], [], []), [[([(0, 1)], -1), ([(0, -1)], 1)], [([(0, 1)], -2), ([(0, -1)], 2)], [([(0, 1)], -3), ([(0, -1)], 3)], [([(0, 1)], -4), ([(0, -1)], 4)]]), ([], []), { frames := 0, cells := 0, slots := 0, locals := 0 })
noncomputable def ag_rjK3 : aCon := (y_BO_inCheck, false, 1, ([(.inl (0, 3), none)], ([], [], [], [])), (none, [], ([], [], [], []), [[([(0, 1)], 0), ([(0, -1)], 0)], [([(0, 1)], -1), ([(0, -1)], 1)], [([(0, 1)], -2), ([(0, -1)], 2)], [([(0, 1)], -3), ([(0, -1)], 3)]]), ([], []), { frames := 0, cells := 0, slots := 0, locals := 0 })
noncomputable def ag_rjT1 : aCon := (y_BO_inCheck, false, 3, ([(.inl (0, 65536), none), (.inl (0, 65536), none), (.inl (0, 65537), none)], ([], [], [([(2, 1), (1, -1)], -1), ([(1, 1), (0, -1)], 0)], [])), (none, [], ([], [], [([(2, 1), (0, -1)], -1)], []), [[]]), ([], []), { frames := 0, cells := 0, slots := 0, locals := 0 })
end
section
/-! the reference: rules of uJ, uK, uL -/
theorem rI32x {z : Int} (h0 : 0 ≤ z) (h1 : z ≤ 1000000000) : ∃ x : Int32, x.toInt = z := ⟨Int32.ofInt z, by rw [Int32.toInt_ofInt_of_le (by omega) (by omega)]⟩
theorem rJb_0 {k m fr to : Int} : 0 ≤ rJb k m fr to := by
  have h1 := rJc_0 (f := rJn k) (a := to.toNat)
  have h2 := rJc_0 (f := rJq m) (a := to.toNat)
  unfold rJb
  (repeat' split) <;> omega
theorem rJl_up {K : Nat → Nat} {n : Nat} {σ : Nat → jcell} {a b k f kr len c : Nat} {fs : List jv} {g : Nat → Int64} {i : Nat} {v : Int64} (h : rJl K n σ a k f kr len g) (e1 : σ a = .inr (c, fs)) (e2 : fs[f]? = some (rR b)) : rJl K n (jup σ b (jstl (σ b) i v)) a k f kr len (vp_updL g i v) := by
  obtain ⟨r, o, h1, h2, e⟩ := h
  cases rOb_u o ⟨o.1, o.2.1, c, fs, e1, e2⟩
  have hne : ¬ a = b := fun h9 => by
    rw [h9, e] at e1
    cases e1
  refine ⟨b, ⟨o.1, o.2.1, c, fs, by rw [jup_n hne]; exact e1, e2⟩, h1, h2, ?_⟩
  rw [jup_s, e]
  rfl
theorem rJl_c {K : Nat → Nat} {n : Nat} {σ : Nat → jcell} {a b k f kr len c m i : Nat} {fs : List jv} {ty : FieldType} {g g' : Nat → Int64} (h : rJl K n σ a k f kr len g') (e1 : σ a = .inr (c, fs)) (e2 : fs[f]? = some (rR b)) (e3 : σ b = .inl (ty, m, .inr (.inl g))) {v : Int64} (hv : v = g i) : g' i = v := by
  obtain ⟨r, o, h1, h2, e⟩ := h
  cases rOb_u o ⟨o.1, o.2.1, c, fs, e1, e2⟩
  rw [e] at e3
  cases e3
  exact hv.symm
theorem rJ_no {K : Nat → Nat} {n : Nat} {σ : Nat → jcell} {a : Nat} {z : Int} {g : Nat → Int64} {t d : Int} {i : Nat} {u v w y : Int64} {s : Int32} (r : rJl K n σ a 109 3 110 327680 g) (le : (rJs g 327680 : Int) ≤ z) (k0 : 0 ≤ t) (k1 : t < 2621440) (kk : ∀ j, j < 8 → (g (t / 8).toNat).toBitVec.getLsbD (8 * (t % 8).toNat + j) = false) (hi : i = (t / 8).toNat) (hu : g i = u) (hv : v.toInt = d + 1) (hd : 0 ≤ d) (hs : s.toInt = 8 * (t % 8)) (hw : w = v <<< (s.toInt64 &&& 63)) (hy : y = u ||| w) : (¬ (d + 1) % 256 = 0 → (rJs (vp_updL g i y) 327680 : Int) ≤ z - 1) ∧ (rJs (vp_updL g i y) 327680 : Int) ≤ z := by
  have h1 := rJs_up (g := g) (i := i) (x := y) 327680 (by omega)
  rw [hu] at h1
  have h2 : rJz y ≤ rJz u := by rw [hy]; exact rJz_or
  refine ⟨fun h9 => ?_, by omega⟩
  have h3 : rJz y < rJz u := by
    rw [hy]
    refine rJz_lt ?_
    obtain ⟨j, j1, j2⟩ := rJ_lo (x := v) (by omega) (by omega)
    refine ⟨8 * (t % 8).toNat + j, by omega, ?_, rJ_sh hw (by omega) (by omega) j1 j2⟩
    rw [← hu, hi]
    exact kk j j1
  omega
theorem rJ_xo {x y z : Int32} {c : Nat} (e : z = x ^^^ y) (hy : y.toInt = (c : Int)) (hc : c < 4096) (h0 : 0 ≤ x.toInt) (h1 : x.toInt ≤ 24575) : 0 ≤ z.toInt ∧ z.toInt ≤ 24575 := by
  have nx : x.toBitVec.toNat = x.toInt.toNat := by
    have h9 : x.toInt = x.toBitVec.toInt := rfl
    rw [h9, BitVec.toInt_eq_toNat_cond] at h0 ⊢
    have := x.toBitVec.isLt
    split at h0
    · rw [if_pos ‹_›]; omega
    · omega
  have ny : y.toBitVec.toNat = c := by
    have h9 : y.toInt = y.toBitVec.toInt := rfl
    rw [h9, BitVec.toInt_eq_toNat_cond] at hy
    have := y.toBitVec.isLt
    split at hy <;> omega
  have nz : z.toBitVec.toNat = x.toInt.toNat ^^^ c := by rw [e, Int32.toBitVec_xor, BitVec.toNat_xor, nx, ny]
  have h2 : (x.toInt.toNat ^^^ c) >>> 12 = x.toInt.toNat >>> 12 := by
    rw [Nat.shiftRight_xor_distrib, show c >>> 12 = 0 by rw [Nat.shiftRight_eq_div_pow]; omega, Nat.xor_zero]
  rw [Nat.shiftRight_eq_div_pow, Nat.shiftRight_eq_div_pow] at h2
  have h3 : z.toInt = (z.toBitVec.toNat : Int) := by
    have h9 : z.toInt = z.toBitVec.toInt := rfl
    rw [h9, BitVec.toInt_eq_toNat_cond, if_pos (by rw [nz]; omega)]
  rw [h3, nz]
  omega
theorem rw_rjN0 {N : Int} {K : Nat → Nat} {n : Nat} {JX : (Nat → jcell) → Prop} : aGho (rH N K n) fa_T K n JX ag_rjN0 := by
  refine aGho_of ⟨rfl, rfl⟩ ?_
  intro p σ ρ hH hX hA hM0
  have hG := aAG_of hA.1 (fun i e v he hv => (hA.2 i e v he hv).1)
  clear hA
  obtain ⟨v0, v1, v2, v3, v4, rfl, g0, g1, g2, g3, g4⟩ := rA_5 hG
  clear hG
  obtain ⟨x0, rfl, b0, d0⟩ := rG_ref (by decide) g0
  obtain ⟨x1, rfl, b1, d1⟩ := aG_int g1
  dsimp only at b1 d1
  obtain ⟨x2, rfl, b2, d2⟩ := aG_int g2
  dsimp only at b2 d2
  obtain ⟨x3, rfl, b3, d3⟩ := aG_int g3
  dsimp only at b3 d3
  obtain ⟨x4, rfl, b4, d4⟩ := aG_int g4
  dsimp only at b4 d4
  obtain ⟨m1, m2, m3, m4⟩ := hM0
  obtain ⟨T, hT⟩ := rTe_ex hH b0 d0
  clear m1 m2 m3 m4
  have q0 : rB3 N K n p 484 [rR x0, rI x1, rI x3, rI x4] σ := ro3_484.mpr (by
    intro h9
    exfalso
    omega)
  exact ⟨p, fun _ => rfl, ⟨(fun q h => by cases h), fun q h => (by cases h), (fun f h => by cases h), (aAllc ⟨_, rfl, (rF_b (r := 7748) (by decide) rfl).mpr q0⟩ (fun f h => by cases h))⟩, [], List.mem_cons_self, fun f h => (by cases h)⟩
theorem rw_rjN1 {N : Int} {K : Nat → Nat} {n : Nat} {JX : (Nat → jcell) → Prop} : aGho (rH N K n) fa_T K n JX ag_rjN1 := by
  refine aGho_of ⟨rfl, rfl⟩ ?_
  intro p σ ρ hH hX hA hM0
  have hG := aAG_of hA.1 (fun i e v he hv => (hA.2 i e v he hv).1)
  clear hA
  obtain ⟨v0, v1, v2, v3, v4, v5, v6, rfl, g0, g1, g2, g3, g4, g5, g6⟩ := rA_7 hG
  clear hG
  obtain ⟨x0, rfl, b0, d0⟩ := rG_ref (by decide) g0
  obtain ⟨x1, rfl, b1, d1⟩ := aG_int g1
  dsimp only at b1 d1
  obtain ⟨x2, rfl, b2, d2⟩ := aG_int g2
  dsimp only at b2 d2
  obtain ⟨x3, rfl, b3, d3⟩ := aG_int g3
  dsimp only at b3 d3
  obtain ⟨x4, rfl, b4, d4⟩ := aG_int g4
  dsimp only at b4 d4
  obtain ⟨x5, rfl, b5, d5⟩ := aG_int g5
  dsimp only at b5 d5
  obtain ⟨x6, rfl, b6, d6⟩ := rG_ref (by decide) g6
  obtain ⟨m1, m2, m3, m4⟩ := hM0
  obtain ⟨T, hT⟩ := rTe_ex hH b0 d0
  obtain ⟨a0, c0, fs0, w0, e1, s0, t0, e4⟩ := m1 (0, 7, 6) (List.mem_of_getElem? (i := 0) rfl)
  obtain rfl : x0 = a0 := Sum.inl.inj (Option.some.inj (Sum.inr.inj (Sum.inr.inj (Option.some.inj (show some (rR x0) = some _ from e1)))))
  obtain rfl : rR x6 = w0 := Option.some.inj (show some (rR x6) = some w0 from e4)
  clear e1 e4
  obtain ⟨a, mc0, ty0, gc0, ic0, e1, sc0, jc0, e4, e5⟩ := m2 (6, ([(1, 1)], 0), 5) (List.mem_of_getElem? (i := 0) rfl)
  obtain rfl : x6 = a := Sum.inl.inj (Option.some.inj (Sum.inr.inj (Sum.inr.inj (Option.some.inj (show some (rR x6) = some _ from e1)))))
  obtain ⟨gc0, rfl⟩ : ∃ g, gc0 = .inl g := by
    rcases gc0 with g | g
    · exact ⟨g, rfl⟩
    · exact absurd (show some (rI x5) = some (.inr (.inl (g ic0))) from e5) (fun h => by cases h)
  have sc0 : σ x6 = .inl (ty0, mc0, .inl gc0) := sc0
  have ec0 : x5 = gc0 ic0 := Sum.inl.inj (Option.some.inj (show some (rI x5) = some _ from e5))
  have kc0 : (ic0 : Int) = (1 * x1.toInt + 0) + 0 := by
    obtain ⟨z, e6, e7⟩ := e4
    obtain rfl : (1 * x1.toInt + 0) = z := Option.some.inj (show some (1 * x1.toInt + 0) = some z from e6)
    exact e7
  clear e1 e4 e5
  have l0 : 0 ≤ (1 * x5.toInt + (-1 * x3.toInt + 0)) + 0 := by
    obtain ⟨z, e6, e7⟩ := m3 ([(5, 1), (3, -1)], 0) (List.mem_of_getElem? (i := 0) rfl)
    obtain rfl : (1 * x5.toInt + (-1 * x3.toInt + 0)) = z := Option.some.inj (show some (1 * x5.toInt + (-1 * x3.toInt + 0)) = some z from e6)
    exact e7
  have f0 : rB3 N K n p 241 [rR x0, rI x1, rI x2] σ := by
    obtain ⟨w, e6, e7⟩ := m4 (3859, [0, 1, 2]) (List.mem_of_getElem? (i := 0) rfl)
    obtain rfl : [rR x0, rI x1, rI x2] = w := Option.some.inj (show some [rR x0, rI x1, rI x2] = some w from e6)
    exact (rF_b (r := 3859) (by decide) rfl).mp e7
  obtain ⟨C, y, hY, f0⟩ := ro3_241.mp f0
  clear m1 m2 m3 m4
  obtain ⟨g, rg, eg⟩ := hY.2.1
  have e9 := rRo_c (i := ic0) rg s0 t0 sc0 ec0
  rw [show x1.toInt.toNat = ic0 by omega] at eg
  have q0 : rB3 N K n p 484 [rR x0, rI x1, rI x3, rI x4] σ := ro3_484.mpr (by
    intro _
    exact ⟨C, y, hY, b3, by omega⟩)
  exact ⟨p, fun _ => rfl, ⟨(fun q h => by cases h), fun q h => (by cases h), (fun f h => by cases h), (aAllc ⟨_, rfl, (rF_b (r := 7748) (by decide) rfl).mpr q0⟩ (fun f h => by cases h))⟩, [], List.mem_cons_self, fun f h => (by cases h)⟩
theorem rw_rjN2 {N : Int} {K : Nat → Nat} {n : Nat} {JX : (Nat → jcell) → Prop} : aGho (rH N K n) fa_T K n JX ag_rjN2 := by
  refine aGho_of ⟨rfl, rfl⟩ ?_
  intro p σ ρ hH hX hA hM0
  have hG := aAG_of hA.1 (fun i e v he hv => (hA.2 i e v he hv).1)
  clear hA
  obtain ⟨v0, v1, v2, v3, rfl, g0, g1, g2, g3⟩ := rA_4 hG
  clear hG
  obtain ⟨x0, rfl, b0, d0⟩ := rG_ref (by decide) g0
  obtain ⟨x1, rfl, b1, d1⟩ := aG_int g1
  dsimp only at b1 d1
  obtain ⟨x2, rfl, b2, d2⟩ := aG_int g2
  dsimp only at b2 d2
  obtain ⟨x3, rfl, b3, d3⟩ := aG_int g3
  dsimp only at b3 d3
  obtain ⟨m1, m2, m3, m4⟩ := hM0
  obtain ⟨T, hT⟩ := rTe_ex hH b0 d0
  have f0 : rB3 N K n p 484 [rR x0, rI x1, rI x2, rI x3] σ := by
    obtain ⟨w, e6, e7⟩ := m4 (7748, [0, 1, 2, 3]) (List.mem_of_getElem? (i := 0) rfl)
    obtain rfl : [rR x0, rI x1, rI x2, rI x3] = w := Option.some.inj (show some [rR x0, rI x1, rI x2, rI x3] = some w from e6)
    exact (rF_b (r := 7748) (by decide) rfl).mp e7
  have f0 := ro3_484.mp f0
  clear m1 m2 m3 m4
  have q0 : rB3 N K n p 241 [rR x0, rI x1, rI x2] σ := ro3_241.mpr (by
    obtain ⟨C, y, hY, k1, k2⟩ := f0 (by omega)
    exact ⟨C, y, hY, k1, k2⟩)
  exact ⟨p, fun _ => rfl, ⟨(fun q h => by cases h), fun q h => (by cases h), (fun f h => by cases h), (aAllc ⟨_, rfl, (rF_b (r := 3859) (by decide) rfl).mpr q0⟩ (fun f h => by cases h))⟩, [], List.mem_cons_self, fun f h => (by cases h)⟩
theorem rw_rjH0 {N : Int} {K : Nat → Nat} {n : Nat} {JX : (Nat → jcell) → Prop} : aGho (rH N K n) fa_T K n JX ag_rjH0 := by
  refine aGho_of ⟨rfl, rfl⟩ ?_
  intro p σ ρ hH hX hA hM0
  have hG := aAG_of hA.1 (fun i e v he hv => (hA.2 i e v he hv).1)
  clear hA
  obtain ⟨v0, v1, v2, v3, v4, rfl, g0, g1, g2, g3, g4⟩ := rA_5 hG
  clear hG
  obtain ⟨x0, rfl, b0, d0⟩ := rG_ref (by decide) g0
  obtain ⟨x1, rfl, b1, d1⟩ := aG_int g1
  dsimp only at b1 d1
  obtain ⟨x2, rfl, b2, d2⟩ := aG_int g2
  dsimp only at b2 d2
  obtain ⟨x3, rfl, b3, d3⟩ := aG_int g3
  dsimp only at b3 d3
  obtain ⟨x4, rfl, b4, d4⟩ := aG_int g4
  dsimp only at b4 d4
  obtain ⟨m1, m2, m3, m4⟩ := hM0
  obtain ⟨M, hM⟩ := rMe_ex hH b0 d0
  have l0 : 0 ≤ (1 * x2.toInt + (-2 * x3.toInt + 0)) + 0 := by
    obtain ⟨z, e6, e7⟩ := m3 ([(2, 1), (3, -2)], 0) (List.mem_of_getElem? (i := 0) rfl)
    obtain rfl : (1 * x2.toInt + (-2 * x3.toInt + 0)) = z := Option.some.inj (show some (1 * x2.toInt + (-2 * x3.toInt + 0)) = some z from e6)
    exact e7
  have l1 : 0 ≤ (-1 * x2.toInt + (2 * x3.toInt + 0)) + 0 := by
    obtain ⟨z, e6, e7⟩ := m3 ([(2, -1), (3, 2)], 0) (List.mem_of_getElem? (i := 1) rfl)
    obtain rfl : (-1 * x2.toInt + (2 * x3.toInt + 0)) = z := Option.some.inj (show some (-1 * x2.toInt + (2 * x3.toInt + 0)) = some z from e6)
    exact e7
  have f0 : rB3 N K n p 97 [rR x0, rI x1, rI x2, rI x4] σ := by
    obtain ⟨w, e6, e7⟩ := m4 (1556, [0, 1, 2, 4]) (List.mem_of_getElem? (i := 0) rfl)
    obtain rfl : [rR x0, rI x1, rI x2, rI x4] = w := Option.some.inj (show some [rR x0, rI x1, rI x2, rI x4] = some w from e6)
    exact (rF_b (r := 1556) (by decide) rfl).mp e7
  have f0 := ro3_97_4.mp f0
  clear m1 m2 m3 m4
  have q0 : rB3 N K n p 468 [rR x0, rI x3, rI x4] σ := ro3_468.mpr (by
    intro h9
    obtain ⟨g, r, h⟩ := f0 h9
    rw [show x1.toInt.toNat = 0 by omega, show x2.toInt.toNat = (2 * x3.toInt).toNat by omega] at h
    exact ⟨g, r, h⟩)
  exact ⟨p, fun _ => rfl, ⟨(fun q h => by cases h), fun q h => (by cases h), (fun f h => by cases h), (aAllc ⟨_, rfl, (rF_b (r := 7491) (by decide) rfl).mpr q0⟩ (fun f h => by cases h))⟩, [], List.mem_cons_self, fun f h => (by cases h)⟩
theorem rw_rjH1 {N : Int} {K : Nat → Nat} {n : Nat} {JX : (Nat → jcell) → Prop} : aGho (rH N K n) fa_T K n JX ag_rjH1 := by
  refine aGho_of ⟨rfl, rfl⟩ ?_
  intro p σ ρ hH hX hA hM0
  have hG := aAG_of hA.1 (fun i e v he hv => (hA.2 i e v he hv).1)
  clear hA
  obtain ⟨v0, v1, v2, v3, v4, rfl, g0, g1, g2, g3, g4⟩ := rA_5 hG
  clear hG
  obtain ⟨x0, rfl, b0, d0⟩ := rG_ref (by decide) g0
  obtain ⟨x1, rfl, b1, d1⟩ := rG_ref (by decide) g1
  obtain ⟨x2, rfl, b2, d2⟩ := aG_int g2
  dsimp only at b2 d2
  obtain ⟨x3, rfl, b3, d3⟩ := aG_int g3
  dsimp only at b3 d3
  obtain ⟨x4, rfl, b4, d4⟩ := aG_int g4
  dsimp only at b4 d4
  obtain ⟨m1, m2, m3, m4⟩ := hM0
  obtain ⟨M, hM⟩ := rMe_ex hH b0 d0
  obtain ⟨a0, c0, fs0, w0, e1, s0, t0, e4⟩ := m1 (0, 33, 1) (List.mem_of_getElem? (i := 0) rfl)
  obtain rfl : x0 = a0 := Sum.inl.inj (Option.some.inj (Sum.inr.inj (Sum.inr.inj (Option.some.inj (show some (rR x0) = some _ from e1)))))
  obtain rfl : rR x1 = w0 := Option.some.inj (show some (rR x1) = some w0 from e4)
  clear e1 e4
  have l0 : 0 ≤ (1 * x4.toInt + (-2 * x2.toInt + 0)) + 0 := by
    obtain ⟨z, e6, e7⟩ := m3 ([(4, 1), (2, -2)], 0) (List.mem_of_getElem? (i := 0) rfl)
    obtain rfl : (1 * x4.toInt + (-2 * x2.toInt + 0)) = z := Option.some.inj (show some (1 * x4.toInt + (-2 * x2.toInt + 0)) = some z from e6)
    exact e7
  have l1 : 0 ≤ (-1 * x4.toInt + (2 * x2.toInt + 0)) + 0 := by
    obtain ⟨z, e6, e7⟩ := m3 ([(4, -1), (2, 2)], 0) (List.mem_of_getElem? (i := 1) rfl)
    obtain rfl : (-1 * x4.toInt + (2 * x2.toInt + 0)) = z := Option.some.inj (show some (-1 * x4.toInt + (2 * x2.toInt + 0)) = some z from e6)
    exact e7
  have f0 : rB3 N K n p 468 [rR x0, rI x2, rI x3] σ := by
    obtain ⟨w, e6, e7⟩ := m4 (7491, [0, 2, 3]) (List.mem_of_getElem? (i := 0) rfl)
    obtain rfl : [rR x0, rI x2, rI x3] = w := Option.some.inj (show some [rR x0, rI x2, rI x3] = some w from e6)
    exact (rF_b (r := 7491) (by decide) rfl).mp e7
  have f0 := ro3_468.mp f0
  clear m1 m2 m3 m4
  have q0 : rB3 N K n p 96 [rR x1, rI x4] σ := ro3_96.mpr (by
    obtain ⟨g, ⟨r, o, r1, r2, r3⟩, h⟩ := f0 (by omega)
    cases rOb_u o ⟨b0, d0, _, _, s0, t0⟩
    rw [show (2 * x2.toInt).toNat = x4.toInt.toNat by omega] at h
    exact ⟨g, x0, Or.inr ⟨r1, r2, r3⟩, h⟩)
  exact ⟨p, fun _ => rfl, ⟨(fun q h => by cases h), fun q h => (by cases h), (fun f h => by cases h), (aAllc ⟨_, rfl, (rF_b (r := 1538) (by decide) rfl).mpr q0⟩ (fun f h => by cases h))⟩, [], List.mem_cons_self, fun f h => (by cases h)⟩
theorem rw_rjL0 {N : Int} {K : Nat → Nat} {n : Nat} {JX : (Nat → jcell) → Prop} : aGho (rH N K n) fa_T K n JX ag_rjL0 := by
  refine aGho_of ⟨rfl, rfl⟩ ?_
  intro p σ ρ hH hX hA hM0
  have hG := aAG_of hA.1 (fun i e v he hv => (hA.2 i e v he hv).1)
  clear hA
  obtain ⟨v0, v1, v2, v3, v4, rfl, g0, g1, g2, g3, g4⟩ := rA_5 hG
  clear hG
  obtain ⟨x0, rfl, b0, d0⟩ := rG_ref (by decide) g0
  obtain ⟨x1, rfl, b1, d1⟩ := rG_ref (by decide) g1
  obtain ⟨x2, rfl, b2, d2⟩ := aG_int g2
  dsimp only at b2 d2
  obtain ⟨x3, rfl, b3, d3⟩ := aG_int g3
  dsimp only at b3 d3
  obtain ⟨x4, rfl, b4, d4⟩ := aG_int g4
  dsimp only at b4 d4
  obtain ⟨m1, m2, m3, m4⟩ := hM0
  obtain ⟨M, hM⟩ := rMe_ex hH b0 d0
  obtain ⟨a, mc0, ty0, gc0, ic0, e1, sc0, jc0, e4, e5⟩ := m2 (1, ([], 0), 4) (List.mem_of_getElem? (i := 0) rfl)
  obtain rfl : x1 = a := Sum.inl.inj (Option.some.inj (Sum.inr.inj (Sum.inr.inj (Option.some.inj (show some (rR x1) = some _ from e1)))))
  obtain ⟨gc0, rfl⟩ : ∃ g, gc0 = .inl g := by
    rcases gc0 with g | g
    · exact ⟨g, rfl⟩
    · exact absurd (show some (rI x4) = some (.inr (.inl (g ic0))) from e5) (fun h => by cases h)
  have sc0 : σ x1 = .inl (ty0, mc0, .inl gc0) := sc0
  have ec0 : x4 = gc0 ic0 := Sum.inl.inj (Option.some.inj (show some (rI x4) = some _ from e5))
  have kc0 : (ic0 : Int) = 0 + 0 := by
    obtain ⟨z, e6, e7⟩ := e4
    obtain rfl : 0 = z := Option.some.inj (show some 0 = some z from e6)
    exact e7
  clear e1 e4 e5
  have l0 : 0 ≤ (1 * x2.toInt + 0) + -1 := by
    obtain ⟨z, e6, e7⟩ := m3 ([(2, 1)], -1) (List.mem_of_getElem? (i := 0) rfl)
    obtain rfl : (1 * x2.toInt + 0) = z := Option.some.inj (show some (1 * x2.toInt + 0) = some z from e6)
    exact e7
  have f0 : rB3 N K n p 96 [rR x1, rI x2] σ := by
    obtain ⟨w, e6, e7⟩ := m4 (1538, [1, 2]) (List.mem_of_getElem? (i := 0) rfl)
    obtain rfl : [rR x1, rI x2] = w := Option.some.inj (show some [rR x1, rI x2] = some w from e6)
    exact (rF_b (r := 1538) (by decide) rfl).mp e7
  have f0 := ro3_96.mp f0
  clear m1 m2 m3 m4
  obtain ⟨g, a, hr, hn⟩ := f0
  obtain ⟨g9, h9⟩ := rRw_of hH b1 d1 rfl
  obtain rfl : g = g9 := by
    rcases hr with hr | hr
    · have := hr.2.1; omega
    · exact rRw_u hr h9
  have e0 : g 0 = x4 := by
    have e := rRw_c (i := ic0) h9 sc0 ec0
    rw [show ic0 = 0 by omega] at e
    exact e
  have hn := rLn_ra (b := x0) hn
  rw [show x2.toInt.toNat = (x2.toInt.toNat - 1) + 1 by omega] at hn
  have hh := rLn_h hn e0
  have q0 : rB3 N K n p 25 [rI x4] σ := ro3_25.mpr (by
    exact hh.1)
  have q1 : rB3 N K n (rSh rS1 p [rR x0, rI x4]) 24 [] σ := ro3_24.mpr (by
    exact hh.2)
  have q2 : rB3 N K n p 480 [rR x1, rI x4] σ := ro3_480.mpr (by
    exact ⟨g, h9, by rw [e0]⟩)
  exact ⟨p, fun _ => rfl, ⟨(fun q h => by cases h), fun q h => (by cases h), (fun f h => by cases h), (aAllc ⟨_, rfl, (rF_b (r := 401) (by decide) rfl).mpr q0⟩ (aAllc ⟨_, rfl, (rF_g (r := 384) (by decide)).mpr q1⟩ (aAllc ⟨_, rfl, (rF_b (r := 7682) (by decide) rfl).mpr q2⟩ (fun f h => by cases h))))⟩, [], List.mem_cons_self, fun f h => (by cases h)⟩
theorem rw_rjL1 {N : Int} {K : Nat → Nat} {n : Nat} {JX : (Nat → jcell) → Prop} : aGho (rH N K n) fa_T K n JX ag_rjL1 := by
  refine aGho_of ⟨rfl, rfl⟩ ?_
  intro p σ ρ hH hX hA hM0
  have hG := aAG_of hA.1 (fun i e v he hv => (hA.2 i e v he hv).1)
  clear hA
  obtain ⟨v0, v1, v2, v3, v4, v5, rfl, g0, g1, g2, g3, g4, g5⟩ := rA_6 hG
  clear hG
  obtain ⟨x0, rfl, b0, d0⟩ := rG_ref (by decide) g0
  obtain ⟨x1, rfl, b1, d1⟩ := rG_ref (by decide) g1
  obtain ⟨x2, rfl, b2, d2⟩ := aG_int g2
  dsimp only at b2 d2
  obtain ⟨x3, rfl, b3, d3⟩ := aG_int g3
  dsimp only at b3 d3
  obtain ⟨x4, rfl, b4, d4⟩ := aG_int g4
  dsimp only at b4 d4
  obtain ⟨x5, rfl, b5, d5⟩ := aG_int g5
  dsimp only at b5 d5
  obtain ⟨m1, m2, m3, m4⟩ := hM0
  obtain ⟨M, hM⟩ := rMe_ex hH b0 d0
  obtain ⟨a, mc0, ty0, gc0, ic0, e1, sc0, jc0, e4, e5⟩ := m2 (1, ([], 1), 5) (List.mem_of_getElem? (i := 0) rfl)
  obtain rfl : x1 = a := Sum.inl.inj (Option.some.inj (Sum.inr.inj (Sum.inr.inj (Option.some.inj (show some (rR x1) = some _ from e1)))))
  obtain ⟨gc0, rfl⟩ : ∃ g, gc0 = .inl g := by
    rcases gc0 with g | g
    · exact ⟨g, rfl⟩
    · exact absurd (show some (rI x5) = some (.inr (.inl (g ic0))) from e5) (fun h => by cases h)
  have sc0 : σ x1 = .inl (ty0, mc0, .inl gc0) := sc0
  have ec0 : x5 = gc0 ic0 := Sum.inl.inj (Option.some.inj (show some (rI x5) = some _ from e5))
  have kc0 : (ic0 : Int) = 0 + 1 := by
    obtain ⟨z, e6, e7⟩ := e4
    obtain rfl : 0 = z := Option.some.inj (show some 0 = some z from e6)
    exact e7
  clear e1 e4 e5
  have l0 : 0 ≤ (1 * x2.toInt + 0) + -2 := by
    obtain ⟨z, e6, e7⟩ := m3 ([(2, 1)], -2) (List.mem_of_getElem? (i := 0) rfl)
    obtain rfl : (1 * x2.toInt + 0) = z := Option.some.inj (show some (1 * x2.toInt + 0) = some z from e6)
    exact e7
  have f0 : rB3 N K n p 96 [rR x1, rI x2] σ := by
    obtain ⟨w, e6, e7⟩ := m4 (1538, [1, 2]) (List.mem_of_getElem? (i := 0) rfl)
    obtain rfl : [rR x1, rI x2] = w := Option.some.inj (show some [rR x1, rI x2] = some w from e6)
    exact (rF_b (r := 1538) (by decide) rfl).mp e7
  have f0 := ro3_96.mp f0
  have f1 : rB3 N K n p 480 [rR x1, rI x4] σ := by
    obtain ⟨w, e6, e7⟩ := m4 (7682, [1, 4]) (List.mem_of_getElem? (i := 1) rfl)
    obtain rfl : [rR x1, rI x4] = w := Option.some.inj (show some [rR x1, rI x4] = some w from e6)
    exact (rF_b (r := 7682) (by decide) rfl).mp e7
  have f1 := ro3_480.mp f1
  clear m1 m2 m3 m4
  obtain ⟨g, a, hr, hn⟩ := f0
  obtain ⟨g9, h9⟩ := rRw_of hH b1 d1 rfl
  obtain rfl : g = g9 := by
    rcases hr with hr | hr
    · have := hr.2.1; omega
    · exact rRw_u hr h9
  have e1 : g 1 = x5 := by
    have e := rRw_c (i := ic0) h9 sc0 ec0
    rw [show ic0 = 1 by omega] at e
    exact e
  obtain ⟨u0, w0, k0⟩ := f1
  obtain rfl := rRw_u h9 w0
  have e0 : g 0 = x4 := Int32.toInt_inj.mp k0
  have hn := rLn_ra (b := x0) hn
  rw [show x2.toInt.toNat = (x2.toInt.toNat - 2) + 2 by omega] at hn
  have hh := rLn_h (rLn_d hn e0) e1
  have q0 : rB3 N K n (rSh rS1 p [rR x0, rI x4]) 25 [rI x5] σ := ro3_25.mpr (by
    exact hh.1)
  have q1 : rB3 N K n (rSh rS1 p [rR x0, rI x5, rR x0, rI x4]) 24 [] σ := ro3_24.mpr (by
    exact hh.2)
  have q2 : rB3 N K n p 481 [rR x1, rI x5] σ := ro3_481.mpr (by
    exact ⟨g, h9, by rw [e1]⟩)
  exact ⟨p, fun _ => rfl, ⟨(fun q h => by cases h), fun q h => (by cases h), (fun f h => by cases h), (aAllc ⟨_, rfl, (rF_g (r := 401) (by decide)).mpr q0⟩ (aAllc ⟨_, rfl, (rF_g (r := 384) (by decide)).mpr q1⟩ (aAllc ⟨_, rfl, (rF_b (r := 7698) (by decide) rfl).mpr q2⟩ (fun f h => by cases h))))⟩, [], List.mem_cons_self, fun f h => (by cases h)⟩
theorem rw_rjL2 {N : Int} {K : Nat → Nat} {n : Nat} {JX : (Nat → jcell) → Prop} : aGho (rH N K n) fa_T K n JX ag_rjL2 := by
  refine aGho_of ⟨rfl, rfl⟩ ?_
  intro p σ ρ hH hX hA hM0
  have hG := aAG_of hA.1 (fun i e v he hv => (hA.2 i e v he hv).1)
  clear hA
  obtain ⟨v0, v1, v2, v3, v4, v5, v6, rfl, g0, g1, g2, g3, g4, g5, g6⟩ := rA_7 hG
  clear hG
  obtain ⟨x0, rfl, b0, d0⟩ := rG_ref (by decide) g0
  obtain ⟨x1, rfl, b1, d1⟩ := rG_ref (by decide) g1
  obtain ⟨x2, rfl, b2, d2⟩ := aG_int g2
  dsimp only at b2 d2
  obtain ⟨x3, rfl, b3, d3⟩ := aG_int g3
  dsimp only at b3 d3
  obtain ⟨x4, rfl, b4, d4⟩ := aG_int g4
  dsimp only at b4 d4
  obtain ⟨x5, rfl, b5, d5⟩ := aG_int g5
  dsimp only at b5 d5
  obtain ⟨x6, rfl, b6, d6⟩ := aG_int g6
  dsimp only at b6 d6
  obtain ⟨m1, m2, m3, m4⟩ := hM0
  obtain ⟨M, hM⟩ := rMe_ex hH b0 d0
  obtain ⟨a, mc0, ty0, gc0, ic0, e1, sc0, jc0, e4, e5⟩ := m2 (1, ([], 2), 6) (List.mem_of_getElem? (i := 0) rfl)
  obtain rfl : x1 = a := Sum.inl.inj (Option.some.inj (Sum.inr.inj (Sum.inr.inj (Option.some.inj (show some (rR x1) = some _ from e1)))))
  obtain ⟨gc0, rfl⟩ : ∃ g, gc0 = .inl g := by
    rcases gc0 with g | g
    · exact ⟨g, rfl⟩
    · exact absurd (show some (rI x6) = some (.inr (.inl (g ic0))) from e5) (fun h => by cases h)
  have sc0 : σ x1 = .inl (ty0, mc0, .inl gc0) := sc0
  have ec0 : x6 = gc0 ic0 := Sum.inl.inj (Option.some.inj (show some (rI x6) = some _ from e5))
  have kc0 : (ic0 : Int) = 0 + 2 := by
    obtain ⟨z, e6, e7⟩ := e4
    obtain rfl : 0 = z := Option.some.inj (show some 0 = some z from e6)
    exact e7
  clear e1 e4 e5
  have l0 : 0 ≤ (1 * x2.toInt + 0) + -3 := by
    obtain ⟨z, e6, e7⟩ := m3 ([(2, 1)], -3) (List.mem_of_getElem? (i := 0) rfl)
    obtain rfl : (1 * x2.toInt + 0) = z := Option.some.inj (show some (1 * x2.toInt + 0) = some z from e6)
    exact e7
  have f0 : rB3 N K n p 96 [rR x1, rI x2] σ := by
    obtain ⟨w, e6, e7⟩ := m4 (1538, [1, 2]) (List.mem_of_getElem? (i := 0) rfl)
    obtain rfl : [rR x1, rI x2] = w := Option.some.inj (show some [rR x1, rI x2] = some w from e6)
    exact (rF_b (r := 1538) (by decide) rfl).mp e7
  have f0 := ro3_96.mp f0
  have f1 : rB3 N K n p 480 [rR x1, rI x4] σ := by
    obtain ⟨w, e6, e7⟩ := m4 (7682, [1, 4]) (List.mem_of_getElem? (i := 1) rfl)
    obtain rfl : [rR x1, rI x4] = w := Option.some.inj (show some [rR x1, rI x4] = some w from e6)
    exact (rF_b (r := 7682) (by decide) rfl).mp e7
  have f1 := ro3_480.mp f1
  have f2 : rB3 N K n p 481 [rR x1, rI x5] σ := by
    obtain ⟨w, e6, e7⟩ := m4 (7698, [1, 5]) (List.mem_of_getElem? (i := 2) rfl)
    obtain rfl : [rR x1, rI x5] = w := Option.some.inj (show some [rR x1, rI x5] = some w from e6)
    exact (rF_b (r := 7698) (by decide) rfl).mp e7
  have f2 := ro3_481.mp f2
  clear m1 m2 m3 m4
  obtain ⟨g, a, hr, hn⟩ := f0
  obtain ⟨g9, h9⟩ := rRw_of hH b1 d1 rfl
  obtain rfl : g = g9 := by
    rcases hr with hr | hr
    · have := hr.2.1; omega
    · exact rRw_u hr h9
  have e2 : g 2 = x6 := by
    have e := rRw_c (i := ic0) h9 sc0 ec0
    rw [show ic0 = 2 by omega] at e
    exact e
  obtain ⟨u0, w0, k0⟩ := f1
  obtain rfl := rRw_u h9 w0
  have e0 : g 0 = x4 := Int32.toInt_inj.mp k0
  obtain ⟨u1, w1, k1⟩ := f2
  obtain rfl := rRw_u h9 w1
  have e1 : g 1 = x5 := Int32.toInt_inj.mp k1
  have hn := rLn_ra (b := x0) hn
  rw [show x2.toInt.toNat = (x2.toInt.toNat - 3) + 3 by omega] at hn
  have hh := rLn_h (rLn_d (rLn_d hn e0) e1) e2
  have q0 : rB3 N K n (rSh rS1 p [rR x0, rI x5, rR x0, rI x4]) 25 [rI x6] σ := ro3_25.mpr (by
    exact hh.1)
  have q1 : rB3 N K n (rSh rS1 p [rR x0, rI x6, rR x0, rI x5, rR x0, rI x4]) 24 [] σ := ro3_24.mpr (by
    exact hh.2)
  have q2 : rB3 N K n p 482 [rR x1, rI x6] σ := ro3_482.mpr (by
    exact ⟨g, h9, by rw [e2]⟩)
  exact ⟨p, fun _ => rfl, ⟨(fun q h => by cases h), fun q h => (by cases h), (fun f h => by cases h), (aAllc ⟨_, rfl, (rF_g (r := 401) (by decide)).mpr q0⟩ (aAllc ⟨_, rfl, (rF_g (r := 384) (by decide)).mpr q1⟩ (aAllc ⟨_, rfl, (rF_b (r := 7714) (by decide) rfl).mpr q2⟩ (fun f h => by cases h))))⟩, [], List.mem_cons_self, fun f h => (by cases h)⟩
theorem rw_rjL3 {N : Int} {K : Nat → Nat} {n : Nat} {JX : (Nat → jcell) → Prop} : aGho (rH N K n) fa_T K n JX ag_rjL3 := by
  refine aGho_of ⟨rfl, rfl⟩ ?_
  intro p σ ρ hH hX hA hM0
  have hG := aAG_of hA.1 (fun i e v he hv => (hA.2 i e v he hv).1)
  clear hA
  obtain ⟨v0, v1, v2, v3, v4, v5, v6, v7, rfl, g0, g1, g2, g3, g4, g5, g6, g7⟩ := rA_8 hG
  clear hG
  obtain ⟨x0, rfl, b0, d0⟩ := rG_ref (by decide) g0
  obtain ⟨x1, rfl, b1, d1⟩ := rG_ref (by decide) g1
  obtain ⟨x2, rfl, b2, d2⟩ := aG_int g2
  dsimp only at b2 d2
  obtain ⟨x3, rfl, b3, d3⟩ := aG_int g3
  dsimp only at b3 d3
  obtain ⟨x4, rfl, b4, d4⟩ := aG_int g4
  dsimp only at b4 d4
  obtain ⟨x5, rfl, b5, d5⟩ := aG_int g5
  dsimp only at b5 d5
  obtain ⟨x6, rfl, b6, d6⟩ := aG_int g6
  dsimp only at b6 d6
  obtain ⟨x7, rfl, b7, d7⟩ := aG_int g7
  dsimp only at b7 d7
  obtain ⟨m1, m2, m3, m4⟩ := hM0
  obtain ⟨M, hM⟩ := rMe_ex hH b0 d0
  obtain ⟨a, mc0, ty0, gc0, ic0, e1, sc0, jc0, e4, e5⟩ := m2 (1, ([], 3), 7) (List.mem_of_getElem? (i := 0) rfl)
  obtain rfl : x1 = a := Sum.inl.inj (Option.some.inj (Sum.inr.inj (Sum.inr.inj (Option.some.inj (show some (rR x1) = some _ from e1)))))
  obtain ⟨gc0, rfl⟩ : ∃ g, gc0 = .inl g := by
    rcases gc0 with g | g
    · exact ⟨g, rfl⟩
    · exact absurd (show some (rI x7) = some (.inr (.inl (g ic0))) from e5) (fun h => by cases h)
  have sc0 : σ x1 = .inl (ty0, mc0, .inl gc0) := sc0
  have ec0 : x7 = gc0 ic0 := Sum.inl.inj (Option.some.inj (show some (rI x7) = some _ from e5))
  have kc0 : (ic0 : Int) = 0 + 3 := by
    obtain ⟨z, e6, e7⟩ := e4
    obtain rfl : 0 = z := Option.some.inj (show some 0 = some z from e6)
    exact e7
  clear e1 e4 e5
  have l0 : 0 ≤ (1 * x2.toInt + 0) + -4 := by
    obtain ⟨z, e6, e7⟩ := m3 ([(2, 1)], -4) (List.mem_of_getElem? (i := 0) rfl)
    obtain rfl : (1 * x2.toInt + 0) = z := Option.some.inj (show some (1 * x2.toInt + 0) = some z from e6)
    exact e7
  have f0 : rB3 N K n p 96 [rR x1, rI x2] σ := by
    obtain ⟨w, e6, e7⟩ := m4 (1538, [1, 2]) (List.mem_of_getElem? (i := 0) rfl)
    obtain rfl : [rR x1, rI x2] = w := Option.some.inj (show some [rR x1, rI x2] = some w from e6)
    exact (rF_b (r := 1538) (by decide) rfl).mp e7
  have f0 := ro3_96.mp f0
  have f1 : rB3 N K n p 480 [rR x1, rI x4] σ := by
    obtain ⟨w, e6, e7⟩ := m4 (7682, [1, 4]) (List.mem_of_getElem? (i := 1) rfl)
    obtain rfl : [rR x1, rI x4] = w := Option.some.inj (show some [rR x1, rI x4] = some w from e6)
    exact (rF_b (r := 7682) (by decide) rfl).mp e7
  have f1 := ro3_480.mp f1
  have f2 : rB3 N K n p 481 [rR x1, rI x5] σ := by
    obtain ⟨w, e6, e7⟩ := m4 (7698, [1, 5]) (List.mem_of_getElem? (i := 2) rfl)
    obtain rfl : [rR x1, rI x5] = w := Option.some.inj (show some [rR x1, rI x5] = some w from e6)
    exact (rF_b (r := 7698) (by decide) rfl).mp e7
  have f2 := ro3_481.mp f2
  have f3 : rB3 N K n p 482 [rR x1, rI x6] σ := by
    obtain ⟨w, e6, e7⟩ := m4 (7714, [1, 6]) (List.mem_of_getElem? (i := 3) rfl)
    obtain rfl : [rR x1, rI x6] = w := Option.some.inj (show some [rR x1, rI x6] = some w from e6)
    exact (rF_b (r := 7714) (by decide) rfl).mp e7
  have f3 := ro3_482.mp f3
  clear m1 m2 m3 m4
  obtain ⟨g, a, hr, hn⟩ := f0
  obtain ⟨g9, h9⟩ := rRw_of hH b1 d1 rfl
  obtain rfl : g = g9 := by
    rcases hr with hr | hr
    · have := hr.2.1; omega
    · exact rRw_u hr h9
  have e3 : g 3 = x7 := by
    have e := rRw_c (i := ic0) h9 sc0 ec0
    rw [show ic0 = 3 by omega] at e
    exact e
  obtain ⟨u0, w0, k0⟩ := f1
  obtain rfl := rRw_u h9 w0
  have e0 : g 0 = x4 := Int32.toInt_inj.mp k0
  obtain ⟨u1, w1, k1⟩ := f2
  obtain rfl := rRw_u h9 w1
  have e1 : g 1 = x5 := Int32.toInt_inj.mp k1
  obtain ⟨u2, w2, k2⟩ := f3
  obtain rfl := rRw_u h9 w2
  have e2 : g 2 = x6 := Int32.toInt_inj.mp k2
  have hn := rLn_ra (b := x0) hn
  rw [show x2.toInt.toNat = (x2.toInt.toNat - 4) + 4 by omega] at hn
  have hh := rLn_h (rLn_d (rLn_d (rLn_d hn e0) e1) e2) e3
  have q0 : rB3 N K n (rSh rS1 p [rR x0, rI x6, rR x0, rI x5, rR x0, rI x4]) 25 [rI x7] σ := ro3_25.mpr (by
    exact hh.1)
  have q1 : rB3 N K n (rSh rS1 p [rR x0, rI x7, rR x0, rI x6, rR x0, rI x5, rR x0, rI x4]) 24 [] σ := ro3_24.mpr (by
    exact hh.2)
  have q2 : rB3 N K n p 483 [rR x1, rI x7] σ := ro3_483.mpr (by
    exact ⟨g, h9, by rw [e3]⟩)
  exact ⟨p, fun _ => rfl, ⟨(fun q h => by cases h), fun q h => (by cases h), (fun f h => by cases h), (aAllc ⟨_, rfl, (rF_g (r := 401) (by decide)).mpr q0⟩ (aAllc ⟨_, rfl, (rF_g (r := 384) (by decide)).mpr q1⟩ (aAllc ⟨_, rfl, (rF_b (r := 7730) (by decide) rfl).mpr q2⟩ (fun f h => by cases h))))⟩, [], List.mem_cons_self, fun f h => (by cases h)⟩
theorem rw_rjRC0 {N : Int} {K : Nat → Nat} {n : Nat} {JX : (Nat → jcell) → Prop} : aGho (rH N K n) fa_T K n JX ag_rjRC0 := by
  refine aGho_of ⟨rfl, rfl⟩ ?_
  intro p σ ρ hH hX hA hM0
  have hG := aAG_of hA.1 (fun i e v he hv => (hA.2 i e v he hv).1)
  clear hA
  obtain ⟨v0, v1, v2, v3, rfl, g0, g1, g2, g3⟩ := rA_4 hG
  clear hG
  obtain ⟨x0, rfl, b0, d0⟩ := rG_ref (by decide) g0
  obtain ⟨x1, rfl, b1, d1⟩ := aG_int g1
  dsimp only at b1 d1
  obtain ⟨x2, rfl, b2, d2⟩ := aG_int g2
  dsimp only at b2 d2
  obtain ⟨x3, rfl, b3, d3⟩ := aG_int g3
  dsimp only at b3 d3
  obtain ⟨m1, m2, m3, m4⟩ := hM0
  obtain ⟨a, mc0, ty0, gc0, ic0, e1, sc0, jc0, e4, e5⟩ := m2 (0, ([(1, 1)], 0), 2) (List.mem_of_getElem? (i := 0) rfl)
  obtain rfl : x0 = a := Sum.inl.inj (Option.some.inj (Sum.inr.inj (Sum.inr.inj (Option.some.inj (show some (rR x0) = some _ from e1)))))
  obtain ⟨gc0, rfl⟩ : ∃ g, gc0 = .inl g := by
    rcases gc0 with g | g
    · exact ⟨g, rfl⟩
    · exact absurd (show some (rI x2) = some (.inr (.inl (g ic0))) from e5) (fun h => by cases h)
  have sc0 : σ x0 = .inl (ty0, mc0, .inl gc0) := sc0
  have ec0 : x2 = gc0 ic0 := Sum.inl.inj (Option.some.inj (show some (rI x2) = some _ from e5))
  have kc0 : (ic0 : Int) = (1 * x1.toInt + 0) + 0 := by
    obtain ⟨z, e6, e7⟩ := e4
    obtain rfl : (1 * x1.toInt + 0) = z := Option.some.inj (show some (1 * x1.toInt + 0) = some z from e6)
    exact e7
  clear e1 e4 e5
  have f0 : rB3 N K n p 480 [rR x0, rI x3] σ := by
    obtain ⟨w, e6, e7⟩ := m4 (7682, [0, 3]) (List.mem_of_getElem? (i := 0) rfl)
    obtain rfl : [rR x0, rI x3] = w := Option.some.inj (show some [rR x0, rI x3] = some w from e6)
    exact (rF_b (r := 7682) (by decide) rfl).mp e7
  have f0 := ro3_480.mp f0
  clear m1 m2 m3 m4
  have r0 : 0 ≤ (1 * x2.toInt + (-1 * x3.toInt + 0)) + 0 := by
    obtain ⟨g, h, e0⟩ := f0
    have e := rRw_c (i := ic0) h sc0 ec0
    rw [show ic0 = 0 by omega] at e
    rw [e] at e0
    omega
  have r1 : 0 ≤ (-1 * x2.toInt + (1 * x3.toInt + 0)) + 0 := by
    obtain ⟨g, h, e0⟩ := f0
    have e := rRw_c (i := ic0) h sc0 ec0
    rw [show ic0 = 0 by omega] at e
    rw [e] at e0
    omega
  exact ⟨p, fun _ => rfl, ⟨(fun q h => by cases h), fun q h => (by cases h), (aAllc ⟨_, rfl, r0⟩ (aAllc ⟨_, rfl, r1⟩ (fun f h => by cases h))), (fun f h => by cases h)⟩, [], List.mem_cons_self, fun f h => (by cases h)⟩
theorem rw_rjRC1 {N : Int} {K : Nat → Nat} {n : Nat} {JX : (Nat → jcell) → Prop} : aGho (rH N K n) fa_T K n JX ag_rjRC1 := by
  refine aGho_of ⟨rfl, rfl⟩ ?_
  intro p σ ρ hH hX hA hM0
  have hG := aAG_of hA.1 (fun i e v he hv => (hA.2 i e v he hv).1)
  clear hA
  obtain ⟨v0, v1, v2, v3, rfl, g0, g1, g2, g3⟩ := rA_4 hG
  clear hG
  obtain ⟨x0, rfl, b0, d0⟩ := rG_ref (by decide) g0
  obtain ⟨x1, rfl, b1, d1⟩ := aG_int g1
  dsimp only at b1 d1
  obtain ⟨x2, rfl, b2, d2⟩ := aG_int g2
  dsimp only at b2 d2
  obtain ⟨x3, rfl, b3, d3⟩ := aG_int g3
  dsimp only at b3 d3
  obtain ⟨m1, m2, m3, m4⟩ := hM0
  obtain ⟨a, mc0, ty0, gc0, ic0, e1, sc0, jc0, e4, e5⟩ := m2 (0, ([(1, 1)], 0), 2) (List.mem_of_getElem? (i := 0) rfl)
  obtain rfl : x0 = a := Sum.inl.inj (Option.some.inj (Sum.inr.inj (Sum.inr.inj (Option.some.inj (show some (rR x0) = some _ from e1)))))
  obtain ⟨gc0, rfl⟩ : ∃ g, gc0 = .inl g := by
    rcases gc0 with g | g
    · exact ⟨g, rfl⟩
    · exact absurd (show some (rI x2) = some (.inr (.inl (g ic0))) from e5) (fun h => by cases h)
  have sc0 : σ x0 = .inl (ty0, mc0, .inl gc0) := sc0
  have ec0 : x2 = gc0 ic0 := Sum.inl.inj (Option.some.inj (show some (rI x2) = some _ from e5))
  have kc0 : (ic0 : Int) = (1 * x1.toInt + 0) + 0 := by
    obtain ⟨z, e6, e7⟩ := e4
    obtain rfl : (1 * x1.toInt + 0) = z := Option.some.inj (show some (1 * x1.toInt + 0) = some z from e6)
    exact e7
  clear e1 e4 e5
  have f0 : rB3 N K n p 481 [rR x0, rI x3] σ := by
    obtain ⟨w, e6, e7⟩ := m4 (7698, [0, 3]) (List.mem_of_getElem? (i := 0) rfl)
    obtain rfl : [rR x0, rI x3] = w := Option.some.inj (show some [rR x0, rI x3] = some w from e6)
    exact (rF_b (r := 7698) (by decide) rfl).mp e7
  have f0 := ro3_481.mp f0
  clear m1 m2 m3 m4
  have r0 : 0 ≤ (1 * x2.toInt + (-1 * x3.toInt + 0)) + 0 := by
    obtain ⟨g, h, e0⟩ := f0
    have e := rRw_c (i := ic0) h sc0 ec0
    rw [show ic0 = 1 by omega] at e
    rw [e] at e0
    omega
  have r1 : 0 ≤ (-1 * x2.toInt + (1 * x3.toInt + 0)) + 0 := by
    obtain ⟨g, h, e0⟩ := f0
    have e := rRw_c (i := ic0) h sc0 ec0
    rw [show ic0 = 1 by omega] at e
    rw [e] at e0
    omega
  exact ⟨p, fun _ => rfl, ⟨(fun q h => by cases h), fun q h => (by cases h), (aAllc ⟨_, rfl, r0⟩ (aAllc ⟨_, rfl, r1⟩ (fun f h => by cases h))), (fun f h => by cases h)⟩, [], List.mem_cons_self, fun f h => (by cases h)⟩
theorem rw_rjRC2 {N : Int} {K : Nat → Nat} {n : Nat} {JX : (Nat → jcell) → Prop} : aGho (rH N K n) fa_T K n JX ag_rjRC2 := by
  refine aGho_of ⟨rfl, rfl⟩ ?_
  intro p σ ρ hH hX hA hM0
  have hG := aAG_of hA.1 (fun i e v he hv => (hA.2 i e v he hv).1)
  clear hA
  obtain ⟨v0, v1, v2, v3, rfl, g0, g1, g2, g3⟩ := rA_4 hG
  clear hG
  obtain ⟨x0, rfl, b0, d0⟩ := rG_ref (by decide) g0
  obtain ⟨x1, rfl, b1, d1⟩ := aG_int g1
  dsimp only at b1 d1
  obtain ⟨x2, rfl, b2, d2⟩ := aG_int g2
  dsimp only at b2 d2
  obtain ⟨x3, rfl, b3, d3⟩ := aG_int g3
  dsimp only at b3 d3
  obtain ⟨m1, m2, m3, m4⟩ := hM0
  obtain ⟨a, mc0, ty0, gc0, ic0, e1, sc0, jc0, e4, e5⟩ := m2 (0, ([(1, 1)], 0), 2) (List.mem_of_getElem? (i := 0) rfl)
  obtain rfl : x0 = a := Sum.inl.inj (Option.some.inj (Sum.inr.inj (Sum.inr.inj (Option.some.inj (show some (rR x0) = some _ from e1)))))
  obtain ⟨gc0, rfl⟩ : ∃ g, gc0 = .inl g := by
    rcases gc0 with g | g
    · exact ⟨g, rfl⟩
    · exact absurd (show some (rI x2) = some (.inr (.inl (g ic0))) from e5) (fun h => by cases h)
  have sc0 : σ x0 = .inl (ty0, mc0, .inl gc0) := sc0
  have ec0 : x2 = gc0 ic0 := Sum.inl.inj (Option.some.inj (show some (rI x2) = some _ from e5))
  have kc0 : (ic0 : Int) = (1 * x1.toInt + 0) + 0 := by
    obtain ⟨z, e6, e7⟩ := e4
    obtain rfl : (1 * x1.toInt + 0) = z := Option.some.inj (show some (1 * x1.toInt + 0) = some z from e6)
    exact e7
  clear e1 e4 e5
  have f0 : rB3 N K n p 482 [rR x0, rI x3] σ := by
    obtain ⟨w, e6, e7⟩ := m4 (7714, [0, 3]) (List.mem_of_getElem? (i := 0) rfl)
    obtain rfl : [rR x0, rI x3] = w := Option.some.inj (show some [rR x0, rI x3] = some w from e6)
    exact (rF_b (r := 7714) (by decide) rfl).mp e7
  have f0 := ro3_482.mp f0
  clear m1 m2 m3 m4
  have r0 : 0 ≤ (1 * x2.toInt + (-1 * x3.toInt + 0)) + 0 := by
    obtain ⟨g, h, e0⟩ := f0
    have e := rRw_c (i := ic0) h sc0 ec0
    rw [show ic0 = 2 by omega] at e
    rw [e] at e0
    omega
  have r1 : 0 ≤ (-1 * x2.toInt + (1 * x3.toInt + 0)) + 0 := by
    obtain ⟨g, h, e0⟩ := f0
    have e := rRw_c (i := ic0) h sc0 ec0
    rw [show ic0 = 2 by omega] at e
    rw [e] at e0
    omega
  exact ⟨p, fun _ => rfl, ⟨(fun q h => by cases h), fun q h => (by cases h), (aAllc ⟨_, rfl, r0⟩ (aAllc ⟨_, rfl, r1⟩ (fun f h => by cases h))), (fun f h => by cases h)⟩, [], List.mem_cons_self, fun f h => (by cases h)⟩
theorem rw_rjRC3 {N : Int} {K : Nat → Nat} {n : Nat} {JX : (Nat → jcell) → Prop} : aGho (rH N K n) fa_T K n JX ag_rjRC3 := by
  refine aGho_of ⟨rfl, rfl⟩ ?_
  intro p σ ρ hH hX hA hM0
  have hG := aAG_of hA.1 (fun i e v he hv => (hA.2 i e v he hv).1)
  clear hA
  obtain ⟨v0, v1, v2, v3, rfl, g0, g1, g2, g3⟩ := rA_4 hG
  clear hG
  obtain ⟨x0, rfl, b0, d0⟩ := rG_ref (by decide) g0
  obtain ⟨x1, rfl, b1, d1⟩ := aG_int g1
  dsimp only at b1 d1
  obtain ⟨x2, rfl, b2, d2⟩ := aG_int g2
  dsimp only at b2 d2
  obtain ⟨x3, rfl, b3, d3⟩ := aG_int g3
  dsimp only at b3 d3
  obtain ⟨m1, m2, m3, m4⟩ := hM0
  obtain ⟨a, mc0, ty0, gc0, ic0, e1, sc0, jc0, e4, e5⟩ := m2 (0, ([(1, 1)], 0), 2) (List.mem_of_getElem? (i := 0) rfl)
  obtain rfl : x0 = a := Sum.inl.inj (Option.some.inj (Sum.inr.inj (Sum.inr.inj (Option.some.inj (show some (rR x0) = some _ from e1)))))
  obtain ⟨gc0, rfl⟩ : ∃ g, gc0 = .inl g := by
    rcases gc0 with g | g
    · exact ⟨g, rfl⟩
    · exact absurd (show some (rI x2) = some (.inr (.inl (g ic0))) from e5) (fun h => by cases h)
  have sc0 : σ x0 = .inl (ty0, mc0, .inl gc0) := sc0
  have ec0 : x2 = gc0 ic0 := Sum.inl.inj (Option.some.inj (show some (rI x2) = some _ from e5))
  have kc0 : (ic0 : Int) = (1 * x1.toInt + 0) + 0 := by
    obtain ⟨z, e6, e7⟩ := e4
    obtain rfl : (1 * x1.toInt + 0) = z := Option.some.inj (show some (1 * x1.toInt + 0) = some z from e6)
    exact e7
  clear e1 e4 e5
  have f0 : rB3 N K n p 483 [rR x0, rI x3] σ := by
    obtain ⟨w, e6, e7⟩ := m4 (7730, [0, 3]) (List.mem_of_getElem? (i := 0) rfl)
    obtain rfl : [rR x0, rI x3] = w := Option.some.inj (show some [rR x0, rI x3] = some w from e6)
    exact (rF_b (r := 7730) (by decide) rfl).mp e7
  have f0 := ro3_483.mp f0
  clear m1 m2 m3 m4
  have r0 : 0 ≤ (1 * x2.toInt + (-1 * x3.toInt + 0)) + 0 := by
    obtain ⟨g, h, e0⟩ := f0
    have e := rRw_c (i := ic0) h sc0 ec0
    rw [show ic0 = 3 by omega] at e
    rw [e] at e0
    omega
  have r1 : 0 ≤ (-1 * x2.toInt + (1 * x3.toInt + 0)) + 0 := by
    obtain ⟨g, h, e0⟩ := f0
    have e := rRw_c (i := ic0) h sc0 ec0
    rw [show ic0 = 3 by omega] at e
    rw [e] at e0
    omega
  exact ⟨p, fun _ => rfl, ⟨(fun q h => by cases h), fun q h => (by cases h), (aAllc ⟨_, rfl, r0⟩ (aAllc ⟨_, rfl, r1⟩ (fun f h => by cases h))), (fun f h => by cases h)⟩, [], List.mem_cons_self, fun f h => (by cases h)⟩
theorem rw_rjK2 {N : Int} {K : Nat → Nat} {n : Nat} {JX : (Nat → jcell) → Prop} : aGho (rH N K n) fa_T K n JX ag_rjK2 := by
  refine aGho_of ⟨rfl, rfl⟩ ?_
  intro p σ ρ hH hX hA hM0
  have hG := aAG_of hA.1 (fun i e v he hv => (hA.2 i e v he hv).1)
  clear hA
  obtain ⟨v0, rfl, g0⟩ := rA_1 hG
  clear hG
  obtain ⟨x0, rfl, b0, d0⟩ := aG_int g0
  dsimp only at b0 d0
  obtain ⟨m1, m2, m3, m4⟩ := hM0
  clear m1 m2 m3 m4
  have hd : (0 ≤ (1 * x0.toInt + 0) + -1 ∧ 0 ≤ (-1 * x0.toInt + 0) + 1) ∨ (0 ≤ (1 * x0.toInt + 0) + -2 ∧ 0 ≤ (-1 * x0.toInt + 0) + 2) := by
    omega
  rcases hd with ⟨w0, w1⟩ | ⟨w0, w1⟩
  · exact ⟨p, fun _ => rfl, ⟨(fun q h => by cases h), fun q h => (by cases h), (fun f h => by cases h), (fun f h => by cases h)⟩, _, List.mem_of_getElem? (i := 0) rfl, (aAllc ⟨_, rfl, w0⟩ (aAllc ⟨_, rfl, w1⟩ (fun f h => by cases h)))⟩
  · exact ⟨p, fun _ => rfl, ⟨(fun q h => by cases h), fun q h => (by cases h), (fun f h => by cases h), (fun f h => by cases h)⟩, _, List.mem_of_getElem? (i := 1) rfl, (aAllc ⟨_, rfl, w0⟩ (aAllc ⟨_, rfl, w1⟩ (fun f h => by cases h)))⟩
theorem rw_rjF2 {N : Int} {K : Nat → Nat} {n : Nat} {JX : (Nat → jcell) → Prop} : aGho (rH N K n) fa_T K n JX ag_rjF2 := by
  refine aGho_of ⟨rfl, rfl⟩ ?_
  intro p σ ρ hH hX hA hM0
  have hG := aAG_of hA.1 (fun i e v he hv => (hA.2 i e v he hv).1)
  clear hA
  obtain ⟨v0, v1, rfl, g0, g1⟩ := rA_2 hG
  clear hG
  obtain ⟨x0, rfl, b0, d0⟩ := aG_int g0
  dsimp only at b0 d0
  obtain ⟨x1, rfl, b1, d1⟩ := aG_int g1
  dsimp only at b1 d1
  obtain ⟨m1, m2, m3, m4⟩ := hM0
  have l0 : 0 ≤ (1 * x1.toInt + (-1 * x0.toInt + 0)) + -8 := by
    obtain ⟨z, e6, e7⟩ := m3 ([(1, 1), (0, -1)], -8) (List.mem_of_getElem? (i := 0) rfl)
    obtain rfl : (1 * x1.toInt + (-1 * x0.toInt + 0)) = z := Option.some.inj (show some (1 * x1.toInt + (-1 * x0.toInt + 0)) = some z from e6)
    exact e7
  have l1 : 0 ≤ (-1 * x1.toInt + (1 * x0.toInt + 0)) + 8 := by
    obtain ⟨z, e6, e7⟩ := m3 ([(1, -1), (0, 1)], 8) (List.mem_of_getElem? (i := 1) rfl)
    obtain rfl : (-1 * x1.toInt + (1 * x0.toInt + 0)) = z := Option.some.inj (show some (-1 * x1.toInt + (1 * x0.toInt + 0)) = some z from e6)
    exact e7
  clear m1 m2 m3 m4
  have r0 : 0 ≤ (1 * x1.toInt + (-1 * x0.toInt + 0)) + -8 := by
    omega
  have r1 : 0 ≤ (-1 * x1.toInt + (1 * x0.toInt + 0)) + 8 := by
    omega
  exact ⟨p, fun _ => rfl, ⟨(fun q h => by cases h), fun q h => (by cases h), (aAllc ⟨_, rfl, r0⟩ (aAllc ⟨_, rfl, r1⟩ (fun f h => by cases h))), (fun f h => by cases h)⟩, [], List.mem_cons_self, fun f h => (by cases h)⟩
theorem rw_rjF3 {N : Int} {K : Nat → Nat} {n : Nat} {JX : (Nat → jcell) → Prop} : aGho (rH N K n) fa_T K n JX ag_rjF3 := by
  refine aGho_of ⟨rfl, rfl⟩ ?_
  intro p σ ρ hH hX hA hM0
  have hG := aAG_of hA.1 (fun i e v he hv => (hA.2 i e v he hv).1)
  clear hA
  obtain ⟨v0, v1, rfl, g0, g1⟩ := rA_2 hG
  clear hG
  obtain ⟨x0, rfl, b0, d0⟩ := aG_int g0
  dsimp only at b0 d0
  obtain ⟨x1, rfl, b1, d1⟩ := aG_int g1
  dsimp only at b1 d1
  obtain ⟨m1, m2, m3, m4⟩ := hM0
  have l0 : 0 ≤ (1 * x1.toInt + (-1 * x0.toInt + 0)) + -12 := by
    obtain ⟨z, e6, e7⟩ := m3 ([(1, 1), (0, -1)], -12) (List.mem_of_getElem? (i := 0) rfl)
    obtain rfl : (1 * x1.toInt + (-1 * x0.toInt + 0)) = z := Option.some.inj (show some (1 * x1.toInt + (-1 * x0.toInt + 0)) = some z from e6)
    exact e7
  have l1 : 0 ≤ (-1 * x1.toInt + (1 * x0.toInt + 0)) + 12 := by
    obtain ⟨z, e6, e7⟩ := m3 ([(1, -1), (0, 1)], 12) (List.mem_of_getElem? (i := 1) rfl)
    obtain rfl : (-1 * x1.toInt + (1 * x0.toInt + 0)) = z := Option.some.inj (show some (-1 * x1.toInt + (1 * x0.toInt + 0)) = some z from e6)
    exact e7
  clear m1 m2 m3 m4
  have r0 : 0 ≤ (1 * x1.toInt + (-1 * x0.toInt + 0)) + -12 := by
    omega
  have r1 : 0 ≤ (-1 * x1.toInt + (1 * x0.toInt + 0)) + 12 := by
    omega
  exact ⟨p, fun _ => rfl, ⟨(fun q h => by cases h), fun q h => (by cases h), (aAllc ⟨_, rfl, r0⟩ (aAllc ⟨_, rfl, r1⟩ (fun f h => by cases h))), (fun f h => by cases h)⟩, [], List.mem_cons_self, fun f h => (by cases h)⟩
theorem rw_rjF4 {N : Int} {K : Nat → Nat} {n : Nat} {JX : (Nat → jcell) → Prop} : aGho (rH N K n) fa_T K n JX ag_rjF4 := by
  refine aGho_of ⟨rfl, rfl⟩ ?_
  intro p σ ρ hH hX hA hM0
  have hG := aAG_of hA.1 (fun i e v he hv => (hA.2 i e v he hv).1)
  clear hA
  obtain ⟨v0, v1, rfl, g0, g1⟩ := rA_2 hG
  clear hG
  obtain ⟨x0, rfl, b0, d0⟩ := aG_int g0
  dsimp only at b0 d0
  obtain ⟨x1, rfl, b1, d1⟩ := aG_int g1
  dsimp only at b1 d1
  obtain ⟨m1, m2, m3, m4⟩ := hM0
  have l0 : 0 ≤ (1 * x1.toInt + (-1 * x0.toInt + 0)) + -16 := by
    obtain ⟨z, e6, e7⟩ := m3 ([(1, 1), (0, -1)], -16) (List.mem_of_getElem? (i := 0) rfl)
    obtain rfl : (1 * x1.toInt + (-1 * x0.toInt + 0)) = z := Option.some.inj (show some (1 * x1.toInt + (-1 * x0.toInt + 0)) = some z from e6)
    exact e7
  have l1 : 0 ≤ (-1 * x1.toInt + (1 * x0.toInt + 0)) + 16 := by
    obtain ⟨z, e6, e7⟩ := m3 ([(1, -1), (0, 1)], 16) (List.mem_of_getElem? (i := 1) rfl)
    obtain rfl : (-1 * x1.toInt + (1 * x0.toInt + 0)) = z := Option.some.inj (show some (-1 * x1.toInt + (1 * x0.toInt + 0)) = some z from e6)
    exact e7
  clear m1 m2 m3 m4
  have r0 : 0 ≤ (1 * x1.toInt + (-1 * x0.toInt + 0)) + -16 := by
    omega
  have r1 : 0 ≤ (-1 * x1.toInt + (1 * x0.toInt + 0)) + 16 := by
    omega
  exact ⟨p, fun _ => rfl, ⟨(fun q h => by cases h), fun q h => (by cases h), (aAllc ⟨_, rfl, r0⟩ (aAllc ⟨_, rfl, r1⟩ (fun f h => by cases h))), (fun f h => by cases h)⟩, [], List.mem_cons_self, fun f h => (by cases h)⟩
theorem rw_rjF5 {N : Int} {K : Nat → Nat} {n : Nat} {JX : (Nat → jcell) → Prop} : aGho (rH N K n) fa_T K n JX ag_rjF5 := by
  refine aGho_of ⟨rfl, rfl⟩ ?_
  intro p σ ρ hH hX hA hM0
  have hG := aAG_of hA.1 (fun i e v he hv => (hA.2 i e v he hv).1)
  clear hA
  obtain ⟨v0, v1, rfl, g0, g1⟩ := rA_2 hG
  clear hG
  obtain ⟨x0, rfl, b0, d0⟩ := aG_int g0
  dsimp only at b0 d0
  obtain ⟨x1, rfl, b1, d1⟩ := aG_int g1
  dsimp only at b1 d1
  obtain ⟨m1, m2, m3, m4⟩ := hM0
  have l0 : 0 ≤ (1 * x1.toInt + (-1 * x0.toInt + 0)) + -20 := by
    obtain ⟨z, e6, e7⟩ := m3 ([(1, 1), (0, -1)], -20) (List.mem_of_getElem? (i := 0) rfl)
    obtain rfl : (1 * x1.toInt + (-1 * x0.toInt + 0)) = z := Option.some.inj (show some (1 * x1.toInt + (-1 * x0.toInt + 0)) = some z from e6)
    exact e7
  have l1 : 0 ≤ (-1 * x1.toInt + (1 * x0.toInt + 0)) + 20 := by
    obtain ⟨z, e6, e7⟩ := m3 ([(1, -1), (0, 1)], 20) (List.mem_of_getElem? (i := 1) rfl)
    obtain rfl : (-1 * x1.toInt + (1 * x0.toInt + 0)) = z := Option.some.inj (show some (-1 * x1.toInt + (1 * x0.toInt + 0)) = some z from e6)
    exact e7
  clear m1 m2 m3 m4
  have r0 : 0 ≤ (1 * x1.toInt + (-1 * x0.toInt + 0)) + -20 := by
    omega
  have r1 : 0 ≤ (-1 * x1.toInt + (1 * x0.toInt + 0)) + 20 := by
    omega
  exact ⟨p, fun _ => rfl, ⟨(fun q h => by cases h), fun q h => (by cases h), (aAllc ⟨_, rfl, r0⟩ (aAllc ⟨_, rfl, r1⟩ (fun f h => by cases h))), (fun f h => by cases h)⟩, [], List.mem_cons_self, fun f h => (by cases h)⟩
theorem rw_rkY0 {N : Int} {K : Nat → Nat} {n : Nat} {JX : (Nat → jcell) → Prop} : aGho (rH N K n) fa_T K n JX ag_rkY0 := by
  refine aGho_of ⟨rfl, rfl⟩ ?_
  intro p σ ρ hH hX hA hM0
  have hG := aAG_of hA.1 (fun i e v he hv => (hA.2 i e v he hv).1)
  clear hA
  obtain ⟨v0, v1, rfl, g0, g1⟩ := rA_2 hG
  clear hG
  obtain ⟨x0, rfl⟩ := aG_lng g0
  obtain ⟨x1, rfl, b1, d1⟩ := aG_int g1
  dsimp only at b1 d1
  obtain ⟨m1, m2, m3, m4⟩ := hM0
  have l0 : 0 ≤ (1 * x0.toInt + 0) + -1 := by
    obtain ⟨z, e6, e7⟩ := m3 ([(0, 1)], -1) (List.mem_of_getElem? (i := 0) rfl)
    obtain rfl : (1 * x0.toInt + 0) = z := Option.some.inj (show some (1 * x0.toInt + 0) = some z from e6)
    exact e7
  have l1 : 0 ≤ (-1 * x0.toInt + 0) + 1 := by
    obtain ⟨z, e6, e7⟩ := m3 ([(0, -1)], 1) (List.mem_of_getElem? (i := 1) rfl)
    obtain rfl : (-1 * x0.toInt + 0) = z := Option.some.inj (show some (-1 * x0.toInt + 0) = some z from e6)
    exact e7
  clear m1 m2 m3 m4
  have q0 : rB3 N K n p 493 [rL x0, rI x1] σ := ro3_493.mpr (by
    rw [show x1.toInt.toNat = 0 by omega, show (2048 : Int) ^ 0 = 1 from rfl]
    exact ⟨by omega, by omega⟩)
  exact ⟨p, fun _ => rfl, ⟨(fun q h => by cases h), fun q h => (by cases h), (fun f h => by cases h), (aAllc ⟨_, rfl, (rF_b (r := 7890) (by decide) rfl).mpr q0⟩ (fun f h => by cases h))⟩, [], List.mem_cons_self, fun f h => (by cases h)⟩
theorem rw_rkY1 {N : Int} {K : Nat → Nat} {n : Nat} {JX : (Nat → jcell) → Prop} : aGho (rH N K n) fa_T K n JX ag_rkY1 := by
  refine aGho_of ⟨rfl, rfl⟩ ?_
  intro p σ ρ hH hX hA hM0
  have hG := aAG_of hA.1 (fun i e v he hv => (hA.2 i e v he hv).1)
  clear hA
  obtain ⟨v0, v1, v2, rfl, g0, g1, g2⟩ := rA_3 hG
  clear hG
  obtain ⟨x0, rfl⟩ := aG_lng g0
  obtain ⟨x1, rfl, b1, d1⟩ := aG_int g1
  dsimp only at b1 d1
  obtain ⟨x2, rfl, b2, d2⟩ := aG_int g2
  dsimp only at b2 d2
  obtain ⟨m1, m2, m3, m4⟩ := hM0
  have l0 : 0 ≤ (1 * x0.toInt + 0) + 0 := by
    obtain ⟨z, e6, e7⟩ := m3 ([(0, 1)], 0) (List.mem_of_getElem? (i := 0) rfl)
    obtain rfl : (1 * x0.toInt + 0) = z := Option.some.inj (show some (1 * x0.toInt + 0) = some z from e6)
    exact e7
  have l1 : 0 ≤ (-1 * x0.toInt + 0) + 0 := by
    obtain ⟨z, e6, e7⟩ := m3 ([(0, -1)], 0) (List.mem_of_getElem? (i := 1) rfl)
    obtain rfl : (-1 * x0.toInt + 0) = z := Option.some.inj (show some (-1 * x0.toInt + 0) = some z from e6)
    exact e7
  clear m1 m2 m3 m4
  have q0 : rB3 N K n p 494 [rL x0, rI x1, rI x2] σ := ro3_494.mpr (by
    rw [show x1.toInt = 0 by omega, Int.zero_mul]
    exact ⟨by omega, by omega⟩)
  exact ⟨p, fun _ => rfl, ⟨(fun q h => by cases h), fun q h => (by cases h), (fun f h => by cases h), (aAllc ⟨_, rfl, (rF_b (r := 7907) (by decide) rfl).mpr q0⟩ (fun f h => by cases h))⟩, [], List.mem_cons_self, fun f h => (by cases h)⟩
theorem rw_rkY2 {N : Int} {K : Nat → Nat} {n : Nat} {JX : (Nat → jcell) → Prop} : aGho (rH N K n) fa_T K n JX ag_rkY2 := by
  refine aGho_of ⟨rfl, rfl⟩ ?_
  intro p σ ρ hH hX hA hM0
  have hG := aAG_of hA.1 (fun i e v he hv => (hA.2 i e v he hv).1)
  clear hA
  obtain ⟨v0, v1, v2, v3, v4, v5, v6, v7, rfl, g0, g1, g2, g3, g4, g5, g6, g7⟩ := rA_8 hG
  clear hG
  obtain ⟨x0, rfl⟩ := aG_lng g0
  obtain ⟨x1, rfl, b1, d1⟩ := aG_int g1
  dsimp only at b1 d1
  obtain ⟨x2, rfl, b2, d2⟩ := aG_int g2
  dsimp only at b2 d2
  obtain ⟨x3, rfl⟩ := aG_lng g3
  obtain ⟨x4, rfl, b4, d4⟩ := aG_int g4
  dsimp only at b4 d4
  obtain ⟨x5, rfl⟩ := aG_lng g5
  obtain ⟨x6, rfl, b6, d6⟩ := rG_ref (by decide) g6
  obtain ⟨x7, rfl, b7, d7⟩ := aG_int g7
  dsimp only at b7 d7
  obtain ⟨m1, m2, m3, m4⟩ := hM0
  obtain ⟨M, hM⟩ := rMe_ex hH b6 d6
  have l0 : 0 ≤ (1 * x4.toInt + (-1 * x2.toInt + 0)) + 1 := by
    obtain ⟨z, e6, e7⟩ := m3 ([(4, 1), (2, -1)], 1) (List.mem_of_getElem? (i := 0) rfl)
    obtain rfl : (1 * x4.toInt + (-1 * x2.toInt + 0)) = z := Option.some.inj (show some (1 * x4.toInt + (-1 * x2.toInt + 0)) = some z from e6)
    exact e7
  have l1 : 0 ≤ (-1 * x4.toInt + (1 * x2.toInt + 0)) + -1 := by
    obtain ⟨z, e6, e7⟩ := m3 ([(4, -1), (2, 1)], -1) (List.mem_of_getElem? (i := 1) rfl)
    obtain rfl : (-1 * x4.toInt + (1 * x2.toInt + 0)) = z := Option.some.inj (show some (-1 * x4.toInt + (1 * x2.toInt + 0)) = some z from e6)
    exact e7
  have f0 : rB3 N K n p 494 [rL x0, rI x1, rI x2] σ := by
    obtain ⟨w, e6, e7⟩ := m4 (7907, [0, 1, 2]) (List.mem_of_getElem? (i := 0) rfl)
    obtain rfl : [rL x0, rI x1, rI x2] = w := Option.some.inj (show some [rL x0, rI x1, rI x2] = some w from e6)
    exact (rF_b (r := 7907) (by decide) rfl).mp e7
  have f0 := ro3_494.mp f0
  have f1 : rB3 N K n (rSh rS1 p [rR x6, rI x7]) 493 [rL x3, rI x4] σ := by
    obtain ⟨w, e6, e7⟩ := m4 (7890, [3, 4, 6, 7]) (List.mem_of_getElem? (i := 1) rfl)
    obtain rfl : [rL x3, rI x4, rR x6, rI x7] = w := Option.some.inj (show some [rL x3, rI x4, rR x6, rI x7] = some w from e6)
    exact (rF_g (r := 7890) (by decide)).mp e7
  have f1 := ro3_493.mp f1
  have f2 : rB3 N K n p 108 [rL x0, rL x3, rL x5] σ := by
    obtain ⟨w, e6, e7⟩ := m4 (1731, [0, 3, 5]) (List.mem_of_getElem? (i := 2) rfl)
    obtain rfl : [rL x0, rL x3, rL x5] = w := Option.some.inj (show some [rL x0, rL x3, rL x5] = some w from e6)
    exact (rF_b (r := 1731) (by decide) rfl).mp e7
  have f2 : x5 = x0 + x3 := Sum.inl.inj (Sum.inr.inj (ro3_108.mp f2))
  clear m1 m2 m3 m4
  have q0 : rB3 N K n p 495 [rL x5, rI x1, rI x2] σ := ro3_495.mpr (by
    obtain ⟨h1, h2⟩ := f0
    obtain ⟨h3, h4⟩ := f1
    have e : x5.toInt = (x0.toInt + x3.toInt).bmod (2 ^ 64) := by rw [f2]; exact Int64.toInt_add _ _
    rcases (show x4.toInt = 0 ∨ x4.toInt = 1 ∨ x4.toInt = 2 by omega) with h | h | h
    · rw [show (x2.toInt - 1).toNat = 0 by omega, show (2048 : Int) ^ 0 = 1 from rfl] at h2 ⊢
      rw [show x4.toInt.toNat = 0 by omega, show (2048 : Int) ^ 0 = 1 from rfl] at h4
      rw [Int.bmod_eq_of_le (by omega) (by omega)] at e
      exact ⟨by omega, by omega⟩
    · rw [show (x2.toInt - 1).toNat = 1 by omega, show (2048 : Int) ^ 1 = 2048 from rfl] at h2 ⊢
      rw [show x4.toInt.toNat = 1 by omega, show (2048 : Int) ^ 1 = 2048 from rfl] at h4
      rw [Int.bmod_eq_of_le (by omega) (by omega)] at e
      exact ⟨by omega, by omega⟩
    · rw [show (x2.toInt - 1).toNat = 2 by omega, show (2048 : Int) ^ 2 = 4194304 from rfl] at h2 ⊢
      rw [show x4.toInt.toNat = 2 by omega, show (2048 : Int) ^ 2 = 4194304 from rfl] at h4
      rw [Int.bmod_eq_of_le (by omega) (by omega)] at e
      exact ⟨by omega, by omega⟩)
  exact ⟨p, fun _ => rfl, ⟨(fun q h => by cases h), fun q h => (by cases h), (fun f h => by cases h), (aAllc ⟨_, rfl, (rF_b (r := 7923) (by decide) rfl).mpr q0⟩ (fun f h => by cases h))⟩, [], List.mem_cons_self, fun f h => (by cases h)⟩
theorem rw_rkY3 {N : Int} {K : Nat → Nat} {n : Nat} {JX : (Nat → jcell) → Prop} : aGho (rH N K n) fa_T K n JX ag_rkY3 := by
  refine aGho_of ⟨rfl, rfl⟩ ?_
  intro p σ ρ hH hX hA hM0
  have hG := aAG_of hA.1 (fun i e v he hv => (hA.2 i e v he hv).1)
  clear hA
  obtain ⟨v0, v1, v2, v3, rfl, g0, g1, g2, g3⟩ := rA_4 hG
  clear hG
  obtain ⟨x0, rfl⟩ := aG_lng g0
  obtain ⟨x1, rfl, b1, d1⟩ := aG_int g1
  dsimp only at b1 d1
  obtain ⟨x2, rfl, b2, d2⟩ := aG_int g2
  dsimp only at b2 d2
  obtain ⟨x3, rfl, b3, d3⟩ := aG_int g3
  dsimp only at b3 d3
  obtain ⟨m1, m2, m3, m4⟩ := hM0
  have l0 : 0 ≤ (1 * x3.toInt + (-1 * x1.toInt + 0)) + -1 := by
    obtain ⟨z, e6, e7⟩ := m3 ([(3, 1), (1, -1)], -1) (List.mem_of_getElem? (i := 0) rfl)
    obtain rfl : (1 * x3.toInt + (-1 * x1.toInt + 0)) = z := Option.some.inj (show some (1 * x3.toInt + (-1 * x1.toInt + 0)) = some z from e6)
    exact e7
  have l1 : 0 ≤ (-1 * x3.toInt + (1 * x1.toInt + 0)) + 1 := by
    obtain ⟨z, e6, e7⟩ := m3 ([(3, -1), (1, 1)], 1) (List.mem_of_getElem? (i := 1) rfl)
    obtain rfl : (-1 * x3.toInt + (1 * x1.toInt + 0)) = z := Option.some.inj (show some (-1 * x3.toInt + (1 * x1.toInt + 0)) = some z from e6)
    exact e7
  have f0 : rB3 N K n p 495 [rL x0, rI x1, rI x2] σ := by
    obtain ⟨w, e6, e7⟩ := m4 (7923, [0, 1, 2]) (List.mem_of_getElem? (i := 0) rfl)
    obtain rfl : [rL x0, rI x1, rI x2] = w := Option.some.inj (show some [rL x0, rI x1, rI x2] = some w from e6)
    exact (rF_b (r := 7923) (by decide) rfl).mp e7
  have f0 := ro3_495.mp f0
  clear m1 m2 m3 m4
  have q0 : rB3 N K n p 494 [rL x0, rI x3, rI x2] σ := ro3_494.mpr (by
    rw [show x3.toInt = x1.toInt + 1 by omega]
    exact f0)
  exact ⟨p, fun _ => rfl, ⟨(fun q h => by cases h), fun q h => (by cases h), (fun f h => by cases h), (aAllc ⟨_, rfl, (rF_b (r := 7907) (by decide) rfl).mpr q0⟩ (fun f h => by cases h))⟩, [], List.mem_cons_self, fun f h => (by cases h)⟩
theorem rw_rkY4 {N : Int} {K : Nat → Nat} {n : Nat} {JX : (Nat → jcell) → Prop} : aGho (rH N K n) fa_T K n JX ag_rkY4 := by
  refine aGho_of ⟨rfl, rfl⟩ ?_
  intro p σ ρ hH hX hA hM0
  have hG := aAG_of hA.1 (fun i e v he hv => (hA.2 i e v he hv).1)
  clear hA
  obtain ⟨v0, v1, v2, rfl, g0, g1, g2⟩ := rA_3 hG
  clear hG
  obtain ⟨x0, rfl⟩ := aG_lng g0
  obtain ⟨x1, rfl, b1, d1⟩ := aG_int g1
  dsimp only at b1 d1
  obtain ⟨x2, rfl, b2, d2⟩ := aG_int g2
  dsimp only at b2 d2
  obtain ⟨m1, m2, m3, m4⟩ := hM0
  have f0 : rB3 N K n p 494 [rL x0, rI x1, rI x2] σ := by
    obtain ⟨w, e6, e7⟩ := m4 (7907, [0, 1, 2]) (List.mem_of_getElem? (i := 0) rfl)
    obtain rfl : [rL x0, rI x1, rI x2] = w := Option.some.inj (show some [rL x0, rI x1, rI x2] = some w from e6)
    exact (rF_b (r := 7907) (by decide) rfl).mp e7
  have f0 := ro3_494.mp f0
  clear m1 m2 m3 m4
  have q0 : rB3 N K n p 493 [rL x0, rI x2] σ := ro3_493.mpr (by
    obtain ⟨h1, h2⟩ := f0
    rcases (show x2.toInt = 1 ∨ x2.toInt = 2 ∨ x2.toInt = 3 by omega) with h | h | h
    · rw [show (x2.toInt - 1).toNat = 0 by omega, show (2048 : Int) ^ 0 = 1 from rfl] at h2
      rw [show x2.toInt.toNat = 1 by omega, show (2048 : Int) ^ 1 = 2048 from rfl]
      exact ⟨by omega, by omega⟩
    · rw [show (x2.toInt - 1).toNat = 1 by omega, show (2048 : Int) ^ 1 = 2048 from rfl] at h2
      rw [show x2.toInt.toNat = 2 by omega, show (2048 : Int) ^ 2 = 4194304 from rfl]
      exact ⟨by omega, by omega⟩
    · rw [show (x2.toInt - 1).toNat = 2 by omega, show (2048 : Int) ^ 2 = 4194304 from rfl] at h2
      rw [show x2.toInt.toNat = 3 by omega, show (2048 : Int) ^ 3 = 8589934592 from rfl]
      exact ⟨by omega, by omega⟩)
  exact ⟨p, fun _ => rfl, ⟨(fun q h => by cases h), fun q h => (by cases h), (fun f h => by cases h), (aAllc ⟨_, rfl, (rF_b (r := 7890) (by decide) rfl).mpr q0⟩ (fun f h => by cases h))⟩, [], List.mem_cons_self, fun f h => (by cases h)⟩
theorem rw_rkY5 {N : Int} {K : Nat → Nat} {n : Nat} {JX : (Nat → jcell) → Prop} : aGho (rH N K n) fa_T K n JX ag_rkY5 := by
  refine aGho_of ⟨rfl, rfl⟩ ?_
  intro p σ ρ hH hX hA hM0
  have hG := aAG_of hA.1 (fun i e v he hv => (hA.2 i e v he hv).1)
  clear hA
  obtain ⟨v0, v1, rfl, g0, g1⟩ := rA_2 hG
  clear hG
  obtain ⟨x0, rfl⟩ := aG_lng g0
  obtain ⟨x1, rfl, b1, d1⟩ := aG_int g1
  dsimp only at b1 d1
  obtain ⟨m1, m2, m3, m4⟩ := hM0
  have f0 : rB3 N K n p 493 [rL x0, rI x1] σ := by
    obtain ⟨w, e6, e7⟩ := m4 (7890, [0, 1]) (List.mem_of_getElem? (i := 0) rfl)
    obtain rfl : [rL x0, rI x1] = w := Option.some.inj (show some [rL x0, rI x1] = some w from e6)
    exact (rF_b (r := 7890) (by decide) rfl).mp e7
  have f0 := ro3_493.mp f0
  clear m1 m2 m3 m4
  have r0 : 0 ≤ (1 * x0.toInt + 0) + 999999999999999999 := by
    obtain ⟨h1, h2⟩ := f0
    rcases (show x1.toInt = 0 ∨ x1.toInt = 1 ∨ x1.toInt = 2 ∨ x1.toInt = 3 by omega) with h | h | h | h
    · rw [show x1.toInt.toNat = 0 by omega, show (2048 : Int) ^ 0 = 1 from rfl] at h2
      omega
    · rw [show x1.toInt.toNat = 1 by omega, show (2048 : Int) ^ 1 = 2048 from rfl] at h2
      omega
    · rw [show x1.toInt.toNat = 2 by omega, show (2048 : Int) ^ 2 = 4194304 from rfl] at h2
      omega
    · rw [show x1.toInt.toNat = 3 by omega, show (2048 : Int) ^ 3 = 8589934592 from rfl] at h2
      omega
  have r1 : 0 ≤ (-1 * x0.toInt + 0) + 999999999999999999 := by
    obtain ⟨h1, h2⟩ := f0
    rcases (show x1.toInt = 0 ∨ x1.toInt = 1 ∨ x1.toInt = 2 ∨ x1.toInt = 3 by omega) with h | h | h | h
    · rw [show x1.toInt.toNat = 0 by omega, show (2048 : Int) ^ 0 = 1 from rfl] at h2
      omega
    · rw [show x1.toInt.toNat = 1 by omega, show (2048 : Int) ^ 1 = 2048 from rfl] at h2
      omega
    · rw [show x1.toInt.toNat = 2 by omega, show (2048 : Int) ^ 2 = 4194304 from rfl] at h2
      omega
    · rw [show x1.toInt.toNat = 3 by omega, show (2048 : Int) ^ 3 = 8589934592 from rfl] at h2
      omega
  exact ⟨p, fun _ => rfl, ⟨(fun q h => by cases h), fun q h => (by cases h), (aAllc ⟨_, rfl, r0⟩ (aAllc ⟨_, rfl, r1⟩ (fun f h => by cases h))), (fun f h => by cases h)⟩, [], List.mem_cons_self, fun f h => (by cases h)⟩
theorem rw_rkQa {N : Int} {K : Nat → Nat} {n : Nat} {JX : (Nat → jcell) → Prop} : aGho (rH N K n) fa_T K n JX ag_rkQa := by
  refine aGho_of ⟨rfl, rfl⟩ ?_
  intro p σ ρ hH hX hA hM0
  have hG := aAG_of hA.1 (fun i e v he hv => (hA.2 i e v he hv).1)
  clear hA
  obtain ⟨v0, v1, v2, v3, rfl, g0, g1, g2, g3⟩ := rA_4 hG
  clear hG
  obtain ⟨x0, rfl, b0, d0⟩ := aG_int g0
  dsimp only at b0 d0
  obtain ⟨x1, rfl, b1, d1⟩ := aG_int g1
  dsimp only at b1 d1
  obtain ⟨x2, rfl, b2, d2⟩ := aG_int g2
  dsimp only at b2 d2
  obtain ⟨x3, rfl, b3, d3⟩ := aG_int g3
  dsimp only at b3 d3
  obtain ⟨m1, m2, m3, m4⟩ := hM0
  have l0 : 0 ≤ (1 * x2.toInt + 0) + 0 := by
    obtain ⟨z, e6, e7⟩ := m3 ([(2, 1)], 0) (List.mem_of_getElem? (i := 0) rfl)
    obtain rfl : (1 * x2.toInt + 0) = z := Option.some.inj (show some (1 * x2.toInt + 0) = some z from e6)
    exact e7
  have l1 : 0 ≤ (-1 * x2.toInt + 0) + 0 := by
    obtain ⟨z, e6, e7⟩ := m3 ([(2, -1)], 0) (List.mem_of_getElem? (i := 1) rfl)
    obtain rfl : (-1 * x2.toInt + 0) = z := Option.some.inj (show some (-1 * x2.toInt + 0) = some z from e6)
    exact e7
  have f0 : rB3 N K n p 226 [rI x0, rI x1, rI x2, rI x3] σ := by
    obtain ⟨w, e6, e7⟩ := m4 (3620, [0, 1, 2, 3]) (List.mem_of_getElem? (i := 0) rfl)
    obtain rfl : [rI x0, rI x1, rI x2, rI x3] = w := Option.some.inj (show some [rI x0, rI x1, rI x2, rI x3] = some w from e6)
    exact (rF_b (r := 3620) (by decide) rfl).mp e7
  have f0 := ro3_226.mp f0
  clear m1 m2 m3 m4
  have q0 : rB3 N K n p 469 [rI x0, rI x1] σ := ro3_469.mpr (by
    unfold rJq
    simp only [Bool.or_eq_true, decide_eq_true_eq]
    exact Or.inl (Or.inl (Or.inl (Or.inl (by omega)))))
  exact ⟨p, fun _ => rfl, ⟨(fun q h => by cases h), fun q h => (by cases h), (fun f h => by cases h), (aAllc ⟨_, rfl, (rF_b (r := 7506) (by decide) rfl).mpr q0⟩ (fun f h => by cases h))⟩, [], List.mem_cons_self, fun f h => (by cases h)⟩
theorem rw_rkQb {N : Int} {K : Nat → Nat} {n : Nat} {JX : (Nat → jcell) → Prop} : aGho (rH N K n) fa_T K n JX ag_rkQb := by
  refine aGho_of ⟨rfl, rfl⟩ ?_
  intro p σ ρ hH hX hA hM0
  have hG := aAG_of hA.1 (fun i e v he hv => (hA.2 i e v he hv).1)
  clear hA
  obtain ⟨v0, v1, v2, v3, rfl, g0, g1, g2, g3⟩ := rA_4 hG
  clear hG
  obtain ⟨x0, rfl, b0, d0⟩ := aG_int g0
  dsimp only at b0 d0
  obtain ⟨x1, rfl, b1, d1⟩ := aG_int g1
  dsimp only at b1 d1
  obtain ⟨x2, rfl, b2, d2⟩ := aG_int g2
  dsimp only at b2 d2
  obtain ⟨x3, rfl, b3, d3⟩ := aG_int g3
  dsimp only at b3 d3
  obtain ⟨m1, m2, m3, m4⟩ := hM0
  have l0 : 0 ≤ (1 * x3.toInt + 0) + 0 := by
    obtain ⟨z, e6, e7⟩ := m3 ([(3, 1)], 0) (List.mem_of_getElem? (i := 0) rfl)
    obtain rfl : (1 * x3.toInt + 0) = z := Option.some.inj (show some (1 * x3.toInt + 0) = some z from e6)
    exact e7
  have l1 : 0 ≤ (-1 * x3.toInt + 0) + 0 := by
    obtain ⟨z, e6, e7⟩ := m3 ([(3, -1)], 0) (List.mem_of_getElem? (i := 1) rfl)
    obtain rfl : (-1 * x3.toInt + 0) = z := Option.some.inj (show some (-1 * x3.toInt + 0) = some z from e6)
    exact e7
  have f0 : rB3 N K n p 226 [rI x0, rI x1, rI x2, rI x3] σ := by
    obtain ⟨w, e6, e7⟩ := m4 (3620, [0, 1, 2, 3]) (List.mem_of_getElem? (i := 0) rfl)
    obtain rfl : [rI x0, rI x1, rI x2, rI x3] = w := Option.some.inj (show some [rI x0, rI x1, rI x2, rI x3] = some w from e6)
    exact (rF_b (r := 3620) (by decide) rfl).mp e7
  have f0 := ro3_226.mp f0
  clear m1 m2 m3 m4
  have q0 : rB3 N K n p 469 [rI x0, rI x1] σ := ro3_469.mpr (by
    unfold rJq
    simp only [Bool.or_eq_true, decide_eq_true_eq]
    exact Or.inl (Or.inl (Or.inl (Or.inr (by omega)))))
  exact ⟨p, fun _ => rfl, ⟨(fun q h => by cases h), fun q h => (by cases h), (fun f h => by cases h), (aAllc ⟨_, rfl, (rF_b (r := 7506) (by decide) rfl).mpr q0⟩ (fun f h => by cases h))⟩, [], List.mem_cons_self, fun f h => (by cases h)⟩
theorem rw_rkQc {N : Int} {K : Nat → Nat} {n : Nat} {JX : (Nat → jcell) → Prop} : aGho (rH N K n) fa_T K n JX ag_rkQc := by
  refine aGho_of ⟨rfl, rfl⟩ ?_
  intro p σ ρ hH hX hA hM0
  have hG := aAG_of hA.1 (fun i e v he hv => (hA.2 i e v he hv).1)
  clear hA
  obtain ⟨v0, v1, v2, v3, rfl, g0, g1, g2, g3⟩ := rA_4 hG
  clear hG
  obtain ⟨x0, rfl, b0, d0⟩ := aG_int g0
  dsimp only at b0 d0
  obtain ⟨x1, rfl, b1, d1⟩ := aG_int g1
  dsimp only at b1 d1
  obtain ⟨x2, rfl, b2, d2⟩ := aG_int g2
  dsimp only at b2 d2
  obtain ⟨x3, rfl, b3, d3⟩ := aG_int g3
  dsimp only at b3 d3
  obtain ⟨m1, m2, m3, m4⟩ := hM0
  have l0 : 0 ≤ (1 * x2.toInt + (-1 * x3.toInt + 0)) + 0 := by
    obtain ⟨z, e6, e7⟩ := m3 ([(2, 1), (3, -1)], 0) (List.mem_of_getElem? (i := 0) rfl)
    obtain rfl : (1 * x2.toInt + (-1 * x3.toInt + 0)) = z := Option.some.inj (show some (1 * x2.toInt + (-1 * x3.toInt + 0)) = some z from e6)
    exact e7
  have l1 : 0 ≤ (-1 * x2.toInt + (1 * x3.toInt + 0)) + 0 := by
    obtain ⟨z, e6, e7⟩ := m3 ([(2, -1), (3, 1)], 0) (List.mem_of_getElem? (i := 1) rfl)
    obtain rfl : (-1 * x2.toInt + (1 * x3.toInt + 0)) = z := Option.some.inj (show some (-1 * x2.toInt + (1 * x3.toInt + 0)) = some z from e6)
    exact e7
  have f0 : rB3 N K n p 226 [rI x0, rI x1, rI x2, rI x3] σ := by
    obtain ⟨w, e6, e7⟩ := m4 (3620, [0, 1, 2, 3]) (List.mem_of_getElem? (i := 0) rfl)
    obtain rfl : [rI x0, rI x1, rI x2, rI x3] = w := Option.some.inj (show some [rI x0, rI x1, rI x2, rI x3] = some w from e6)
    exact (rF_b (r := 3620) (by decide) rfl).mp e7
  have f0 := ro3_226.mp f0
  clear m1 m2 m3 m4
  have q0 : rB3 N K n p 469 [rI x0, rI x1] σ := ro3_469.mpr (by
    unfold rJq
    simp only [Bool.or_eq_true, decide_eq_true_eq]
    exact Or.inl (Or.inl (Or.inr (by omega))))
  exact ⟨p, fun _ => rfl, ⟨(fun q h => by cases h), fun q h => (by cases h), (fun f h => by cases h), (aAllc ⟨_, rfl, (rF_b (r := 7506) (by decide) rfl).mpr q0⟩ (fun f h => by cases h))⟩, [], List.mem_cons_self, fun f h => (by cases h)⟩
theorem rw_rkQd {N : Int} {K : Nat → Nat} {n : Nat} {JX : (Nat → jcell) → Prop} : aGho (rH N K n) fa_T K n JX ag_rkQd := by
  refine aGho_of ⟨rfl, rfl⟩ ?_
  intro p σ ρ hH hX hA hM0
  have hG := aAG_of hA.1 (fun i e v he hv => (hA.2 i e v he hv).1)
  clear hA
  obtain ⟨v0, v1, v2, v3, rfl, g0, g1, g2, g3⟩ := rA_4 hG
  clear hG
  obtain ⟨x0, rfl, b0, d0⟩ := aG_int g0
  dsimp only at b0 d0
  obtain ⟨x1, rfl, b1, d1⟩ := aG_int g1
  dsimp only at b1 d1
  obtain ⟨x2, rfl, b2, d2⟩ := aG_int g2
  dsimp only at b2 d2
  obtain ⟨x3, rfl, b3, d3⟩ := aG_int g3
  dsimp only at b3 d3
  obtain ⟨m1, m2, m3, m4⟩ := hM0
  have l0 : 0 ≤ (1 * x2.toInt + (1 * x3.toInt + 0)) + 0 := by
    obtain ⟨z, e6, e7⟩ := m3 ([(2, 1), (3, 1)], 0) (List.mem_of_getElem? (i := 0) rfl)
    obtain rfl : (1 * x2.toInt + (1 * x3.toInt + 0)) = z := Option.some.inj (show some (1 * x2.toInt + (1 * x3.toInt + 0)) = some z from e6)
    exact e7
  have l1 : 0 ≤ (-1 * x2.toInt + (-1 * x3.toInt + 0)) + 0 := by
    obtain ⟨z, e6, e7⟩ := m3 ([(2, -1), (3, -1)], 0) (List.mem_of_getElem? (i := 1) rfl)
    obtain rfl : (-1 * x2.toInt + (-1 * x3.toInt + 0)) = z := Option.some.inj (show some (-1 * x2.toInt + (-1 * x3.toInt + 0)) = some z from e6)
    exact e7
  have f0 : rB3 N K n p 226 [rI x0, rI x1, rI x2, rI x3] σ := by
    obtain ⟨w, e6, e7⟩ := m4 (3620, [0, 1, 2, 3]) (List.mem_of_getElem? (i := 0) rfl)
    obtain rfl : [rI x0, rI x1, rI x2, rI x3] = w := Option.some.inj (show some [rI x0, rI x1, rI x2, rI x3] = some w from e6)
    exact (rF_b (r := 3620) (by decide) rfl).mp e7
  have f0 := ro3_226.mp f0
  clear m1 m2 m3 m4
  have q0 : rB3 N K n p 469 [rI x0, rI x1] σ := ro3_469.mpr (by
    unfold rJq
    simp only [Bool.or_eq_true, decide_eq_true_eq]
    exact Or.inl (Or.inr (by omega)))
  exact ⟨p, fun _ => rfl, ⟨(fun q h => by cases h), fun q h => (by cases h), (fun f h => by cases h), (aAllc ⟨_, rfl, (rF_b (r := 7506) (by decide) rfl).mpr q0⟩ (fun f h => by cases h))⟩, [], List.mem_cons_self, fun f h => (by cases h)⟩
theorem rw_rkA0 {N : Int} {K : Nat → Nat} {n : Nat} {JX : (Nat → jcell) → Prop} : aGho (rH N K n) fa_T K n JX ag_rkA0 := by
  refine aGho_of ⟨rfl, rfl⟩ ?_
  intro p σ ρ hH hX hA hM0
  have hG := aAG_of hA.1 (fun i e v he hv => (hA.2 i e v he hv).1)
  clear hA
  obtain ⟨v0, v1, v2, rfl, g0, g1, g2⟩ := rA_3 hG
  clear hG
  obtain ⟨x0, rfl, b0, d0⟩ := aG_int g0
  dsimp only at b0 d0
  obtain ⟨x1, rfl, b1, d1⟩ := aG_int g1
  dsimp only at b1 d1
  obtain ⟨x2, rfl, b2, d2⟩ := aG_int g2
  dsimp only at b2 d2
  obtain ⟨m1, m2, m3, m4⟩ := hM0
  clear m1 m2 m3 m4
  have q0 : rB3 N K n p 485 [rI x0, rI x1, rI x2] σ := ro3_485.mpr (by
    intro h9
    exfalso
    omega)
  exact ⟨p, fun _ => rfl, ⟨(fun q h => by cases h), fun q h => (by cases h), (fun f h => by cases h), (aAllc ⟨_, rfl, (rF_b (r := 7763) (by decide) rfl).mpr q0⟩ (fun f h => by cases h))⟩, [], List.mem_cons_self, fun f h => (by cases h)⟩
theorem rw_rkA1 {N : Int} {K : Nat → Nat} {n : Nat} {JX : (Nat → jcell) → Prop} : aGho (rH N K n) fa_T K n JX ag_rkA1 := by
  refine aGho_of ⟨rfl, rfl⟩ ?_
  intro p σ ρ hH hX hA hM0
  have hG := aAG_of hA.1 (fun i e v he hv => (hA.2 i e v he hv).1)
  clear hA
  obtain ⟨v0, v1, v2, rfl, g0, g1, g2⟩ := rA_3 hG
  clear hG
  obtain ⟨x0, rfl, b0, d0⟩ := aG_int g0
  dsimp only at b0 d0
  obtain ⟨x1, rfl, b1, d1⟩ := aG_int g1
  dsimp only at b1 d1
  obtain ⟨x2, rfl, b2, d2⟩ := aG_int g2
  dsimp only at b2 d2
  obtain ⟨m1, m2, m3, m4⟩ := hM0
  have f0 : rB3 N K n p 469 [rI x0, rI x1] σ := by
    obtain ⟨w, e6, e7⟩ := m4 (7506, [0, 1]) (List.mem_of_getElem? (i := 0) rfl)
    obtain rfl : [rI x0, rI x1] = w := Option.some.inj (show some [rI x0, rI x1] = some w from e6)
    exact (rF_b (r := 7506) (by decide) rfl).mp e7
  have f0 := ro3_469.mp f0
  clear m1 m2 m3 m4
  have q0 : rB3 N K n p 485 [rI x0, rI x1, rI x2] σ := ro3_485.mpr (by
    intro _
    exact f0)
  exact ⟨p, fun _ => rfl, ⟨(fun q h => by cases h), fun q h => (by cases h), (fun f h => by cases h), (aAllc ⟨_, rfl, (rF_b (r := 7763) (by decide) rfl).mpr q0⟩ (fun f h => by cases h))⟩, [], List.mem_cons_self, fun f h => (by cases h)⟩
theorem rw_rkAn {N : Int} {K : Nat → Nat} {n : Nat} {JX : (Nat → jcell) → Prop} : aGho (rH N K n) fa_T K n JX ag_rkAn := by
  refine aGho_of ⟨rfl, rfl⟩ ?_
  intro p σ ρ hH hX hA hM0
  have hG := aAG_of hA.1 (fun i e v he hv => (hA.2 i e v he hv).1)
  clear hA
  obtain ⟨v0, v1, v2, v3, v4, rfl, g0, g1, g2, g3, g4⟩ := rA_5 hG
  clear hG
  obtain ⟨x0, rfl, b0, d0⟩ := aG_int g0
  dsimp only at b0 d0
  obtain ⟨x1, rfl, b1, d1⟩ := aG_int g1
  dsimp only at b1 d1
  obtain ⟨x2, rfl, b2, d2⟩ := aG_int g2
  dsimp only at b2 d2
  obtain ⟨x3, rfl, b3, d3⟩ := aG_int g3
  dsimp only at b3 d3
  obtain ⟨x4, rfl, b4, d4⟩ := aG_int g4
  dsimp only at b4 d4
  obtain ⟨m1, m2, m3, m4⟩ := hM0
  have f0 : rB3 N K n p 226 [rI x0, rI x1, rI x2, rI x3] σ := by
    obtain ⟨w, e6, e7⟩ := m4 (3620, [0, 1, 2, 3]) (List.mem_of_getElem? (i := 0) rfl)
    obtain rfl : [rI x0, rI x1, rI x2, rI x3] = w := Option.some.inj (show some [rI x0, rI x1, rI x2, rI x3] = some w from e6)
    exact (rF_b (r := 3620) (by decide) rfl).mp e7
  have f0 := ro3_226.mp f0
  have f1 : rB3 N K n p 228 [rI x2, rI x3, rI x4] σ := by
    obtain ⟨w, e6, e7⟩ := m4 (3651, [2, 3, 4]) (List.mem_of_getElem? (i := 1) rfl)
    obtain rfl : [rI x2, rI x3, rI x4] = w := Option.some.inj (show some [rI x2, rI x3, rI x4] = some w from e6)
    exact (rF_b (r := 3651) (by decide) rfl).mp e7
  have f1 := ro3_228.mp f1
  clear m1 m2 m3 m4
  have q0 : rB3 N K n p 469 [rI x0, rI x1] σ := ro3_469.mpr (by
    unfold rJq
    simp only [Bool.or_eq_true, decide_eq_true_eq]
    refine Or.inr ?_
    rw [← f0.1, ← f0.2, ← f1]
    omega)
  exact ⟨p, fun _ => rfl, ⟨(fun q h => by cases h), fun q h => (by cases h), (fun f h => by cases h), (aAllc ⟨_, rfl, (rF_b (r := 7506) (by decide) rfl).mpr q0⟩ (fun f h => by cases h))⟩, [], List.mem_cons_self, fun f h => (by cases h)⟩
theorem rw_rkN1 {N : Int} {K : Nat → Nat} {n : Nat} {JX : (Nat → jcell) → Prop} : aGho (rH N K n) fa_T K n JX ag_rkN1 := by
  refine aGho_of ⟨rfl, rfl⟩ ?_
  intro p σ ρ hH hX hA hM0
  have hG := aAG_of hA.1 (fun i e v he hv => (hA.2 i e v he hv).1)
  clear hA
  obtain ⟨v0, v1, v2, v3, v4, v5, v6, rfl, g0, g1, g2, g3, g4, g5, g6⟩ := rA_7 hG
  clear hG
  obtain ⟨x0, rfl, b0, d0⟩ := aG_int g0
  dsimp only at b0 d0
  obtain ⟨x1, rfl, b1, d1⟩ := aG_int g1
  dsimp only at b1 d1
  obtain ⟨x2, rfl, b2, d2⟩ := aG_int g2
  dsimp only at b2 d2
  obtain ⟨x3, rfl, b3, d3⟩ := aG_int g3
  dsimp only at b3 d3
  obtain ⟨x4, rfl, b4, d4⟩ := aG_int g4
  dsimp only at b4 d4
  obtain ⟨x5, rfl, b5, d5⟩ := aG_int g5
  dsimp only at b5 d5
  obtain ⟨x6, rfl, b6, d6⟩ := aG_int g6
  dsimp only at b6 d6
  obtain ⟨m1, m2, m3, m4⟩ := hM0
  have l0 : 0 ≤ (1 * x2.toInt + (-1 * x3.toInt + 0)) + 1 := by
    obtain ⟨z, e6, e7⟩ := m3 ([(2, 1), (3, -1)], 1) (List.mem_of_getElem? (i := 0) rfl)
    obtain rfl : (1 * x2.toInt + (-1 * x3.toInt + 0)) = z := Option.some.inj (show some (1 * x2.toInt + (-1 * x3.toInt + 0)) = some z from e6)
    exact e7
  have l1 : 0 ≤ (-1 * x2.toInt + (1 * x3.toInt + 0)) + 1 := by
    obtain ⟨z, e6, e7⟩ := m3 ([(2, -1), (3, 1)], 1) (List.mem_of_getElem? (i := 1) rfl)
    obtain rfl : (-1 * x2.toInt + (1 * x3.toInt + 0)) = z := Option.some.inj (show some (-1 * x2.toInt + (1 * x3.toInt + 0)) = some z from e6)
    exact e7
  have l2 : 0 ≤ (1 * x4.toInt + (-1 * x5.toInt + 0)) + 1 := by
    obtain ⟨z, e6, e7⟩ := m3 ([(4, 1), (5, -1)], 1) (List.mem_of_getElem? (i := 2) rfl)
    obtain rfl : (1 * x4.toInt + (-1 * x5.toInt + 0)) = z := Option.some.inj (show some (1 * x4.toInt + (-1 * x5.toInt + 0)) = some z from e6)
    exact e7
  have l3 : 0 ≤ (-1 * x4.toInt + (1 * x5.toInt + 0)) + 1 := by
    obtain ⟨z, e6, e7⟩ := m3 ([(4, -1), (5, 1)], 1) (List.mem_of_getElem? (i := 3) rfl)
    obtain rfl : (-1 * x4.toInt + (1 * x5.toInt + 0)) = z := Option.some.inj (show some (-1 * x4.toInt + (1 * x5.toInt + 0)) = some z from e6)
    exact e7
  have f0 : rB3 N K n p 218 [rI x0, rI x2] σ := by
    obtain ⟨w, e6, e7⟩ := m4 (3490, [0, 2]) (List.mem_of_getElem? (i := 0) rfl)
    obtain rfl : [rI x0, rI x2] = w := Option.some.inj (show some [rI x0, rI x2] = some w from e6)
    exact (rF_b (r := 3490) (by decide) rfl).mp e7
  have f0 := ro3_218.mp f0
  have f1 : rB3 N K n p 218 [rI x1, rI x3] σ := by
    obtain ⟨w, e6, e7⟩ := m4 (3490, [1, 3]) (List.mem_of_getElem? (i := 1) rfl)
    obtain rfl : [rI x1, rI x3] = w := Option.some.inj (show some [rI x1, rI x3] = some w from e6)
    exact (rF_b (r := 3490) (by decide) rfl).mp e7
  have f1 := ro3_218.mp f1
  have f2 : rB3 N K n p 157 [rI x0, rI x4] σ := by
    obtain ⟨w, e6, e7⟩ := m4 (2514, [0, 4]) (List.mem_of_getElem? (i := 2) rfl)
    obtain rfl : [rI x0, rI x4] = w := Option.some.inj (show some [rI x0, rI x4] = some w from e6)
    exact (rF_b (r := 2514) (by decide) rfl).mp e7
  have f2 := ro3_157.mp f2
  have f3 : rB3 N K n p 157 [rI x1, rI x5] σ := by
    obtain ⟨w, e6, e7⟩ := m4 (2514, [1, 5]) (List.mem_of_getElem? (i := 3) rfl)
    obtain rfl : [rI x1, rI x5] = w := Option.some.inj (show some [rI x1, rI x5] = some w from e6)
    exact (rF_b (r := 2514) (by decide) rfl).mp e7
  have f3 := ro3_157.mp f3
  clear m1 m2 m3 m4
  have q0 : rB3 N K n p 472 [rI x0, rI x1, rI x6] σ := ro3_472.mpr (by
    intro _
    unfold rJn
    simp only [Bool.and_eq_true, decide_eq_true_eq]
    refine ⟨⟨⟨?_, ?_⟩, ?_⟩, ?_⟩ <;> omega)
  exact ⟨p, fun _ => rfl, ⟨(fun q h => by cases h), fun q h => (by cases h), (fun f h => by cases h), (aAllc ⟨_, rfl, (rF_b (r := 7555) (by decide) rfl).mpr q0⟩ (fun f h => by cases h))⟩, [], List.mem_cons_self, fun f h => (by cases h)⟩
theorem rw_rkN0 {N : Int} {K : Nat → Nat} {n : Nat} {JX : (Nat → jcell) → Prop} : aGho (rH N K n) fa_T K n JX ag_rkN0 := by
  refine aGho_of ⟨rfl, rfl⟩ ?_
  intro p σ ρ hH hX hA hM0
  have hG := aAG_of hA.1 (fun i e v he hv => (hA.2 i e v he hv).1)
  clear hA
  obtain ⟨v0, v1, v2, rfl, g0, g1, g2⟩ := rA_3 hG
  clear hG
  obtain ⟨x0, rfl, b0, d0⟩ := aG_int g0
  dsimp only at b0 d0
  obtain ⟨x1, rfl, b1, d1⟩ := aG_int g1
  dsimp only at b1 d1
  obtain ⟨x2, rfl, b2, d2⟩ := aG_int g2
  dsimp only at b2 d2
  obtain ⟨m1, m2, m3, m4⟩ := hM0
  clear m1 m2 m3 m4
  have q0 : rB3 N K n p 472 [rI x0, rI x1, rI x2] σ := ro3_472.mpr (by
    intro h9
    exfalso
    omega)
  exact ⟨p, fun _ => rfl, ⟨(fun q h => by cases h), fun q h => (by cases h), (fun f h => by cases h), (aAllc ⟨_, rfl, (rF_b (r := 7555) (by decide) rfl).mpr q0⟩ (fun f h => by cases h))⟩, [], List.mem_cons_self, fun f h => (by cases h)⟩
theorem rw_rkNr {N : Int} {K : Nat → Nat} {n : Nat} {JX : (Nat → jcell) → Prop} : aGho (rH N K n) fa_T K n JX ag_rkNr := by
  refine aGho_of ⟨rfl, rfl⟩ ?_
  intro p σ ρ hH hX hA hM0
  have hG := aAG_of hA.1 (fun i e v he hv => (hA.2 i e v he hv).1)
  clear hA
  obtain ⟨v0, v1, v2, rfl, g0, g1, g2⟩ := rA_3 hG
  clear hG
  obtain ⟨x0, rfl, b0, d0⟩ := aG_int g0
  dsimp only at b0 d0
  obtain ⟨x1, rfl, b1, d1⟩ := aG_int g1
  dsimp only at b1 d1
  obtain ⟨x2, rfl, b2, d2⟩ := aG_int g2
  dsimp only at b2 d2
  obtain ⟨m1, m2, m3, m4⟩ := hM0
  have f0 : rB3 N K n p 472 [rI x0, rI x1, rI x2] σ := by
    obtain ⟨w, e6, e7⟩ := m4 (7555, [0, 1, 2]) (List.mem_of_getElem? (i := 0) rfl)
    obtain rfl : [rI x0, rI x1, rI x2] = w := Option.some.inj (show some [rI x0, rI x1, rI x2] = some w from e6)
    exact (rF_b (r := 7555) (by decide) rfl).mp e7
  have f0 := ro3_472.mp f0
  clear m1 m2 m3 m4
  have q0 : rB3 N K n p 487 [rI x0, rI x1] σ := ro3_487.mpr (by
    exact f0 (by omega))
  exact ⟨p, fun _ => rfl, ⟨(fun q h => by cases h), fun q h => (by cases h), (fun f h => by cases h), (aAllc ⟨_, rfl, (rF_b (r := 7794) (by decide) rfl).mpr q0⟩ (fun f h => by cases h))⟩, [], List.mem_cons_self, fun f h => (by cases h)⟩
theorem rw_rkNs {N : Int} {K : Nat → Nat} {n : Nat} {JX : (Nat → jcell) → Prop} : aGho (rH N K n) fa_T K n JX ag_rkNs := by
  refine aGho_of ⟨rfl, rfl⟩ ?_
  intro p σ ρ hH hX hA hM0
  have hG := aAG_of hA.1 (fun i e v he hv => (hA.2 i e v he hv).1)
  clear hA
  obtain ⟨v0, v1, v2, rfl, g0, g1, g2⟩ := rA_3 hG
  clear hG
  obtain ⟨x0, rfl, b0, d0⟩ := aG_int g0
  dsimp only at b0 d0
  obtain ⟨x1, rfl, b1, d1⟩ := aG_int g1
  dsimp only at b1 d1
  obtain ⟨x2, rfl, b2, d2⟩ := aG_int g2
  dsimp only at b2 d2
  obtain ⟨m1, m2, m3, m4⟩ := hM0
  have f0 : rB3 N K n p 487 [rI x0, rI x1] σ := by
    obtain ⟨w, e6, e7⟩ := m4 (7794, [0, 1]) (List.mem_of_getElem? (i := 0) rfl)
    obtain rfl : [rI x0, rI x1] = w := Option.some.inj (show some [rI x0, rI x1] = some w from e6)
    exact (rF_b (r := 7794) (by decide) rfl).mp e7
  have f0 := ro3_487.mp f0
  clear m1 m2 m3 m4
  have q0 : rB3 N K n p 472 [rI x0, rI x1, rI x2] σ := ro3_472.mpr (by
    intro _
    exact f0)
  exact ⟨p, fun _ => rfl, ⟨(fun q h => by cases h), fun q h => (by cases h), (fun f h => by cases h), (aAllc ⟨_, rfl, (rF_b (r := 7555) (by decide) rfl).mpr q0⟩ (fun f h => by cases h))⟩, [], List.mem_cons_self, fun f h => (by cases h)⟩
theorem rw_rkMa {N : Int} {K : Nat → Nat} {n : Nat} {JX : (Nat → jcell) → Prop} : aGho (rH N K n) fa_T K n JX ag_rkMa := by
  refine aGho_of ⟨rfl, rfl⟩ ?_
  intro p σ ρ hH hX hA hM0
  have hG := aAG_of hA.1 (fun i e v he hv => (hA.2 i e v he hv).1)
  clear hA
  obtain ⟨v0, v1, v2, rfl, g0, g1, g2⟩ := rA_3 hG
  clear hG
  obtain ⟨x0, rfl, b0, d0⟩ := aG_int g0
  dsimp only at b0 d0
  obtain ⟨x1, rfl, b1, d1⟩ := aG_int g1
  dsimp only at b1 d1
  obtain ⟨x2, rfl, b2, d2⟩ := aG_int g2
  dsimp only at b2 d2
  obtain ⟨m1, m2, m3, m4⟩ := hM0
  have l0 : 0 ≤ (1 * x1.toInt + (-1 * x0.toInt + 0)) + -8 := by
    obtain ⟨z, e6, e7⟩ := m3 ([(1, 1), (0, -1)], -8) (List.mem_of_getElem? (i := 0) rfl)
    obtain rfl : (1 * x1.toInt + (-1 * x0.toInt + 0)) = z := Option.some.inj (show some (1 * x1.toInt + (-1 * x0.toInt + 0)) = some z from e6)
    exact e7
  have l1 : 0 ≤ (-1 * x1.toInt + (1 * x0.toInt + 0)) + 8 := by
    obtain ⟨z, e6, e7⟩ := m3 ([(1, -1), (0, 1)], 8) (List.mem_of_getElem? (i := 1) rfl)
    obtain rfl : (-1 * x1.toInt + (1 * x0.toInt + 0)) = z := Option.some.inj (show some (-1 * x1.toInt + (1 * x0.toInt + 0)) = some z from e6)
    exact e7
  clear m1 m2 m3 m4
  have q0 : rB3 N K n p 485 [rI x0, rI x1, rI x2] σ := ro3_485.mpr (by
    intro _
    rw [show x1.toInt = x0.toInt + 8 by omega]
    exact rJq_8)
  exact ⟨p, fun _ => rfl, ⟨(fun q h => by cases h), fun q h => (by cases h), (fun f h => by cases h), (aAllc ⟨_, rfl, (rF_b (r := 7763) (by decide) rfl).mpr q0⟩ (fun f h => by cases h))⟩, [], List.mem_cons_self, fun f h => (by cases h)⟩
theorem rw_rkMb {N : Int} {K : Nat → Nat} {n : Nat} {JX : (Nat → jcell) → Prop} : aGho (rH N K n) fa_T K n JX ag_rkMb := by
  refine aGho_of ⟨rfl, rfl⟩ ?_
  intro p σ ρ hH hX hA hM0
  have hG := aAG_of hA.1 (fun i e v he hv => (hA.2 i e v he hv).1)
  clear hA
  obtain ⟨v0, v1, v2, rfl, g0, g1, g2⟩ := rA_3 hG
  clear hG
  obtain ⟨x0, rfl, b0, d0⟩ := aG_int g0
  dsimp only at b0 d0
  obtain ⟨x1, rfl, b1, d1⟩ := aG_int g1
  dsimp only at b1 d1
  obtain ⟨x2, rfl, b2, d2⟩ := aG_int g2
  dsimp only at b2 d2
  obtain ⟨m1, m2, m3, m4⟩ := hM0
  have l0 : 0 ≤ (1 * x1.toInt + (-1 * x0.toInt + 0)) + -16 := by
    obtain ⟨z, e6, e7⟩ := m3 ([(1, 1), (0, -1)], -16) (List.mem_of_getElem? (i := 0) rfl)
    obtain rfl : (1 * x1.toInt + (-1 * x0.toInt + 0)) = z := Option.some.inj (show some (1 * x1.toInt + (-1 * x0.toInt + 0)) = some z from e6)
    exact e7
  have l1 : 0 ≤ (-1 * x1.toInt + (1 * x0.toInt + 0)) + 16 := by
    obtain ⟨z, e6, e7⟩ := m3 ([(1, -1), (0, 1)], 16) (List.mem_of_getElem? (i := 1) rfl)
    obtain rfl : (-1 * x1.toInt + (1 * x0.toInt + 0)) = z := Option.some.inj (show some (-1 * x1.toInt + (1 * x0.toInt + 0)) = some z from e6)
    exact e7
  clear m1 m2 m3 m4
  have q0 : rB3 N K n p 485 [rI x0, rI x1, rI x2] σ := ro3_485.mpr (by
    intro _
    rw [show x1.toInt = x0.toInt + 16 by omega]
    exact rJq_16)
  exact ⟨p, fun _ => rfl, ⟨(fun q h => by cases h), fun q h => (by cases h), (fun f h => by cases h), (aAllc ⟨_, rfl, (rF_b (r := 7763) (by decide) rfl).mpr q0⟩ (fun f h => by cases h))⟩, [], List.mem_cons_self, fun f h => (by cases h)⟩
theorem rw_rkMr {N : Int} {K : Nat → Nat} {n : Nat} {JX : (Nat → jcell) → Prop} : aGho (rH N K n) fa_T K n JX ag_rkMr := by
  refine aGho_of ⟨rfl, rfl⟩ ?_
  intro p σ ρ hH hX hA hM0
  have hG := aAG_of hA.1 (fun i e v he hv => (hA.2 i e v he hv).1)
  clear hA
  obtain ⟨v0, v1, v2, v3, rfl, g0, g1, g2, g3⟩ := rA_4 hG
  clear hG
  obtain ⟨x0, rfl, b0, d0⟩ := aG_int g0
  dsimp only at b0 d0
  obtain ⟨x1, rfl, b1, d1⟩ := aG_int g1
  dsimp only at b1 d1
  obtain ⟨x2, rfl, b2, d2⟩ := aG_int g2
  dsimp only at b2 d2
  obtain ⟨x3, rfl, b3, d3⟩ := aG_int g3
  dsimp only at b3 d3
  obtain ⟨m1, m2, m3, m4⟩ := hM0
  have f0 : rB3 N K n p 485 [rI x0, rI x1, rI x2] σ := by
    obtain ⟨w, e6, e7⟩ := m4 (7763, [0, 1, 2]) (List.mem_of_getElem? (i := 0) rfl)
    obtain rfl : [rI x0, rI x1, rI x2] = w := Option.some.inj (show some [rI x0, rI x1, rI x2] = some w from e6)
    exact (rF_b (r := 7763) (by decide) rfl).mp e7
  have f0 := ro3_485.mp f0
  clear m1 m2 m3 m4
  have q0 : rB3 N K n p 485 [rI x0, rI x1, rI x3] σ := ro3_485.mpr (by
    intro _
    exact f0 (by omega))
  exact ⟨p, fun _ => rfl, ⟨(fun q h => by cases h), fun q h => (by cases h), (fun f h => by cases h), (aAllc ⟨_, rfl, (rF_b (r := 7763) (by decide) rfl).mpr q0⟩ (fun f h => by cases h))⟩, [], List.mem_cons_self, fun f h => (by cases h)⟩
theorem rw_rkC0 {N : Int} {K : Nat → Nat} {n : Nat} {JX : (Nat → jcell) → Prop} : aGho (rH N K n) fa_T K n JX ag_rkC0 := by
  refine aGho_of ⟨rfl, rfl⟩ ?_
  intro p σ ρ hH hX hA hM0
  have hG := aAG_of hA.1 (fun i e v he hv => (hA.2 i e v he hv).1)
  clear hA
  obtain ⟨v0, v1, v2, v3, rfl, g0, g1, g2, g3⟩ := rA_4 hG
  clear hG
  obtain ⟨x0, rfl, b0, d0⟩ := aG_int g0
  dsimp only at b0 d0
  obtain ⟨x1, rfl, b1, d1⟩ := aG_int g1
  dsimp only at b1 d1
  obtain ⟨x2, rfl, b2, d2⟩ := aG_int g2
  dsimp only at b2 d2
  obtain ⟨x3, rfl, b3, d3⟩ := aG_int g3
  dsimp only at b3 d3
  obtain ⟨m1, m2, m3, m4⟩ := hM0
  clear m1 m2 m3 m4
  have q0 : rB3 N K n p 486 [rI x0, rI x1, rI x2, rI x3] σ := ro3_486.mpr (by
    have := rJb_0 (k := x0.toInt) (m := x1.toInt) (fr := x2.toInt) (to := 0)
    omega)
  exact ⟨p, fun _ => rfl, ⟨(fun q h => by cases h), fun q h => (by cases h), (fun f h => by cases h), (aAllc ⟨_, rfl, (rF_b (r := 7780) (by decide) rfl).mpr q0⟩ (fun f h => by cases h))⟩, [], List.mem_cons_self, fun f h => (by cases h)⟩
theorem rw_rkCi {N : Int} {K : Nat → Nat} {n : Nat} {JX : (Nat → jcell) → Prop} : aGho (rH N K n) fa_T K n JX ag_rkCi := by
  refine aGho_of ⟨rfl, rfl⟩ ?_
  intro p σ ρ hH hX hA hM0
  have hG := aAG_of hA.1 (fun i e v he hv => (hA.2 i e v he hv).1)
  clear hA
  obtain ⟨v0, v1, v2, v3, v4, rfl, g0, g1, g2, g3, g4⟩ := rA_5 hG
  clear hG
  obtain ⟨x0, rfl, b0, d0⟩ := aG_int g0
  dsimp only at b0 d0
  obtain ⟨x1, rfl, b1, d1⟩ := aG_int g1
  dsimp only at b1 d1
  obtain ⟨x2, rfl, b2, d2⟩ := aG_int g2
  dsimp only at b2 d2
  obtain ⟨x3, rfl, b3, d3⟩ := aG_int g3
  dsimp only at b3 d3
  obtain ⟨x4, rfl, b4, d4⟩ := aG_int g4
  dsimp only at b4 d4
  obtain ⟨m1, m2, m3, m4⟩ := hM0
  have f0 : rB3 N K n p 486 [rI x0, rI x1, rI x2, rI x4] σ := by
    obtain ⟨w, e6, e7⟩ := m4 (7780, [0, 1, 2, 4]) (List.mem_of_getElem? (i := 0) rfl)
    obtain rfl : [rI x0, rI x1, rI x2, rI x4] = w := Option.some.inj (show some [rI x0, rI x1, rI x2, rI x4] = some w from e6)
    exact (rF_b (r := 7780) (by decide) rfl).mp e7
  have f0 := ro3_486.mp f0
  clear m1 m2 m3 m4
  have q0 : rB3 N K n p 470 [rI x0, rI x1, rI x2, rI x3, rI x4] σ := ro3_470.mpr (by
    rw [show x3.toInt = 0 by omega]
    exact ⟨by omega, by omega, f0⟩)
  exact ⟨p, fun _ => rfl, ⟨(fun q h => by cases h), fun q h => (by cases h), (fun f h => by cases h), (aAllc ⟨_, rfl, (rF_b (r := 7525) (by decide) rfl).mpr q0⟩ (fun f h => by cases h))⟩, [], List.mem_cons_self, fun f h => (by cases h)⟩
theorem rw_rkK1 {N : Int} {K : Nat → Nat} {n : Nat} {JX : (Nat → jcell) → Prop} : aGho (rH N K n) fa_T K n JX ag_rkK1 := by
  refine aGho_of ⟨rfl, rfl⟩ ?_
  intro p σ ρ hH hX hA hM0
  have hG := aAG_of hA.1 (fun i e v he hv => (hA.2 i e v he hv).1)
  clear hA
  obtain ⟨v0, v1, v2, rfl, g0, g1, g2⟩ := rA_3 hG
  clear hG
  obtain ⟨x0, rfl, b0, d0⟩ := aG_int g0
  dsimp only at b0 d0
  obtain ⟨x1, rfl, b1, d1⟩ := aG_int g1
  dsimp only at b1 d1
  obtain ⟨x2, rfl, b2, d2⟩ := aG_int g2
  dsimp only at b2 d2
  obtain ⟨m1, m2, m3, m4⟩ := hM0
  have l0 : 0 ≤ (1 * x1.toInt + (-1 * x2.toInt + 0)) + 0 := by
    obtain ⟨z, e6, e7⟩ := m3 ([(1, 1), (2, -1)], 0) (List.mem_of_getElem? (i := 0) rfl)
    obtain rfl : (1 * x1.toInt + (-1 * x2.toInt + 0)) = z := Option.some.inj (show some (1 * x1.toInt + (-1 * x2.toInt + 0)) = some z from e6)
    exact e7
  have l1 : 0 ≤ (-1 * x1.toInt + (1 * x2.toInt + 0)) + 0 := by
    obtain ⟨z, e6, e7⟩ := m3 ([(1, -1), (2, 1)], 0) (List.mem_of_getElem? (i := 1) rfl)
    obtain rfl : (-1 * x1.toInt + (1 * x2.toInt + 0)) = z := Option.some.inj (show some (-1 * x1.toInt + (1 * x2.toInt + 0)) = some z from e6)
    exact e7
  clear m1 m2 m3 m4
  have q0 : rB3 N K n p 473 [rI x0, rI x1, rI x2] σ := ro3_473.mpr (by
    intro _
    omega)
  exact ⟨p, fun _ => rfl, ⟨(fun q h => by cases h), fun q h => (by cases h), (fun f h => by cases h), (aAllc ⟨_, rfl, (rF_b (r := 7571) (by decide) rfl).mpr q0⟩ (fun f h => by cases h))⟩, [], List.mem_cons_self, fun f h => (by cases h)⟩
theorem rw_rkK0 {N : Int} {K : Nat → Nat} {n : Nat} {JX : (Nat → jcell) → Prop} : aGho (rH N K n) fa_T K n JX ag_rkK0 := by
  refine aGho_of ⟨rfl, rfl⟩ ?_
  intro p σ ρ hH hX hA hM0
  have hG := aAG_of hA.1 (fun i e v he hv => (hA.2 i e v he hv).1)
  clear hA
  obtain ⟨v0, v1, v2, rfl, g0, g1, g2⟩ := rA_3 hG
  clear hG
  obtain ⟨x0, rfl, b0, d0⟩ := aG_int g0
  dsimp only at b0 d0
  obtain ⟨x1, rfl, b1, d1⟩ := aG_int g1
  dsimp only at b1 d1
  obtain ⟨x2, rfl, b2, d2⟩ := aG_int g2
  dsimp only at b2 d2
  obtain ⟨m1, m2, m3, m4⟩ := hM0
  clear m1 m2 m3 m4
  have q0 : rB3 N K n p 473 [rI x0, rI x1, rI x2] σ := ro3_473.mpr (by
    intro h9
    exfalso
    omega)
  exact ⟨p, fun _ => rfl, ⟨(fun q h => by cases h), fun q h => (by cases h), (fun f h => by cases h), (aAllc ⟨_, rfl, (rF_b (r := 7571) (by decide) rfl).mpr q0⟩ (fun f h => by cases h))⟩, [], List.mem_cons_self, fun f h => (by cases h)⟩
theorem rw_rkO1 {N : Int} {K : Nat → Nat} {n : Nat} {JX : (Nat → jcell) → Prop} : aGho (rH N K n) fa_T K n JX ag_rkO1 := by
  refine aGho_of ⟨rfl, rfl⟩ ?_
  intro p σ ρ hH hX hA hM0
  have hG := aAG_of hA.1 (fun i e v he hv => (hA.2 i e v he hv).1)
  clear hA
  obtain ⟨v0, v1, v2, rfl, g0, g1, g2⟩ := rA_3 hG
  clear hG
  obtain ⟨x0, rfl, b0, d0⟩ := aG_int g0
  dsimp only at b0 d0
  obtain ⟨x1, rfl, b1, d1⟩ := aG_int g1
  dsimp only at b1 d1
  obtain ⟨x2, rfl, b2, d2⟩ := aG_int g2
  dsimp only at b2 d2
  obtain ⟨m1, m2, m3, m4⟩ := hM0
  have l0 : 0 ≤ (1 * x1.toInt + (-1 * x2.toInt + 0)) + 0 := by
    obtain ⟨z, e6, e7⟩ := m3 ([(1, 1), (2, -1)], 0) (List.mem_of_getElem? (i := 0) rfl)
    obtain rfl : (1 * x1.toInt + (-1 * x2.toInt + 0)) = z := Option.some.inj (show some (1 * x1.toInt + (-1 * x2.toInt + 0)) = some z from e6)
    exact e7
  have l1 : 0 ≤ (-1 * x1.toInt + (1 * x2.toInt + 0)) + 0 := by
    obtain ⟨z, e6, e7⟩ := m3 ([(1, -1), (2, 1)], 0) (List.mem_of_getElem? (i := 1) rfl)
    obtain rfl : (-1 * x1.toInt + (1 * x2.toInt + 0)) = z := Option.some.inj (show some (-1 * x1.toInt + (1 * x2.toInt + 0)) = some z from e6)
    exact e7
  clear m1 m2 m3 m4
  have q0 : rB3 N K n p 488 [rI x0, rI x1, rI x2, rI x2] σ := ro3_488.mpr (by
    intro _
    omega)
  exact ⟨p, fun _ => rfl, ⟨(fun q h => by cases h), fun q h => (by cases h), (fun f h => by cases h), (aAllc ⟨_, rfl, (rF_b (r := 7812) (by decide) rfl).mpr q0⟩ (fun f h => by cases h))⟩, [], List.mem_cons_self, fun f h => (by cases h)⟩
theorem rw_rkO0 {N : Int} {K : Nat → Nat} {n : Nat} {JX : (Nat → jcell) → Prop} : aGho (rH N K n) fa_T K n JX ag_rkO0 := by
  refine aGho_of ⟨rfl, rfl⟩ ?_
  intro p σ ρ hH hX hA hM0
  have hG := aAG_of hA.1 (fun i e v he hv => (hA.2 i e v he hv).1)
  clear hA
  obtain ⟨v0, v1, v2, rfl, g0, g1, g2⟩ := rA_3 hG
  clear hG
  obtain ⟨x0, rfl, b0, d0⟩ := aG_int g0
  dsimp only at b0 d0
  obtain ⟨x1, rfl, b1, d1⟩ := aG_int g1
  dsimp only at b1 d1
  obtain ⟨x2, rfl, b2, d2⟩ := aG_int g2
  dsimp only at b2 d2
  obtain ⟨m1, m2, m3, m4⟩ := hM0
  clear m1 m2 m3 m4
  have q0 : rB3 N K n p 488 [rI x0, rI x1, rI x2, rI x2] σ := ro3_488.mpr (by
    intro h9
    exfalso
    omega)
  exact ⟨p, fun _ => rfl, ⟨(fun q h => by cases h), fun q h => (by cases h), (fun f h => by cases h), (aAllc ⟨_, rfl, (rF_b (r := 7812) (by decide) rfl).mpr q0⟩ (fun f h => by cases h))⟩, [], List.mem_cons_self, fun f h => (by cases h)⟩
theorem rw_rkCk {N : Int} {K : Nat → Nat} {n : Nat} {JX : (Nat → jcell) → Prop} : aGho (rH N K n) fa_T K n JX ag_rkCk := by
  refine aGho_of ⟨rfl, rfl⟩ ?_
  intro p σ ρ hH hX hA hM0
  have hG := aAG_of hA.1 (fun i e v he hv => (hA.2 i e v he hv).1)
  clear hA
  obtain ⟨v0, v1, v2, v3, v4, v5, v6, rfl, g0, g1, g2, g3, g4, g5, g6⟩ := rA_7 hG
  clear hG
  obtain ⟨x0, rfl, b0, d0⟩ := aG_int g0
  dsimp only at b0 d0
  obtain ⟨x1, rfl, b1, d1⟩ := aG_int g1
  dsimp only at b1 d1
  obtain ⟨x2, rfl, b2, d2⟩ := aG_int g2
  dsimp only at b2 d2
  obtain ⟨x3, rfl, b3, d3⟩ := aG_int g3
  dsimp only at b3 d3
  obtain ⟨x4, rfl, b4, d4⟩ := aG_int g4
  dsimp only at b4 d4
  obtain ⟨x5, rfl, b5, d5⟩ := aG_int g5
  dsimp only at b5 d5
  obtain ⟨x6, rfl, b6, d6⟩ := aG_int g6
  dsimp only at b6 d6
  obtain ⟨m1, m2, m3, m4⟩ := hM0
  have l0 : 0 ≤ (1 * x5.toInt + (-1 * x4.toInt + 0)) + -1 := by
    obtain ⟨z, e6, e7⟩ := m3 ([(5, 1), (4, -1)], -1) (List.mem_of_getElem? (i := 0) rfl)
    obtain rfl : (1 * x5.toInt + (-1 * x4.toInt + 0)) = z := Option.some.inj (show some (1 * x5.toInt + (-1 * x4.toInt + 0)) = some z from e6)
    exact e7
  have l1 : 0 ≤ (-1 * x5.toInt + (1 * x4.toInt + 0)) + 1 := by
    obtain ⟨z, e6, e7⟩ := m3 ([(5, -1), (4, 1)], 1) (List.mem_of_getElem? (i := 1) rfl)
    obtain rfl : (-1 * x5.toInt + (1 * x4.toInt + 0)) = z := Option.some.inj (show some (-1 * x5.toInt + (1 * x4.toInt + 0)) = some z from e6)
    exact e7
  have f0 : rB3 N K n p 470 [rI x0, rI x1, rI x2, rI x3, rI x4] σ := by
    obtain ⟨w, e6, e7⟩ := m4 (7525, [0, 1, 2, 3, 4]) (List.mem_of_getElem? (i := 0) rfl)
    obtain rfl : [rI x0, rI x1, rI x2, rI x3, rI x4] = w := Option.some.inj (show some [rI x0, rI x1, rI x2, rI x3, rI x4] = some w from e6)
    exact (rF_b (r := 7525) (by decide) rfl).mp e7
  have f0 := ro3_470.mp f0
  have f1 : rB3 N K n p 487 [rI x0, rI x3] σ := by
    obtain ⟨w, e6, e7⟩ := m4 (7794, [0, 3]) (List.mem_of_getElem? (i := 1) rfl)
    obtain rfl : [rI x0, rI x3] = w := Option.some.inj (show some [rI x0, rI x3] = some w from e6)
    exact (rF_b (r := 7794) (by decide) rfl).mp e7
  have f1 := ro3_487.mp f1
  have f2 : rB3 N K n p 473 [rI x6, rI x2, rI x0] σ := by
    obtain ⟨w, e6, e7⟩ := m4 (7571, [6, 2, 0]) (List.mem_of_getElem? (i := 2) rfl)
    obtain rfl : [rI x6, rI x2, rI x0] = w := Option.some.inj (show some [rI x6, rI x2, rI x0] = some w from e6)
    exact (rF_b (r := 7571) (by decide) rfl).mp e7
  have f2 := ro3_473.mp f2
  clear m1 m2 m3 m4
  have q0 : rB3 N K n p 471 [rI x0, rI x1, rI x2, rI x3, rI x5] σ := ro3_471.mpr (by
    obtain ⟨h1, h2, h3⟩ := f0
    have h := rJb_k (m := x1.toInt) h1 (f2 (by omega)) f1
    exact ⟨h1, d3, by omega⟩)
  exact ⟨p, fun _ => rfl, ⟨(fun q h => by cases h), fun q h => (by cases h), (fun f h => by cases h), (aAllc ⟨_, rfl, (rF_b (r := 7541) (by decide) rfl).mpr q0⟩ (fun f h => by cases h))⟩, [], List.mem_cons_self, fun f h => (by cases h)⟩
theorem rw_rkCm {N : Int} {K : Nat → Nat} {n : Nat} {JX : (Nat → jcell) → Prop} : aGho (rH N K n) fa_T K n JX ag_rkCm := by
  refine aGho_of ⟨rfl, rfl⟩ ?_
  intro p σ ρ hH hX hA hM0
  have hG := aAG_of hA.1 (fun i e v he hv => (hA.2 i e v he hv).1)
  clear hA
  obtain ⟨v0, v1, v2, v3, v4, v5, v6, v7, rfl, g0, g1, g2, g3, g4, g5, g6, g7⟩ := rA_8 hG
  clear hG
  obtain ⟨x0, rfl, b0, d0⟩ := aG_int g0
  dsimp only at b0 d0
  obtain ⟨x1, rfl, b1, d1⟩ := aG_int g1
  dsimp only at b1 d1
  obtain ⟨x2, rfl, b2, d2⟩ := aG_int g2
  dsimp only at b2 d2
  obtain ⟨x3, rfl, b3, d3⟩ := aG_int g3
  dsimp only at b3 d3
  obtain ⟨x4, rfl, b4, d4⟩ := aG_int g4
  dsimp only at b4 d4
  obtain ⟨x5, rfl, b5, d5⟩ := aG_int g5
  dsimp only at b5 d5
  obtain ⟨x6, rfl, b6, d6⟩ := aG_int g6
  dsimp only at b6 d6
  obtain ⟨x7, rfl, b7, d7⟩ := aG_int g7
  dsimp only at b7 d7
  obtain ⟨m1, m2, m3, m4⟩ := hM0
  have l0 : 0 ≤ (1 * x5.toInt + (-1 * x4.toInt + 0)) + -1 := by
    obtain ⟨z, e6, e7⟩ := m3 ([(5, 1), (4, -1)], -1) (List.mem_of_getElem? (i := 0) rfl)
    obtain rfl : (1 * x5.toInt + (-1 * x4.toInt + 0)) = z := Option.some.inj (show some (1 * x5.toInt + (-1 * x4.toInt + 0)) = some z from e6)
    exact e7
  have l1 : 0 ≤ (-1 * x5.toInt + (1 * x4.toInt + 0)) + 1 := by
    obtain ⟨z, e6, e7⟩ := m3 ([(5, -1), (4, 1)], 1) (List.mem_of_getElem? (i := 1) rfl)
    obtain rfl : (-1 * x5.toInt + (1 * x4.toInt + 0)) = z := Option.some.inj (show some (-1 * x5.toInt + (1 * x4.toInt + 0)) = some z from e6)
    exact e7
  have f0 : rB3 N K n p 470 [rI x0, rI x1, rI x2, rI x3, rI x4] σ := by
    obtain ⟨w, e6, e7⟩ := m4 (7525, [0, 1, 2, 3, 4]) (List.mem_of_getElem? (i := 0) rfl)
    obtain rfl : [rI x0, rI x1, rI x2, rI x3, rI x4] = w := Option.some.inj (show some [rI x0, rI x1, rI x2, rI x3, rI x4] = some w from e6)
    exact (rF_b (r := 7525) (by decide) rfl).mp e7
  have f0 := ro3_470.mp f0
  have f1 : rB3 N K n p 485 [rI x1, rI x3, rI x6] σ := by
    obtain ⟨w, e6, e7⟩ := m4 (7763, [1, 3, 6]) (List.mem_of_getElem? (i := 1) rfl)
    obtain rfl : [rI x1, rI x3, rI x6] = w := Option.some.inj (show some [rI x1, rI x3, rI x6] = some w from e6)
    exact (rF_b (r := 7763) (by decide) rfl).mp e7
  have f1 := ro3_485.mp f1
  have f2 : rB3 N K n p 488 [rI x7, rI x2, rI x1, rI x1] σ := by
    obtain ⟨w, e6, e7⟩ := m4 (7812, [7, 2, 1, 1]) (List.mem_of_getElem? (i := 2) rfl)
    obtain rfl : [rI x7, rI x2, rI x1, rI x1] = w := Option.some.inj (show some [rI x7, rI x2, rI x1, rI x1] = some w from e6)
    exact (rF_b (r := 7812) (by decide) rfl).mp e7
  have f2 := ro3_488.mp f2
  clear m1 m2 m3 m4
  have q0 : rB3 N K n p 471 [rI x0, rI x1, rI x2, rI x3, rI x5] σ := ro3_471.mpr (by
    obtain ⟨h1, h2, h3⟩ := f0
    have h := rJb_m (k := x0.toInt) h1 (f2 (by omega)) (f1 (by omega))
    exact ⟨h1, d3, by omega⟩)
  exact ⟨p, fun _ => rfl, ⟨(fun q h => by cases h), fun q h => (by cases h), (fun f h => by cases h), (aAllc ⟨_, rfl, (rF_b (r := 7541) (by decide) rfl).mpr q0⟩ (fun f h => by cases h))⟩, [], List.mem_cons_self, fun f h => (by cases h)⟩
theorem rw_rkCp {N : Int} {K : Nat → Nat} {n : Nat} {JX : (Nat → jcell) → Prop} : aGho (rH N K n) fa_T K n JX ag_rkCp := by
  refine aGho_of ⟨rfl, rfl⟩ ?_
  intro p σ ρ hH hX hA hM0
  have hG := aAG_of hA.1 (fun i e v he hv => (hA.2 i e v he hv).1)
  clear hA
  obtain ⟨v0, v1, v2, v3, v4, v5, v6, rfl, g0, g1, g2, g3, g4, g5, g6⟩ := rA_7 hG
  clear hG
  obtain ⟨x0, rfl, b0, d0⟩ := aG_int g0
  dsimp only at b0 d0
  obtain ⟨x1, rfl, b1, d1⟩ := aG_int g1
  dsimp only at b1 d1
  obtain ⟨x2, rfl, b2, d2⟩ := aG_int g2
  dsimp only at b2 d2
  obtain ⟨x3, rfl, b3, d3⟩ := aG_int g3
  dsimp only at b3 d3
  obtain ⟨x4, rfl, b4, d4⟩ := aG_int g4
  dsimp only at b4 d4
  obtain ⟨x5, rfl, b5, d5⟩ := aG_int g5
  dsimp only at b5 d5
  obtain ⟨x6, rfl, b6, d6⟩ := aG_int g6
  dsimp only at b6 d6
  obtain ⟨m1, m2, m3, m4⟩ := hM0
  have l0 : 0 ≤ (1 * x4.toInt + (-1 * x5.toInt + 0)) + 4 := by
    obtain ⟨z, e6, e7⟩ := m3 ([(4, 1), (5, -1)], 4) (List.mem_of_getElem? (i := 0) rfl)
    obtain rfl : (1 * x4.toInt + (-1 * x5.toInt + 0)) = z := Option.some.inj (show some (1 * x4.toInt + (-1 * x5.toInt + 0)) = some z from e6)
    exact e7
  have l1 : 0 ≤ (1 * x3.toInt + (-1 * x1.toInt + 0)) + -8 := by
    obtain ⟨z, e6, e7⟩ := m3 ([(3, 1), (1, -1)], -8) (List.mem_of_getElem? (i := 1) rfl)
    obtain rfl : (1 * x3.toInt + (-1 * x1.toInt + 0)) = z := Option.some.inj (show some (1 * x3.toInt + (-1 * x1.toInt + 0)) = some z from e6)
    exact e7
  have l2 : 0 ≤ (-1 * x3.toInt + (1 * x1.toInt + 0)) + 8 := by
    obtain ⟨z, e6, e7⟩ := m3 ([(3, -1), (1, 1)], 8) (List.mem_of_getElem? (i := 2) rfl)
    obtain rfl : (-1 * x3.toInt + (1 * x1.toInt + 0)) = z := Option.some.inj (show some (-1 * x3.toInt + (1 * x1.toInt + 0)) = some z from e6)
    exact e7
  have f0 : rB3 N K n p 470 [rI x0, rI x1, rI x2, rI x3, rI x4] σ := by
    obtain ⟨w, e6, e7⟩ := m4 (7525, [0, 1, 2, 3, 4]) (List.mem_of_getElem? (i := 0) rfl)
    obtain rfl : [rI x0, rI x1, rI x2, rI x3, rI x4] = w := Option.some.inj (show some [rI x0, rI x1, rI x2, rI x3, rI x4] = some w from e6)
    exact (rF_b (r := 7525) (by decide) rfl).mp e7
  have f0 := ro3_470.mp f0
  have f1 : rB3 N K n p 488 [rI x6, rI x2, rI x1, rI x1] σ := by
    obtain ⟨w, e6, e7⟩ := m4 (7812, [6, 2, 1, 1]) (List.mem_of_getElem? (i := 1) rfl)
    obtain rfl : [rI x6, rI x2, rI x1, rI x1] = w := Option.some.inj (show some [rI x6, rI x2, rI x1, rI x1] = some w from e6)
    exact (rF_b (r := 7812) (by decide) rfl).mp e7
  have f1 := ro3_488.mp f1
  clear m1 m2 m3 m4
  have q0 : rB3 N K n p 471 [rI x0, rI x1, rI x2, rI x3, rI x5] σ := ro3_471.mpr (by
    obtain ⟨h1, h2, h3⟩ := f0
    have h := rJb_p (k := x0.toInt) h1 (f1 (by omega)) (show x3.toInt = x1.toInt + 8 by omega)
    exact ⟨h1, d3, by omega⟩)
  exact ⟨p, fun _ => rfl, ⟨(fun q h => by cases h), fun q h => (by cases h), (fun f h => by cases h), (aAllc ⟨_, rfl, (rF_b (r := 7541) (by decide) rfl).mpr q0⟩ (fun f h => by cases h))⟩, [], List.mem_cons_self, fun f h => (by cases h)⟩
theorem rw_rkCs {N : Int} {K : Nat → Nat} {n : Nat} {JX : (Nat → jcell) → Prop} : aGho (rH N K n) fa_T K n JX ag_rkCs := by
  refine aGho_of ⟨rfl, rfl⟩ ?_
  intro p σ ρ hH hX hA hM0
  have hG := aAG_of hA.1 (fun i e v he hv => (hA.2 i e v he hv).1)
  clear hA
  obtain ⟨v0, v1, v2, v3, v4, rfl, g0, g1, g2, g3, g4⟩ := rA_5 hG
  clear hG
  obtain ⟨x0, rfl, b0, d0⟩ := aG_int g0
  dsimp only at b0 d0
  obtain ⟨x1, rfl, b1, d1⟩ := aG_int g1
  dsimp only at b1 d1
  obtain ⟨x2, rfl, b2, d2⟩ := aG_int g2
  dsimp only at b2 d2
  obtain ⟨x3, rfl, b3, d3⟩ := aG_int g3
  dsimp only at b3 d3
  obtain ⟨x4, rfl, b4, d4⟩ := aG_int g4
  dsimp only at b4 d4
  obtain ⟨m1, m2, m3, m4⟩ := hM0
  have f0 : rB3 N K n p 470 [rI x0, rI x1, rI x2, rI x3, rI x4] σ := by
    obtain ⟨w, e6, e7⟩ := m4 (7525, [0, 1, 2, 3, 4]) (List.mem_of_getElem? (i := 0) rfl)
    obtain rfl : [rI x0, rI x1, rI x2, rI x3, rI x4] = w := Option.some.inj (show some [rI x0, rI x1, rI x2, rI x3, rI x4] = some w from e6)
    exact (rF_b (r := 7525) (by decide) rfl).mp e7
  have f0 := ro3_470.mp f0
  clear m1 m2 m3 m4
  have q0 : rB3 N K n p 471 [rI x0, rI x1, rI x2, rI x3, rI x4] σ := ro3_471.mpr (by
    obtain ⟨h1, h2, h3⟩ := f0
    have h := rJb_s (k := x0.toInt) (m := x1.toInt) (fr := x2.toInt) h1
    exact ⟨h1, d3, by omega⟩)
  exact ⟨p, fun _ => rfl, ⟨(fun q h => by cases h), fun q h => (by cases h), (fun f h => by cases h), (aAllc ⟨_, rfl, (rF_b (r := 7541) (by decide) rfl).mpr q0⟩ (fun f h => by cases h))⟩, [], List.mem_cons_self, fun f h => (by cases h)⟩
theorem rw_rkCn {N : Int} {K : Nat → Nat} {n : Nat} {JX : (Nat → jcell) → Prop} : aGho (rH N K n) fa_T K n JX ag_rkCn := by
  refine aGho_of ⟨rfl, rfl⟩ ?_
  intro p σ ρ hH hX hA hM0
  have hG := aAG_of hA.1 (fun i e v he hv => (hA.2 i e v he hv).1)
  clear hA
  obtain ⟨v0, v1, v2, v3, v4, v5, rfl, g0, g1, g2, g3, g4, g5⟩ := rA_6 hG
  clear hG
  obtain ⟨x0, rfl, b0, d0⟩ := aG_int g0
  dsimp only at b0 d0
  obtain ⟨x1, rfl, b1, d1⟩ := aG_int g1
  dsimp only at b1 d1
  obtain ⟨x2, rfl, b2, d2⟩ := aG_int g2
  dsimp only at b2 d2
  obtain ⟨x3, rfl, b3, d3⟩ := aG_int g3
  dsimp only at b3 d3
  obtain ⟨x4, rfl, b4, d4⟩ := aG_int g4
  dsimp only at b4 d4
  obtain ⟨x5, rfl, b5, d5⟩ := aG_int g5
  dsimp only at b5 d5
  obtain ⟨m1, m2, m3, m4⟩ := hM0
  have l0 : 0 ≤ (1 * x4.toInt + (-1 * x3.toInt + 0)) + -1 := by
    obtain ⟨z, e6, e7⟩ := m3 ([(4, 1), (3, -1)], -1) (List.mem_of_getElem? (i := 0) rfl)
    obtain rfl : (1 * x4.toInt + (-1 * x3.toInt + 0)) = z := Option.some.inj (show some (1 * x4.toInt + (-1 * x3.toInt + 0)) = some z from e6)
    exact e7
  have l1 : 0 ≤ (-1 * x4.toInt + (1 * x3.toInt + 0)) + 1 := by
    obtain ⟨z, e6, e7⟩ := m3 ([(4, -1), (3, 1)], 1) (List.mem_of_getElem? (i := 1) rfl)
    obtain rfl : (-1 * x4.toInt + (1 * x3.toInt + 0)) = z := Option.some.inj (show some (-1 * x4.toInt + (1 * x3.toInt + 0)) = some z from e6)
    exact e7
  have f0 : rB3 N K n p 471 [rI x0, rI x1, rI x2, rI x3, rI x5] σ := by
    obtain ⟨w, e6, e7⟩ := m4 (7541, [0, 1, 2, 3, 5]) (List.mem_of_getElem? (i := 0) rfl)
    obtain rfl : [rI x0, rI x1, rI x2, rI x3, rI x5] = w := Option.some.inj (show some [rI x0, rI x1, rI x2, rI x3, rI x5] = some w from e6)
    exact (rF_b (r := 7541) (by decide) rfl).mp e7
  have f0 := ro3_471.mp f0
  clear m1 m2 m3 m4
  have q0 : rB3 N K n p 470 [rI x0, rI x1, rI x2, rI x4, rI x5] σ := ro3_470.mpr (by
    obtain ⟨h1, h2, h3⟩ := f0
    rw [show x4.toInt = x3.toInt + 1 by omega]
    exact ⟨by omega, by omega, h3⟩)
  exact ⟨p, fun _ => rfl, ⟨(fun q h => by cases h), fun q h => (by cases h), (fun f h => by cases h), (aAllc ⟨_, rfl, (rF_b (r := 7525) (by decide) rfl).mpr q0⟩ (fun f h => by cases h))⟩, [], List.mem_cons_self, fun f h => (by cases h)⟩
theorem rw_rkCe {N : Int} {K : Nat → Nat} {n : Nat} {JX : (Nat → jcell) → Prop} : aGho (rH N K n) fa_T K n JX ag_rkCe := by
  refine aGho_of ⟨rfl, rfl⟩ ?_
  intro p σ ρ hH hX hA hM0
  have hG := aAG_of hA.1 (fun i e v he hv => (hA.2 i e v he hv).1)
  clear hA
  obtain ⟨v0, v1, v2, v3, v4, v5, rfl, g0, g1, g2, g3, g4, g5⟩ := rA_6 hG
  clear hG
  obtain ⟨x0, rfl, b0, d0⟩ := aG_int g0
  dsimp only at b0 d0
  obtain ⟨x1, rfl, b1, d1⟩ := aG_int g1
  dsimp only at b1 d1
  obtain ⟨x2, rfl, b2, d2⟩ := aG_int g2
  dsimp only at b2 d2
  obtain ⟨x3, rfl, b3, d3⟩ := aG_int g3
  dsimp only at b3 d3
  obtain ⟨x4, rfl, b4, d4⟩ := aG_int g4
  dsimp only at b4 d4
  obtain ⟨x5, rfl, b5, d5⟩ := aG_int g5
  dsimp only at b5 d5
  obtain ⟨m1, m2, m3, m4⟩ := hM0
  have l0 : 0 ≤ (1 * x4.toInt + (-1 * x2.toInt + 0)) + -1 := by
    obtain ⟨z, e6, e7⟩ := m3 ([(4, 1), (2, -1)], -1) (List.mem_of_getElem? (i := 0) rfl)
    obtain rfl : (1 * x4.toInt + (-1 * x2.toInt + 0)) = z := Option.some.inj (show some (1 * x4.toInt + (-1 * x2.toInt + 0)) = some z from e6)
    exact e7
  have l1 : 0 ≤ (-1 * x4.toInt + (1 * x2.toInt + 0)) + 1 := by
    obtain ⟨z, e6, e7⟩ := m3 ([(4, -1), (2, 1)], 1) (List.mem_of_getElem? (i := 1) rfl)
    obtain rfl : (-1 * x4.toInt + (1 * x2.toInt + 0)) = z := Option.some.inj (show some (-1 * x4.toInt + (1 * x2.toInt + 0)) = some z from e6)
    exact e7
  have f0 : rB3 N K n p 470 [rI x0, rI x1, rI x2, rI x3, rI x5] σ := by
    obtain ⟨w, e6, e7⟩ := m4 (7525, [0, 1, 2, 3, 5]) (List.mem_of_getElem? (i := 0) rfl)
    obtain rfl : [rI x0, rI x1, rI x2, rI x3, rI x5] = w := Option.some.inj (show some [rI x0, rI x1, rI x2, rI x3, rI x5] = some w from e6)
    exact (rF_b (r := 7525) (by decide) rfl).mp e7
  have f0 := ro3_470.mp f0
  clear m1 m2 m3 m4
  have q0 : rB3 N K n p 486 [rI x0, rI x1, rI x4, rI x5] σ := ro3_486.mpr (by
    obtain ⟨h1, h2, h3⟩ := f0
    have h := rJb_e (fr := x2.toInt) ⟨b0, d0⟩ ⟨b1, d1⟩ ⟨h1, h2⟩
    rw [show x4.toInt = x2.toInt + 1 by omega]
    omega)
  exact ⟨p, fun _ => rfl, ⟨(fun q h => by cases h), fun q h => (by cases h), (fun f h => by cases h), (aAllc ⟨_, rfl, (rF_b (r := 7780) (by decide) rfl).mpr q0⟩ (fun f h => by cases h))⟩, [], List.mem_cons_self, fun f h => (by cases h)⟩
theorem rw_rkCb {N : Int} {K : Nat → Nat} {n : Nat} {JX : (Nat → jcell) → Prop} : aGho (rH N K n) fa_T K n JX ag_rkCb := by
  refine aGho_of ⟨rfl, rfl⟩ ?_
  intro p σ ρ hH hX hA hM0
  have hG := aAG_of hA.1 (fun i e v he hv => (hA.2 i e v he hv).1)
  clear hA
  obtain ⟨v0, v1, v2, v3, v4, rfl, g0, g1, g2, g3, g4⟩ := rA_5 hG
  clear hG
  obtain ⟨x0, rfl, b0, d0⟩ := aG_int g0
  dsimp only at b0 d0
  obtain ⟨x1, rfl, b1, d1⟩ := aG_int g1
  dsimp only at b1 d1
  obtain ⟨x2, rfl, b2, d2⟩ := aG_int g2
  dsimp only at b2 d2
  obtain ⟨x3, rfl, b3, d3⟩ := aG_int g3
  dsimp only at b3 d3
  obtain ⟨x4, rfl, b4, d4⟩ := aG_int g4
  dsimp only at b4 d4
  obtain ⟨m1, m2, m3, m4⟩ := hM0
  have f0 : rB3 N K n p 470 [rI x0, rI x1, rI x2, rI x3, rI x4] σ := by
    obtain ⟨w, e6, e7⟩ := m4 (7525, [0, 1, 2, 3, 4]) (List.mem_of_getElem? (i := 0) rfl)
    obtain rfl : [rI x0, rI x1, rI x2, rI x3, rI x4] = w := Option.some.inj (show some [rI x0, rI x1, rI x2, rI x3, rI x4] = some w from e6)
    exact (rF_b (r := 7525) (by decide) rfl).mp e7
  have f0 := ro3_470.mp f0
  clear m1 m2 m3 m4
  have r0 : 0 ≤ (-1 * x4.toInt + 0) + 50 := by
    obtain ⟨h1, h2, h3⟩ := f0
    have h := rJb_b (fr := x2.toInt) ⟨b0, d0⟩ ⟨b1, d1⟩ ⟨h1, h2⟩
    omega
  exact ⟨p, fun _ => rfl, ⟨(fun q h => by cases h), fun q h => (by cases h), (aAllc ⟨_, rfl, r0⟩ (fun f h => by cases h)), (fun f h => by cases h)⟩, [], List.mem_cons_self, fun f h => (by cases h)⟩
theorem rw_rkS2 {N : Int} {K : Nat → Nat} {n : Nat} {JX : (Nat → jcell) → Prop} : aGho (rH N K n) fa_T K n JX ag_rkS2 := by
  refine aGho_of ⟨rfl, rfl⟩ ?_
  intro p σ ρ hH hX hA hM0
  have hG := aAG_of hA.1 (fun i e v he hv => (hA.2 i e v he hv).1)
  clear hA
  obtain ⟨v0, v1, rfl, g0, g1⟩ := rA_2 hG
  clear hG
  obtain ⟨x0, rfl, b0, d0⟩ := aG_int g0
  dsimp only at b0 d0
  obtain ⟨x1, rfl, b1, d1⟩ := aG_int g1
  dsimp only at b1 d1
  obtain ⟨m1, m2, m3, m4⟩ := hM0
  have l0 : 0 ≤ (1 * x1.toInt + (-1 * x0.toInt + 0)) + -2 := by
    obtain ⟨z, e6, e7⟩ := m3 ([(1, 1), (0, -1)], -2) (List.mem_of_getElem? (i := 0) rfl)
    obtain rfl : (1 * x1.toInt + (-1 * x0.toInt + 0)) = z := Option.some.inj (show some (1 * x1.toInt + (-1 * x0.toInt + 0)) = some z from e6)
    exact e7
  have l1 : 0 ≤ (-1 * x1.toInt + (1 * x0.toInt + 0)) + 2 := by
    obtain ⟨z, e6, e7⟩ := m3 ([(1, -1), (0, 1)], 2) (List.mem_of_getElem? (i := 1) rfl)
    obtain rfl : (-1 * x1.toInt + (1 * x0.toInt + 0)) = z := Option.some.inj (show some (-1 * x1.toInt + (1 * x0.toInt + 0)) = some z from e6)
    exact e7
  clear m1 m2 m3 m4
  have r0 : 0 ≤ (1 * x1.toInt + (-1 * x0.toInt + 0)) + -2 := by
    omega
  have r1 : 0 ≤ (-1 * x1.toInt + (1 * x0.toInt + 0)) + 2 := by
    omega
  exact ⟨p, fun _ => rfl, ⟨(fun q h => by cases h), fun q h => (by cases h), (aAllc ⟨_, rfl, r0⟩ (aAllc ⟨_, rfl, r1⟩ (fun f h => by cases h))), (fun f h => by cases h)⟩, [], List.mem_cons_self, fun f h => (by cases h)⟩
theorem rw_rkS3 {N : Int} {K : Nat → Nat} {n : Nat} {JX : (Nat → jcell) → Prop} : aGho (rH N K n) fa_T K n JX ag_rkS3 := by
  refine aGho_of ⟨rfl, rfl⟩ ?_
  intro p σ ρ hH hX hA hM0
  have hG := aAG_of hA.1 (fun i e v he hv => (hA.2 i e v he hv).1)
  clear hA
  obtain ⟨v0, v1, rfl, g0, g1⟩ := rA_2 hG
  clear hG
  obtain ⟨x0, rfl, b0, d0⟩ := aG_int g0
  dsimp only at b0 d0
  obtain ⟨x1, rfl, b1, d1⟩ := aG_int g1
  dsimp only at b1 d1
  obtain ⟨m1, m2, m3, m4⟩ := hM0
  have l0 : 0 ≤ (1 * x1.toInt + (-1 * x0.toInt + 0)) + -3 := by
    obtain ⟨z, e6, e7⟩ := m3 ([(1, 1), (0, -1)], -3) (List.mem_of_getElem? (i := 0) rfl)
    obtain rfl : (1 * x1.toInt + (-1 * x0.toInt + 0)) = z := Option.some.inj (show some (1 * x1.toInt + (-1 * x0.toInt + 0)) = some z from e6)
    exact e7
  have l1 : 0 ≤ (-1 * x1.toInt + (1 * x0.toInt + 0)) + 3 := by
    obtain ⟨z, e6, e7⟩ := m3 ([(1, -1), (0, 1)], 3) (List.mem_of_getElem? (i := 1) rfl)
    obtain rfl : (-1 * x1.toInt + (1 * x0.toInt + 0)) = z := Option.some.inj (show some (-1 * x1.toInt + (1 * x0.toInt + 0)) = some z from e6)
    exact e7
  clear m1 m2 m3 m4
  have r0 : 0 ≤ (1 * x1.toInt + (-1 * x0.toInt + 0)) + -3 := by
    omega
  have r1 : 0 ≤ (-1 * x1.toInt + (1 * x0.toInt + 0)) + 3 := by
    omega
  exact ⟨p, fun _ => rfl, ⟨(fun q h => by cases h), fun q h => (by cases h), (aAllc ⟨_, rfl, r0⟩ (aAllc ⟨_, rfl, r1⟩ (fun f h => by cases h))), (fun f h => by cases h)⟩, [], List.mem_cons_self, fun f h => (by cases h)⟩
theorem rw_rkS4 {N : Int} {K : Nat → Nat} {n : Nat} {JX : (Nat → jcell) → Prop} : aGho (rH N K n) fa_T K n JX ag_rkS4 := by
  refine aGho_of ⟨rfl, rfl⟩ ?_
  intro p σ ρ hH hX hA hM0
  have hG := aAG_of hA.1 (fun i e v he hv => (hA.2 i e v he hv).1)
  clear hA
  obtain ⟨v0, v1, rfl, g0, g1⟩ := rA_2 hG
  clear hG
  obtain ⟨x0, rfl, b0, d0⟩ := aG_int g0
  dsimp only at b0 d0
  obtain ⟨x1, rfl, b1, d1⟩ := aG_int g1
  dsimp only at b1 d1
  obtain ⟨m1, m2, m3, m4⟩ := hM0
  have l0 : 0 ≤ (1 * x1.toInt + (-1 * x0.toInt + 0)) + -4 := by
    obtain ⟨z, e6, e7⟩ := m3 ([(1, 1), (0, -1)], -4) (List.mem_of_getElem? (i := 0) rfl)
    obtain rfl : (1 * x1.toInt + (-1 * x0.toInt + 0)) = z := Option.some.inj (show some (1 * x1.toInt + (-1 * x0.toInt + 0)) = some z from e6)
    exact e7
  have l1 : 0 ≤ (-1 * x1.toInt + (1 * x0.toInt + 0)) + 4 := by
    obtain ⟨z, e6, e7⟩ := m3 ([(1, -1), (0, 1)], 4) (List.mem_of_getElem? (i := 1) rfl)
    obtain rfl : (-1 * x1.toInt + (1 * x0.toInt + 0)) = z := Option.some.inj (show some (-1 * x1.toInt + (1 * x0.toInt + 0)) = some z from e6)
    exact e7
  clear m1 m2 m3 m4
  have r0 : 0 ≤ (1 * x1.toInt + (-1 * x0.toInt + 0)) + -4 := by
    omega
  have r1 : 0 ≤ (-1 * x1.toInt + (1 * x0.toInt + 0)) + 4 := by
    omega
  exact ⟨p, fun _ => rfl, ⟨(fun q h => by cases h), fun q h => (by cases h), (aAllc ⟨_, rfl, r0⟩ (aAllc ⟨_, rfl, r1⟩ (fun f h => by cases h))), (fun f h => by cases h)⟩, [], List.mem_cons_self, fun f h => (by cases h)⟩
theorem rw_rkZn {N : Int} {K : Nat → Nat} {n : Nat} {JX : (Nat → jcell) → Prop} : aGho (rH N K n) fa_T K n JX ag_rkZn := by
  refine aGho_of ⟨rfl, rfl⟩ ?_
  intro p σ ρ hH hX hA hM0
  have hG := aAG_of hA.1 (fun i e v he hv => (hA.2 i e v he hv).1)
  clear hA
  obtain ⟨v0, v1, v2, v3, v4, v5, v6, v7, v8, v9, v10, v11, v12, v13, v14, rfl, g0, g1, g2, g3, g4, g5, g6, g7, g8, g9, g10, g11, g12, g13, g14⟩ := rA_15 hG
  clear hG
  obtain ⟨x0, rfl, b0, d0⟩ := rG_ref (by decide) g0
  obtain ⟨x1, rfl, b1, d1⟩ := aG_int g1
  dsimp only at b1 d1
  obtain ⟨x2, rfl, b2, d2⟩ := aG_int g2
  dsimp only at b2 d2
  obtain ⟨x3, rfl, b3, d3⟩ := aG_int g3
  dsimp only at b3 d3
  obtain ⟨x4, rfl, b4, d4⟩ := aG_int g4
  dsimp only at b4 d4
  obtain ⟨x5, rfl, b5, d5⟩ := aG_int g5
  dsimp only at b5 d5
  obtain ⟨x6, rfl, b6, d6⟩ := aG_int g6
  dsimp only at b6 d6
  obtain ⟨x7, rfl, b7, d7⟩ := rG_ref (by decide) g7
  obtain ⟨x8, rfl, b8, d8⟩ := aG_int g8
  dsimp only at b8 d8
  obtain ⟨x9, rfl, b9, d9⟩ := aG_int g9
  dsimp only at b9 d9
  obtain ⟨x10, rfl⟩ := aG_lng g10
  obtain ⟨x11, rfl⟩ := aG_lng g11
  obtain ⟨x12, rfl, b12, d12⟩ := aG_int g12
  dsimp only at b12 d12
  obtain ⟨x13, rfl⟩ := aG_lng g13
  obtain ⟨x14, rfl⟩ := aG_lng g14
  obtain ⟨m1, m2, m3, m4⟩ := hM0
  obtain ⟨a0, c0, fs0, w0, e1, s0, t0, e4⟩ := m1 (0, 3, 7) (List.mem_of_getElem? (i := 0) rfl)
  obtain rfl : x0 = a0 := Sum.inl.inj (Option.some.inj (Sum.inr.inj (Sum.inr.inj (Option.some.inj (show some (rR x0) = some _ from e1)))))
  obtain rfl : rR x7 = w0 := Option.some.inj (show some (rR x7) = some w0 from e4)
  clear e1 e4
  obtain ⟨a, mc0, ty0, gc0, ic0, e1, sc0, jc0, e4, e5⟩ := m2 (7, ([(8, 1)], 0), 10) (List.mem_of_getElem? (i := 0) rfl)
  obtain rfl : x7 = a := Sum.inl.inj (Option.some.inj (Sum.inr.inj (Sum.inr.inj (Option.some.inj (show some (rR x7) = some _ from e1)))))
  obtain ⟨gc0, rfl⟩ : ∃ g, gc0 = .inr g := by
    rcases gc0 with g | g
    · exact absurd (show some (rL x10) = some (.inl (g ic0)) from e5) (fun h => by cases h)
    · exact ⟨g, rfl⟩
  have sc0 : σ x7 = .inl (ty0, mc0, .inr (.inl gc0)) := sc0
  have ec0 : x10 = gc0 ic0 := Sum.inl.inj (Sum.inr.inj (Option.some.inj (show some (rL x10) = some _ from e5)))
  have kc0 : (ic0 : Int) = (1 * x8.toInt + 0) + 0 := by
    obtain ⟨z, e6, e7⟩ := e4
    obtain rfl : (1 * x8.toInt + 0) = z := Option.some.inj (show some (1 * x8.toInt + 0) = some z from e6)
    exact e7
  clear e1 e4 e5
  have l0 : 0 ≤ (1 * x9.toInt + (-524288 * x1.toInt + (-262144 * x2.toInt + (-4096 * x3.toInt + (-64 * x4.toInt + (-1 * x5.toInt + 0)))))) + 524288 := by
    obtain ⟨z, e6, e7⟩ := m3 ([(9, 1), (1, -524288), (2, -262144), (3, -4096), (4, -64), (5, -1)], 524288) (List.mem_of_getElem? (i := 0) rfl)
    obtain rfl : (1 * x9.toInt + (-524288 * x1.toInt + (-262144 * x2.toInt + (-4096 * x3.toInt + (-64 * x4.toInt + (-1 * x5.toInt + 0)))))) = z := Option.some.inj (show some (1 * x9.toInt + (-524288 * x1.toInt + (-262144 * x2.toInt + (-4096 * x3.toInt + (-64 * x4.toInt + (-1 * x5.toInt + 0)))))) = some z from e6)
    exact e7
  have l1 : 0 ≤ (-1 * x9.toInt + (524288 * x1.toInt + (262144 * x2.toInt + (4096 * x3.toInt + (64 * x4.toInt + (1 * x5.toInt + 0)))))) + -524288 := by
    obtain ⟨z, e6, e7⟩ := m3 ([(9, -1), (1, 524288), (2, 262144), (3, 4096), (4, 64), (5, 1)], -524288) (List.mem_of_getElem? (i := 1) rfl)
    obtain rfl : (-1 * x9.toInt + (524288 * x1.toInt + (262144 * x2.toInt + (4096 * x3.toInt + (64 * x4.toInt + (1 * x5.toInt + 0)))))) = z := Option.some.inj (show some (-1 * x9.toInt + (524288 * x1.toInt + (262144 * x2.toInt + (4096 * x3.toInt + (64 * x4.toInt + (1 * x5.toInt + 0)))))) = some z from e6)
    exact e7
  have l2 : 0 ≤ (1 * x9.toInt + (-8 * x8.toInt + 0)) + 0 := by
    obtain ⟨z, e6, e7⟩ := m3 ([(9, 1), (8, -8)], 0) (List.mem_of_getElem? (i := 2) rfl)
    obtain rfl : (1 * x9.toInt + (-8 * x8.toInt + 0)) = z := Option.some.inj (show some (1 * x9.toInt + (-8 * x8.toInt + 0)) = some z from e6)
    exact e7
  have l3 : 0 ≤ (-1 * x9.toInt + (8 * x8.toInt + 0)) + 7 := by
    obtain ⟨z, e6, e7⟩ := m3 ([(9, -1), (8, 8)], 7) (List.mem_of_getElem? (i := 3) rfl)
    obtain rfl : (-1 * x9.toInt + (8 * x8.toInt + 0)) = z := Option.some.inj (show some (-1 * x9.toInt + (8 * x8.toInt + 0)) = some z from e6)
    exact e7
  have l4 : 0 ≤ (1 * x12.toInt + (-8 * x9.toInt + (64 * x8.toInt + 0))) + 0 := by
    obtain ⟨z, e6, e7⟩ := m3 ([(12, 1), (9, -8), (8, 64)], 0) (List.mem_of_getElem? (i := 4) rfl)
    obtain rfl : (1 * x12.toInt + (-8 * x9.toInt + (64 * x8.toInt + 0))) = z := Option.some.inj (show some (1 * x12.toInt + (-8 * x9.toInt + (64 * x8.toInt + 0))) = some z from e6)
    exact e7
  have l5 : 0 ≤ (-1 * x12.toInt + (8 * x9.toInt + (-64 * x8.toInt + 0))) + 0 := by
    obtain ⟨z, e6, e7⟩ := m3 ([(12, -1), (9, 8), (8, -64)], 0) (List.mem_of_getElem? (i := 5) rfl)
    obtain rfl : (-1 * x12.toInt + (8 * x9.toInt + (-64 * x8.toInt + 0))) = z := Option.some.inj (show some (-1 * x12.toInt + (8 * x9.toInt + (-64 * x8.toInt + 0))) = some z from e6)
    exact e7
  have l6 : 0 ≤ (1 * x11.toInt + (-1 * x6.toInt + 0)) + -1 := by
    obtain ⟨z, e6, e7⟩ := m3 ([(11, 1), (6, -1)], -1) (List.mem_of_getElem? (i := 6) rfl)
    obtain rfl : (1 * x11.toInt + (-1 * x6.toInt + 0)) = z := Option.some.inj (show some (1 * x11.toInt + (-1 * x6.toInt + 0)) = some z from e6)
    exact e7
  have l7 : 0 ≤ (-1 * x11.toInt + (1 * x6.toInt + 0)) + 1 := by
    obtain ⟨z, e6, e7⟩ := m3 ([(11, -1), (6, 1)], 1) (List.mem_of_getElem? (i := 7) rfl)
    obtain rfl : (-1 * x11.toInt + (1 * x6.toInt + 0)) = z := Option.some.inj (show some (-1 * x11.toInt + (1 * x6.toInt + 0)) = some z from e6)
    exact e7
  have f0 : rB3 N K n p 474 [rR x0] σ := by
    obtain ⟨w, e6, e7⟩ := m4 (7585, [0]) (List.mem_of_getElem? (i := 0) rfl)
    obtain rfl : [rR x0] = w := Option.some.inj (show some [rR x0] = some w from e6)
    exact (rF_b (r := 7585) (by decide) rfl).mp e7
  have f0 := ro3_474.mp f0
  have f1 : rB3 N K n p 491 [rR x0, rI x1, rI x2, rI x3, rI x4, rI x5] σ := by
    obtain ⟨w, e6, e7⟩ := m4 (7862, [0, 1, 2, 3, 4, 5]) (List.mem_of_getElem? (i := 1) rfl)
    obtain rfl : [rR x0, rI x1, rI x2, rI x3, rI x4, rI x5] = w := Option.some.inj (show some [rR x0, rI x1, rI x2, rI x3, rI x4, rI x5] = some w from e6)
    exact (rF_b (r := 7862) (by decide) rfl).mp e7
  have f1 := ro3_491.mp f1
  have f2 : rB3 N K n p 102 [rL x11, rI x12, rL x13] σ := by
    obtain ⟨w, e6, e7⟩ := m4 (1635, [11, 12, 13]) (List.mem_of_getElem? (i := 2) rfl)
    obtain rfl : [rL x11, rI x12, rL x13] = w := Option.some.inj (show some [rL x11, rI x12, rL x13] = some w from e6)
    exact (rF_b (r := 1635) (by decide) rfl).mp e7
  have f2 : x13 = x11 <<< (x12.toInt64 &&& 63) := Sum.inl.inj (Sum.inr.inj (ro3_102.mp f2))
  have f3 : rB3 N K n p 100 [rL x10, rL x13, rL x14] σ := by
    obtain ⟨w, e6, e7⟩ := m4 (1603, [10, 13, 14]) (List.mem_of_getElem? (i := 3) rfl)
    obtain rfl : [rL x10, rL x13, rL x14] = w := Option.some.inj (show some [rL x10, rL x13, rL x14] = some w from e6)
    exact (rF_b (r := 1603) (by decide) rfl).mp e7
  have f3 : x14 = x10 ||| x13 := Sum.inl.inj (Sum.inr.inj (ro3_100.mp f3))
  clear m1 m2 m3 m4
  have q0 : rB3 N K n p 489 [rR x0, rI x6] (jup σ x7 (jstl (σ x7) x8.toNatClampNeg x14)) := ro3_489.mpr (by
    obtain ⟨z, hz, g, r, le⟩ := f0
    obtain ⟨k0, k1, g9, r9, kk⟩ := f1
    obtain rfl := rJl_u r r9
    have eA : 524288 * x1.toInt + 262144 * x2.toInt + 4096 * x3.toInt + 64 * x4.toInt + x5.toInt - 524288 = x9.toInt := by omega
    rw [eA] at k0 k1 kk
    have e8 : x8.toNatClampNeg = x8.toInt.toNat := rfl
    have eg := rJl_c (i := ic0) r s0 t0 sc0 ec0
    have h := rJ_no (d := x6.toInt) (i := ic0) r le k0 k1 kk (by omega) eg (by omega) (by omega) (by omega) f2 f3
    have hr := rJl_up (i := x8.toNatClampNeg) (v := x14) r s0 t0
    rw [show x8.toNatClampNeg = ic0 by omega] at hr ⊢
    exact ⟨z, hz, fun h9 => ⟨_, hr, h.1 h9⟩, _, hr, h.2⟩)
  exact ⟨p, fun _ => rfl, ⟨(fun q h => by cases h), fun q h => (by cases h), (fun f h => by cases h), (aAllc ⟨_, rfl, rF_pl (r := 7826) (by decide) (by decide) q0⟩ (fun f h => by cases h))⟩, [], List.mem_cons_self, fun f h => (by cases h)⟩
theorem rw_rkP0 {N : Int} {K : Nat → Nat} {n : Nat} {JX : (Nat → jcell) → Prop} : aGho (rH N K n) fa_T K n JX ag_rkP0 := by
  refine aGho_of ⟨rfl, rfl⟩ ?_
  intro p σ ρ hH hX hA hM0
  have hG := aAG_of hA.1 (fun i e v he hv => (hA.2 i e v he hv).1)
  clear hA
  obtain ⟨v0, v1, v2, rfl, g0, g1, g2⟩ := rA_3 hG
  clear hG
  obtain ⟨x0, rfl, b0, d0⟩ := rG_ref (by decide) g0
  obtain ⟨x1, rfl, b1, d1⟩ := aG_int g1
  dsimp only at b1 d1
  obtain ⟨x2, rfl, b2, d2⟩ := aG_int g2
  dsimp only at b2 d2
  obtain ⟨m1, m2, m3, m4⟩ := hM0
  have f0 : rB3 N K n p 474 [rR x0] σ := by
    obtain ⟨w, e6, e7⟩ := m4 (7585, [0]) (List.mem_of_getElem? (i := 0) rfl)
    obtain rfl : [rR x0] = w := Option.some.inj (show some [rR x0] = some w from e6)
    exact (rF_b (r := 7585) (by decide) rfl).mp e7
  have f0 := ro3_474.mp f0
  clear m1 m2 m3 m4
  have q0 : rB3 N K n p 490 [rR x0, rI x1, rI x2] σ := ro3_490.mpr (by
    obtain ⟨z, hz, h⟩ := f0
    exact ⟨z, hz, fun h8 => (by exfalso; omega), h⟩)
  exact ⟨p, fun _ => rfl, ⟨(fun q h => by cases h), fun q h => (by cases h), (fun f h => by cases h), (aAllc ⟨_, rfl, (rF_b (r := 7843) (by decide) rfl).mpr q0⟩ (fun f h => by cases h))⟩, [], List.mem_cons_self, fun f h => (by cases h)⟩
theorem rw_rkP1 {N : Int} {K : Nat → Nat} {n : Nat} {JX : (Nat → jcell) → Prop} : aGho (rH N K n) fa_T K n JX ag_rkP1 := by
  refine aGho_of ⟨rfl, rfl⟩ ?_
  intro p σ ρ hH hX hA hM0
  have hG := aAG_of hA.1 (fun i e v he hv => (hA.2 i e v he hv).1)
  clear hA
  obtain ⟨v0, v1, v2, rfl, g0, g1, g2⟩ := rA_3 hG
  clear hG
  obtain ⟨x0, rfl, b0, d0⟩ := rG_ref (by decide) g0
  obtain ⟨x1, rfl, b1, d1⟩ := aG_int g1
  dsimp only at b1 d1
  obtain ⟨x2, rfl, b2, d2⟩ := aG_int g2
  dsimp only at b2 d2
  obtain ⟨m1, m2, m3, m4⟩ := hM0
  have f0 : rB3 N K n p 490 [rR x0, rI x1, rI x2] σ := by
    obtain ⟨w, e6, e7⟩ := m4 (7843, [0, 1, 2]) (List.mem_of_getElem? (i := 0) rfl)
    obtain rfl : [rR x0, rI x1, rI x2] = w := Option.some.inj (show some [rR x0, rI x1, rI x2] = some w from e6)
    exact (rF_b (r := 7843) (by decide) rfl).mp e7
  have f0 := ro3_490.mp f0
  clear m1 m2 m3 m4
  have q0 : rB3 N K n p 474 [rR x0] σ := ro3_474.mpr (by
    obtain ⟨z, hz, -, h⟩ := f0
    exact ⟨z, hz, h⟩)
  exact ⟨p, fun _ => rfl, ⟨(fun q h => by cases h), fun q h => (by cases h), (fun f h => by cases h), (aAllc ⟨_, rfl, (rF_b (r := 7585) (by decide) rfl).mpr q0⟩ (fun f h => by cases h))⟩, [], List.mem_cons_self, fun f h => (by cases h)⟩
theorem rw_rkP2 {N : Int} {K : Nat → Nat} {n : Nat} {JX : (Nat → jcell) → Prop} : aGho (rH N K n) fa_T K n JX ag_rkP2 := by
  refine aGho_of ⟨rfl, rfl⟩ ?_
  intro p σ ρ hH hX hA hM0
  have hG := aAG_of hA.1 (fun i e v he hv => (hA.2 i e v he hv).1)
  clear hA
  obtain ⟨v0, v1, v2, rfl, g0, g1, g2⟩ := rA_3 hG
  clear hG
  obtain ⟨x0, rfl, b0, d0⟩ := rG_ref (by decide) g0
  obtain ⟨x1, rfl, b1, d1⟩ := aG_int g1
  dsimp only at b1 d1
  obtain ⟨x2, rfl, b2, d2⟩ := aG_int g2
  dsimp only at b2 d2
  obtain ⟨m1, m2, m3, m4⟩ := hM0
  have f0 : rB3 N K n p 489 [rR x0, rI x1] σ := by
    obtain ⟨w, e6, e7⟩ := m4 (7826, [0, 1]) (List.mem_of_getElem? (i := 0) rfl)
    obtain rfl : [rR x0, rI x1] = w := Option.some.inj (show some [rR x0, rI x1] = some w from e6)
    exact (rF_b (r := 7826) (by decide) rfl).mp e7
  have f0 := ro3_489.mp f0
  clear m1 m2 m3 m4
  have q0 : rB3 N K n p 490 [rR x0, rI x2, rI x1] σ := ro3_490.mpr (by
    obtain ⟨z, hz, h1, h⟩ := f0
    exact ⟨z, hz, fun _ h9 => h1 h9, h⟩)
  exact ⟨p, fun _ => rfl, ⟨(fun q h => by cases h), fun q h => (by cases h), (fun f h => by cases h), (aAllc ⟨_, rfl, (rF_b (r := 7843) (by decide) rfl).mpr q0⟩ (fun f h => by cases h))⟩, [], List.mem_cons_self, fun f h => (by cases h)⟩
theorem rw_rkP3 {N : Int} {K : Nat → Nat} {n : Nat} {JX : (Nat → jcell) → Prop} : aGho (rH N K n) fa_T K n JX ag_rkP3 := by
  refine aGho_of ⟨rfl, rfl⟩ ?_
  intro p σ ρ hH hX hA hM0
  have hG := aAG_of hA.1 (fun i e v he hv => (hA.2 i e v he hv).1)
  clear hA
  obtain ⟨v0, v1, v2, v3, v4, v5, v6, rfl, g0, g1, g2, g3, g4, g5, g6⟩ := rA_7 hG
  clear hG
  obtain ⟨x0, rfl, b0, d0⟩ := rG_ref (by decide) g0
  obtain ⟨x1, rfl, b1, d1⟩ := aG_int g1
  dsimp only at b1 d1
  obtain ⟨x2, rfl, b2, d2⟩ := aG_int g2
  dsimp only at b2 d2
  obtain ⟨x3, rfl, b3, d3⟩ := aG_int g3
  dsimp only at b3 d3
  obtain ⟨x4, rfl, b4, d4⟩ := aG_int g4
  dsimp only at b4 d4
  obtain ⟨x5, rfl, b5, d5⟩ := aG_int g5
  dsimp only at b5 d5
  obtain ⟨x6, rfl, b6, d6⟩ := aG_int g6
  dsimp only at b6 d6
  obtain ⟨m1, m2, m3, m4⟩ := hM0
  have f0 : rB3 N K n p 475 [rR x0, rI x1, rI x2, rI x3, rI x4, rI x5, rI x6] σ := by
    obtain ⟨w, e6, e7⟩ := m4 (7607, [0, 1, 2, 3, 4, 5, 6]) (List.mem_of_getElem? (i := 0) rfl)
    obtain rfl : [rR x0, rI x1, rI x2, rI x3, rI x4, rI x5, rI x6] = w := Option.some.inj (show some [rR x0, rI x1, rI x2, rI x3, rI x4, rI x5, rI x6] = some w from e6)
    exact (rF_b (r := 7607) (by decide) rfl).mp e7
  have f0 := ro3_475.mp f0
  clear m1 m2 m3 m4
  have q0 : rB3 N K n p 491 [rR x0, rI x1, rI x2, rI x3, rI x4, rI x5] σ := ro3_491.mpr (by
    exact f0 (by omega))
  exact ⟨p, fun _ => rfl, ⟨(fun q h => by cases h), fun q h => (by cases h), (fun f h => by cases h), (aAllc ⟨_, rfl, (rF_b (r := 7862) (by decide) rfl).mpr q0⟩ (fun f h => by cases h))⟩, [], List.mem_cons_self, fun f h => (by cases h)⟩
theorem rw_rkW1 {N : Int} {K : Nat → Nat} {n : Nat} {JX : (Nat → jcell) → Prop} : aGho (rH N K n) fa_T K n JX ag_rkW1 := by
  refine aGho_of ⟨rfl, rfl⟩ ?_
  intro p σ ρ hH hX hA hM0
  have hG := aAG_of hA.1 (fun i e v he hv => (hA.2 i e v he hv).1)
  clear hA
  obtain ⟨v0, v1, v2, v3, rfl, g0, g1, g2, g3⟩ := rA_4 hG
  clear hG
  obtain ⟨x0, rfl, b0, d0⟩ := rG_ref (by decide) g0
  obtain ⟨x1, rfl, b1, d1⟩ := aG_int g1
  dsimp only at b1 d1
  obtain ⟨x2, rfl, b2, d2⟩ := aG_int g2
  dsimp only at b2 d2
  obtain ⟨x3, rfl, b3, d3⟩ := aG_int g3
  dsimp only at b3 d3
  obtain ⟨m1, m2, m3, m4⟩ := hM0
  have f0 : rB3 N K n p 476 [rR x0, rI x1, rI x2, rI x3] σ := by
    obtain ⟨w, e6, e7⟩ := m4 (7620, [0, 1, 2, 3]) (List.mem_of_getElem? (i := 0) rfl)
    obtain rfl : [rR x0, rI x1, rI x2, rI x3] = w := Option.some.inj (show some [rR x0, rI x1, rI x2, rI x3] = some w from e6)
    exact (rF_b (r := 7620) (by decide) rfl).mp e7
  have f0 := ro3_476.mp f0
  clear m1 m2 m3 m4
  obtain ⟨g, r, h⟩ := f0
  have q0 : rB3 N K n ((p.1, some (rJs g 327680 : Int)) : rP) 474 [rR x0] σ := ro3_474.mpr (by
    exact ⟨_, rfl, g, r, Int.le_refl _⟩)
  have q1 : rB3 N K n ((p.1, some (rJs g 327680 : Int)) : rP) 477 [rI x1, rI x2, rI x3] σ := ro3_477.mpr (by
    exact ⟨_, rfl, h⟩)
  exact ⟨((p.1, some (rJs g 327680 : Int)) : rP), fun h => (by cases h), ⟨(fun q h => by cases h), fun q h => (by cases h), (fun f h => by cases h), (aAllc ⟨_, rfl, (rF_b (r := 7585) (by decide) rfl).mpr q0⟩ (aAllc ⟨_, rfl, (rF_b (r := 7635) (by decide) rfl).mpr q1⟩ (fun f h => by cases h)))⟩, [], List.mem_cons_self, fun f h => (by cases h)⟩
theorem rw_rkWi {N : Int} {K : Nat → Nat} {n : Nat} {JX : (Nat → jcell) → Prop} : aGho (rH N K n) fa_T K n JX ag_rkWi := by
  refine aGho_n1 (b := (83886100, 83886100)) rfl rfl ?_
  intro p σ ρ hH hX hA hM0
  have hG := aAG_of hA.1 (fun i e v he hv => (hA.2 i e v he hv).1)
  clear hA
  obtain ⟨v0, v1, v2, v3, rfl, g0, g1, g2, g3⟩ := rA_4 hG
  clear hG
  obtain ⟨x0, rfl, b0, d0⟩ := rG_ref (by decide) g0
  obtain ⟨x1, rfl, b1, d1⟩ := aG_int g1
  dsimp only at b1 d1
  obtain ⟨x2, rfl, b2, d2⟩ := aG_int g2
  dsimp only at b2 d2
  obtain ⟨x3, rfl, b3, d3⟩ := aG_int g3
  dsimp only at b3 d3
  obtain ⟨m1, m2, m3, m4⟩ := hM0
  have l0 : 0 ≤ (1 * x3.toInt + (-1 * x1.toInt + 0)) + 1 := by
    obtain ⟨z, e6, e7⟩ := m3 ([(3, 1), (1, -1)], 1) (List.mem_of_getElem? (i := 0) rfl)
    obtain rfl : (1 * x3.toInt + (-1 * x1.toInt + 0)) = z := Option.some.inj (show some (1 * x3.toInt + (-1 * x1.toInt + 0)) = some z from e6)
    exact e7
  clear m1 m2 m3 m4
  obtain ⟨g, r⟩ := rJl_ex hH b0 d0
  have h1 := rJs_le (g := g) 327680
  have h2 := rJg_b (d := x1.toInt)
  obtain ⟨x4, e4⟩ := rI32x (z := 83886100) (by omega) (by omega)
  have b4 : 83886100 ≤ x4.toInt := by omega
  have d4 : x4.toInt ≤ 83886100 := by omega
  have q0 : rB3 N K n p 476 [rR x0, rI x1, rI x2, rI x4] σ := ro3_476.mpr (by
    exact ⟨g, r, by omega⟩)
  exact ⟨p, x4, fun _ => rfl, b4, d4, ⟨(fun q h => by cases h), fun q h => (by cases h), (fun f h => by cases h), (aAllc ⟨_, rfl, (rF_b (r := 7620) (by decide) rfl).mpr q0⟩ (fun f h => by cases h))⟩, [], List.mem_cons_self, fun f h => (by cases h)⟩
theorem rw_rkWa {N : Int} {K : Nat → Nat} {n : Nat} {JX : (Nat → jcell) → Prop} : aGho (rH N K n) fa_T K n JX ag_rkWa := by
  refine aGho_n1 (b := (0, 83886100)) rfl rfl ?_
  intro p σ ρ hH hX hA hM0
  have hG := aAG_of hA.1 (fun i e v he hv => (hA.2 i e v he hv).1)
  clear hA
  obtain ⟨v0, v1, v2, v3, v4, v5, v6, rfl, g0, g1, g2, g3, g4, g5, g6⟩ := rA_7 hG
  clear hG
  obtain ⟨x0, rfl, b0, d0⟩ := rG_ref (by decide) g0
  obtain ⟨x1, rfl, b1, d1⟩ := aG_int g1
  dsimp only at b1 d1
  obtain ⟨x2, rfl, b2, d2⟩ := aG_int g2
  dsimp only at b2 d2
  obtain ⟨x3, rfl, b3, d3⟩ := aG_int g3
  dsimp only at b3 d3
  obtain ⟨x4, rfl, b4, d4⟩ := aG_int g4
  dsimp only at b4 d4
  obtain ⟨x5, rfl, b5, d5⟩ := aG_int g5
  dsimp only at b5 d5
  obtain ⟨x6, rfl, b6, d6⟩ := aG_int g6
  dsimp only at b6 d6
  obtain ⟨m1, m2, m3, m4⟩ := hM0
  have l0 : 0 ≤ (1 * x5.toInt + (-1 * x2.toInt + 0)) + -1 := by
    obtain ⟨z, e6, e7⟩ := m3 ([(5, 1), (2, -1)], -1) (List.mem_of_getElem? (i := 0) rfl)
    obtain rfl : (1 * x5.toInt + (-1 * x2.toInt + 0)) = z := Option.some.inj (show some (1 * x5.toInt + (-1 * x2.toInt + 0)) = some z from e6)
    exact e7
  have l1 : 0 ≤ (-1 * x5.toInt + (1 * x2.toInt + 0)) + 1 := by
    obtain ⟨z, e6, e7⟩ := m3 ([(5, -1), (2, 1)], 1) (List.mem_of_getElem? (i := 1) rfl)
    obtain rfl : (-1 * x5.toInt + (1 * x2.toInt + 0)) = z := Option.some.inj (show some (-1 * x5.toInt + (1 * x2.toInt + 0)) = some z from e6)
    exact e7
  have f0 : rB3 N K n p 490 [rR x0, rI x1, rI x2] σ := by
    obtain ⟨w, e6, e7⟩ := m4 (7843, [0, 1, 2]) (List.mem_of_getElem? (i := 0) rfl)
    obtain rfl : [rR x0, rI x1, rI x2] = w := Option.some.inj (show some [rR x0, rI x1, rI x2] = some w from e6)
    exact (rF_b (r := 7843) (by decide) rfl).mp e7
  have f0 := ro3_490.mp f0
  have f1 : rB3 N K n p 477 [rI x2, rI x3, rI x6] σ := by
    obtain ⟨w, e6, e7⟩ := m4 (7635, [2, 3, 6]) (List.mem_of_getElem? (i := 1) rfl)
    obtain rfl : [rI x2, rI x3, rI x6] = w := Option.some.inj (show some [rI x2, rI x3, rI x6] = some w from e6)
    exact (rF_b (r := 7635) (by decide) rfl).mp e7
  have f1 := ro3_477.mp f1
  clear m1 m2 m3 m4
  obtain ⟨z, hz, h1, h2⟩ := f0
  obtain ⟨z9, hz9, h3⟩ := f1
  cases hz.symm.trans hz9
  have h4 := rJg_b (d := x2.toInt)
  have h5 := rJg_b (d := x2.toInt + 1)
  obtain ⟨g, r, hg⟩ : ∃ g, rJl K n σ x0 109 3 110 327680 g ∧ 4 * (rJs g 327680 : Int) + 2 * max 0 (2 - x4.toInt) + rJg (x2.toInt + 1) ≤ x6.toInt - 1 := by
    by_cases c9 : (x2.toInt + 1) % 256 = 0
    · have h6 := rJg_0 c9
      obtain ⟨g, r, le⟩ := h2
      exact ⟨g, r, by omega⟩
    · have h6 := rJg_n c9
      obtain ⟨g, r, le⟩ := h1 (by omega) c9
      exact ⟨g, r, by omega⟩
  have h9 : 0 ≤ x6.toInt - 1 := by omega
  obtain ⟨x7, e7⟩ := rI32x (z := x6.toInt - 1) (by omega) (by omega)
  have b7 : 0 ≤ x7.toInt := by omega
  have d7 : x7.toInt ≤ 83886100 := by omega
  rw [show x2.toInt + 1 = x5.toInt by omega] at hg
  have r0 : 0 ≤ (1 * x6.toInt + (-1 * x7.toInt + 0)) + -1 := by
    omega
  have r1 : 0 ≤ (-1 * x6.toInt + (1 * x7.toInt + 0)) + 1 := by
    omega
  have q0 : rB3 N K n p 476 [rR x0, rI x5, rI x4, rI x7] σ := ro3_476.mpr (by
    exact ⟨g, r, by omega⟩)
  exact ⟨p, x7, fun _ => rfl, b7, d7, ⟨(fun q h => by cases h), fun q h => (by cases h), (aAllc ⟨_, rfl, r0⟩ (aAllc ⟨_, rfl, r1⟩ (fun f h => by cases h))), (aAllc ⟨_, rfl, (rF_b (r := 7620) (by decide) rfl).mpr q0⟩ (fun f h => by cases h))⟩, [], List.mem_cons_self, fun f h => (by cases h)⟩
theorem rw_rkWb {N : Int} {K : Nat → Nat} {n : Nat} {JX : (Nat → jcell) → Prop} : aGho (rH N K n) fa_T K n JX ag_rkWb := by
  refine aGho_n1 (b := (0, 83886100)) rfl rfl ?_
  intro p σ ρ hH hX hA hM0
  have hG := aAG_of hA.1 (fun i e v he hv => (hA.2 i e v he hv).1)
  clear hA
  obtain ⟨v0, v1, v2, v3, v4, v5, v6, rfl, g0, g1, g2, g3, g4, g5, g6⟩ := rA_7 hG
  clear hG
  obtain ⟨x0, rfl, b0, d0⟩ := rG_ref (by decide) g0
  obtain ⟨x1, rfl, b1, d1⟩ := aG_int g1
  dsimp only at b1 d1
  obtain ⟨x2, rfl, b2, d2⟩ := aG_int g2
  dsimp only at b2 d2
  obtain ⟨x3, rfl, b3, d3⟩ := aG_int g3
  dsimp only at b3 d3
  obtain ⟨x4, rfl, b4, d4⟩ := aG_int g4
  dsimp only at b4 d4
  obtain ⟨x5, rfl, b5, d5⟩ := aG_int g5
  dsimp only at b5 d5
  obtain ⟨x6, rfl, b6, d6⟩ := aG_int g6
  dsimp only at b6 d6
  obtain ⟨m1, m2, m3, m4⟩ := hM0
  have l0 : 0 ≤ (1 * x5.toInt + (-1 * x2.toInt + 0)) + -1 := by
    obtain ⟨z, e6, e7⟩ := m3 ([(5, 1), (2, -1)], -1) (List.mem_of_getElem? (i := 0) rfl)
    obtain rfl : (1 * x5.toInt + (-1 * x2.toInt + 0)) = z := Option.some.inj (show some (1 * x5.toInt + (-1 * x2.toInt + 0)) = some z from e6)
    exact e7
  have l1 : 0 ≤ (-1 * x5.toInt + (1 * x2.toInt + 0)) + 1 := by
    obtain ⟨z, e6, e7⟩ := m3 ([(5, -1), (2, 1)], 1) (List.mem_of_getElem? (i := 1) rfl)
    obtain rfl : (-1 * x5.toInt + (1 * x2.toInt + 0)) = z := Option.some.inj (show some (-1 * x5.toInt + (1 * x2.toInt + 0)) = some z from e6)
    exact e7
  have l2 : 0 ≤ (1 * x4.toInt + (-1 * x3.toInt + 0)) + -1 := by
    obtain ⟨z, e6, e7⟩ := m3 ([(4, 1), (3, -1)], -1) (List.mem_of_getElem? (i := 2) rfl)
    obtain rfl : (1 * x4.toInt + (-1 * x3.toInt + 0)) = z := Option.some.inj (show some (1 * x4.toInt + (-1 * x3.toInt + 0)) = some z from e6)
    exact e7
  have l3 : 0 ≤ (-1 * x4.toInt + (1 * x3.toInt + 0)) + 1 := by
    obtain ⟨z, e6, e7⟩ := m3 ([(4, -1), (3, 1)], 1) (List.mem_of_getElem? (i := 3) rfl)
    obtain rfl : (-1 * x4.toInt + (1 * x3.toInt + 0)) = z := Option.some.inj (show some (-1 * x4.toInt + (1 * x3.toInt + 0)) = some z from e6)
    exact e7
  have f0 : rB3 N K n p 490 [rR x0, rI x1, rI x2] σ := by
    obtain ⟨w, e6, e7⟩ := m4 (7843, [0, 1, 2]) (List.mem_of_getElem? (i := 0) rfl)
    obtain rfl : [rR x0, rI x1, rI x2] = w := Option.some.inj (show some [rR x0, rI x1, rI x2] = some w from e6)
    exact (rF_b (r := 7843) (by decide) rfl).mp e7
  have f0 := ro3_490.mp f0
  have f1 : rB3 N K n p 477 [rI x2, rI x3, rI x6] σ := by
    obtain ⟨w, e6, e7⟩ := m4 (7635, [2, 3, 6]) (List.mem_of_getElem? (i := 1) rfl)
    obtain rfl : [rI x2, rI x3, rI x6] = w := Option.some.inj (show some [rI x2, rI x3, rI x6] = some w from e6)
    exact (rF_b (r := 7635) (by decide) rfl).mp e7
  have f1 := ro3_477.mp f1
  clear m1 m2 m3 m4
  obtain ⟨z, hz, h1, h2⟩ := f0
  obtain ⟨z9, hz9, h3⟩ := f1
  cases hz.symm.trans hz9
  have h4 := rJg_b (d := x2.toInt)
  have h5 := rJg_b (d := x2.toInt + 1)
  obtain ⟨g, r, hg⟩ : ∃ g, rJl K n σ x0 109 3 110 327680 g ∧ 4 * (rJs g 327680 : Int) + 2 * max 0 (2 - x4.toInt) + rJg (x2.toInt + 1) ≤ x6.toInt - 1 := by
    have h6 := rJg_s (d := x2.toInt)
    obtain ⟨g, r, le⟩ := h2
    exact ⟨g, r, by omega⟩
  have h9 : 0 ≤ x6.toInt - 1 := by omega
  obtain ⟨x7, e7⟩ := rI32x (z := x6.toInt - 1) (by omega) (by omega)
  have b7 : 0 ≤ x7.toInt := by omega
  have d7 : x7.toInt ≤ 83886100 := by omega
  rw [show x2.toInt + 1 = x5.toInt by omega] at hg
  have r0 : 0 ≤ (1 * x6.toInt + (-1 * x7.toInt + 0)) + -1 := by
    omega
  have r1 : 0 ≤ (-1 * x6.toInt + (1 * x7.toInt + 0)) + 1 := by
    omega
  have q0 : rB3 N K n p 476 [rR x0, rI x5, rI x4, rI x7] σ := ro3_476.mpr (by
    exact ⟨g, r, by omega⟩)
  exact ⟨p, x7, fun _ => rfl, b7, d7, ⟨(fun q h => by cases h), fun q h => (by cases h), (aAllc ⟨_, rfl, r0⟩ (aAllc ⟨_, rfl, r1⟩ (fun f h => by cases h))), (aAllc ⟨_, rfl, (rF_b (r := 7620) (by decide) rfl).mpr q0⟩ (fun f h => by cases h))⟩, [], List.mem_cons_self, fun f h => (by cases h)⟩
theorem rw_rkD0 {N : Int} {K : Nat → Nat} {n : Nat} {JX : (Nat → jcell) → Prop} : aGho (rH N K n) fa_T K n JX ag_rkD0 := by
  refine aGho_of ⟨rfl, rfl⟩ ?_
  intro p σ ρ hH hX hA hM0
  have hG := aAG_of hA.1 (fun i e v he hv => (hA.2 i e v he hv).1)
  clear hA
  obtain ⟨v0, rfl, g0⟩ := rA_1 hG
  clear hG
  obtain ⟨x0, rfl, b0, d0⟩ := aG_int g0
  dsimp only at b0 d0
  obtain ⟨m1, m2, m3, m4⟩ := hM0
  have l0 : 0 ≤ (1 * x0.toInt + 0) + 0 := by
    obtain ⟨z, e6, e7⟩ := m3 ([(0, 1)], 0) (List.mem_of_getElem? (i := 0) rfl)
    obtain rfl : (1 * x0.toInt + 0) = z := Option.some.inj (show some (1 * x0.toInt + 0) = some z from e6)
    exact e7
  have l1 : 0 ≤ (-1 * x0.toInt + 0) + 399999999 := by
    obtain ⟨z, e6, e7⟩ := m3 ([(0, -1)], 399999999) (List.mem_of_getElem? (i := 1) rfl)
    obtain rfl : (-1 * x0.toInt + 0) = z := Option.some.inj (show some (-1 * x0.toInt + 0) = some z from e6)
    exact e7
  clear m1 m2 m3 m4
  have r0 : 0 ≤ (1 * x0.toInt + 0) + 0 := by
    omega
  have r1 : 0 ≤ (-1 * x0.toInt + 0) + 399999999 := by
    omega
  exact ⟨p, fun _ => rfl, ⟨(fun q h => by cases h), fun q h => (by cases h), (aAllc ⟨_, rfl, r0⟩ (aAllc ⟨_, rfl, r1⟩ (fun f h => by cases h))), (fun f h => by cases h)⟩, [], List.mem_cons_self, fun f h => (by cases h)⟩
theorem rw_rkG1 {N : Int} {K : Nat → Nat} {n : Nat} {JX : (Nat → jcell) → Prop} : aGho (rH N K n) fa_T K n JX ag_rkG1 := by
  refine aGho_of ⟨rfl, rfl⟩ ?_
  intro p σ ρ hH hX hA hM0
  have hG := aAG_of hA.1 (fun i e v he hv => (hA.2 i e v he hv).1)
  clear hA
  obtain ⟨v0, v1, v2, v3, rfl, g0, g1, g2, g3⟩ := rA_4 hG
  clear hG
  obtain ⟨x0, rfl, b0, d0⟩ := rG_ref (by decide) g0
  obtain ⟨x1, rfl, b1, d1⟩ := rG_ref (by decide) g1
  obtain ⟨x2, rfl, b2, d2⟩ := aG_int g2
  dsimp only at b2 d2
  obtain ⟨x3, rfl, b3, d3⟩ := aG_int g3
  dsimp only at b3 d3
  obtain ⟨m1, m2, m3, m4⟩ := hM0
  obtain ⟨a0, c0, fs0, w0, e1, s0, t0, e4⟩ := m1 (0, 5, 1) (List.mem_of_getElem? (i := 0) rfl)
  obtain rfl : x0 = a0 := Sum.inl.inj (Option.some.inj (Sum.inr.inj (Sum.inr.inj (Option.some.inj (show some (rR x0) = some _ from e1)))))
  obtain rfl : rR x1 = w0 := Option.some.inj (show some (rR x1) = some w0 from e4)
  clear e1 e4
  have f0 : rB3 N K n p 353 [rR x0] σ := by
    obtain ⟨w, e6, e7⟩ := m4 (5649, [0]) (List.mem_of_getElem? (i := 0) rfl)
    obtain rfl : [rR x0] = w := Option.some.inj (show some [rR x0] = some w from e6)
    exact (rF_b (r := 5649) (by decide) rfl).mp e7
  have f0 := ro3_353.mp f0
  clear m1 m2 m3 m4
  have q0 : rB3 N K n p 353 [rR x0] (jup σ x1 (jsto (σ x1) x2.toNatClampNeg x3)) := ro3_353.mpr (by
    obtain ⟨g, r, h⟩ := f0
    have e2 : x2.toNatClampNeg = x2.toInt.toNat := rfl
    refine ⟨_, rRo_up r s0 t0, fun j j1 j2 => ?_⟩
    unfold upd
    split
    · omega
    · exact h j j1 j2)
  exact ⟨p, fun _ => rfl, ⟨(fun q h => by cases h), fun q h => (by cases h), (fun f h => by cases h), (aAllc ⟨_, rfl, rF_p (r := 5649) (by decide) (by decide) q0⟩ (fun f h => by cases h))⟩, [], List.mem_cons_self, fun f h => (by cases h)⟩
theorem rw_rkG2 {N : Int} {K : Nat → Nat} {n : Nat} {JX : (Nat → jcell) → Prop} : aGho (rH N K n) fa_T K n JX ag_rkG2 := by
  refine aGho_of ⟨rfl, rfl⟩ ?_
  intro p σ ρ hH hX hA hM0
  have hG := aAG_of hA.1 (fun i e v he hv => (hA.2 i e v he hv).1)
  clear hA
  obtain ⟨v0, v1, v2, v3, rfl, g0, g1, g2, g3⟩ := rA_4 hG
  clear hG
  obtain ⟨x0, rfl, b0, d0⟩ := rG_ref (by decide) g0
  obtain ⟨x1, rfl, b1, d1⟩ := rG_ref (by decide) g1
  obtain ⟨x2, rfl, b2, d2⟩ := aG_int g2
  dsimp only at b2 d2
  obtain ⟨x3, rfl, b3, d3⟩ := aG_int g3
  dsimp only at b3 d3
  obtain ⟨m1, m2, m3, m4⟩ := hM0
  obtain ⟨a0, c0, fs0, w0, e1, s0, t0, e4⟩ := m1 (0, 5, 1) (List.mem_of_getElem? (i := 0) rfl)
  obtain rfl : x0 = a0 := Sum.inl.inj (Option.some.inj (Sum.inr.inj (Sum.inr.inj (Option.some.inj (show some (rR x0) = some _ from e1)))))
  obtain rfl : rR x1 = w0 := Option.some.inj (show some (rR x1) = some w0 from e4)
  clear e1 e4
  have f0 : rB3 N K n p 353 [rR x0] σ := by
    obtain ⟨w, e6, e7⟩ := m4 (5649, [0]) (List.mem_of_getElem? (i := 0) rfl)
    obtain rfl : [rR x0] = w := Option.some.inj (show some [rR x0] = some w from e6)
    exact (rF_b (r := 5649) (by decide) rfl).mp e7
  have f0 := ro3_353.mp f0
  clear m1 m2 m3 m4
  have q0 : rB3 N K n p 353 [rR x0] (jup σ x1 (jsto (σ x1) x2.toNatClampNeg x3)) := ro3_353.mpr (by
    obtain ⟨g, r, h⟩ := f0
    have e2 : x2.toNatClampNeg = x2.toInt.toNat := rfl
    refine ⟨_, rRo_up r s0 t0, fun j j1 j2 => ?_⟩
    unfold upd
    split
    · omega
    · exact h j j1 j2)
  exact ⟨p, fun _ => rfl, ⟨(fun q h => by cases h), fun q h => (by cases h), (fun f h => by cases h), (aAllc ⟨_, rfl, rF_p (r := 5649) (by decide) (by decide) q0⟩ (fun f h => by cases h))⟩, [], List.mem_cons_self, fun f h => (by cases h)⟩
theorem rw_rkG3 {N : Int} {K : Nat → Nat} {n : Nat} {JX : (Nat → jcell) → Prop} : aGho (rH N K n) fa_T K n JX ag_rkG3 := by
  refine aGho_of ⟨rfl, rfl⟩ ?_
  intro p σ ρ hH hX hA hM0
  have hG := aAG_of hA.1 (fun i e v he hv => (hA.2 i e v he hv).1)
  clear hA
  obtain ⟨v0, v1, v2, v3, rfl, g0, g1, g2, g3⟩ := rA_4 hG
  clear hG
  obtain ⟨x0, rfl, b0, d0⟩ := rG_ref (by decide) g0
  obtain ⟨x1, rfl, b1, d1⟩ := rG_ref (by decide) g1
  obtain ⟨x2, rfl, b2, d2⟩ := aG_int g2
  dsimp only at b2 d2
  obtain ⟨x3, rfl, b3, d3⟩ := aG_int g3
  dsimp only at b3 d3
  obtain ⟨m1, m2, m3, m4⟩ := hM0
  obtain ⟨a0, c0, fs0, w0, e1, s0, t0, e4⟩ := m1 (0, 5, 1) (List.mem_of_getElem? (i := 0) rfl)
  obtain rfl : x0 = a0 := Sum.inl.inj (Option.some.inj (Sum.inr.inj (Sum.inr.inj (Option.some.inj (show some (rR x0) = some _ from e1)))))
  obtain rfl : rR x1 = w0 := Option.some.inj (show some (rR x1) = some w0 from e4)
  clear e1 e4
  obtain ⟨a, mc0, ty0, gc0, ic0, e1, sc0, jc0, e4, e5⟩ := m2 (1, ([(2, 1)], 0), 3) (List.mem_of_getElem? (i := 0) rfl)
  obtain rfl : x1 = a := Sum.inl.inj (Option.some.inj (Sum.inr.inj (Sum.inr.inj (Option.some.inj (show some (rR x1) = some _ from e1)))))
  obtain ⟨gc0, rfl⟩ : ∃ g, gc0 = .inl g := by
    rcases gc0 with g | g
    · exact ⟨g, rfl⟩
    · exact absurd (show some (rI x3) = some (.inr (.inl (g ic0))) from e5) (fun h => by cases h)
  have sc0 : σ x1 = .inl (ty0, mc0, .inl gc0) := sc0
  have ec0 : x3 = gc0 ic0 := Sum.inl.inj (Option.some.inj (show some (rI x3) = some _ from e5))
  have kc0 : (ic0 : Int) = (1 * x2.toInt + 0) + 0 := by
    obtain ⟨z, e6, e7⟩ := e4
    obtain rfl : (1 * x2.toInt + 0) = z := Option.some.inj (show some (1 * x2.toInt + 0) = some z from e6)
    exact e7
  clear e1 e4 e5
  have f0 : rB3 N K n p 353 [rR x0] σ := by
    obtain ⟨w, e6, e7⟩ := m4 (5649, [0]) (List.mem_of_getElem? (i := 0) rfl)
    obtain rfl : [rR x0] = w := Option.some.inj (show some [rR x0] = some w from e6)
    exact (rF_b (r := 5649) (by decide) rfl).mp e7
  have f0 := ro3_353.mp f0
  clear m1 m2 m3 m4
  have r0 : 0 ≤ (-1 * x3.toInt + 0) + 100000000 := by
    obtain ⟨g, r, h⟩ := f0
    have e := rRo_c (i := ic0) r s0 t0 sc0 ec0
    have := h ic0 (by omega) (by omega)
    omega
  exact ⟨p, fun _ => rfl, ⟨(fun q h => by cases h), fun q h => (by cases h), (aAllc ⟨_, rfl, r0⟩ (fun f h => by cases h)), (fun f h => by cases h)⟩, [], List.mem_cons_self, fun f h => (by cases h)⟩
theorem rw_rkT0 {N : Int} {K : Nat → Nat} {n : Nat} {JX : (Nat → jcell) → Prop} : aGho (rH N K n) fa_T K n JX ag_rkT0 := by
  refine aGho_of ⟨rfl, rfl⟩ ?_
  intro p σ ρ hH hX hA hM0
  have hG := aAG_of hA.1 (fun i e v he hv => (hA.2 i e v he hv).1)
  clear hA
  obtain ⟨v0, rfl, g0⟩ := rA_1 hG
  clear hG
  obtain ⟨x0, rfl, b0, d0⟩ := aG_int g0
  dsimp only at b0 d0
  obtain ⟨m1, m2, m3, m4⟩ := hM0
  clear m1 m2 m3 m4
  have hd : (0 ≤ (1 * x0.toInt + 0) + 0 ∧ 0 ≤ (-1 * x0.toInt + 0) + 0) ∨ (0 ≤ (1 * x0.toInt + 0) + -1) := by
    omega
  rcases hd with ⟨w0, w1⟩ | w0
  · exact ⟨p, fun _ => rfl, ⟨(fun q h => by cases h), fun q h => (by cases h), (fun f h => by cases h), (fun f h => by cases h)⟩, _, List.mem_of_getElem? (i := 0) rfl, (aAllc ⟨_, rfl, w0⟩ (aAllc ⟨_, rfl, w1⟩ (fun f h => by cases h)))⟩
  · exact ⟨p, fun _ => rfl, ⟨(fun q h => by cases h), fun q h => (by cases h), (fun f h => by cases h), (fun f h => by cases h)⟩, _, List.mem_of_getElem? (i := 1) rfl, (aAllc ⟨_, rfl, w0⟩ (fun f h => by cases h))⟩
theorem rw_rkE0 {N : Int} {K : Nat → Nat} {n : Nat} {JX : (Nat → jcell) → Prop} : aGho (rH N K n) fa_T K n JX ag_rkE0 := by
  refine aGho_of ⟨rfl, rfl⟩ ?_
  intro p σ ρ hH hX hA hM0
  have hG := aAG_of hA.1 (fun i e v he hv => (hA.2 i e v he hv).1)
  clear hA
  obtain ⟨v0, v1, v2, rfl, g0, g1, g2⟩ := rA_3 hG
  clear hG
  obtain ⟨x0, rfl, b0, d0⟩ := aG_int g0
  dsimp only at b0 d0
  obtain ⟨x1, rfl, b1, d1⟩ := aG_int g1
  dsimp only at b1 d1
  obtain ⟨x2, rfl, b2, d2⟩ := aG_int g2
  dsimp only at b2 d2
  obtain ⟨m1, m2, m3, m4⟩ := hM0
  clear m1 m2 m3 m4
  have q0 : rB3 N K n p 478 [rI x0, rI x1, rI x2] σ := ro3_478.mpr (by
    exact ⟨by omega, fun _ => by rw [show x1.toInt = 0 by omega]; exact rJc_0⟩)
  have q1 : rB3 N K n p 479 [rI x2] σ := ro3_479.mpr (by
    intro h9
    exfalso
    omega)
  exact ⟨p, fun _ => rfl, ⟨(fun q h => by cases h), fun q h => (by cases h), (fun f h => by cases h), (aAllc ⟨_, rfl, (rF_b (r := 7651) (by decide) rfl).mpr q0⟩ (aAllc ⟨_, rfl, (rF_b (r := 7665) (by decide) rfl).mpr q1⟩ (fun f h => by cases h)))⟩, [], List.mem_cons_self, fun f h => (by cases h)⟩
theorem rw_rkEa {N : Int} {K : Nat → Nat} {n : Nat} {JX : (Nat → jcell) → Prop} : aGho (rH N K n) fa_T K n JX ag_rkEa := by
  refine aGho_of ⟨rfl, rfl⟩ ?_
  intro p σ ρ hH hX hA hM0
  have hG := aAG_of hA.1 (fun i e v he hv => (hA.2 i e v he hv).1)
  clear hA
  obtain ⟨v0, v1, v2, v3, v4, v5, rfl, g0, g1, g2, g3, g4, g5⟩ := rA_6 hG
  clear hG
  obtain ⟨x0, rfl, b0, d0⟩ := rG_ref (by decide) g0
  obtain ⟨x1, rfl, b1, d1⟩ := rG_ref (by decide) g1
  obtain ⟨x2, rfl, b2, d2⟩ := aG_int g2
  dsimp only at b2 d2
  obtain ⟨x3, rfl, b3, d3⟩ := aG_int g3
  dsimp only at b3 d3
  obtain ⟨x4, rfl, b4, d4⟩ := aG_int g4
  dsimp only at b4 d4
  obtain ⟨x5, rfl, b5, d5⟩ := aG_int g5
  dsimp only at b5 d5
  obtain ⟨m1, m2, m3, m4⟩ := hM0
  obtain ⟨T, hT⟩ := rTe_ex hH b0 d0
  obtain ⟨a0, c0, fs0, w0, e1, s0, t0, e4⟩ := m1 (0, 24, 1) (List.mem_of_getElem? (i := 0) rfl)
  obtain rfl : x0 = a0 := Sum.inl.inj (Option.some.inj (Sum.inr.inj (Sum.inr.inj (Option.some.inj (show some (rR x0) = some _ from e1)))))
  obtain rfl : rR x1 = w0 := Option.some.inj (show some (rR x1) = some w0 from e4)
  clear e1 e4
  obtain ⟨a, mc0, ty0, gc0, ic0, e1, sc0, jc0, e4, e5⟩ := m2 (1, ([(2, 1)], 0), 3) (List.mem_of_getElem? (i := 0) rfl)
  obtain rfl : x1 = a := Sum.inl.inj (Option.some.inj (Sum.inr.inj (Sum.inr.inj (Option.some.inj (show some (rR x1) = some _ from e1)))))
  obtain ⟨gc0, rfl⟩ : ∃ g, gc0 = .inl g := by
    rcases gc0 with g | g
    · exact ⟨g, rfl⟩
    · exact absurd (show some (rI x3) = some (.inr (.inl (g ic0))) from e5) (fun h => by cases h)
  have sc0 : σ x1 = .inl (ty0, mc0, .inl gc0) := sc0
  have ec0 : x3 = gc0 ic0 := Sum.inl.inj (Option.some.inj (show some (rI x3) = some _ from e5))
  have kc0 : (ic0 : Int) = (1 * x2.toInt + 0) + 0 := by
    obtain ⟨z, e6, e7⟩ := e4
    obtain rfl : (1 * x2.toInt + 0) = z := Option.some.inj (show some (1 * x2.toInt + 0) = some z from e6)
    exact e7
  clear e1 e4 e5
  have y0 : T x2.toInt = x3.toInt := rMg_c hT s0 t0 sc0 (by omega) (by omega) (by omega) ec0
  have f0 : rB3 N K n p 478 [rI x2, rI x4, rI x5] σ := by
    obtain ⟨w, e6, e7⟩ := m4 (7651, [2, 4, 5]) (List.mem_of_getElem? (i := 0) rfl)
    obtain rfl : [rI x2, rI x4, rI x5] = w := Option.some.inj (show some [rI x2, rI x4, rI x5] = some w from e6)
    exact (rF_b (r := 7651) (by decide) rfl).mp e7
  have f0 := ro3_478.mp f0
  clear m1 m2 m3 m4
  have q0 : rB3 N K n p 492 [rI x2, rI x4, rI x5, rI x5] σ := ro3_492.mpr (by
    obtain ⟨h1, h2⟩ := f0
    refine ⟨h1, fun h9 => Int.le_trans (h2 h9) ?_⟩
    exact rJc_le (by omega))
  exact ⟨p, fun _ => rfl, ⟨(fun q h => by cases h), fun q h => (by cases h), (fun f h => by cases h), (aAllc ⟨_, rfl, (rF_b (r := 7876) (by decide) rfl).mpr q0⟩ (fun f h => by cases h))⟩, [], List.mem_cons_self, fun f h => (by cases h)⟩
theorem rw_rkEb6 {N : Int} {K : Nat → Nat} {n : Nat} {JX : (Nat → jcell) → Prop} : aGho (rH N K n) fa_T K n JX ag_rkEb6 := by
  refine aGho_of ⟨rfl, rfl⟩ ?_
  intro p σ ρ hH hX hA hM0
  have hG := aAG_of hA.1 (fun i e v he hv => (hA.2 i e v he hv).1)
  clear hA
  obtain ⟨v0, v1, v2, v3, v4, v5, v6, rfl, g0, g1, g2, g3, g4, g5, g6⟩ := rA_7 hG
  clear hG
  obtain ⟨x0, rfl, b0, d0⟩ := rG_ref (by decide) g0
  obtain ⟨x1, rfl, b1, d1⟩ := rG_ref (by decide) g1
  obtain ⟨x2, rfl, b2, d2⟩ := aG_int g2
  dsimp only at b2 d2
  obtain ⟨x3, rfl, b3, d3⟩ := aG_int g3
  dsimp only at b3 d3
  obtain ⟨x4, rfl, b4, d4⟩ := aG_int g4
  dsimp only at b4 d4
  obtain ⟨x5, rfl, b5, d5⟩ := aG_int g5
  dsimp only at b5 d5
  obtain ⟨x6, rfl, b6, d6⟩ := aG_int g6
  dsimp only at b6 d6
  obtain ⟨m1, m2, m3, m4⟩ := hM0
  obtain ⟨T, hT⟩ := rTe_ex hH b0 d0
  obtain ⟨a0, c0, fs0, w0, e1, s0, t0, e4⟩ := m1 (0, 24, 1) (List.mem_of_getElem? (i := 0) rfl)
  obtain rfl : x0 = a0 := Sum.inl.inj (Option.some.inj (Sum.inr.inj (Sum.inr.inj (Option.some.inj (show some (rR x0) = some _ from e1)))))
  obtain rfl : rR x1 = w0 := Option.some.inj (show some (rR x1) = some w0 from e4)
  clear e1 e4
  obtain ⟨a, mc0, ty0, gc0, ic0, e1, sc0, jc0, e4, e5⟩ := m2 (1, ([(2, 1)], 0), 3) (List.mem_of_getElem? (i := 0) rfl)
  obtain rfl : x1 = a := Sum.inl.inj (Option.some.inj (Sum.inr.inj (Sum.inr.inj (Option.some.inj (show some (rR x1) = some _ from e1)))))
  obtain ⟨gc0, rfl⟩ : ∃ g, gc0 = .inl g := by
    rcases gc0 with g | g
    · exact ⟨g, rfl⟩
    · exact absurd (show some (rI x3) = some (.inr (.inl (g ic0))) from e5) (fun h => by cases h)
  have sc0 : σ x1 = .inl (ty0, mc0, .inl gc0) := sc0
  have ec0 : x3 = gc0 ic0 := Sum.inl.inj (Option.some.inj (show some (rI x3) = some _ from e5))
  have kc0 : (ic0 : Int) = (1 * x2.toInt + 0) + 0 := by
    obtain ⟨z, e6, e7⟩ := e4
    obtain rfl : (1 * x2.toInt + 0) = z := Option.some.inj (show some (1 * x2.toInt + 0) = some z from e6)
    exact e7
  clear e1 e4 e5
  have l0 : 0 ≤ (1 * x5.toInt + (-1 * x4.toInt + 0)) + -1 := by
    obtain ⟨z, e6, e7⟩ := m3 ([(5, 1), (4, -1)], -1) (List.mem_of_getElem? (i := 0) rfl)
    obtain rfl : (1 * x5.toInt + (-1 * x4.toInt + 0)) = z := Option.some.inj (show some (1 * x5.toInt + (-1 * x4.toInt + 0)) = some z from e6)
    exact e7
  have l1 : 0 ≤ (-1 * x5.toInt + (1 * x4.toInt + 0)) + 1 := by
    obtain ⟨z, e6, e7⟩ := m3 ([(5, -1), (4, 1)], 1) (List.mem_of_getElem? (i := 1) rfl)
    obtain rfl : (-1 * x5.toInt + (1 * x4.toInt + 0)) = z := Option.some.inj (show some (-1 * x5.toInt + (1 * x4.toInt + 0)) = some z from e6)
    exact e7
  have y0 : T x2.toInt = x3.toInt := rMg_c hT s0 t0 sc0 (by omega) (by omega) (by omega) ec0
  have f0 : rB3 N K n p 400 [rR x0] σ := by
    obtain ⟨w, e6, e7⟩ := m4 (6401, [0]) (List.mem_of_getElem? (i := 0) rfl)
    obtain rfl : [rR x0] = w := Option.some.inj (show some [rR x0] = some w from e6)
    exact (rF_b (r := 6401) (by decide) rfl).mp e7
  obtain ⟨hp, hR⟩ := ro3_400.mp f0
  obtain rfl := rMg_u hT hR.1
  have f1 : rB3 N K n p 478 [rI x2, rI x4, rI x6] σ := by
    obtain ⟨w, e6, e7⟩ := m4 (7651, [2, 4, 6]) (List.mem_of_getElem? (i := 1) rfl)
    obtain rfl : [rI x2, rI x4, rI x6] = w := Option.some.inj (show some [rI x2, rI x4, rI x6] = some w from e6)
    exact (rF_b (r := 7651) (by decide) rfl).mp e7
  have f1 := ro3_478.mp f1
  clear m1 m2 m3 m4
  have q0 : rB3 N K n p 492 [rI x2, rI x5, rI x6, rI x6] σ := ro3_492.mpr (by
    obtain ⟨h1, h2⟩ := f1
    refine ⟨h1, fun h9 => ?_⟩
    have h3 := rJc_t (f := rJk p.1.1) h1
    rw [if_pos (show rJk p.1.1 x2.toInt = true by
      unfold rJk
      rw [Bool.or_eq_true, decide_eq_true_eq, decide_eq_true_eq]
      omega)] at h3
    have := h2 h9
    omega)
  exact ⟨p, fun _ => rfl, ⟨(fun q h => by cases h), fun q h => (by cases h), (fun f h => by cases h), (aAllc ⟨_, rfl, (rF_b (r := 7876) (by decide) rfl).mpr q0⟩ (fun f h => by cases h))⟩, [], List.mem_cons_self, fun f h => (by cases h)⟩
theorem rw_rkEb14 {N : Int} {K : Nat → Nat} {n : Nat} {JX : (Nat → jcell) → Prop} : aGho (rH N K n) fa_T K n JX ag_rkEb14 := by
  refine aGho_of ⟨rfl, rfl⟩ ?_
  intro p σ ρ hH hX hA hM0
  have hG := aAG_of hA.1 (fun i e v he hv => (hA.2 i e v he hv).1)
  clear hA
  obtain ⟨v0, v1, v2, v3, v4, v5, v6, rfl, g0, g1, g2, g3, g4, g5, g6⟩ := rA_7 hG
  clear hG
  obtain ⟨x0, rfl, b0, d0⟩ := rG_ref (by decide) g0
  obtain ⟨x1, rfl, b1, d1⟩ := rG_ref (by decide) g1
  obtain ⟨x2, rfl, b2, d2⟩ := aG_int g2
  dsimp only at b2 d2
  obtain ⟨x3, rfl, b3, d3⟩ := aG_int g3
  dsimp only at b3 d3
  obtain ⟨x4, rfl, b4, d4⟩ := aG_int g4
  dsimp only at b4 d4
  obtain ⟨x5, rfl, b5, d5⟩ := aG_int g5
  dsimp only at b5 d5
  obtain ⟨x6, rfl, b6, d6⟩ := aG_int g6
  dsimp only at b6 d6
  obtain ⟨m1, m2, m3, m4⟩ := hM0
  obtain ⟨T, hT⟩ := rTe_ex hH b0 d0
  obtain ⟨a0, c0, fs0, w0, e1, s0, t0, e4⟩ := m1 (0, 24, 1) (List.mem_of_getElem? (i := 0) rfl)
  obtain rfl : x0 = a0 := Sum.inl.inj (Option.some.inj (Sum.inr.inj (Sum.inr.inj (Option.some.inj (show some (rR x0) = some _ from e1)))))
  obtain rfl : rR x1 = w0 := Option.some.inj (show some (rR x1) = some w0 from e4)
  clear e1 e4
  obtain ⟨a, mc0, ty0, gc0, ic0, e1, sc0, jc0, e4, e5⟩ := m2 (1, ([(2, 1)], 0), 3) (List.mem_of_getElem? (i := 0) rfl)
  obtain rfl : x1 = a := Sum.inl.inj (Option.some.inj (Sum.inr.inj (Sum.inr.inj (Option.some.inj (show some (rR x1) = some _ from e1)))))
  obtain ⟨gc0, rfl⟩ : ∃ g, gc0 = .inl g := by
    rcases gc0 with g | g
    · exact ⟨g, rfl⟩
    · exact absurd (show some (rI x3) = some (.inr (.inl (g ic0))) from e5) (fun h => by cases h)
  have sc0 : σ x1 = .inl (ty0, mc0, .inl gc0) := sc0
  have ec0 : x3 = gc0 ic0 := Sum.inl.inj (Option.some.inj (show some (rI x3) = some _ from e5))
  have kc0 : (ic0 : Int) = (1 * x2.toInt + 0) + 0 := by
    obtain ⟨z, e6, e7⟩ := e4
    obtain rfl : (1 * x2.toInt + 0) = z := Option.some.inj (show some (1 * x2.toInt + 0) = some z from e6)
    exact e7
  clear e1 e4 e5
  have l0 : 0 ≤ (1 * x5.toInt + (-1 * x4.toInt + 0)) + -1 := by
    obtain ⟨z, e6, e7⟩ := m3 ([(5, 1), (4, -1)], -1) (List.mem_of_getElem? (i := 0) rfl)
    obtain rfl : (1 * x5.toInt + (-1 * x4.toInt + 0)) = z := Option.some.inj (show some (1 * x5.toInt + (-1 * x4.toInt + 0)) = some z from e6)
    exact e7
  have l1 : 0 ≤ (-1 * x5.toInt + (1 * x4.toInt + 0)) + 1 := by
    obtain ⟨z, e6, e7⟩ := m3 ([(5, -1), (4, 1)], 1) (List.mem_of_getElem? (i := 1) rfl)
    obtain rfl : (-1 * x5.toInt + (1 * x4.toInt + 0)) = z := Option.some.inj (show some (-1 * x5.toInt + (1 * x4.toInt + 0)) = some z from e6)
    exact e7
  have y0 : T x2.toInt = x3.toInt := rMg_c hT s0 t0 sc0 (by omega) (by omega) (by omega) ec0
  have f0 : rB3 N K n p 400 [rR x0] σ := by
    obtain ⟨w, e6, e7⟩ := m4 (6401, [0]) (List.mem_of_getElem? (i := 0) rfl)
    obtain rfl : [rR x0] = w := Option.some.inj (show some [rR x0] = some w from e6)
    exact (rF_b (r := 6401) (by decide) rfl).mp e7
  obtain ⟨hp, hR⟩ := ro3_400.mp f0
  obtain rfl := rMg_u hT hR.1
  have f1 : rB3 N K n p 478 [rI x2, rI x4, rI x6] σ := by
    obtain ⟨w, e6, e7⟩ := m4 (7651, [2, 4, 6]) (List.mem_of_getElem? (i := 1) rfl)
    obtain rfl : [rI x2, rI x4, rI x6] = w := Option.some.inj (show some [rI x2, rI x4, rI x6] = some w from e6)
    exact (rF_b (r := 7651) (by decide) rfl).mp e7
  have f1 := ro3_478.mp f1
  clear m1 m2 m3 m4
  have q0 : rB3 N K n p 492 [rI x2, rI x5, rI x6, rI x6] σ := ro3_492.mpr (by
    obtain ⟨h1, h2⟩ := f1
    refine ⟨h1, fun h9 => ?_⟩
    have h3 := rJc_t (f := rJk p.1.1) h1
    rw [if_pos (show rJk p.1.1 x2.toInt = true by
      unfold rJk
      rw [Bool.or_eq_true, decide_eq_true_eq, decide_eq_true_eq]
      omega)] at h3
    have := h2 h9
    omega)
  exact ⟨p, fun _ => rfl, ⟨(fun q h => by cases h), fun q h => (by cases h), (fun f h => by cases h), (aAllc ⟨_, rfl, (rF_b (r := 7876) (by decide) rfl).mpr q0⟩ (fun f h => by cases h))⟩, [], List.mem_cons_self, fun f h => (by cases h)⟩
theorem rw_rkEc1 {N : Int} {K : Nat → Nat} {n : Nat} {JX : (Nat → jcell) → Prop} : aGho (rH N K n) fa_T K n JX ag_rkEc1 := by
  refine aGho_of ⟨rfl, rfl⟩ ?_
  intro p σ ρ hH hX hA hM0
  have hG := aAG_of hA.1 (fun i e v he hv => (hA.2 i e v he hv).1)
  clear hA
  obtain ⟨v0, v1, v2, v3, v4, rfl, g0, g1, g2, g3, g4⟩ := rA_5 hG
  clear hG
  obtain ⟨x0, rfl, b0, d0⟩ := rG_ref (by decide) g0
  obtain ⟨x1, rfl, b1, d1⟩ := rG_ref (by decide) g1
  obtain ⟨x2, rfl, b2, d2⟩ := aG_int g2
  dsimp only at b2 d2
  obtain ⟨x3, rfl, b3, d3⟩ := aG_int g3
  dsimp only at b3 d3
  obtain ⟨x4, rfl, b4, d4⟩ := aG_int g4
  dsimp only at b4 d4
  obtain ⟨m1, m2, m3, m4⟩ := hM0
  obtain ⟨T, hT⟩ := rTe_ex hH b0 d0
  obtain ⟨a0, c0, fs0, w0, e1, s0, t0, e4⟩ := m1 (0, 24, 1) (List.mem_of_getElem? (i := 0) rfl)
  obtain rfl : x0 = a0 := Sum.inl.inj (Option.some.inj (Sum.inr.inj (Sum.inr.inj (Option.some.inj (show some (rR x0) = some _ from e1)))))
  obtain rfl : rR x1 = w0 := Option.some.inj (show some (rR x1) = some w0 from e4)
  clear e1 e4
  obtain ⟨a, mc0, ty0, gc0, ic0, e1, sc0, jc0, e4, e5⟩ := m2 (1, ([(2, 1)], 0), 3) (List.mem_of_getElem? (i := 0) rfl)
  obtain rfl : x1 = a := Sum.inl.inj (Option.some.inj (Sum.inr.inj (Sum.inr.inj (Option.some.inj (show some (rR x1) = some _ from e1)))))
  obtain ⟨gc0, rfl⟩ : ∃ g, gc0 = .inl g := by
    rcases gc0 with g | g
    · exact ⟨g, rfl⟩
    · exact absurd (show some (rI x3) = some (.inr (.inl (g ic0))) from e5) (fun h => by cases h)
  have sc0 : σ x1 = .inl (ty0, mc0, .inl gc0) := sc0
  have ec0 : x3 = gc0 ic0 := Sum.inl.inj (Option.some.inj (show some (rI x3) = some _ from e5))
  have kc0 : (ic0 : Int) = (1 * x2.toInt + 0) + 0 := by
    obtain ⟨z, e6, e7⟩ := e4
    obtain rfl : (1 * x2.toInt + 0) = z := Option.some.inj (show some (1 * x2.toInt + 0) = some z from e6)
    exact e7
  clear e1 e4 e5
  have y0 : T x2.toInt = x3.toInt := rMg_c hT s0 t0 sc0 (by omega) (by omega) (by omega) ec0
  have f0 : rB3 N K n p 400 [rR x0] σ := by
    obtain ⟨w, e6, e7⟩ := m4 (6401, [0]) (List.mem_of_getElem? (i := 0) rfl)
    obtain rfl : [rR x0] = w := Option.some.inj (show some [rR x0] = some w from e6)
    exact (rF_b (r := 6401) (by decide) rfl).mp e7
  obtain ⟨hp, hR⟩ := ro3_400.mp f0
  obtain rfl := rMg_u hT hR.1
  clear m1 m2 m3 m4
  have q0 : rB3 N K n p 492 [rI x2, rI x4, rI x2, rI x2] σ := ro3_492.mpr (by
    exact ⟨by omega, fun h9 => by exfalso; omega⟩)
  have q1 : rB3 N K n p 479 [rI x2] σ := ro3_479.mpr (by
    intro _
    rw [y0]
    refine ⟨?_, ?_, ?_⟩ <;> omega)
  exact ⟨p, fun _ => rfl, ⟨(fun q h => by cases h), fun q h => (by cases h), (fun f h => by cases h), (aAllc ⟨_, rfl, (rF_b (r := 7876) (by decide) rfl).mpr q0⟩ (aAllc ⟨_, rfl, (rF_b (r := 7665) (by decide) rfl).mpr q1⟩ (fun f h => by cases h)))⟩, [], List.mem_cons_self, fun f h => (by cases h)⟩
theorem rw_rkEc2 {N : Int} {K : Nat → Nat} {n : Nat} {JX : (Nat → jcell) → Prop} : aGho (rH N K n) fa_T K n JX ag_rkEc2 := by
  refine aGho_of ⟨rfl, rfl⟩ ?_
  intro p σ ρ hH hX hA hM0
  have hG := aAG_of hA.1 (fun i e v he hv => (hA.2 i e v he hv).1)
  clear hA
  obtain ⟨v0, v1, v2, v3, v4, rfl, g0, g1, g2, g3, g4⟩ := rA_5 hG
  clear hG
  obtain ⟨x0, rfl, b0, d0⟩ := rG_ref (by decide) g0
  obtain ⟨x1, rfl, b1, d1⟩ := rG_ref (by decide) g1
  obtain ⟨x2, rfl, b2, d2⟩ := aG_int g2
  dsimp only at b2 d2
  obtain ⟨x3, rfl, b3, d3⟩ := aG_int g3
  dsimp only at b3 d3
  obtain ⟨x4, rfl, b4, d4⟩ := aG_int g4
  dsimp only at b4 d4
  obtain ⟨m1, m2, m3, m4⟩ := hM0
  obtain ⟨T, hT⟩ := rTe_ex hH b0 d0
  obtain ⟨a0, c0, fs0, w0, e1, s0, t0, e4⟩ := m1 (0, 24, 1) (List.mem_of_getElem? (i := 0) rfl)
  obtain rfl : x0 = a0 := Sum.inl.inj (Option.some.inj (Sum.inr.inj (Sum.inr.inj (Option.some.inj (show some (rR x0) = some _ from e1)))))
  obtain rfl : rR x1 = w0 := Option.some.inj (show some (rR x1) = some w0 from e4)
  clear e1 e4
  obtain ⟨a, mc0, ty0, gc0, ic0, e1, sc0, jc0, e4, e5⟩ := m2 (1, ([(2, 1)], 0), 3) (List.mem_of_getElem? (i := 0) rfl)
  obtain rfl : x1 = a := Sum.inl.inj (Option.some.inj (Sum.inr.inj (Sum.inr.inj (Option.some.inj (show some (rR x1) = some _ from e1)))))
  obtain ⟨gc0, rfl⟩ : ∃ g, gc0 = .inl g := by
    rcases gc0 with g | g
    · exact ⟨g, rfl⟩
    · exact absurd (show some (rI x3) = some (.inr (.inl (g ic0))) from e5) (fun h => by cases h)
  have sc0 : σ x1 = .inl (ty0, mc0, .inl gc0) := sc0
  have ec0 : x3 = gc0 ic0 := Sum.inl.inj (Option.some.inj (show some (rI x3) = some _ from e5))
  have kc0 : (ic0 : Int) = (1 * x2.toInt + 0) + 0 := by
    obtain ⟨z, e6, e7⟩ := e4
    obtain rfl : (1 * x2.toInt + 0) = z := Option.some.inj (show some (1 * x2.toInt + 0) = some z from e6)
    exact e7
  clear e1 e4 e5
  have y0 : T x2.toInt = x3.toInt := rMg_c hT s0 t0 sc0 (by omega) (by omega) (by omega) ec0
  have f0 : rB3 N K n p 400 [rR x0] σ := by
    obtain ⟨w, e6, e7⟩ := m4 (6401, [0]) (List.mem_of_getElem? (i := 0) rfl)
    obtain rfl : [rR x0] = w := Option.some.inj (show some [rR x0] = some w from e6)
    exact (rF_b (r := 6401) (by decide) rfl).mp e7
  obtain ⟨hp, hR⟩ := ro3_400.mp f0
  obtain rfl := rMg_u hT hR.1
  clear m1 m2 m3 m4
  have q0 : rB3 N K n p 492 [rI x2, rI x4, rI x2, rI x2] σ := ro3_492.mpr (by
    exact ⟨by omega, fun h9 => by exfalso; omega⟩)
  have q1 : rB3 N K n p 479 [rI x2] σ := ro3_479.mpr (by
    intro _
    rw [y0]
    refine ⟨?_, ?_, ?_⟩ <;> omega)
  exact ⟨p, fun _ => rfl, ⟨(fun q h => by cases h), fun q h => (by cases h), (fun f h => by cases h), (aAllc ⟨_, rfl, (rF_b (r := 7876) (by decide) rfl).mpr q0⟩ (aAllc ⟨_, rfl, (rF_b (r := 7665) (by decide) rfl).mpr q1⟩ (fun f h => by cases h)))⟩, [], List.mem_cons_self, fun f h => (by cases h)⟩
theorem rw_rkEc3 {N : Int} {K : Nat → Nat} {n : Nat} {JX : (Nat → jcell) → Prop} : aGho (rH N K n) fa_T K n JX ag_rkEc3 := by
  refine aGho_of ⟨rfl, rfl⟩ ?_
  intro p σ ρ hH hX hA hM0
  have hG := aAG_of hA.1 (fun i e v he hv => (hA.2 i e v he hv).1)
  clear hA
  obtain ⟨v0, v1, v2, v3, v4, rfl, g0, g1, g2, g3, g4⟩ := rA_5 hG
  clear hG
  obtain ⟨x0, rfl, b0, d0⟩ := rG_ref (by decide) g0
  obtain ⟨x1, rfl, b1, d1⟩ := rG_ref (by decide) g1
  obtain ⟨x2, rfl, b2, d2⟩ := aG_int g2
  dsimp only at b2 d2
  obtain ⟨x3, rfl, b3, d3⟩ := aG_int g3
  dsimp only at b3 d3
  obtain ⟨x4, rfl, b4, d4⟩ := aG_int g4
  dsimp only at b4 d4
  obtain ⟨m1, m2, m3, m4⟩ := hM0
  obtain ⟨T, hT⟩ := rTe_ex hH b0 d0
  obtain ⟨a0, c0, fs0, w0, e1, s0, t0, e4⟩ := m1 (0, 24, 1) (List.mem_of_getElem? (i := 0) rfl)
  obtain rfl : x0 = a0 := Sum.inl.inj (Option.some.inj (Sum.inr.inj (Sum.inr.inj (Option.some.inj (show some (rR x0) = some _ from e1)))))
  obtain rfl : rR x1 = w0 := Option.some.inj (show some (rR x1) = some w0 from e4)
  clear e1 e4
  obtain ⟨a, mc0, ty0, gc0, ic0, e1, sc0, jc0, e4, e5⟩ := m2 (1, ([(2, 1)], 0), 3) (List.mem_of_getElem? (i := 0) rfl)
  obtain rfl : x1 = a := Sum.inl.inj (Option.some.inj (Sum.inr.inj (Sum.inr.inj (Option.some.inj (show some (rR x1) = some _ from e1)))))
  obtain ⟨gc0, rfl⟩ : ∃ g, gc0 = .inl g := by
    rcases gc0 with g | g
    · exact ⟨g, rfl⟩
    · exact absurd (show some (rI x3) = some (.inr (.inl (g ic0))) from e5) (fun h => by cases h)
  have sc0 : σ x1 = .inl (ty0, mc0, .inl gc0) := sc0
  have ec0 : x3 = gc0 ic0 := Sum.inl.inj (Option.some.inj (show some (rI x3) = some _ from e5))
  have kc0 : (ic0 : Int) = (1 * x2.toInt + 0) + 0 := by
    obtain ⟨z, e6, e7⟩ := e4
    obtain rfl : (1 * x2.toInt + 0) = z := Option.some.inj (show some (1 * x2.toInt + 0) = some z from e6)
    exact e7
  clear e1 e4 e5
  have y0 : T x2.toInt = x3.toInt := rMg_c hT s0 t0 sc0 (by omega) (by omega) (by omega) ec0
  have f0 : rB3 N K n p 400 [rR x0] σ := by
    obtain ⟨w, e6, e7⟩ := m4 (6401, [0]) (List.mem_of_getElem? (i := 0) rfl)
    obtain rfl : [rR x0] = w := Option.some.inj (show some [rR x0] = some w from e6)
    exact (rF_b (r := 6401) (by decide) rfl).mp e7
  obtain ⟨hp, hR⟩ := ro3_400.mp f0
  obtain rfl := rMg_u hT hR.1
  clear m1 m2 m3 m4
  have q0 : rB3 N K n p 492 [rI x2, rI x4, rI x2, rI x2] σ := ro3_492.mpr (by
    exact ⟨by omega, fun h9 => by exfalso; omega⟩)
  have q1 : rB3 N K n p 479 [rI x2] σ := ro3_479.mpr (by
    intro _
    rw [y0]
    refine ⟨?_, ?_, ?_⟩ <;> omega)
  exact ⟨p, fun _ => rfl, ⟨(fun q h => by cases h), fun q h => (by cases h), (fun f h => by cases h), (aAllc ⟨_, rfl, (rF_b (r := 7876) (by decide) rfl).mpr q0⟩ (aAllc ⟨_, rfl, (rF_b (r := 7665) (by decide) rfl).mpr q1⟩ (fun f h => by cases h)))⟩, [], List.mem_cons_self, fun f h => (by cases h)⟩
theorem rw_rkEn {N : Int} {K : Nat → Nat} {n : Nat} {JX : (Nat → jcell) → Prop} : aGho (rH N K n) fa_T K n JX ag_rkEn := by
  refine aGho_of ⟨rfl, rfl⟩ ?_
  intro p σ ρ hH hX hA hM0
  have hG := aAG_of hA.1 (fun i e v he hv => (hA.2 i e v he hv).1)
  clear hA
  obtain ⟨v0, v1, v2, v3, rfl, g0, g1, g2, g3⟩ := rA_4 hG
  clear hG
  obtain ⟨x0, rfl, b0, d0⟩ := aG_int g0
  dsimp only at b0 d0
  obtain ⟨x1, rfl, b1, d1⟩ := aG_int g1
  dsimp only at b1 d1
  obtain ⟨x2, rfl, b2, d2⟩ := aG_int g2
  dsimp only at b2 d2
  obtain ⟨x3, rfl, b3, d3⟩ := aG_int g3
  dsimp only at b3 d3
  obtain ⟨m1, m2, m3, m4⟩ := hM0
  have l0 : 0 ≤ (1 * x1.toInt + (-1 * x0.toInt + 0)) + -1 := by
    obtain ⟨z, e6, e7⟩ := m3 ([(1, 1), (0, -1)], -1) (List.mem_of_getElem? (i := 0) rfl)
    obtain rfl : (1 * x1.toInt + (-1 * x0.toInt + 0)) = z := Option.some.inj (show some (1 * x1.toInt + (-1 * x0.toInt + 0)) = some z from e6)
    exact e7
  have l1 : 0 ≤ (-1 * x1.toInt + (1 * x0.toInt + 0)) + 1 := by
    obtain ⟨z, e6, e7⟩ := m3 ([(1, -1), (0, 1)], 1) (List.mem_of_getElem? (i := 1) rfl)
    obtain rfl : (-1 * x1.toInt + (1 * x0.toInt + 0)) = z := Option.some.inj (show some (-1 * x1.toInt + (1 * x0.toInt + 0)) = some z from e6)
    exact e7
  have f0 : rB3 N K n p 492 [rI x0, rI x2, rI x3, rI x3] σ := by
    obtain ⟨w, e6, e7⟩ := m4 (7876, [0, 2, 3, 3]) (List.mem_of_getElem? (i := 0) rfl)
    obtain rfl : [rI x0, rI x2, rI x3, rI x3] = w := Option.some.inj (show some [rI x0, rI x2, rI x3, rI x3] = some w from e6)
    exact (rF_b (r := 7876) (by decide) rfl).mp e7
  have f0 := ro3_492.mp f0
  clear m1 m2 m3 m4
  have q0 : rB3 N K n p 478 [rI x1, rI x2, rI x3] σ := ro3_478.mpr (by
    obtain ⟨h1, h2⟩ := f0
    refine ⟨by omega, fun h9 => ?_⟩
    rw [show x1.toInt = x0.toInt + 1 by omega]
    exact h2 h9)
  exact ⟨p, fun _ => rfl, ⟨(fun q h => by cases h), fun q h => (by cases h), (fun f h => by cases h), (aAllc ⟨_, rfl, (rF_b (r := 7651) (by decide) rfl).mpr q0⟩ (fun f h => by cases h))⟩, [], List.mem_cons_self, fun f h => (by cases h)⟩
theorem rw_rkEz {N : Int} {K : Nat → Nat} {n : Nat} {JX : (Nat → jcell) → Prop} : aGho (rH N K n) fa_T K n JX ag_rkEz := by
  refine aGho_of ⟨rfl, rfl⟩ ?_
  intro p σ ρ hH hX hA hM0
  have hG := aAG_of hA.1 (fun i e v he hv => (hA.2 i e v he hv).1)
  clear hA
  obtain ⟨v0, v1, v2, v3, rfl, g0, g1, g2, g3⟩ := rA_4 hG
  clear hG
  obtain ⟨x0, rfl, b0, d0⟩ := rG_ref (by decide) g0
  obtain ⟨x1, rfl, b1, d1⟩ := aG_int g1
  dsimp only at b1 d1
  obtain ⟨x2, rfl, b2, d2⟩ := aG_int g2
  dsimp only at b2 d2
  obtain ⟨x3, rfl, b3, d3⟩ := aG_int g3
  dsimp only at b3 d3
  obtain ⟨m1, m2, m3, m4⟩ := hM0
  obtain ⟨T, hT⟩ := rTe_ex hH b0 d0
  have f0 : rB3 N K n p 478 [rI x1, rI x2, rI x3] σ := by
    obtain ⟨w, e6, e7⟩ := m4 (7651, [1, 2, 3]) (List.mem_of_getElem? (i := 0) rfl)
    obtain rfl : [rI x1, rI x2, rI x3] = w := Option.some.inj (show some [rI x1, rI x2, rI x3] = some w from e6)
    exact (rF_b (r := 7651) (by decide) rfl).mp e7
  have f0 := ro3_478.mp f0
  have f1 : rB3 N K n p 479 [rI x3] σ := by
    obtain ⟨w, e6, e7⟩ := m4 (7665, [3]) (List.mem_of_getElem? (i := 1) rfl)
    obtain rfl : [rI x3] = w := Option.some.inj (show some [rI x3] = some w from e6)
    exact (rF_b (r := 7665) (by decide) rfl).mp e7
  have f1 := ro3_479.mp f1
  have f2 : rB3 N K n p 400 [rR x0] σ := by
    obtain ⟨w, e6, e7⟩ := m4 (6401, [0]) (List.mem_of_getElem? (i := 2) rfl)
    obtain rfl : [rR x0] = w := Option.some.inj (show some [rR x0] = some w from e6)
    exact (rF_b (r := 6401) (by decide) rfl).mp e7
  obtain ⟨hp, hR⟩ := ro3_400.mp f2
  obtain rfl := rMg_u hT hR.1
  have f3 : rB3 N K n p 24 [] σ := by
    obtain ⟨w, e6, e7⟩ := m4 (384, []) (List.mem_of_getElem? (i := 3) rfl)
    obtain rfl : [] = w := Option.some.inj (show some [] = some w from e6)
    exact (rF_b (r := 384) (by decide) rfl).mp e7
  have f3 := ro3_24.mp f3
  clear m1 m2 m3 m4
  have r0 : 0 ≤ (1 * x3.toInt + 0) + 0 := by
    have h1 := rJk_2 f3.2.2.2.1 x1.toInt.toNat
    have h2 := f0.2
    by_cases h9 : x3.toInt < 0
    · have := h2 h9
      omega
    · omega
  have q0 : rB3 N K n p 398 [rR x0, rI x3] σ := ro3_398.mpr (by
    obtain ⟨g, hg, eM⟩ := hR.1
    have h3 := f1 (by omega)
    have h4 := f3.2.2.1 x3.toInt
    have h5 : p.1.1 x3.toInt = (g x3.toInt.toNat).toInt := by
      rw [eM]
      exact if_pos ⟨by omega, by omega⟩
    exact ⟨by omega, by omega, g, hg, by omega⟩)
  exact ⟨p, fun _ => rfl, ⟨(fun q h => by cases h), fun q h => (by cases h), (aAllc ⟨_, rfl, r0⟩ (fun f h => by cases h)), (aAllc ⟨_, rfl, (rF_b (r := 6370) (by decide) rfl).mpr q0⟩ (fun f h => by cases h))⟩, [], List.mem_cons_self, fun f h => (by cases h)⟩
theorem rw_rkEv {N : Int} {K : Nat → Nat} {n : Nat} {JX : (Nat → jcell) → Prop} : aGho (rH N K n) fa_T K n JX ag_rkEv := by
  refine aGho_of ⟨rfl, rfl⟩ ?_
  intro p σ ρ hH hX hA hM0
  have hG := aAG_of hA.1 (fun i e v he hv => (hA.2 i e v he hv).1)
  clear hA
  obtain ⟨v0, v1, v2, v3, rfl, g0, g1, g2, g3⟩ := rA_4 hG
  clear hG
  obtain ⟨x0, rfl, b0, d0⟩ := rG_ref (by decide) g0
  obtain ⟨x1, rfl, b1, d1⟩ := rG_ref (by decide) g1
  obtain ⟨x2, rfl, b2, d2⟩ := aG_int g2
  dsimp only at b2 d2
  obtain ⟨x3, rfl, b3, d3⟩ := aG_int g3
  dsimp only at b3 d3
  obtain ⟨m1, m2, m3, m4⟩ := hM0
  obtain ⟨T, hT⟩ := rTe_ex hH b0 d0
  obtain ⟨a0, c0, fs0, w0, e1, s0, t0, e4⟩ := m1 (0, 24, 1) (List.mem_of_getElem? (i := 0) rfl)
  obtain rfl : x0 = a0 := Sum.inl.inj (Option.some.inj (Sum.inr.inj (Sum.inr.inj (Option.some.inj (show some (rR x0) = some _ from e1)))))
  obtain rfl : rR x1 = w0 := Option.some.inj (show some (rR x1) = some w0 from e4)
  clear e1 e4
  obtain ⟨a, mc0, ty0, gc0, ic0, e1, sc0, jc0, e4, e5⟩ := m2 (1, ([(2, 1)], 0), 3) (List.mem_of_getElem? (i := 0) rfl)
  obtain rfl : x1 = a := Sum.inl.inj (Option.some.inj (Sum.inr.inj (Sum.inr.inj (Option.some.inj (show some (rR x1) = some _ from e1)))))
  obtain ⟨gc0, rfl⟩ : ∃ g, gc0 = .inl g := by
    rcases gc0 with g | g
    · exact ⟨g, rfl⟩
    · exact absurd (show some (rI x3) = some (.inr (.inl (g ic0))) from e5) (fun h => by cases h)
  have sc0 : σ x1 = .inl (ty0, mc0, .inl gc0) := sc0
  have ec0 : x3 = gc0 ic0 := Sum.inl.inj (Option.some.inj (show some (rI x3) = some _ from e5))
  have kc0 : (ic0 : Int) = (1 * x2.toInt + 0) + 0 := by
    obtain ⟨z, e6, e7⟩ := e4
    obtain rfl : (1 * x2.toInt + 0) = z := Option.some.inj (show some (1 * x2.toInt + 0) = some z from e6)
    exact e7
  clear e1 e4 e5
  have y0 : T x2.toInt = x3.toInt := rMg_c hT s0 t0 sc0 (by omega) (by omega) (by omega) ec0
  have f0 : rB3 N K n p 398 [rR x0, rI x2] σ := by
    obtain ⟨w, e6, e7⟩ := m4 (6370, [0, 2]) (List.mem_of_getElem? (i := 0) rfl)
    obtain rfl : [rR x0, rI x2] = w := Option.some.inj (show some [rR x0, rI x2] = some w from e6)
    exact (rF_b (r := 6370) (by decide) rfl).mp e7
  have f0 := ro3_398.mp f0
  clear m1 m2 m3 m4
  have hd : (0 ≤ (1 * x3.toInt + 0) + -1 ∧ 0 ≤ (-1 * x3.toInt + 0) + 5) ∨ (0 ≤ (1 * x3.toInt + 0) + -9 ∧ 0 ≤ (-1 * x3.toInt + 0) + 13) := by
    obtain ⟨k0, k1, g, r, kk⟩ := f0
    have e := rRo_c (i := ic0) r s0 t0 sc0 ec0
    rw [show x2.toInt.toNat = ic0 by omega] at kk
    omega
  rcases hd with ⟨w0, w1⟩ | ⟨w0, w1⟩
  · exact ⟨p, fun _ => rfl, ⟨(fun q h => by cases h), fun q h => (by cases h), (fun f h => by cases h), (fun f h => by cases h)⟩, _, List.mem_of_getElem? (i := 0) rfl, (aAllc ⟨_, rfl, w0⟩ (aAllc ⟨_, rfl, w1⟩ (fun f h => by cases h)))⟩
  · exact ⟨p, fun _ => rfl, ⟨(fun q h => by cases h), fun q h => (by cases h), (fun f h => by cases h), (fun f h => by cases h)⟩, _, List.mem_of_getElem? (i := 1) rfl, (aAllc ⟨_, rfl, w0⟩ (aAllc ⟨_, rfl, w1⟩ (fun f h => by cases h)))⟩
theorem rw_rkG5 {N : Int} {K : Nat → Nat} {n : Nat} {JX : (Nat → jcell) → Prop} : aGho (rH N K n) fa_T K n JX ag_rkG5 := by
  refine aGho_of ⟨rfl, rfl⟩ ?_
  intro p σ ρ hH hX hA hM0
  have hG := aAG_of hA.1 (fun i e v he hv => (hA.2 i e v he hv).1)
  clear hA
  obtain ⟨v0, v1, rfl, g0, g1⟩ := rA_2 hG
  clear hG
  obtain ⟨x0, rfl, b0, d0⟩ := rG_ref (by decide) g0
  obtain ⟨x1, rfl, b1, d1⟩ := rG_ref (by decide) g1
  obtain ⟨m1, m2, m3, m4⟩ := hM0
  obtain ⟨a0, c0, fs0, w0, e1, s0, t0, e4⟩ := m1 (0, 7, 1) (List.mem_of_getElem? (i := 0) rfl)
  obtain rfl : x0 = a0 := Sum.inl.inj (Option.some.inj (Sum.inr.inj (Sum.inr.inj (Option.some.inj (show some (rR x0) = some _ from e1)))))
  obtain rfl : rR x1 = w0 := Option.some.inj (show some (rR x1) = some w0 from e4)
  clear e1 e4
  have f0 : rB3 N K n p 353 [rR x1] σ := by
    obtain ⟨w, e6, e7⟩ := m4 (5649, [1]) (List.mem_of_getElem? (i := 0) rfl)
    obtain rfl : [rR x1] = w := Option.some.inj (show some [rR x1] = some w from e6)
    exact (rF_b (r := 5649) (by decide) rfl).mp e7
  have f0 := ro3_353.mp f0
  clear m1 m2 m3 m4
  have q0 : rB3 N K n p 399 [rR x0] σ := ro3_399.mpr (by
    exact Or.inr ⟨x1, ⟨b0, d0, _, _, s0, t0⟩, f0⟩)
  exact ⟨p, fun _ => rfl, ⟨(fun q h => by cases h), fun q h => (by cases h), (fun f h => by cases h), (aAllc ⟨_, rfl, (rF_b (r := 6385) (by decide) rfl).mpr q0⟩ (fun f h => by cases h))⟩, [], List.mem_cons_self, fun f h => (by cases h)⟩
theorem rw_rkX0 {N : Int} {K : Nat → Nat} {n : Nat} {JX : (Nat → jcell) → Prop} : aGho (rH N K n) fa_T K n JX ag_rkX0 := by
  refine aGho_of ⟨rfl, rfl⟩ ?_
  intro p σ ρ hH hX hA hM0
  have hG := aAG_of hA.1 (fun i e v he hv => (hA.2 i e v he hv).1)
  clear hA
  obtain ⟨v0, v1, v2, rfl, g0, g1, g2⟩ := rA_3 hG
  clear hG
  obtain ⟨x0, rfl, b0, d0⟩ := aG_int g0
  dsimp only at b0 d0
  obtain ⟨x1, rfl, b1, d1⟩ := aG_int g1
  dsimp only at b1 d1
  obtain ⟨x2, rfl, b2, d2⟩ := aG_int g2
  dsimp only at b2 d2
  obtain ⟨m1, m2, m3, m4⟩ := hM0
  have f0 : rB3 N K n p 117 [rI x0, rI x1, rI x2] σ := by
    obtain ⟨w, e6, e7⟩ := m4 (1875, [0, 1, 2]) (List.mem_of_getElem? (i := 0) rfl)
    obtain rfl : [rI x0, rI x1, rI x2] = w := Option.some.inj (show some [rI x0, rI x1, rI x2] = some w from e6)
    exact (rF_b (r := 1875) (by decide) rfl).mp e7
  have f0 : x2 = x0 ^^^ x1 := Sum.inl.inj (ro3_117.mp f0)
  clear m1 m2 m3 m4
  have r0 : 0 ≤ (1 * x2.toInt + 0) + 0 := by
    have h := rJ_xo (c := 0) f0 (by omega) (by omega) b0 d0
    omega
  have r1 : 0 ≤ (-1 * x2.toInt + 0) + 24575 := by
    have h := rJ_xo (c := 0) f0 (by omega) (by omega) b0 d0
    omega
  exact ⟨p, fun _ => rfl, ⟨(fun q h => by cases h), fun q h => (by cases h), (aAllc ⟨_, rfl, r0⟩ (aAllc ⟨_, rfl, r1⟩ (fun f h => by cases h))), (fun f h => by cases h)⟩, [], List.mem_cons_self, fun f h => (by cases h)⟩
theorem rw_rkX56 {N : Int} {K : Nat → Nat} {n : Nat} {JX : (Nat → jcell) → Prop} : aGho (rH N K n) fa_T K n JX ag_rkX56 := by
  refine aGho_of ⟨rfl, rfl⟩ ?_
  intro p σ ρ hH hX hA hM0
  have hG := aAG_of hA.1 (fun i e v he hv => (hA.2 i e v he hv).1)
  clear hA
  obtain ⟨v0, v1, v2, rfl, g0, g1, g2⟩ := rA_3 hG
  clear hG
  obtain ⟨x0, rfl, b0, d0⟩ := aG_int g0
  dsimp only at b0 d0
  obtain ⟨x1, rfl, b1, d1⟩ := aG_int g1
  dsimp only at b1 d1
  obtain ⟨x2, rfl, b2, d2⟩ := aG_int g2
  dsimp only at b2 d2
  obtain ⟨m1, m2, m3, m4⟩ := hM0
  have f0 : rB3 N K n p 117 [rI x0, rI x1, rI x2] σ := by
    obtain ⟨w, e6, e7⟩ := m4 (1875, [0, 1, 2]) (List.mem_of_getElem? (i := 0) rfl)
    obtain rfl : [rI x0, rI x1, rI x2] = w := Option.some.inj (show some [rI x0, rI x1, rI x2] = some w from e6)
    exact (rF_b (r := 1875) (by decide) rfl).mp e7
  have f0 : x2 = x0 ^^^ x1 := Sum.inl.inj (ro3_117.mp f0)
  clear m1 m2 m3 m4
  have r0 : 0 ≤ (1 * x2.toInt + 0) + 0 := by
    have h := rJ_xo (c := 56) f0 (by omega) (by omega) b0 d0
    omega
  have r1 : 0 ≤ (-1 * x2.toInt + 0) + 24575 := by
    have h := rJ_xo (c := 56) f0 (by omega) (by omega) b0 d0
    omega
  exact ⟨p, fun _ => rfl, ⟨(fun q h => by cases h), fun q h => (by cases h), (aAllc ⟨_, rfl, r0⟩ (aAllc ⟨_, rfl, r1⟩ (fun f h => by cases h))), (fun f h => by cases h)⟩, [], List.mem_cons_self, fun f h => (by cases h)⟩
theorem rw_rkX3584 {N : Int} {K : Nat → Nat} {n : Nat} {JX : (Nat → jcell) → Prop} : aGho (rH N K n) fa_T K n JX ag_rkX3584 := by
  refine aGho_of ⟨rfl, rfl⟩ ?_
  intro p σ ρ hH hX hA hM0
  have hG := aAG_of hA.1 (fun i e v he hv => (hA.2 i e v he hv).1)
  clear hA
  obtain ⟨v0, v1, v2, rfl, g0, g1, g2⟩ := rA_3 hG
  clear hG
  obtain ⟨x0, rfl, b0, d0⟩ := aG_int g0
  dsimp only at b0 d0
  obtain ⟨x1, rfl, b1, d1⟩ := aG_int g1
  dsimp only at b1 d1
  obtain ⟨x2, rfl, b2, d2⟩ := aG_int g2
  dsimp only at b2 d2
  obtain ⟨m1, m2, m3, m4⟩ := hM0
  have f0 : rB3 N K n p 117 [rI x0, rI x1, rI x2] σ := by
    obtain ⟨w, e6, e7⟩ := m4 (1875, [0, 1, 2]) (List.mem_of_getElem? (i := 0) rfl)
    obtain rfl : [rI x0, rI x1, rI x2] = w := Option.some.inj (show some [rI x0, rI x1, rI x2] = some w from e6)
    exact (rF_b (r := 1875) (by decide) rfl).mp e7
  have f0 : x2 = x0 ^^^ x1 := Sum.inl.inj (ro3_117.mp f0)
  clear m1 m2 m3 m4
  have r0 : 0 ≤ (1 * x2.toInt + 0) + 0 := by
    have h := rJ_xo (c := 3584) f0 (by omega) (by omega) b0 d0
    omega
  have r1 : 0 ≤ (-1 * x2.toInt + 0) + 24575 := by
    have h := rJ_xo (c := 3584) f0 (by omega) (by omega) b0 d0
    omega
  exact ⟨p, fun _ => rfl, ⟨(fun q h => by cases h), fun q h => (by cases h), (aAllc ⟨_, rfl, r0⟩ (aAllc ⟨_, rfl, r1⟩ (fun f h => by cases h))), (fun f h => by cases h)⟩, [], List.mem_cons_self, fun f h => (by cases h)⟩
theorem rw_rjK4 {N : Int} {K : Nat → Nat} {n : Nat} {JX : (Nat → jcell) → Prop} : aGho (rH N K n) fa_T K n JX ag_rjK4 := by
  refine aGho_of ⟨rfl, rfl⟩ ?_
  intro p σ ρ hH hX hA hM0
  have hG := aAG_of hA.1 (fun i e v he hv => (hA.2 i e v he hv).1)
  clear hA
  obtain ⟨v0, rfl, g0⟩ := rA_1 hG
  clear hG
  obtain ⟨x0, rfl, b0, d0⟩ := aG_int g0
  dsimp only at b0 d0
  obtain ⟨m1, m2, m3, m4⟩ := hM0
  clear m1 m2 m3 m4
  have hd : (0 ≤ (1 * x0.toInt + 0) + -1 ∧ 0 ≤ (-1 * x0.toInt + 0) + 1) ∨ (0 ≤ (1 * x0.toInt + 0) + -2 ∧ 0 ≤ (-1 * x0.toInt + 0) + 2) ∨ (0 ≤ (1 * x0.toInt + 0) + -3 ∧ 0 ≤ (-1 * x0.toInt + 0) + 3) ∨ (0 ≤ (1 * x0.toInt + 0) + -4 ∧ 0 ≤ (-1 * x0.toInt + 0) + 4) := by
    omega
  rcases hd with ⟨w0, w1⟩ | ⟨w0, w1⟩ | ⟨w0, w1⟩ | ⟨w0, w1⟩
  · exact ⟨p, fun _ => rfl, ⟨(fun q h => by cases h), fun q h => (by cases h), (fun f h => by cases h), (fun f h => by cases h)⟩, _, List.mem_of_getElem? (i := 0) rfl, (aAllc ⟨_, rfl, w0⟩ (aAllc ⟨_, rfl, w1⟩ (fun f h => by cases h)))⟩
  · exact ⟨p, fun _ => rfl, ⟨(fun q h => by cases h), fun q h => (by cases h), (fun f h => by cases h), (fun f h => by cases h)⟩, _, List.mem_of_getElem? (i := 1) rfl, (aAllc ⟨_, rfl, w0⟩ (aAllc ⟨_, rfl, w1⟩ (fun f h => by cases h)))⟩
  · exact ⟨p, fun _ => rfl, ⟨(fun q h => by cases h), fun q h => (by cases h), (fun f h => by cases h), (fun f h => by cases h)⟩, _, List.mem_of_getElem? (i := 2) rfl, (aAllc ⟨_, rfl, w0⟩ (aAllc ⟨_, rfl, w1⟩ (fun f h => by cases h)))⟩
  · exact ⟨p, fun _ => rfl, ⟨(fun q h => by cases h), fun q h => (by cases h), (fun f h => by cases h), (fun f h => by cases h)⟩, _, List.mem_of_getElem? (i := 3) rfl, (aAllc ⟨_, rfl, w0⟩ (aAllc ⟨_, rfl, w1⟩ (fun f h => by cases h)))⟩
theorem rw_rjK3 {N : Int} {K : Nat → Nat} {n : Nat} {JX : (Nat → jcell) → Prop} : aGho (rH N K n) fa_T K n JX ag_rjK3 := by
  refine aGho_of ⟨rfl, rfl⟩ ?_
  intro p σ ρ hH hX hA hM0
  have hG := aAG_of hA.1 (fun i e v he hv => (hA.2 i e v he hv).1)
  clear hA
  obtain ⟨v0, rfl, g0⟩ := rA_1 hG
  clear hG
  obtain ⟨x0, rfl, b0, d0⟩ := aG_int g0
  dsimp only at b0 d0
  obtain ⟨m1, m2, m3, m4⟩ := hM0
  clear m1 m2 m3 m4
  have hd : (0 ≤ (1 * x0.toInt + 0) + 0 ∧ 0 ≤ (-1 * x0.toInt + 0) + 0) ∨ (0 ≤ (1 * x0.toInt + 0) + -1 ∧ 0 ≤ (-1 * x0.toInt + 0) + 1) ∨ (0 ≤ (1 * x0.toInt + 0) + -2 ∧ 0 ≤ (-1 * x0.toInt + 0) + 2) ∨ (0 ≤ (1 * x0.toInt + 0) + -3 ∧ 0 ≤ (-1 * x0.toInt + 0) + 3) := by
    omega
  rcases hd with ⟨w0, w1⟩ | ⟨w0, w1⟩ | ⟨w0, w1⟩ | ⟨w0, w1⟩
  · exact ⟨p, fun _ => rfl, ⟨(fun q h => by cases h), fun q h => (by cases h), (fun f h => by cases h), (fun f h => by cases h)⟩, _, List.mem_of_getElem? (i := 0) rfl, (aAllc ⟨_, rfl, w0⟩ (aAllc ⟨_, rfl, w1⟩ (fun f h => by cases h)))⟩
  · exact ⟨p, fun _ => rfl, ⟨(fun q h => by cases h), fun q h => (by cases h), (fun f h => by cases h), (fun f h => by cases h)⟩, _, List.mem_of_getElem? (i := 1) rfl, (aAllc ⟨_, rfl, w0⟩ (aAllc ⟨_, rfl, w1⟩ (fun f h => by cases h)))⟩
  · exact ⟨p, fun _ => rfl, ⟨(fun q h => by cases h), fun q h => (by cases h), (fun f h => by cases h), (fun f h => by cases h)⟩, _, List.mem_of_getElem? (i := 2) rfl, (aAllc ⟨_, rfl, w0⟩ (aAllc ⟨_, rfl, w1⟩ (fun f h => by cases h)))⟩
  · exact ⟨p, fun _ => rfl, ⟨(fun q h => by cases h), fun q h => (by cases h), (fun f h => by cases h), (fun f h => by cases h)⟩, _, List.mem_of_getElem? (i := 3) rfl, (aAllc ⟨_, rfl, w0⟩ (aAllc ⟨_, rfl, w1⟩ (fun f h => by cases h)))⟩
theorem rw_rjT1 {N : Int} {K : Nat → Nat} {n : Nat} {JX : (Nat → jcell) → Prop} : aGho (rH N K n) fa_T K n JX ag_rjT1 := by
  refine aGho_of ⟨rfl, rfl⟩ ?_
  intro p σ ρ hH hX hA hM0
  have hG := aAG_of hA.1 (fun i e v he hv => (hA.2 i e v he hv).1)
  clear hA
  obtain ⟨v0, v1, v2, rfl, g0, g1, g2⟩ := rA_3 hG
  clear hG
  obtain ⟨x0, rfl, b0, d0⟩ := aG_int g0
  dsimp only at b0 d0
  obtain ⟨x1, rfl, b1, d1⟩ := aG_int g1
  dsimp only at b1 d1
  obtain ⟨x2, rfl, b2, d2⟩ := aG_int g2
  dsimp only at b2 d2
  obtain ⟨m1, m2, m3, m4⟩ := hM0
  have l0 : 0 ≤ (1 * x2.toInt + (-1 * x1.toInt + 0)) + -1 := by
    obtain ⟨z, e6, e7⟩ := m3 ([(2, 1), (1, -1)], -1) (List.mem_of_getElem? (i := 0) rfl)
    obtain rfl : (1 * x2.toInt + (-1 * x1.toInt + 0)) = z := Option.some.inj (show some (1 * x2.toInt + (-1 * x1.toInt + 0)) = some z from e6)
    exact e7
  have l1 : 0 ≤ (1 * x1.toInt + (-1 * x0.toInt + 0)) + 0 := by
    obtain ⟨z, e6, e7⟩ := m3 ([(1, 1), (0, -1)], 0) (List.mem_of_getElem? (i := 1) rfl)
    obtain rfl : (1 * x1.toInt + (-1 * x0.toInt + 0)) = z := Option.some.inj (show some (1 * x1.toInt + (-1 * x0.toInt + 0)) = some z from e6)
    exact e7
  clear m1 m2 m3 m4
  have r0 : 0 ≤ (1 * x2.toInt + (-1 * x0.toInt + 0)) + -1 := by
    omega
  exact ⟨p, fun _ => rfl, ⟨(fun q h => by cases h), fun q h => (by cases h), (aAllc ⟨_, rfl, r0⟩ (fun f h => by cases h)), (fun f h => by cases h)⟩, [], List.mem_cons_self, fun f h => (by cases h)⟩
end
section
section FA
variable {l : Launch} {E : jE} {K : Nat → Nat} {n : Nat} {P : Type} {F : aFt P} {sh : P → List jv → P} {JX : (Nat → jcell) → Prop}
noncomputable def ak_MMhelpC1 : List jI := [(.aload_n 0, 1, (0, 0, 0, 0, 0)), (.getfield 27, 3, (11, 6, 2308, 0, 0)), (.iload_n 3, 1, (3, 0, 0, 0, 0)), (.putfield 542, 3, (13, 31, 2217, 0, 0)), (.aload_n 0, 1, (0, 0, 0, 0, 0)), (.getfield 27, 3, (11, 6, 2308, 0, 0)), (.iconst 0, 1, (0, 0, 0, 0, 0)), (.putfield 545, 3, (13, 32, 2219, 1, 0)), (.aload_n 0, 1, (0, 0, 0, 0, 0)), (.getfield 27, 3, (11, 6, 2308, 0, 0)), (.iload_n 1, 1, (1, 0, 0, 0, 0)), (.iconst 2, 1, (0, 0, 0, 2, 0)), (.iload_n 2, 1, (2, 0, 0, 0, 0)), (.imul, 1, (0, 0, 0, 0, 0)), (.iconst 0, 1, (0, 0, 0, 0, 0)), (.invokevirtual 548, 3, (0, 0, 3279, 0, 0)), (.ireturn, 1, (0, 0, 0, 0, 0))]
theorem ao_MMhelpC1 : jokLG jtF lk_MM "ChessHouseModel" jcl jtb 4 prog_15_method_59_code 0 ak_MMhelpC1 = true := by decide +kernel
noncomputable def ag_MMhelpC1 : aCon := (y_MM_help, false, 4, ([(.inr (some (.inl (false, 55))), none), (.inl (0, 1), none), (.inl (1, 1), none), (.inl (-2147483648, 2147483647), none), (.inr (some (.inl (false, 88))), none)], ([(0, 6, 4)], [], [], [(353, [4]), (384, [])])), (some (.inl (-2147483648, 2147483647)), [], ([], [], [], [(353, [4])]), [[]]), ([(88, 3), (88, 4), (88, 5), (88, 6), (88, 32), (88, 31)], [(60, ([], 0)), (90, ([], 0)), (91, ([], 0)), (92, ([], 0)), (93, ([], 0)), (94, ([], 0)), (95, ([], 0)), (96, ([], 0)), (97, ([], 0)), (98, ([], 0)), (99, ([], 0)), (100, ([], 0)), (101, ([], 0)), (102, ([], 0)), (97, ([], 0)), (98, ([], 0)), (99, ([], 0)), (100, ([], 0)), (101, ([], 0)), (102, ([], 0)), (103, ([], 0)), (104, ([], 0)), (108, ([], 0)), (107, ([], 0))]), { frames := 11, cells := 0, slots := 0, locals := 275 })
noncomputable def am_MMhelpC1 : aMi := (("ChessHouseModel", lw_tbl, jcl, (some .int), [(548, 3279, 0)], [], [], [], []), (fa_T, fa_TB, fa_Pk, [(88, 3), (88, 4), (88, 5), (88, 6), (88, 32), (88, 31)], [(60, ([], 0)), (90, ([], 0)), (91, ([], 0)), (92, ([], 0)), (93, ([], 0)), (94, ([], 0)), (95, ([], 0)), (96, ([], 0)), (97, ([], 0)), (98, ([], 0)), (99, ([], 0)), (100, ([], 0)), (101, ([], 0)), (102, ([], 0)), (97, ([], 0)), (98, ([], 0)), (99, ([], 0)), (100, ([], 0)), (101, ([], 0)), (102, ([], 0)), (103, ([], 0)), (104, ([], 0)), (108, ([], 0)), (107, ([], 0))], rm_dep, 5), [ag_MBcntC2], ag_MMhelpC1, ak_MMhelpC1, [(0, aEn ag_MMhelpC1, [], [([], 0)])])
theorem ac_MMhelpC1 : aChk am_MMhelpC1 19 = true := by rw [fs_Chk]; decide +kernel
theorem ad_MMhelpC1 : aGd lw_tbl ag_MMhelpC1 := ⟨rfl, rfl, m_MM_help, i_MM_help, e_MM_help⟩
theorem ae_MMhelpC1 (hJ : aJx K n fa_Pk JX) (hS : aShf F sh) (hD : aDp F K n fa_dep) (hD1 : aDp F K n ra_dep) (hD2 : aDp F K n rm_dep) (hh_rvAL : aGho F fa_T K n JX ag_rvAL) (hh_rvB0 : aGho F fa_T K n JX ag_rvB0) (hh_rvB1 : aGho F fa_T K n JX ag_rvB1) (hh_rvBT1 : aGho F fa_T K n JX ag_rvBT1) (hh_rvC0 : aGho F fa_T K n JX ag_rvC0) (hh_rvCASd : aGho F fa_T K n JX ag_rvCASd) (hh_rvCASu : aGho F fa_T K n JX ag_rvCASu) (hh_rvCAq : aGho F fa_T K n JX ag_rvCAq) (hh_rvCE : aGho F fa_T K n JX ag_rvCE) (hh_rvCJ0 : aGho F fa_T K n JX ag_rvCJ0) (hh_rvCJ1 : aGho F fa_T K n JX ag_rvCJ1) (hh_rvCL0 : aGho F fa_T K n JX ag_rvCL0) (hh_rvCL1 : aGho F fa_T K n JX ag_rvCL1) (hh_rvCLX : aGho F fa_T K n JX ag_rvCLX) (hh_rvCT : aGho F fa_T K n JX ag_rvCT) (hh_rvCe1b : aGho F fa_T K n JX ag_rvCe1b) (hh_rvCe2 : aGho F fa_T K n JX ag_rvCe2) (hh_rvCf : aGho F fa_T K n JX ag_rvCf) (hh_rvCi : aGho F fa_T K n JX ag_rvCi) (hh_rvCn10 : aGho F fa_T K n JX ag_rvCn10) (hh_rvCn11 : aGho F fa_T K n JX ag_rvCn11) (hh_rvCn2 : aGho F fa_T K n JX ag_rvCn2) (hh_rvCs : aGho F fa_T K n JX ag_rvCs) (hh_rvDIR : aGho F fa_T K n JX ag_rvDIR) (hh_rvDM : aGho F fa_T K n JX ag_rvDM) (hh_rvDM2 : aGho F fa_T K n JX ag_rvDM2) (hh_rvEP000 : aGho F fa_T K n JX ag_rvEP000) (hh_rvEP001 : aGho F fa_T K n JX ag_rvEP001) (hh_rvEP010 : aGho F fa_T K n JX ag_rvEP010) (hh_rvEP011 : aGho F fa_T K n JX ag_rvEP011) (hh_rvEPn : aGho F fa_T K n JX ag_rvEPn) (hh_rvFE0 : aGho F fa_T K n JX ag_rvFE0) (hh_rvFE1 : aGho F fa_T K n JX ag_rvFE1) (hh_rvFL0 : aGho F fa_T K n JX ag_rvFL0) (hh_rvFLn : aGho F fa_T K n JX ag_rvFLn) (hh_rvFLz : aGho F fa_T K n JX ag_rvFLz) (hh_rvFMA : aGho F fa_T K n JX ag_rvFMA) (hh_rvG1 : aGho F fa_T K n JX ag_rvG1) (hh_rvG20 : aGho F fa_T K n JX ag_rvG20) (hh_rvG21 : aGho F fa_T K n JX ag_rvG21) (hh_rvG300 : aGho F fa_T K n JX ag_rvG300) (hh_rvG301 : aGho F fa_T K n JX ag_rvG301) (hh_rvG310 : aGho F fa_T K n JX ag_rvG310) (hh_rvG311 : aGho F fa_T K n JX ag_rvG311) (hh_rvGY : aGho F fa_T K n JX ag_rvGY) (hh_rvGZ : aGho F fa_T K n JX ag_rvGZ) (hh_rvGl00 : aGho F fa_T K n JX ag_rvGl00) (hh_rvGl01 : aGho F fa_T K n JX ag_rvGl01) (hh_rvGl10 : aGho F fa_T K n JX ag_rvGl10) (hh_rvGl11 : aGho F fa_T K n JX ag_rvGl11) (hh_rvGs00 : aGho F fa_T K n JX ag_rvGs00) (hh_rvGs01 : aGho F fa_T K n JX ag_rvGs01) (hh_rvGs10 : aGho F fa_T K n JX ag_rvGs10) (hh_rvGs11 : aGho F fa_T K n JX ag_rvGs11) (hh_rvHK : aGho F fa_T K n JX ag_rvHK) (hh_rvHK2 : aGho F fa_T K n JX ag_rvHK2) (hh_rvHKs : aGho F fa_T K n JX ag_rvHKs) (hh_rvHM0 : aGho F fa_T K n JX ag_rvHM0) (hh_rvHM1 : aGho F fa_T K n JX ag_rvHM1) (hh_rvHMa : aGho F fa_T K n JX ag_rvHMa) (hh_rvHMb : aGho F fa_T K n JX ag_rvHMb) (hh_rvIC : aGho F fa_T K n JX ag_rvIC) (hh_rvIL0 : aGho F fa_T K n JX ag_rvIL0) (hh_rvIL1 : aGho F fa_T K n JX ag_rvIL1) (hh_rvJe0 : aGho F fa_T K n JX ag_rvJe0) (hh_rvJe1 : aGho F fa_T K n JX ag_rvJe1) (hh_rvJn0 : aGho F fa_T K n JX ag_rvJn0) (hh_rvJn1 : aGho F fa_T K n JX ag_rvJn1) (hh_rvJs : aGho F fa_T K n JX ag_rvJs) (hh_rvJy0 : aGho F fa_T K n JX ag_rvJy0) (hh_rvJy1 : aGho F fa_T K n JX ag_rvJy1) (hh_rvK0 : aGho F fa_T K n JX ag_rvK0) (hh_rvK1d : aGho F fa_T K n JX ag_rvK1d) (hh_rvK1u : aGho F fa_T K n JX ag_rvK1u) (hh_rvK2d : aGho F fa_T K n JX ag_rvK2d) (hh_rvK2u : aGho F fa_T K n JX ag_rvK2u) (hh_rvK3d : aGho F fa_T K n JX ag_rvK3d) (hh_rvK3u : aGho F fa_T K n JX ag_rvK3u) (hh_rvK4d : aGho F fa_T K n JX ag_rvK4d) (hh_rvK4u : aGho F fa_T K n JX ag_rvK4u) (hh_rvKD : aGho F fa_T K n JX ag_rvKD) (hh_rvKF : aGho F fa_T K n JX ag_rvKF) (hh_rvKF2 : aGho F fa_T K n JX ag_rvKF2) (hh_rvKO : aGho F fa_T K n JX ag_rvKO) (hh_rvKb : aGho F fa_T K n JX ag_rvKb) (hh_rvKnd : aGho F fa_T K n JX ag_rvKnd) (hh_rvKnu : aGho F fa_T K n JX ag_rvKnu) (hh_rvKs : aGho F fa_T K n JX ag_rvKs) (hh_rvLF0 : aGho F fa_T K n JX ag_rvLF0) (hh_rvLFn : aGho F fa_T K n JX ag_rvLFn) (hh_rvLFs : aGho F fa_T K n JX ag_rvLFs) (hh_rvLGy : aGho F fa_T K n JX ag_rvLGy) (hh_rvLO0 : aGho F fa_T K n JX ag_rvLO0) (hh_rvLO1 : aGho F fa_T K n JX ag_rvLO1) (hh_rvLO10 : aGho F fa_T K n JX ag_rvLO10) (hh_rvLO2 : aGho F fa_T K n JX ag_rvLO2) (hh_rvLO3 : aGho F fa_T K n JX ag_rvLO3) (hh_rvLO4 : aGho F fa_T K n JX ag_rvLO4) (hh_rvLO5 : aGho F fa_T K n JX ag_rvLO5) (hh_rvLO6 : aGho F fa_T K n JX ag_rvLO6) (hh_rvLO7 : aGho F fa_T K n JX ag_rvLO7) (hh_rvLO8 : aGho F fa_T K n JX ag_rvLO8) (hh_rvLO9 : aGho F fa_T K n JX ag_rvLO9) (hh_rvLS0a : aGho F fa_T K n JX ag_rvLS0a) (hh_rvLS0b0 : aGho F fa_T K n JX ag_rvLS0b0) (hh_rvLS0b1 : aGho F fa_T K n JX ag_rvLS0b1) (hh_rvLS1a : aGho F fa_T K n JX ag_rvLS1a) (hh_rvLS1b : aGho F fa_T K n JX ag_rvLS1b) (hh_rvLd : aGho F fa_T K n JX ag_rvLd) (hh_rvM4d1 : aGho F fa_T K n JX ag_rvM4d1) (hh_rvM4d2 : aGho F fa_T K n JX ag_rvM4d2) (hh_rvM4u1 : aGho F fa_T K n JX ag_rvM4u1) (hh_rvM4u2 : aGho F fa_T K n JX ag_rvM4u2) (hh_rvM5d : aGho F fa_T K n JX ag_rvM5d) (hh_rvM5u : aGho F fa_T K n JX ag_rvM5u) (hh_rvMCa00 : aGho F fa_T K n JX ag_rvMCa00) (hh_rvMCa01 : aGho F fa_T K n JX ag_rvMCa01) (hh_rvMCa10 : aGho F fa_T K n JX ag_rvMCa10) (hh_rvMCa11 : aGho F fa_T K n JX ag_rvMCa11) (hh_rvMCc00 : aGho F fa_T K n JX ag_rvMCc00) (hh_rvMCc01 : aGho F fa_T K n JX ag_rvMCc01) (hh_rvMCc10 : aGho F fa_T K n JX ag_rvMCc10) (hh_rvMCc11 : aGho F fa_T K n JX ag_rvMCc11) (hh_rvMCn00 : aGho F fa_T K n JX ag_rvMCn00) (hh_rvMCn01 : aGho F fa_T K n JX ag_rvMCn01) (hh_rvMCn10 : aGho F fa_T K n JX ag_rvMCn10) (hh_rvMCn11 : aGho F fa_T K n JX ag_rvMCn11) (hh_rvMCr00 : aGho F fa_T K n JX ag_rvMCr00) (hh_rvMCr01 : aGho F fa_T K n JX ag_rvMCr01) (hh_rvMCr10 : aGho F fa_T K n JX ag_rvMCr10) (hh_rvMCr11 : aGho F fa_T K n JX ag_rvMCr11) (hh_rvMCy00 : aGho F fa_T K n JX ag_rvMCy00) (hh_rvMCy01 : aGho F fa_T K n JX ag_rvMCy01) (hh_rvMCy10 : aGho F fa_T K n JX ag_rvMCy10) (hh_rvMCy11 : aGho F fa_T K n JX ag_rvMCy11) (hh_rvN00 : aGho F fa_T K n JX ag_rvN00) (hh_rvN01 : aGho F fa_T K n JX ag_rvN01) (hh_rvN02 : aGho F fa_T K n JX ag_rvN02) (hh_rvN1 : aGho F fa_T K n JX ag_rvN1) (hh_rvN5 : aGho F fa_T K n JX ag_rvN5) (hh_rvNH1 : aGho F fa_T K n JX ag_rvNH1) (hh_rvNL : aGho F fa_T K n JX ag_rvNL) (hh_rvNP0 : aGho F fa_T K n JX ag_rvNP0) (hh_rvNP1 : aGho F fa_T K n JX ag_rvNP1) (hh_rvNPN0 : aGho F fa_T K n JX ag_rvNPN0) (hh_rvNPN1 : aGho F fa_T K n JX ag_rvNPN1) (hh_rvNPa : aGho F fa_T K n JX ag_rvNPa) (hh_rvNPba : aGho F fa_T K n JX ag_rvNPba) (hh_rvNPbb : aGho F fa_T K n JX ag_rvNPbb) (hh_rvNPbc : aGho F fa_T K n JX ag_rvNPbc) (hh_rvNPnd : aGho F fa_T K n JX ag_rvNPnd) (hh_rvNPnu : aGho F fa_T K n JX ag_rvNPnu) (hh_rvNPyld : aGho F fa_T K n JX ag_rvNPyld) (hh_rvNPylu : aGho F fa_T K n JX ag_rvNPylu) (hh_rvNPyrd : aGho F fa_T K n JX ag_rvNPyrd) (hh_rvNPyru : aGho F fa_T K n JX ag_rvNPyru) (hh_rvNe : aGho F fa_T K n JX ag_rvNe) (hh_rvNf0 : aGho F fa_T K n JX ag_rvNf0) (hh_rvNfn : aGho F fa_T K n JX ag_rvNfn) (hh_rvNr0 : aGho F fa_T K n JX ag_rvNr0) (hh_rvNrn : aGho F fa_T K n JX ag_rvNrn) (hh_rvOF0 : aGho F fa_T K n JX ag_rvOF0) (hh_rvOF1 : aGho F fa_T K n JX ag_rvOF1) (hh_rvOFd : aGho F fa_T K n JX ag_rvOFd) (hh_rvOFu : aGho F fa_T K n JX ag_rvOFu) (hh_rvON1 : aGho F fa_T K n JX ag_rvON1) (hh_rvONa : aGho F fa_T K n JX ag_rvONa) (hh_rvONb : aGho F fa_T K n JX ag_rvONb) (hh_rvONc : aGho F fa_T K n JX ag_rvONc) (hh_rvONd : aGho F fa_T K n JX ag_rvONd) (hh_rvOW : aGho F fa_T K n JX ag_rvOW) (hh_rvP1n : aGho F fa_T K n JX ag_rvP1n) (hh_rvP1y : aGho F fa_T K n JX ag_rvP1y) (hh_rvP2n : aGho F fa_T K n JX ag_rvP2n) (hh_rvP2p0 : aGho F fa_T K n JX ag_rvP2p0) (hh_rvP2p1 : aGho F fa_T K n JX ag_rvP2p1) (hh_rvP2y : aGho F fa_T K n JX ag_rvP2y) (hh_rvP30 : aGho F fa_T K n JX ag_rvP30) (hh_rvP3a : aGho F fa_T K n JX ag_rvP3a) (hh_rvP3nd0 : aGho F fa_T K n JX ag_rvP3nd0) (hh_rvP3nd1 : aGho F fa_T K n JX ag_rvP3nd1) (hh_rvP3nu0 : aGho F fa_T K n JX ag_rvP3nu0) (hh_rvP3nu1 : aGho F fa_T K n JX ag_rvP3nu1) (hh_rvP3s : aGho F fa_T K n JX ag_rvP3s) (hh_rvP3y : aGho F fa_T K n JX ag_rvP3y) (hh_rvPE : aGho F fa_T K n JX ag_rvPE) (hh_rvPF : aGho F fa_T K n JX ag_rvPF) (hh_rvPON0 : aGho F fa_T K n JX ag_rvPON0) (hh_rvPON1 : aGho F fa_T K n JX ag_rvPON1) (hh_rvPQ0 : aGho F fa_T K n JX ag_rvPQ0) (hh_rvPQ1 : aGho F fa_T K n JX ag_rvPQ1) (hh_rvPWN : aGho F fa_T K n JX ag_rvPWN) (hh_rvPa : aGho F fa_T K n JX ag_rvPa) (hh_rvPb : aGho F fa_T K n JX ag_rvPb) (hh_rvPc00 : aGho F fa_T K n JX ag_rvPc00) (hh_rvPc01 : aGho F fa_T K n JX ag_rvPc01) (hh_rvPc1 : aGho F fa_T K n JX ag_rvPc1) (hh_rvPc10 : aGho F fa_T K n JX ag_rvPc10) (hh_rvPc11 : aGho F fa_T K n JX ag_rvPc11) (hh_rvPd0 : aGho F fa_T K n JX ag_rvPd0) (hh_rvPd1 : aGho F fa_T K n JX ag_rvPd1) (hh_rvPd10 : aGho F fa_T K n JX ag_rvPd10) (hh_rvPd11 : aGho F fa_T K n JX ag_rvPd11) (hh_rvQID : aGho F fa_T K n JX ag_rvQID) (hh_rvR0 : aGho F fa_T K n JX ag_rvR0) (hh_rvRE : aGho F fa_T K n JX ag_rvRE) (hh_rvRGY00 : aGho F fa_T K n JX ag_rvRGY00) (hh_rvRGY01 : aGho F fa_T K n JX ag_rvRGY01) (hh_rvRGY10 : aGho F fa_T K n JX ag_rvRGY10) (hh_rvRGY11 : aGho F fa_T K n JX ag_rvRGY11) (hh_rvRK : aGho F fa_T K n JX ag_rvRK) (hh_rvRN0 : aGho F fa_T K n JX ag_rvRN0) (hh_rvRN1 : aGho F fa_T K n JX ag_rvRN1) (hh_rvRN10 : aGho F fa_T K n JX ag_rvRN10) (hh_rvRN11 : aGho F fa_T K n JX ag_rvRN11) (hh_rvRN2 : aGho F fa_T K n JX ag_rvRN2) (hh_rvRN3 : aGho F fa_T K n JX ag_rvRN3) (hh_rvRN4 : aGho F fa_T K n JX ag_rvRN4) (hh_rvRN5 : aGho F fa_T K n JX ag_rvRN5) (hh_rvRN6 : aGho F fa_T K n JX ag_rvRN6) (hh_rvRN7 : aGho F fa_T K n JX ag_rvRN7) (hh_rvRN8 : aGho F fa_T K n JX ag_rvRN8) (hh_rvRN9 : aGho F fa_T K n JX ag_rvRN9) (hh_rvRS25 : aGho F fa_T K n JX ag_rvRS25) (hh_rvRS61 : aGho F fa_T K n JX ag_rvRS61) (hh_rvRS62 : aGho F fa_T K n JX ag_rvRS62) (hh_rvRT1 : aGho F fa_T K n JX ag_rvRT1) (hh_rvRT2 : aGho F fa_T K n JX ag_rvRT2) (hh_rvRW32 : aGho F fa_T K n JX ag_rvRW32) (hh_rvRW41 : aGho F fa_T K n JX ag_rvRW41) (hh_rvRW51 : aGho F fa_T K n JX ag_rvRW51) (hh_rvRW52 : aGho F fa_T K n JX ag_rvRW52) (hh_rvRX : aGho F fa_T K n JX ag_rvRX) (hh_rvRi : aGho F fa_T K n JX ag_rvRi) (hh_rvRj : aGho F fa_T K n JX ag_rvRj) (hh_rvRo : aGho F fa_T K n JX ag_rvRo) (hh_rvRp : aGho F fa_T K n JX ag_rvRp) (hh_rvS1 : aGho F fa_T K n JX ag_rvS1) (hh_rvS2 : aGho F fa_T K n JX ag_rvS2) (hh_rvS3a : aGho F fa_T K n JX ag_rvS3a) (hh_rvS3b : aGho F fa_T K n JX ag_rvS3b) (hh_rvS3k : aGho F fa_T K n JX ag_rvS3k) (hh_rvS4a : aGho F fa_T K n JX ag_rvS4a) (hh_rvS4b0 : aGho F fa_T K n JX ag_rvS4b0) (hh_rvS4b1 : aGho F fa_T K n JX ag_rvS4b1) (hh_rvS4ka : aGho F fa_T K n JX ag_rvS4ka) (hh_rvS4kb : aGho F fa_T K n JX ag_rvS4kb) (hh_rvS4kc : aGho F fa_T K n JX ag_rvS4kc) (hh_rvS4l : aGho F fa_T K n JX ag_rvS4l) (hh_rvSD : aGho F fa_T K n JX ag_rvSD) (hh_rvSH : aGho F fa_T K n JX ag_rvSH) (hh_rvSQ1 : aGho F fa_T K n JX ag_rvSQ1) (hh_rvST0 : aGho F fa_T K n JX ag_rvST0) (hh_rvST1 : aGho F fa_T K n JX ag_rvST1) (hh_rvT0a : aGho F fa_T K n JX ag_rvT0a) (hh_rvT0b0 : aGho F fa_T K n JX ag_rvT0b0) (hh_rvT0b1 : aGho F fa_T K n JX ag_rvT0b1) (hh_rvT0ka : aGho F fa_T K n JX ag_rvT0ka) (hh_rvT0kb : aGho F fa_T K n JX ag_rvT0kb) (hh_rvT0kc : aGho F fa_T K n JX ag_rvT0kc) (hh_rvT1 : aGho F fa_T K n JX ag_rvT1) (hh_rvT2 : aGho F fa_T K n JX ag_rvT2) (hh_rvT3 : aGho F fa_T K n JX ag_rvT3) (hh_rvTK10 : aGho F fa_T K n JX ag_rvTK10) (hh_rvTK11 : aGho F fa_T K n JX ag_rvTK11) (hh_rvTK2 : aGho F fa_T K n JX ag_rvTK2) (hh_rvTR0 : aGho F fa_T K n JX ag_rvTR0) (hh_rvTRI : aGho F fa_T K n JX ag_rvTRI) (hh_rvTS : aGho F fa_T K n JX ag_rvTS) (hh_rvTW0 : aGho F fa_T K n JX ag_rvTW0) (hh_rvTW1 : aGho F fa_T K n JX ag_rvTW1) (hh_rvTX : aGho F fa_T K n JX ag_rvTX) (hh_rvU1 : aGho F fa_T K n JX ag_rvU1) (hh_rvU2 : aGho F fa_T K n JX ag_rvU2) (hh_rvU3 : aGho F fa_T K n JX ag_rvU3) (hh_rvU4 : aGho F fa_T K n JX ag_rvU4) (hh_rvU5 : aGho F fa_T K n JX ag_rvU5) (hh_rvUD : aGho F fa_T K n JX ag_rvUD) (hh_rvUDc : aGho F fa_T K n JX ag_rvUDc) (hh_rvW0 : aGho F fa_T K n JX ag_rvW0) (hh_rvWE : aGho F fa_T K n JX ag_rvWE) (hh_rvWHa : aGho F fa_T K n JX ag_rvWHa) (hh_rvWHb0 : aGho F fa_T K n JX ag_rvWHb0) (hh_rvWHb1 : aGho F fa_T K n JX ag_rvWHb1) (hh_rvWHcd : aGho F fa_T K n JX ag_rvWHcd) (hh_rvWHcu : aGho F fa_T K n JX ag_rvWHcu) (hh_rvWe : aGho F fa_T K n JX ag_rvWe) (hh_rvWn : aGho F fa_T K n JX ag_rvWn) (hh_rvWo : aGho F fa_T K n JX ag_rvWo) (hh_rvWz : aGho F fa_T K n JX ag_rvWz) (hh_rvY5 : aGho F fa_T K n JX ag_rvY5) (hh_rvYe : aGho F fa_T K n JX ag_rvYe) (hh_rvYk : aGho F fa_T K n JX ag_rvYk) (hh_rvYq : aGho F fa_T K n JX ag_rvYq) (hh_rvYr1 : aGho F fa_T K n JX ag_rvYr1) (hh_rvYr2 : aGho F fa_T K n JX ag_rvYr2) : aMe F l E jcl jtb lw_tbl fa_T K n JX ag_MMhelpC1 := aMe_of (m := am_MMhelpC1) (f := 19) rfl rfl rfl rfl rfl (by decide) (fun _ _ => jtF_ok) lo_MM (fun q h => by cases h) (aAllc (fun G h => by obtain rfl := Option.some.inj h; exact ql_MM_548) (fun q h => by cases h)) jC (aAllc ⟨ad_MBcntC2, ae_MBcntC2 hJ hS hD hD1 hh_rvAL hh_rvB0 hh_rvB1 hh_rvBT1 hh_rvC0 hh_rvCASd hh_rvCASu hh_rvCAq hh_rvCE hh_rvCJ0 hh_rvCJ1 hh_rvCL0 hh_rvCL1 hh_rvCLX hh_rvCT hh_rvCe1b hh_rvCe2 hh_rvCf hh_rvCi hh_rvCn10 hh_rvCn11 hh_rvCn2 hh_rvCs hh_rvDIR hh_rvDM hh_rvDM2 hh_rvEP000 hh_rvEP001 hh_rvEP010 hh_rvEP011 hh_rvEPn hh_rvFE0 hh_rvFE1 hh_rvFL0 hh_rvFLn hh_rvFLz hh_rvFMA hh_rvG1 hh_rvG20 hh_rvG21 hh_rvG300 hh_rvG301 hh_rvG310 hh_rvG311 hh_rvGY hh_rvGZ hh_rvGl00 hh_rvGl01 hh_rvGl10 hh_rvGl11 hh_rvGs00 hh_rvGs01 hh_rvGs10 hh_rvGs11 hh_rvHK hh_rvHK2 hh_rvHKs hh_rvHM0 hh_rvHM1 hh_rvHMa hh_rvHMb hh_rvIC hh_rvIL0 hh_rvIL1 hh_rvJe0 hh_rvJe1 hh_rvJn0 hh_rvJn1 hh_rvJs hh_rvJy0 hh_rvJy1 hh_rvK0 hh_rvK1d hh_rvK1u hh_rvK2d hh_rvK2u hh_rvK3d hh_rvK3u hh_rvK4d hh_rvK4u hh_rvKD hh_rvKF hh_rvKF2 hh_rvKO hh_rvKb hh_rvKnd hh_rvKnu hh_rvKs hh_rvLF0 hh_rvLFn hh_rvLFs hh_rvLGy hh_rvLO0 hh_rvLO1 hh_rvLO10 hh_rvLO2 hh_rvLO3 hh_rvLO4 hh_rvLO5 hh_rvLO6 hh_rvLO7 hh_rvLO8 hh_rvLO9 hh_rvLS0a hh_rvLS0b0 hh_rvLS0b1 hh_rvLS1a hh_rvLS1b hh_rvLd hh_rvM4d1 hh_rvM4d2 hh_rvM4u1 hh_rvM4u2 hh_rvM5d hh_rvM5u hh_rvMCa00 hh_rvMCa01 hh_rvMCa10 hh_rvMCa11 hh_rvMCc00 hh_rvMCc01 hh_rvMCc10 hh_rvMCc11 hh_rvMCn00 hh_rvMCn01 hh_rvMCn10 hh_rvMCn11 hh_rvMCr00 hh_rvMCr01 hh_rvMCr10 hh_rvMCr11 hh_rvMCy00 hh_rvMCy01 hh_rvMCy10 hh_rvMCy11 hh_rvN00 hh_rvN01 hh_rvN02 hh_rvN1 hh_rvN5 hh_rvNH1 hh_rvNL hh_rvNP0 hh_rvNP1 hh_rvNPN0 hh_rvNPN1 hh_rvNPa hh_rvNPba hh_rvNPbb hh_rvNPbc hh_rvNPnd hh_rvNPnu hh_rvNPyld hh_rvNPylu hh_rvNPyrd hh_rvNPyru hh_rvNe hh_rvNf0 hh_rvNfn hh_rvNr0 hh_rvNrn hh_rvOF0 hh_rvOF1 hh_rvOFd hh_rvOFu hh_rvON1 hh_rvONa hh_rvONb hh_rvONc hh_rvONd hh_rvOW hh_rvP1n hh_rvP1y hh_rvP2n hh_rvP2p0 hh_rvP2p1 hh_rvP2y hh_rvP30 hh_rvP3a hh_rvP3nd0 hh_rvP3nd1 hh_rvP3nu0 hh_rvP3nu1 hh_rvP3s hh_rvP3y hh_rvPE hh_rvPF hh_rvPON0 hh_rvPON1 hh_rvPQ0 hh_rvPQ1 hh_rvPWN hh_rvPa hh_rvPb hh_rvPc00 hh_rvPc01 hh_rvPc1 hh_rvPc10 hh_rvPc11 hh_rvPd0 hh_rvPd1 hh_rvPd10 hh_rvPd11 hh_rvQID hh_rvR0 hh_rvRE hh_rvRGY00 hh_rvRGY01 hh_rvRGY10 hh_rvRGY11 hh_rvRK hh_rvRN0 hh_rvRN1 hh_rvRN10 hh_rvRN11 hh_rvRN2 hh_rvRN3 hh_rvRN4 hh_rvRN5 hh_rvRN6 hh_rvRN7 hh_rvRN8 hh_rvRN9 hh_rvRS25 hh_rvRS61 hh_rvRS62 hh_rvRT1 hh_rvRT2 hh_rvRW32 hh_rvRW41 hh_rvRW51 hh_rvRW52 hh_rvRX hh_rvRi hh_rvRj hh_rvRo hh_rvRp hh_rvS1 hh_rvS2 hh_rvS3a hh_rvS3b hh_rvS3k hh_rvS4a hh_rvS4b0 hh_rvS4b1 hh_rvS4ka hh_rvS4kb hh_rvS4kc hh_rvS4l hh_rvSD hh_rvSH hh_rvSQ1 hh_rvST0 hh_rvST1 hh_rvT0a hh_rvT0b0 hh_rvT0b1 hh_rvT0ka hh_rvT0kb hh_rvT0kc hh_rvT1 hh_rvT2 hh_rvT3 hh_rvTK10 hh_rvTK11 hh_rvTK2 hh_rvTR0 hh_rvTRI hh_rvTS hh_rvTW0 hh_rvTW1 hh_rvTX hh_rvU1 hh_rvU2 hh_rvU3 hh_rvU4 hh_rvU5 hh_rvUD hh_rvUDc hh_rvW0 hh_rvWE hh_rvWHa hh_rvWHb0 hh_rvWHb1 hh_rvWHcd hh_rvWHcu hh_rvWe hh_rvWn hh_rvWo hh_rvWz hh_rvY5 hh_rvYe hh_rvYk hh_rvYq hh_rvYr1 hh_rvYr2⟩ (fun G h => by cases h)) (fun G h => by cases h) fa_tb hJ hS hD2 ao_MMhelpC1 ac_MMhelpC1 (List.mem_of_getElem? (i := 0) rfl)
end FA
end
